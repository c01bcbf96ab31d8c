/-! places, nodes together, capitals: the reference -/
set_option maxRecDepth 100000 in
theorem s_many {l N : Nat} {LL : Nat → List Nd} {h : AH} (hI : RI h) (hN : NV h N LL) (hl : l < N) : CV mX11_many 8 [rv 42, iv (l : Int)] h (oi fun r h1 => r = ((LL l).length : Int) ∧ KP h h1 ANn [34, 35, 36]) := by
  have hN6 := hN.2.1
  refine cv_of cdX11_many ?_
  show EV _ _ 0 [rv 42, iv (l : Int)] [] h _
  refine ev_aload_n dX11_many_0 rfl ?_
  refine ev_iload_n dX11_many_1 rfl ?_
  refine ev_cvv dX11_many_2 lX11_315 (s_nodesOf hI (by omega) (hN.2.2 l hl)) (by decide) hI.o hI.n rfl rfl rfl (Nat.le_of_ble_eq_true rfl) rfl (fun h1 q => ?_)
  obtain ⟨k1, t1⟩ := q
  have hI1 : RI h1 := k1.ri hI
  have n1 := t1.2.1
  refine ev_aload_n dX11_many_5 rfl ?_
  refine ev_getiv dX11_many_6 fX11_203 hI1.o hI1.n rfl n1 ?_
  exact ev_iret dX11_many_9 (⟨_, rfl, rfl, k1⟩)
/-- the nodes of the first k lessons together -/
def sumL (LL : Nat → List Nd) : Nat → Nat
  | 0 => 0
  | k + 1 => sumL LL k + (LL k).length
set_option maxRecDepth 100000 in
theorem s_allNodes {N : Nat} {LL : Nat → List Nd} {h : AH} (hI : RI h) (hN : NV h N LL) (hlen : ∀ l, l < N → (LL l).length ≤ 120) : CV mX11_allNodes 9 [rv 42] h (oi fun r h1 => r = (sumL LL N : Int) ∧ KP h h1 ANn [34, 35, 36]) := by
  have hN6 := hN.2.1
  have bnd : ∀ k, k ≤ N → sumL LL k ≤ 120 * k := by
    intro k
    induction k with
    | zero => intro _; exact Nat.le_refl _
    | succ k ih =>
      intro hk
      have a := ih (by omega)
      have b := hlen k (by omega)
      show sumL LL k + (LL k).length ≤ _
      omega
  have Lp : ∀ (m k : Nat) (g : AH), k + m = N → KP h g ANn [34, 35, 36] → EV mX11_allNodes 9 4 [rv 42, iv (sumL LL k : Int), iv (k : Int)] [] g (oi fun r h1 => r = (sumL LL N : Int) ∧ KP h h1 ANn [34, 35, 36]) := by
    intro m
    induction m with
    | zero =>
      intro k g hk kg
      have hIg : RI g := kg.ri hI
      have v0 : g.vl 43 0 = (N : Int) := (congrFun (kg.vl (r := 43)) 0).trans hN.1
      refine ev_iload_n dX11_allNodes_4 rfl ?_
      refine ev_aload_n dX11_allNodes_5 rfl ?_
      refine ev_getrv dX11_allNodes_6 fX11_13 hIg.o hIg.n rfl hIg.v_v ?_
      refine ev_iconst dX11_allNodes_9 ?_
      refine ev_ildv dX11_allNodes_10 hIg.k_v hIg.n_v rfl (by omega) (by omega) v0 ?_
      refine ev_icmpge 28 dX11_allNodes_11 (fun hb => ?_) (fun h_no => (by exfalso; omega))
      refine ev_iload_n dX11_allNodes_28 rfl ?_
      exact ev_iret dX11_allNodes_29 (⟨_, rfl, by rw [show k = N from by omega], kg⟩)
    | succ m ih =>
      intro k g hk kg
      have hIg : RI g := kg.ri hI
      have v0 : g.vl 43 0 = (N : Int) := (congrFun (kg.vl (r := 43)) 0).trans hN.1
      have b1 := bnd k (by omega)
      have b2 := hlen k (by omega)
      refine ev_iload_n dX11_allNodes_4 rfl ?_
      refine ev_aload_n dX11_allNodes_5 rfl ?_
      refine ev_getrv dX11_allNodes_6 fX11_13 hIg.o hIg.n rfl hIg.v_v ?_
      refine ev_iconst dX11_allNodes_9 ?_
      refine ev_ildv dX11_allNodes_10 hIg.k_v hIg.n_v rfl (by omega) (by omega) v0 ?_
      refine ev_icmpge 28 dX11_allNodes_11 (fun h_no => (by exfalso; omega)) (fun hb => ?_)
      refine ev_iload_n dX11_allNodes_14 rfl ?_
      refine ev_aload_n dX11_allNodes_15 rfl ?_
      refine ev_iload_n dX11_allNodes_16 rfl ?_
      refine ev_cvi dX11_allNodes_17 lX11_415 (s_many hIg (hN.kp kg) (show k < N from by omega)) (by decide) hIg.o hIg.n rfl rfl rfl (Nat.le_of_ble_eq_true rfl) rfl (fun r g2 q => ?_)
      obtain ⟨rfl, k2⟩ := q
      refine ev_iadd dX11_allNodes_20 (by unfold ir; omega) ?_
      refine ev_ist1 dX11_allNodes_21 ?_
      refine ev_iin2 dX11_allNodes_22 (by unfold ir; omega) ?_
      refine ev_gt 4 dX11_allNodes_25 ?_
      rw [show (k : Int) + 1 = ((k + 1 : Nat) : Int) from rfl, show (sumL LL k : Int) + ((LL k).length : Int) = (sumL LL (k + 1) : Int) from by show _ = ((sumL LL k + (LL k).length : Nat) : Int); omega]
      exact ih (k + 1) g2 (by omega) (kg.tr k2)
  refine cv_of cdX11_allNodes ?_
  show EV _ _ 0 [rv 42, uv, uv] [] h _
  refine ev_iconst dX11_allNodes_0 ?_
  refine ev_ist1 dX11_allNodes_1 ?_
  refine ev_iconst dX11_allNodes_2 ?_
  refine ev_ist2 dX11_allNodes_3 ?_
  exact Lp N 0 h (by omega) KP.rf
/-- how many capitals keep a type, of the first k -/
def kpN (v : Nat → Int) : Nat → Nat
  | 0 => 0
  | k + 1 => kpN v k + (if 0 < v (369 + 25 * k) then 1 else 0)
theorem kpN_le {v : Nat → Int} : ∀ k, kpN v k ≤ k
  | 0 => Nat.le_refl _
  | k + 1 => by
    have := kpN_le (v := v) k
    rw [kpN]
    by_cases g : 0 < v (369 + 25 * k)
    · rw [if_pos g]; omega
    · rw [if_neg g]; omega
set_option maxRecDepth 100000 in
theorem s_keptNow {h : AH} (hI : RI h) : CV mX11_keptNow 6 [rv 42] h (oi fun r h1 => r = (kpN (h.vl 43) 8 : Int) ∧ h1 = h) := by
  have Lp : ∀ (m k : Nat), k + m = 8 → EV mX11_keptNow 6 4 [rv 42, iv (kpN (h.vl 43) k : Int), iv (k : Int)] [] h (oi fun r h1 => r = (kpN (h.vl 43) 8 : Int) ∧ h1 = h) := by
    intro m
    induction m with
    | zero =>
      intro k hk
      refine ev_iload_n dX11_keptNow_4 rfl ?_
      refine ev_bipush dX11_keptNow_5 ?_
      refine ev_icmpge 36 dX11_keptNow_7 (fun hb => ?_) (fun h_no => (by exfalso; omega))
      refine ev_iload_n dX11_keptNow_36 rfl ?_
      exact ev_iret dX11_keptNow_37 (⟨_, rfl, by rw [show k = 8 from by omega], rfl⟩)
    | succ m ih =>
      intro k hk
      have b1 := kpN_le (v := h.vl 43) k
      refine ev_iload_n dX11_keptNow_4 rfl ?_
      refine ev_bipush dX11_keptNow_5 ?_
      refine ev_icmpge 36 dX11_keptNow_7 (fun h_no => (by exfalso; omega)) (fun hb => ?_)
      refine ev_iload_n dX11_keptNow_10 rfl ?_
      refine ev_aload_n dX11_keptNow_11 rfl ?_
      refine ev_getrv dX11_keptNow_12 fX11_13 hI.o hI.n rfl hI.v_v ?_
      refine ev_iload_n dX11_keptNow_15 rfl ?_
      refine ev_csi dX11_keptNow_16 lX11_278 (s_keptAt (by omega) (by omega)) (by decide) rfl rfl (Nat.le_of_ble_eq_true rfl) rfl (fun r z1 q => ?_)
      obtain ⟨rfl, e⟩ := q
      rw [e, show (369 : Int) + 25 * (k : Int) = ((369 + 25 * k : Nat) : Int) from by omega]
      refine ev_ild dX11_keptNow_19 hI.k_v hI.n_v rfl (by omega) (by omega) ?_
      by_cases hz : 0 < h.vl 43 (369 + 25 * k)
      · skip
        refine ev_ifle 27 dX11_keptNow_20 (fun h_no => (by exfalso; exact absurd (show h.vl 43 (369 + 25 * k) ≤ 0 from h_no) (by omega))) (fun hb2 => ?_)
        refine ev_iconst dX11_keptNow_23 ?_
        refine ev_gt 28 dX11_keptNow_24 ?_
        refine ev_iadd dX11_keptNow_28 (by unfold ir; omega) ?_
        refine ev_ist1 dX11_keptNow_29 ?_
        refine ev_iin2 dX11_keptNow_30 (by unfold ir; omega) ?_
        refine ev_gt 4 dX11_keptNow_33 ?_
        rw [show (k : Int) + 1 = ((k + 1 : Nat) : Int) from rfl, show (kpN (h.vl 43) k : Int) + 1 = (kpN (h.vl 43) (k + 1) : Int) from by rw [kpN, if_pos hz]; rfl]
        exact ih (k + 1) (by omega)
      · skip
        refine ev_ifle 27 dX11_keptNow_20 (fun hb2 => ?_) (fun h_no => (by exfalso; exact absurd (show ¬ h.vl 43 (369 + 25 * k) ≤ 0 from h_no) (by omega)))
        refine ev_iconst dX11_keptNow_27 ?_
        refine ev_iadd dX11_keptNow_28 (by unfold ir; omega) ?_
        refine ev_ist1 dX11_keptNow_29 ?_
        refine ev_iin2 dX11_keptNow_30 (by unfold ir; omega) ?_
        refine ev_gt 4 dX11_keptNow_33 ?_
        rw [show (k : Int) + 1 = ((k + 1 : Nat) : Int) from rfl, show (kpN (h.vl 43) k : Int) + 0 = (kpN (h.vl 43) (k + 1) : Int) from by rw [kpN, if_neg hz]; rfl]
        exact ih (k + 1) (by omega)
  refine cv_of cdX11_keptNow ?_
  show EV _ _ 0 [rv 42, uv, uv] [] h _
  refine ev_iconst dX11_keptNow_0 ?_
  refine ev_ist1 dX11_keptNow_1 ?_
  refine ev_iconst dX11_keptNow_2 ?_
  refine ev_ist2 dX11_keptNow_3 ?_
  exact Lp 8 0 (by omega)
/-- a term of n letters has at most 2 n nodes -/
theorem rdF_len {c : Nat → Int} {n : Nat} : ∀ (t : Nat) (f : Fr) (r : List Fr) (i : Nat), i ≤ n → tot (f :: r) ≤ 2 * i → (rdF c n t f r i).2.length ≤ 2 * n := by
  intro t
  induction t with
  | zero => intro f r i _ _; exact Nat.zero_le _
  | succ t ih =>
    intro f r i hi hto
    have tc := tot_cl r f
    obtain ⟨ch, hch⟩ : ∃ ch, ch = (if i < n then c i else -1) := ⟨_, rfl⟩
    have hin : ch ≠ -1 → i < n := fun z => by
      by_cases h : i < n
      · exact h
      · rw [if_neg h] at hch; exact absurd hch z
    rw [rdF, ← hch]
    by_cases c1 : f.2.2.2.2 = [] ∧ (ch = 94 ∨ ch = 33)
    · rw [if_pos c1]
      by_cases c2 : ¬ (i + 1 < n ∧ 97 ≤ c (i + 1) ∧ c (i + 1) ≤ 122)
      · rw [if_pos c2]; exact Nat.zero_le _
      · rw [if_neg c2]
        by_cases c3 : ¬ (i + 2 < n ∧ c (i + 2) = (if ch = 94 then 46 else 61))
        · rw [if_pos c3]; exact Nat.zero_le _
        · rw [if_neg c3]
          have c3' := Decidable.not_not.mp c3
          have e3 : tot ((if ch = 94 then 2 else 3, c (i + 1), (i : Int), [], []) :: f :: r) = 0 + 0 + opn (if ch = 94 then 2 else 3, c (i + 1), (i : Int), [], []) + tot (f :: r) := rfl
          have e4 : opn (if ch = 94 then 2 else 3, c (i + 1), (i : Int), [], []) ≤ 1 := by
            unfold opn
            by_cases z : (2 : Int) ≤ (if ch = 94 then 2 else 3, c (i + 1), (i : Int), ([] : List Nd), ([] : List Nd)).1
            · rw [if_pos z]; exact Nat.le_refl _
            · rw [if_neg z]; exact Nat.zero_le _
          exact ih _ _ _ (by omega) (by omega)
    · rw [if_neg c1]
      by_cases c2 : ch = 40
      · rw [if_pos c2]
        have := hin (by omega)
        have e2 : tot ((1, 0, (i : Int), [], []) :: f :: r) = 0 + tot (f :: r) := rfl
        exact ih _ _ _ (by omega) (by omega)
      · rw [if_neg c2]
        by_cases c3 : 0 ≤ lk ch
        · rw [if_pos c3]
          have := hin (fun z => by rw [z] at c3; exact absurd c3 (by decide))
          have ta := tot_ad (f := f) (r := r) (L := [(lk ch, ch, (i : Int))])
          simp only [List.length_cons, List.length_nil] at ta
          exact ih _ _ _ (by omega) (by omega)
        · rw [if_neg c3]
          by_cases c4 : f.2.2.2.2 = [] ∨ ¬ (ch = 41 ∨ ch = 59 ∨ ch = -1)
          · rw [if_pos c4]; exact Nat.zero_le _
          · rw [if_neg c4]
            have tq : tot ((clH f r).1 :: (clH f r).2) = (clH f r).1.2.2.2.2.length + (clH f r).1.2.2.2.1.length + opn (clH f r).1 + tot (clH f r).2 := rfl
            by_cases c5 : ch = -1 ∧ (clH f r).1.1 = 0
            · rw [if_pos c5]
              show (clH f r).1.2.2.2.2.length ≤ 2 * n
              omega
            · rw [if_neg c5]
              by_cases c6 : ch = 41 ∧ (clH f r).1.1 = 1
              · rw [if_pos c6]
                have := hin (by omega)
                cases hq : (clH f r).2 with
                | nil => exact Nat.zero_le _
                | cons g s =>
                  rw [hq] at tq
                  have ta := tot_ad (f := g) (r := s) (L := (clH f r).1.2.2.2.2)
                  rw [hq] at tc
                  exact ih _ _ _ (by omega) (by omega)
              · rw [if_neg c6]
                by_cases c7 : ch = 59 ∧ (clH f r).1.1 = 3
                · rw [if_pos c7]
                  have := hin (by omega)
                  have e4 : opn (clH f r).1 = 1 := by unfold opn; rw [if_pos (by omega)]
                  have e5 : tot ((4, (clH f r).1.2.1, (clH f r).1.2.2.1, (clH f r).1.2.2.2.2, []) :: (clH f r).2) = 0 + (clH f r).1.2.2.2.2.length + 1 + tot (clH f r).2 := rfl
                  exact ih _ _ _ (by omega) (by omega)
                · rw [if_neg c7]; exact Nat.zero_le _
theorem rd_len {c : Nat → Int} {n : Nat} : (rd c n).2.length ≤ 2 * n := rdF_len _ _ _ _ (Nat.zero_le _) (Nat.le_refl _)
theorem NV.len {h : AH} {N : Nat} {LL : Nat → List Nd} {l : Nat} (hN : NV h N LL) (hl : l < N) : (LL l).length ≤ 120 := by
  obtain ⟨n, a, b, c⟩ := hN.2.2 l hl
  have := rd_len (c := fun j => h.vl 43 (3 + 61 * l + 1 + j)) (n := n)
  rw [c] at this
  exact Nat.le_trans this (by omega)
