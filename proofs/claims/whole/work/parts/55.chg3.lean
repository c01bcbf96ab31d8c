/-! lessons dropped, capitals emptied: the reference -/
def drV (v : Nat → Int) (l N : Nat) : Nat → Int := fun k => if k = 0 then (N : Int) - 1 else if 3 + 61 * l ≤ k ∧ k < 308 then v (k + 61) else if 308 ≤ k ∧ k < 369 then 0 else v k
set_option maxRecDepth 100000 in
theorem drops_2 {h0 : AH} {l : Nat} {p : Int} {Q : AV → AH → Prop} (hI0 : RI h0) (hl : l < 6) (K : ∀ g : AH, KP h0 g [43] [] → (∀ k, g.vl 43 k = if 3 + 61 * l ≤ k ∧ k < 308 then h0.vl 43 (k + 61) else if 308 ≤ k ∧ k < 369 then 0 else h0.vl 43 k) → ∀ i : Int, EV mX11_drops 8 79 [rv 42, iv p, iv i] [] g Q) : ∀ (m i : Nat) (g : AH), i + m = 369 → 308 ≤ i → KP h0 g [43] [] → (∀ k, g.vl 43 k = if 3 + 61 * l ≤ k ∧ k < 308 then h0.vl 43 (k + 61) else if 308 ≤ k ∧ k < i then 0 else h0.vl 43 k) → EV mX11_drops 8 59 [rv 42, iv p, iv (i : Int)] [] g Q := by
  intro m
  induction m with
  | zero =>
    intro i g hi h3 hk h1
    have e : i = 369 := by omega
    subst e
    have hI : RI g := hk.ri hI0
    refine ev_iload_n dX11_drops_59 rfl ?_
    refine ev_sipush dX11_drops_60 ?_
    refine ev_icmpge 79 dX11_drops_63 (fun hc => ?_) (fun h_no => (by exfalso; omega))
    exact K g hk h1 _
  | succ m ih =>
    intro i g hi h3 hk h1
    have hI : RI g := hk.ri hI0
    refine ev_iload_n dX11_drops_59 rfl ?_
    refine ev_sipush dX11_drops_60 ?_
    refine ev_icmpge 79 dX11_drops_63 (fun h_no => (by exfalso; omega)) (fun hc => ?_)
    refine ev_aload_n dX11_drops_66 rfl ?_
    refine ev_getrv dX11_drops_67 fX11_13 hI.o hI.n rfl hI.v_v ?_
    refine ev_iload_n dX11_drops_70 rfl ?_
    refine ev_iconst dX11_drops_71 ?_
    refine ev_istr dX11_drops_72 hI.k_v hI.n_v rfl (by omega) (by omega) ?_
    refine ev_iin2 dX11_drops_73 (by unfold ir; omega) ?_
    refine ev_gt 59 dX11_drops_76 ?_
    rw [show (i : Int) + 1 = ((i + 1 : Nat) : Int) from rfl]
    refine ih (i + 1) _ (by omega) (by omega) (hk.pr (by decide) (by decide)) (fun k => ?_)
    rw [show ((i : Nat) : Int).toNat = i from rfl, AH.put_vl, h1 k]
    by_cases e : k = i
    · rw [if_pos ⟨rfl, e⟩, if_neg (by omega), if_pos (by omega)]
    · rw [if_neg (fun z => e z.2)]
      by_cases e2 : 3 + 61 * l ≤ k ∧ k < 308
      · rw [if_pos e2, if_pos e2]
      · rw [if_neg e2, if_neg e2]
        by_cases e3 : 308 ≤ k ∧ k < i
        · rw [if_pos e3, if_pos (by omega)]
        · rw [if_neg e3, if_neg (by omega)]
set_option maxRecDepth 100000 in
theorem drops_1 {h0 : AH} {l : Nat} {p : Int} {Q : AV → AH → Prop} (hI0 : RI h0) (hl : l < 6) (K : ∀ g : AH, KP h0 g [43] [] → (∀ k, g.vl 43 k = if 3 + 61 * l ≤ k ∧ k < 308 then h0.vl 43 (k + 61) else h0.vl 43 k) → ∀ i : Int, EV mX11_drops 8 54 [rv 42, iv p, iv i] [] g Q) : ∀ (m i : Nat) (g : AH), i + m = 308 → 3 + 61 * l ≤ i → KP h0 g [43] [] → (∀ k, g.vl 43 k = if 3 + 61 * l ≤ k ∧ k < i then h0.vl 43 (k + 61) else h0.vl 43 k) → EV mX11_drops 8 25 [rv 42, iv p, iv (i : Int)] [] g Q := by
  intro m
  induction m with
  | zero =>
    intro i g hi h3 hk h1
    have e : i = 308 := by omega
    subst e
    have hI : RI g := hk.ri hI0
    refine ev_iload_n dX11_drops_25 rfl ?_
    refine ev_iconst dX11_drops_26 ?_
    refine ev_csi dX11_drops_27 lX11_206 (s_lessonAt (by decide) (by decide)) (by decide) rfl rfl (Nat.le_of_ble_eq_true rfl) rfl (fun r z1 q => ?_)
    obtain ⟨rfl, e⟩ := q
    rw [e]
    refine ev_icmpge 54 dX11_drops_30 (fun hc => ?_) (fun h_no => (by exfalso; exact h_no (by decide)))
    exact K g hk h1 _
  | succ m ih =>
    intro i g hi h3 hk h1
    have hI : RI g := hk.ri hI0
    refine ev_iload_n dX11_drops_25 rfl ?_
    refine ev_iconst dX11_drops_26 ?_
    refine ev_csi dX11_drops_27 lX11_206 (s_lessonAt (by decide) (by decide)) (by decide) rfl rfl (Nat.le_of_ble_eq_true rfl) rfl (fun r z1 q => ?_)
    obtain ⟨rfl, e⟩ := q
    rw [e]
    refine ev_icmpge 54 dX11_drops_30 (fun h_no => (by exfalso; omega)) (fun hc => ?_)
    refine ev_aload_n dX11_drops_33 rfl ?_
    refine ev_getrv dX11_drops_34 fX11_13 hI.o hI.n rfl hI.v_v ?_
    refine ev_iload_n dX11_drops_37 rfl ?_
    refine ev_aload_n dX11_drops_38 rfl ?_
    refine ev_getrv dX11_drops_39 fX11_13 hI.o hI.n rfl hI.v_v ?_
    refine ev_iload_n dX11_drops_42 rfl ?_
    refine ev_bipush dX11_drops_43 ?_
    refine ev_iadd dX11_drops_45 (by unfold ir; omega) ?_
    rw [show (i : Int) + 61 = ((i + 61 : Nat) : Int) from rfl]
    obtain ⟨e2, he2⟩ : ∃ e2, e2 = i + 61 := ⟨_, rfl⟩
    rw [← he2]
    refine ev_ildv dX11_drops_46 hI.k_v hI.n_v rfl (by omega) (by omega) (show _ = g.vl 43 e2 from rfl) ?_
    refine ev_istr dX11_drops_47 hI.k_v hI.n_v rfl (by omega) (by omega) ?_
    refine ev_iin2 dX11_drops_48 (by unfold ir; omega) ?_
    refine ev_gt 25 dX11_drops_51 ?_
    rw [show (i : Int) + 1 = ((i + 1 : Nat) : Int) from rfl]
    refine ih (i + 1) _ (by omega) (by omega) (hk.pr (by decide) (by decide)) (fun k => ?_)
    rw [show ((i : Nat) : Int).toNat = i from rfl, AH.put_vl]
    by_cases e3 : k = i
    · rw [if_pos ⟨rfl, e3⟩, if_pos (by omega), h1 e2, if_neg (by omega), he2, e3]
    · rw [if_neg (fun z => e3 z.2), h1 k]
      by_cases e4 : 3 + 61 * l ≤ k ∧ k < i
      · rw [if_pos e4, if_pos (by omega)]
      · rw [if_neg e4, if_neg (by omega)]
set_option maxRecDepth 100000 in
theorem s_drops {p : Int} {N : Nat} {LL : Nat → List Nd} {h : AH} (hI : RI h) (hN : NV h N LL) : CV mX11_drops 8 [rv 42, iv p] h (oi fun r h1 => (¬ (0 ≤ p ∧ p < (N : Int)) ∧ r = 0 ∧ h1 = ((h.put 42 69 1).put 42 7 2).put 42 8 p) ∨ ((0 ≤ p ∧ p < (N : Int)) ∧ r = ((LL p.toNat).length : Int) ∧ KP h h1 (43 :: ANn) [34, 35, 36] ∧ h1.vl 43 = drV (h.vl 43) p.toNat N)) := by
  refine cv_of cdX11_drops ?_
  show EV _ _ 0 [rv 42, iv p, uv] [] h _
  by_cases hp : 0 ≤ p ∧ p < (N : Int)
  · skip
    obtain ⟨l, rfl⟩ : ∃ l : Nat, p = (l : Int) := ⟨p.toNat, by omega⟩
    have hN6 := hN.2.1
    have hl6 : l < 6 := by omega
    refine ev_aload_n dX11_drops_0 rfl ?_
    refine ev_iload_n dX11_drops_1 rfl ?_
    refine ev_cvi dX11_drops_2 lX11_361 (i_les1 hI hN hp) (by decide) hI.o hI.n rfl rfl rfl (Nat.le_of_ble_eq_true rfl) rfl (fun r z1 q => ?_)
    obtain ⟨rfl, e⟩ := q
    rw [e]
    refine ev_ifne 15 dX11_drops_5 (fun hbr => ?_) (fun h_no => (by exfalso; omega))
    refine ev_aload_n dX11_drops_15 rfl ?_
    refine ev_iload_n dX11_drops_16 rfl ?_
    refine ev_cvv dX11_drops_17 lX11_315 (s_nodesOf hI hl6 (hN.2.2 l (by omega))) (by decide) hI.o hI.n rfl rfl rfl (Nat.le_of_ble_eq_true rfl) rfl (fun h1 q => ?_)
    obtain ⟨k1, t1⟩ := q
    have hI1 : RI h1 := k1.ri hI
    refine ev_iload_n dX11_drops_20 rfl ?_
    refine ev_csi dX11_drops_21 lX11_206 (s_lessonAt (by omega) (by omega)) (by decide) rfl rfl (Nat.le_of_ble_eq_true rfl) rfl (fun r z2 q => ?_)
    obtain ⟨rfl, e⟩ := q
    rw [e]
    refine ev_ist2 dX11_drops_24 ?_
    rw [show (3 : Int) + 61 * (l : Int) = ((3 + 61 * l : Nat) : Int) from by omega]
    refine drops_1 hI1 hl6 (fun g2 k2 e2 i2 => ?_) (305 - 61 * l) (3 + 61 * l) h1 (by omega) (Nat.le_refl _) KP.rf (fun k => by rw [if_neg (by omega)])
    have hI2 : RI g2 := k2.ri hI1
    refine ev_iconst dX11_drops_54 ?_
    refine ev_csi dX11_drops_55 lX11_206 (s_lessonAt (by decide) (by decide)) (by decide) rfl rfl (Nat.le_of_ble_eq_true rfl) rfl (fun r z3 q => ?_)
    obtain ⟨rfl, e⟩ := q
    rw [e]
    refine ev_ist2 dX11_drops_58 ?_
    refine drops_2 (h0 := h1) hI1 hl6 (fun g3 k3 e3 i3 => ?_) 61 308 g2 (by omega) (Nat.le_refl _) k2 (fun k => ?_)
    · have hI3 : RI g3 := k3.ri hI1
      have hv0 : g3.vl 43 0 = (N : Int) := by
        rw [e3 0, if_neg (by omega), if_neg (by omega)]
        exact (congrFun (k1.vl (r := 43)) 0).trans hN.1
      have hn3 : g3.vl 42 36 = ((LL l).length : Int) := (k3.fl).trans t1.2.1
      refine ev_aload_n dX11_drops_79 rfl ?_
      refine ev_getrv dX11_drops_80 fX11_13 hI3.o hI3.n rfl hI3.v_v ?_
      refine ev_iconst dX11_drops_83 ?_
      refine ev_dup2 dX11_drops_84 ?_
      refine ev_ildv dX11_drops_85 hI3.k_v hI3.n_v rfl (by omega) (by omega) hv0 ?_
      refine ev_iconst dX11_drops_86 ?_
      refine ev_isub dX11_drops_87 (by unfold ir; omega) ?_
      refine ev_istr dX11_drops_88 hI3.k_v hI3.n_v rfl (by omega) (by omega) ?_
      refine ev_aload_n dX11_drops_89 rfl ?_
      refine ev_getiv dX11_drops_90 fX11_203 hI3.o hI3.n rfl hn3 ?_
      refine ev_iret dX11_drops_93 (⟨_, rfl, Or.inr ⟨hp, rfl, (k1.wk (fun x hx => List.mem_cons_of_mem _ hx) (fun _ z => z)).tr ((k3.pr (by decide) (by decide)).wk (by decide) (by decide)), funext fun k => ?_⟩⟩)
      show (if (43 : Nat) = 43 ∧ k = 0 then (N : Int) - 1 else g3.vl 43 k) = drV (h.vl 43) l N k
      unfold drV
      by_cases e0 : k = 0
      · rw [if_pos ⟨rfl, e0⟩, if_pos e0]
      · rw [if_neg (fun z => e0 z.2), if_neg e0, e3 k, k1.vl (r := 43)]
    · rw [e2 k]
      by_cases e4 : 3 + 61 * l ≤ k ∧ k < 308
      · rw [if_pos e4, if_pos e4]
      · rw [if_neg e4, if_neg e4, if_neg (by omega)]
  · skip
    refine ev_aload_n dX11_drops_0 rfl ?_
    refine ev_iload_n dX11_drops_1 rfl ?_
    refine ev_cvi dX11_drops_2 lX11_361 (i_les0 hI hN hp) (by decide) hI.o hI.n rfl rfl rfl (Nat.le_of_ble_eq_true rfl) rfl (fun r z1 q => ?_)
    obtain ⟨rfl, e⟩ := q
    rw [e]
    refine ev_ifne 15 dX11_drops_5 (fun h_no => (by exfalso; omega)) (fun hbr => ?_)
    refine ev_aload_n dX11_drops_8 rfl ?_
    refine ev_iconst dX11_drops_9 ?_
    refine ev_iload_n dX11_drops_10 rfl ?_
    refine ev_cvi dX11_drops_11 lX11_356 (s_refuses hI) (by decide) hI.o hI.n rfl rfl rfl (Nat.le_of_ble_eq_true rfl) rfl (fun r h1 q => ?_)
    obtain ⟨rfl, rfl⟩ := q
    exact ev_iret dX11_drops_14 (⟨_, rfl, Or.inl ⟨hp, rfl, rfl⟩⟩)
def ukV (v : Nat → Int) (c : Nat) : Nat → Int := fun k => if 369 + 25 * c ≤ k ∧ k < 394 + 25 * c then 0 else v k
set_option maxRecDepth 100000 in
theorem unkeeps_1 {h0 : AH} {c : Nat} {x : Int} {Q : AV → AH → Prop} (hI0 : RI h0) (hc8 : c < 8) (K : ∀ g : AH, KP h0 g [43] [] → g.vl 43 = ukV (h0.vl 43) c → ∀ i : Int, EV mX11_unkeeps 3 66 [rv 42, iv (c : Int), iv x, iv i] [] g Q) : ∀ (m i : Nat) (g : AH), i + m = 25 → KP h0 g [43] [] → (∀ k, g.vl 43 k = if 369 + 25 * c ≤ k ∧ k < 369 + 25 * c + i then 0 else h0.vl 43 k) → EV mX11_unkeeps 3 42 [rv 42, iv (c : Int), iv x, iv (i : Int)] [] g Q := by
  intro m
  induction m with
  | zero =>
    intro i g hi hk h1
    have e : i = 25 := by omega
    subst e
    have hI : RI g := hk.ri hI0
    refine ev_iload_n dX11_unkeeps_42 rfl ?_
    refine ev_bipush dX11_unkeeps_43 ?_
    refine ev_icmpge 66 dX11_unkeeps_45 (fun hc => ?_) (fun h_no => (by exfalso; omega))
    exact K g hk (funext fun k => (h1 k).trans (by unfold ukV; rw [show 369 + 25 * c + 25 = 394 + 25 * c from by omega])) _
  | succ m ih =>
    intro i g hi hk h1
    have hI : RI g := hk.ri hI0
    refine ev_iload_n dX11_unkeeps_42 rfl ?_
    refine ev_bipush dX11_unkeeps_43 ?_
    refine ev_icmpge 66 dX11_unkeeps_45 (fun h_no => (by exfalso; omega)) (fun hc => ?_)
    refine ev_aload_n dX11_unkeeps_48 rfl ?_
    refine ev_getrv dX11_unkeeps_49 fX11_13 hI.o hI.n rfl hI.v_v ?_
    refine ev_iload_n dX11_unkeeps_52 rfl ?_
    refine ev_csi dX11_unkeeps_53 lX11_278 (s_keptAt (by omega) (by omega)) (by decide) rfl rfl (Nat.le_of_ble_eq_true rfl) rfl (fun r z1 q => ?_)
    obtain ⟨rfl, e⟩ := q
    rw [e]
    refine ev_iload_n dX11_unkeeps_56 rfl ?_
    refine ev_iadd dX11_unkeeps_57 (by unfold ir; omega) ?_
    rw [show (369 : Int) + 25 * (c : Int) + (i : Int) = ((369 + 25 * c + i : Nat) : Int) from by omega]
    refine ev_iconst dX11_unkeeps_58 ?_
    refine ev_istr dX11_unkeeps_59 hI.k_v hI.n_v rfl (by omega) (by omega) ?_
    refine ev_iin3 dX11_unkeeps_60 (by unfold ir; omega) ?_
    refine ev_gt 42 dX11_unkeeps_63 ?_
    rw [show (i : Int) + 1 = ((i + 1 : Nat) : Int) from rfl]
    refine ih (i + 1) _ (by omega) (hk.pr (by decide) (by decide)) (fun k => ?_)
    rw [show ((369 + 25 * c + i : Nat) : Int).toNat = 369 + 25 * c + i from rfl, AH.put_vl, h1 k]
    by_cases e3 : k = 369 + 25 * c + i
    · rw [if_pos ⟨rfl, e3⟩, if_pos (by omega)]
    · rw [if_neg (fun z => e3 z.2)]
      by_cases e4 : 369 + 25 * c ≤ k ∧ k < 369 + 25 * c + i
      · rw [if_pos e4, if_pos (by omega)]
      · rw [if_neg e4, if_neg (by omega)]
set_option maxRecDepth 100000 in
theorem s_unkeeps {p : Int} {h : AH} (hI : RI h) : CV mX11_unkeeps 3 [rv 42, iv p] h (oi fun r h1 => (¬ (0 ≤ p ∧ p ≤ 7) ∧ r = 0 ∧ h1 = ((h.put 42 69 1).put 42 7 8).put 42 8 p) ∨ ((0 ≤ p ∧ p ≤ 7) ∧ h.vl 43 (369 + 25 * p.toNat) = 0 ∧ r = 0 ∧ h1 = ((h.put 42 69 1).put 42 7 6).put 42 8 p) ∨ ((0 ≤ p ∧ p ≤ 7) ∧ h.vl 43 (369 + 25 * p.toNat) ≠ 0 ∧ r = h.vl 43 (369 + 25 * p.toNat) ∧ KP h h1 [43] [] ∧ h1.vl 43 = ukV (h.vl 43) p.toNat)) := by
  refine cv_of cdX11_unkeeps ?_
  show EV _ _ 0 [rv 42, iv p, uv, uv] [] h _
  refine ev_iload_n dX11_unkeeps_0 rfl ?_
  refine ev_iconst dX11_unkeeps_1 ?_
  refine ev_bipush dX11_unkeeps_2 ?_
  by_cases hp : 0 ≤ p ∧ p ≤ 7
  · skip
    refine ev_csi dX11_unkeeps_4 lX11_164 (f_isIn1 hp) (by decide) rfl rfl (Nat.le_of_ble_eq_true rfl) rfl (fun r z1 q => ?_)
    obtain ⟨rfl, e⟩ := q
    rw [e]
    refine ev_ifne 18 dX11_unkeeps_7 (fun hbr => ?_) (fun h_no => (by exfalso; omega))
    refine ev_aload_n dX11_unkeeps_18 rfl ?_
    refine ev_getrv dX11_unkeeps_19 fX11_13 hI.o hI.n rfl hI.v_v ?_
    refine ev_iload_n dX11_unkeeps_22 rfl ?_
    obtain ⟨c, rfl⟩ : ∃ c : Nat, p = (c : Int) := ⟨p.toNat, by omega⟩
    refine ev_csi dX11_unkeeps_23 lX11_278 (s_keptAt (by omega) (by omega)) (by decide) rfl rfl (Nat.le_of_ble_eq_true rfl) rfl (fun r z1 q => ?_)
    obtain ⟨rfl, e⟩ := q
    rw [e]
    rw [show (369 : Int) + 25 * (c : Int) = ((369 + 25 * c : Nat) : Int) from by omega]
    obtain ⟨e2, he2⟩ : ∃ e2, e2 = 369 + 25 * c := ⟨_, rfl⟩
    rw [← he2]
    refine ev_ildv dX11_unkeeps_26 hI.k_v hI.n_v rfl (by omega) (by omega) (show _ = h.vl 43 e2 from rfl) ?_
    refine ev_ist2 dX11_unkeeps_27 ?_
    refine ev_iload_n dX11_unkeeps_28 rfl ?_
    by_cases hz : h.vl 43 e2 = 0
    · skip
      refine ev_ifne 40 dX11_unkeeps_29 (fun h_no => (by exfalso; exact h_no hz)) (fun hc => ?_)
      refine ev_aload_n dX11_unkeeps_32 rfl ?_
      refine ev_bipush dX11_unkeeps_33 ?_
      refine ev_iload_n dX11_unkeeps_35 rfl ?_
      refine ev_cvi dX11_unkeeps_36 lX11_356 (s_refuses hI) (by decide) hI.o hI.n rfl rfl rfl (Nat.le_of_ble_eq_true rfl) rfl (fun r h1 q => ?_)
      obtain ⟨rfl, rfl⟩ := q
      exact ev_iret dX11_unkeeps_39 (⟨_, rfl, Or.inr (Or.inl ⟨hp, by rw [← hz, he2]; rfl, rfl, rfl⟩)⟩)
    · skip
      refine ev_ifne 40 dX11_unkeeps_29 (fun hc => ?_) (fun h_no => (by exfalso; exact hz h_no))
      refine ev_iconst dX11_unkeeps_40 ?_
      refine ev_ist3 dX11_unkeeps_41 ?_
      refine unkeeps_1 hI (by omega) (fun g kg e3 i => ?_) 25 0 h (by omega) KP.rf (fun k => by rw [if_neg (by omega)])
      refine ev_iload_n dX11_unkeeps_66 rfl ?_
      exact ev_iret dX11_unkeeps_67 (⟨_, rfl, Or.inr (Or.inr ⟨hp, by rw [show ((c : Nat) : Int).toNat = c from rfl, ← he2]; exact hz, by rw [he2]; rfl, kg, e3⟩)⟩)
  · skip
    refine ev_csi dX11_unkeeps_4 lX11_164 (f_isIn0 hp) (by decide) rfl rfl (Nat.le_of_ble_eq_true rfl) rfl (fun r z1 q => ?_)
    obtain ⟨rfl, e⟩ := q
    rw [e]
    refine ev_ifne 18 dX11_unkeeps_7 (fun h_no => (by exfalso; omega)) (fun hbr => ?_)
    refine ev_aload_n dX11_unkeeps_10 rfl ?_
    refine ev_bipush dX11_unkeeps_11 ?_
    refine ev_iload_n dX11_unkeeps_13 rfl ?_
    refine ev_cvi dX11_unkeeps_14 lX11_356 (s_refuses hI) (by decide) hI.o hI.n rfl rfl rfl (Nat.le_of_ble_eq_true rfl) rfl (fun r h1 q => ?_)
    obtain ⟨rfl, rfl⟩ := q
    exact ev_iret dX11_unkeeps_17 (⟨_, rfl, Or.inl ⟨hp, rfl, rfl⟩⟩)
