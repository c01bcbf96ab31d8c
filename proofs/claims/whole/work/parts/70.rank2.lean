/-! the lesson at a place: the reference -/
def ahC (LL : Nat → List Nd) (l k : Nat) : Prop := k ≠ l ∧ ((LL l).length < (LL k).length ∨ ((LL k).length = (LL l).length ∧ k < l))
def ahd (LL : Nat → List Nd) (l : Nat) : Nat → Nat
  | 0 => 0
  | k + 1 => ahd LL l k + (if k ≠ l ∧ ((LL l).length < (LL k).length ∨ ((LL k).length = (LL l).length ∧ k < l)) then 1 else 0)
theorem ahd_le {LL : Nat → List Nd} {l : Nat} : ∀ k, ahd LL l k ≤ k
  | 0 => Nat.le_refl _
  | k + 1 => by
    have := ahd_le (LL := LL) (l := l) k
    rw [ahd]
    by_cases g : k ≠ l ∧ ((LL l).length < (LL k).length ∨ ((LL k).length = (LL l).length ∧ k < l))
    · rw [if_pos g]; omega
    · rw [if_neg g]; omega
/-- the first lesson from l on with so many ahead of it, -1 for none -/
def rkF (LL : Nat → List Nd) (N : Nat) (p : Int) : Nat → Nat → Int
  | 0, _ => -1
  | t + 1, l => if (ahd LL l N : Int) = p then (l : Int) else rkF LL N p t (l + 1)
def RkQ (h : AH) (x : Int) (r : Int) (h1 : AH) : Prop := KP h h1 ANn FNn ∧ ((x = -1 ∧ h1.vl 42 0 = 1) ∨ (x ≠ -1 ∧ h1.vl 42 0 = 0 ∧ r = x))
set_option maxRecDepth 100000 in
theorem rank_in {h : AH} {p : Int} {l N : Nat} {LL : Nat → List Nd} {Q : AV → AH → Prop} (hI : RI h) (hN : NV h N LL) (hl : l < N) (ht : h.vl 42 0 = 0) (K : ∀ g : AH, KP h g ANn FNn → g.vl 42 0 = 0 → EV mX11_ranked 9 88 [rv 42, iv p, iv (l : Int), iv (ahd LL l N : Int), iv ((LL l).length : Int), iv (N : Int)] [] g Q) : ∀ (m o : Nat) (g : AH), o + m = N → KP h g ANn FNn → g.vl 42 0 = 0 → EV mX11_ranked 9 29 [rv 42, iv p, iv (l : Int), iv (ahd LL l o : Int), iv ((LL l).length : Int), iv (o : Int)] [] g Q := by
  have hN6 := hN.2.1
  intro m
  induction m with
  | zero =>
    intro o g ho kg tg
    have e : o = N := by omega
    subst e
    have hIg : RI g := kg.ri hI
    have v0 : g.vl 43 0 = (o : Int) := (congrFun (kg.vl (r := 43)) 0).trans hN.1
    refine ev_iload dX11_ranked_29 rfl ?_
    refine ev_aload_n dX11_ranked_31 rfl ?_
    refine ev_getrv dX11_ranked_32 fX11_13 hIg.o hIg.n rfl hIg.v_v ?_
    refine ev_iconst dX11_ranked_35 ?_
    refine ev_ildv dX11_ranked_36 hIg.k_v hIg.n_v rfl (by omega) (by omega) v0 ?_
    refine ev_icmpge 88 dX11_ranked_37 (fun hb => ?_) (fun h_no => (by exfalso; omega))
    exact K g kg tg
  | succ m ih =>
    intro o g ho kg tg
    have hIg : RI g := kg.ri hI
    have hNg := hN.kp kg
    have v0 : g.vl 43 0 = (N : Int) := hNg.1
    have ab := ahd_le (LL := LL) (l := l) o
    have nx : ∀ (g2 : AH) (b : Int), KP h g2 ANn FNn → g2.vl 42 0 = 0 → b = (if o ≠ l ∧ ((LL l).length < (LL o).length ∨ ((LL o).length = (LL l).length ∧ o < l)) then 1 else 0) → EV mX11_ranked 9 80 [rv 42, iv p, iv (l : Int), iv (ahd LL l o : Int), iv ((LL l).length : Int), iv (o : Int)] [iv b, iv (ahd LL l o : Int)] g2 Q := by
      intro g2 b k2 t2 hb
      have hb1 : 0 ≤ b ∧ b ≤ 1 := by
        rw [hb]
        by_cases z : o ≠ l ∧ ((LL l).length < (LL o).length ∨ ((LL o).length = (LL l).length ∧ o < l))
        · rw [if_pos z]; decide
        · rw [if_neg z]; decide
      have e9 : (ahd LL l o : Int) + b = (ahd LL l (o + 1) : Int) := by
        rw [ahd, hb]
        by_cases z : o ≠ l ∧ ((LL l).length < (LL o).length ∨ ((LL o).length = (LL l).length ∧ o < l))
        · rw [if_pos z, if_pos z]; rfl
        · rw [if_neg z, if_neg z]; rfl
      refine ev_iadd dX11_ranked_80 (by unfold ir; omega) ?_
      refine ev_ist3 dX11_ranked_81 ?_
      refine ev_iin5 dX11_ranked_82 (by unfold ir; omega) ?_
      refine ev_gt 29 dX11_ranked_85 ?_
      rw [e9, show (o : Int) + 1 = ((o + 1 : Nat) : Int) from rfl]
      exact ih (o + 1) g2 (by omega) k2 t2
    refine ev_iload dX11_ranked_29 rfl ?_
    refine ev_aload_n dX11_ranked_31 rfl ?_
    refine ev_getrv dX11_ranked_32 fX11_13 hIg.o hIg.n rfl hIg.v_v ?_
    refine ev_iconst dX11_ranked_35 ?_
    refine ev_ildv dX11_ranked_36 hIg.k_v hIg.n_v rfl (by omega) (by omega) v0 ?_
    refine ev_icmpge 88 dX11_ranked_37 (fun h_no => (by exfalso; omega)) (fun hb => ?_)
    refine ev_iload_n dX11_ranked_40 rfl ?_
    refine ev_iload dX11_ranked_41 rfl ?_
    refine ev_iload_n dX11_ranked_43 rfl ?_
    by_cases ol : o = l
    · skip
      refine ev_icmpeq 79 dX11_ranked_44 (fun hb1 => ?_) (fun h_no => (by exfalso; omega))
      refine ev_iconst dX11_ranked_79 ?_
      exact nx g 0 kg tg (by rw [if_neg (fun z => z.1 ol)])
    · skip
      refine ev_icmpeq 79 dX11_ranked_44 (fun h_no => (by exfalso; omega)) (fun hb1 => ?_)
      refine ev_aload_n dX11_ranked_47 rfl ?_
      refine ev_iload dX11_ranked_48 rfl ?_
      refine ev_cvi dX11_ranked_50 lX11_415 (s_many hIg hNg (show o < N from by omega)) (by decide) hIg.o hIg.n rfl rfl rfl (Nat.le_of_ble_eq_true rfl) rfl (fun r g2 q => ?_)
      obtain ⟨rfl, k2⟩ := q
      have k2' : KP h g2 ANn FNn := kg.tr (k2.wk (fun _ z => z) (fun x hx => List.mem_cons_of_mem _ hx))
      have t2 : g2.vl 42 0 = 0 := (k2.fl).trans tg
      have hI2 : RI g2 := k2'.ri hI
      refine ev_iload dX11_ranked_53 rfl ?_
      by_cases c1 : (LL l).length < (LL o).length
      · skip
        refine ev_icmpgt 75 dX11_ranked_55 (fun hb2 => ?_) (fun h_no => (by exfalso; omega))
        refine ev_iconst dX11_ranked_75 ?_
        refine ev_gt 80 dX11_ranked_76 ?_
        exact nx g2 1 k2' t2 (by rw [if_pos ⟨ol, Or.inl c1⟩])
      · skip
        refine ev_icmpgt 75 dX11_ranked_55 (fun h_no => (by exfalso; omega)) (fun hb2 => ?_)
        refine ev_aload_n dX11_ranked_58 rfl ?_
        refine ev_iload dX11_ranked_59 rfl ?_
        refine ev_cvi dX11_ranked_61 lX11_415 (s_many hI2 (hN.kp k2') (show o < N from by omega)) (by decide) hI2.o hI2.n rfl rfl rfl (Nat.le_of_ble_eq_true rfl) rfl (fun r g3 q => ?_)
        obtain ⟨rfl, k3⟩ := q
        have k3' : KP h g3 ANn FNn := k2'.tr (k3.wk (fun _ z => z) (fun x hx => List.mem_cons_of_mem _ hx))
        have t3 : g3.vl 42 0 = 0 := (k3.fl).trans t2
        have hI3 : RI g3 := k3'.ri hI
        refine ev_iload dX11_ranked_64 rfl ?_
        by_cases c2 : (LL o).length = (LL l).length
        · skip
          refine ev_icmpne 79 dX11_ranked_66 (fun h_no => (by exfalso; omega)) (fun hb3 => ?_)
          refine ev_iload dX11_ranked_69 rfl ?_
          refine ev_iload_n dX11_ranked_71 rfl ?_
          by_cases c3 : o < l
          · skip
            refine ev_icmpge 79 dX11_ranked_72 (fun h_no => (by exfalso; omega)) (fun hb4 => ?_)
            refine ev_iconst dX11_ranked_75 ?_
            refine ev_gt 80 dX11_ranked_76 ?_
            exact nx g3 1 k3' t3 (by rw [if_pos ⟨ol, Or.inr ⟨c2, c3⟩⟩])
          · skip
            refine ev_icmpge 79 dX11_ranked_72 (fun hb4 => ?_) (fun h_no => (by exfalso; omega))
            refine ev_iconst dX11_ranked_79 ?_
            exact nx g3 0 k3' t3 (by rw [if_neg (fun z => z.2.elim c1 (fun z => c3 z.2))])
        · skip
          refine ev_icmpne 79 dX11_ranked_66 (fun hb3 => ?_) (fun h_no => (by exfalso; omega))
          refine ev_iconst dX11_ranked_79 ?_
          exact nx g3 0 k3' t3 (by rw [if_neg (fun z => z.2.elim c1 (fun z => c2 z.1))])
set_option maxRecDepth 100000 in
theorem rank_out {h : AH} {p : Int} {N : Nat} {LL : Nat → List Nd} (hI : RI h) (hN : NV h N LL) : ∀ (t l : Nat) (g : AH) (v3 v4 v5 : AV), l + t = N → KP h g ANn FNn → g.vl 42 0 = 0 → EV mX11_ranked 9 7 [rv 42, iv p, iv (l : Int), v3, v4, v5] [] g (oi (RkQ h (rkF LL N p t l))) := by
  have hN6 := hN.2.1
  intro t
  induction t with
  | zero =>
    intro l g v3 v4 v5 hl kg tg
    have hIg : RI g := kg.ri hI
    have v0 : g.vl 43 0 = (N : Int) := (hN.kp kg).1
    refine ev_iload_n dX11_ranked_7 rfl ?_
    refine ev_aload_n dX11_ranked_8 rfl ?_
    refine ev_getrv dX11_ranked_9 fX11_13 hIg.o hIg.n rfl hIg.v_v ?_
    refine ev_iconst dX11_ranked_12 ?_
    refine ev_ildv dX11_ranked_13 hIg.k_v hIg.n_v rfl (by omega) (by omega) v0 ?_
    refine ev_icmpge 101 dX11_ranked_14 (fun hb => ?_) (fun h_no => (by exfalso; omega))
    refine ev_aload_n dX11_ranked_101 rfl ?_
    refine ev_iconst dX11_ranked_102 ?_
    refine ev_cvi dX11_ranked_103 lX11_344 (s_no hIg) (by decide) hIg.o hIg.n rfl rfl rfl (Nat.le_of_ble_eq_true rfl) rfl (fun r g2 q => ?_)
    obtain ⟨rfl, rfl⟩ := q
    exact ev_iret dX11_ranked_106 (⟨_, rfl, kg.pf (by decide), Or.inl ⟨rfl, rfl⟩⟩)
  | succ t ih =>
    intro l g v3 v4 v5 hl kg tg
    have hIg : RI g := kg.ri hI
    have hNg := hN.kp kg
    have v0 : g.vl 43 0 = (N : Int) := hNg.1
    refine ev_iload_n dX11_ranked_7 rfl ?_
    refine ev_aload_n dX11_ranked_8 rfl ?_
    refine ev_getrv dX11_ranked_9 fX11_13 hIg.o hIg.n rfl hIg.v_v ?_
    refine ev_iconst dX11_ranked_12 ?_
    refine ev_ildv dX11_ranked_13 hIg.k_v hIg.n_v rfl (by omega) (by omega) v0 ?_
    refine ev_icmpge 101 dX11_ranked_14 (fun h_no => (by exfalso; omega)) (fun hb => ?_)
    refine ev_iconst dX11_ranked_17 ?_
    refine ev_ist3 dX11_ranked_18 ?_
    refine ev_aload_n dX11_ranked_19 rfl ?_
    refine ev_iload_n dX11_ranked_20 rfl ?_
    refine ev_cvi dX11_ranked_21 lX11_415 (s_many hIg hNg (show l < N from by omega)) (by decide) hIg.o hIg.n rfl rfl rfl (Nat.le_of_ble_eq_true rfl) rfl (fun r g2 q => ?_)
    obtain ⟨rfl, k2⟩ := q
    have k2' : KP h g2 ANn FNn := kg.tr (k2.wk (fun _ z => z) (fun x hx => List.mem_cons_of_mem _ hx))
    have t2 : g2.vl 42 0 = 0 := (k2.fl).trans tg
    have hI2 : RI g2 := k2'.ri hI
    refine ev_ist4 dX11_ranked_24 ?_
    refine ev_iconst dX11_ranked_26 ?_
    refine ev_ist5 dX11_ranked_27 ?_
    refine rank_in (p := p) (l := l) (N := N) (LL := LL) hI2 (hN.kp k2') (by omega) t2 (fun g4 k4 t4 => ?_) N 0 g2 (by omega) KP.rf t2
    have hI4 : RI g4 := k4.ri hI2
    have k4' := k2'.tr k4
    refine ev_iload_n dX11_ranked_88 rfl ?_
    refine ev_iload_n dX11_ranked_89 rfl ?_
    rw [rkF]
    by_cases hp : (ahd LL l N : Int) = p
    · skip
      rw [if_pos hp]
      refine ev_icmpne 95 dX11_ranked_90 (fun h_no => (by exfalso; omega)) (fun hb7 => ?_)
      refine ev_iload_n dX11_ranked_93 rfl ?_
      exact ev_iret dX11_ranked_94 (⟨_, rfl, k4', Or.inr ⟨by omega, t4, rfl⟩⟩)
    · skip
      rw [if_neg hp]
      refine ev_icmpne 95 dX11_ranked_90 (fun hb7 => ?_) (fun h_no => (by exfalso; omega))
      refine ev_iin2 dX11_ranked_95 (by unfold ir; omega) ?_
      refine ev_gt 7 dX11_ranked_98 ?_
      rw [show (l : Int) + 1 = ((l + 1 : Nat) : Int) from rfl]
      exact ih (l + 1) g4 _ _ _ (by omega) k4' t4
set_option maxRecDepth 100000 in
theorem r_ranked {p : Int} {N : Nat} {LL : Nat → List Nd} {h : AH} (hI : RI h) (hN : NV h N LL) : CV mX11_ranked 9 [rv 42, iv p] h (oi (RkQ h (rkF LL N p N 0))) := by
  refine cv_of cdX11_ranked ?_
  show EV _ _ 0 [rv 42, iv p, uv, uv, uv, uv] [] h _
  refine ev_aload_n dX11_ranked_0 rfl ?_
  refine ev_iconst dX11_ranked_1 ?_
  refine ev_pt dX11_ranked_2 fX11_161 hI.o hI.n rfl ?_
  refine ev_iconst dX11_ranked_5 ?_
  refine ev_ist2 dX11_ranked_6 ?_
  have k0 : KP h (h.put 42 0 0) ANn FNn := KP.rf.pf (by decide)
  exact rank_out hI hN N 0 _ _ _ _ (by omega) k0 rfl
