/-! the class's types: one more, what it is by now, what kind it is -/
/-- how many types there are; the four rows are of one length -/
def YB (h : AH) (K : Nat → Nat) (N : Nat) : Prop := h.vl 9 4 = (N : Int) ∧ (K 1 = K 0 ∧ K 2 = K 0 ∧ K 3 = K 0) ∧ N ≤ K 0
theorem YB.mv {h h1 : AH} {a K a1 K1 : Nat → Nat} {D F : List Nat} {N : Nat} (s : YB h K N) (c : YC h a K h1 a1 K1 D F) (eK : ∀ k, k < 4 → K1 k = K k) (hF : 4 ∉ F := by decide) : YB h1 K1 N := by
  have e0 := eK 0 (by decide)
  have e1 := eK 1 (by decide)
  have e2 := eK 2 (by decide)
  have e3 := eK 3 (by decide)
  have s2 := s.2
  exact ⟨(c.2.2.2 4 (by decide) hF).trans s.1, by omega, by omega⟩
/-- a type more: what stood there, and what it is -/
def YAd (h : AH) (a : Nat → Nat) (h1 : AH) (a1 : Nat → Nat) (N : Nat) (x y : Int) : Prop := (∀ k, k < 4 → ∀ j, j < N → h1.vl (a1 k) j = h.vl (a k) j) ∧ h1.vl (a1 0) N = x ∧ h1.vl (a1 1) N = y ∧ h1.vl (a1 2) N = -1 ∧ h1.vl (a1 3) N = 0
def YAQ (h : AH) (a K : Nat → Nat) (N : Nat) (x y : Int) (h1 : AH) : Prop := ∃ a1 K1, YC h a K h1 a1 K1 [0, 1, 2, 3] [4] ∧ YB h1 K1 (N + 1) ∧ YAd h a h1 a1 N x y ∧ ∀ k, 4 ≤ k → K1 k = K k
set_option maxRecDepth 100000 in
theorem s_addT {h : AH} {a K : Nat → Nat} {N : Nat} {x y : Int} (g : YA h a K) (s : YB h K N) (hN : N ≤ 199000) : CV mX9_add 2 [rv 9, iv x, iv y] h (oi fun r h1 => r = (N : Int) ∧ YAQ h a K N x y h1) := by
  have lk : ∀ k, k < 4 → k ∈ tks := by decide
  have p80 : ∀ (h2 : AH) (a2 K2 : Nat → Nat), YC h a K h2 a2 K2 [0, 1, 2, 3] [4] → h2.vl 9 4 = (N : Int) → (K2 1 = K2 0 ∧ K2 2 = K2 0 ∧ K2 3 = K2 0) → N < K2 0 → (∀ k, k < 4 → ∀ j, j < N → h2.vl (a2 k) j = h.vl (a k) j) → (∀ k, 4 ≤ k → K2 k = K k) → EV mX9_add 2 80 [rv 9, iv x, iv y] [] h2 (oi fun r h1 => r = (N : Int) ∧ YAQ h a K N x y h1) := by
    intro h2 a2 K2 c2 t1 t2 t3 t4 t5
    have g2 := c2.1
    have nN : ((N : Nat) : Int).toNat = N := rfl
    have v0 := g2.v 0
    have n0 := g2.n 0
    have r0 := g2.r 0
    refine ev_aload_n dX9_add_80 rfl ?_
    refine ev_getrv dX9_add_81 fX9_9 g2.1.k9 g2.1.n9 rfl v0 ?_
    refine ev_aload_n dX9_add_84 rfl ?_
    refine ev_getiv dX9_add_85 fX9_39 g2.1.k9 g2.1.n9 rfl t1 ?_
    refine ev_iload_n dX9_add_88 rfl ?_
    refine ev_csv dX9_add_89 lX9_59 (s_putJ (g2.k 0) n0 r0.2) (by decide) rfl rfl (Nat.le_of_ble_eq_true rfl) rfl (fun w1 q => ?_)
    rw [if_pos (by omega), nN] at q
    have cw1 : YC h2 a2 K2 w1 a2 K2 [0, 1, 2, 3] [4] := (by rw [q]; exact (g2.pw (by decide)).wk (by decide) (by decide))
    have gw1 := cw1.1
    have tw1 : w1.vl 9 4 = (N : Int) := ((by rw [q]; exact (put_ne _ (by have := g2.z 0; omega)) : w1.vl 9 = h2.vl 9) ▸ t1)
    have qv1 : w1.vl = (h2.put (a2 0) N x).vl := by rw [q]
    have v1 := gw1.v 1
    have n1 := gw1.n 1
    have r1 := gw1.r 1
    refine ev_aload_n dX9_add_92 rfl ?_
    refine ev_getrv dX9_add_93 fX9_15 gw1.1.k9 gw1.1.n9 rfl v1 ?_
    refine ev_aload_n dX9_add_96 rfl ?_
    refine ev_getiv dX9_add_97 fX9_39 gw1.1.k9 gw1.1.n9 rfl tw1 ?_
    refine ev_iload_n dX9_add_100 rfl ?_
    refine ev_csv dX9_add_101 lX9_59 (s_putJ (gw1.k 1) n1 r1.2) (by decide) rfl rfl (Nat.le_of_ble_eq_true rfl) rfl (fun w2 q => ?_)
    rw [if_pos (by omega), nN] at q
    have cw2 : YC h2 a2 K2 w2 a2 K2 [0, 1, 2, 3] [4] := cw1.tr (by rw [q]; exact (gw1.pw (by decide)).wk (by decide) (by decide))
    have gw2 := cw2.1
    have tw2 : w2.vl 9 4 = (N : Int) := ((by rw [q]; exact (put_ne _ (by have := gw1.z 1; omega)) : w2.vl 9 = w1.vl 9) ▸ tw1)
    have qv2 : w2.vl = (w1.put (a2 1) N y).vl := by rw [q]
    have v2 := gw2.v 2
    have n2 := gw2.n 2
    have r2 := gw2.r 2
    refine ev_aload_n dX9_add_104 rfl ?_
    refine ev_getrv dX9_add_105 fX9_18 gw2.1.k9 gw2.1.n9 rfl v2 ?_
    refine ev_aload_n dX9_add_108 rfl ?_
    refine ev_getiv dX9_add_109 fX9_39 gw2.1.k9 gw2.1.n9 rfl tw2 ?_
    refine ev_iconst dX9_add_112 ?_
    refine ev_csv dX9_add_113 lX9_59 (s_putJ (gw2.k 2) n2 r2.2) (by decide) rfl rfl (Nat.le_of_ble_eq_true rfl) rfl (fun w3 q => ?_)
    rw [if_pos (by omega), nN] at q
    have cw3 : YC h2 a2 K2 w3 a2 K2 [0, 1, 2, 3] [4] := cw2.tr (by rw [q]; exact (gw2.pw (by decide)).wk (by decide) (by decide))
    have gw3 := cw3.1
    have tw3 : w3.vl 9 4 = (N : Int) := ((by rw [q]; exact (put_ne _ (by have := gw2.z 2; omega)) : w3.vl 9 = w2.vl 9) ▸ tw2)
    have qv3 : w3.vl = (w2.put (a2 2) N (-1)).vl := by rw [q]
    have v3 := gw3.v 3
    have n3 := gw3.n 3
    have r3 := gw3.r 3
    refine ev_aload_n dX9_add_116 rfl ?_
    refine ev_getrv dX9_add_117 fX9_21 gw3.1.k9 gw3.1.n9 rfl v3 ?_
    refine ev_aload_n dX9_add_120 rfl ?_
    refine ev_getiv dX9_add_121 fX9_39 gw3.1.k9 gw3.1.n9 rfl tw3 ?_
    refine ev_iconst dX9_add_124 ?_
    refine ev_csv dX9_add_125 lX9_59 (s_putJ (gw3.k 3) n3 r3.2) (by decide) rfl rfl (Nat.le_of_ble_eq_true rfl) rfl (fun w4 q => ?_)
    rw [if_pos (by omega), nN] at q
    have cw4 : YC h2 a2 K2 w4 a2 K2 [0, 1, 2, 3] [4] := cw3.tr (by rw [q]; exact (gw3.pw (by decide)).wk (by decide) (by decide))
    have gw4 := cw4.1
    have tw4 : w4.vl 9 4 = (N : Int) := ((by rw [q]; exact (put_ne _ (by have := gw3.z 3; omega)) : w4.vl 9 = w3.vl 9) ▸ tw3)
    have qv4 : w4.vl = (w3.put (a2 3) N 0).vl := by rw [q]
    have d01 := g2.d 0 1
    have d02 := g2.d 0 2
    have d03 := g2.d 0 3
    have d12 := g2.d 1 2
    have d13 := g2.d 1 3
    have d23 := g2.d 2 3
    have ev : ∀ b j, w4.vl b j = if b = a2 3 ∧ j = N then 0 else if b = a2 2 ∧ j = N then -1 else if b = a2 1 ∧ j = N then y else if b = a2 0 ∧ j = N then x else h2.vl b j := fun b j => by
      rw [qv4, AH.put_vl, qv3, AH.put_vl, qv2, AH.put_vl, qv1, AH.put_vl]
    refine ev_aload_n dX9_add_128 rfl ?_
    refine ev_dup dX9_add_129 ?_
    refine ev_getiv dX9_add_130 fX9_39 gw4.1.k9 gw4.1.n9 rfl tw4 ?_
    refine ev_iconst dX9_add_133 ?_
    refine ev_iadd dX9_add_134 (by unfold ir; omega) ?_
    refine ev_pt dX9_add_135 fX9_39 gw4.1.k9 gw4.1.n9 rfl ?_
    obtain ⟨w5, e5⟩ : ∃ w5, w5 = w4.put 9 4 ((N : Int) + 1) := ⟨_, rfl⟩
    rw [← e5]
    have c5 : YC w4 a2 K2 w5 a2 K2 [] [4] := by rw [e5]; exact gw4.pf (by decide)
    have g5 := c5.1
    have t9 : w5.vl 9 4 = (N : Int) + 1 := by rw [e5]; rfl
    have e9 : ∀ k, k < 4 → w5.vl (a2 k) = w4.vl (a2 k) := fun k hk => (c5.rw' k (lk k hk) (by simp)).2
    refine ev_aload_n dX9_add_138 rfl ?_
    refine ev_getiv dX9_add_139 fX9_39 g5.1.k9 g5.1.n9 rfl t9 ?_
    refine ev_iconst dX9_add_142 ?_
    refine ev_isub dX9_add_143 (by unfold ir; omega) ?_
    rw [show (N : Int) + 1 - 1 = (N : Int) by omega]
    refine ev_iret dX9_add_144 (⟨_, rfl, rfl, a2, K2, (c2.tr cw4).tr (c5.wk (by decide) (by decide)), ⟨t9, t2, by omega⟩, ⟨fun k hk j hj => ?_, ?_, ?_, ?_, ?_⟩, t5⟩)
    · rw [e9 k hk, ev, if_neg (fun z => by omega), if_neg (fun z => by omega), if_neg (fun z => by omega), if_neg (fun z => by omega)]
      exact t4 k hk j hj
    · rw [e9 0 (by decide), ev, if_neg (fun z => d03 z.1), if_neg (fun z => d02 z.1), if_neg (fun z => d01 z.1), if_pos ⟨rfl, rfl⟩]
    · rw [e9 1 (by decide), ev, if_neg (fun z => d13 z.1), if_neg (fun z => d12 z.1), if_pos ⟨rfl, rfl⟩]
    · rw [e9 2 (by decide), ev, if_neg (fun z => d23 z.1), if_pos ⟨rfl, rfl⟩]
    · rw [e9 3 (by decide), ev, if_pos ⟨rfl, rfl⟩]
  obtain ⟨s1, s2, s3⟩ := s
  have k0 := g.k 0
  have n0 := g.n 0
  have v0 := g.v 0
  have r0 := g.r 0
  refine cv_of cdX9_add ?_
  show EV _ _ 0 [rv 9, iv x, iv y] [] h _
  refine ev_aload_n dX9_add_0 rfl ?_
  refine ev_getiv dX9_add_1 fX9_39 g.1.k9 g.1.n9 rfl s1 ?_
  refine ev_aload_n dX9_add_4 rfl ?_
  refine ev_getrv dX9_add_5 fX9_9 g.1.k9 g.1.n9 rfl v0 ?_
  refine ev_al dX9_add_8 k0 n0 rfl (by decide) (by omega) ?_
  by_cases c : N < K 0
  · skip
    refine ev_icmplt 80 dX9_add_9 (fun hb => ?_) (fun h_no => (by exfalso; omega))
    exact p80 h a K (YC.rf g) s1 s2 c (fun _ _ _ _ => rfl) (fun _ _ => rfl)
  have e0 : N = K 0 := by omega
  have n9 := g.1.n9
  refine ev_icmplt 80 dX9_add_9 (fun h_no => (by exfalso; omega)) (fun hb => ?_)
  have x0 := g.v 0
  have y0 := g.n 0
  have z0 := g.k 0
  have q0 : K 0 = K 0 := rfl
  refine ev_aload_n dX9_add_12 rfl ?_
  refine ev_aload_n dX9_add_13 rfl ?_
  refine ev_getrv dX9_add_14 fX9_9 g.1.k9 g.1.n9 rfl x0 ?_
  refine ev_iconst dX9_add_17 ?_
  refine ev_aload_n dX9_add_18 rfl ?_
  refine ev_getiv dX9_add_19 fX9_39 g.1.k9 g.1.n9 rfl s1 ?_
  refine ev_imul dX9_add_22 (by unfold ir; omega) ?_
  rw [show (2 : Int) * (N : Int) = ((2 * K 0 : Nat) : Int) by omega]
  refine ev_csr dX9_add_23 lX9_53 (s_copyI z0 y0 (by omega) (by omega) (by omega)) (by decide) rfl rfl (Nat.le_of_ble_eq_true rfl) rfl (fun r m1 q => ?_)
  obtain ⟨rfl, q⟩ := q
  have k9 : m1.kd 9 = (9, 15) := by
    rw [q]
    show (if (9 : Nat) = h.n then _ else h.kd 9) = _
    rw [if_neg (by have := g.1.n9; omega)]
    exact g.1.k9
  have n9' : 9 < m1.n := by rw [q]; show 9 < h.n + 1; have := g.1.n9; omega
  refine ev_pt dX9_add_26 fX9_9 k9 n9' rfl ?_
  rw [q]
  obtain ⟨cc1, dd1⟩ := g.gr (k := 0) (by decide) (by decide) (by omega)
  obtain ⟨u1, eu1⟩ : ∃ u, u = (eCpy h (a 0) 100 (K 0) (2 * K 0)).put 9 0 (h.n : Int) := ⟨_, rfl⟩
  rw [← eu1] at cc1 dd1 ⊢
  obtain ⟨A1, eA1⟩ : ∃ A, A = upN a 0 h.n := ⟨_, rfl⟩
  obtain ⟨K1, eK1⟩ : ∃ A, A = upN K 0 (2 * K 0) := ⟨_, rfl⟩
  rw [← eA1, ← eK1] at cc1
  have gu1 := cc1.1
  have tu1 : u1.vl 9 4 = (N : Int) := (cc1.fl 4).trans s1
  have x1 := gu1.v 1
  have y1 := gu1.n 1
  have z1 := gu1.k 1
  have q1 : K1 1 = K 0 := (by rw [eK1, upN_n (by decide)]; omega)
  refine ev_aload_n dX9_add_29 rfl ?_
  refine ev_aload_n dX9_add_30 rfl ?_
  refine ev_getrv dX9_add_31 fX9_15 gu1.1.k9 gu1.1.n9 rfl x1 ?_
  refine ev_iconst dX9_add_34 ?_
  refine ev_aload_n dX9_add_35 rfl ?_
  refine ev_getiv dX9_add_36 fX9_39 gu1.1.k9 gu1.1.n9 rfl tu1 ?_
  refine ev_imul dX9_add_39 (by unfold ir; omega) ?_
  rw [show (2 : Int) * (N : Int) = ((2 * K1 1 : Nat) : Int) by omega]
  refine ev_csr dX9_add_40 lX9_53 (s_copyI z1 y1 (by omega) (by omega) (by omega)) (by decide) rfl rfl (Nat.le_of_ble_eq_true rfl) rfl (fun r m2 q => ?_)
  obtain ⟨rfl, q⟩ := q
  have k9 : m2.kd 9 = (9, 15) := by
    rw [q]
    show (if (9 : Nat) = u1.n then _ else u1.kd 9) = _
    rw [if_neg (by have := gu1.1.n9; omega)]
    exact gu1.1.k9
  have n9' : 9 < m2.n := by rw [q]; show 9 < u1.n + 1; have := gu1.1.n9; omega
  refine ev_pt dX9_add_43 fX9_15 k9 n9' rfl ?_
  rw [q]
  obtain ⟨cc2, dd2⟩ := gu1.gr (k := 1) (by decide) (by decide) (by omega)
  obtain ⟨u2, eu2⟩ : ∃ u, u = (eCpy u1 (A1 1) 100 (K1 1) (2 * K1 1)).put 9 1 (u1.n : Int) := ⟨_, rfl⟩
  rw [← eu2] at cc2 dd2 ⊢
  obtain ⟨A2, eA2⟩ : ∃ A, A = upN A1 1 u1.n := ⟨_, rfl⟩
  obtain ⟨K2, eK2⟩ : ∃ A, A = upN K1 1 (2 * K1 1) := ⟨_, rfl⟩
  rw [← eA2, ← eK2] at cc2
  have gu2 := cc2.1
  have tu2 : u2.vl 9 4 = (N : Int) := (cc2.fl 4).trans tu1
  have x2 := gu2.v 2
  have y2 := gu2.n 2
  have z2 := gu2.k 2
  have q2 : K2 2 = K 0 := (by rw [eK2, upN_n (by decide), eK1, upN_n (by decide)]; omega)
  refine ev_aload_n dX9_add_46 rfl ?_
  refine ev_aload_n dX9_add_47 rfl ?_
  refine ev_getrv dX9_add_48 fX9_18 gu2.1.k9 gu2.1.n9 rfl x2 ?_
  refine ev_iconst dX9_add_51 ?_
  refine ev_aload_n dX9_add_52 rfl ?_
  refine ev_getiv dX9_add_53 fX9_39 gu2.1.k9 gu2.1.n9 rfl tu2 ?_
  refine ev_imul dX9_add_56 (by unfold ir; omega) ?_
  rw [show (2 : Int) * (N : Int) = ((2 * K2 2 : Nat) : Int) by omega]
  refine ev_csr dX9_add_57 lX9_53 (s_copyI z2 y2 (by omega) (by omega) (by omega)) (by decide) rfl rfl (Nat.le_of_ble_eq_true rfl) rfl (fun r m3 q => ?_)
  obtain ⟨rfl, q⟩ := q
  have k9 : m3.kd 9 = (9, 15) := by
    rw [q]
    show (if (9 : Nat) = u2.n then _ else u2.kd 9) = _
    rw [if_neg (by have := gu2.1.n9; omega)]
    exact gu2.1.k9
  have n9' : 9 < m3.n := by rw [q]; show 9 < u2.n + 1; have := gu2.1.n9; omega
  refine ev_pt dX9_add_60 fX9_18 k9 n9' rfl ?_
  rw [q]
  obtain ⟨cc3, dd3⟩ := gu2.gr (k := 2) (by decide) (by decide) (by omega)
  obtain ⟨u3, eu3⟩ : ∃ u, u = (eCpy u2 (A2 2) 100 (K2 2) (2 * K2 2)).put 9 2 (u2.n : Int) := ⟨_, rfl⟩
  rw [← eu3] at cc3 dd3 ⊢
  obtain ⟨A3, eA3⟩ : ∃ A, A = upN A2 2 u2.n := ⟨_, rfl⟩
  obtain ⟨K3, eK3⟩ : ∃ A, A = upN K2 2 (2 * K2 2) := ⟨_, rfl⟩
  rw [← eA3, ← eK3] at cc3
  have gu3 := cc3.1
  have tu3 : u3.vl 9 4 = (N : Int) := (cc3.fl 4).trans tu2
  have x3 := gu3.v 3
  have y3 := gu3.n 3
  have z3 := gu3.k 3
  have q3 : K3 3 = K 0 := (by rw [eK3, upN_n (by decide), eK2, upN_n (by decide), eK1, upN_n (by decide)]; omega)
  refine ev_aload_n dX9_add_63 rfl ?_
  refine ev_aload_n dX9_add_64 rfl ?_
  refine ev_getrv dX9_add_65 fX9_21 gu3.1.k9 gu3.1.n9 rfl x3 ?_
  refine ev_iconst dX9_add_68 ?_
  refine ev_aload_n dX9_add_69 rfl ?_
  refine ev_getiv dX9_add_70 fX9_39 gu3.1.k9 gu3.1.n9 rfl tu3 ?_
  refine ev_imul dX9_add_73 (by unfold ir; omega) ?_
  rw [show (2 : Int) * (N : Int) = ((2 * K3 3 : Nat) : Int) by omega]
  refine ev_csr dX9_add_74 lX9_53 (s_copyI z3 y3 (by omega) (by omega) (by omega)) (by decide) rfl rfl (Nat.le_of_ble_eq_true rfl) rfl (fun r m4 q => ?_)
  obtain ⟨rfl, q⟩ := q
  have k9 : m4.kd 9 = (9, 15) := by
    rw [q]
    show (if (9 : Nat) = u3.n then _ else u3.kd 9) = _
    rw [if_neg (by have := gu3.1.n9; omega)]
    exact gu3.1.k9
  have n9' : 9 < m4.n := by rw [q]; show 9 < u3.n + 1; have := gu3.1.n9; omega
  refine ev_pt dX9_add_77 fX9_21 k9 n9' rfl ?_
  rw [q]
  obtain ⟨cc4, dd4⟩ := gu3.gr (k := 3) (by decide) (by decide) (by omega)
  obtain ⟨u4, eu4⟩ : ∃ u, u = (eCpy u3 (A3 3) 100 (K3 3) (2 * K3 3)).put 9 3 (u3.n : Int) := ⟨_, rfl⟩
  rw [← eu4] at cc4 dd4 ⊢
  obtain ⟨A4, eA4⟩ : ∃ A, A = upN A3 3 u3.n := ⟨_, rfl⟩
  obtain ⟨K4, eK4⟩ : ∃ A, A = upN K3 3 (2 * K3 3) := ⟨_, rfl⟩
  rw [← eA4, ← eK4] at cc4
  have gu4 := cc4.1
  have tu4 : u4.vl 9 4 = (N : Int) := (cc4.fl 4).trans tu3
  have CC : YC h a K u4 A4 K4 [0, 1, 2, 3] [4] := ((cc1.wk (by decide) (by decide)).tr (cc2.wk (by decide) (by decide))).tr ((cc3.wk (by decide) (by decide)).tr (cc4.wk (by decide) (by decide)))
  have f1 : A1 0 = h.n := by rw [eA1, upN_s]
  have f2 : A2 1 = u1.n := by rw [eA2, upN_s]
  have f3 : A3 2 = u2.n := by rw [eA3, upN_s]
  have f4 : A4 3 = u3.n := by rw [eA4, upN_s]
  refine p80 u4 A4 K4 CC tu4 ?_ ?_ (fun k hk j hj => ?_) (fun k hk => ?_)
  · have b0 : K4 0 = 2 * K 0 := by rw [eK4, eK3, eK2, eK1]; simp [upN]
    have b1 : K4 1 = 2 * K 1 := by rw [eK4, eK3, eK2, eK1]; simp [upN]
    have b2 : K4 2 = 2 * K 2 := by rw [eK4, eK3, eK2, eK1]; simp [upN]
    have b3 : K4 3 = 2 * K 3 := by rw [eK4, eK3, eK2, eK1]; simp [upN]
    omega
  · rw [eK4, upN_n (by decide), eK3, upN_n (by decide), eK2, upN_n (by decide), eK1, upN_s]
    omega
  · match k, hk with
    | 0, _ =>
      obtain ⟨o2, p2⟩ := cc2.rw' 0
      obtain ⟨o3, p3⟩ := cc3.rw' 0
      obtain ⟨o4, p4⟩ := cc4.rw' 0
      rw [o4, o3, o2]
      rw [o3, o2] at p4
      rw [o2] at p3
      rw [p4, p3, p2, f1]
      exact dd1 j (by omega)
    | 1, _ =>
      obtain ⟨o1, p1⟩ := cc1.rw' 1
      obtain ⟨o3, p3⟩ := cc3.rw' 1
      obtain ⟨o4, p4⟩ := cc4.rw' 1
      rw [o4, o3]
      rw [o3] at p4
      rw [p4, p3, f2, dd2 j (by omega), o1, p1]
    | 2, _ =>
      obtain ⟨o1, p1⟩ := cc1.rw' 2
      obtain ⟨o2, p2⟩ := cc2.rw' 2
      obtain ⟨o4, p4⟩ := cc4.rw' 2
      rw [o4, p4, f3, dd3 j (by omega), o2]
      rw [o1] at p2 ⊢
      rw [p2, p1]
    | 3, _ =>
      obtain ⟨o1, p1⟩ := cc1.rw' 3
      obtain ⟨o2, p2⟩ := cc2.rw' 3
      obtain ⟨o3, p3⟩ := cc3.rw' 3
      rw [f4, dd4 j (by omega), o3, o2, o1]
      rw [o2, o1] at p3
      rw [o1] at p2
      rw [p3, p2, p1]
  · rw [eK4, upN_n (by omega), eK3, upN_n (by omega), eK2, upN_n (by omega), eK1, upN_n (by omega)]
