/-! a pair more; a new mark; a variable becomes a type: the class -/
set_option maxRecDepth 100000 in
theorem s_newMark {h : AH} {a K : Nat → Nat} {x : Int} (g : YA h a K) (hx : h.vl 9 5 = x) (h0 : 0 ≤ x ∧ x ≤ 2147483000) : CV mX9_newMark 1 [rv 9] h (oi fun r h1 => r = x + 1 ∧ h1 = h.put 9 5 (x + 1)) := by
  refine cv_of cdX9_newMark ?_
  show EV _ _ 0 [rv 9] [] h _
  have g1 := (g.pf (j := 5) (x := x + 1) (by decide)).1
  refine ev_aload_n dX9_newMark_0 rfl ?_
  refine ev_dup dX9_newMark_1 ?_
  refine ev_getiv dX9_newMark_2 fX9_43 g.1.k9 g.1.n9 rfl hx ?_
  refine ev_iconst dX9_newMark_5 ?_
  refine ev_iadd dX9_newMark_6 (by unfold ir; omega) ?_
  refine ev_pt dX9_newMark_7 fX9_43 g.1.k9 g.1.n9 rfl ?_
  obtain ⟨h1, e1⟩ : ∃ h1, h1 = h.put 9 5 (x + 1) := ⟨_, rfl⟩
  rw [← e1] at g1 ⊢
  have u1 : h1.vl 9 5 = x + 1 := by rw [e1]; rfl
  refine ev_aload_n dX9_newMark_10 rfl ?_
  refine ev_getiv dX9_newMark_11 fX9_43 g1.1.k9 g1.1.n9 rfl u1 ?_
  exact ev_iret dX9_newMark_14 (⟨_, rfl, rfl, rfl⟩)
/-- no mark is above the latest one -/
def YMk (h : AH) (a : Nat → Nat) (N : Nat) : Prop := 0 ≤ h.vl 9 5 ∧ ∀ c, c < N → 0 ≤ h.vl (a 3) c ∧ h.vl (a 3) c ≤ h.vl 9 5
theorem YMk.mv {h h1 : AH} {a K a1 K1 : Nat → Nat} {D F : List Nat} {N : Nat} (s : YMk h a N) (c : YC h a K h1 a1 K1 D F) (hD : 3 ∉ D := by decide) (hF : 5 ∉ F := by decide) : YMk h1 a1 N := by
  obtain ⟨e1, e2⟩ := c.2.2.1 3 (by decide) hD
  have e3 := c.2.2.2 5 (by decide) hF
  unfold YMk
  rw [e1, e2, e3]
  exact s
abbrev BcD : List Nat := [2, 3, 10]
abbrev BcF : List Nat := [5, 11]
set_option maxRecDepth 100000 in
theorem s_become {h : AH} {a K : Nat → Nat} {N v o : Nat} {rr : Nat → Nat} {tr : Nat → TE} (g : YA h a K) (b : YB h K N) (w : YW h a N rr tr) (hN : N ≤ 61000) (hm : YMk h a N) (hm9 : h.vl 9 5 ≤ 2147482000) (hv : v < N) (ho : o < N) (hv3 : soY (h.vl (a 0)) v = 3) (hrv : rr v = v) : CV mX9_become 4 [rv 9, iv (v : Int), iv (o : Int)] h (oi fun r h1 => ∃ a1 K1, YC h a K h1 a1 K1 BcD BcF ∧ ((∀ k, k ≠ 10 → K1 k = K k) ∧ ∀ k, k ∈ tks → k ≠ 10 → a1 k = a k) ∧ YMk h1 a1 N ∧ h1.vl 9 5 = h.vl 9 5 + 1 ∧ ((oc (v + 2) (tr o) = true ∧ r = 5 ∧ h1.vl (a1 2) = h.vl (a 2)) ∨ (oc (v + 2) (tr o) = false ∧ r = 0 ∧ h1.vl (a1 2) = upI (h.vl (a 2)) v (o : Int)))) := by
  obtain ⟨m0, m1⟩ := id hm
  obtain ⟨x, hx⟩ : ∃ x, h.vl 9 5 = x := ⟨_, rfl⟩
  rw [hx] at m0 m1 hm9 ⊢
  refine cv_of cdX9_become ?_
  show EV _ _ 0 [rv 9, iv (v : Int), iv (o : Int)] [] h _
  refine ev_aload_n dX9_become_0 rfl ?_
  refine ev_iload_n dX9_become_1 rfl ?_
  refine ev_aload_n dX9_become_2 rfl ?_
  refine ev_cvi dX9_become_3 lX9_87 (s_newMark g hx (by omega)) (by decide) g.1.k9 g.1.n9 rfl rfl rfl (Nat.le_of_ble_eq_true rfl) rfl (fun r h1 q => ?_)
  obtain ⟨rfl, q⟩ := q
  have c1 : YC h a K h1 a K [] [5] := by rw [q]; exact g.pf (by decide)
  have g1 := c1.1
  have x1 : h1.vl 9 5 = x + 1 := by rw [q]; rfl
  have b1 := b.mv c1 (fun _ _ => rfl)
  have w1 := w.mv c1
  have e3 := (c1.rw' 3).2
  have e0 := (c1.rw' 0).2
  refine ev_cvv dX9_become_6 lX9_91 (s_markAll g1 b1 w1 ho hN (fun c hc _ hcv => by rw [e3] at hcv; have := m1 c hc; omega)) (by decide) g1.1.k9 g1.1.n9 rfl rfl rfl (Nat.le_of_ble_eq_true rfl) rfl (fun h2 q => ?_)
  obtain ⟨a2, K2, c2, ⟨hK2, ha2⟩, -, q1, q2⟩ := q
  have g2 := c2.1
  have u3 := ha2 3 (by decide) (by decide)
  have x2 : h2.vl 9 5 = x + 1 := (c2.fl 5).trans x1
  have mk2 : YMk h2 a2 N := by
    refine ⟨by omega, fun c hc => ?_⟩
    rw [x2]
    rcases q2 c with z | z
    · rw [z, e3]; have := m1 c hc; omega
    · rw [z.2]; omega
  have b2 := b1.mv c2 (fun k hk => hK2 k (by omega))
  have B0 := b2.2.2
  have B1 := b2.2.1
  have v3 := g2.v 3
  have n3 := g2.n 3
  have hiff := q1 v hv (by rw [e0]; exact hv3) hrv
  have C2 : YC h a K h2 a2 K2 BcD BcF := (c1.wk (by decide) (by decide)).tr (c2.wk (by decide) (by decide))
  have li2 : h2.vl (a2 2) = h.vl (a 2) := by rw [(c2.rw' 2).1, (c2.rw' 2).2, (c1.rw' 2).2]
  obtain ⟨mv, hmv⟩ : ∃ mv, h2.vl (a2 3) v = mv := ⟨_, rfl⟩
  refine ev_aload_n dX9_become_9 rfl ?_
  refine ev_getrv dX9_become_10 fX9_21 g2.1.k9 g2.1.n9 rfl v3 ?_
  refine ev_iload_n dX9_become_13 rfl ?_
  refine ev_csi dX9_become_14 lX9_63 (s_atJ (g2.k 3) n3 (g2.r 3).2) (by decide) rfl rfl (Nat.le_of_ble_eq_true rfl) rfl (fun r z1 q => ?_)
  obtain ⟨rfl, e⟩ := q
  rw [e, if_pos (by omega), show ((v : Nat) : Int).toNat = v from rfl, hmv]
  refine ev_aload_n dX9_become_17 rfl ?_
  refine ev_getiv dX9_become_18 fX9_43 g2.1.k9 g2.1.n9 rfl x2 ?_
  rw [hmv, e3] at hiff
  by_cases d : oc (v + 2) (tr o) = true
  · skip
    have := hiff.mpr (Or.inr d)
    refine ev_icmpne 26 dX9_become_21 (fun h_no => (by exfalso; omega)) (fun hb => ?_)
    refine ev_iconst dX9_become_24 ?_
    exact ev_iret dX9_become_25 (⟨_, rfl, a2, K2, C2, ⟨hK2, ha2⟩, mk2, x2, Or.inl ⟨d, rfl, li2⟩⟩)
  have d0 : oc (v + 2) (tr o) = false := by
    cases hz : oc (v + 2) (tr o) with
    | false => rfl
    | true => exact absurd hz d
  have ne : mv ≠ x + 1 := fun z => by
    rcases hiff.mp z with y | y
    · have := m1 v hv; omega
    · exact d y
  have v2 := g2.v 2
  have n2 := g2.n 2
  refine ev_icmpne 26 dX9_become_21 (fun hb => ?_) (fun h_no => (by exfalso; omega))
  refine ev_aload_n dX9_become_26 rfl ?_
  refine ev_getrv dX9_become_27 fX9_18 g2.1.k9 g2.1.n9 rfl v2 ?_
  refine ev_iload_n dX9_become_30 rfl ?_
  refine ev_iload_n dX9_become_31 rfl ?_
  refine ev_csv dX9_become_32 lX9_59 (s_putJ (g2.k 2) n2 (g2.r 2).2) (by decide) rfl rfl (Nat.le_of_ble_eq_true rfl) rfl (fun h3 q => ?_)
  rw [if_pos (by omega), show ((v : Nat) : Int).toNat = v from rfl] at q
  have c3 : YC h2 a2 K2 h3 a2 K2 [2] [] := by rw [q]; exact g2.pw (by decide)
  refine ev_iconst dX9_become_35 ?_
  exact ev_iret dX9_become_36 (⟨_, rfl, a2, K2, C2.tr (c3.wk (by decide) (by decide)), ⟨hK2, ha2⟩, mk2.mv c3, (c3.fl 5).trans x2, Or.inr ⟨d0, rfl, by rw [q, put_row, li2]⟩⟩)
set_option maxRecDepth 100000 in
theorem s_addPair {h : AH} {a K : Nat → Nat} {st : List UE} {x y : Nat} {j : Bool} (g : YA h a K) (s : YPs h a K st) (hl : st.length ≤ 199000) : CV mX9_addPair 2 [rv 9, iv (x : Int), iv (y : Int), iv (if j = true then 1 else 0)] h (on fun h1 => ∃ a1 K1, YC h a K h1 a1 K1 [6, 7, 8] [9] ∧ YPs h1 a1 K1 ((x, y, j) :: st) ∧ ((∀ k, k < 6 ∨ 8 < k → K1 k = K k) ∧ ∀ k, k ∈ tks → k < 6 ∨ 8 < k → a1 k = a k)) := by
  obtain ⟨z, hz⟩ : ∃ z : Int, z = (if j = true then 1 else 0) := ⟨_, rfl⟩
  rw [← hz]
  have p63 : ∀ (h2 : AH) (a2 K2 : Nat → Nat), YC h a K h2 a2 K2 [6, 7, 8] [9] → h2.vl 9 9 = (st.length : Int) → (K2 7 = K2 6 ∧ K2 8 = K2 6) → st.length < K2 6 → PYs (h2.vl (a2 6)) (h2.vl (a2 7)) (h2.vl (a2 8)) st → ((∀ k, k < 6 ∨ 8 < k → K2 k = K k) ∧ ∀ k, k ∈ tks → k < 6 ∨ 8 < k → a2 k = a k) → EV mX9_addPair 2 63 [rv 9, iv (x : Int), iv (y : Int), iv z] [] h2 (on fun h1 => ∃ a1 K1, YC h a K h1 a1 K1 [6, 7, 8] [9] ∧ YPs h1 a1 K1 ((x, y, j) :: st) ∧ ((∀ k, k < 6 ∨ 8 < k → K1 k = K k) ∧ ∀ k, k ∈ tks → k < 6 ∨ 8 < k → a1 k = a k)) := by
    intro h2 a2 K2 c2 t1 t2 t3 t4 t5
    have g2 := c2.1
    have nN : ((st.length : Nat) : Int).toNat = st.length := rfl
    have v0 := g2.v 6
    have n0 := g2.n 6
    have r0 := g2.r 6
    refine ev_aload_n dX9_addPair_63 rfl ?_
    refine ev_getrv dX9_addPair_64 fX9_24 g2.1.k9 g2.1.n9 rfl v0 ?_
    refine ev_aload_n dX9_addPair_67 rfl ?_
    refine ev_getiv dX9_addPair_68 fX9_46 g2.1.k9 g2.1.n9 rfl t1 ?_
    refine ev_iload_n dX9_addPair_71 rfl ?_
    refine ev_csv dX9_addPair_72 lX9_59 (s_putJ (g2.k 6) n0 r0.2) (by decide) rfl rfl (Nat.le_of_ble_eq_true rfl) rfl (fun w1 q => ?_)
    rw [if_pos (by omega), nN] at q
    have cw1 : YC h2 a2 K2 w1 a2 K2 [6, 7, 8] [9] := (by rw [q]; exact (g2.pw (by decide)).wk (by decide) (by decide))
    have gw1 := cw1.1
    have tw1 : w1.vl 9 9 = (st.length : Int) := ((by rw [q]; exact (put_ne _ (by have := g2.z 6; omega)) : w1.vl 9 = h2.vl 9) ▸ t1)
    have qv1 : w1.vl = (h2.put (a2 6) st.length (x : Int)).vl := by rw [q]
    have v1 := gw1.v 7
    have n1 := gw1.n 7
    have r1 := gw1.r 7
    refine ev_aload_n dX9_addPair_75 rfl ?_
    refine ev_getrv dX9_addPair_76 fX9_27 gw1.1.k9 gw1.1.n9 rfl v1 ?_
    refine ev_aload_n dX9_addPair_79 rfl ?_
    refine ev_getiv dX9_addPair_80 fX9_46 gw1.1.k9 gw1.1.n9 rfl tw1 ?_
    refine ev_iload_n dX9_addPair_83 rfl ?_
    refine ev_csv dX9_addPair_84 lX9_59 (s_putJ (gw1.k 7) n1 r1.2) (by decide) rfl rfl (Nat.le_of_ble_eq_true rfl) rfl (fun w2 q => ?_)
    rw [if_pos (by omega), nN] at q
    have cw2 : YC h2 a2 K2 w2 a2 K2 [6, 7, 8] [9] := cw1.tr (by rw [q]; exact (gw1.pw (by decide)).wk (by decide) (by decide))
    have gw2 := cw2.1
    have tw2 : w2.vl 9 9 = (st.length : Int) := ((by rw [q]; exact (put_ne _ (by have := gw1.z 7; omega)) : w2.vl 9 = w1.vl 9) ▸ tw1)
    have qv2 : w2.vl = (w1.put (a2 7) st.length (y : Int)).vl := by rw [q]
    have v2 := gw2.v 8
    have n2 := gw2.n 8
    have r2 := gw2.r 8
    refine ev_aload_n dX9_addPair_87 rfl ?_
    refine ev_getrv dX9_addPair_88 fX9_30 gw2.1.k9 gw2.1.n9 rfl v2 ?_
    refine ev_aload_n dX9_addPair_91 rfl ?_
    refine ev_getiv dX9_addPair_92 fX9_46 gw2.1.k9 gw2.1.n9 rfl tw2 ?_
    refine ev_iload_n dX9_addPair_95 rfl ?_
    refine ev_csv dX9_addPair_96 lX9_59 (s_putJ (gw2.k 8) n2 r2.2) (by decide) rfl rfl (Nat.le_of_ble_eq_true rfl) rfl (fun w3 q => ?_)
    rw [if_pos (by omega), nN] at q
    have cw3 : YC h2 a2 K2 w3 a2 K2 [6, 7, 8] [9] := cw2.tr (by rw [q]; exact (gw2.pw (by decide)).wk (by decide) (by decide))
    have gw3 := cw3.1
    have tw3 : w3.vl 9 9 = (st.length : Int) := ((by rw [q]; exact (put_ne _ (by have := gw2.z 8; omega)) : w3.vl 9 = w2.vl 9) ▸ tw2)
    have qv3 : w3.vl = (w2.put (a2 8) st.length z).vl := by rw [q]
    have d67 := g2.d 6 7
    have d68 := g2.d 6 8
    have d78 := g2.d 7 8
    have ev : ∀ b i, w3.vl b i = if b = a2 8 ∧ i = st.length then z else if b = a2 7 ∧ i = st.length then (y : Int) else if b = a2 6 ∧ i = st.length then (x : Int) else h2.vl b i := fun b i => by
      rw [qv3, AH.put_vl, qv2, AH.put_vl, qv1, AH.put_vl]
    refine ev_aload_n dX9_addPair_99 rfl ?_
    refine ev_dup dX9_addPair_100 ?_
    refine ev_getiv dX9_addPair_101 fX9_46 gw3.1.k9 gw3.1.n9 rfl tw3 ?_
    refine ev_iconst dX9_addPair_104 ?_
    refine ev_iadd dX9_addPair_105 (by unfold ir; omega) ?_
    refine ev_pt dX9_addPair_106 fX9_46 gw3.1.k9 gw3.1.n9 rfl ?_
    have c5 : YC w3 a2 K2 (w3.put 9 9 ((st.length : Int) + 1)) a2 K2 [] [9] := gw3.pf (by decide)
    have E6 := (c5.rw' 6).2
    have E7 := (c5.rw' 7).2
    have E8 := (c5.rw' 8).2
    refine ev_vret dX9_addPair_109 (⟨rfl, a2, K2, (c2.tr cw3).tr (c5.wk (by decide) (by decide)), ⟨rfl, ?_, t2, by rw [List.length_cons]; omega⟩, t5⟩)
    rw [E6, E7, E8]
    refine ⟨by rw [ev, if_neg (fun q => d68 q.1), if_neg (fun q => d67 q.1), if_pos ⟨rfl, rfl⟩], by rw [ev, if_neg (fun q => d78 q.1), if_pos ⟨rfl, rfl⟩], by rw [ev, if_pos ⟨rfl, rfl⟩]; exact hz, PYs.lo (fun i hi => ⟨?_, ?_, ?_⟩) t4⟩
    · rw [ev, if_neg (fun q => by omega), if_neg (fun q => by omega), if_neg (fun q => by omega)]
    · rw [ev, if_neg (fun q => by omega), if_neg (fun q => by omega), if_neg (fun q => by omega)]
    · rw [ev, if_neg (fun q => by omega), if_neg (fun q => by omega), if_neg (fun q => by omega)]
  obtain ⟨s1, s2, s3, s4⟩ := s
  have k0 := g.k 6
  have n0 := g.n 6
  have v0 := g.v 6
  have r0 := g.r 6
  refine cv_of cdX9_addPair ?_
  show EV _ _ 0 [rv 9, iv (x : Int), iv (y : Int), iv z] [] h _
  refine ev_aload_n dX9_addPair_0 rfl ?_
  refine ev_getiv dX9_addPair_1 fX9_46 g.1.k9 g.1.n9 rfl s1 ?_
  refine ev_aload_n dX9_addPair_4 rfl ?_
  refine ev_getrv dX9_addPair_5 fX9_24 g.1.k9 g.1.n9 rfl v0 ?_
  refine ev_al dX9_addPair_8 k0 n0 rfl (by decide) (by omega) ?_
  by_cases c : st.length < K 6
  · skip
    refine ev_icmplt 63 dX9_addPair_9 (fun hb => ?_) (fun h_no => (by exfalso; omega))
    exact p63 h a K (YC.rf g) s1 s3 c s2 ⟨fun _ _ => rfl, fun _ _ _ => rfl⟩
  have e0 : st.length = K 6 := by omega
  have n9 := g.1.n9
  refine ev_icmplt 63 dX9_addPair_9 (fun h_no => (by exfalso; omega)) (fun hb => ?_)
  have x0 := g.v 6
  have y0 := g.n 6
  have z0 := g.k 6
  have q0 : K 6 = K 6 := rfl
  refine ev_aload_n dX9_addPair_12 rfl ?_
  refine ev_aload_n dX9_addPair_13 rfl ?_
  refine ev_getrv dX9_addPair_14 fX9_24 g.1.k9 g.1.n9 rfl x0 ?_
  refine ev_iconst dX9_addPair_17 ?_
  refine ev_aload_n dX9_addPair_18 rfl ?_
  refine ev_getiv dX9_addPair_19 fX9_46 g.1.k9 g.1.n9 rfl s1 ?_
  refine ev_imul dX9_addPair_22 (by unfold ir; omega) ?_
  rw [show (2 : Int) * (st.length : Int) = ((2 * K 6 : Nat) : Int) by omega]
  refine ev_csr dX9_addPair_23 lX9_53 (s_copyI z0 y0 (by omega) (by omega) (by omega)) (by decide) rfl rfl (Nat.le_of_ble_eq_true rfl) rfl (fun r m1 q => ?_)
  obtain ⟨rfl, q⟩ := q
  have k9 : m1.kd 9 = (9, 15) := by
    rw [q]
    show (if (9 : Nat) = h.n then _ else h.kd 9) = _
    rw [if_neg (by have := g.1.n9; omega)]
    exact g.1.k9
  have n9' : 9 < m1.n := by rw [q]; show 9 < h.n + 1; have := g.1.n9; omega
  refine ev_pt dX9_addPair_26 fX9_24 k9 n9' rfl ?_
  rw [q]
  obtain ⟨cc1, dd1⟩ := g.gr (k := 6) (by decide) (by decide) (by omega)
  obtain ⟨u1, eu1⟩ : ∃ u, u = (eCpy h (a 6) 100 (K 6) (2 * K 6)).put 9 6 (h.n : Int) := ⟨_, rfl⟩
  rw [← eu1] at cc1 dd1 ⊢
  obtain ⟨A1, eA1⟩ : ∃ A, A = upN a 6 h.n := ⟨_, rfl⟩
  obtain ⟨K1, eK1⟩ : ∃ A, A = upN K 6 (2 * K 6) := ⟨_, rfl⟩
  rw [← eA1, ← eK1] at cc1
  have gu1 := cc1.1
  have tu1 : u1.vl 9 9 = (st.length : Int) := (cc1.fl 9).trans s1
  have x1 := gu1.v 7
  have y1 := gu1.n 7
  have z1 := gu1.k 7
  have q1 : K1 7 = K 6 := (by rw [eK1, upN_n (by decide)]; omega)
  refine ev_aload_n dX9_addPair_29 rfl ?_
  refine ev_aload_n dX9_addPair_30 rfl ?_
  refine ev_getrv dX9_addPair_31 fX9_27 gu1.1.k9 gu1.1.n9 rfl x1 ?_
  refine ev_iconst dX9_addPair_34 ?_
  refine ev_aload_n dX9_addPair_35 rfl ?_
  refine ev_getiv dX9_addPair_36 fX9_46 gu1.1.k9 gu1.1.n9 rfl tu1 ?_
  refine ev_imul dX9_addPair_39 (by unfold ir; omega) ?_
  rw [show (2 : Int) * (st.length : Int) = ((2 * K1 7 : Nat) : Int) by omega]
  refine ev_csr dX9_addPair_40 lX9_53 (s_copyI z1 y1 (by omega) (by omega) (by omega)) (by decide) rfl rfl (Nat.le_of_ble_eq_true rfl) rfl (fun r m2 q => ?_)
  obtain ⟨rfl, q⟩ := q
  have k9 : m2.kd 9 = (9, 15) := by
    rw [q]
    show (if (9 : Nat) = u1.n then _ else u1.kd 9) = _
    rw [if_neg (by have := gu1.1.n9; omega)]
    exact gu1.1.k9
  have n9' : 9 < m2.n := by rw [q]; show 9 < u1.n + 1; have := gu1.1.n9; omega
  refine ev_pt dX9_addPair_43 fX9_27 k9 n9' rfl ?_
  rw [q]
  obtain ⟨cc2, dd2⟩ := gu1.gr (k := 7) (by decide) (by decide) (by omega)
  obtain ⟨u2, eu2⟩ : ∃ u, u = (eCpy u1 (A1 7) 100 (K1 7) (2 * K1 7)).put 9 7 (u1.n : Int) := ⟨_, rfl⟩
  rw [← eu2] at cc2 dd2 ⊢
  obtain ⟨A2, eA2⟩ : ∃ A, A = upN A1 7 u1.n := ⟨_, rfl⟩
  obtain ⟨K2, eK2⟩ : ∃ A, A = upN K1 7 (2 * K1 7) := ⟨_, rfl⟩
  rw [← eA2, ← eK2] at cc2
  have gu2 := cc2.1
  have tu2 : u2.vl 9 9 = (st.length : Int) := (cc2.fl 9).trans tu1
  have x2 := gu2.v 8
  have y2 := gu2.n 8
  have z2 := gu2.k 8
  have q2 : K2 8 = K 6 := (by rw [eK2, upN_n (by decide), eK1, upN_n (by decide)]; omega)
  refine ev_aload_n dX9_addPair_46 rfl ?_
  refine ev_aload_n dX9_addPair_47 rfl ?_
  refine ev_getrv dX9_addPair_48 fX9_30 gu2.1.k9 gu2.1.n9 rfl x2 ?_
  refine ev_iconst dX9_addPair_51 ?_
  refine ev_aload_n dX9_addPair_52 rfl ?_
  refine ev_getiv dX9_addPair_53 fX9_46 gu2.1.k9 gu2.1.n9 rfl tu2 ?_
  refine ev_imul dX9_addPair_56 (by unfold ir; omega) ?_
  rw [show (2 : Int) * (st.length : Int) = ((2 * K2 8 : Nat) : Int) by omega]
  refine ev_csr dX9_addPair_57 lX9_53 (s_copyI z2 y2 (by omega) (by omega) (by omega)) (by decide) rfl rfl (Nat.le_of_ble_eq_true rfl) rfl (fun r m3 q => ?_)
  obtain ⟨rfl, q⟩ := q
  have k9 : m3.kd 9 = (9, 15) := by
    rw [q]
    show (if (9 : Nat) = u2.n then _ else u2.kd 9) = _
    rw [if_neg (by have := gu2.1.n9; omega)]
    exact gu2.1.k9
  have n9' : 9 < m3.n := by rw [q]; show 9 < u2.n + 1; have := gu2.1.n9; omega
  refine ev_pt dX9_addPair_60 fX9_30 k9 n9' rfl ?_
  rw [q]
  obtain ⟨cc3, dd3⟩ := gu2.gr (k := 8) (by decide) (by decide) (by omega)
  obtain ⟨u3, eu3⟩ : ∃ u, u = (eCpy u2 (A2 8) 100 (K2 8) (2 * K2 8)).put 9 8 (u2.n : Int) := ⟨_, rfl⟩
  rw [← eu3] at cc3 dd3 ⊢
  obtain ⟨A3, eA3⟩ : ∃ A, A = upN A2 8 u2.n := ⟨_, rfl⟩
  obtain ⟨K3, eK3⟩ : ∃ A, A = upN K2 8 (2 * K2 8) := ⟨_, rfl⟩
  rw [← eA3, ← eK3] at cc3
  have gu3 := cc3.1
  have tu3 : u3.vl 9 9 = (st.length : Int) := (cc3.fl 9).trans tu2
  have CC : YC h a K u3 A3 K3 [6, 7, 8] [9] := ((cc1.wk (by decide) (by decide)).tr (cc2.wk (by decide) (by decide))).tr (cc3.wk (by decide) (by decide))
  have f1 : A1 6 = h.n := by rw [eA1, upN_s]
  have f2 : A2 7 = u1.n := by rw [eA2, upN_s]
  have f3 : A3 8 = u2.n := by rw [eA3, upN_s]
  have b0 : K3 6 = 2 * K 6 := by rw [eK3, eK2, eK1]; simp [upN]
  have b1 : K3 7 = 2 * K 7 := by rw [eK3, eK2, eK1]; simp [upN]
  have b2 : K3 8 = 2 * K 8 := by rw [eK3, eK2, eK1]; simp [upN]
  refine p63 u3 A3 K3 CC tu3 (by omega) (by omega) (PYs.lo (fun i hi => ⟨?_, ?_, ?_⟩) s2) ⟨fun k hk => ?_, fun k _ hk => ?_⟩
  · obtain ⟨o2, p2⟩ := cc2.rw' 6
    obtain ⟨o3, p3⟩ := cc3.rw' 6
    rw [o3, o2]
    rw [o2] at p3
    rw [p3, p2, f1]
    exact dd1 i (by omega)
  · obtain ⟨o1, p1⟩ := cc1.rw' 7
    obtain ⟨o3, p3⟩ := cc3.rw' 7
    rw [o3, p3, f2, dd2 i (by omega), o1, p1]
  · obtain ⟨o1, p1⟩ := cc1.rw' 8
    obtain ⟨o2, p2⟩ := cc2.rw' 8
    rw [f3, dd3 i (by omega), o2]
    rw [o1] at p2 ⊢
    rw [p2, p1]
  · rw [eK3, upN_n (by omega), eK2, upN_n (by omega), eK1, upN_n (by omega)]
  · rw [eA3, upN_n (by omega), eA2, upN_n (by omega), eA1, upN_n (by omega)]
