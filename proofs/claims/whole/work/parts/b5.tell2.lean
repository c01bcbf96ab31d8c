/-! the reference tells a node's type -/
set_option maxRecDepth 100000 in
theorem r_tellNode {p nd : Int} {N : Nat} {LL : Nat → List Nd} {kp : Nat → Option TE} {h : AH} (hI : RI h) (hN : NV h N LL) (hK : KpJ h kp) (hst : 0 ≤ h.vl 42 50 ∧ h.vl 42 50 + 206010 ≤ 2147483000) :
    CV mX11_tellNode 10 [rv 42, iv p, iv nd] h (oi fun x h1 => (TqH h h1 kp ∧ ((¬ ((0 ≤ p ∧ p < (N : Int)) ∧ (0 ≤ nd ∧ nd < ((LL p.toNat).length : Int))) ∧ h1.vl 42 0 = 1) ∨ (((0 ≤ p ∧ p < (N : Int)) ∧ (0 ≤ nd ∧ nd < ((LL p.toNat).length : Int))) ∧ h1.vl 42 0 = 2 ∧ ∃ r S, fnR (LL p.toNat) kp r S ∧ r.1 ≠ 0))) ∨ (TxH h h1 kp ∧ ((0 ≤ p ∧ p < (N : Int)) ∧ (0 ≤ nd ∧ nd < ((LL p.toNat).length : Int))) ∧ h1.vl 42 0 = 0 ∧ ∃ r S, fnR (LL p.toNat) kp r S ∧ r.1 = 0 ∧ x = ((txR (cnR (S.2.1 nd.toNat) []) (-1)).length : Int) ∧ TxQ h1 (txR (cnR (S.2.1 nd.toNat) []) (-1)))) := by
  refine cv_of cdX11_tellNode ?_
  show EV _ _ 0 [rv 42, iv p, iv nd] [] h _
  refine ev_aload_n dX11_tellNode_0 rfl ?_
  refine ev_aload_n dX11_tellNode_1 rfl ?_
  refine ev_iload_n dX11_tellNode_2 rfl ?_
  refine ev_iload_n dX11_tellNode_3 rfl ?_
  refine ev_cvi dX11_tellNode_4 lX11_379 (s_isNode hI hN) (by decide) hI.o hI.n rfl rfl rfl (Nat.le_of_ble_eq_true rfl) rfl (fun r h0 q => ?_)
  obtain ⟨k0, hq⟩ := q
  have I0 : RI h0 := k0.ri hI
  have K0 : KpJ h0 kp := hK.kp k0
  have f0 : h0.vl 42 50 = h.vl 42 50 := k0.fl
  rcases hq with ⟨rfl, hq⟩ | ⟨rfl, hq, T1⟩
  · skip
    refine ev_ifne 14 dX11_tellNode_7 (fun h_no => (by exfalso; omega)) (fun hbr => ?_)
    refine ev_iconst dX11_tellNode_10 ?_
    refine ev_gt 27 dX11_tellNode_11 ?_
    refine ev_pt dX11_tellNode_27 fX11_161 I0.o I0.n rfl ?_
    obtain ⟨h1, e1⟩ : ∃ h1, h1 = h0.put 42 0 1 := ⟨_, rfl⟩
    rw [← e1]
    have k1 : KP h0 h1 [] [0] := by rw [e1]; exact KP.rf.pf (by decide)
    have I1 : RI h1 := k1.ri I0
    have t0 : h1.vl 42 0 = 1 := by rw [e1]; rfl
    have f50 : h1.vl 42 50 = h0.vl 42 50 := k1.fl
    refine ev_aload_n dX11_tellNode_30 rfl ?_
    refine ev_getiv dX11_tellNode_31 fX11_161 I1.o I1.n rfl t0 ?_
    refine ev_ifeq 39 dX11_tellNode_34 (fun h_no => (by exfalso; omega)) (fun hb => ?_)
    refine ev_iconst dX11_tellNode_37 ?_
    exact ev_iret dX11_tellNode_38 (⟨_, rfl, Or.inl ⟨⟨(k0.wk (by decide) (by decide)).tr (k1.wk (by decide) (by decide)), K0.kp k1, by omega⟩, Or.inl ⟨hq, t0⟩⟩⟩)
  have hp := hq.1
  refine ev_ifne 14 dX11_tellNode_7 (fun hbr => ?_) (fun h_no => (by exfalso; omega))
  refine ev_aload_n dX11_tellNode_14 rfl ?_
  refine ev_iload_n dX11_tellNode_15 rfl ?_
  refine ev_cvi dX11_tellNode_16 lX11_367 (i_finds I0 (hN.kp k0) K0 hp (by omega)) (by decide) I0.o I0.n rfl rfl rfl (Nat.le_of_ble_eq_true rfl) rfl (fun x h1 q => ?_)
  obtain ⟨q, K1⟩ := q
  obtain ⟨q1, q2, q3, r, S, q4, q5, q6, q7⟩ := q
  have I1 : RI h1 := q1.ri I0
  by_cases c : r.1 = 0
  · skip
    rw [if_pos c] at q6
    refine ev_ifeq 26 dX11_tellNode_19 (fun h_no => (by exfalso; omega)) (fun hb => ?_)
    refine ev_iconst dX11_tellNode_22 ?_
    refine ev_gt 27 dX11_tellNode_23 ?_
    refine ev_pt dX11_tellNode_27 fX11_161 I1.o I1.n rfl ?_
    obtain ⟨N1, n1, R1⟩ := q7 c
    obtain ⟨h2, e2⟩ : ∃ h2, h2 = h1.put 42 0 0 := ⟨_, rfl⟩
    rw [← e2]
    have k2 : KP h1 h2 [] [0] := by rw [e2]; exact KP.rf.pf (by decide)
    have I2 : RI h2 := k2.ri I1
    have t0 : h2.vl 42 0 = 0 := by rw [e2]; rfl
    have f50 : h2.vl 42 50 = h1.vl 42 50 := k2.fl
    have R2 := R1.kp k2
    obtain ⟨T, g2, s2, s3, s4, s5⟩ := R2
    obtain ⟨j, hj⟩ : ∃ j : Nat, nd = (j : Int) := ⟨nd.toNat, by omega⟩
    have hjn : nd.toNat = j := by omega
    have hl0 : j < (LL p.toNat).length := by omega
    obtain ⟨j9, a, a1, a2, a3⟩ := s2 j hl0
    have z9 := fnR_sz q4 c j hl0
    have a2' : h2.vl 84 nd.toNat = (a : Int) := by rw [hjn]; exact a2
    refine ev_aload_n dX11_tellNode_30 rfl ?_
    refine ev_getiv dX11_tellNode_31 fX11_161 I2.o I2.n rfl t0 ?_
    refine ev_ifeq 39 dX11_tellNode_34 (fun hb2 => ?_) (fun h_no => (by exfalso; omega))
    refine ev_aload_n dX11_tellNode_39 rfl ?_
    refine ev_aload_n dX11_tellNode_40 rfl ?_
    refine ev_getrv dX11_tellNode_41 fX11_137 I2.o I2.n rfl I2.v_type ?_
    refine ev_iload_n dX11_tellNode_44 rfl ?_
    refine ev_ildv dX11_tellNode_45 I2.k_type I2.n_type rfl (by omega) (by omega) a2' ?_
    refine ev_cvv dX11_tellNode_46 lX11_370 (s_writesN (t := a) I2 g2 a1 (by rw [a3]; exact z9) (by unfold ir; omega)) (by decide) I2.o I2.n rfl rfl rfl (Nat.le_of_ble_eq_true rfl) rfl (fun h3 q => ?_)
    obtain ⟨k3, t3, g3, w3⟩ := q
    rw [a3] at w3
    have I3 : RI h3 := k3.ri I2
    refine ev_aload_n dX11_tellNode_49 rfl ?_
    refine ev_cvi dX11_tellNode_50 lX11_452 (i_writesType I3 w3 z9) (by decide) I3.o I3.n rfl rfl rfl (Nat.le_of_ble_eq_true rfl) rfl (fun r2 h4 q => ?_)
    obtain ⟨rfl, k4, w4⟩ := q
    have U0 : h4.vl 42 0 = 0 := by rw [k4.fl, k3.fl]; exact t0
    have f4 : h4.vl 42 50 = h3.vl 42 50 := k4.fl
    exact ev_iret dX11_tellNode_53 (⟨_, rfl, Or.inr ⟨⟨((k0.wk (by decide) (by decide)).tr (q1.wk (by decide) (by decide))).tr ((k2.wk (by decide) (by decide)).tr ((k3.wk (by decide) (by decide)).tr (k4.wk (by decide) (by decide)))), ((K1.kp k2).st k3 g3.sn).kp k4, by omega⟩, hq, U0, r, S, q4, c, by rw [hjn], by rw [hjn]; exact w4⟩⟩)
  rw [if_neg c] at q6
  refine ev_ifeq 26 dX11_tellNode_19 (fun hb => ?_) (fun h_no => (by exfalso; omega))
  refine ev_iconst dX11_tellNode_26 ?_
  refine ev_pt dX11_tellNode_27 fX11_161 I1.o I1.n rfl ?_
  obtain ⟨h2, e2⟩ : ∃ h2, h2 = h1.put 42 0 2 := ⟨_, rfl⟩
  rw [← e2]
  have k2 : KP h1 h2 [] [0] := by rw [e2]; exact KP.rf.pf (by decide)
  have I2 : RI h2 := k2.ri I1
  have t0 : h2.vl 42 0 = 2 := by rw [e2]; rfl
  have f50 : h2.vl 42 50 = h1.vl 42 50 := k2.fl
  refine ev_aload_n dX11_tellNode_30 rfl ?_
  refine ev_getiv dX11_tellNode_31 fX11_161 I2.o I2.n rfl t0 ?_
  refine ev_ifeq 39 dX11_tellNode_34 (fun h_no => (by exfalso; omega)) (fun hb2 => ?_)
  refine ev_iconst dX11_tellNode_37 ?_
  exact ev_iret dX11_tellNode_38 (⟨_, rfl, Or.inl ⟨⟨((k0.wk (by decide) (by decide)).tr (q1.wk (by decide) (by decide))).tr (k2.wk (by decide) (by decide)), K1.kp k2, by omega⟩, Or.inr ⟨hq, t0, r, S, q4, c⟩⟩⟩)
set_option maxRecDepth 100000 in
theorem tk_loop {h0 : AH} {c : Nat} {Q : AV → AH → Prop} (hI0 : RI h0) (hc : c < 8) (K : ∀ h1 v2, KP h0 h1 [78] [] → (∀ i, i < 24 → h1.vl 78 i = h0.vl 43 (369 + 25 * c + 1 + i)) → EV mX11_tellKept 10 77 [rv 42, iv (c : Int), v2] [] h1 Q) :
    ∀ (m k : Nat) (h : AH), k + m = 24 → KP h0 h [78] [] → (∀ i, i < k → h.vl 78 i = h0.vl 43 (369 + 25 * c + 1 + i)) → EV mX11_tellKept 10 46 [rv 42, iv (c : Int), iv (k : Int)] [] h Q
  | 0, k, h, hk, k0, hr => by
    obtain rfl : k = 24 := by omega
    refine ev_iload_n dX11_tellKept_46 rfl ?_
    refine ev_bipush dX11_tellKept_47 ?_
    refine ev_icmpge 77 dX11_tellKept_49 (fun hb => ?_) (fun h_no => (by exfalso; omega))
    exact K h _ k0 hr
  | m + 1, k, h, hk, k0, hr => by
    have hI : RI h := k0.ri hI0
    obtain ⟨x, hx⟩ : ∃ x, h0.vl 43 (369 + 25 * c + 1 + k) = x := ⟨_, rfl⟩
    have hx2 : h.vl 43 (369 + 25 * c + 1 + k) = x := by rw [k0.vl]; exact hx
    refine ev_iload_n dX11_tellKept_46 rfl ?_
    refine ev_bipush dX11_tellKept_47 ?_
    refine ev_icmpge 77 dX11_tellKept_49 (fun h_no => (by exfalso; omega)) (fun hb => ?_)
    refine ev_aload_n dX11_tellKept_52 rfl ?_
    refine ev_getrv dX11_tellKept_53 fX11_119 hI.o hI.n rfl hI.v_rowOfType ?_
    refine ev_iload_n dX11_tellKept_56 rfl ?_
    refine ev_aload_n dX11_tellKept_57 rfl ?_
    refine ev_getrv dX11_tellKept_58 fX11_13 hI.o hI.n rfl hI.v_v ?_
    refine ev_iload_n dX11_tellKept_61 rfl ?_
    refine ev_csi dX11_tellKept_62 lX11_278 (s_keptAt (l := (c : Int)) (by omega) (by omega)) (by decide) rfl rfl (Nat.le_of_ble_eq_true rfl) rfl (fun r z1 q => ?_)
    obtain ⟨rfl, e1⟩ := q
    rw [e1]
    refine ev_iconst dX11_tellKept_65 ?_
    refine ev_iadd dX11_tellKept_66 (by unfold ir; omega) ?_
    refine ev_iload_n dX11_tellKept_67 rfl ?_
    refine ev_iadd dX11_tellKept_68 (by unfold ir; omega) ?_
    rw [show (369 : Int) + 25 * (c : Int) + 1 + (k : Int) = ((369 + 25 * c + 1 + k : Nat) : Int) by omega]
    refine ev_ildv dX11_tellKept_69 hI.k_v hI.n_v rfl (by omega) (by omega) hx2 ?_
    refine ev_istr dX11_tellKept_70 hI.k_rowOfType hI.n_rowOfType rfl (by omega) (by omega) ?_
    rw [show ((k : Nat) : Int).toNat = k from rfl]
    refine ev_iin2 dX11_tellKept_71 (by unfold ir; omega) ?_
    refine ev_gt 46 dX11_tellKept_74 ?_
    rw [show (k : Int) + 1 = ((k + 1 : Nat) : Int) by omega]
    refine tk_loop hI0 hc K m (k + 1) _ (by omega) (k0.tr (KP.rf.pr (by decide) (by decide))) fun i hi => ?_
    rw [AH.put_vl]
    by_cases z : i = k
    · rw [if_pos ⟨rfl, z⟩, z, hx]
    · rw [if_neg (fun w => z w.2)]; exact hr i (by omega)
set_option maxRecDepth 100000 in
theorem r_tellKept {cc : Int} {kp : Nat → Option TE} {h : AH} (hI : RI h) (hK : KpJ h kp) :
    CV mX11_tellKept 10 [rv 42, iv cc] h (oi fun x h1 => (KP h h1 [] [0] ∧ ((¬ (0 ≤ cc ∧ cc ≤ 7) ∧ h1.vl 42 0 = 1) ∨ ((0 ≤ cc ∧ cc ≤ 7) ∧ h1.vl 42 0 = 2 ∧ kp cc.toNat = none))) ∨ (KP h h1 [78, 90, 91] [0, 80, 81] ∧ (0 ≤ cc ∧ cc ≤ 7) ∧ h1.vl 42 0 = 0 ∧ ∃ R, kp cc.toNat = some R ∧ x = ((txR R (-1)).length : Int) ∧ TxQ h1 (txR R (-1)))) := by
  refine cv_of cdX11_tellKept ?_
  show EV _ _ 0 [rv 42, iv cc, uv] [] h _
  have bad : ∀ (k : Int) (h1 : AH), k ≠ 0 → h1 = h.put 42 0 k → ((¬ (0 ≤ cc ∧ cc ≤ 7) ∧ k = 1) ∨ ((0 ≤ cc ∧ cc ≤ 7) ∧ k = 2 ∧ kp cc.toNat = none)) → EV mX11_tellKept 10 35 [rv 42, iv cc, uv] [] h1 (oi fun x h1 => (KP h h1 [] [0] ∧ ((¬ (0 ≤ cc ∧ cc ≤ 7) ∧ h1.vl 42 0 = 1) ∨ ((0 ≤ cc ∧ cc ≤ 7) ∧ h1.vl 42 0 = 2 ∧ kp cc.toNat = none))) ∨ (KP h h1 [78, 90, 91] [0, 80, 81] ∧ (0 ≤ cc ∧ cc ≤ 7) ∧ h1.vl 42 0 = 0 ∧ ∃ R, kp cc.toNat = some R ∧ x = ((txR R (-1)).length : Int) ∧ TxQ h1 (txR R (-1)))) := by
    intro k h1 hk e1 ha
    have k1 : KP h h1 [] [0] := by rw [e1]; exact KP.rf.pf (by decide)
    have I1 : RI h1 := k1.ri hI
    have t0 : h1.vl 42 0 = k := by rw [e1]; rfl
    refine ev_aload_n dX11_tellKept_35 rfl ?_
    refine ev_getiv dX11_tellKept_36 fX11_161 I1.o I1.n rfl t0 ?_
    refine ev_ifeq 44 dX11_tellKept_39 (fun h_no => (by exfalso; omega)) (fun hb => ?_)
    refine ev_iconst dX11_tellKept_42 ?_
    exact ev_iret dX11_tellKept_43 (⟨_, rfl, Or.inl ⟨k1, by rw [t0]; exact ha⟩⟩)
  refine ev_aload_n dX11_tellKept_0 rfl ?_
  refine ev_iload_n dX11_tellKept_1 rfl ?_
  refine ev_iconst dX11_tellKept_2 ?_
  refine ev_bipush dX11_tellKept_3 ?_
  by_cases hw : 0 ≤ cc ∧ cc ≤ 7
  · skip
    refine ev_csi dX11_tellKept_5 lX11_164 (f_isIn1 hw) (by decide) rfl rfl (Nat.le_of_ble_eq_true rfl) rfl (fun r z2 q => ?_)
    obtain ⟨rfl, e⟩ := q
    rw [e]
    refine ev_ifne 15 dX11_tellKept_8 (fun hbr => ?_) (fun h_no => (by exfalso; omega))
    obtain ⟨c, hc⟩ : ∃ c : Nat, cc = (c : Int) := ⟨cc.toNat, by omega⟩
    have hcn : cc.toNat = c := by omega
    rw [hcn] at bad ⊢
    refine ev_aload_n dX11_tellKept_15 rfl ?_
    refine ev_getrv dX11_tellKept_16 fX11_13 hI.o hI.n rfl hI.v_v ?_
    refine ev_iload_n dX11_tellKept_19 rfl ?_
    refine ev_csi dX11_tellKept_20 lX11_278 (s_keptAt (l := cc) (by omega) (by omega)) (by decide) rfl rfl (Nat.le_of_ble_eq_true rfl) rfl (fun r z1 q => ?_)
    obtain ⟨rfl, e1⟩ := q
    rw [e1, show (369 : Int) + 25 * cc = ((369 + 25 * c : Nat) : Int) by omega]
    rcases hK.1 c (by omega) with ⟨q1, q2⟩ | ⟨R, q1, q2, q3, q4, q5⟩
    · skip
      refine ev_ildv dX11_tellKept_23 hI.k_v hI.n_v rfl (by omega) (by omega) q2 ?_
      refine ev_ifne 31 dX11_tellKept_24 (fun h_no => (by exfalso; omega)) (fun hb => ?_)
      refine ev_iconst dX11_tellKept_27 ?_
      refine ev_gt 32 dX11_tellKept_28 ?_
      refine ev_pt dX11_tellKept_32 fX11_161 hI.o hI.n rfl ?_
      exact bad 2 _ (by decide) rfl (Or.inr ⟨hw, rfl, q1⟩)
    have sp := sz_pos R
    refine ev_ildv dX11_tellKept_23 hI.k_v hI.n_v rfl (by omega) (by omega) q2 ?_
    refine ev_ifne 31 dX11_tellKept_24 (fun hb => ?_) (fun h_no => (by exfalso; omega))
    refine ev_iconst dX11_tellKept_31 ?_
    refine ev_pt dX11_tellKept_32 fX11_161 hI.o hI.n rfl ?_
    obtain ⟨h1, e2⟩ : ∃ h1, h1 = h.put 42 0 0 := ⟨_, rfl⟩
    rw [← e2]
    have k1 : KP h h1 [] [0] := by rw [e2]; exact KP.rf.pf (by decide)
    have I1 : RI h1 := k1.ri hI
    have t0 : h1.vl 42 0 = 0 := by rw [e2]; rfl
    refine ev_aload_n dX11_tellKept_35 rfl ?_
    refine ev_getiv dX11_tellKept_36 fX11_161 I1.o I1.n rfl t0 ?_
    refine ev_ifeq 44 dX11_tellKept_39 (fun hb2 => ?_) (fun h_no => (by exfalso; omega))
    refine ev_iconst dX11_tellKept_44 ?_
    refine ev_ist2 dX11_tellKept_45 ?_
    rw [hc]
    refine tk_loop I1 (by omega) (fun h2 v2 k2 hr => ?_) 24 0 h1 rfl KP.rf (fun i hi => absurd hi (Nat.not_lt_zero _))
    have I2 : RI h2 := k2.ri I1
    have hv : RwA (h2.vl 78) 0 (rowT R) := fun i hi => by
      have h9 : i < 24 := by rw [row_len] at hi; omega
      rw [Nat.zero_add, hr i h9, k1.vl]
      exact q4 i hi
    refine ev_aload_n dX11_tellKept_77 rfl ?_
    refine ev_cvi dX11_tellKept_78 lX11_452 (s_writesType (R := R) I2 hv (fun x h o => by have := q5 x h o; show x < 1000; omega) (by omega)) (by decide) I2.o I2.n rfl rfl rfl (Nat.le_of_ble_eq_true rfl) rfl (fun r3 h3 q => ?_)
    obtain ⟨rfl, k3, w3⟩ := q
    have U0 : h3.vl 42 0 = 0 := by rw [k3.fl, k2.fl]; exact t0
    exact ev_iret dX11_tellKept_81 (⟨_, rfl, Or.inr ⟨(k1.wk (by decide) (by decide)).tr ((k2.wk (by decide) (by decide)).tr (k3.wk (by decide) (by decide))), by omega, U0, R, q1, rfl, w3⟩⟩)
  refine ev_csi dX11_tellKept_5 lX11_164 (f_isIn0 hw) (by decide) rfl rfl (Nat.le_of_ble_eq_true rfl) rfl (fun r z2 q => ?_)
  obtain ⟨rfl, e⟩ := q
  rw [e]
  refine ev_ifne 15 dX11_tellKept_8 (fun h_no => (by exfalso; omega)) (fun hbr => ?_)
  refine ev_iconst dX11_tellKept_11 ?_
  refine ev_gt 32 dX11_tellKept_12 ?_
  refine ev_pt dX11_tellKept_32 fX11_161 hI.o hI.n rfl ?_
  exact bad 1 _ (by decide) rfl (Or.inl ⟨hw, rfl⟩)
