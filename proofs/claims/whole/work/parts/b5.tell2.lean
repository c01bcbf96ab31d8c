/-! the reference tells a node's type -/
set_option maxRecDepth 100000 in
theorem r_tellNode {p nd : Int} {N : Nat} {LL : Nat → List Nd} {kp : Nat → Option TE} {h : AH} (hI : RI h) (hN : NV h N LL) (hK : KpJ h kp) (hst : 0 ≤ h.vl 42 50 ∧ h.vl 42 50 + 206010 ≤ 2147483000) :
    CV mX11_tellNode 10 [rv 42, iv p, iv nd] h (oi fun x h1 => (TqH h h1 kp ∧ ((¬ ((0 ≤ p ∧ p < (N : Int)) ∧ (0 ≤ nd ∧ nd < ((LL p.toNat).length : Int))) ∧ h1.vl 42 0 = 1) ∨ (((0 ≤ p ∧ p < (N : Int)) ∧ (0 ≤ nd ∧ nd < ((LL p.toNat).length : Int))) ∧ h1.vl 42 0 = 2 ∧ ∃ r S, fnR (LL p.toNat) kp r S ∧ r.1 ≠ 0))) ∨ (TxH h h1 kp ∧ ((0 ≤ p ∧ p < (N : Int)) ∧ (0 ≤ nd ∧ nd < ((LL p.toNat).length : Int))) ∧ h1.vl 42 0 = 0 ∧ ∃ r S, fnR (LL p.toNat) kp r S ∧ r.1 = 0 ∧ x = ((txR (cnR (S.2.1 nd.toNat) []) (-1)).length : Int) ∧ TxQ h1 (txR (cnR (S.2.1 nd.toNat) []) (-1)))) := by
  refine cv_of cdX11_tellNode ?_
  show EV _ _ 0 [rv 42, iv p, iv nd] [] h _
  refine ev_aload_n dX11_tellNode_0 rfl ?_
  refine ev_aload_n dX11_tellNode_1 rfl ?_
  refine ev_iload_n dX11_tellNode_2 rfl ?_
  refine ev_iload_n dX11_tellNode_3 rfl ?_
  refine ev_cvi dX11_tellNode_4 lX11_379 (s_isNode hI hN) (by decide) hI.o hI.n rfl rfl rfl (Nat.le_of_ble_eq_true rfl) rfl (fun r h0 q => ?_)
  obtain ⟨k0, hq⟩ := q
  have I0 : RI h0 := k0.ri hI
  have K0 : KpJ h0 kp := hK.kp k0
  have f0 : h0.vl 42 50 = h.vl 42 50 := k0.fl
  rcases hq with ⟨rfl, hq⟩ | ⟨rfl, hq, T1⟩
  · skip
    refine ev_ifne 14 dX11_tellNode_7 (fun h_no => (by exfalso; omega)) (fun hbr => ?_)
    refine ev_iconst dX11_tellNode_10 ?_
    refine ev_gt 27 dX11_tellNode_11 ?_
    refine ev_pt dX11_tellNode_27 fX11_161 I0.o I0.n rfl ?_
    obtain ⟨h1, e1⟩ : ∃ h1, h1 = h0.put 42 0 1 := ⟨_, rfl⟩
    rw [← e1]
    have k1 : KP h0 h1 [] [0] := by rw [e1]; exact KP.rf.pf (by decide)
    have I1 : RI h1 := k1.ri I0
    have t0 : h1.vl 42 0 = 1 := by rw [e1]; rfl
    have f50 : h1.vl 42 50 = h0.vl 42 50 := k1.fl
    refine ev_aload_n dX11_tellNode_30 rfl ?_
    refine ev_getiv dX11_tellNode_31 fX11_161 I1.o I1.n rfl t0 ?_
    refine ev_ifeq 39 dX11_tellNode_34 (fun h_no => (by exfalso; omega)) (fun hb => ?_)
    refine ev_iconst dX11_tellNode_37 ?_
    exact ev_iret dX11_tellNode_38 (⟨_, rfl, Or.inl ⟨⟨(k0.wk (by decide) (by decide)).tr (k1.wk (by decide) (by decide)), K0.kp k1, by omega⟩, Or.inl ⟨hq, t0⟩⟩⟩)
  have hp := hq.1
  refine ev_ifne 14 dX11_tellNode_7 (fun hbr => ?_) (fun h_no => (by exfalso; omega))
  refine ev_aload_n dX11_tellNode_14 rfl ?_
  refine ev_iload_n dX11_tellNode_15 rfl ?_
  refine ev_cvi dX11_tellNode_16 lX11_367 (i_finds I0 (hN.kp k0) K0 hp (by omega)) (by decide) I0.o I0.n rfl rfl rfl (Nat.le_of_ble_eq_true rfl) rfl (fun x h1 q => ?_)
  obtain ⟨q, K1⟩ := q
  obtain ⟨q1, q2, q3, r, S, q4, q5, q6, q7⟩ := q
  have I1 : RI h1 := q1.ri I0
  by_cases c : r.1 = 0
  · skip
    rw [if_pos c] at q6
    refine ev_ifeq 26 dX11_tellNode_19 (fun h_no => (by exfalso; omega)) (fun hb => ?_)
    refine ev_iconst dX11_tellNode_22 ?_
    refine ev_gt 27 dX11_tellNode_23 ?_
    refine ev_pt dX11_tellNode_27 fX11_161 I1.o I1.n rfl ?_
    obtain ⟨N1, n1, R1⟩ := q7 c
    obtain ⟨h2, e2⟩ : ∃ h2, h2 = h1.put 42 0 0 := ⟨_, rfl⟩
    rw [← e2]
    have k2 : KP h1 h2 [] [0] := by rw [e2]; exact KP.rf.pf (by decide)
    have I2 : RI h2 := k2.ri I1
    have t0 : h2.vl 42 0 = 0 := by rw [e2]; rfl
    have f50 : h2.vl 42 50 = h1.vl 42 50 := k2.fl
    have R2 := R1.kp k2
    obtain ⟨T, g2, s2, s3, s4, s5⟩ := R2
    obtain ⟨j, hj⟩ : ∃ j : Nat, nd = (j : Int) := ⟨nd.toNat, by omega⟩
    have hjn : nd.toNat = j := by omega
    have hl0 : j < (LL p.toNat).length := by omega
    obtain ⟨j9, a, a1, a2, a3⟩ := s2 j hl0
    have z9 := fnR_sz q4 c j hl0
    have a2' : h2.vl 84 nd.toNat = (a : Int) := by rw [hjn]; exact a2
    refine ev_aload_n dX11_tellNode_30 rfl ?_
    refine ev_getiv dX11_tellNode_31 fX11_161 I2.o I2.n rfl t0 ?_
    refine ev_ifeq 39 dX11_tellNode_34 (fun hb2 => ?_) (fun h_no => (by exfalso; omega))
    refine ev_aload_n dX11_tellNode_39 rfl ?_
    refine ev_aload_n dX11_tellNode_40 rfl ?_
    refine ev_getrv dX11_tellNode_41 fX11_137 I2.o I2.n rfl I2.v_type ?_
    refine ev_iload_n dX11_tellNode_44 rfl ?_
    refine ev_ildv dX11_tellNode_45 I2.k_type I2.n_type rfl (by omega) (by omega) a2' ?_
    refine ev_cvv dX11_tellNode_46 lX11_370 (s_writesN (t := a) I2 g2 a1 (by rw [a3]; exact z9) (by unfold ir; omega)) (by decide) I2.o I2.n rfl rfl rfl (Nat.le_of_ble_eq_true rfl) rfl (fun h3 q => ?_)
    obtain ⟨k3, t3, g3, w3⟩ := q
    rw [a3] at w3
    have I3 : RI h3 := k3.ri I2
    refine ev_aload_n dX11_tellNode_49 rfl ?_
    refine ev_cvi dX11_tellNode_50 lX11_452 (i_writesType I3 w3 z9) (by decide) I3.o I3.n rfl rfl rfl (Nat.le_of_ble_eq_true rfl) rfl (fun r2 h4 q => ?_)
    obtain ⟨rfl, k4, w4⟩ := q
    have U0 : h4.vl 42 0 = 0 := by rw [k4.fl, k3.fl]; exact t0
    have f4 : h4.vl 42 50 = h3.vl 42 50 := k4.fl
    exact ev_iret dX11_tellNode_53 (⟨_, rfl, Or.inr ⟨⟨((k0.wk (by decide) (by decide)).tr (q1.wk (by decide) (by decide))).tr ((k2.wk (by decide) (by decide)).tr ((k3.wk (by decide) (by decide)).tr (k4.wk (by decide) (by decide)))), ((K1.kp k2).st k3 g3.sn).kp k4, by omega⟩, hq, U0, r, S, q4, c, by rw [hjn], by rw [hjn]; exact w4⟩⟩)
  rw [if_neg c] at q6
  refine ev_ifeq 26 dX11_tellNode_19 (fun hb => ?_) (fun h_no => (by exfalso; omega))
  refine ev_iconst dX11_tellNode_26 ?_
  refine ev_pt dX11_tellNode_27 fX11_161 I1.o I1.n rfl ?_
  obtain ⟨h2, e2⟩ : ∃ h2, h2 = h1.put 42 0 2 := ⟨_, rfl⟩
  rw [← e2]
  have k2 : KP h1 h2 [] [0] := by rw [e2]; exact KP.rf.pf (by decide)
  have I2 : RI h2 := k2.ri I1
  have t0 : h2.vl 42 0 = 2 := by rw [e2]; rfl
  have f50 : h2.vl 42 50 = h1.vl 42 50 := k2.fl
  refine ev_aload_n dX11_tellNode_30 rfl ?_
  refine ev_getiv dX11_tellNode_31 fX11_161 I2.o I2.n rfl t0 ?_
  refine ev_ifeq 39 dX11_tellNode_34 (fun h_no => (by exfalso; omega)) (fun hb2 => ?_)
  refine ev_iconst dX11_tellNode_37 ?_
  exact ev_iret dX11_tellNode_38 (⟨_, rfl, Or.inl ⟨⟨((k0.wk (by decide) (by decide)).tr (q1.wk (by decide) (by decide))).tr (k2.wk (by decide) (by decide)), K1.kp k2, by omega⟩, Or.inr ⟨hq, t0, r, S, q4, c⟩⟩⟩)
