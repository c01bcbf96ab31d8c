/-! more questions about types: the reference -/
set_option maxRecDepth 100000 in
theorem r_nodeType {p nd w : Int} {N : Nat} {LL : Nat → List Nd} {kp : Nat → Option TE} {h : AH} (hI : RI h) (hN : NV h N LL) (hK : KpJ h kp) (hst : 0 ≤ h.vl 42 50 ∧ h.vl 42 50 + 206010 ≤ 2147483000) :
    CV mX11_nodeType 10 [rv 42, iv p, iv nd, iv w] h (oi fun x h1 => TqH h h1 kp ∧ ((¬ ((0 ≤ p ∧ p < (N : Int)) ∧ (0 ≤ nd ∧ nd < ((LL p.toNat).length : Int))) ∧ h1.vl 42 0 = 1) ∨ (((0 ≤ p ∧ p < (N : Int)) ∧ (0 ≤ nd ∧ nd < ((LL p.toNat).length : Int))) ∧ ¬ (0 ≤ w ∧ w ≤ 4) ∧ h1.vl 42 0 = 2) ∨ (((0 ≤ p ∧ p < (N : Int)) ∧ (0 ≤ nd ∧ nd < ((LL p.toNat).length : Int))) ∧ (0 ≤ w ∧ w ≤ 4) ∧ ∃ r S, fnR (LL p.toNat) kp r S ∧ ((r.1 ≠ 0 ∧ h1.vl 42 0 = 3) ∨ (r.1 = 0 ∧ h1.vl 42 0 = 0 ∧ x = nuF (S.2.1 nd.toNat) w))))) := by
  refine cv_of cdX11_nodeType ?_
  show EV _ _ 0 [rv 42, iv p, iv nd, iv w] [] h _
  obtain ⟨PP, hPP⟩ : ∃ PP : Prop, PP = ((0 ≤ p ∧ p < (N : Int)) ∧ (0 ≤ nd ∧ nd < ((LL p.toNat).length : Int))) := ⟨_, rfl⟩
  rw [← hPP]
  have bad : ∀ (k : Int) (h1 h2 : AH), k ≠ 0 → h2 = h1.put 42 0 k → RI h1 → (KP h h1 RfA RfF ∧ KpJ h1 kp ∧ (h.vl 42 50 ≤ h1.vl 42 50 ∧ h1.vl 42 50 ≤ h.vl 42 50 + 206010)) → (∀ x, (¬ PP ∧ k = 1) ∨ (PP ∧ ¬ (0 ≤ w ∧ w ≤ 4) ∧ k = 2) ∨ (PP ∧ (0 ≤ w ∧ w ≤ 4) ∧ ∃ r S, fnR (LL p.toNat) kp r S ∧ ((r.1 ≠ 0 ∧ k = 3) ∨ (r.1 = 0 ∧ k = 0 ∧ x = nuF (S.2.1 nd.toNat) w)))) → EV mX11_nodeType 10 43 [rv 42, iv p, iv nd, iv w] [] h2 (oi fun x h1 => TqH h h1 kp ∧ ((¬ PP ∧ h1.vl 42 0 = 1) ∨ (PP ∧ ¬ (0 ≤ w ∧ w ≤ 4) ∧ h1.vl 42 0 = 2) ∨ (PP ∧ (0 ≤ w ∧ w ≤ 4) ∧ ∃ r S, fnR (LL p.toNat) kp r S ∧ ((r.1 ≠ 0 ∧ h1.vl 42 0 = 3) ∨ (r.1 = 0 ∧ h1.vl 42 0 = 0 ∧ x = nuF (S.2.1 nd.toNat) w))))) := by
    intro k h1 h2 hk e2 I1 H1 ha
    have k2 : KP h1 h2 [] [0] := by rw [e2]; exact KP.rf.pf (by decide)
    have I2 : RI h2 := k2.ri I1
    have t0 : h2.vl 42 0 = k := by rw [e2]; rfl
    have f50 : h2.vl 42 50 = h1.vl 42 50 := k2.fl
    refine ev_aload_n dX11_nodeType_43 rfl ?_
    refine ev_getiv dX11_nodeType_44 fX11_161 I2.o I2.n rfl t0 ?_
    refine ev_ifne 64 dX11_nodeType_47 (fun hb => ?_) (fun h_no => (by exfalso; omega))
    refine ev_iconst dX11_nodeType_64 ?_
    exact ev_iret dX11_nodeType_65 (⟨_, rfl, ⟨H1.1.tr (k2.wk (by decide) (by decide)), H1.2.1.kp k2, by rw [f50]; exact H1.2.2⟩, by rw [t0]; exact ha _⟩)
  refine ev_aload_n dX11_nodeType_0 rfl ?_
  refine ev_aload_n dX11_nodeType_1 rfl ?_
  refine ev_iload_n dX11_nodeType_2 rfl ?_
  refine ev_iload_n dX11_nodeType_3 rfl ?_
  refine ev_cvi dX11_nodeType_4 lX11_379 (s_isNode hI hN) (by decide) hI.o hI.n rfl rfl rfl (Nat.le_of_ble_eq_true rfl) rfl (fun r h1 q => ?_)
  obtain ⟨k1, hq⟩ := q
  rw [← hPP] at hq
  have I1 : RI h1 := k1.ri hI
  have K1 : KpJ h1 kp := hK.kp k1
  have f50 : h1.vl 42 50 = h.vl 42 50 := k1.fl
  have H1 : KP h h1 RfA RfF ∧ KpJ h1 kp ∧ (h.vl 42 50 ≤ h1.vl 42 50 ∧ h1.vl 42 50 ≤ h.vl 42 50 + 206010) := ⟨k1.wk (by decide) (by decide), K1, by omega⟩
  rcases hq with ⟨rfl, hq⟩ | ⟨rfl, hq, T1⟩
  · skip
    refine ev_ifne 14 dX11_nodeType_7 (fun h_no => (by exfalso; omega)) (fun hbr => ?_)
    refine ev_iconst dX11_nodeType_10 ?_
    refine ev_gt 40 dX11_nodeType_11 ?_
    refine ev_pt dX11_nodeType_40 fX11_161 I1.o I1.n rfl ?_
    exact bad 1 h1 _ (by decide) rfl I1 H1 (fun x => Or.inl ⟨hq, rfl⟩)
  have hq' : (0 ≤ p ∧ p < (N : Int)) ∧ (0 ≤ nd ∧ nd < ((LL p.toNat).length : Int)) := by rw [← hPP]; exact hq
  have hp := hq'.1
  refine ev_ifne 14 dX11_nodeType_7 (fun hbr => ?_) (fun h_no => (by exfalso; omega))
  refine ev_iload_n dX11_nodeType_14 rfl ?_
  refine ev_iconst dX11_nodeType_15 ?_
  refine ev_iconst dX11_nodeType_16 ?_
  by_cases hw : 0 ≤ w ∧ w ≤ 4
  · skip
    refine ev_csi dX11_nodeType_17 lX11_164 (f_isIn1 hw) (by decide) rfl rfl (Nat.le_of_ble_eq_true rfl) rfl (fun r z2 q => ?_)
    obtain ⟨rfl, e⟩ := q
    rw [e]
    refine ev_ifne 27 dX11_nodeType_20 (fun hbr => ?_) (fun h_no => (by exfalso; omega))
    refine ev_aload_n dX11_nodeType_27 rfl ?_
    refine ev_iload_n dX11_nodeType_28 rfl ?_
    refine ev_cvi dX11_nodeType_29 lX11_367 (i_finds I1 (hN.kp k1) K1 hp (by omega)) (by decide) I1.o I1.n rfl rfl rfl (Nat.le_of_ble_eq_true rfl) rfl (fun x h2 q => ?_)
    obtain ⟨q, K2⟩ := q
    obtain ⟨q1, q2, q3, r, S, q4, q5, q6, q7⟩ := q
    have I2 : RI h2 := q1.ri I1
    have H2 : KP h h2 RfA RfF ∧ KpJ h2 kp ∧ (h.vl 42 50 ≤ h2.vl 42 50 ∧ h2.vl 42 50 ≤ h.vl 42 50 + 206010) := ⟨H1.1.tr (q1.wk (by decide) (by decide)), K2, by omega⟩
    by_cases c : r.1 = 0
    · skip
      rw [if_pos c] at q6
      refine ev_ifeq 39 dX11_nodeType_32 (fun h_no => (by exfalso; omega)) (fun hb => ?_)
      refine ev_iconst dX11_nodeType_35 ?_
      refine ev_gt 40 dX11_nodeType_36 ?_
      refine ev_pt dX11_nodeType_40 fX11_161 I2.o I2.n rfl ?_
      obtain ⟨N1, n1, R1⟩ := q7 c
      obtain ⟨h3, e3⟩ : ∃ h3, h3 = h2.put 42 0 0 := ⟨_, rfl⟩
      rw [← e3]
      have k3 : KP h2 h3 [] [0] := by rw [e3]; exact KP.rf.pf (by decide)
      have I3 : RI h3 := k3.ri I2
      have t0 : h3.vl 42 0 = 0 := by rw [e3]; rfl
      have g50 : h3.vl 42 50 = h2.vl 42 50 := k3.fl
      have R2 := R1.kp k3
      obtain ⟨T, g2, s2, s3, s4, s5⟩ := R2
      obtain ⟨j, hj⟩ : ∃ j : Nat, nd = (j : Int) := ⟨nd.toNat, by omega⟩
      have hjn : nd.toNat = j := by omega
      have hl0 : j < (LL p.toNat).length := by omega
      obtain ⟨j9, a, a1, a2, a3⟩ := s2 j hl0
      have z9 := fnR_sz q4 c j hl0
      have a2' : h3.vl 84 nd.toNat = (a : Int) := by rw [hjn]; exact a2
      refine ev_aload_n dX11_nodeType_43 rfl ?_
      refine ev_getiv dX11_nodeType_44 fX11_161 I3.o I3.n rfl t0 ?_
      refine ev_ifne 64 dX11_nodeType_47 (fun h_no => (by exfalso; omega)) (fun hb2 => ?_)
      refine ev_aload_n dX11_nodeType_50 rfl ?_
      refine ev_aload_n dX11_nodeType_51 rfl ?_
      refine ev_getrv dX11_nodeType_52 fX11_137 I3.o I3.n rfl I3.v_type ?_
      refine ev_iload_n dX11_nodeType_55 rfl ?_
      refine ev_ildv dX11_nodeType_56 I3.k_type I3.n_type rfl (by omega) (by omega) a2' ?_
      refine ev_iload_n dX11_nodeType_57 rfl ?_
      refine ev_cvi dX11_nodeType_58 lX11_388 (s_numberN (t := a) I3 g2 a1 (by rw [a3]; exact z9) hw (by omega)) (by decide) I3.o I3.n rfl rfl rfl (Nat.le_of_ble_eq_true rfl) rfl (fun x h4 q => ?_)
      obtain ⟨rfl, k4, t4, g4⟩ := q
      have U0 : h4.vl 42 0 = 0 := by rw [k4.fl]; exact t0
      rw [a3]
      refine ev_gt 65 dX11_nodeType_61 ?_
      exact ev_iret dX11_nodeType_65 (⟨_, rfl, ⟨(H2.1.tr (k3.wk (by decide) (by decide))).tr (k4.wk (by decide) (by decide)), (K2.kp k3).st k4 g4.sn, by omega⟩, Or.inr (Or.inr ⟨hq, hw, r, S, q4, Or.inr ⟨c, U0, by rw [hjn]⟩⟩)⟩)
    rw [if_neg c] at q6
    refine ev_ifeq 39 dX11_nodeType_32 (fun hb => ?_) (fun h_no => (by exfalso; omega))
    refine ev_iconst dX11_nodeType_39 ?_
    refine ev_pt dX11_nodeType_40 fX11_161 I2.o I2.n rfl ?_
    exact bad 3 h2 _ (by decide) rfl I2 H2 (fun x => Or.inr (Or.inr ⟨hq, hw, r, S, q4, Or.inl ⟨c, rfl⟩⟩))
  refine ev_csi dX11_nodeType_17 lX11_164 (f_isIn0 hw) (by decide) rfl rfl (Nat.le_of_ble_eq_true rfl) rfl (fun r z2 q => ?_)
  obtain ⟨rfl, e⟩ := q
  rw [e]
  refine ev_ifne 27 dX11_nodeType_20 (fun h_no => (by exfalso; omega)) (fun hbr => ?_)
  refine ev_iconst dX11_nodeType_23 ?_
  refine ev_gt 40 dX11_nodeType_24 ?_
  refine ev_pt dX11_nodeType_40 fX11_161 I1.o I1.n rfl ?_
  exact bad 2 h1 _ (by decide) rfl I1 H1 (fun x => Or.inr (Or.inl ⟨hq, hw, rfl⟩))
def irF (r : IR) (w : Int) : Int := if w = 0 then r.1 else if w = 1 then r.2.1 else if w = 2 then r.2.2.1 else r.2.2.2
set_option maxRecDepth 100000 in
theorem r_failure {p w : Int} {N : Nat} {LL : Nat → List Nd} {kp : Nat → Option TE} {h : AH} (hI : RI h) (hN : NV h N LL) (hK : KpJ h kp) (hst : 0 ≤ h.vl 42 50 ∧ h.vl 42 50 + 206010 ≤ 2147483000) :
    CV mX11_failure 10 [rv 42, iv p, iv w] h (oi fun x h1 => TqH h h1 kp ∧ ((¬ (0 ≤ p ∧ p < (N : Int)) ∧ h1.vl 42 0 = 1) ∨ ((0 ≤ p ∧ p < (N : Int)) ∧ ¬ (0 ≤ w ∧ w ≤ 3) ∧ h1.vl 42 0 = 2) ∨ ((0 ≤ p ∧ p < (N : Int)) ∧ (0 ≤ w ∧ w ≤ 3) ∧ ∃ r S, fnR (LL p.toNat) kp r S ∧ ((r.1 = 0 ∧ h1.vl 42 0 = 3) ∨ (r.1 ≠ 0 ∧ h1.vl 42 0 = 0 ∧ x = irF r w))))) := by
  refine cv_of cdX11_failure ?_
  show EV _ _ 0 [rv 42, iv p, iv w] [] h _
  have bad : ∀ (k : Int) (h1 h2 : AH), k ≠ 0 → h2 = h1.put 42 0 k → RI h1 → (KP h h1 RfA RfF ∧ KpJ h1 kp ∧ (h.vl 42 50 ≤ h1.vl 42 50 ∧ h1.vl 42 50 ≤ h.vl 42 50 + 206010)) → (∀ x, (¬ (0 ≤ p ∧ p < (N : Int)) ∧ k = 1) ∨ ((0 ≤ p ∧ p < (N : Int)) ∧ ¬ (0 ≤ w ∧ w ≤ 3) ∧ k = 2) ∨ ((0 ≤ p ∧ p < (N : Int)) ∧ (0 ≤ w ∧ w ≤ 3) ∧ ∃ r S, fnR (LL p.toNat) kp r S ∧ ((r.1 = 0 ∧ k = 3) ∨ (r.1 ≠ 0 ∧ k = 0 ∧ x = irF r w)))) → EV mX11_failure 10 42 [rv 42, iv p, iv w] [] h2 (oi fun x h1 => TqH h h1 kp ∧ ((¬ (0 ≤ p ∧ p < (N : Int)) ∧ h1.vl 42 0 = 1) ∨ ((0 ≤ p ∧ p < (N : Int)) ∧ ¬ (0 ≤ w ∧ w ≤ 3) ∧ h1.vl 42 0 = 2) ∨ ((0 ≤ p ∧ p < (N : Int)) ∧ (0 ≤ w ∧ w ≤ 3) ∧ ∃ r S, fnR (LL p.toNat) kp r S ∧ ((r.1 = 0 ∧ h1.vl 42 0 = 3) ∨ (r.1 ≠ 0 ∧ h1.vl 42 0 = 0 ∧ x = irF r w))))) := by
    intro k h1 h2 hk e2 I1 H1 ha
    have k2 : KP h1 h2 [] [0] := by rw [e2]; exact KP.rf.pf (by decide)
    have I2 : RI h2 := k2.ri I1
    have t0 : h2.vl 42 0 = k := by rw [e2]; rfl
    have f50 : h2.vl 42 50 = h1.vl 42 50 := k2.fl
    refine ev_aload_n dX11_failure_42 rfl ?_
    refine ev_getiv dX11_failure_43 fX11_161 I2.o I2.n rfl t0 ?_
    refine ev_ifeq 51 dX11_failure_46 (fun h_no => (by exfalso; omega)) (fun hb => ?_)
    refine ev_iconst dX11_failure_49 ?_
    exact ev_iret dX11_failure_50 (⟨_, rfl, ⟨H1.1.tr (k2.wk (by decide) (by decide)), H1.2.1.kp k2, by rw [f50]; exact H1.2.2⟩, by rw [t0]; exact ha _⟩)
  by_cases hp : 0 ≤ p ∧ p < (N : Int)
  · skip
    refine ev_aload_n dX11_failure_0 rfl ?_
    refine ev_aload_n dX11_failure_1 rfl ?_
    refine ev_iload_n dX11_failure_2 rfl ?_
    refine ev_cvi dX11_failure_3 lX11_361 (i_les1 hI hN hp) (by decide) hI.o hI.n rfl rfl rfl (Nat.le_of_ble_eq_true rfl) rfl (fun r z1 q => ?_)
    obtain ⟨rfl, e⟩ := q
    rw [e]
    refine ev_ifne 13 dX11_failure_6 (fun hbr => ?_) (fun h_no => (by exfalso; omega))
    refine ev_iload_n dX11_failure_13 rfl ?_
    refine ev_iconst dX11_failure_14 ?_
    refine ev_iconst dX11_failure_15 ?_
    by_cases hw : 0 ≤ w ∧ w ≤ 3
    · skip
      refine ev_csi dX11_failure_16 lX11_164 (f_isIn1 hw) (by decide) rfl rfl (Nat.le_of_ble_eq_true rfl) rfl (fun r z2 q => ?_)
      obtain ⟨rfl, e⟩ := q
      rw [e]
      refine ev_ifne 26 dX11_failure_19 (fun hbr => ?_) (fun h_no => (by exfalso; omega))
      refine ev_aload_n dX11_failure_26 rfl ?_
      refine ev_iload_n dX11_failure_27 rfl ?_
      refine ev_cvi dX11_failure_28 lX11_367 (i_finds hI hN hK hp (by omega)) (by decide) hI.o hI.n rfl rfl rfl (Nat.le_of_ble_eq_true rfl) rfl (fun x h1 q => ?_)
      obtain ⟨q, K1⟩ := q
      obtain ⟨q1, q2, q3, r, S, q4, q5, q6, q7⟩ := q
      have I1 : RI h1 := q1.ri hI
      have H1 : KP h h1 RfA RfF ∧ KpJ h1 kp ∧ (h.vl 42 50 ≤ h1.vl 42 50 ∧ h1.vl 42 50 ≤ h.vl 42 50 + 206010) := ⟨q1.wk (by decide) (by decide), K1, by omega⟩
      by_cases c : r.1 = 0
      · skip
        rw [if_pos c] at q6
        refine ev_ifeq 38 dX11_failure_31 (fun h_no => (by exfalso; omega)) (fun hb => ?_)
        refine ev_iconst dX11_failure_34 ?_
        refine ev_gt 39 dX11_failure_35 ?_
        refine ev_pt dX11_failure_39 fX11_161 I1.o I1.n rfl ?_
        exact bad 3 h1 _ (by decide) rfl I1 H1 (fun x => Or.inr (Or.inr ⟨hp, hw, r, S, q4, Or.inl ⟨c, rfl⟩⟩))
      rw [if_neg c] at q6
      refine ev_ifeq 38 dX11_failure_31 (fun hb => ?_) (fun h_no => (by exfalso; omega))
      refine ev_iconst dX11_failure_38 ?_
      refine ev_pt dX11_failure_39 fX11_161 I1.o I1.n rfl ?_
      obtain ⟨y1, y2, -⟩ := q5
      obtain ⟨y3, y4, y5⟩ := y2 c
      obtain ⟨h2, e2⟩ : ∃ h2, h2 = h1.put 42 0 0 := ⟨_, rfl⟩
      rw [← e2]
      have k2 : KP h1 h2 [] [0] := by rw [e2]; exact KP.rf.pf (by decide)
      have I2 : RI h2 := k2.ri I1
      have t0 : h2.vl 42 0 = 0 := by rw [e2]; rfl
      have f50 : h2.vl 42 50 = h1.vl 42 50 := k2.fl
      have z1 : h2.vl 42 52 = r.1 := (k2.fl).trans y1
      have z2 : h2.vl 42 53 = r.2.1 := (k2.fl).trans y3
      have z3 : h2.vl 42 54 = r.2.2.1 := (k2.fl).trans y4
      have z4 : h2.vl 42 55 = r.2.2.2 := (k2.fl).trans y5
      have fin : ∀ x, x = irF r w → (TqH h h2 kp ∧ ((¬ (0 ≤ p ∧ p < (N : Int)) ∧ h2.vl 42 0 = 1) ∨ ((0 ≤ p ∧ p < (N : Int)) ∧ ¬ (0 ≤ w ∧ w ≤ 3) ∧ h2.vl 42 0 = 2) ∨ ((0 ≤ p ∧ p < (N : Int)) ∧ (0 ≤ w ∧ w ≤ 3) ∧ ∃ r S, fnR (LL p.toNat) kp r S ∧ ((r.1 = 0 ∧ h2.vl 42 0 = 3) ∨ (r.1 ≠ 0 ∧ h2.vl 42 0 = 0 ∧ x = irF r w))))) := fun x hx => ⟨⟨H1.1.tr (k2.wk (by decide) (by decide)), K1.kp k2, by omega⟩, Or.inr (Or.inr ⟨hp, hw, r, S, q4, Or.inr ⟨c, t0, hx⟩⟩)⟩
      refine ev_aload_n dX11_failure_42 rfl ?_
      refine ev_getiv dX11_failure_43 fX11_161 I2.o I2.n rfl t0 ?_
      refine ev_ifeq 51 dX11_failure_46 (fun hb2 => ?_) (fun h_no => (by exfalso; omega))
      refine ev_iload_n dX11_failure_51 rfl ?_
      by_cases c0 : w = 0
      · skip
        refine ev_ifne 62 dX11_failure_52 (fun h_no => (by exfalso; omega)) (fun hb3 => ?_)
        refine ev_aload_n dX11_failure_55 rfl ?_
        refine ev_getiv dX11_failure_56 fX11_242 I2.o I2.n rfl z1 ?_
        refine ev_gt 90 dX11_failure_59 ?_
        exact ev_iret dX11_failure_90 (⟨_, rfl, fin _ (by rw [irF, if_pos c0])⟩)
      refine ev_ifne 62 dX11_failure_52 (fun hb3 => ?_) (fun h_no => (by exfalso; omega))
      refine ev_iload_n dX11_failure_62 rfl ?_
      refine ev_iconst dX11_failure_63 ?_
      by_cases c1 : w = 1
      · skip
        refine ev_icmpne 74 dX11_failure_64 (fun h_no => (by exfalso; omega)) (fun hb4 => ?_)
        refine ev_aload_n dX11_failure_67 rfl ?_
        refine ev_getiv dX11_failure_68 fX11_275 I2.o I2.n rfl z2 ?_
        refine ev_gt 90 dX11_failure_71 ?_
        exact ev_iret dX11_failure_90 (⟨_, rfl, fin _ (by rw [irF, if_neg c0, if_pos c1])⟩)
      refine ev_icmpne 74 dX11_failure_64 (fun hb4 => ?_) (fun h_no => (by exfalso; omega))
      refine ev_iload_n dX11_failure_74 rfl ?_
      refine ev_iconst dX11_failure_75 ?_
      by_cases c2 : w = 2
      · skip
        refine ev_icmpne 86 dX11_failure_76 (fun h_no => (by exfalso; omega)) (fun hb5 => ?_)
        refine ev_aload_n dX11_failure_79 rfl ?_
        refine ev_getiv dX11_failure_80 fX11_245 I2.o I2.n rfl z3 ?_
        refine ev_gt 90 dX11_failure_83 ?_
        exact ev_iret dX11_failure_90 (⟨_, rfl, fin _ (by rw [irF, if_neg c0, if_neg c1, if_pos c2])⟩)
      refine ev_icmpne 86 dX11_failure_76 (fun hb5 => ?_) (fun h_no => (by exfalso; omega))
      refine ev_aload_n dX11_failure_86 rfl ?_
      refine ev_getiv dX11_failure_87 fX11_248 I2.o I2.n rfl z4 ?_
      exact ev_iret dX11_failure_90 (⟨_, rfl, fin _ (by rw [irF, if_neg c0, if_neg c1, if_neg c2])⟩)
    refine ev_csi dX11_failure_16 lX11_164 (f_isIn0 hw) (by decide) rfl rfl (Nat.le_of_ble_eq_true rfl) rfl (fun r z2 q => ?_)
    obtain ⟨rfl, e⟩ := q
    rw [e]
    refine ev_ifne 26 dX11_failure_19 (fun h_no => (by exfalso; omega)) (fun hbr => ?_)
    refine ev_iconst dX11_failure_22 ?_
    refine ev_gt 39 dX11_failure_23 ?_
    refine ev_pt dX11_failure_39 fX11_161 hI.o hI.n rfl ?_
    exact bad 2 h _ (by decide) rfl hI ⟨KP.rf, hK, by omega⟩ (fun x => Or.inr (Or.inl ⟨hp, hw, rfl⟩))
  refine ev_aload_n dX11_failure_0 rfl ?_
  refine ev_aload_n dX11_failure_1 rfl ?_
  refine ev_iload_n dX11_failure_2 rfl ?_
  refine ev_cvi dX11_failure_3 lX11_361 (i_les0 hI hN hp) (by decide) hI.o hI.n rfl rfl rfl (Nat.le_of_ble_eq_true rfl) rfl (fun r z1 q => ?_)
  obtain ⟨rfl, e⟩ := q
  rw [e]
  refine ev_ifne 13 dX11_failure_6 (fun h_no => (by exfalso; omega)) (fun hbr => ?_)
  refine ev_iconst dX11_failure_9 ?_
  refine ev_gt 39 dX11_failure_10 ?_
  refine ev_pt dX11_failure_39 fX11_161 hI.o hI.n rfl ?_
  exact bad 1 h _ (by decide) rfl hI ⟨KP.rf, hK, by omega⟩ (fun x => Or.inl ⟨hp, rfl⟩)
