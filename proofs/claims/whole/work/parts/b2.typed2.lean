/-! more questions about types: the reference -/
set_option maxRecDepth 100000 in
theorem r_nodeType {p nd w : Int} {N : Nat} {LL : Nat → List Nd} {kp : Nat → Option TE} {h : AH} (hI : RI h) (hN : NV h N LL) (hK : KpJ h kp) (hst : 0 ≤ h.vl 42 50 ∧ h.vl 42 50 + 206010 ≤ 2147483000) :
    CV mX11_nodeType 10 [rv 42, iv p, iv nd, iv w] h (oi fun x h1 => TqH h h1 kp ∧ ((¬ ((0 ≤ p ∧ p < (N : Int)) ∧ (0 ≤ nd ∧ nd < ((LL p.toNat).length : Int))) ∧ h1.vl 42 0 = 1) ∨ (((0 ≤ p ∧ p < (N : Int)) ∧ (0 ≤ nd ∧ nd < ((LL p.toNat).length : Int))) ∧ ¬ (0 ≤ w ∧ w ≤ 4) ∧ h1.vl 42 0 = 2) ∨ (((0 ≤ p ∧ p < (N : Int)) ∧ (0 ≤ nd ∧ nd < ((LL p.toNat).length : Int))) ∧ (0 ≤ w ∧ w ≤ 4) ∧ ∃ r S, fnR (LL p.toNat) kp r S ∧ ((r.1 ≠ 0 ∧ h1.vl 42 0 = 3) ∨ (r.1 = 0 ∧ h1.vl 42 0 = 0 ∧ x = nuF (S.2.1 nd.toNat) w))))) := by
  refine cv_of cdX11_nodeType ?_
  show EV _ _ 0 [rv 42, iv p, iv nd, iv w] [] h _
  obtain ⟨PP, hPP⟩ : ∃ PP : Prop, PP = ((0 ≤ p ∧ p < (N : Int)) ∧ (0 ≤ nd ∧ nd < ((LL p.toNat).length : Int))) := ⟨_, rfl⟩
  rw [← hPP]
  have bad : ∀ (k : Int) (h1 h2 : AH), k ≠ 0 → h2 = h1.put 42 0 k → RI h1 → (KP h h1 RfA RfF ∧ KpJ h1 kp ∧ (h.vl 42 50 ≤ h1.vl 42 50 ∧ h1.vl 42 50 ≤ h.vl 42 50 + 206010)) → (∀ x, (¬ PP ∧ k = 1) ∨ (PP ∧ ¬ (0 ≤ w ∧ w ≤ 4) ∧ k = 2) ∨ (PP ∧ (0 ≤ w ∧ w ≤ 4) ∧ ∃ r S, fnR (LL p.toNat) kp r S ∧ ((r.1 ≠ 0 ∧ k = 3) ∨ (r.1 = 0 ∧ k = 0 ∧ x = nuF (S.2.1 nd.toNat) w)))) → EV mX11_nodeType 10 43 [rv 42, iv p, iv nd, iv w] [] h2 (oi fun x h1 => TqH h h1 kp ∧ ((¬ PP ∧ h1.vl 42 0 = 1) ∨ (PP ∧ ¬ (0 ≤ w ∧ w ≤ 4) ∧ h1.vl 42 0 = 2) ∨ (PP ∧ (0 ≤ w ∧ w ≤ 4) ∧ ∃ r S, fnR (LL p.toNat) kp r S ∧ ((r.1 ≠ 0 ∧ h1.vl 42 0 = 3) ∨ (r.1 = 0 ∧ h1.vl 42 0 = 0 ∧ x = nuF (S.2.1 nd.toNat) w))))) := by
    intro k h1 h2 hk e2 I1 H1 ha
    have k2 : KP h1 h2 [] [0] := by rw [e2]; exact KP.rf.pf (by decide)
    have I2 : RI h2 := k2.ri I1
    have t0 : h2.vl 42 0 = k := by rw [e2]; rfl
    have f50 : h2.vl 42 50 = h1.vl 42 50 := k2.fl
    refine ev_aload_n dX11_nodeType_43 rfl ?_
    refine ev_getiv dX11_nodeType_44 fX11_161 I2.o I2.n rfl t0 ?_
    refine ev_ifne 64 dX11_nodeType_47 (fun hb => ?_) (fun h_no => (by exfalso; omega))
    refine ev_iconst dX11_nodeType_64 ?_
    exact ev_iret dX11_nodeType_65 (⟨_, rfl, ⟨H1.1.tr (k2.wk (by decide) (by decide)), H1.2.1.kp k2, by rw [f50]; exact H1.2.2⟩, by rw [t0]; exact ha _⟩)
  refine ev_aload_n dX11_nodeType_0 rfl ?_
  refine ev_aload_n dX11_nodeType_1 rfl ?_
  refine ev_iload_n dX11_nodeType_2 rfl ?_
  refine ev_iload_n dX11_nodeType_3 rfl ?_
  refine ev_cvi dX11_nodeType_4 lX11_379 (s_isNode hI hN) (by decide) hI.o hI.n rfl rfl rfl (Nat.le_of_ble_eq_true rfl) rfl (fun r h1 q => ?_)
  obtain ⟨k1, hq⟩ := q
  rw [← hPP] at hq
  have I1 : RI h1 := k1.ri hI
  have K1 : KpJ h1 kp := hK.kp k1
  have f50 : h1.vl 42 50 = h.vl 42 50 := k1.fl
  have H1 : KP h h1 RfA RfF ∧ KpJ h1 kp ∧ (h.vl 42 50 ≤ h1.vl 42 50 ∧ h1.vl 42 50 ≤ h.vl 42 50 + 206010) := ⟨k1.wk (by decide) (by decide), K1, by omega⟩
  rcases hq with ⟨rfl, hq⟩ | ⟨rfl, hq, T1⟩
  · skip
    refine ev_ifne 14 dX11_nodeType_7 (fun h_no => (by exfalso; omega)) (fun hbr => ?_)
    refine ev_iconst dX11_nodeType_10 ?_
    refine ev_gt 40 dX11_nodeType_11 ?_
    refine ev_pt dX11_nodeType_40 fX11_161 I1.o I1.n rfl ?_
    exact bad 1 h1 _ (by decide) rfl I1 H1 (fun x => Or.inl ⟨hq, rfl⟩)
  have hq' : (0 ≤ p ∧ p < (N : Int)) ∧ (0 ≤ nd ∧ nd < ((LL p.toNat).length : Int)) := by rw [← hPP]; exact hq
  have hp := hq'.1
  refine ev_ifne 14 dX11_nodeType_7 (fun hbr => ?_) (fun h_no => (by exfalso; omega))
  refine ev_iload_n dX11_nodeType_14 rfl ?_
  refine ev_iconst dX11_nodeType_15 ?_
  refine ev_iconst dX11_nodeType_16 ?_
  by_cases hw : 0 ≤ w ∧ w ≤ 4
  · skip
    refine ev_csi dX11_nodeType_17 lX11_164 (f_isIn1 hw) (by decide) rfl rfl (Nat.le_of_ble_eq_true rfl) rfl (fun r z2 q => ?_)
    obtain ⟨rfl, e⟩ := q
    rw [e]
    refine ev_ifne 27 dX11_nodeType_20 (fun hbr => ?_) (fun h_no => (by exfalso; omega))
    refine ev_aload_n dX11_nodeType_27 rfl ?_
    refine ev_iload_n dX11_nodeType_28 rfl ?_
    refine ev_cvi dX11_nodeType_29 lX11_367 (i_finds I1 (hN.kp k1) K1 hp (by omega)) (by decide) I1.o I1.n rfl rfl rfl (Nat.le_of_ble_eq_true rfl) rfl (fun x h2 q => ?_)
    obtain ⟨q, K2⟩ := q
    obtain ⟨q1, q2, q3, r, S, q4, q5, q6, q7⟩ := q
    have I2 : RI h2 := q1.ri I1
    have H2 : KP h h2 RfA RfF ∧ KpJ h2 kp ∧ (h.vl 42 50 ≤ h2.vl 42 50 ∧ h2.vl 42 50 ≤ h.vl 42 50 + 206010) := ⟨H1.1.tr (q1.wk (by decide) (by decide)), K2, by omega⟩
    by_cases c : r.1 = 0
    · skip
      rw [if_pos c] at q6
      refine ev_ifeq 39 dX11_nodeType_32 (fun h_no => (by exfalso; omega)) (fun hb => ?_)
      refine ev_iconst dX11_nodeType_35 ?_
      refine ev_gt 40 dX11_nodeType_36 ?_
      refine ev_pt dX11_nodeType_40 fX11_161 I2.o I2.n rfl ?_
      obtain ⟨N1, n1, R1⟩ := q7 c
      obtain ⟨h3, e3⟩ : ∃ h3, h3 = h2.put 42 0 0 := ⟨_, rfl⟩
      rw [← e3]
      have k3 : KP h2 h3 [] [0] := by rw [e3]; exact KP.rf.pf (by decide)
      have I3 : RI h3 := k3.ri I2
      have t0 : h3.vl 42 0 = 0 := by rw [e3]; rfl
      have g50 : h3.vl 42 50 = h2.vl 42 50 := k3.fl
      have R2 := R1.kp k3
      obtain ⟨T, g2, s2, s3, s4, s5⟩ := R2
      obtain ⟨j, hj⟩ : ∃ j : Nat, nd = (j : Int) := ⟨nd.toNat, by omega⟩
      have hjn : nd.toNat = j := by omega
      have hl0 : j < (LL p.toNat).length := by omega
      obtain ⟨j9, a, a1, a2, a3⟩ := s2 j hl0
      have z9 := fnR_sz q4 c j hl0
      have a2' : h3.vl 84 nd.toNat = (a : Int) := by rw [hjn]; exact a2
      refine ev_aload_n dX11_nodeType_43 rfl ?_
      refine ev_getiv dX11_nodeType_44 fX11_161 I3.o I3.n rfl t0 ?_
      refine ev_ifne 64 dX11_nodeType_47 (fun h_no => (by exfalso; omega)) (fun hb2 => ?_)
      refine ev_aload_n dX11_nodeType_50 rfl ?_
      refine ev_aload_n dX11_nodeType_51 rfl ?_
      refine ev_getrv dX11_nodeType_52 fX11_137 I3.o I3.n rfl I3.v_type ?_
      refine ev_iload_n dX11_nodeType_55 rfl ?_
      refine ev_ildv dX11_nodeType_56 I3.k_type I3.n_type rfl (by omega) (by omega) a2' ?_
      refine ev_iload_n dX11_nodeType_57 rfl ?_
      refine ev_cvi dX11_nodeType_58 lX11_388 (s_numberN (t := a) I3 g2 a1 (by rw [a3]; exact z9) hw (by omega)) (by decide) I3.o I3.n rfl rfl rfl (Nat.le_of_ble_eq_true rfl) rfl (fun x h4 q => ?_)
      obtain ⟨rfl, k4, t4, g4⟩ := q
      have U0 : h4.vl 42 0 = 0 := by rw [k4.fl]; exact t0
      rw [a3]
      refine ev_gt 65 dX11_nodeType_61 ?_
      exact ev_iret dX11_nodeType_65 (⟨_, rfl, ⟨(H2.1.tr (k3.wk (by decide) (by decide))).tr (k4.wk (by decide) (by decide)), (K2.kp k3).st k4 g4.sn, by omega⟩, Or.inr (Or.inr ⟨hq, hw, r, S, q4, Or.inr ⟨c, U0, by rw [hjn]⟩⟩)⟩)
    rw [if_neg c] at q6
    refine ev_ifeq 39 dX11_nodeType_32 (fun hb => ?_) (fun h_no => (by exfalso; omega))
    refine ev_iconst dX11_nodeType_39 ?_
    refine ev_pt dX11_nodeType_40 fX11_161 I2.o I2.n rfl ?_
    exact bad 3 h2 _ (by decide) rfl I2 H2 (fun x => Or.inr (Or.inr ⟨hq, hw, r, S, q4, Or.inl ⟨c, rfl⟩⟩))
  refine ev_csi dX11_nodeType_17 lX11_164 (f_isIn0 hw) (by decide) rfl rfl (Nat.le_of_ble_eq_true rfl) rfl (fun r z2 q => ?_)
  obtain ⟨rfl, e⟩ := q
  rw [e]
  refine ev_ifne 27 dX11_nodeType_20 (fun h_no => (by exfalso; omega)) (fun hbr => ?_)
  refine ev_iconst dX11_nodeType_23 ?_
  refine ev_gt 40 dX11_nodeType_24 ?_
  refine ev_pt dX11_nodeType_40 fX11_161 I1.o I1.n rfl ?_
  exact bad 2 h1 _ (by decide) rfl I1 H1 (fun x => Or.inr (Or.inl ⟨hq, hw, rfl⟩))
