/-! two lessons' types as rows: the reference -/
set_option maxRecDepth 100000 in
theorem r_largest {h : AH} {N : Nat} {LL : Nat → List Nd} {kp : Nat → Option TE} (hI : RI h) (hN : NV h N LL) (hK : KpJ h kp) (hst : 0 ≤ h.vl 42 50 ∧ h.vl 42 50 + 206010 * 6 ≤ 2147483000) :
    CV mX11_largest 11 [rv 42] h (oi fun x h1 => KP h h1 RfA (0 :: OfF) ∧ KpJ h1 kp ∧ (h.vl 42 50 ≤ h1.vl 42 50 ∧ h1.vl 42 50 ≤ h.vl 42 50 + 206010 * 6) ∧ ∃ b z, lgR LL kp N b z ∧ ((b < 0 ∧ h1.vl 42 0 = 1) ∨ (0 ≤ b ∧ h1.vl 42 0 = 0 ∧ x = b))) := by
  refine cv_of cdX11_largest ?_
  show EV _ _ 0 [rv 42, uv, uv, uv, uv] [] h _
  refine ev_iconst dX11_largest_0 ?_
  refine ev_ist1 dX11_largest_1 ?_
  refine ev_iconst dX11_largest_2 ?_
  refine ev_ist2 dX11_largest_3 ?_
  refine ev_iconst dX11_largest_4 ?_
  refine ev_ist3 dX11_largest_5 ?_
  exact lg_loop hI hN N 0 (-1) 0 h _ (by omega) KP.rf hK ⟨rfl, rfl⟩ (by omega) hst.2
/-- a row copied so far -/
def CpR (h h0 : AH) (a k : Nat) : Prop := ∀ i, i < k → h.vl a i = h0.vl 78 i
theorem cp_st {h h0 : AH} {a k : Nat} {x : Int} (hr : CpR h h0 a k) (hx : h0.vl 78 k = x) : CpR (h.put a k x) h0 a (k + 1) := fun i hi => by
  rw [AH.put_vl]
  by_cases z : i = k
  · rw [if_pos ⟨rfl, z⟩, z, hx]
  · rw [if_neg (fun w => z w.2)]; exact hr i (by omega)
set_option maxRecDepth 100000 in
theorem bo_one {h0 : AH} {n : Nat} {p q : Int} {Q : AV → AH → Prop} (hI0 : RI h0) (hn : h0.vl 42 59 = (n : Int)) (hn9 : n ≤ 209) (K : ∀ h1 v3, KP h0 h1 [79] [] → CpR h1 h0 79 n → EV mX11_both 10 56 [rv 42, iv p, iv q, v3] [] h1 Q) : ∀ (m k : Nat) (h : AH), k + m = n → KP h0 h [79] [] → CpR h h0 79 k → EV mX11_both 10 30 [rv 42, iv p, iv q, iv (k : Int)] [] h Q
  | 0, k, h, hk, k0, hr => by
    obtain rfl : k = n := by omega
    have hn' : h.vl 42 59 = (k : Int) := (k0.fl).trans hn
    refine ev_iload_n dX11_both_30 rfl ?_
    refine ev_aload_n dX11_both_31 rfl ?_
    refine ev_getiv dX11_both_32 fX11_262 (k0.ri hI0).o (k0.ri hI0).n rfl hn' ?_
    refine ev_icmpge 56 dX11_both_35 (fun hb => ?_) (fun h_no => (by exfalso; omega))
    exact K h _ k0 hr
  | m + 1, k, h, hk, k0, hr => by
    have hI : RI h := k0.ri hI0
    have hn' : h.vl 42 59 = (n : Int) := (k0.fl).trans hn
    obtain ⟨x, hx⟩ : ∃ x, h0.vl 78 k = x := ⟨_, rfl⟩
    have hx2 : h.vl 78 k = x := by rw [k0.vl]; exact hx
    refine ev_iload_n dX11_both_30 rfl ?_
    refine ev_aload_n dX11_both_31 rfl ?_
    refine ev_getiv dX11_both_32 fX11_262 hI.o hI.n rfl hn' ?_
    refine ev_icmpge 56 dX11_both_35 (fun h_no => (by exfalso; omega)) (fun hb => ?_)
    refine ev_aload_n dX11_both_38 rfl ?_
    refine ev_getrv dX11_both_39 fX11_122 hI.o hI.n rfl hI.v_one ?_
    refine ev_iload_n dX11_both_42 rfl ?_
    refine ev_aload_n dX11_both_43 rfl ?_
    refine ev_getrv dX11_both_44 fX11_119 hI.o hI.n rfl hI.v_rowOfType ?_
    refine ev_iload_n dX11_both_47 rfl ?_
    refine ev_ildv dX11_both_48 hI.k_rowOfType hI.n_rowOfType rfl (by omega) (by omega) hx2 ?_
    refine ev_istr dX11_both_49 hI.k_one hI.n_one rfl (by omega) (by omega) ?_
    rw [show ((k : Nat) : Int).toNat = k from rfl]
    refine ev_iin3 dX11_both_50 (by unfold ir; omega) ?_
    refine ev_gt 30 dX11_both_53 ?_
    rw [show (k : Int) + 1 = ((k + 1 : Nat) : Int) by omega]
    exact bo_one hI0 hn hn9 K m (k + 1) _ (by omega) (k0.tr (KP.rf.pr (by decide) (by decide))) (cp_st hr hx)
set_option maxRecDepth 100000 in
theorem bo_two {h0 : AH} {n : Nat} {p q : Int} {Q : AV → AH → Prop} (hI0 : RI h0) (hn : h0.vl 42 59 = (n : Int)) (hn9 : n ≤ 209) (K : ∀ h1 v3, KP h0 h1 [80] [] → CpR h1 h0 80 n → EV mX11_both 10 112 [rv 42, iv p, iv q, v3] [] h1 Q) : ∀ (m k : Nat) (h : AH), k + m = n → KP h0 h [80] [] → CpR h h0 80 k → EV mX11_both 10 86 [rv 42, iv p, iv q, iv (k : Int)] [] h Q
  | 0, k, h, hk, k0, hr => by
    obtain rfl : k = n := by omega
    have hn' : h.vl 42 59 = (k : Int) := (k0.fl).trans hn
    refine ev_iload_n dX11_both_86 rfl ?_
    refine ev_aload_n dX11_both_87 rfl ?_
    refine ev_getiv dX11_both_88 fX11_262 (k0.ri hI0).o (k0.ri hI0).n rfl hn' ?_
    refine ev_icmpge 112 dX11_both_91 (fun hb => ?_) (fun h_no => (by exfalso; omega))
    exact K h _ k0 hr
  | m + 1, k, h, hk, k0, hr => by
    have hI : RI h := k0.ri hI0
    have hn' : h.vl 42 59 = (n : Int) := (k0.fl).trans hn
    obtain ⟨x, hx⟩ : ∃ x, h0.vl 78 k = x := ⟨_, rfl⟩
    have hx2 : h.vl 78 k = x := by rw [k0.vl]; exact hx
    refine ev_iload_n dX11_both_86 rfl ?_
    refine ev_aload_n dX11_both_87 rfl ?_
    refine ev_getiv dX11_both_88 fX11_262 hI.o hI.n rfl hn' ?_
    refine ev_icmpge 112 dX11_both_91 (fun h_no => (by exfalso; omega)) (fun hb => ?_)
    refine ev_aload_n dX11_both_94 rfl ?_
    refine ev_getrv dX11_both_95 fX11_125 hI.o hI.n rfl hI.v_two ?_
    refine ev_iload_n dX11_both_98 rfl ?_
    refine ev_aload_n dX11_both_99 rfl ?_
    refine ev_getrv dX11_both_100 fX11_119 hI.o hI.n rfl hI.v_rowOfType ?_
    refine ev_iload_n dX11_both_103 rfl ?_
    refine ev_ildv dX11_both_104 hI.k_rowOfType hI.n_rowOfType rfl (by omega) (by omega) hx2 ?_
    refine ev_istr dX11_both_105 hI.k_two hI.n_two rfl (by omega) (by omega) ?_
    rw [show ((k : Nat) : Int).toNat = k from rfl]
    refine ev_iin3 dX11_both_106 (by unfold ir; omega) ?_
    refine ev_gt 86 dX11_both_109 ?_
    rw [show (k : Int) + 1 = ((k + 1 : Nat) : Int) by omega]
    exact bo_two hI0 hn hn9 K m (k + 1) _ (by omega) (k0.tr (KP.rf.pr (by decide) (by decide))) (cp_st hr hx)
abbrev BoA : List Nat := [47, 48, 49, 50, 51, 52, 53, 54, 55, 56, 57, 58, 59, 60, 61, 62, 63, 64, 65, 66, 67, 68, 69, 70, 71, 72, 73, 74, 75, 76, 77, 78, 79, 80, 81, 83, 84, 85, 86, 87]
abbrev BoF : List Nat := [34, 35, 36, 49, 50, 51, 52, 53, 54, 55, 59, 60, 68, 73, 74]
/-- the rows of two types -/
def TwQ (h1 : AH) (A B : TE) : Prop := (h1.vl 42 73 = (sz A : Int) ∧ RwA (h1.vl 79) 0 (cnT A []).1) ∧ h1.vl 42 74 = (sz B : Int) ∧ RwA (h1.vl 80) 0 (cnT B []).1
def BoR (L L' : List Nd) (kp : Nat → Option TE) (x : Int) (h1 : AH) : Prop := ∃ r S, fnR L kp r S ∧ ((r.1 ≠ 0 ∧ x = 0) ∨ (r.1 = 0 ∧ ∃ r' S', fnR L' kp r' S' ∧ ((r'.1 ≠ 0 ∧ x = 0) ∨ (r'.1 = 0 ∧ x = 1 ∧ TwQ h1 (S.2.1 0) (S'.2.1 0) ∧ sz (S.2.1 0) ≤ 200 ∧ sz (S'.2.1 0) ≤ 200))))
set_option maxRecDepth 100000 in
theorem s_both {p q : Int} {N : Nat} {LL : Nat → List Nd} {kp : Nat → Option TE} {h : AH} (hI : RI h) (hN : NV h N LL) (hK : KpJ h kp) (hp : 0 ≤ p ∧ p < (N : Int)) (hq : 0 ≤ q ∧ q < (N : Int)) (hst : 0 ≤ h.vl 42 50 ∧ h.vl 42 50 + 412020 ≤ 2147483000) :
    CV mX11_both 10 [rv 42, iv p, iv q] h (oi fun x h1 => KP h h1 BoA BoF ∧ KpJ h1 kp ∧ (h.vl 42 50 ≤ h1.vl 42 50 ∧ h1.vl 42 50 ≤ h.vl 42 50 + 412020) ∧ BoR (LL p.toNat) (LL q.toNat) kp x h1) := by
  refine cv_of cdX11_both ?_
  show EV _ _ 0 [rv 42, iv p, iv q, uv] [] h _
  refine ev_aload_n dX11_both_0 rfl ?_
  refine ev_iload_n dX11_both_1 rfl ?_
  refine ev_cvi dX11_both_2 lX11_367 (i_finds hI hN hK hp (by omega)) (by decide) hI.o hI.n rfl rfl rfl (Nat.le_of_ble_eq_true rfl) rfl (fun x h1 q0 => ?_)
  obtain ⟨q0, K1⟩ := q0
  obtain ⟨q1, q2, q3, r, S, q4, q5, q6, q7⟩ := q0
  have I1 : RI h1 := q1.ri hI
  by_cases c : r.1 = 0
  · skip
    rw [if_pos c] at q6
    refine ev_ifne 10 dX11_both_5 (fun hb => ?_) (fun h_no => (by exfalso; omega))
    obtain ⟨N1, n1, R1⟩ := q7 c
    obtain ⟨T, g2, s2, s3, s4, s5⟩ := R1
    have hl0 : 0 < (LL p.toNat).length := List.length_pos_iff.mpr q2.2.2.1
    obtain ⟨-, a, a1, a2, a3⟩ := s2 0 hl0
    have z9 := fnR_sz q4 c 0 hl0
    refine ev_aload_n dX11_both_10 rfl ?_
    refine ev_aload_n dX11_both_11 rfl ?_
    refine ev_getrv dX11_both_12 fX11_137 I1.o I1.n rfl I1.v_type ?_
    refine ev_iconst dX11_both_15 ?_
    refine ev_ildv dX11_both_16 I1.k_type I1.n_type rfl (by omega) (by omega) a2 ?_
    refine ev_cvv dX11_both_17 lX11_370 (s_writesN (t := a) I1 g2 a1 (by rw [a3]; exact z9) (by unfold ir; omega)) (by decide) I1.o I1.n rfl rfl rfl (Nat.le_of_ble_eq_true rfl) rfl (fun h2 q => ?_)
    obtain ⟨k2, t2, g3, w3⟩ := q
    rw [a3] at w3
    have I2 : RI h2 := k2.ri I1
    have J2 : KpJ h2 kp := K1.st k2 g3.sn
    have y1 := w3.1
    refine ev_aload_n dX11_both_20 rfl ?_
    refine ev_aload_n dX11_both_21 rfl ?_
    refine ev_getiv dX11_both_22 fX11_262 I2.o I2.n rfl y1 ?_
    refine ev_pt dX11_both_25 fX11_394 I2.o I2.n rfl ?_
    refine ev_iconst dX11_both_28 ?_
    refine ev_ist3 dX11_both_29 ?_
    obtain ⟨h3, e3⟩ : ∃ h3, h3 = h2.put 42 73 (sz (S.2.1 0) : Int) := ⟨_, rfl⟩
    rw [← e3]
    have k3 : KP h2 h3 [] [73] := by rw [e3]; exact KP.rf.pf (by decide)
    have I3 : RI h3 := k3.ri I2
    refine bo_one I3 (n := sz (S.2.1 0)) ((k3.fl).trans y1) (by omega) (fun h4 v3 k4 hr4 => ?_) _ 0 h3 (Nat.zero_add _) KP.rf (fun i hi => absurd hi (Nat.not_lt_zero _))
    have I4 : RI h4 := k4.ri I3
    have K4 : KP h h4 BoA BoF := ((q1.wk (by decide) (by decide)).tr (k2.wk (by decide) (by decide))).tr ((k3.wk (by decide) (by decide)).tr (k4.wk (by decide) (by decide)))
    have f73 : h4.vl 42 73 = (sz (S.2.1 0) : Int) := by rw [k4.fl, e3]; rfl
    have r79 : RwA (h4.vl 79) 0 (cnT (S.2.1 0) []).1 := fun i hi => by
      rw [Nat.zero_add, hr4 i (by rw [← cn_len (S.2.1 0) []]; exact hi), k3.vl]
      exact w3.2.2 i hi
    have f50 : h4.vl 42 50 = h2.vl 42 50 := by rw [k4.fl, k3.fl]
    have N4 : NV h4 N LL := hN.kp K4
    have J4 : KpJ h4 kp := (J2.kp k3).kp k4
    refine ev_aload_n dX11_both_56 rfl ?_
    refine ev_iload_n dX11_both_57 rfl ?_
    refine ev_cvi dX11_both_58 lX11_367 (i_finds I4 N4 J4 hq (by omega)) (by decide) I4.o I4.n rfl rfl rfl (Nat.le_of_ble_eq_true rfl) rfl (fun x5 h5 q0 => ?_)
    obtain ⟨q0, K5⟩ := q0
    obtain ⟨p1, p2, p3, r', S', p4, p5, p6, p7⟩ := q0
    have I5 : RI h5 := p1.ri I4
    by_cases c' : r'.1 = 0
    · skip
      rw [if_pos c'] at p6
      refine ev_ifne 66 dX11_both_61 (fun hb2 => ?_) (fun h_no => (by exfalso; omega))
      obtain ⟨N1', n1', R1'⟩ := p7 c'
      obtain ⟨T', g2', s2', s3', s4', s5'⟩ := R1'
      have hl0' : 0 < (LL q.toNat).length := List.length_pos_iff.mpr p2.2.2.1
      obtain ⟨-, b, b1, b2, b3⟩ := s2' 0 hl0'
      have z9' := fnR_sz p4 c' 0 hl0'
      refine ev_aload_n dX11_both_66 rfl ?_
      refine ev_aload_n dX11_both_67 rfl ?_
      refine ev_getrv dX11_both_68 fX11_137 I5.o I5.n rfl I5.v_type ?_
      refine ev_iconst dX11_both_71 ?_
      refine ev_ildv dX11_both_72 I5.k_type I5.n_type rfl (by omega) (by omega) b2 ?_
      refine ev_cvv dX11_both_73 lX11_370 (s_writesN (t := b) I5 g2' b1 (by rw [b3]; exact z9') (by unfold ir; omega)) (by decide) I5.o I5.n rfl rfl rfl (Nat.le_of_ble_eq_true rfl) rfl (fun h6 q => ?_)
      obtain ⟨k6, t6, g6, w6⟩ := q
      rw [b3] at w6
      have I6 : RI h6 := k6.ri I5
      have J6 : KpJ h6 kp := K5.st k6 g6.sn
      have y6 := w6.1
      refine ev_aload_n dX11_both_76 rfl ?_
      refine ev_aload_n dX11_both_77 rfl ?_
      refine ev_getiv dX11_both_78 fX11_262 I6.o I6.n rfl y6 ?_
      refine ev_pt dX11_both_81 fX11_397 I6.o I6.n rfl ?_
      refine ev_iconst dX11_both_84 ?_
      refine ev_ist3 dX11_both_85 ?_
      obtain ⟨h7, e7⟩ : ∃ h7, h7 = h6.put 42 74 (sz (S'.2.1 0) : Int) := ⟨_, rfl⟩
      rw [← e7]
      have k7 : KP h6 h7 [] [74] := by rw [e7]; exact KP.rf.pf (by decide)
      have I7 : RI h7 := k7.ri I6
      refine bo_two I7 (n := sz (S'.2.1 0)) ((k7.fl).trans y6) (by omega) (fun h8 v3 k8 hr8 => ?_) _ 0 h7 (Nat.zero_add _) KP.rf (fun i hi => absurd hi (Nat.not_lt_zero _))
      have I8 : RI h8 := k8.ri I7
      have K8 : KP h4 h8 BoA BoF := ((p1.wk (by decide) (by decide)).tr (k6.wk (by decide) (by decide))).tr ((k7.wk (by decide) (by decide)).tr (k8.wk (by decide) (by decide)))
      have f74 : h8.vl 42 74 = (sz (S'.2.1 0) : Int) := by rw [k8.fl, e7]; rfl
      have r80 : RwA (h8.vl 80) 0 (cnT (S'.2.1 0) []).1 := fun i hi => by
        rw [Nat.zero_add, hr8 i (by rw [← cn_len (S'.2.1 0) []]; exact hi), k7.vl]
        exact w6.2.2 i hi
      have e79 : h8.vl 79 = h4.vl 79 := by rw [k8.vl, k7.vl, k6.vl, p1.vl]
      have e73 : h8.vl 42 73 = h4.vl 42 73 := by rw [k8.fl, k7.fl, k6.fl, p1.fl]
      have e50 : h8.vl 42 50 = h6.vl 42 50 := by rw [k8.fl, k7.fl]
      refine ev_iconst dX11_both_112 ?_
      exact ev_zret dX11_both_113 (⟨_, rfl, K4.tr K8, (J6.kp k7).kp k8, by omega, r, S, q4, Or.inr ⟨c, r', S', p4, Or.inr ⟨c', rfl, ⟨⟨e73.trans f73, by rw [e79]; exact r79⟩, f74, r80⟩, z9, z9'⟩⟩⟩) (by omega)
    rw [if_neg c'] at p6
    refine ev_ifne 66 dX11_both_61 (fun h_no => (by exfalso; omega)) (fun hb2 => ?_)
    refine ev_iconst dX11_both_64 ?_
    exact ev_zret dX11_both_65 (⟨_, rfl, K4.tr (p1.wk (by decide) (by decide)), K5, by omega, r, S, q4, Or.inr ⟨c, r', S', p4, Or.inl ⟨c', rfl⟩⟩⟩) (by omega)
  rw [if_neg c] at q6
  refine ev_ifne 10 dX11_both_5 (fun h_no => (by exfalso; omega)) (fun hb => ?_)
  refine ev_iconst dX11_both_8 ?_
  exact ev_zret dX11_both_9 (⟨_, rfl, q1.wk (by decide) (by decide), K1, by omega, r, S, q4, Or.inl ⟨c, rfl⟩⟩) (by omega)
