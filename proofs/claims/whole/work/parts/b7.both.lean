/-! two lessons' types as rows: the reference -/
set_option maxRecDepth 100000 in
theorem r_largest {h : AH} {N : Nat} {LL : Nat → List Nd} {kp : Nat → Option TE} (hI : RI h) (hN : NV h N LL) (hK : KpJ h kp) (hst : 0 ≤ h.vl 42 50 ∧ h.vl 42 50 + 206010 * 6 ≤ 2147483000) :
    CV mX11_largest 11 [rv 42] h (oi fun x h1 => KP h h1 RfA (0 :: OfF) ∧ KpJ h1 kp ∧ (h.vl 42 50 ≤ h1.vl 42 50 ∧ h1.vl 42 50 ≤ h.vl 42 50 + 206010 * 6) ∧ ∃ b z, lgR LL kp N b z ∧ ((b < 0 ∧ h1.vl 42 0 = 1) ∨ (0 ≤ b ∧ h1.vl 42 0 = 0 ∧ x = b))) := by
  refine cv_of cdX11_largest ?_
  show EV _ _ 0 [rv 42, uv, uv, uv, uv] [] h _
  refine ev_iconst dX11_largest_0 ?_
  refine ev_ist1 dX11_largest_1 ?_
  refine ev_iconst dX11_largest_2 ?_
  refine ev_ist2 dX11_largest_3 ?_
  refine ev_iconst dX11_largest_4 ?_
  refine ev_ist3 dX11_largest_5 ?_
  exact lg_loop hI hN N 0 (-1) 0 h _ (by omega) KP.rf hK ⟨rfl, rfl⟩ (by omega) hst.2
/-- a row copied so far -/
def CpR (h h0 : AH) (a k : Nat) : Prop := ∀ i, i < k → h.vl a i = h0.vl 78 i
theorem cp_st {h h0 : AH} {a k : Nat} {x : Int} (hr : CpR h h0 a k) (hx : h0.vl 78 k = x) : CpR (h.put a k x) h0 a (k + 1) := fun i hi => by
  rw [AH.put_vl]
  by_cases z : i = k
  · rw [if_pos ⟨rfl, z⟩, z, hx]
  · rw [if_neg (fun w => z w.2)]; exact hr i (by omega)
set_option maxRecDepth 100000 in
theorem bo_one {h0 : AH} {n : Nat} {p q : Int} {Q : AV → AH → Prop} (hI0 : RI h0) (hn : h0.vl 42 59 = (n : Int)) (hn9 : n ≤ 209) (K : ∀ h1 v3, KP h0 h1 [79] [] → CpR h1 h0 79 n → EV mX11_both 10 56 [rv 42, iv p, iv q, v3] [] h1 Q) : ∀ (m k : Nat) (h : AH), k + m = n → KP h0 h [79] [] → CpR h h0 79 k → EV mX11_both 10 30 [rv 42, iv p, iv q, iv (k : Int)] [] h Q
  | 0, k, h, hk, k0, hr => by
    obtain rfl : k = n := by omega
    have hn' : h.vl 42 59 = (k : Int) := (k0.fl).trans hn
    refine ev_iload_n dX11_both_30 rfl ?_
    refine ev_aload_n dX11_both_31 rfl ?_
    refine ev_getiv dX11_both_32 fX11_262 (k0.ri hI0).o (k0.ri hI0).n rfl hn' ?_
    refine ev_icmpge 56 dX11_both_35 (fun hb => ?_) (fun h_no => (by exfalso; omega))
    exact K h _ k0 hr
  | m + 1, k, h, hk, k0, hr => by
    have hI : RI h := k0.ri hI0
    have hn' : h.vl 42 59 = (n : Int) := (k0.fl).trans hn
    obtain ⟨x, hx⟩ : ∃ x, h0.vl 78 k = x := ⟨_, rfl⟩
    have hx2 : h.vl 78 k = x := by rw [k0.vl]; exact hx
    refine ev_iload_n dX11_both_30 rfl ?_
    refine ev_aload_n dX11_both_31 rfl ?_
    refine ev_getiv dX11_both_32 fX11_262 hI.o hI.n rfl hn' ?_
    refine ev_icmpge 56 dX11_both_35 (fun h_no => (by exfalso; omega)) (fun hb => ?_)
    refine ev_aload_n dX11_both_38 rfl ?_
    refine ev_getrv dX11_both_39 fX11_122 hI.o hI.n rfl hI.v_one ?_
    refine ev_iload_n dX11_both_42 rfl ?_
    refine ev_aload_n dX11_both_43 rfl ?_
    refine ev_getrv dX11_both_44 fX11_119 hI.o hI.n rfl hI.v_rowOfType ?_
    refine ev_iload_n dX11_both_47 rfl ?_
    refine ev_ildv dX11_both_48 hI.k_rowOfType hI.n_rowOfType rfl (by omega) (by omega) hx2 ?_
    refine ev_istr dX11_both_49 hI.k_one hI.n_one rfl (by omega) (by omega) ?_
    rw [show ((k : Nat) : Int).toNat = k from rfl]
    refine ev_iin3 dX11_both_50 (by unfold ir; omega) ?_
    refine ev_gt 30 dX11_both_53 ?_
    rw [show (k : Int) + 1 = ((k + 1 : Nat) : Int) by omega]
    exact bo_one hI0 hn hn9 K m (k + 1) _ (by omega) (k0.tr (KP.rf.pr (by decide) (by decide))) (cp_st hr hx)
set_option maxRecDepth 100000 in
theorem bo_two {h0 : AH} {n : Nat} {p q : Int} {Q : AV → AH → Prop} (hI0 : RI h0) (hn : h0.vl 42 59 = (n : Int)) (hn9 : n ≤ 209) (K : ∀ h1 v3, KP h0 h1 [80] [] → CpR h1 h0 80 n → EV mX11_both 10 112 [rv 42, iv p, iv q, v3] [] h1 Q) : ∀ (m k : Nat) (h : AH), k + m = n → KP h0 h [80] [] → CpR h h0 80 k → EV mX11_both 10 86 [rv 42, iv p, iv q, iv (k : Int)] [] h Q
  | 0, k, h, hk, k0, hr => by
    obtain rfl : k = n := by omega
    have hn' : h.vl 42 59 = (k : Int) := (k0.fl).trans hn
    refine ev_iload_n dX11_both_86 rfl ?_
    refine ev_aload_n dX11_both_87 rfl ?_
    refine ev_getiv dX11_both_88 fX11_262 (k0.ri hI0).o (k0.ri hI0).n rfl hn' ?_
    refine ev_icmpge 112 dX11_both_91 (fun hb => ?_) (fun h_no => (by exfalso; omega))
    exact K h _ k0 hr
  | m + 1, k, h, hk, k0, hr => by
    have hI : RI h := k0.ri hI0
    have hn' : h.vl 42 59 = (n : Int) := (k0.fl).trans hn
    obtain ⟨x, hx⟩ : ∃ x, h0.vl 78 k = x := ⟨_, rfl⟩
    have hx2 : h.vl 78 k = x := by rw [k0.vl]; exact hx
    refine ev_iload_n dX11_both_86 rfl ?_
    refine ev_aload_n dX11_both_87 rfl ?_
    refine ev_getiv dX11_both_88 fX11_262 hI.o hI.n rfl hn' ?_
    refine ev_icmpge 112 dX11_both_91 (fun h_no => (by exfalso; omega)) (fun hb => ?_)
    refine ev_aload_n dX11_both_94 rfl ?_
    refine ev_getrv dX11_both_95 fX11_125 hI.o hI.n rfl hI.v_two ?_
    refine ev_iload_n dX11_both_98 rfl ?_
    refine ev_aload_n dX11_both_99 rfl ?_
    refine ev_getrv dX11_both_100 fX11_119 hI.o hI.n rfl hI.v_rowOfType ?_
    refine ev_iload_n dX11_both_103 rfl ?_
    refine ev_ildv dX11_both_104 hI.k_rowOfType hI.n_rowOfType rfl (by omega) (by omega) hx2 ?_
    refine ev_istr dX11_both_105 hI.k_two hI.n_two rfl (by omega) (by omega) ?_
    rw [show ((k : Nat) : Int).toNat = k from rfl]
    refine ev_iin3 dX11_both_106 (by unfold ir; omega) ?_
    refine ev_gt 86 dX11_both_109 ?_
    rw [show (k : Int) + 1 = ((k + 1 : Nat) : Int) by omega]
    exact bo_two hI0 hn hn9 K m (k + 1) _ (by omega) (k0.tr (KP.rf.pr (by decide) (by decide))) (cp_st hr hx)
