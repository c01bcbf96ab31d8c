/-! the second way's question: the reference -/
abbrev TaA : List Nat := 89 :: RfA
def TaH (h h1 : AH) (kp : Nat → Option TE) : Prop := KP h h1 TaA RfF ∧ KpJ h1 kp ∧ (h.vl 42 50 ≤ h1.vl 42 50 ∧ h1.vl 42 50 ≤ h.vl 42 50 + 206010)
set_option maxRecDepth 100000 in
theorem r_typeAgain {p w : Int} {N : Nat} {LL : Nat → List Nd} {kp : Nat → Option TE} {h : AH} (hI : RI h) (hN : NV h N LL) (hK : KpJ h kp) (hst : 0 ≤ h.vl 42 50 ∧ h.vl 42 50 + 206010 ≤ 2147483000) :
    CV mX11_typeAgain 10 [rv 42, iv p, iv w] h (oi fun x h1 => TaH h h1 kp ∧ ((¬ (0 ≤ p ∧ p < (N : Int)) ∧ h1.vl 42 0 = 1) ∨ ((0 ≤ p ∧ p < (N : Int)) ∧ ¬ (0 ≤ w ∧ w ≤ 4) ∧ h1.vl 42 0 = 2) ∨ ((0 ≤ p ∧ p < (N : Int)) ∧ (0 ≤ w ∧ w ≤ 4) ∧ ∃ r S, fnR (LL p.toNat) kp r S ∧ ((r.1 ≠ 0 ∧ h1.vl 42 0 = 3) ∨ (r.1 = 0 ∧ ∃ y, agR (LL p.toNat) y ∧ ((300 < y ∧ h1.vl 42 0 = 3) ∨ (y ≤ 300 ∧ h1.vl 42 0 = 0 ∧ x = nuF (S.2.1 0) w))))))) := by
  refine cv_of cdX11_typeAgain ?_
  show EV _ _ 0 [rv 42, iv p, iv w] [] h _
  have bad : ∀ (k : Int) (h1 h2 : AH), k ≠ 0 → h2 = h1.put 42 0 k → RI h1 → (KP h h1 TaA RfF ∧ KpJ h1 kp ∧ (h.vl 42 50 ≤ h1.vl 42 50 ∧ h1.vl 42 50 ≤ h.vl 42 50 + 206010)) → (∀ x, (¬ (0 ≤ p ∧ p < (N : Int)) ∧ k = 1) ∨ ((0 ≤ p ∧ p < (N : Int)) ∧ ¬ (0 ≤ w ∧ w ≤ 4) ∧ k = 2) ∨ ((0 ≤ p ∧ p < (N : Int)) ∧ (0 ≤ w ∧ w ≤ 4) ∧ ∃ r S, fnR (LL p.toNat) kp r S ∧ ((r.1 ≠ 0 ∧ k = 3) ∨ (r.1 = 0 ∧ ∃ y, agR (LL p.toNat) y ∧ ((300 < y ∧ k = 3) ∨ (y ≤ 300 ∧ k = 0 ∧ x = nuF (S.2.1 0) w)))))) → EV mX11_typeAgain 10 52 [rv 42, iv p, iv w] [] h2 (oi fun x h1 => TaH h h1 kp ∧ ((¬ (0 ≤ p ∧ p < (N : Int)) ∧ h1.vl 42 0 = 1) ∨ ((0 ≤ p ∧ p < (N : Int)) ∧ ¬ (0 ≤ w ∧ w ≤ 4) ∧ h1.vl 42 0 = 2) ∨ ((0 ≤ p ∧ p < (N : Int)) ∧ (0 ≤ w ∧ w ≤ 4) ∧ ∃ r S, fnR (LL p.toNat) kp r S ∧ ((r.1 ≠ 0 ∧ h1.vl 42 0 = 3) ∨ (r.1 = 0 ∧ ∃ y, agR (LL p.toNat) y ∧ ((300 < y ∧ h1.vl 42 0 = 3) ∨ (y ≤ 300 ∧ h1.vl 42 0 = 0 ∧ x = nuF (S.2.1 0) w))))))) := by
    intro k h1 h2 hk e2 I1 H1 ha
    have k2 : KP h1 h2 [] [0] := by rw [e2]; exact KP.rf.pf (by decide)
    have I2 : RI h2 := k2.ri I1
    have t0 : h2.vl 42 0 = k := by rw [e2]; rfl
    have f50 : h2.vl 42 50 = h1.vl 42 50 := k2.fl
    refine ev_aload_n dX11_typeAgain_52 rfl ?_
    refine ev_getiv dX11_typeAgain_53 fX11_161 I2.o I2.n rfl t0 ?_
    refine ev_ifne 73 dX11_typeAgain_56 (fun hb => ?_) (fun h_no => (by exfalso; omega))
    refine ev_iconst dX11_typeAgain_73 ?_
    exact ev_iret dX11_typeAgain_74 (⟨_, rfl, ⟨H1.1.tr (k2.wk (by decide) (by decide)), H1.2.1.kp k2, by rw [f50]; exact H1.2.2⟩, by rw [t0]; exact ha _⟩)
  by_cases hp : 0 ≤ p ∧ p < (N : Int)
  · skip
    refine ev_aload_n dX11_typeAgain_0 rfl ?_
    refine ev_aload_n dX11_typeAgain_1 rfl ?_
    refine ev_iload_n dX11_typeAgain_2 rfl ?_
    refine ev_cvi dX11_typeAgain_3 lX11_361 (i_les1 hI hN hp) (by decide) hI.o hI.n rfl rfl rfl (Nat.le_of_ble_eq_true rfl) rfl (fun r z1 q => ?_)
    obtain ⟨rfl, e⟩ := q
    rw [e]
    refine ev_ifne 13 dX11_typeAgain_6 (fun hbr => ?_) (fun h_no => (by exfalso; omega))
    refine ev_iload_n dX11_typeAgain_13 rfl ?_
    refine ev_iconst dX11_typeAgain_14 ?_
    refine ev_iconst dX11_typeAgain_15 ?_
    by_cases hw : 0 ≤ w ∧ w ≤ 4
    · skip
      refine ev_csi dX11_typeAgain_16 lX11_164 (f_isIn1 hw) (by decide) rfl rfl (Nat.le_of_ble_eq_true rfl) rfl (fun r z2 q => ?_)
      obtain ⟨rfl, e⟩ := q
      rw [e]
      refine ev_ifne 26 dX11_typeAgain_19 (fun hbr => ?_) (fun h_no => (by exfalso; omega))
      refine ev_aload_n dX11_typeAgain_26 rfl ?_
      refine ev_iload_n dX11_typeAgain_27 rfl ?_
      refine ev_cvi dX11_typeAgain_28 lX11_367 (i_finds hI hN hK hp (by omega)) (by decide) hI.o hI.n rfl rfl rfl (Nat.le_of_ble_eq_true rfl) rfl (fun x h1 q => ?_)
      obtain ⟨q, K1⟩ := q
      obtain ⟨q1, q2, q3, r, S, q4, q5, q6, q7⟩ := q
      have I1 : RI h1 := q1.ri hI
      have H1 : KP h h1 TaA RfF ∧ KpJ h1 kp ∧ (h.vl 42 50 ≤ h1.vl 42 50 ∧ h1.vl 42 50 ≤ h.vl 42 50 + 206010) := ⟨q1.wk (by decide) (by decide), K1, by omega⟩
      by_cases c : r.1 = 0
      · skip
        rw [if_pos c] at q6
        refine ev_ifeq 48 dX11_typeAgain_31 (fun h_no => (by exfalso; omega)) (fun hb => ?_)
        obtain ⟨N1, n1, R1⟩ := q7 c
        obtain ⟨sT, hsT⟩ := hN.sh (l := p.toNat) (by omega)
        refine ev_aload_n dX11_typeAgain_34 rfl ?_
        refine ev_cvi dX11_typeAgain_35 lX11_391 (s_again I1 q2 hsT) (by decide) I1.o I1.n rfl rfl rfl (Nat.le_of_ble_eq_true rfl) rfl (fun y h4 q => ?_)
        obtain ⟨k4, y4⟩ := q
        have I4 : RI h4 := k4.ri I1
        have J4 : KpJ h4 kp := K1.kp k4
        have f54 : h4.vl 42 50 = h1.vl 42 50 := k4.fl
        have H4 : KP h h4 TaA RfF ∧ KpJ h4 kp ∧ (h.vl 42 50 ≤ h4.vl 42 50 ∧ h4.vl 42 50 ≤ h.vl 42 50 + 206010) := ⟨H1.1.tr (k4.wk (by decide) (by decide)), J4, by omega⟩
        refine ev_sipush dX11_typeAgain_38 ?_
        by_cases c3 : y ≤ 300
        · skip
          refine ev_icmpgt 48 dX11_typeAgain_41 (fun h_no => (by exfalso; omega)) (fun hb3 => ?_)
          refine ev_iconst dX11_typeAgain_44 ?_
          refine ev_gt 49 dX11_typeAgain_45 ?_
          refine ev_pt dX11_typeAgain_49 fX11_161 I4.o I4.n rfl ?_
          have R4 := R1.kp k4
          obtain ⟨h2, e2⟩ : ∃ h2, h2 = h4.put 42 0 0 := ⟨_, rfl⟩
          rw [← e2]
          have k2 : KP h4 h2 [] [0] := by rw [e2]; exact KP.rf.pf (by decide)
          have I2 : RI h2 := k2.ri I4
          have t0 : h2.vl 42 0 = 0 := by rw [e2]; rfl
          have f50 : h2.vl 42 50 = h4.vl 42 50 := k2.fl
          have R2 := R4.kp k2
          obtain ⟨T, g2, s2, s3, s4, s5⟩ := R2
          have hl0 : 0 < (LL p.toNat).length := List.length_pos_iff.mpr q2.2.2.1
          obtain ⟨-, a, a1, a2, a3⟩ := s2 0 hl0
          have z9 := fnR_sz q4 c 0 hl0
          refine ev_aload_n dX11_typeAgain_52 rfl ?_
          refine ev_getiv dX11_typeAgain_53 fX11_161 I2.o I2.n rfl t0 ?_
          refine ev_ifne 73 dX11_typeAgain_56 (fun h_no => (by exfalso; omega)) (fun hb2 => ?_)
          refine ev_aload_n dX11_typeAgain_59 rfl ?_
          refine ev_aload_n dX11_typeAgain_60 rfl ?_
          refine ev_getrv dX11_typeAgain_61 fX11_137 I2.o I2.n rfl I2.v_type ?_
          refine ev_iconst dX11_typeAgain_64 ?_
          refine ev_ildv dX11_typeAgain_65 I2.k_type I2.n_type rfl (by omega) (by omega) a2 ?_
          refine ev_iload_n dX11_typeAgain_66 rfl ?_
          refine ev_cvi dX11_typeAgain_67 lX11_388 (s_numberN (t := a) I2 g2 a1 (by rw [a3]; exact z9) hw (by omega)) (by decide) I2.o I2.n rfl rfl rfl (Nat.le_of_ble_eq_true rfl) rfl (fun x h3 q => ?_)
          obtain ⟨rfl, k3, t3, g3⟩ := q
          have U0 : h3.vl 42 0 = 0 := by rw [k3.fl]; exact t0
          rw [a3]
          refine ev_gt 74 dX11_typeAgain_70 ?_
          exact ev_iret dX11_typeAgain_74 (⟨_, rfl, ⟨(H4.1.tr (k2.wk (by decide) (by decide))).tr (k3.wk (by decide) (by decide)), (J4.kp k2).st k3 g3.sn, by omega⟩, Or.inr (Or.inr ⟨hp, hw, r, S, q4, Or.inr ⟨c, y, y4, Or.inr ⟨c3, U0, rfl⟩⟩⟩)⟩)
        refine ev_icmpgt 48 dX11_typeAgain_41 (fun hb3 => ?_) (fun h_no => (by exfalso; omega))
        refine ev_iconst dX11_typeAgain_48 ?_
        refine ev_pt dX11_typeAgain_49 fX11_161 I4.o I4.n rfl ?_
        exact bad 3 h4 _ (by decide) rfl I4 H4 (fun x => Or.inr (Or.inr ⟨hp, hw, r, S, q4, Or.inr ⟨c, y, y4, Or.inl ⟨by omega, rfl⟩⟩⟩))
      rw [if_neg c] at q6
      refine ev_ifeq 48 dX11_typeAgain_31 (fun hb => ?_) (fun h_no => (by exfalso; omega))
      refine ev_iconst dX11_typeAgain_48 ?_
      refine ev_pt dX11_typeAgain_49 fX11_161 I1.o I1.n rfl ?_
      exact bad 3 h1 _ (by decide) rfl I1 H1 (fun x => Or.inr (Or.inr ⟨hp, hw, r, S, q4, Or.inl ⟨c, rfl⟩⟩))
    refine ev_csi dX11_typeAgain_16 lX11_164 (f_isIn0 hw) (by decide) rfl rfl (Nat.le_of_ble_eq_true rfl) rfl (fun r z2 q => ?_)
    obtain ⟨rfl, e⟩ := q
    rw [e]
    refine ev_ifne 26 dX11_typeAgain_19 (fun h_no => (by exfalso; omega)) (fun hbr => ?_)
    refine ev_iconst dX11_typeAgain_22 ?_
    refine ev_gt 49 dX11_typeAgain_23 ?_
    refine ev_pt dX11_typeAgain_49 fX11_161 hI.o hI.n rfl ?_
    exact bad 2 h _ (by decide) rfl hI ⟨KP.rf, hK, by omega⟩ (fun x => Or.inr (Or.inl ⟨hp, hw, rfl⟩))
  refine ev_aload_n dX11_typeAgain_0 rfl ?_
  refine ev_aload_n dX11_typeAgain_1 rfl ?_
  refine ev_iload_n dX11_typeAgain_2 rfl ?_
  refine ev_cvi dX11_typeAgain_3 lX11_361 (i_les0 hI hN hp) (by decide) hI.o hI.n rfl rfl rfl (Nat.le_of_ble_eq_true rfl) rfl (fun r z1 q => ?_)
  obtain ⟨rfl, e⟩ := q
  rw [e]
  refine ev_ifne 13 dX11_typeAgain_6 (fun h_no => (by exfalso; omega)) (fun hbr => ?_)
  refine ev_iconst dX11_typeAgain_9 ?_
  refine ev_gt 49 dX11_typeAgain_10 ?_
  refine ev_pt dX11_typeAgain_49 fX11_161 hI.o hI.n rfl ?_
  exact bad 1 h _ (by decide) rfl hI ⟨KP.rf, hK, by omega⟩ (fun x => Or.inl ⟨hp, rfl⟩)
