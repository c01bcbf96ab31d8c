/-! questions about types: the reference -/
abbrev RfA : List Nat := [47, 48, 49, 50, 51, 52, 53, 54, 55, 56, 57, 58, 59, 60, 61, 62, 63, 64, 65, 66, 67, 68, 69, 70, 71, 72, 73, 74, 75, 76, 77, 78, 81, 83, 84, 85, 86, 87]
abbrev RfF : List Nat := [0, 34, 35, 36, 49, 50, 51, 52, 53, 54, 55, 59, 60, 68]
/-- what stands under the capitals; the stamps -/
def KpJ (h : AH) (kp : Nat → Option TE) : Prop := KpV (h.vl 43) kp ∧ (∀ c R, kp c = some R → ∀ x, 2 ≤ x → oc x R = true → x < 210) ∧ ∀ k, h.vl 71 k ≤ h.vl 42 50
theorem KpJ.kp {h h1 : AH} {kp : Nat → Option TE} {A F : List Nat} (g : KpJ h kp) (k : KP h h1 A F) (hA : 43 ∉ A ∧ 71 ∉ A := by decide) (hF : 50 ∉ F := by decide) : KpJ h1 kp :=
  ⟨g.1.kp k hA.1, g.2.1, fun j => by rw [k.fl hF, k.vl (by decide) hA.2]; exact g.2.2 j⟩
theorem KpJ.st {h h1 : AH} {kp : Nat → Option TE} {A F : List Nat} (g : KpJ h kp) (k : KP h h1 A F) (hs : ∀ j, h1.vl 71 j ≤ h1.vl 42 50) (hA : 43 ∉ A := by decide) : KpJ h1 kp := ⟨g.1.kp k hA, g.2.1, hs⟩
theorem i_finds {p : Int} {N : Nat} {LL : Nat → List Nd} {kp : Nat → Option TE} {h : AH} (hI : RI h) (hN : NV h N LL) (hK : KpJ h kp) (hp : 0 ≤ p ∧ p < (N : Int)) (hst : 0 ≤ h.vl 42 50 ∧ h.vl 42 50 + 206000 ≤ 2147483000) : CV mX11_finds 9 [rv 42, iv p] h (oi fun x h1 => FnQ h (LL p.toNat) kp x h1 ∧ KpJ h1 kp) := by
  obtain ⟨l, rfl⟩ : ∃ l : Nat, p = (l : Int) := ⟨p.toNat, by omega⟩
  have h2 := hN.2.1
  refine cv_mono (s_finds hI (by omega) (hN.2.2 l (by omega)) (hN.ok (by omega)) hK.1 hK.2.1 hK.2.2 hst) fun o h1 q => ?_
  obtain ⟨x, rfl, q⟩ := q
  obtain ⟨q1, q2, q3, r, S, q4, q5, q6⟩ := id q
  exact ⟨x, rfl, q, hK.st q1 q5.2.2⟩
/-- what an answer about types leaves behind -/
def TqH (h h1 : AH) (kp : Nat → Option TE) : Prop := KP h h1 RfA RfF ∧ KpJ h1 kp ∧ (h.vl 42 50 ≤ h1.vl 42 50 ∧ h1.vl 42 50 ≤ h.vl 42 50 + 206010)
set_option maxRecDepth 100000 in
theorem r_isTyped {p : Int} {N : Nat} {LL : Nat → List Nd} {kp : Nat → Option TE} {h : AH} (hI : RI h) (hN : NV h N LL) (hK : KpJ h kp) (hst : 0 ≤ h.vl 42 50 ∧ h.vl 42 50 + 206010 ≤ 2147483000) :
    CV mX11_isTyped 10 [rv 42, iv p] h (oi fun x h1 => TqH h h1 kp ∧ ((¬ (0 ≤ p ∧ p < (N : Int)) ∧ h1.vl 42 0 = 1 ∧ x = 0) ∨ ((0 ≤ p ∧ p < (N : Int)) ∧ h1.vl 42 0 = 0 ∧ ∃ r S, fnR (LL p.toNat) kp r S ∧ x = if r.1 = 0 then 1 else 0))) := by
  refine cv_of cdX11_isTyped ?_
  show EV _ _ 0 [rv 42, iv p] [] h _
  by_cases hp : 0 ≤ p ∧ p < (N : Int)
  · skip
    refine ev_aload_n dX11_isTyped_0 rfl ?_
    refine ev_aload_n dX11_isTyped_1 rfl ?_
    refine ev_iload_n dX11_isTyped_2 rfl ?_
    refine ev_cvi dX11_isTyped_3 lX11_361 (i_les1 hI hN hp) (by decide) hI.o hI.n rfl rfl rfl (Nat.le_of_ble_eq_true rfl) rfl (fun r z1 q => ?_)
    obtain ⟨rfl, e⟩ := q
    rw [e]
    refine ev_ifeq 13 dX11_isTyped_6 (fun h_no => (by exfalso; omega)) (fun hbr => ?_)
    refine ev_iconst dX11_isTyped_9 ?_
    refine ev_gt 14 dX11_isTyped_10 ?_
    refine ev_pt dX11_isTyped_14 fX11_161 hI.o hI.n rfl ?_
    refine ev_aload_n dX11_isTyped_17 rfl ?_
    refine ev_getiv dX11_isTyped_18 fX11_161 hI.o hI.n rfl (show _ = 0 from rfl) ?_
    refine ev_ifne 36 dX11_isTyped_21 (fun h_no => (by exfalso; omega)) (fun hbr => ?_)
    obtain ⟨h1, e1⟩ : ∃ h1, h1 = h.put 42 0 0 := ⟨_, rfl⟩
    rw [← e1]
    have k1 : KP h h1 [] [0] := by rw [e1]; exact KP.rf.pf (by decide)
    have I1 : RI h1 := k1.ri hI
    have f50 : h1.vl 42 50 = h.vl 42 50 := k1.fl
    refine ev_aload_n dX11_isTyped_24 rfl ?_
    refine ev_iload_n dX11_isTyped_25 rfl ?_
    refine ev_cvi dX11_isTyped_26 lX11_367 (i_finds I1 (hN.kp k1) (hK.kp k1) hp (by omega)) (by decide) I1.o I1.n rfl rfl rfl (Nat.le_of_ble_eq_true rfl) rfl (fun x h2 q => ?_)
    obtain ⟨q, K2⟩ := q
    obtain ⟨q1, q2, q3, r, S, q4, q5, q6, q7⟩ := q
    have T0 : h2.vl 42 0 = 0 := by rw [q1.fl, e1]; rfl
    have H2 : TqH h h2 kp := ⟨(k1.wk (by decide) (by decide)).tr (q1.wk (by decide) (by decide)), K2, by omega⟩
    by_cases c : r.1 = 0
    · skip
      rw [if_pos c] at q6
      refine ev_ifeq 36 dX11_isTyped_29 (fun h_no => (by exfalso; omega)) (fun hb => ?_)
      refine ev_iconst dX11_isTyped_32 ?_
      refine ev_gt 37 dX11_isTyped_33 ?_
      exact ev_zret dX11_isTyped_37 (⟨_, rfl, H2, Or.inr ⟨hp, T0, r, S, q4, by rw [if_pos c]⟩⟩) (by omega)
    rw [if_neg c] at q6
    refine ev_ifeq 36 dX11_isTyped_29 (fun hb => ?_) (fun h_no => (by exfalso; omega))
    refine ev_iconst dX11_isTyped_36 ?_
    exact ev_zret dX11_isTyped_37 (⟨_, rfl, H2, Or.inr ⟨hp, T0, r, S, q4, by rw [if_neg c]⟩⟩) (by omega)
  refine ev_aload_n dX11_isTyped_0 rfl ?_
  refine ev_aload_n dX11_isTyped_1 rfl ?_
  refine ev_iload_n dX11_isTyped_2 rfl ?_
  refine ev_cvi dX11_isTyped_3 lX11_361 (i_les0 hI hN hp) (by decide) hI.o hI.n rfl rfl rfl (Nat.le_of_ble_eq_true rfl) rfl (fun r z1 q => ?_)
  obtain ⟨rfl, e⟩ := q
  rw [e]
  refine ev_ifeq 13 dX11_isTyped_6 (fun hbr => ?_) (fun h_no => (by exfalso; omega))
  refine ev_iconst dX11_isTyped_13 ?_
  refine ev_pt dX11_isTyped_14 fX11_161 hI.o hI.n rfl ?_
  refine ev_aload_n dX11_isTyped_17 rfl ?_
  refine ev_getiv dX11_isTyped_18 fX11_161 hI.o hI.n rfl (show _ = 1 from rfl) ?_
  refine ev_ifne 36 dX11_isTyped_21 (fun hbr => ?_) (fun h_no => (by exfalso; omega))
  obtain ⟨h1, e1⟩ : ∃ h1, h1 = h.put 42 0 1 := ⟨_, rfl⟩
  rw [← e1]
  have k1 : KP h h1 [] [0] := by rw [e1]; exact KP.rf.pf (by decide)
  have f50 : h1.vl 42 50 = h.vl 42 50 := k1.fl
  refine ev_iconst dX11_isTyped_36 ?_
  exact ev_zret dX11_isTyped_37 (⟨_, rfl, ⟨k1.wk (by decide) (by decide), hK.kp k1, by omega⟩, Or.inl ⟨hp, by rw [e1]; rfl, rfl⟩⟩) (by omega)
set_option maxRecDepth 100000 in
theorem r_typeOf {p w : Int} {N : Nat} {LL : Nat → List Nd} {kp : Nat → Option TE} {h : AH} (hI : RI h) (hN : NV h N LL) (hK : KpJ h kp) (hst : 0 ≤ h.vl 42 50 ∧ h.vl 42 50 + 206010 ≤ 2147483000) :
    CV mX11_typeOf 10 [rv 42, iv p, iv w] h (oi fun x h1 => TqH h h1 kp ∧ ((¬ (0 ≤ p ∧ p < (N : Int)) ∧ h1.vl 42 0 = 1) ∨ ((0 ≤ p ∧ p < (N : Int)) ∧ ¬ (0 ≤ w ∧ w ≤ 4) ∧ h1.vl 42 0 = 2) ∨ ((0 ≤ p ∧ p < (N : Int)) ∧ (0 ≤ w ∧ w ≤ 4) ∧ ∃ r S, fnR (LL p.toNat) kp r S ∧ ((r.1 ≠ 0 ∧ h1.vl 42 0 = 3) ∨ (r.1 = 0 ∧ h1.vl 42 0 = 0 ∧ x = nuF (S.2.1 0) w))))) := by
  refine cv_of cdX11_typeOf ?_
  show EV _ _ 0 [rv 42, iv p, iv w] [] h _
  have bad : ∀ (k : Int) (h1 h2 : AH), k ≠ 0 → h2 = h1.put 42 0 k → RI h1 → (KP h h1 RfA RfF ∧ KpJ h1 kp ∧ (h.vl 42 50 ≤ h1.vl 42 50 ∧ h1.vl 42 50 ≤ h.vl 42 50 + 206010)) → (∀ x, (¬ (0 ≤ p ∧ p < (N : Int)) ∧ k = 1) ∨ ((0 ≤ p ∧ p < (N : Int)) ∧ ¬ (0 ≤ w ∧ w ≤ 4) ∧ k = 2) ∨ ((0 ≤ p ∧ p < (N : Int)) ∧ (0 ≤ w ∧ w ≤ 4) ∧ ∃ r S, fnR (LL p.toNat) kp r S ∧ ((r.1 ≠ 0 ∧ k = 3) ∨ (r.1 = 0 ∧ k = 0 ∧ x = nuF (S.2.1 0) w)))) → EV mX11_typeOf 10 42 [rv 42, iv p, iv w] [] h2 (oi fun x h1 => TqH h h1 kp ∧ ((¬ (0 ≤ p ∧ p < (N : Int)) ∧ h1.vl 42 0 = 1) ∨ ((0 ≤ p ∧ p < (N : Int)) ∧ ¬ (0 ≤ w ∧ w ≤ 4) ∧ h1.vl 42 0 = 2) ∨ ((0 ≤ p ∧ p < (N : Int)) ∧ (0 ≤ w ∧ w ≤ 4) ∧ ∃ r S, fnR (LL p.toNat) kp r S ∧ ((r.1 ≠ 0 ∧ h1.vl 42 0 = 3) ∨ (r.1 = 0 ∧ h1.vl 42 0 = 0 ∧ x = nuF (S.2.1 0) w))))) := by
    intro k h1 h2 hk e2 I1 H1 ha
    have k2 : KP h1 h2 [] [0] := by rw [e2]; exact KP.rf.pf (by decide)
    have I2 : RI h2 := k2.ri I1
    have t0 : h2.vl 42 0 = k := by rw [e2]; rfl
    have f50 : h2.vl 42 50 = h1.vl 42 50 := k2.fl
    refine ev_aload_n dX11_typeOf_42 rfl ?_
    refine ev_getiv dX11_typeOf_43 fX11_161 I2.o I2.n rfl t0 ?_
    refine ev_ifne 63 dX11_typeOf_46 (fun hb => ?_) (fun h_no => (by exfalso; omega))
    refine ev_iconst dX11_typeOf_63 ?_
    exact ev_iret dX11_typeOf_64 (⟨_, rfl, ⟨H1.1.tr (k2.wk (by decide) (by decide)), H1.2.1.kp k2, by rw [f50]; exact H1.2.2⟩, by rw [t0]; exact ha _⟩)
  by_cases hp : 0 ≤ p ∧ p < (N : Int)
  · skip
    refine ev_aload_n dX11_typeOf_0 rfl ?_
    refine ev_aload_n dX11_typeOf_1 rfl ?_
    refine ev_iload_n dX11_typeOf_2 rfl ?_
    refine ev_cvi dX11_typeOf_3 lX11_361 (i_les1 hI hN hp) (by decide) hI.o hI.n rfl rfl rfl (Nat.le_of_ble_eq_true rfl) rfl (fun r z1 q => ?_)
    obtain ⟨rfl, e⟩ := q
    rw [e]
    refine ev_ifne 13 dX11_typeOf_6 (fun hbr => ?_) (fun h_no => (by exfalso; omega))
    refine ev_iload_n dX11_typeOf_13 rfl ?_
    refine ev_iconst dX11_typeOf_14 ?_
    refine ev_iconst dX11_typeOf_15 ?_
    by_cases hw : 0 ≤ w ∧ w ≤ 4
    · skip
      refine ev_csi dX11_typeOf_16 lX11_164 (f_isIn1 hw) (by decide) rfl rfl (Nat.le_of_ble_eq_true rfl) rfl (fun r z2 q => ?_)
      obtain ⟨rfl, e⟩ := q
      rw [e]
      refine ev_ifne 26 dX11_typeOf_19 (fun hbr => ?_) (fun h_no => (by exfalso; omega))
      refine ev_aload_n dX11_typeOf_26 rfl ?_
      refine ev_iload_n dX11_typeOf_27 rfl ?_
      refine ev_cvi dX11_typeOf_28 lX11_367 (i_finds hI hN hK hp (by omega)) (by decide) hI.o hI.n rfl rfl rfl (Nat.le_of_ble_eq_true rfl) rfl (fun x h1 q => ?_)
      obtain ⟨q, K1⟩ := q
      obtain ⟨q1, q2, q3, r, S, q4, q5, q6, q7⟩ := q
      have I1 : RI h1 := q1.ri hI
      have H1 : KP h h1 RfA RfF ∧ KpJ h1 kp ∧ (h.vl 42 50 ≤ h1.vl 42 50 ∧ h1.vl 42 50 ≤ h.vl 42 50 + 206010) := ⟨q1.wk (by decide) (by decide), K1, by omega⟩
      by_cases c : r.1 = 0
      · skip
        rw [if_pos c] at q6
        refine ev_ifeq 38 dX11_typeOf_31 (fun h_no => (by exfalso; omega)) (fun hb => ?_)
        refine ev_iconst dX11_typeOf_34 ?_
        refine ev_gt 39 dX11_typeOf_35 ?_
        refine ev_pt dX11_typeOf_39 fX11_161 I1.o I1.n rfl ?_
        obtain ⟨N1, n1, R1⟩ := q7 c
        obtain ⟨h2, e2⟩ : ∃ h2, h2 = h1.put 42 0 0 := ⟨_, rfl⟩
        rw [← e2]
        have k2 : KP h1 h2 [] [0] := by rw [e2]; exact KP.rf.pf (by decide)
        have I2 : RI h2 := k2.ri I1
        have t0 : h2.vl 42 0 = 0 := by rw [e2]; rfl
        have f50 : h2.vl 42 50 = h1.vl 42 50 := k2.fl
        have R2 := R1.kp k2
        obtain ⟨T, g2, s2, s3, s4, s5⟩ := R2
        have hl0 : 0 < (LL p.toNat).length := List.length_pos_iff.mpr q2.2.2.1
        obtain ⟨-, a, a1, a2, a3⟩ := s2 0 hl0
        have z9 := fnR_sz q4 c 0 hl0
        refine ev_aload_n dX11_typeOf_42 rfl ?_
        refine ev_getiv dX11_typeOf_43 fX11_161 I2.o I2.n rfl t0 ?_
        refine ev_ifne 63 dX11_typeOf_46 (fun h_no => (by exfalso; omega)) (fun hb2 => ?_)
        refine ev_aload_n dX11_typeOf_49 rfl ?_
        refine ev_aload_n dX11_typeOf_50 rfl ?_
        refine ev_getrv dX11_typeOf_51 fX11_137 I2.o I2.n rfl I2.v_type ?_
        refine ev_iconst dX11_typeOf_54 ?_
        refine ev_ildv dX11_typeOf_55 I2.k_type I2.n_type rfl (by omega) (by omega) a2 ?_
        refine ev_iload_n dX11_typeOf_56 rfl ?_
        refine ev_cvi dX11_typeOf_57 lX11_388 (s_numberN (t := a) I2 g2 a1 (by rw [a3]; exact z9) hw (by omega)) (by decide) I2.o I2.n rfl rfl rfl (Nat.le_of_ble_eq_true rfl) rfl (fun x h3 q => ?_)
        obtain ⟨rfl, k3, t3, g3⟩ := q
        have U0 : h3.vl 42 0 = 0 := by rw [k3.fl]; exact t0
        rw [a3]
        refine ev_gt 64 dX11_typeOf_60 ?_
        exact ev_iret dX11_typeOf_64 (⟨_, rfl, ⟨(H1.1.tr (k2.wk (by decide) (by decide))).tr (k3.wk (by decide) (by decide)), (K1.kp k2).st k3 g3.sn, by omega⟩, Or.inr (Or.inr ⟨hp, hw, r, S, q4, Or.inr ⟨c, U0, rfl⟩⟩)⟩)
      rw [if_neg c] at q6
      refine ev_ifeq 38 dX11_typeOf_31 (fun hb => ?_) (fun h_no => (by exfalso; omega))
      refine ev_iconst dX11_typeOf_38 ?_
      refine ev_pt dX11_typeOf_39 fX11_161 I1.o I1.n rfl ?_
      exact bad 3 h1 _ (by decide) rfl I1 H1 (fun x => Or.inr (Or.inr ⟨hp, hw, r, S, q4, Or.inl ⟨c, rfl⟩⟩))
    refine ev_csi dX11_typeOf_16 lX11_164 (f_isIn0 hw) (by decide) rfl rfl (Nat.le_of_ble_eq_true rfl) rfl (fun r z2 q => ?_)
    obtain ⟨rfl, e⟩ := q
    rw [e]
    refine ev_ifne 26 dX11_typeOf_19 (fun h_no => (by exfalso; omega)) (fun hbr => ?_)
    refine ev_iconst dX11_typeOf_22 ?_
    refine ev_gt 39 dX11_typeOf_23 ?_
    refine ev_pt dX11_typeOf_39 fX11_161 hI.o hI.n rfl ?_
    exact bad 2 h _ (by decide) rfl hI ⟨KP.rf, hK, by omega⟩ (fun x => Or.inr (Or.inl ⟨hp, hw, rfl⟩))
  refine ev_aload_n dX11_typeOf_0 rfl ?_
  refine ev_aload_n dX11_typeOf_1 rfl ?_
  refine ev_iload_n dX11_typeOf_2 rfl ?_
  refine ev_cvi dX11_typeOf_3 lX11_361 (i_les0 hI hN hp) (by decide) hI.o hI.n rfl rfl rfl (Nat.le_of_ble_eq_true rfl) rfl (fun r z1 q => ?_)
  obtain ⟨rfl, e⟩ := q
  rw [e]
  refine ev_ifne 13 dX11_typeOf_6 (fun h_no => (by exfalso; omega)) (fun hbr => ?_)
  refine ev_iconst dX11_typeOf_9 ?_
  refine ev_gt 39 dX11_typeOf_10 ?_
  refine ev_pt dX11_typeOf_39 fX11_161 hI.o hI.n rfl ?_
  exact bad 1 h _ (by decide) rfl hI ⟨KP.rf, hK, by omega⟩ (fun x => Or.inl ⟨hp, rfl⟩)
