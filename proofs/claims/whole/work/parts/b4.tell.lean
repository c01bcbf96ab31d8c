/-! the reference tells a type -/
/-- a tree with canonical names -/
def cnR : TE → List Nat → TE
  | .var x, s => if x < 2 then .var x else if x ∈ s then .var (2 + ixN x s) else .var (2 + s.length)
  | .op a b, s => .op (cnR a s) (cnR b (cnT a s).2)
theorem cnR_row : ∀ (t : TE) (s : List Nat), rowT (cnR t s) = (cnT t s).1
  | .var x, s => by
    rw [cnR, cnT]
    by_cases c : x < 2
    · rw [if_pos c, if_pos c, rowT, if_pos c]
    · rw [if_neg c, if_neg c]
      by_cases d : x ∈ s
      · rw [if_pos d, if_pos d, rowT, if_neg (by omega)]
        show [((2 + ixN x s : Nat) : Int) + 1] = [3 + (ixN x s : Int)]
        rw [show ((2 + ixN x s : Nat) : Int) + 1 = 3 + (ixN x s : Int) by omega]
      · rw [if_neg d, if_neg d, rowT, if_neg (by omega)]
        show [((2 + s.length : Nat) : Int) + 1] = [3 + (s.length : Int)]
        rw [show ((2 + s.length : Nat) : Int) + 1 = 3 + (s.length : Int) by omega]
  | .op a b, s => by
    rw [cnR, rowT, cnR_row a, cnR_row b]
    rfl
theorem cnR_sz : ∀ (t : TE) (s : List Nat), sz (cnR t s) = sz t := fun t s => by
  rw [← row_len, cnR_row, cn_len]
theorem cnR_vs : ∀ (t : TE) (s : List Nat), vsT (fun x => x < 2 + s.length + sz t) (cnR t s)
  | .var x, s => by
    rw [cnR]
    simp only [sz]
    by_cases c : x < 2
    · rw [if_pos c]; exact vsT_var (fun z => by omega)
    · rw [if_neg c]
      by_cases d : x ∈ s
      · rw [if_pos d]
        have := ix_lt d
        exact vsT_var (fun z => by omega)
      · rw [if_neg d]
        exact vsT_var (fun z => by omega)
  | .op a b, s => by
    rw [cnR]
    have h1 := cnR_vs a s
    have h2 := cnR_vs b (cnT a s).2
    have h3 := cn_le a s
    simp only [sz]
    exact vsT_op.mpr ⟨fun x h o => by have := h1 x h o; show x < _; omega, fun x h o => by have := h2 x h o; show x < _; omega⟩
/-- what a told text leaves behind -/
def TxH (h h1 : AH) (kp : Nat → Option TE) : Prop := KP h h1 (90 :: 91 :: RfA) (80 :: 81 :: RfF) ∧ KpJ h1 kp ∧ (h.vl 42 50 ≤ h1.vl 42 50 ∧ h1.vl 42 50 ≤ h.vl 42 50 + 206010)
theorem i_writesType {h : AH} {T : TE} (hI : RI h) (hr : RowQ h T) (hsz : sz T ≤ 200) : CV mX11_writesType 3 [rv 42] h (oi fun r h1 => r = ((txR (cnR T []) (-1)).length : Int) ∧ KP h h1 [90, 91] [80, 81] ∧ TxQ h1 (txR (cnR T []) (-1))) := by
  refine s_writesType hI ?_ ?_ (by rw [cnR_sz]; exact hsz)
  · rw [cnR_row]
    exact fun i hi => by rw [Nat.zero_add]; exact hr.2.2 i hi
  · exact fun x h o => by
      have := cnR_vs T [] x h o
      have h9 : ([] : List Nat).length = 0 := rfl
      show x < 1000
      omega
set_option maxRecDepth 100000 in
theorem r_tell {p : Int} {N : Nat} {LL : Nat → List Nd} {kp : Nat → Option TE} {h : AH} (hI : RI h) (hN : NV h N LL) (hK : KpJ h kp) (hst : 0 ≤ h.vl 42 50 ∧ h.vl 42 50 + 206010 ≤ 2147483000) :
    CV mX11_tell 10 [rv 42, iv p] h (oi fun x h1 => (TqH h h1 kp ∧ ((¬ (0 ≤ p ∧ p < (N : Int)) ∧ h1.vl 42 0 = 1) ∨ ((0 ≤ p ∧ p < (N : Int)) ∧ h1.vl 42 0 = 2 ∧ ∃ r S, fnR (LL p.toNat) kp r S ∧ r.1 ≠ 0))) ∨ (TxH h h1 kp ∧ (0 ≤ p ∧ p < (N : Int)) ∧ h1.vl 42 0 = 0 ∧ ∃ r S, fnR (LL p.toNat) kp r S ∧ r.1 = 0 ∧ x = ((txR (cnR (S.2.1 0) []) (-1)).length : Int) ∧ TxQ h1 (txR (cnR (S.2.1 0) []) (-1)))) := by
  refine cv_of cdX11_tell ?_
  show EV _ _ 0 [rv 42, iv p] [] h _
  by_cases hp : 0 ≤ p ∧ p < (N : Int)
  · skip
    refine ev_aload_n dX11_tell_0 rfl ?_
    refine ev_aload_n dX11_tell_1 rfl ?_
    refine ev_iload_n dX11_tell_2 rfl ?_
    refine ev_cvi dX11_tell_3 lX11_361 (i_les1 hI hN hp) (by decide) hI.o hI.n rfl rfl rfl (Nat.le_of_ble_eq_true rfl) rfl (fun r z1 q => ?_)
    obtain ⟨rfl, e⟩ := q
    rw [e]
    refine ev_ifne 13 dX11_tell_6 (fun hbr => ?_) (fun h_no => (by exfalso; omega))
    refine ev_aload_n dX11_tell_13 rfl ?_
    refine ev_iload_n dX11_tell_14 rfl ?_
    refine ev_cvi dX11_tell_15 lX11_367 (i_finds hI hN hK hp (by omega)) (by decide) hI.o hI.n rfl rfl rfl (Nat.le_of_ble_eq_true rfl) rfl (fun x h1 q => ?_)
    obtain ⟨q, K1⟩ := q
    obtain ⟨q1, q2, q3, r, S, q4, q5, q6, q7⟩ := q
    have I1 : RI h1 := q1.ri hI
    by_cases c : r.1 = 0
    · skip
      rw [if_pos c] at q6
      refine ev_ifeq 25 dX11_tell_18 (fun h_no => (by exfalso; omega)) (fun hb => ?_)
      refine ev_iconst dX11_tell_21 ?_
      refine ev_gt 26 dX11_tell_22 ?_
      refine ev_pt dX11_tell_26 fX11_161 I1.o I1.n rfl ?_
      obtain ⟨N1, n1, R1⟩ := q7 c
      obtain ⟨h2, e2⟩ : ∃ h2, h2 = h1.put 42 0 0 := ⟨_, rfl⟩
      rw [← e2]
      have k2 : KP h1 h2 [] [0] := by rw [e2]; exact KP.rf.pf (by decide)
      have I2 : RI h2 := k2.ri I1
      have t0 : h2.vl 42 0 = 0 := by rw [e2]; rfl
      have f50 : h2.vl 42 50 = h1.vl 42 50 := k2.fl
      have R2 := R1.kp k2
      obtain ⟨T, g2, s2, s3, s4, s5⟩ := R2
      have hl0 : 0 < (LL p.toNat).length := List.length_pos_iff.mpr q2.2.2.1
      obtain ⟨-, a, a1, a2, a3⟩ := s2 0 hl0
      have z9 := fnR_sz q4 c 0 hl0
      refine ev_aload_n dX11_tell_29 rfl ?_
      refine ev_getiv dX11_tell_30 fX11_161 I2.o I2.n rfl t0 ?_
      refine ev_ifeq 38 dX11_tell_33 (fun hb2 => ?_) (fun h_no => (by exfalso; omega))
      refine ev_aload_n dX11_tell_38 rfl ?_
      refine ev_aload_n dX11_tell_39 rfl ?_
      refine ev_getrv dX11_tell_40 fX11_137 I2.o I2.n rfl I2.v_type ?_
      refine ev_iconst dX11_tell_43 ?_
      refine ev_ildv dX11_tell_44 I2.k_type I2.n_type rfl (by omega) (by omega) a2 ?_
      refine ev_cvv dX11_tell_45 lX11_370 (s_writesN (t := a) I2 g2 a1 (by rw [a3]; exact z9) (by unfold ir; omega)) (by decide) I2.o I2.n rfl rfl rfl (Nat.le_of_ble_eq_true rfl) rfl (fun h3 q => ?_)
      obtain ⟨k3, t3, g3, w3⟩ := q
      rw [a3] at w3
      have I3 : RI h3 := k3.ri I2
      refine ev_aload_n dX11_tell_48 rfl ?_
      refine ev_cvi dX11_tell_49 lX11_452 (i_writesType I3 w3 z9) (by decide) I3.o I3.n rfl rfl rfl (Nat.le_of_ble_eq_true rfl) rfl (fun r2 h4 q => ?_)
      obtain ⟨rfl, k4, w4⟩ := q
      have U0 : h4.vl 42 0 = 0 := by rw [k4.fl, k3.fl]; exact t0
      have f4 : h4.vl 42 50 = h3.vl 42 50 := k4.fl
      exact ev_iret dX11_tell_52 (⟨_, rfl, Or.inr ⟨⟨((q1.wk (by decide) (by decide)).tr (k2.wk (by decide) (by decide))).tr ((k3.wk (by decide) (by decide)).tr (k4.wk (by decide) (by decide))), ((K1.kp k2).st k3 g3.sn).kp k4, by omega⟩, hp, U0, r, S, q4, c, rfl, w4⟩⟩)
    rw [if_neg c] at q6
    refine ev_ifeq 25 dX11_tell_18 (fun hb => ?_) (fun h_no => (by exfalso; omega))
    refine ev_iconst dX11_tell_25 ?_
    refine ev_pt dX11_tell_26 fX11_161 I1.o I1.n rfl ?_
    obtain ⟨h2, e2⟩ : ∃ h2, h2 = h1.put 42 0 2 := ⟨_, rfl⟩
    rw [← e2]
    have k2 : KP h1 h2 [] [0] := by rw [e2]; exact KP.rf.pf (by decide)
    have I2 : RI h2 := k2.ri I1
    have t0 : h2.vl 42 0 = 2 := by rw [e2]; rfl
    have f50 : h2.vl 42 50 = h1.vl 42 50 := k2.fl
    refine ev_aload_n dX11_tell_29 rfl ?_
    refine ev_getiv dX11_tell_30 fX11_161 I2.o I2.n rfl t0 ?_
    refine ev_ifeq 38 dX11_tell_33 (fun h_no => (by exfalso; omega)) (fun hb2 => ?_)
    refine ev_iconst dX11_tell_36 ?_
    exact ev_iret dX11_tell_37 (⟨_, rfl, Or.inl ⟨⟨(q1.wk (by decide) (by decide)).tr (k2.wk (by decide) (by decide)), K1.kp k2, by omega⟩, Or.inr ⟨hp, t0, r, S, q4, c⟩⟩⟩)
  refine ev_aload_n dX11_tell_0 rfl ?_
  refine ev_aload_n dX11_tell_1 rfl ?_
  refine ev_iload_n dX11_tell_2 rfl ?_
  refine ev_cvi dX11_tell_3 lX11_361 (i_les0 hI hN hp) (by decide) hI.o hI.n rfl rfl rfl (Nat.le_of_ble_eq_true rfl) rfl (fun r z1 q => ?_)
  obtain ⟨rfl, e⟩ := q
  rw [e]
  refine ev_ifne 13 dX11_tell_6 (fun h_no => (by exfalso; omega)) (fun hbr => ?_)
  refine ev_iconst dX11_tell_9 ?_
  refine ev_gt 26 dX11_tell_10 ?_
  refine ev_pt dX11_tell_26 fX11_161 hI.o hI.n rfl ?_
  obtain ⟨h1, e1⟩ : ∃ h1, h1 = h.put 42 0 1 := ⟨_, rfl⟩
  rw [← e1]
  have k1 : KP h h1 [] [0] := by rw [e1]; exact KP.rf.pf (by decide)
  have I1 : RI h1 := k1.ri hI
  have t0 : h1.vl 42 0 = 1 := by rw [e1]; rfl
  have f50 : h1.vl 42 50 = h.vl 42 50 := k1.fl
  refine ev_aload_n dX11_tell_29 rfl ?_
  refine ev_getiv dX11_tell_30 fX11_161 I1.o I1.n rfl t0 ?_
  refine ev_ifeq 38 dX11_tell_33 (fun h_no => (by exfalso; omega)) (fun hb => ?_)
  refine ev_iconst dX11_tell_36 ?_
  exact ev_iret dX11_tell_37 (⟨_, rfl, Or.inl ⟨⟨k1.wk (by decide) (by decide), hK.kp k1, by omega⟩, Or.inl ⟨hp, t0⟩⟩⟩)
