/-! an application of one lesson to another one: the reference -/
theorem ins_sz (nv : Nat) : ∀ R : TE, sz (insR nv R) = sz R
  | .var x => by
    unfold insR
    rw [sbs]
    split <;> rfl
  | .op a b => by
    have h1 := ins_sz nv a
    have h2 := ins_sz nv b
    unfold insR at h1 h2 ⊢
    simp only [sbs, sz, h1, h2]
/-- the size of what an application gives, 0 if there is none or it is too large -/
def ftdR (A B : TE) (x : Int) : Prop := ∃ F R σ, un F [(insR 2 A, .op (insR 212 B) (.var 422))] = some (R, σ) ∧ x = if R.1 ≠ 0 ∨ 201 ≤ sz (ap σ (.var 422)) then 0 else (sz (ap σ (.var 422)) : Int)
theorem ftd_det {A B : TE} {x y : Int} (h : ftdR A B x) (h' : ftdR A B y) : x = y := by
  obtain ⟨F1, R1, σ1, a1, a2⟩ := h
  obtain ⟨F2, R2, σ2, b1, b2⟩ := h'
  have e9 := (un_mono _ _ _ a1 (max F1 F2) (by omega)).symm.trans (un_mono _ _ _ b1 (max F1 F2) (by omega))
  have e9 := Option.some.inj e9
  have eR : R1 = R2 := congrArg Prod.fst e9
  have eσ : σ1 = σ2 := congrArg Prod.snd e9
  rw [a2, b2, eR, eσ]
abbrev FdA : List Nat := [66, 67, 68, 69, 70, 71, 72, 73, 74, 75, 76, 77, 81, 83]
abbrev FdF : List Nat := [49, 50, 51, 52, 54, 55]
def FdQ (h : AH) (A B : TE) (x : Int) (h1 : AH) : Prop := ftdR A B x ∧ KP h h1 FdA FdF ∧ (∀ k, h1.vl 71 k ≤ h1.vl 42 50) ∧ (h.vl 42 50 ≤ h1.vl 42 50 ∧ h1.vl 42 50 ≤ h.vl 42 50 + 3000)
theorem cnR_210 {A : TE} (hA : sz A ≤ 200) : ∀ x, 2 ≤ x → oc x (cnR A []) = true → x < 210 := fun x x2 xo => by
  have := cnR_vs A [] x x2 xo
  have h9 : ([] : List Nat).length = 0 := rfl
  omega
set_option maxRecDepth 100000 in
theorem s_fitted {h : AH} {A B : TE} (hI : RI h) (hr : TwQ h A B) (hA : sz A ≤ 200) (hB : sz B ≤ 200) (hsn : ∀ k, h.vl 71 k ≤ h.vl 42 50) (hst : 0 ≤ h.vl 42 50 ∧ h.vl 42 50 + 3000 ≤ 2147483000) : CV mX11_fitted 7 [rv 42] h (oi (FdQ h (cnR A []) (cnR B []))) := by
  obtain ⟨⟨n1, r1⟩, n2, r2⟩ := hr
  have zA : sz (cnR A []) = sz A := cnR_sz _ _
  have zB : sz (cnR B []) = sz B := cnR_sz _ _
  refine cv_of cdX11_fitted ?_
  show EV _ _ 0 [rv 42, uv, uv, uv, uv] [] h _
  obtain ⟨h1, e1⟩ : ∃ h1, h1 = h.put 42 49 0 := ⟨_, rfl⟩
  have k1 : KP h h1 [] [49] := by rw [e1]; exact KP.rf.pf (by decide)
  have I1 : RI h1 := k1.ri hI
  have f50 : h1.vl 42 50 = h.vl 42 50 := k1.fl
  have v1 : h1.vl 42 73 = (sz (cnR A []) : Int) := by rw [k1.fl, zA]; exact n1
  have v2 : h1.vl 42 74 = (sz (cnR B []) : Int) := by rw [k1.fl, zB]; exact n2
  have R0 : RS h1 0 0 IS0 (fun _ => False) (fun _ => False) := RS0 (by rw [e1]; rfl) (fun k => by rw [f50, k1.vl]; exact hsn k) (by decide)
  obtain ⟨T0, hR0, -⟩ := R0
  have hR0 : RN h1 0 0 2 (fun _ => false) T0 := hR0
  have kd79 : h1.kd 79 = (100, 210) := I1.k_one
  have kd80 : h1.kd 80 = (100, 210) := I1.k_two
  have hn := I1.2.1
  have q79 : ∀ i (hi : i < (rowT (cnR A [])).length), h1.vl 79 (0 + i) = (rowT (cnR A []))[i] := fun i hi => by
    rw [k1.vl]
    have hi2 : i < (cnT A []).1.length := by rw [← cnR_row]; exact hi
    have := r1 i hi2
    simp only [cnR_row]
    exact this
  refine ev_aload_n dX11_fitted_0 rfl ?_
  refine ev_iconst dX11_fitted_1 ?_
  refine ev_pt dX11_fitted_2 fX11_213 hI.o hI.n rfl ?_
  rw [← e1]
  refine ev_aload_n dX11_fitted_5 rfl ?_
  refine ev_aload_n dX11_fitted_6 rfl ?_
  refine ev_getrv dX11_fitted_7 fX11_122 I1.o I1.n rfl I1.v_one ?_
  refine ev_iconst dX11_fitted_10 ?_
  refine ev_aload_n dX11_fitted_11 rfl ?_
  refine ev_getiv dX11_fitted_12 fX11_394 I1.o I1.n rfl v1 ?_
  refine ev_cvi dX11_fitted_15 lX11_285 (s_makesN (src := 79) (start := 0) (R := cnR A []) I1 hR0 kd79 (by omega) ⟨by decide, by decide⟩ (by omega) (by omega) (fun x hx => nomatch hx) (by omega) (by omega) q79 (cnR_210 hA)) (by decide) I1.o I1.n rfl rfl rfl (Nat.le_of_ble_eq_true rfl) rfl (fun r h2 q => ?_)
  obtain ⟨c, M, T2, rfl, cM, hM, k2, R2, hT2, hc⟩ := q
  have I2 : RI h2 := k2.ri I1
  have g50 : h2.vl 42 50 = h1.vl 42 50 := k2.fl
  have w2 : h2.vl 42 74 = (sz (cnR B []) : Int) := (k2.fl).trans v2
  have q80 : ∀ i (hi : i < (rowT (cnR B [])).length), h2.vl 80 (0 + i) = (rowT (cnR B []))[i] := fun i hi => by
    rw [k2.vl, k1.vl]
    have hi2 : i < (cnT B []).1.length := by rw [← cnR_row]; exact hi
    have := r2 i hi2
    simp only [cnR_row]
    exact this
  have kd80' : h2.kd 80 = (100, 210) := I2.k_two
  have hn2 := I2.2.1
  refine ev_ist1 dX11_fitted_18 ?_
  refine ev_aload_n dX11_fitted_19 rfl ?_
  refine ev_aload_n dX11_fitted_20 rfl ?_
  refine ev_getrv dX11_fitted_21 fX11_125 I2.o I2.n rfl I2.v_two ?_
  refine ev_iconst dX11_fitted_24 ?_
  refine ev_aload_n dX11_fitted_25 rfl ?_
  refine ev_getiv dX11_fitted_26 fX11_397 I2.o I2.n rfl w2 ?_
  refine ev_cvi dX11_fitted_29 lX11_285 (s_makesN (src := 80) (start := 0) (R := cnR B []) I2 R2 kd80' (by omega) ⟨by decide, by decide⟩ (by omega) (by omega) (fun x hx => nomatch hx) (by omega) (by omega) q80 (cnR_210 hB)) (by decide) I2.o I2.n rfl rfl rfl (Nat.le_of_ble_eq_true rfl) rfl (fun r h3 q => ?_)
  obtain ⟨d, M3, T3, rfl, dM, hM3, k3, R3, hT3, hd⟩ := q
  have I3 : RI h3 := k3.ri I2
  have g51 : h3.vl 42 50 = h2.vl 42 50 := k3.fl
  refine ev_ist2 dX11_fitted_32 ?_
  refine ev_aload_n dX11_fitted_33 rfl ?_
  refine ev_cvi dX11_fitted_34 lX11_239 (s_freshN I3 R3 (by omega) (by omega) rfl) (by decide) I3.o I3.n rfl rfl rfl (Nat.le_of_ble_eq_true rfl) rfl (fun r h4 q => ?_)
  obtain ⟨rfl, k4, R4⟩ := q
  have I4 : RI h4 := k4.ri I3
  have g52 : h4.vl 42 50 = h3.vl 42 50 := k4.fl
  refine ev_ist3 dX11_fitted_37 ?_
  refine ev_aload_n dX11_fitted_38 rfl ?_
  refine ev_iload_n dX11_fitted_39 rfl ?_
  refine ev_aload_n dX11_fitted_40 rfl ?_
  refine ev_iload_n dX11_fitted_41 rfl ?_
  refine ev_iload_n dX11_fitted_42 rfl ?_
  refine ev_cvi dX11_fitted_43 lX11_271 (s_arrowN (a := d) (b := M3) I4 R4 (by omega) (by omega) (by omega) (by omega)) (by decide) I4.o I4.n rfl rfl rfl (Nat.le_of_ble_eq_true rfl) rfl (fun r h5 q => ?_)
  obtain ⟨rfl, k5, R5⟩ := q
  have I5 : RI h5 := k5.ri I4
  have g53 : h5.vl 42 50 = h4.vl 42 50 := k5.fl
  have uc : upT (upT T3 M3 (.var (2 + 210 + 210))) (M3 + 1) (.op (upT T3 M3 (.var (2 + 210 + 210)) d) (upT T3 M3 (.var (2 + 210 + 210)) M3)) c = insR 2 (cnR A []) := by
    rw [upT_n (by omega), upT_n (by omega), hT3 c (by omega), hc]
  have ua : upT (upT T3 M3 (.var (2 + 210 + 210))) (M3 + 1) (.op (upT T3 M3 (.var (2 + 210 + 210)) d) (upT T3 M3 (.var (2 + 210 + 210)) M3)) (M3 + 1) = .op (insR 212 (cnR B [])) (.var 422) := by
    rw [upT_s, upT_n (by omega), hd, upT_s]
  have uv2 : upT (upT T3 M3 (.var (2 + 210 + 210))) (M3 + 1) (.op (upT T3 M3 (.var (2 + 210 + 210)) d) (upT T3 M3 (.var (2 + 210 + 210)) M3)) M3 = .var 422 := by
    rw [upT_n (by omega), upT_s]
  have zc : sz (insR 2 (cnR A [])) = sz A := (ins_sz _ _).trans zA
  have zd : sz (Lean.Data.AC.Expr.op (insR 212 (cnR B [])) (.var 422)) = sz B + 2 := by
    simp only [sz]
    rw [ins_sz, zB]; omega
  refine ev_cvi dX11_fitted_46 lX11_300 (s_fitsN (t := c) (u := M3 + 1) I5 R5 (by omega) (by omega) (by rw [uc, ua, zc, zd]; omega) (by rw [uc, ua, zc, zd]; omega) (by omega)) (by decide) I5.o I5.n rfl rfl rfl (Nat.le_of_ble_eq_true rfl) rfl (fun x h6 q => ?_)
  obtain ⟨F, R, σ, hu, rfl, k6, b1, b2, sn6, ok, -⟩ := q
  rw [uc, ua] at hu
  rw [uc, ua, zc, zd] at b2
  have I6 : RI h6 := k6.ri I5
  have K6 : KP h h6 FdA FdF := (((k1.wk (by decide) (by decide)).tr (k2.wk (by decide) (by decide))).tr ((k3.wk (by decide) (by decide)).tr (k4.wk (by decide) (by decide)))).tr ((k5.wk (by decide) (by decide)).tr (k6.wk (by decide) (by decide)))
  by_cases z : R.1 = 0
  · skip
    obtain ⟨R6, -⟩ := ok z
    refine ev_ifeq 54 dX11_fitted_49 (fun hb => ?_) (fun h_no => (by exfalso; omega))
    refine ev_aload_n dX11_fitted_54 rfl ?_
    refine ev_iload_n dX11_fitted_55 rfl ?_
    refine ev_cvi dX11_fitted_56 lX11_297 (s_sizeN (t := M3) I6 R6 (by omega) (by unfold ir; omega)) (by decide) I6.o I6.n rfl rfl rfl (Nat.le_of_ble_eq_true rfl) rfl (fun r h7 q => ?_)
    obtain ⟨rfl, k7, st7, R7⟩ := q
    have K7 : KP h h7 FdA FdF := K6.tr (k7.wk (by decide) (by decide))
    have u9 : ap σ (upT (upT T3 M3 (.var (2 + 210 + 210))) (M3 + 1) (.op (upT T3 M3 (.var (2 + 210 + 210)) d) (upT T3 M3 (.var (2 + 210 + 210)) M3)) M3) = ap σ (.var 422) := by rw [uv2]
    rw [u9]
    refine ev_ist4 dX11_fitted_59 ?_
    refine ev_iload dX11_fitted_61 rfl ?_
    refine ev_sipush dX11_fitted_63 ?_
    by_cases z2 : 201 ≤ sz (ap σ (.var 422))
    · skip
      have z3 := szc_201.mpr z2
      refine ev_icmpne 73 dX11_fitted_66 (fun h_no => (by exfalso; omega)) (fun hb2 => ?_)
      refine ev_iconst dX11_fitted_69 ?_
      refine ev_gt 75 dX11_fitted_70 ?_
      exact ev_iret dX11_fitted_75 (⟨_, rfl, ⟨F, R, σ, hu, by rw [if_pos (Or.inr z2)]⟩, K7, R7.sn, by omega⟩)
    have z3 : ¬ szc (ap σ (.var 422)) = 201 := fun y => z2 (szc_201.mp y)
    have z4 : szc (ap σ (.var 422)) = (sz (ap σ (.var 422)) : Int) := by unfold szc; rw [if_pos (by omega)]
    refine ev_icmpne 73 dX11_fitted_66 (fun hb2 => ?_) (fun h_no => (by exfalso; omega))
    refine ev_iload dX11_fitted_73 rfl ?_
    exact ev_iret dX11_fitted_75 (⟨_, rfl, ⟨F, R, σ, hu, by rw [if_neg (fun y => y.elim (fun w => w z) z2)]; exact z4⟩, K7, R7.sn, by omega⟩)
  refine ev_ifeq 54 dX11_fitted_49 (fun h_no => (by exfalso; omega)) (fun hb => ?_)
  refine ev_iconst dX11_fitted_52 ?_
  exact ev_iret dX11_fitted_53 (⟨_, rfl, ⟨F, R, σ, hu, by rw [if_pos (Or.inl z)]⟩, K6, sn6, by omega⟩)
theorem ftd_0 {A B : TE} {x : Int} (h : ftdR A B x) : 0 ≤ x ∧ x ≤ 200 := by
  obtain ⟨F, R, σ, a1, a2⟩ := h
  rw [a2]
  split <;> omega
set_option maxRecDepth 100000 in
theorem r_fit {p q : Int} {N : Nat} {LL : Nat → List Nd} {kp : Nat → Option TE} {h : AH} (hI : RI h) (hN : NV h N LL) (hK : KpJ h kp) (hst : 0 ≤ h.vl 42 50 ∧ h.vl 42 50 + 415100 ≤ 2147483000) :
    CV mX11_fit 12 [rv 42, iv p, iv q] h (oi fun x h1 => KP h h1 BoA (0 :: BoF) ∧ KpJ h1 kp ∧ (h.vl 42 50 ≤ h1.vl 42 50 ∧ h1.vl 42 50 ≤ h.vl 42 50 + 415100) ∧ ((¬ ((0 ≤ p ∧ p < (N : Int)) ∧ (0 ≤ q ∧ q < (N : Int))) ∧ h1.vl 42 0 = 1) ∨ (((0 ≤ p ∧ p < (N : Int)) ∧ (0 ≤ q ∧ q < (N : Int))) ∧ ((h1.vl 42 0 = 2 ∧ ∃ g, BoR (LL p.toNat) (LL q.toNat) kp 0 g) ∨ ∃ r S r' S', fnR (LL p.toNat) kp r S ∧ r.1 = 0 ∧ fnR (LL q.toNat) kp r' S' ∧ r'.1 = 0 ∧ ∃ y, ftdR (cnR (S.2.1 0) []) (cnR (S'.2.1 0) []) y ∧ ((y = 0 ∧ h1.vl 42 0 = 3) ∨ (y ≠ 0 ∧ h1.vl 42 0 = 0 ∧ x = y)))))) := by
  refine cv_of cdX11_fit ?_
  show EV _ _ 0 [rv 42, iv p, iv q, uv] [] h _
  refine ev_aload_n dX11_fit_0 rfl ?_
  refine ev_aload_n dX11_fit_1 rfl ?_
  refine ev_iload_n dX11_fit_2 rfl ?_
  refine ev_iload_n dX11_fit_3 rfl ?_
  refine ev_cvi dX11_fit_4 lX11_403 (s_twoLessons hI hN hK (by omega)) (by decide) hI.o hI.n rfl rfl rfl (Nat.le_of_ble_eq_true rfl) rfl (fun x h1 q0 => ?_)
  obtain ⟨k1, J1, t1, q0⟩ := q0
  have I1 : RI h1 := k1.ri hI
  obtain ⟨h2, e2⟩ : ∃ h2, h2 = h1.put 42 0 x := ⟨_, rfl⟩
  have k2 : KP h1 h2 [] [0] := by rw [e2]; exact KP.rf.pf (by decide)
  have I2 : RI h2 := k2.ri I1
  have t0 : h2.vl 42 0 = x := by rw [e2]; rfl
  have f50 : h2.vl 42 50 = h1.vl 42 50 := k2.fl
  have K2 : KP h h2 BoA (0 :: BoF) := (k1.wk (by decide) (by decide)).tr (k2.wk (by decide) (by decide))
  have J2 : KpJ h2 kp := J1.kp k2
  refine ev_pt dX11_fit_7 fX11_161 I1.o I1.n rfl ?_
  rw [← e2]
  refine ev_aload_n dX11_fit_10 rfl ?_
  refine ev_getiv dX11_fit_11 fX11_161 I2.o I2.n rfl t0 ?_
  by_cases c : x = 0
  · skip
    obtain ⟨hin, r, S, w1, w⟩ : ((0 ≤ p ∧ p < (N : Int)) ∧ (0 ≤ q ∧ q < (N : Int))) ∧ BoR (LL p.toNat) (LL q.toNat) kp 1 h1 := by
      rcases q0 with ⟨_, z⟩ | ⟨a, ⟨z, b⟩ | ⟨z, b⟩⟩
      · omega
      · exact ⟨a, b⟩
      · omega
    obtain ⟨c1, r', S', w2, w⟩ := w.resolve_left (fun z => absurd z.2 (by decide))
    obtain ⟨c2, -, ⟨⟨u1, u2⟩, u3, u4⟩, z1, z2⟩ := w.resolve_left (fun z => absurd z.2 (by decide))
    have tw : TwQ h2 (S.2.1 0) (S'.2.1 0) := ⟨⟨(k2.fl).trans u1, by rw [k2.vl]; exact u2⟩, (k2.fl).trans u3, by rw [k2.vl]; exact u4⟩
    refine ev_ifne 24 dX11_fit_14 (fun h_no => (by exfalso; omega)) (fun hb => ?_)
    refine ev_aload_n dX11_fit_17 rfl ?_
    refine ev_cvi dX11_fit_18 lX11_412 (s_fitted I2 tw z1 z2 J2.2.2 (by omega)) (by decide) I2.o I2.n rfl rfl rfl (Nat.le_of_ble_eq_true rfl) rfl (fun y h3 q3 => ?_)
    obtain ⟨y1, k3, sn3, st3⟩ := q3
    have I3 : RI h3 := k3.ri I2
    have K3 : KP h h3 BoA (0 :: BoF) := K2.tr (k3.wk (by decide) (by decide))
    have J3 : KpJ h3 kp := J2.st k3 sn3
    have t3 : h3.vl 42 0 = 0 := by rw [k3.fl]; exact t0.trans c
    refine ev_gt 25 dX11_fit_21 ?_
    refine ev_ist3 dX11_fit_25 ?_
    refine ev_aload_n dX11_fit_26 rfl ?_
    refine ev_getiv dX11_fit_27 fX11_161 I3.o I3.n rfl t3 ?_
    refine ev_ifne 42 dX11_fit_30 (fun h_no => (by exfalso; omega)) (fun hb2 => ?_)
    refine ev_iload_n dX11_fit_33 rfl ?_
    by_cases d : y = 0
    · skip
      refine ev_ifne 42 dX11_fit_34 (fun h_no => (by exfalso; omega)) (fun hb3 => ?_)
      refine ev_aload_n dX11_fit_37 rfl ?_
      refine ev_iconst dX11_fit_38 ?_
      refine ev_pt dX11_fit_39 fX11_161 I3.o I3.n rfl ?_
      refine ev_iload_n dX11_fit_42 rfl ?_
      have k4 : KP h3 (h3.put 42 0 3) [] [0] := KP.rf.pf (by decide)
      have f4 : (h3.put 42 0 3).vl 42 50 = h3.vl 42 50 := k4.fl
      exact ev_iret dX11_fit_43 (⟨_, rfl, K3.tr (k4.wk (by decide) (by decide)), J3.kp k4, by omega, Or.inr ⟨hin, Or.inr ⟨r, S, r', S', w1, c1, w2, c2, y, y1, Or.inl ⟨d, rfl⟩⟩⟩⟩)
    refine ev_ifne 42 dX11_fit_34 (fun hb3 => ?_) (fun h_no => (by exfalso; omega))
    refine ev_iload_n dX11_fit_42 rfl ?_
    exact ev_iret dX11_fit_43 (⟨_, rfl, K3, J3, by omega, Or.inr ⟨hin, Or.inr ⟨r, S, r', S', w1, c1, w2, c2, y, y1, Or.inr ⟨d, t3, rfl⟩⟩⟩⟩)
  refine ev_ifne 24 dX11_fit_14 (fun hb => ?_) (fun h_no => (by exfalso; omega))
  refine ev_iconst dX11_fit_24 ?_
  refine ev_ist3 dX11_fit_25 ?_
  refine ev_aload_n dX11_fit_26 rfl ?_
  refine ev_getiv dX11_fit_27 fX11_161 I2.o I2.n rfl t0 ?_
  refine ev_ifne 42 dX11_fit_30 (fun hb2 => ?_) (fun h_no => (by exfalso; omega))
  refine ev_iload_n dX11_fit_42 rfl ?_
  exact ev_iret dX11_fit_43 (⟨_, rfl, K2, J2, by omega, q0.imp (fun z => ⟨z.1, t0.trans z.2⟩) (fun z => ⟨z.1, Or.inl (z.2.elim (fun y => absurd y.1 c) (fun y => ⟨t0.trans y.1, _, y.2⟩))⟩)⟩)
