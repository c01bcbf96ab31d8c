/-! the mean size and the share of typed lessons: the reference -/
theorem ofR_le {LL : Nat → List Nd} {kp : Nat → Option TE} {w : Int} : ∀ (n : Nat) (s : Int), ofR LL kp w n s → (∀ l, l < n → LL l ≠ []) → 0 ≤ s ∧ s ≤ 200 * (n : Int)
  | 0, s, h, _ => by
    have h : s = 0 := h
    omega
  | n + 1, s, ⟨a, r, S, h1, h2, h3⟩, hl => by
    have e1 := ofR_le n a h1 (fun l hl' => hl l (by omega))
    have e2 := ofV_le (w := w) h2 (hl n (by omega))
    omega
theorem ofR_le0 {LL : Nat → List Nd} {kp : Nat → Option TE} : ∀ (n : Nat) (s : Int), ofR LL kp 0 n s → 0 ≤ s ∧ s ≤ (n : Int)
  | 0, s, h => by
    have h : s = 0 := h
    omega
  | n + 1, s, ⟨a, r, S, h1, h2, h3⟩ => by
    have e1 := ofR_le0 n a h1
    have e2 : 0 ≤ ofV r S 0 ∧ ofV r S 0 ≤ 1 := by
      unfold ofV
      split
      · split <;> omega
      · rw [if_pos rfl]; omega
    omega
theorem nn32 : ∀ a : Nat, a < 7 → ∀ b : Nat, b < 6 → vf_n32 (FP.fdiv (FP.i2f (Int32.ofInt (a : Int))) (FP.i2f (Int32.ofInt ((b + 1 : Nat) : Int)))) ∧ vf_n64 (FP.f2d (FP.fdiv (FP.i2f (Int32.ofInt (a : Int))) (FP.i2f (Int32.ofInt ((b + 1 : Nat) : Int))))) := by
  unfold vf_n32 vf_n64
  decide +kernel
theorem nn64 : ∀ b : Nat, b < 6 → ∀ a : Nat, a < 1201 → vf_n64 (FP.ddiv (FP.i2d (Int32.ofInt (a : Int))) (FP.i2d (Int32.ofInt ((b + 1 : Nat) : Int)))) := by
  unfold vf_n64
  decide +kernel
abbrev MeF : List Nat := 0 :: OfF
set_option maxRecDepth 100000 in
theorem r_meanSize {N : Nat} {LL : Nat → List Nd} {kp : Nat → Option TE} {h : AH} (hI : RI h) (hN : NV h N LL) (hK : KpJ h kp) (hst : 0 ≤ h.vl 42 50 ∧ h.vl 42 50 + 2472120 ≤ 2147483000) :
    CV mX11_meanSize 12 [rv 42] h (fun o h1 => KP h h1 RfA MeF ∧ KpJ h1 kp ∧ (h.vl 42 50 ≤ h1.vl 42 50 ∧ h1.vl 42 50 ≤ h.vl 42 50 + 2472120) ∧ ∃ w m, o = dv w ∧ ofR LL kp 0 N m ∧ ((m = 0 ∧ h1.vl 42 0 = 1) ∨ (m ≠ 0 ∧ h1.vl 42 0 = 0 ∧ ∃ s, ofR LL kp 1 N s ∧ (0 ≤ s ∧ s ≤ 1200) ∧ (1 ≤ m ∧ m ≤ 6) ∧ w = FP.ddiv (FP.i2d (Int32.ofInt s)) (FP.i2d (Int32.ofInt m))))) := by
  have n6 := hN.2.1
  refine cv_of cdX11_meanSize ?_
  show EV _ _ 0 [rv 42, uv] [] h _
  refine ev_aload_n dX11_meanSize_0 rfl ?_
  refine ev_iconst dX11_meanSize_1 ?_
  refine ev_cvi dX11_meanSize_2 lX11_458 (s_ofLessons hI hN hK (by omega) (by omega)) (by decide) hI.o hI.n rfl rfl rfl (Nat.le_of_ble_eq_true rfl) rfl (fun m h1 q => ?_)
  obtain ⟨k1, J1, t1, o1⟩ := q
  have m9 := ofR_le0 N m o1
  have I1 : RI h1 := k1.ri hI
  refine ev_ist1 dX11_meanSize_5 ?_
  refine ev_aload_n dX11_meanSize_6 rfl ?_
  refine ev_iload_n dX11_meanSize_7 rfl ?_
  by_cases c : m = 0
  · skip
    obtain ⟨h2, e2⟩ : ∃ h2, h2 = h1.put 42 0 1 := ⟨_, rfl⟩
    have k2 : KP h1 h2 [] [0] := by rw [e2]; exact KP.rf.pf (by decide)
    have f50 : h2.vl 42 50 = h1.vl 42 50 := k2.fl
    have t0 : h2.vl 42 0 = 1 := by rw [e2]; rfl
    refine ev_ifne 15 dX11_meanSize_8 (fun h_no => (by exfalso; omega)) (fun hb => ?_)
    refine ev_iconst dX11_meanSize_11 ?_
    refine ev_gt 16 dX11_meanSize_12 ?_
    refine ev_pt dX11_meanSize_16 fX11_161 I1.o I1.n rfl ?_
    rw [← e2]
    refine ev_aload_n dX11_meanSize_19 rfl ?_
    refine ev_getiv dX11_meanSize_20 fX11_161 (k2.ri I1).o (k2.ri I1).n rfl t0 ?_
    refine ev_ifne 38 dX11_meanSize_23 (fun hb2 => ?_) (fun h_no => (by exfalso; omega))
    refine ev_dconst0 dX11_meanSize_38 ?_
    exact ev_dret dX11_meanSize_39 (⟨(k1.wk (by decide) (by decide)).tr (k2.wk (by decide) (by decide)), J1.kp k2, by omega, _, m, rfl, o1, Or.inl ⟨c, t0⟩⟩)
  obtain ⟨h2, e2⟩ : ∃ h2, h2 = h1.put 42 0 0 := ⟨_, rfl⟩
  have k2 : KP h1 h2 [] [0] := by rw [e2]; exact KP.rf.pf (by decide)
  have I2 : RI h2 := k2.ri I1
  have f50 : h2.vl 42 50 = h1.vl 42 50 := k2.fl
  have t0 : h2.vl 42 0 = 0 := by rw [e2]; rfl
  have N2 : NV h2 N LL := (hN.kp k1).kp k2
  have J2 : KpJ h2 kp := J1.kp k2
  refine ev_ifne 15 dX11_meanSize_8 (fun hb => ?_) (fun h_no => (by exfalso; omega))
  refine ev_iconst dX11_meanSize_15 ?_
  refine ev_pt dX11_meanSize_16 fX11_161 I1.o I1.n rfl ?_
  rw [← e2]
  refine ev_aload_n dX11_meanSize_19 rfl ?_
  refine ev_getiv dX11_meanSize_20 fX11_161 I2.o I2.n rfl t0 ?_
  refine ev_ifne 38 dX11_meanSize_23 (fun h_no => (by exfalso; omega)) (fun hb2 => ?_)
  refine ev_aload_n dX11_meanSize_26 rfl ?_
  refine ev_iconst dX11_meanSize_27 ?_
  refine ev_cvi dX11_meanSize_28 lX11_458 (s_ofLessons I2 N2 J2 (by omega) (by omega)) (by decide) I2.o I2.n rfl rfl rfl (Nat.le_of_ble_eq_true rfl) rfl (fun s h3 q => ?_)
  obtain ⟨k3, J3, t3, o3⟩ := q
  have s9 := ofR_le N s o3 (fun l hl => hN.ne hl)
  have I3 : RI h3 := k3.ri I2
  have hne : vf_n64 (FP.ddiv (FP.i2d (Int32.ofInt s)) (FP.i2d (Int32.ofInt m))) := by
    have := nn64 (m - 1).toNat (by omega) s.toNat (by omega)
    rw [show ((s.toNat : Nat) : Int) = s by omega, show (((m - 1).toNat + 1 : Nat) : Int) = m by omega] at this
    exact this
  refine ev_i2d dX11_meanSize_31 ?_
  refine ev_iload_n dX11_meanSize_32 rfl ?_
  refine ev_i2d dX11_meanSize_33 ?_
  refine ev_ddiv dX11_meanSize_34 hne ?_
  refine ev_gt 39 dX11_meanSize_35 ?_
  exact ev_dret dX11_meanSize_39 (⟨((k1.wk (by decide) (by decide)).tr (k2.wk (by decide) (by decide))).tr (k3.wk (by decide) (by decide)), J3, by omega, _, m, rfl, o1, Or.inr ⟨c, by rw [k3.fl]; exact t0, s, o3, by omega, by omega, rfl⟩⟩)
set_option maxRecDepth 100000 in
theorem r_typedShare {N : Nat} {LL : Nat → List Nd} {kp : Nat → Option TE} {h : AH} (hI : RI h) (hN : NV h N LL) (hK : KpJ h kp) (hst : 0 ≤ h.vl 42 50 ∧ h.vl 42 50 + 206010 * 6 ≤ 2147483000) :
    CV mX11_typedShare 12 [rv 42] h (fun o h1 => KP h h1 RfA MeF ∧ KpJ h1 kp ∧ (h.vl 42 50 ≤ h1.vl 42 50 ∧ h1.vl 42 50 ≤ h.vl 42 50 + 206010 * 6) ∧ ∃ w, o = fv w ∧ ((N = 0 ∧ h1.vl 42 0 = 1) ∨ (N ≠ 0 ∧ h1.vl 42 0 = 0 ∧ ∃ m, ofR LL kp 0 N m ∧ (0 ≤ m ∧ m ≤ (N : Int)) ∧ w = FP.fdiv (FP.i2f (Int32.ofInt m)) (FP.i2f (Int32.ofInt (N : Int)))))) := by
  have n6 := hN.2.1
  have v0 : h.vl 43 0 = (N : Int) := hN.1
  refine cv_of cdX11_typedShare ?_
  show EV _ _ 0 [rv 42] [] h _
  refine ev_aload_n dX11_typedShare_0 rfl ?_
  refine ev_aload_n dX11_typedShare_1 rfl ?_
  refine ev_getrv dX11_typedShare_2 fX11_13 hI.o hI.n rfl hI.v_v ?_
  refine ev_iconst dX11_typedShare_5 ?_
  refine ev_ildv dX11_typedShare_6 hI.k_v hI.n_v rfl (by omega) (by omega) v0 ?_
  by_cases c : N = 0
  · skip
    obtain ⟨h2, e2⟩ : ∃ h2, h2 = h.put 42 0 1 := ⟨_, rfl⟩
    have k2 : KP h h2 [] [0] := by rw [e2]; exact KP.rf.pf (by decide)
    have f50 : h2.vl 42 50 = h.vl 42 50 := k2.fl
    have t0 : h2.vl 42 0 = 1 := by rw [e2]; rfl
    refine ev_ifne 14 dX11_typedShare_7 (fun h_no => (by exfalso; omega)) (fun hb => ?_)
    refine ev_iconst dX11_typedShare_10 ?_
    refine ev_gt 15 dX11_typedShare_11 ?_
    refine ev_pt dX11_typedShare_15 fX11_161 hI.o hI.n rfl ?_
    rw [← e2]
    refine ev_aload_n dX11_typedShare_18 rfl ?_
    refine ev_getiv dX11_typedShare_19 fX11_161 (k2.ri hI).o (k2.ri hI).n rfl t0 ?_
    refine ev_ifne 42 dX11_typedShare_22 (fun hb2 => ?_) (fun h_no => (by exfalso; omega))
    refine ev_fconst0 dX11_typedShare_42 ?_
    exact ev_fret dX11_typedShare_43 (⟨k2.wk (by decide) (by decide), hK.kp k2, by omega, _, rfl, Or.inl ⟨c, t0⟩⟩)
  obtain ⟨h2, e2⟩ : ∃ h2, h2 = h.put 42 0 0 := ⟨_, rfl⟩
  have k2 : KP h h2 [] [0] := by rw [e2]; exact KP.rf.pf (by decide)
  have I2 : RI h2 := k2.ri hI
  have f50 : h2.vl 42 50 = h.vl 42 50 := k2.fl
  have t0 : h2.vl 42 0 = 0 := by rw [e2]; rfl
  have N2 : NV h2 N LL := hN.kp k2
  have J2 : KpJ h2 kp := hK.kp k2
  refine ev_ifne 14 dX11_typedShare_7 (fun hb => ?_) (fun h_no => (by exfalso; omega))
  refine ev_iconst dX11_typedShare_14 ?_
  refine ev_pt dX11_typedShare_15 fX11_161 hI.o hI.n rfl ?_
  rw [← e2]
  refine ev_aload_n dX11_typedShare_18 rfl ?_
  refine ev_getiv dX11_typedShare_19 fX11_161 I2.o I2.n rfl t0 ?_
  refine ev_ifne 42 dX11_typedShare_22 (fun h_no => (by exfalso; omega)) (fun hb2 => ?_)
  refine ev_aload_n dX11_typedShare_25 rfl ?_
  refine ev_iconst dX11_typedShare_26 ?_
  refine ev_cvi dX11_typedShare_27 lX11_458 (s_ofLessons I2 N2 J2 (by omega) (by omega)) (by decide) I2.o I2.n rfl rfl rfl (Nat.le_of_ble_eq_true rfl) rfl (fun m h3 q => ?_)
  obtain ⟨k3, J3, t3, o3⟩ := q
  have m9 := ofR_le0 N m o3
  have I3 : RI h3 := k3.ri I2
  have w0 : h3.vl 43 0 = (N : Int) := (N2.kp k3).1
  have hne : vf_n32 (FP.fdiv (FP.i2f (Int32.ofInt m)) (FP.i2f (Int32.ofInt (N : Int)))) := by
    have := (nn32 m.toNat (by omega) (N - 1) (by omega)).1
    rw [show ((m.toNat : Nat) : Int) = m by omega, show ((N - 1 + 1 : Nat) : Int) = (N : Int) by omega] at this
    exact this
  refine ev_i2f dX11_typedShare_30 ?_
  refine ev_aload_n dX11_typedShare_31 rfl ?_
  refine ev_getrv dX11_typedShare_32 fX11_13 I3.o I3.n rfl I3.v_v ?_
  refine ev_iconst dX11_typedShare_35 ?_
  refine ev_ildv dX11_typedShare_36 I3.k_v I3.n_v rfl (by omega) (by omega) w0 ?_
  refine ev_i2f dX11_typedShare_37 ?_
  refine ev_fdiv dX11_typedShare_38 hne ?_
  refine ev_gt 43 dX11_typedShare_39 ?_
  exact ev_fret dX11_typedShare_43 (⟨(k2.wk (by decide) (by decide)).tr (k3.wk (by decide) (by decide)), J3, by omega, _, rfl, Or.inr ⟨c, by rw [k3.fl]; exact t0, m, o3, m9, rfl⟩⟩)
