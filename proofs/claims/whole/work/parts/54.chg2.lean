/-! going back, saving, dropping, emptying: the reference -/
set_option maxRecDepth 100000 in
theorem s_endsB {a b : Int} {h : AH} (hI : RI h) (hr : h.vl 42 69 = 1) : CV mX11_ends 3 [rv 42, iv a, iv b] h (oi fun r h1 => r = 0 ∧ KP h h1 [43] [0, 3, 4, 5] ∧ (∀ j : Nat, j < 569 → h1.vl 43 j = h.vl 44 j) ∧ h1.vl 42 0 = b ∧ h1.vl 42 3 = h.vl 42 7 ∧ h1.vl 42 4 = h.vl 42 8 ∧ h1.vl 42 5 = 0) := by
  refine cv_of cdX11_ends ?_
  show EV _ _ 0 [rv 42, iv a, iv b, uv] [] h _
  refine ev_aload_n dX11_ends_0 rfl ?_
  refine ev_getiv dX11_ends_1 fX11_321 hI.o hI.n rfl hr ?_
  refine ev_ifeq 45 dX11_ends_4 (fun h_no => (by exfalso; omega)) (fun hbr => ?_)
  refine ev_aload_n dX11_ends_7 rfl ?_
  refine ev_getrv dX11_ends_8 fX11_13 hI.o hI.n rfl hI.v_v ?_
  refine ev_aload_n dX11_ends_11 rfl ?_
  refine ev_getrv dX11_ends_12 fX11_17 hI.o hI.n rfl hI.v_before ?_
  refine ev_csv dX11_ends_15 lX11_331 (s_lays (A := 43) (B := 44) hI.k_v hI.n_v hI.k_before hI.n_before (by decide) (by decide)) (by decide) rfl rfl (Nat.le_of_ble_eq_true rfl) rfl (fun h1 q => ?_)
  have hI1 : RI h1 := q.1.ri hI
  refine ev_aload_n dX11_ends_18 rfl ?_
  refine ev_aload_n dX11_ends_19 rfl ?_
  refine ev_geti dX11_ends_20 fX11_325 hI1.o hI1.n rfl ?_
  refine ev_pt dX11_ends_23 fX11_335 hI1.o hI1.n rfl ?_
  refine ev_aload_n dX11_ends_26 rfl ?_
  refine ev_aload_n dX11_ends_27 rfl ?_
  refine ev_getiv dX11_ends_28 fX11_328 hI1.o hI1.n rfl (show _ = h1.vl 42 8 from rfl) ?_
  refine ev_pt dX11_ends_31 fX11_338 hI1.o hI1.n rfl ?_
  refine ev_aload_n dX11_ends_34 rfl ?_
  refine ev_iconst dX11_ends_35 ?_
  refine ev_pt dX11_ends_36 fX11_341 hI1.o hI1.n rfl ?_
  refine ev_aload_n dX11_ends_39 rfl ?_
  refine ev_iload_n dX11_ends_40 rfl ?_
  have k4 : KP h (((h1.put 42 3 (h1.vl 42 7)).put 42 4 (h1.vl 42 8)).put 42 5 0) [43] [0, 3, 4, 5] := (((q.1.wk (by decide) (by decide)).pf (by decide)).pf (by decide)).pf (by decide)
  refine ev_cvi dX11_ends_41 lX11_344 (s_no (k4.ri hI)) (by decide) hI1.o hI1.n rfl rfl rfl (Nat.le_of_ble_eq_true rfl) rfl (fun r h2 q2 => ?_)
  obtain ⟨rfl, rfl⟩ := q2
  exact ev_iret dX11_ends_44 (⟨_, rfl, rfl, k4.pf (by decide), q.2, rfl, q.1.fl, q.1.fl, rfl⟩)
set_option maxRecDepth 100000 in
theorem undo_loop {h0 : AH} {c : Nat} {Q : AV → AH → Prop} (hI0 : RI h0) (hc0 : h0.vl 42 2 = (c : Int)) (hc7 : c ≤ 7) (K : ∀ g : AH, KP h0 g [43] [] → (∀ k, k < 569 → g.vl 43 k = PV h0 c k) → ∀ i : Int, EV mX11_undo 3 71 [rv 42, iv i] [] g Q) : ∀ (m i : Nat) (g : AH), i + m = 569 → KP h0 g [43] [] → (∀ k, k < i → g.vl 43 k = PV h0 c k) → EV mX11_undo 3 37 [rv 42, iv (i : Int)] [] g Q := by
  intro m
  induction m with
  | zero =>
    intro i g hi hk h1
    have hI : RI g := hk.ri hI0
    refine ev_iload_n dX11_undo_37 rfl ?_
    refine ev_sipush dX11_undo_38 ?_
    refine ev_icmpge 71 dX11_undo_41 (fun hc => ?_) (fun h_no => (by exfalso; omega))
    exact K g hk (fun k hk => h1 k (by omega)) _
  | succ m ih =>
    intro i g hi hk h1
    have hI : RI g := hk.ri hI0
    have hcg : g.vl 42 2 = (c : Int) := (hk.fl).trans hc0
    refine ev_iload_n dX11_undo_37 rfl ?_
    refine ev_sipush dX11_undo_38 ?_
    refine ev_icmpge 71 dX11_undo_41 (fun h_no => (by exfalso; omega)) (fun hc => ?_)
    refine ev_aload_n dX11_undo_44 rfl ?_
    refine ev_getrv dX11_undo_45 fX11_13 hI.o hI.n rfl hI.v_v ?_
    refine ev_iload_n dX11_undo_48 rfl ?_
    refine ev_aload_n dX11_undo_49 rfl ?_
    refine ev_getrv dX11_undo_50 fX11_23 hI.o hI.n rfl hI.v_past ?_
    refine ev_aload_n dX11_undo_53 rfl ?_
    refine ev_getiv dX11_undo_54 fX11_347 hI.o hI.n rfl hcg ?_
    refine ev_sipush dX11_undo_57 ?_
    refine ev_imul dX11_undo_60 (by unfold ir; omega) ?_
    refine ev_iload_n dX11_undo_61 rfl ?_
    refine ev_iadd dX11_undo_62 (by unfold ir; omega) ?_
    rw [show (c : Int) * 569 + (i : Int) = ((569 * c + i : Nat) : Int) from by omega]
    obtain ⟨e, he⟩ : ∃ e, e = 569 * c + i := ⟨_, rfl⟩
    rw [← he]
    refine ev_ildv dX11_undo_63 hI.k_past hI.n_past rfl (by omega) (by omega) (show _ = g.vl 46 e from rfl) ?_
    refine ev_istr dX11_undo_64 hI.k_v hI.n_v rfl (by omega) (by omega) ?_
    refine ev_iin1 dX11_undo_65 (by unfold ir; omega) ?_
    refine ev_gt 37 dX11_undo_68 ?_
    rw [show (i : Int) + 1 = ((i + 1 : Nat) : Int) from rfl]
    refine ih (i + 1) _ (by omega) (hk.pr (by decide) (by decide)) (fun k hk9 => ?_)
    by_cases e9 : k = i
    · rw [show ((i : Nat) : Int).toNat = i from rfl, AH.put_vl, if_pos ⟨rfl, e9⟩, e9, hk.vl (r := 46), he]; rfl
    · rw [show ((i : Nat) : Int).toNat = i from rfl, AH.put_vl, if_neg (fun z => e9 z.2)]
      exact h1 k (by omega)
set_option maxRecDepth 100000 in
theorem r_undo {c : Nat} {h : AH} (hI : RI h) (hc0 : h.vl 42 2 = (c : Int)) (hc8 : c ≤ 8) : CV mX11_undo 3 [rv 42] h (oi fun r h1 => KP h h1 [43] [0, 2] ∧ ((c = 0 ∧ h1.vl 42 0 = 1 ∧ KP h h1 [] [0]) ∨ (0 < c ∧ h1.vl 42 0 = 0 ∧ r = (c : Int) - 1 ∧ h1.vl 42 2 = (c : Int) - 1 ∧ ∀ j, j < 569 → h1.vl 43 j = PV h (c - 1) j))) := by
  refine cv_of cdX11_undo ?_
  show EV _ _ 0 [rv 42, uv] [] h _
  refine ev_aload_n dX11_undo_0 rfl ?_
  refine ev_aload_n dX11_undo_1 rfl ?_
  refine ev_getiv dX11_undo_2 fX11_347 hI.o hI.n rfl hc0 ?_
  by_cases h0 : c = 0
  · skip
    refine ev_ifne 12 dX11_undo_5 (fun h_no => (by exfalso; omega)) (fun hc => ?_)
    refine ev_iconst dX11_undo_8 ?_
    refine ev_gt 13 dX11_undo_9 ?_
    refine ev_pt dX11_undo_13 fX11_161 hI.o hI.n rfl ?_
    refine ev_aload_n dX11_undo_16 rfl ?_
    refine ev_getiv dX11_undo_17 fX11_161 hI.o hI.n rfl (show _ = 1 from rfl) ?_
    refine ev_ifeq 25 dX11_undo_20 (fun h_no => (by exfalso; omega)) (fun hbr => ?_)
    refine ev_iconst dX11_undo_23 ?_
    exact ev_iret dX11_undo_24 (⟨_, rfl, KP.rf.pf (by decide), Or.inl ⟨h0, rfl, KP.rf.pf (by decide)⟩⟩)
  · skip
    refine ev_ifne 12 dX11_undo_5 (fun hc => ?_) (fun h_no => (by exfalso; omega))
    refine ev_iconst dX11_undo_12 ?_
    refine ev_pt dX11_undo_13 fX11_161 hI.o hI.n rfl ?_
    refine ev_aload_n dX11_undo_16 rfl ?_
    refine ev_getiv dX11_undo_17 fX11_161 hI.o hI.n rfl (show _ = 0 from rfl) ?_
    refine ev_ifeq 25 dX11_undo_20 (fun hc2 => ?_) (fun h_no => (by exfalso; exact h_no rfl))
    refine ev_aload_n dX11_undo_25 rfl ?_
    refine ev_dup dX11_undo_26 ?_
    refine ev_getiv dX11_undo_27 fX11_347 hI.o hI.n rfl hc0 ?_
    refine ev_iconst dX11_undo_30 ?_
    refine ev_isub dX11_undo_31 (by unfold ir; omega) ?_
    refine ev_pt dX11_undo_32 fX11_347 hI.o hI.n rfl ?_
    refine ev_iconst dX11_undo_35 ?_
    refine ev_ist1 dX11_undo_36 ?_
    rw [show (c : Int) - 1 = ((c - 1 : Nat) : Int) from by omega]
    have k0 : KP h ((h.put 42 0 0).put 42 2 ((c - 1 : Nat) : Int)) [43] [0, 2] := (KP.rf.pf (by decide)).pf (by decide)
    refine undo_loop (c := c - 1) (k0.ri hI) rfl (by omega) (fun g kg e1 i => ?_) 569 0 _ (by omega) KP.rf (fun k hk => absurd hk (Nat.not_lt_zero k))
    have kg2 := k0.tr (kg.wk (by decide) (by decide))
    have hI2 : RI g := kg2.ri hI
    have hg : g.vl 42 2 = ((c - 1 : Nat) : Int) := kg.fl.trans rfl
    refine ev_aload_n dX11_undo_71 rfl ?_
    refine ev_geti dX11_undo_72 fX11_347 hI2.o hI2.n rfl ?_
    exact ev_iret dX11_undo_75 (⟨_, rfl, kg2, Or.inr ⟨by omega, kg.fl.trans rfl, by rw [hg], by rw [hg], e1⟩⟩)
set_option maxRecDepth 100000 in
theorem r_save {h : AH} (hI : RI h) : CV mX11_save 3 [rv 42] h (oi fun r h1 => KP h h1 [45] [0, 10] ∧ h1.vl 42 0 = 0 ∧ h1.vl 42 10 = 1 ∧ r = h.vl 43 0 ∧ ∀ j, j < 569 → h1.vl 45 j = h.vl 43 j) := by
  refine cv_of cdX11_save ?_
  show EV _ _ 0 [rv 42] [] h _
  have k0 : KP h (h.put 42 0 0) [45] [0, 10] := KP.rf.pf (by decide)
  have hI2 : RI (h.put 42 0 0) := k0.ri hI
  refine ev_aload_n dX11_save_0 rfl ?_
  refine ev_iconst dX11_save_1 ?_
  refine ev_pt dX11_save_2 fX11_161 hI.o hI.n rfl ?_
  refine ev_aload_n dX11_save_5 rfl ?_
  refine ev_getrv dX11_save_6 fX11_20 hI.o hI.n rfl hI.v_saved ?_
  refine ev_aload_n dX11_save_9 rfl ?_
  refine ev_getrv dX11_save_10 fX11_13 hI.o hI.n rfl hI.v_v ?_
  refine ev_csv dX11_save_13 lX11_331 (s_lays (A := 45) (B := 43) hI2.k_saved hI2.n_saved hI2.k_v hI2.n_v (by decide) (by decide)) (by decide) rfl rfl (Nat.le_of_ble_eq_true rfl) rfl (fun h1 q => ?_)
  have k1 := k0.tr (q.1.wk (by decide) (by decide))
  have hI1 : RI h1 := k1.ri hI
  refine ev_aload_n dX11_save_16 rfl ?_
  refine ev_iconst dX11_save_17 ?_
  refine ev_pt dX11_save_18 fX11_467 hI1.o hI1.n rfl ?_
  refine ev_aload_n dX11_save_21 rfl ?_
  refine ev_getrv dX11_save_22 fX11_13 hI1.o hI1.n rfl hI1.v_v ?_
  refine ev_iconst dX11_save_25 ?_
  refine ev_ildv dX11_save_26 hI1.k_v hI1.n_v rfl (by decide) (by decide) (show _ = h1.vl 43 0 from rfl) ?_
  exact ev_iret dX11_save_27 (⟨_, rfl, k1.pf (by decide), (q.1.fl).trans rfl, rfl, congrFun (k1.vl (r := 43)) 0, fun j hj => q.2 j hj⟩)
set_option maxRecDepth 100000 in
theorem r_restore {h : AH} (hI : RI h) (hs : h.vl 42 10 = 0 ∨ h.vl 42 10 = 1) : CV mX11_restore 3 [rv 42] h (oi fun r h1 => KP h h1 [43] [0, 2] ∧ ((h.vl 42 10 = 0 ∧ h1.vl 42 0 = 1 ∧ KP h h1 [] [0]) ∨ (h.vl 42 10 = 1 ∧ h1.vl 42 0 = 0 ∧ h1.vl 42 2 = 0 ∧ r = h1.vl 43 0 ∧ ∀ j, j < 569 → h1.vl 43 j = h.vl 45 j))) := by
  refine cv_of cdX11_restore ?_
  show EV _ _ 0 [rv 42] [] h _
  rcases hs with hs | hs
  · skip
    refine ev_aload_n dX11_restore_0 rfl ?_
    refine ev_aload_n dX11_restore_1 rfl ?_
    refine ev_getiv dX11_restore_2 fX11_467 hI.o hI.n rfl hs ?_
    refine ev_ifeq 12 dX11_restore_5 (fun hbr => ?_) (fun h_no => (by exfalso; omega))
    refine ev_iconst dX11_restore_12 ?_
    refine ev_pt dX11_restore_13 fX11_161 hI.o hI.n rfl ?_
    refine ev_aload_n dX11_restore_16 rfl ?_
    refine ev_getiv dX11_restore_17 fX11_161 hI.o hI.n rfl (show _ = 1 from rfl) ?_
    refine ev_ifeq 25 dX11_restore_20 (fun h_no => (by exfalso; omega)) (fun hbr => ?_)
    refine ev_iconst dX11_restore_23 ?_
    exact ev_iret dX11_restore_24 (⟨_, rfl, KP.rf.pf (by decide), Or.inl ⟨hs, rfl, KP.rf.pf (by decide)⟩⟩)
  · skip
    refine ev_aload_n dX11_restore_0 rfl ?_
    refine ev_aload_n dX11_restore_1 rfl ?_
    refine ev_getiv dX11_restore_2 fX11_467 hI.o hI.n rfl hs ?_
    refine ev_ifeq 12 dX11_restore_5 (fun h_no => (by exfalso; omega)) (fun hbr => ?_)
    refine ev_iconst dX11_restore_8 ?_
    refine ev_gt 13 dX11_restore_9 ?_
    refine ev_pt dX11_restore_13 fX11_161 hI.o hI.n rfl ?_
    refine ev_aload_n dX11_restore_16 rfl ?_
    refine ev_getiv dX11_restore_17 fX11_161 hI.o hI.n rfl (show _ = 0 from rfl) ?_
    refine ev_ifeq 25 dX11_restore_20 (fun hbr => ?_) (fun h_no => (by exfalso; omega))
    refine ev_aload_n dX11_restore_25 rfl ?_
    refine ev_getrv dX11_restore_26 fX11_13 hI.o hI.n rfl hI.v_v ?_
    refine ev_aload_n dX11_restore_29 rfl ?_
    refine ev_getrv dX11_restore_30 fX11_20 hI.o hI.n rfl hI.v_saved ?_
    have k0 : KP h (h.put 42 0 0) [43] [0, 2] := KP.rf.pf (by decide)
    have hI2 : RI (h.put 42 0 0) := k0.ri hI
    refine ev_csv dX11_restore_33 lX11_331 (s_lays (A := 43) (B := 45) hI2.k_v hI2.n_v hI2.k_saved hI2.n_saved (by decide) (by decide)) (by decide) rfl rfl (Nat.le_of_ble_eq_true rfl) rfl (fun h1 q => ?_)
    have k1 := k0.tr (q.1.wk (by decide) (by decide))
    have hI1 : RI h1 := k1.ri hI
    refine ev_aload_n dX11_restore_36 rfl ?_
    refine ev_iconst dX11_restore_37 ?_
    refine ev_pt dX11_restore_38 fX11_347 hI1.o hI1.n rfl ?_
    refine ev_aload_n dX11_restore_41 rfl ?_
    refine ev_getrv dX11_restore_42 fX11_13 hI1.o hI1.n rfl hI1.v_v ?_
    refine ev_iconst dX11_restore_45 ?_
    refine ev_ildv dX11_restore_46 hI1.k_v hI1.n_v rfl (by decide) (by decide) (show _ = h1.vl 43 0 from rfl) ?_
    exact ev_iret dX11_restore_47 (⟨_, rfl, k1.pf (by decide), Or.inr ⟨hs, (q.1.fl).trans rfl, rfl, rfl, fun j hj => q.2 j hj⟩⟩)
set_option maxRecDepth 100000 in
theorem r_append {p : Int} {n : Nat} {h : AH} (hI : RI h) (hn0 : h.vl 42 71 = (n : Int)) (hn : n ≤ 60) : CV mX11_append 3 [rv 42, iv p] h (oi fun r h1 => KP h h1 [88] [0, 71] ∧ ((¬ (33 ≤ p ∧ p ≤ 126) ∧ h1.vl 42 0 = 1 ∧ KP h h1 [] [0]) ∨ ((33 ≤ p ∧ p ≤ 126) ∧ n = 60 ∧ h1.vl 42 0 = 2 ∧ KP h h1 [] [0]) ∨ ((33 ≤ p ∧ p ≤ 126) ∧ n < 60 ∧ h1.vl 42 0 = 0 ∧ r = (n : Int) + 1 ∧ h1.vl 42 71 = (n : Int) + 1 ∧ h1.vl 88 n = p ∧ ∀ j, j ≠ n → h1.vl 88 j = h.vl 88 j))) := by
  refine cv_of cdX11_append ?_
  show EV _ _ 0 [rv 42, iv p] [] h _
  refine ev_aload_n dX11_append_0 rfl ?_
  refine ev_iload_n dX11_append_1 rfl ?_
  refine ev_bipush dX11_append_2 ?_
  refine ev_bipush dX11_append_4 ?_
  by_cases hp : 33 ≤ p ∧ p ≤ 126
  · skip
    refine ev_csi dX11_append_6 lX11_164 (f_isIn1 hp) (by decide) rfl rfl (Nat.le_of_ble_eq_true rfl) rfl (fun r z1 q => ?_)
    obtain ⟨rfl, e⟩ := q
    rw [e]
    refine ev_ifne 16 dX11_append_9 (fun hbr => ?_) (fun h_no => (by exfalso; omega))
    refine ev_aload_n dX11_append_16 rfl ?_
    refine ev_getiv dX11_append_17 fX11_353 hI.o hI.n rfl hn0 ?_
    refine ev_bipush dX11_append_20 ?_
    by_cases h6 : n = 60
    · skip
      refine ev_icmpne 29 dX11_append_22 (fun h_no => (by exfalso; omega)) (fun hc => ?_)
      refine ev_iconst dX11_append_25 ?_
      refine ev_gt 30 dX11_append_26 ?_
      refine ev_pt dX11_append_30 fX11_161 hI.o hI.n rfl ?_
      refine ev_aload_n dX11_append_33 rfl ?_
      refine ev_getiv dX11_append_34 fX11_161 hI.o hI.n rfl (show _ = 2 from rfl) ?_
      refine ev_ifeq 42 dX11_append_37 (fun h_no => (by exfalso; omega)) (fun hbr => ?_)
      refine ev_iconst dX11_append_40 ?_
      exact ev_iret dX11_append_41 (⟨_, rfl, KP.rf.pf (by decide), Or.inr (Or.inl ⟨hp, h6, rfl, KP.rf.pf (by decide)⟩)⟩)
    · skip
      refine ev_icmpne 29 dX11_append_22 (fun hc => ?_) (fun h_no => (by exfalso; omega))
      refine ev_iconst dX11_append_29 ?_
      refine ev_pt dX11_append_30 fX11_161 hI.o hI.n rfl ?_
      refine ev_aload_n dX11_append_33 rfl ?_
      refine ev_getiv dX11_append_34 fX11_161 hI.o hI.n rfl (show _ = 0 from rfl) ?_
      refine ev_ifeq 42 dX11_append_37 (fun hbr => ?_) (fun h_no => (by exfalso; omega))
      refine ev_aload_n dX11_append_42 rfl ?_
      refine ev_getrv dX11_append_43 fX11_149 hI.o hI.n rfl hI.v_input ?_
      refine ev_aload_n dX11_append_46 rfl ?_
      refine ev_getiv dX11_append_47 fX11_353 hI.o hI.n rfl hn0 ?_
      refine ev_iload_n dX11_append_50 rfl ?_
      refine ev_istr dX11_append_51 hI.k_input hI.n_input rfl (by omega) (by omega) ?_
      refine ev_aload_n dX11_append_52 rfl ?_
      refine ev_dup dX11_append_53 ?_
      refine ev_getiv dX11_append_54 fX11_353 hI.o hI.n rfl hn0 ?_
      refine ev_iconst dX11_append_57 ?_
      refine ev_iadd dX11_append_58 (by unfold ir; omega) ?_
      refine ev_pt dX11_append_59 fX11_353 hI.o hI.n rfl ?_
      refine ev_aload_n dX11_append_62 rfl ?_
      refine ev_getiv dX11_append_63 fX11_353 hI.o hI.n rfl (show _ = ((n : Int) + 1) from rfl) ?_
      refine ev_iret dX11_append_66 (⟨_, rfl, ((KP.rf.pf (by decide)).pr (by decide) (by decide)).pf (by decide), Or.inr (Or.inr ⟨hp, by omega, rfl, rfl, rfl, ?_, fun j hj => ?_⟩)⟩)
      · simp [AH.put_vl]
      · simp [AH.put_vl, hj]
  · skip
    refine ev_csi dX11_append_6 lX11_164 (f_isIn0 hp) (by decide) rfl rfl (Nat.le_of_ble_eq_true rfl) rfl (fun r z1 q => ?_)
    obtain ⟨rfl, e⟩ := q
    rw [e]
    refine ev_ifne 16 dX11_append_9 (fun h_no => (by exfalso; omega)) (fun hbr => ?_)
    refine ev_iconst dX11_append_12 ?_
    refine ev_gt 30 dX11_append_13 ?_
    refine ev_pt dX11_append_30 fX11_161 hI.o hI.n rfl ?_
    refine ev_aload_n dX11_append_33 rfl ?_
    refine ev_getiv dX11_append_34 fX11_161 hI.o hI.n rfl (show _ = 1 from rfl) ?_
    refine ev_ifeq 42 dX11_append_37 (fun h_no => (by exfalso; omega)) (fun hbr => ?_)
    refine ev_iconst dX11_append_40 ?_
    exact ev_iret dX11_append_41 (⟨_, rfl, KP.rf.pf (by decide), Or.inl ⟨hp, rfl, KP.rf.pf (by decide)⟩⟩)
