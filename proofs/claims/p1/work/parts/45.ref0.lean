/-! the reference without lessons -/
def AR0 : List Nat := [43, 44, 45, 46, 47, 48, 49, 50, 51, 52, 53, 54, 55, 56, 57, 58, 59, 60, 61, 62, 63, 64, 65, 66, 67, 68, 69, 70, 71, 72, 73, 74, 75, 76, 77, 78, 79, 80, 81, 82, 83, 84, 85, 86, 87, 88, 89, 90, 91]
def FR0 : List Nat := [0, 1, 2, 3, 4, 5, 6, 7, 8, 9, 10, 34, 35, 36, 49, 50, 51, 52, 53, 54, 55, 59, 60, 68, 69, 71, 73, 74, 75, 76, 77, 80, 81]
theorem cv_mono {M : MD} {d : Nat} {as : List AV} {h : AH} {Q Q' : AV → AH → Prop} (k : CV M d as h Q') (hq : ∀ o h1, Q' o h1 → Q o h1) : CV M d as h Q := fun a b => by
  obtain ⟨o, h1, q, c⟩ := k a b
  exact ⟨o, h1, hq o h1 q, c⟩
def FRr (h : AH) : Prop := RI h ∧ (∀ j, h.vl 43 j = 0) ∧ (h.vl 42 3 = 0 ∧ h.vl 42 5 = 0 ∧ h.vl 42 2 = 0 ∧ h.vl 42 10 = 0 ∧ h.vl 42 71 = 0 ∧ h.vl 42 80 = 0) ∧ h.vl 42 9 = -1
theorem FRr.kp {h h1 : AH} {A F : List Nat} (hF : FRr h) (k : KP h h1 A F) (hA : 43 ∉ A := by decide) (hF' : F.all (fun j => decide (j ∈ FR0) && decide (j ∉ [3, 5, 2, 10, 71, 80, 9])) = true := by decide) : FRr h1 := by
  obtain ⟨hI, hZ, ⟨g1, g2, g3, g4, g5, g6⟩, g7⟩ := hF
  have hn : ∀ j, j ∈ [3, 5, 2, 10, 71, 80, 9] → j ∉ F := fun j hj hm => by
    have z := List.all_eq_true.mp hF' j hm
    simp only [Bool.and_eq_true, decide_eq_true_eq] at z
    exact z.2 hj
  have e : ∀ j, j ∈ [3, 5, 2, 10, 71, 80, 9] → h1.vl 42 j = h.vl 42 j := fun j hj => k.2.2.2.2.2 j (hn j hj)
  refine ⟨k.ri hI ?_, fun j => by rw [k.vl (r := 43) (by decide) hA]; exact hZ j, ⟨(e _ (by decide)).trans g1, (e _ (by decide)).trans g2, (e _ (by decide)).trans g3, (e _ (by decide)).trans g4, (e _ (by decide)).trans g5, (e _ (by decide)).trans g6⟩, (e _ (by decide)).trans g7⟩
  refine List.all_eq_true.mpr fun j hj => ?_
  have z := List.all_eq_true.mp hF' j hj
  simp only [Bool.and_eq_true, decide_eq_true_eq] at z
  exact decide_eq_true (by have := z.1; unfold FR0 at this; exact this)
theorem f_isLesson {p : Int} {h : AH} (hF : FRr h) : CV mX11_isLesson 2 [rv 42, iv p] h (oi fun r h1 => r = 0 ∧ h1 = h) := cv_mono (s_isLesson hF.1 (by rw [hF.2.1]; omega)) fun o h1 q => by
  obtain ⟨x, rfl, rfl, rfl⟩ := q
  exact ⟨_, rfl, by rw [hF.2.1, if_neg (by omega)], rfl⟩
theorem f_isIn1 {x lo hi : Int} {h : AH} (hp : lo ≤ x ∧ x ≤ hi) : CV mX11_isIn 1 [iv x, iv lo, iv hi] h (oi fun r h1 => r = 1 ∧ h1 = h) := cv_mono s_isIn fun o h1 q => by
  obtain ⟨x, rfl, rfl, rfl⟩ := q
  exact ⟨_, rfl, by rw [if_pos hp], rfl⟩
theorem f_isIn0 {x lo hi : Int} {h : AH} (hp : ¬ (lo ≤ x ∧ x ≤ hi)) : CV mX11_isIn 1 [iv x, iv lo, iv hi] h (oi fun r h1 => r = 0 ∧ h1 = h) := cv_mono s_isIn fun o h1 q => by
  obtain ⟨x, rfl, rfl, rfl⟩ := q
  exact ⟨_, rfl, by rw [if_neg hp], rfl⟩
set_option maxRecDepth 100000 in
theorem f_isNode {p q : Int} {h : AH} (hF : FRr h) : CV mX11_isNode 4 [rv 42, iv p, iv q] h (oi fun r h1 => r = 0 ∧ h1 = h) := by
  obtain ⟨hI, hZ, ⟨g1, g2, g3, g4, g5, g6⟩, g7⟩ := id hF
  refine cv_of cdX11_isNode ?_
  show EV _ _ 0 [rv 42, iv p, iv q] [] h _
  refine ev_aload_n dX11_isNode_0 rfl ?_
  refine ev_iload_n dX11_isNode_1 rfl ?_
  refine ev_cvi dX11_isNode_2 lX11_361 (f_isLesson hF) (by decide) hI.o hI.n rfl rfl rfl (Nat.le_of_ble_eq_true rfl) rfl (fun r z1 q => ?_)
  obtain ⟨rfl, rfl⟩ := q
  refine ev_ifne 10 dX11_isNode_5 (fun h_no => (by exfalso; omega)) (fun hbr => ?_)
  refine ev_iconst dX11_isNode_8 ?_
  exact ev_zret dX11_isNode_9 (⟨_, rfl, rfl, rfl⟩) (Or.inl rfl)
set_option maxRecDepth 100000 in
theorem f_two {p q : Int} {h : AH} (hF : FRr h) : CV mX11_twoLessons 4 [rv 42, iv p, iv q] h (oi fun r h1 => r = 1 ∧ h1 = h) := by
  obtain ⟨hI, hZ, ⟨g1, g2, g3, g4, g5, g6⟩, g7⟩ := id hF
  refine cv_of cdX11_twoLessons ?_
  show EV _ _ 0 [rv 42, iv p, iv q] [] h _
  refine ev_aload_n dX11_twoLessons_0 rfl ?_
  refine ev_iload_n dX11_twoLessons_1 rfl ?_
  refine ev_cvi dX11_twoLessons_2 lX11_361 (f_isLesson hF) (by decide) hI.o hI.n rfl rfl rfl (Nat.le_of_ble_eq_true rfl) rfl (fun r z2 q => ?_)
  obtain ⟨rfl, rfl⟩ := q
  refine ev_ifeq 16 dX11_twoLessons_5 (fun hbr => ?_) (fun h_no => (by exfalso; omega))
  refine ev_iconst dX11_twoLessons_16 ?_
  refine ev_gt 34 dX11_twoLessons_17 ?_
  exact ev_iret dX11_twoLessons_34 (⟨_, rfl, rfl, rfl⟩)
set_option maxRecDepth 100000 in
theorem f_nodes {p : Int} {h : AH} (hF : FRr h) : CV mX11_nodes 8 [rv 42, iv p] h (oi fun r h1 => r = 0 ∧ KP h h1 AR0 FR0 ∧ h1.vl 42 0 = 1) := by
  obtain ⟨hI, hZ, ⟨g1, g2, g3, g4, g5, g6⟩, g7⟩ := id hF
  refine cv_of cdX11_nodes ?_
  show EV _ _ 0 [rv 42, iv p] [] h _
  refine ev_aload_n dX11_nodes_0 rfl ?_
  refine ev_aload_n dX11_nodes_1 rfl ?_
  refine ev_iload_n dX11_nodes_2 rfl ?_
  refine ev_cvi dX11_nodes_3 lX11_361 (f_isLesson hF) (by decide) hI.o hI.n rfl rfl rfl (Nat.le_of_ble_eq_true rfl) rfl (fun r z3 q => ?_)
  obtain ⟨rfl, rfl⟩ := q
  refine ev_ifeq 13 dX11_nodes_6 (fun hbr => ?_) (fun h_no => (by exfalso; omega))
  refine ev_iconst dX11_nodes_13 ?_
  refine ev_pt dX11_nodes_14 fX11_161 hI.o hI.n rfl ?_
  refine ev_aload_n dX11_nodes_17 rfl ?_
  refine ev_getiv dX11_nodes_18 fX11_161 hI.o hI.n rfl (show _ = 1 from rfl) ?_
  refine ev_ifeq 26 dX11_nodes_21 (fun h_no => (by exfalso; omega)) (fun hbr => ?_)
  refine ev_iconst dX11_nodes_24 ?_
  exact ev_iret dX11_nodes_25 (⟨_, rfl, rfl, KP.rf.pf (by decide), rfl⟩)
set_option maxRecDepth 100000 in
theorem f_unbound {p : Int} {h : AH} (hF : FRr h) : CV mX11_unbound 8 [rv 42, iv p] h (oi fun r h1 => r = 0 ∧ KP h h1 AR0 FR0 ∧ h1.vl 42 0 = 1) := by
  obtain ⟨hI, hZ, ⟨g1, g2, g3, g4, g5, g6⟩, g7⟩ := id hF
  refine cv_of cdX11_unbound ?_
  show EV _ _ 0 [rv 42, iv p] [] h _
  refine ev_aload_n dX11_unbound_0 rfl ?_
  refine ev_aload_n dX11_unbound_1 rfl ?_
  refine ev_iload_n dX11_unbound_2 rfl ?_
  refine ev_cvi dX11_unbound_3 lX11_361 (f_isLesson hF) (by decide) hI.o hI.n rfl rfl rfl (Nat.le_of_ble_eq_true rfl) rfl (fun r z4 q => ?_)
  obtain ⟨rfl, rfl⟩ := q
  refine ev_ifeq 13 dX11_unbound_6 (fun hbr => ?_) (fun h_no => (by exfalso; omega))
  refine ev_iconst dX11_unbound_13 ?_
  refine ev_pt dX11_unbound_14 fX11_161 hI.o hI.n rfl ?_
  refine ev_aload_n dX11_unbound_17 rfl ?_
  refine ev_getiv dX11_unbound_18 fX11_161 hI.o hI.n rfl (show _ = 1 from rfl) ?_
  refine ev_ifeq 26 dX11_unbound_21 (fun h_no => (by exfalso; omega)) (fun hbr => ?_)
  refine ev_iconst dX11_unbound_24 ?_
  exact ev_iret dX11_unbound_25 (⟨_, rfl, rfl, KP.rf.pf (by decide), rfl⟩)
set_option maxRecDepth 100000 in
theorem f_isTyped {p : Int} {h : AH} (hF : FRr h) : CV mX11_isTyped 8 [rv 42, iv p] h (oi fun r h1 => r = 0 ∧ KP h h1 AR0 FR0 ∧ h1.vl 42 0 = 1) := by
  obtain ⟨hI, hZ, ⟨g1, g2, g3, g4, g5, g6⟩, g7⟩ := id hF
  refine cv_of cdX11_isTyped ?_
  show EV _ _ 0 [rv 42, iv p] [] h _
  refine ev_aload_n dX11_isTyped_0 rfl ?_
  refine ev_aload_n dX11_isTyped_1 rfl ?_
  refine ev_iload_n dX11_isTyped_2 rfl ?_
  refine ev_cvi dX11_isTyped_3 lX11_361 (f_isLesson hF) (by decide) hI.o hI.n rfl rfl rfl (Nat.le_of_ble_eq_true rfl) rfl (fun r z5 q => ?_)
  obtain ⟨rfl, rfl⟩ := q
  refine ev_ifeq 13 dX11_isTyped_6 (fun hbr => ?_) (fun h_no => (by exfalso; omega))
  refine ev_iconst dX11_isTyped_13 ?_
  refine ev_pt dX11_isTyped_14 fX11_161 hI.o hI.n rfl ?_
  refine ev_aload_n dX11_isTyped_17 rfl ?_
  refine ev_getiv dX11_isTyped_18 fX11_161 hI.o hI.n rfl (show _ = 1 from rfl) ?_
  refine ev_ifne 36 dX11_isTyped_21 (fun hbr => ?_) (fun h_no => (by exfalso; omega))
  refine ev_iconst dX11_isTyped_36 ?_
  exact ev_zret dX11_isTyped_37 (⟨_, rfl, rfl, KP.rf.pf (by decide), rfl⟩) (Or.inl rfl)
set_option maxRecDepth 100000 in
theorem f_failure {p q : Int} {h : AH} (hF : FRr h) : CV mX11_failure 8 [rv 42, iv p, iv q] h (oi fun r h1 => r = 0 ∧ KP h h1 AR0 FR0 ∧ h1.vl 42 0 = 1) := by
  obtain ⟨hI, hZ, ⟨g1, g2, g3, g4, g5, g6⟩, g7⟩ := id hF
  refine cv_of cdX11_failure ?_
  show EV _ _ 0 [rv 42, iv p, iv q] [] h _
  refine ev_aload_n dX11_failure_0 rfl ?_
  refine ev_aload_n dX11_failure_1 rfl ?_
  refine ev_iload_n dX11_failure_2 rfl ?_
  refine ev_cvi dX11_failure_3 lX11_361 (f_isLesson hF) (by decide) hI.o hI.n rfl rfl rfl (Nat.le_of_ble_eq_true rfl) rfl (fun r z6 q => ?_)
  obtain ⟨rfl, rfl⟩ := q
  refine ev_ifne 13 dX11_failure_6 (fun h_no => (by exfalso; omega)) (fun hbr => ?_)
  refine ev_iconst dX11_failure_9 ?_
  refine ev_gt 39 dX11_failure_10 ?_
  refine ev_pt dX11_failure_39 fX11_161 hI.o hI.n rfl ?_
  refine ev_aload_n dX11_failure_42 rfl ?_
  refine ev_getiv dX11_failure_43 fX11_161 hI.o hI.n rfl (show _ = 1 from rfl) ?_
  refine ev_ifeq 51 dX11_failure_46 (fun h_no => (by exfalso; omega)) (fun hbr => ?_)
  refine ev_iconst dX11_failure_49 ?_
  exact ev_iret dX11_failure_50 (⟨_, rfl, rfl, KP.rf.pf (by decide), rfl⟩)
set_option maxRecDepth 100000 in
theorem f_typeOf {p q : Int} {h : AH} (hF : FRr h) : CV mX11_typeOf 8 [rv 42, iv p, iv q] h (oi fun r h1 => r = 0 ∧ KP h h1 AR0 FR0 ∧ h1.vl 42 0 = 1) := by
  obtain ⟨hI, hZ, ⟨g1, g2, g3, g4, g5, g6⟩, g7⟩ := id hF
  refine cv_of cdX11_typeOf ?_
  show EV _ _ 0 [rv 42, iv p, iv q] [] h _
  refine ev_aload_n dX11_typeOf_0 rfl ?_
  refine ev_aload_n dX11_typeOf_1 rfl ?_
  refine ev_iload_n dX11_typeOf_2 rfl ?_
  refine ev_cvi dX11_typeOf_3 lX11_361 (f_isLesson hF) (by decide) hI.o hI.n rfl rfl rfl (Nat.le_of_ble_eq_true rfl) rfl (fun r z7 q => ?_)
  obtain ⟨rfl, rfl⟩ := q
  refine ev_ifne 13 dX11_typeOf_6 (fun h_no => (by exfalso; omega)) (fun hbr => ?_)
  refine ev_iconst dX11_typeOf_9 ?_
  refine ev_gt 39 dX11_typeOf_10 ?_
  refine ev_pt dX11_typeOf_39 fX11_161 hI.o hI.n rfl ?_
  refine ev_aload_n dX11_typeOf_42 rfl ?_
  refine ev_getiv dX11_typeOf_43 fX11_161 hI.o hI.n rfl (show _ = 1 from rfl) ?_
  refine ev_ifne 63 dX11_typeOf_46 (fun hbr => ?_) (fun h_no => (by exfalso; omega))
  refine ev_iconst dX11_typeOf_63 ?_
  exact ev_iret dX11_typeOf_64 (⟨_, rfl, rfl, KP.rf.pf (by decide), rfl⟩)
set_option maxRecDepth 100000 in
theorem f_typeAgain {p q : Int} {h : AH} (hF : FRr h) : CV mX11_typeAgain 8 [rv 42, iv p, iv q] h (oi fun r h1 => r = 0 ∧ KP h h1 AR0 FR0 ∧ h1.vl 42 0 = 1) := by
  obtain ⟨hI, hZ, ⟨g1, g2, g3, g4, g5, g6⟩, g7⟩ := id hF
  refine cv_of cdX11_typeAgain ?_
  show EV _ _ 0 [rv 42, iv p, iv q] [] h _
  refine ev_aload_n dX11_typeAgain_0 rfl ?_
  refine ev_aload_n dX11_typeAgain_1 rfl ?_
  refine ev_iload_n dX11_typeAgain_2 rfl ?_
  refine ev_cvi dX11_typeAgain_3 lX11_361 (f_isLesson hF) (by decide) hI.o hI.n rfl rfl rfl (Nat.le_of_ble_eq_true rfl) rfl (fun r z8 q => ?_)
  obtain ⟨rfl, rfl⟩ := q
  refine ev_ifne 13 dX11_typeAgain_6 (fun h_no => (by exfalso; omega)) (fun hbr => ?_)
  refine ev_iconst dX11_typeAgain_9 ?_
  refine ev_gt 49 dX11_typeAgain_10 ?_
  refine ev_pt dX11_typeAgain_49 fX11_161 hI.o hI.n rfl ?_
  refine ev_aload_n dX11_typeAgain_52 rfl ?_
  refine ev_getiv dX11_typeAgain_53 fX11_161 hI.o hI.n rfl (show _ = 1 from rfl) ?_
  refine ev_ifne 73 dX11_typeAgain_56 (fun hbr => ?_) (fun h_no => (by exfalso; omega))
  refine ev_iconst dX11_typeAgain_73 ?_
  exact ev_iret dX11_typeAgain_74 (⟨_, rfl, rfl, KP.rf.pf (by decide), rfl⟩)
set_option maxRecDepth 100000 in
theorem f_fitting {p : Int} {h : AH} (hF : FRr h) : CV mX11_fitting 8 [rv 42, iv p] h (oi fun r h1 => r = 0 ∧ KP h h1 AR0 FR0 ∧ h1.vl 42 0 = 1) := by
  obtain ⟨hI, hZ, ⟨g1, g2, g3, g4, g5, g6⟩, g7⟩ := id hF
  refine cv_of cdX11_fitting ?_
  show EV _ _ 0 [rv 42, iv p, uv, uv] [] h _
  refine ev_aload_n dX11_fitting_0 rfl ?_
  refine ev_aload_n dX11_fitting_1 rfl ?_
  refine ev_iload_n dX11_fitting_2 rfl ?_
  refine ev_cvi dX11_fitting_3 lX11_361 (f_isLesson hF) (by decide) hI.o hI.n rfl rfl rfl (Nat.le_of_ble_eq_true rfl) rfl (fun r z9 q => ?_)
  obtain ⟨rfl, rfl⟩ := q
  refine ev_ifne 13 dX11_fitting_6 (fun h_no => (by exfalso; omega)) (fun hbr => ?_)
  refine ev_iconst dX11_fitting_9 ?_
  refine ev_gt 26 dX11_fitting_10 ?_
  refine ev_pt dX11_fitting_26 fX11_161 hI.o hI.n rfl ?_
  refine ev_iconst dX11_fitting_29 ?_
  refine ev_ist2 dX11_fitting_30 ?_
  refine ev_iconst dX11_fitting_31 ?_
  refine ev_ist3 dX11_fitting_32 ?_
  refine ev_iload_n dX11_fitting_33 rfl ?_
  refine ev_aload_n dX11_fitting_34 rfl ?_
  refine ev_getrv dX11_fitting_35 fX11_13 hI.o hI.n rfl hI.v_v ?_
  refine ev_iconst dX11_fitting_38 ?_
  refine ev_ildv dX11_fitting_39 hI.k_v hI.n_v rfl (by decide) (by decide) (show _ = z9.vl 43 0 from rfl) ?_
  rw [hZ]
  refine ev_icmpge 80 dX11_fitting_40 (fun hbr => ?_) (fun h_no => (by exfalso; omega))
  refine ev_iload_n dX11_fitting_80 rfl ?_
  exact ev_iret dX11_fitting_81 (⟨_, rfl, rfl, KP.rf.pf (by decide), rfl⟩)
set_option maxRecDepth 100000 in
theorem f_tell {p : Int} {h : AH} (hF : FRr h) : CV mX11_tell 8 [rv 42, iv p] h (oi fun r h1 => r = 0 ∧ KP h h1 AR0 FR0 ∧ h1.vl 42 0 = 1) := by
  obtain ⟨hI, hZ, ⟨g1, g2, g3, g4, g5, g6⟩, g7⟩ := id hF
  refine cv_of cdX11_tell ?_
  show EV _ _ 0 [rv 42, iv p] [] h _
  refine ev_aload_n dX11_tell_0 rfl ?_
  refine ev_aload_n dX11_tell_1 rfl ?_
  refine ev_iload_n dX11_tell_2 rfl ?_
  refine ev_cvi dX11_tell_3 lX11_361 (f_isLesson hF) (by decide) hI.o hI.n rfl rfl rfl (Nat.le_of_ble_eq_true rfl) rfl (fun r z10 q => ?_)
  obtain ⟨rfl, rfl⟩ := q
  refine ev_ifne 13 dX11_tell_6 (fun h_no => (by exfalso; omega)) (fun hbr => ?_)
  refine ev_iconst dX11_tell_9 ?_
  refine ev_gt 26 dX11_tell_10 ?_
  refine ev_pt dX11_tell_26 fX11_161 hI.o hI.n rfl ?_
  refine ev_aload_n dX11_tell_29 rfl ?_
  refine ev_getiv dX11_tell_30 fX11_161 hI.o hI.n rfl (show _ = 1 from rfl) ?_
  refine ev_ifeq 38 dX11_tell_33 (fun h_no => (by exfalso; omega)) (fun hbr => ?_)
  refine ev_iconst dX11_tell_36 ?_
  exact ev_iret dX11_tell_37 (⟨_, rfl, rfl, KP.rf.pf (by decide), rfl⟩)
set_option maxRecDepth 100000 in
theorem f_tellTerm {p : Int} {h : AH} (hF : FRr h) : CV mX11_tellTerm 8 [rv 42, iv p] h (oi fun r h1 => r = 0 ∧ KP h h1 AR0 FR0 ∧ h1.vl 42 0 = 1) := by
  obtain ⟨hI, hZ, ⟨g1, g2, g3, g4, g5, g6⟩, g7⟩ := id hF
  refine cv_of cdX11_tellTerm ?_
  show EV _ _ 0 [rv 42, iv p] [] h _
  refine ev_aload_n dX11_tellTerm_0 rfl ?_
  refine ev_aload_n dX11_tellTerm_1 rfl ?_
  refine ev_iload_n dX11_tellTerm_2 rfl ?_
  refine ev_cvi dX11_tellTerm_3 lX11_361 (f_isLesson hF) (by decide) hI.o hI.n rfl rfl rfl (Nat.le_of_ble_eq_true rfl) rfl (fun r z11 q => ?_)
  obtain ⟨rfl, rfl⟩ := q
  refine ev_ifeq 13 dX11_tellTerm_6 (fun hbr => ?_) (fun h_no => (by exfalso; omega))
  refine ev_iconst dX11_tellTerm_13 ?_
  refine ev_pt dX11_tellTerm_14 fX11_161 hI.o hI.n rfl ?_
  refine ev_aload_n dX11_tellTerm_17 rfl ?_
  refine ev_getiv dX11_tellTerm_18 fX11_161 hI.o hI.n rfl (show _ = 1 from rfl) ?_
  refine ev_ifeq 26 dX11_tellTerm_21 (fun h_no => (by exfalso; omega)) (fun hbr => ?_)
  refine ev_iconst dX11_tellTerm_24 ?_
  exact ev_iret dX11_tellTerm_25 (⟨_, rfl, rfl, KP.rf.pf (by decide), rfl⟩)
set_option maxRecDepth 100000 in
theorem f_nodeOf {p q r : Int} {h : AH} (hF : FRr h) : CV mX11_nodeOf 8 [rv 42, iv p, iv q, iv r] h (oi fun r h1 => r = 0 ∧ KP h h1 AR0 FR0 ∧ h1.vl 42 0 = 1) := by
  obtain ⟨hI, hZ, ⟨g1, g2, g3, g4, g5, g6⟩, g7⟩ := id hF
  refine cv_of cdX11_nodeOf ?_
  show EV _ _ 0 [rv 42, iv p, iv q, iv r] [] h _
  refine ev_aload_n dX11_nodeOf_0 rfl ?_
  refine ev_aload_n dX11_nodeOf_1 rfl ?_
  refine ev_iload_n dX11_nodeOf_2 rfl ?_
  refine ev_iload_n dX11_nodeOf_3 rfl ?_
  refine ev_cvi dX11_nodeOf_4 lX11_379 (f_isNode hF) (by decide) hI.o hI.n rfl rfl rfl (Nat.le_of_ble_eq_true rfl) rfl (fun r z12 q => ?_)
  obtain ⟨rfl, rfl⟩ := q
  refine ev_ifne 14 dX11_nodeOf_7 (fun h_no => (by exfalso; omega)) (fun hbr => ?_)
  refine ev_iconst dX11_nodeOf_10 ?_
  refine ev_gt 28 dX11_nodeOf_11 ?_
  refine ev_pt dX11_nodeOf_28 fX11_161 hI.o hI.n rfl ?_
  refine ev_aload_n dX11_nodeOf_31 rfl ?_
  refine ev_getiv dX11_nodeOf_32 fX11_161 hI.o hI.n rfl (show _ = 1 from rfl) ?_
  refine ev_ifeq 40 dX11_nodeOf_35 (fun h_no => (by exfalso; omega)) (fun hbr => ?_)
  refine ev_iconst dX11_nodeOf_38 ?_
  exact ev_iret dX11_nodeOf_39 (⟨_, rfl, rfl, KP.rf.pf (by decide), rfl⟩)
set_option maxRecDepth 100000 in
theorem f_signOf {p q : Int} {h : AH} (hF : FRr h) : CV mX11_signOf 8 [rv 42, iv p, iv q] h (oi fun r h1 => r = 0 ∧ KP h h1 AR0 FR0 ∧ h1.vl 42 0 = 1) := by
  obtain ⟨hI, hZ, ⟨g1, g2, g3, g4, g5, g6⟩, g7⟩ := id hF
  refine cv_of cdX11_signOf ?_
  show EV _ _ 0 [rv 42, iv p, iv q] [] h _
  refine ev_aload_n dX11_signOf_0 rfl ?_
  refine ev_aload_n dX11_signOf_1 rfl ?_
  refine ev_iload_n dX11_signOf_2 rfl ?_
  refine ev_iload_n dX11_signOf_3 rfl ?_
  refine ev_cvi dX11_signOf_4 lX11_379 (f_isNode hF) (by decide) hI.o hI.n rfl rfl rfl (Nat.le_of_ble_eq_true rfl) rfl (fun r z13 q => ?_)
  obtain ⟨rfl, rfl⟩ := q
  refine ev_ifne 14 dX11_signOf_7 (fun h_no => (by exfalso; omega)) (fun hbr => ?_)
  refine ev_iconst dX11_signOf_10 ?_
  refine ev_gt 30 dX11_signOf_11 ?_
  refine ev_pt dX11_signOf_30 fX11_161 hI.o hI.n rfl ?_
  refine ev_aload_n dX11_signOf_33 rfl ?_
  refine ev_getiv dX11_signOf_34 fX11_161 hI.o hI.n rfl (show _ = 1 from rfl) ?_
  refine ev_ifne 50 dX11_signOf_37 (fun hbr => ?_) (fun h_no => (by exfalso; omega))
  refine ev_iconst dX11_signOf_50 ?_
  exact ev_cret dX11_signOf_51 (⟨_, rfl, rfl, KP.rf.pf (by decide), rfl⟩) (by omega) (by omega)
set_option maxRecDepth 100000 in
theorem f_binder {p q : Int} {h : AH} (hF : FRr h) : CV mX11_binder 8 [rv 42, iv p, iv q] h (oi fun r h1 => r = 0 ∧ KP h h1 AR0 FR0 ∧ h1.vl 42 0 = 1) := by
  obtain ⟨hI, hZ, ⟨g1, g2, g3, g4, g5, g6⟩, g7⟩ := id hF
  refine cv_of cdX11_binder ?_
  show EV _ _ 0 [rv 42, iv p, iv q] [] h _
  refine ev_aload_n dX11_binder_0 rfl ?_
  refine ev_aload_n dX11_binder_1 rfl ?_
  refine ev_iload_n dX11_binder_2 rfl ?_
  refine ev_iload_n dX11_binder_3 rfl ?_
  refine ev_cvi dX11_binder_4 lX11_379 (f_isNode hF) (by decide) hI.o hI.n rfl rfl rfl (Nat.le_of_ble_eq_true rfl) rfl (fun r z14 q => ?_)
  obtain ⟨rfl, rfl⟩ := q
  refine ev_ifne 14 dX11_binder_7 (fun h_no => (by exfalso; omega)) (fun hbr => ?_)
  refine ev_iconst dX11_binder_10 ?_
  refine ev_gt 36 dX11_binder_11 ?_
  refine ev_pt dX11_binder_36 fX11_161 hI.o hI.n rfl ?_
  refine ev_aload_n dX11_binder_39 rfl ?_
  refine ev_getiv dX11_binder_40 fX11_161 hI.o hI.n rfl (show _ = 1 from rfl) ?_
  refine ev_ifne 54 dX11_binder_43 (fun hbr => ?_) (fun h_no => (by exfalso; omega))
  refine ev_iconst dX11_binder_54 ?_
  exact ev_iret dX11_binder_55 (⟨_, rfl, rfl, KP.rf.pf (by decide), rfl⟩)
set_option maxRecDepth 100000 in
theorem f_uses {p q : Int} {h : AH} (hF : FRr h) : CV mX11_uses 8 [rv 42, iv p, iv q] h (oi fun r h1 => r = 0 ∧ KP h h1 AR0 FR0 ∧ h1.vl 42 0 = 1) := by
  obtain ⟨hI, hZ, ⟨g1, g2, g3, g4, g5, g6⟩, g7⟩ := id hF
  refine cv_of cdX11_uses ?_
  show EV _ _ 0 [rv 42, iv p, iv q] [] h _
  refine ev_aload_n dX11_uses_0 rfl ?_
  refine ev_aload_n dX11_uses_1 rfl ?_
  refine ev_iload_n dX11_uses_2 rfl ?_
  refine ev_iload_n dX11_uses_3 rfl ?_
  refine ev_cvi dX11_uses_4 lX11_379 (f_isNode hF) (by decide) hI.o hI.n rfl rfl rfl (Nat.le_of_ble_eq_true rfl) rfl (fun r z15 q => ?_)
  obtain ⟨rfl, rfl⟩ := q
  refine ev_ifne 14 dX11_uses_7 (fun h_no => (by exfalso; omega)) (fun hbr => ?_)
  refine ev_iconst dX11_uses_10 ?_
  refine ev_gt 39 dX11_uses_11 ?_
  refine ev_pt dX11_uses_39 fX11_161 hI.o hI.n rfl ?_
  refine ev_aload_n dX11_uses_42 rfl ?_
  refine ev_getiv dX11_uses_43 fX11_161 hI.o hI.n rfl (show _ = 1 from rfl) ?_
  refine ev_ifne 57 dX11_uses_46 (fun hbr => ?_) (fun h_no => (by exfalso; omega))
  refine ev_iconst dX11_uses_57 ?_
  exact ev_iret dX11_uses_58 (⟨_, rfl, rfl, KP.rf.pf (by decide), rfl⟩)
set_option maxRecDepth 100000 in
theorem f_nodeType {p q r : Int} {h : AH} (hF : FRr h) : CV mX11_nodeType 8 [rv 42, iv p, iv q, iv r] h (oi fun r h1 => r = 0 ∧ KP h h1 AR0 FR0 ∧ h1.vl 42 0 = 1) := by
  obtain ⟨hI, hZ, ⟨g1, g2, g3, g4, g5, g6⟩, g7⟩ := id hF
  refine cv_of cdX11_nodeType ?_
  show EV _ _ 0 [rv 42, iv p, iv q, iv r] [] h _
  refine ev_aload_n dX11_nodeType_0 rfl ?_
  refine ev_aload_n dX11_nodeType_1 rfl ?_
  refine ev_iload_n dX11_nodeType_2 rfl ?_
  refine ev_iload_n dX11_nodeType_3 rfl ?_
  refine ev_cvi dX11_nodeType_4 lX11_379 (f_isNode hF) (by decide) hI.o hI.n rfl rfl rfl (Nat.le_of_ble_eq_true rfl) rfl (fun r z16 q => ?_)
  obtain ⟨rfl, rfl⟩ := q
  refine ev_ifne 14 dX11_nodeType_7 (fun h_no => (by exfalso; omega)) (fun hbr => ?_)
  refine ev_iconst dX11_nodeType_10 ?_
  refine ev_gt 40 dX11_nodeType_11 ?_
  refine ev_pt dX11_nodeType_40 fX11_161 hI.o hI.n rfl ?_
  refine ev_aload_n dX11_nodeType_43 rfl ?_
  refine ev_getiv dX11_nodeType_44 fX11_161 hI.o hI.n rfl (show _ = 1 from rfl) ?_
  refine ev_ifne 64 dX11_nodeType_47 (fun hbr => ?_) (fun h_no => (by exfalso; omega))
  refine ev_iconst dX11_nodeType_64 ?_
  exact ev_iret dX11_nodeType_65 (⟨_, rfl, rfl, KP.rf.pf (by decide), rfl⟩)
set_option maxRecDepth 100000 in
theorem f_tellNode {p q : Int} {h : AH} (hF : FRr h) : CV mX11_tellNode 8 [rv 42, iv p, iv q] h (oi fun r h1 => r = 0 ∧ KP h h1 AR0 FR0 ∧ h1.vl 42 0 = 1) := by
  obtain ⟨hI, hZ, ⟨g1, g2, g3, g4, g5, g6⟩, g7⟩ := id hF
  refine cv_of cdX11_tellNode ?_
  show EV _ _ 0 [rv 42, iv p, iv q] [] h _
  refine ev_aload_n dX11_tellNode_0 rfl ?_
  refine ev_aload_n dX11_tellNode_1 rfl ?_
  refine ev_iload_n dX11_tellNode_2 rfl ?_
  refine ev_iload_n dX11_tellNode_3 rfl ?_
  refine ev_cvi dX11_tellNode_4 lX11_379 (f_isNode hF) (by decide) hI.o hI.n rfl rfl rfl (Nat.le_of_ble_eq_true rfl) rfl (fun r z17 q => ?_)
  obtain ⟨rfl, rfl⟩ := q
  refine ev_ifne 14 dX11_tellNode_7 (fun h_no => (by exfalso; omega)) (fun hbr => ?_)
  refine ev_iconst dX11_tellNode_10 ?_
  refine ev_gt 27 dX11_tellNode_11 ?_
  refine ev_pt dX11_tellNode_27 fX11_161 hI.o hI.n rfl ?_
  refine ev_aload_n dX11_tellNode_30 rfl ?_
  refine ev_getiv dX11_tellNode_31 fX11_161 hI.o hI.n rfl (show _ = 1 from rfl) ?_
  refine ev_ifeq 39 dX11_tellNode_34 (fun h_no => (by exfalso; omega)) (fun hbr => ?_)
  refine ev_iconst dX11_tellNode_37 ?_
  exact ev_iret dX11_tellNode_38 (⟨_, rfl, rfl, KP.rf.pf (by decide), rfl⟩)
set_option maxRecDepth 100000 in
theorem f_isAlike {p q : Int} {h : AH} (hF : FRr h) : CV mX11_isAlike 8 [rv 42, iv p, iv q] h (oi fun r h1 => r = 0 ∧ KP h h1 AR0 FR0 ∧ h1.vl 42 0 = 1) := by
  obtain ⟨hI, hZ, ⟨g1, g2, g3, g4, g5, g6⟩, g7⟩ := id hF
  refine cv_of cdX11_isAlike ?_
  show EV _ _ 0 [rv 42, iv p, iv q, uv, uv] [] h _
  refine ev_aload_n dX11_isAlike_0 rfl ?_
  refine ev_aload_n dX11_isAlike_1 rfl ?_
  refine ev_iload_n dX11_isAlike_2 rfl ?_
  refine ev_iload_n dX11_isAlike_3 rfl ?_
  refine ev_cvi dX11_isAlike_4 lX11_403 (f_two hF) (by decide) hI.o hI.n rfl rfl rfl (Nat.le_of_ble_eq_true rfl) rfl (fun r z18 q => ?_)
  obtain ⟨rfl, rfl⟩ := q
  refine ev_pt dX11_isAlike_7 fX11_161 hI.o hI.n rfl ?_
  refine ev_aload_n dX11_isAlike_10 rfl ?_
  refine ev_getiv dX11_isAlike_11 fX11_161 hI.o hI.n rfl (show _ = 1 from rfl) ?_
  refine ev_ifne 28 dX11_isAlike_14 (fun hbr => ?_) (fun h_no => (by exfalso; omega))
  refine ev_iconst dX11_isAlike_28 ?_
  exact ev_zret dX11_isAlike_29 (⟨_, rfl, rfl, KP.rf.pf (by decide), rfl⟩) (Or.inl rfl)
set_option maxRecDepth 100000 in
theorem f_isAsGeneral {p q : Int} {h : AH} (hF : FRr h) : CV mX11_isAsGeneral 8 [rv 42, iv p, iv q] h (oi fun r h1 => r = 0 ∧ KP h h1 AR0 FR0 ∧ h1.vl 42 0 = 1) := by
  obtain ⟨hI, hZ, ⟨g1, g2, g3, g4, g5, g6⟩, g7⟩ := id hF
  refine cv_of cdX11_isAsGeneral ?_
  show EV _ _ 0 [rv 42, iv p, iv q, uv, uv, uv] [] h _
  refine ev_aload_n dX11_isAsGeneral_0 rfl ?_
  refine ev_aload_n dX11_isAsGeneral_1 rfl ?_
  refine ev_iload_n dX11_isAsGeneral_2 rfl ?_
  refine ev_iload_n dX11_isAsGeneral_3 rfl ?_
  refine ev_cvi dX11_isAsGeneral_4 lX11_403 (f_two hF) (by decide) hI.o hI.n rfl rfl rfl (Nat.le_of_ble_eq_true rfl) rfl (fun r z19 q => ?_)
  obtain ⟨rfl, rfl⟩ := q
  refine ev_pt dX11_isAsGeneral_7 fX11_161 hI.o hI.n rfl ?_
  refine ev_aload_n dX11_isAsGeneral_10 rfl ?_
  refine ev_getiv dX11_isAsGeneral_11 fX11_161 hI.o hI.n rfl (show _ = 1 from rfl) ?_
  refine ev_ifeq 19 dX11_isAsGeneral_14 (fun h_no => (by exfalso; omega)) (fun hbr => ?_)
  refine ev_iconst dX11_isAsGeneral_17 ?_
  exact ev_zret dX11_isAsGeneral_18 (⟨_, rfl, rfl, KP.rf.pf (by decide), rfl⟩) (Or.inl rfl)
set_option maxRecDepth 100000 in
theorem f_fit {p q : Int} {h : AH} (hF : FRr h) : CV mX11_fit 8 [rv 42, iv p, iv q] h (oi fun r h1 => r = 0 ∧ KP h h1 AR0 FR0 ∧ h1.vl 42 0 = 1) := by
  obtain ⟨hI, hZ, ⟨g1, g2, g3, g4, g5, g6⟩, g7⟩ := id hF
  refine cv_of cdX11_fit ?_
  show EV _ _ 0 [rv 42, iv p, iv q, uv] [] h _
  refine ev_aload_n dX11_fit_0 rfl ?_
  refine ev_aload_n dX11_fit_1 rfl ?_
  refine ev_iload_n dX11_fit_2 rfl ?_
  refine ev_iload_n dX11_fit_3 rfl ?_
  refine ev_cvi dX11_fit_4 lX11_403 (f_two hF) (by decide) hI.o hI.n rfl rfl rfl (Nat.le_of_ble_eq_true rfl) rfl (fun r z20 q => ?_)
  obtain ⟨rfl, rfl⟩ := q
  refine ev_pt dX11_fit_7 fX11_161 hI.o hI.n rfl ?_
  refine ev_aload_n dX11_fit_10 rfl ?_
  refine ev_getiv dX11_fit_11 fX11_161 hI.o hI.n rfl (show _ = 1 from rfl) ?_
  refine ev_ifne 24 dX11_fit_14 (fun hbr => ?_) (fun h_no => (by exfalso; omega))
  refine ev_iconst dX11_fit_24 ?_
  refine ev_ist3 dX11_fit_25 ?_
  refine ev_aload_n dX11_fit_26 rfl ?_
  refine ev_getiv dX11_fit_27 fX11_161 hI.o hI.n rfl (show _ = 1 from rfl) ?_
  refine ev_ifne 42 dX11_fit_30 (fun hbr => ?_) (fun h_no => (by exfalso; omega))
  refine ev_iload_n dX11_fit_42 rfl ?_
  exact ev_iret dX11_fit_43 (⟨_, rfl, rfl, KP.rf.pf (by decide), rfl⟩)
set_option maxRecDepth 100000 in
theorem f_largest {h : AH} (hF : FRr h) : CV mX11_largest 8 [rv 42] h (oi fun r h1 => r = 0 ∧ KP h h1 AR0 FR0 ∧ h1.vl 42 0 = 1) := by
  obtain ⟨hI, hZ, ⟨g1, g2, g3, g4, g5, g6⟩, g7⟩ := id hF
  refine cv_of cdX11_largest ?_
  show EV _ _ 0 [rv 42, uv, uv, uv, uv] [] h _
  refine ev_iconst dX11_largest_0 ?_
  refine ev_ist1 dX11_largest_1 ?_
  refine ev_iconst dX11_largest_2 ?_
  refine ev_ist2 dX11_largest_3 ?_
  refine ev_iconst dX11_largest_4 ?_
  refine ev_ist3 dX11_largest_5 ?_
  refine ev_iload_n dX11_largest_6 rfl ?_
  refine ev_aload_n dX11_largest_7 rfl ?_
  refine ev_getrv dX11_largest_8 fX11_13 hI.o hI.n rfl hI.v_v ?_
  refine ev_iconst dX11_largest_11 ?_
  refine ev_ildv dX11_largest_12 hI.k_v hI.n_v rfl (by decide) (by decide) (show _ = h.vl 43 0 from rfl) ?_
  rw [hZ]
  refine ev_icmpge 71 dX11_largest_13 (fun hbr => ?_) (fun h_no => (by exfalso; omega))
  refine ev_aload_n dX11_largest_71 rfl ?_
  refine ev_iload_n dX11_largest_72 rfl ?_
  refine ev_ifge 80 dX11_largest_73 (fun h_no => (by exfalso; omega)) (fun hbr => ?_)
  refine ev_iconst dX11_largest_76 ?_
  refine ev_gt 81 dX11_largest_77 ?_
  refine ev_pt dX11_largest_81 fX11_161 hI.o hI.n rfl ?_
  refine ev_aload_n dX11_largest_84 rfl ?_
  refine ev_getiv dX11_largest_85 fX11_161 hI.o hI.n rfl (show _ = 1 from rfl) ?_
  refine ev_ifne 95 dX11_largest_88 (fun hbr => ?_) (fun h_no => (by exfalso; omega))
  refine ev_iconst dX11_largest_95 ?_
  exact ev_iret dX11_largest_96 (⟨_, rfl, rfl, KP.rf.pf (by decide), rfl⟩)
set_option maxRecDepth 100000 in
theorem f_typedShare {h : AH} (hF : FRr h) : CV mX11_typedShare 8 [rv 42] h (fun o h1 => ∃ w, o = fv w ∧ KP h h1 AR0 FR0 ∧ h1.vl 42 0 = 1) := by
  obtain ⟨hI, hZ, ⟨g1, g2, g3, g4, g5, g6⟩, g7⟩ := id hF
  refine cv_of cdX11_typedShare ?_
  show EV _ _ 0 [rv 42] [] h _
  refine ev_aload_n dX11_typedShare_0 rfl ?_
  refine ev_aload_n dX11_typedShare_1 rfl ?_
  refine ev_getrv dX11_typedShare_2 fX11_13 hI.o hI.n rfl hI.v_v ?_
  refine ev_iconst dX11_typedShare_5 ?_
  refine ev_ildv dX11_typedShare_6 hI.k_v hI.n_v rfl (by decide) (by decide) (show _ = h.vl 43 0 from rfl) ?_
  rw [hZ]
  refine ev_ifne 14 dX11_typedShare_7 (fun h_no => (by exfalso; omega)) (fun hbr => ?_)
  refine ev_iconst dX11_typedShare_10 ?_
  refine ev_gt 15 dX11_typedShare_11 ?_
  refine ev_pt dX11_typedShare_15 fX11_161 hI.o hI.n rfl ?_
  refine ev_aload_n dX11_typedShare_18 rfl ?_
  refine ev_getiv dX11_typedShare_19 fX11_161 hI.o hI.n rfl (show _ = 1 from rfl) ?_
  refine ev_ifne 42 dX11_typedShare_22 (fun hbr => ?_) (fun h_no => (by exfalso; omega))
  refine ev_fconst0 dX11_typedShare_42 ?_
  exact ev_fret dX11_typedShare_43 (⟨_, rfl, KP.rf.pf (by decide), rfl⟩)
set_option maxRecDepth 100000 in
theorem f_undo {h : AH} (hF : FRr h) : CV mX11_undo 8 [rv 42] h (oi fun r h1 => r = 0 ∧ KP h h1 AR0 FR0 ∧ h1.vl 42 0 = 1) := by
  obtain ⟨hI, hZ, ⟨g1, g2, g3, g4, g5, g6⟩, g7⟩ := id hF
  refine cv_of cdX11_undo ?_
  show EV _ _ 0 [rv 42, uv] [] h _
  refine ev_aload_n dX11_undo_0 rfl ?_
  refine ev_aload_n dX11_undo_1 rfl ?_
  refine ev_getiv dX11_undo_2 fX11_347 hI.o hI.n rfl g3 ?_
  refine ev_ifne 12 dX11_undo_5 (fun h_no => (by exfalso; omega)) (fun hbr => ?_)
  refine ev_iconst dX11_undo_8 ?_
  refine ev_gt 13 dX11_undo_9 ?_
  refine ev_pt dX11_undo_13 fX11_161 hI.o hI.n rfl ?_
  refine ev_aload_n dX11_undo_16 rfl ?_
  refine ev_getiv dX11_undo_17 fX11_161 hI.o hI.n rfl (show _ = 1 from rfl) ?_
  refine ev_ifeq 25 dX11_undo_20 (fun h_no => (by exfalso; omega)) (fun hbr => ?_)
  refine ev_iconst dX11_undo_23 ?_
  exact ev_iret dX11_undo_24 (⟨_, rfl, rfl, KP.rf.pf (by decide), rfl⟩)
set_option maxRecDepth 100000 in
theorem f_restore {h : AH} (hF : FRr h) : CV mX11_restore 8 [rv 42] h (oi fun r h1 => r = 0 ∧ KP h h1 AR0 FR0 ∧ h1.vl 42 0 = 1) := by
  obtain ⟨hI, hZ, ⟨g1, g2, g3, g4, g5, g6⟩, g7⟩ := id hF
  refine cv_of cdX11_restore ?_
  show EV _ _ 0 [rv 42] [] h _
  refine ev_aload_n dX11_restore_0 rfl ?_
  refine ev_aload_n dX11_restore_1 rfl ?_
  refine ev_getiv dX11_restore_2 fX11_467 hI.o hI.n rfl g4 ?_
  refine ev_ifeq 12 dX11_restore_5 (fun hbr => ?_) (fun h_no => (by exfalso; omega))
  refine ev_iconst dX11_restore_12 ?_
  refine ev_pt dX11_restore_13 fX11_161 hI.o hI.n rfl ?_
  refine ev_aload_n dX11_restore_16 rfl ?_
  refine ev_getiv dX11_restore_17 fX11_161 hI.o hI.n rfl (show _ = 1 from rfl) ?_
  refine ev_ifeq 25 dX11_restore_20 (fun h_no => (by exfalso; omega)) (fun hbr => ?_)
  refine ev_iconst dX11_restore_23 ?_
  exact ev_iret dX11_restore_24 (⟨_, rfl, rfl, KP.rf.pf (by decide), rfl⟩)
set_option maxRecDepth 100000 in
theorem f_ranked {p : Int} {h : AH} (hF : FRr h) : CV mX11_ranked 8 [rv 42, iv p] h (oi fun r h1 => r = 0 ∧ KP h h1 AR0 FR0 ∧ h1.vl 42 0 = 1) := by
  obtain ⟨hI, hZ, ⟨g1, g2, g3, g4, g5, g6⟩, g7⟩ := id hF
  refine cv_of cdX11_ranked ?_
  show EV _ _ 0 [rv 42, iv p, uv, uv, uv, uv] [] h _
  refine ev_aload_n dX11_ranked_0 rfl ?_
  refine ev_iconst dX11_ranked_1 ?_
  refine ev_pt dX11_ranked_2 fX11_161 hI.o hI.n rfl ?_
  refine ev_iconst dX11_ranked_5 ?_
  refine ev_ist2 dX11_ranked_6 ?_
  refine ev_iload_n dX11_ranked_7 rfl ?_
  refine ev_aload_n dX11_ranked_8 rfl ?_
  refine ev_getrv dX11_ranked_9 fX11_13 hI.o hI.n rfl hI.v_v ?_
  refine ev_iconst dX11_ranked_12 ?_
  refine ev_ildv dX11_ranked_13 hI.k_v hI.n_v rfl (by decide) (by decide) (show _ = h.vl 43 0 from rfl) ?_
  rw [hZ]
  refine ev_icmpge 101 dX11_ranked_14 (fun hbr => ?_) (fun h_no => (by exfalso; omega))
  refine ev_aload_n dX11_ranked_101 rfl ?_
  refine ev_iconst dX11_ranked_102 ?_
  have hI2 : RI (h.put 42 0 0) := (KP.rf.pf (A := []) (F := [0]) (by decide)).ri hI
  refine ev_cvi dX11_ranked_103 lX11_344 (s_no hI2) (by decide) hI.o hI.n rfl rfl rfl (Nat.le_of_ble_eq_true rfl) rfl (fun r h1 q => ?_)
  obtain ⟨rfl, rfl⟩ := q
  exact ev_iret dX11_ranked_106 (⟨_, rfl, rfl, (KP.rf.pf (by decide)).pf (by decide), rfl⟩)
set_option maxRecDepth 100000 in
theorem f_isTold {h : AH} (hF : FRr h) : CV mX11_isTold 8 [rv 42] h (oi fun r h1 => r = 1 ∧ KP h h1 AR0 FR0) := by
  obtain ⟨hI, hZ, ⟨g1, g2, g3, g4, g5, g6⟩, g7⟩ := id hF
  refine cv_of cdX11_isTold ?_
  show EV _ _ 0 [rv 42] [] h _
  refine ev_aload_n dX11_isTold_0 rfl ?_
  refine ev_iconst dX11_isTold_1 ?_
  refine ev_pt dX11_isTold_2 fX11_161 hI.o hI.n rfl ?_
  refine ev_iconst dX11_isTold_5 ?_
  exact ev_zret dX11_isTold_6 (⟨_, rfl, rfl, KP.rf.pf (by decide)⟩) (Or.inr rfl)
set_option maxRecDepth 100000 in
theorem f_faultPosition {h : AH} (hF : FRr h) : CV mX11_faultPosition 8 [rv 42] h (oi fun r h1 => r = -1 ∧ KP h h1 AR0 FR0) := by
  obtain ⟨hI, hZ, ⟨g1, g2, g3, g4, g5, g6⟩, g7⟩ := id hF
  refine cv_of cdX11_faultPosition ?_
  show EV _ _ 0 [rv 42] [] h _
  refine ev_aload_n dX11_faultPosition_0 rfl ?_
  refine ev_iconst dX11_faultPosition_1 ?_
  refine ev_pt dX11_faultPosition_2 fX11_161 hI.o hI.n rfl ?_
  refine ev_aload_n dX11_faultPosition_5 rfl ?_
  refine ev_getiv dX11_faultPosition_6 fX11_7 hI.o hI.n rfl (show _ = h.vl 42 9 from rfl) ?_
  exact ev_iret dX11_faultPosition_9 (⟨_, rfl, g7, KP.rf.pf (by decide)⟩)
set_option maxRecDepth 100000 in
theorem f_isKept {p : Int} {h : AH} (hF : FRr h) : CV mX11_isKept 8 [rv 42, iv p] h (oi fun r h1 => r = 0 ∧ KP h h1 AR0 FR0 ∧ h1.vl 42 0 = (if 0 ≤ p ∧ p < 8 then 0 else 1)) := by
  obtain ⟨hI, hZ, ⟨g1, g2, g3, g4, g5, g6⟩, g7⟩ := id hF
  refine cv_of cdX11_isKept ?_
  show EV _ _ 0 [rv 42, iv p] [] h _
  by_cases hp : 0 ≤ p ∧ p ≤ 7
  · skip
    refine ev_aload_n dX11_isKept_0 rfl ?_
    refine ev_iload_n dX11_isKept_1 rfl ?_
    refine ev_iconst dX11_isKept_2 ?_
    refine ev_bipush dX11_isKept_3 ?_
    refine ev_csi dX11_isKept_5 lX11_164 (f_isIn1 hp) (by decide) rfl rfl (Nat.le_of_ble_eq_true rfl) rfl (fun r z21 q => ?_)
    obtain ⟨rfl, rfl⟩ := q
    refine ev_ifeq 15 dX11_isKept_8 (fun h_no => (by exfalso; omega)) (fun hbr => ?_)
    refine ev_iconst dX11_isKept_11 ?_
    refine ev_gt 16 dX11_isKept_12 ?_
    refine ev_pt dX11_isKept_16 fX11_161 hI.o hI.n rfl ?_
    refine ev_aload_n dX11_isKept_19 rfl ?_
    refine ev_getiv dX11_isKept_20 fX11_161 hI.o hI.n rfl (show _ = 0 from rfl) ?_
    refine ev_ifne 42 dX11_isKept_23 (fun h_no => (by exfalso; omega)) (fun hbr => ?_)
    refine ev_aload_n dX11_isKept_26 rfl ?_
    refine ev_getrv dX11_isKept_27 fX11_13 hI.o hI.n rfl hI.v_v ?_
    refine ev_iload_n dX11_isKept_30 rfl ?_
    refine ev_csi dX11_isKept_31 lX11_278 (s_keptAt hp.1 (by omega)) (by decide) rfl rfl (Nat.le_of_ble_eq_true rfl) rfl (fun r z9 q => ?_)
    obtain ⟨rfl, rfl⟩ := q
    refine ev_ildv dX11_isKept_34 hI.k_v hI.n_v rfl (by omega) (by omega) (show _ = z21.vl 43 _ from rfl) ?_
    rw [hZ]
    refine ev_ifle 42 dX11_isKept_35 (fun hbr => ?_) (fun h_no => (by exfalso; omega))
    refine ev_iconst dX11_isKept_42 ?_
    exact ev_zret dX11_isKept_43 (⟨_, rfl, rfl, KP.rf.pf (by decide), by rw [if_pos (by omega)]; rfl⟩) (Or.inl rfl)
  · skip
    refine ev_aload_n dX11_isKept_0 rfl ?_
    refine ev_iload_n dX11_isKept_1 rfl ?_
    refine ev_iconst dX11_isKept_2 ?_
    refine ev_bipush dX11_isKept_3 ?_
    refine ev_csi dX11_isKept_5 lX11_164 (f_isIn0 hp) (by decide) rfl rfl (Nat.le_of_ble_eq_true rfl) rfl (fun r z22 q => ?_)
    obtain ⟨rfl, rfl⟩ := q
    refine ev_ifeq 15 dX11_isKept_8 (fun hbr => ?_) (fun h_no => (by exfalso; omega))
    refine ev_iconst dX11_isKept_15 ?_
    refine ev_pt dX11_isKept_16 fX11_161 hI.o hI.n rfl ?_
    refine ev_aload_n dX11_isKept_19 rfl ?_
    refine ev_getiv dX11_isKept_20 fX11_161 hI.o hI.n rfl (show _ = 1 from rfl) ?_
    refine ev_ifne 42 dX11_isKept_23 (fun hbr => ?_) (fun h_no => (by exfalso; omega))
    refine ev_iconst dX11_isKept_42 ?_
    exact ev_zret dX11_isKept_43 (⟨_, rfl, rfl, KP.rf.pf (by decide), by rw [if_neg (by omega)]; rfl⟩) (Or.inl rfl)
set_option maxRecDepth 100000 in
theorem f_tellKept {p : Int} {h : AH} (hF : FRr h) : CV mX11_tellKept 8 [rv 42, iv p] h (oi fun r h1 => r = 0 ∧ KP h h1 AR0 FR0 ∧ h1.vl 42 0 = (if 0 ≤ p ∧ p < 8 then 2 else 1)) := by
  obtain ⟨hI, hZ, ⟨g1, g2, g3, g4, g5, g6⟩, g7⟩ := id hF
  refine cv_of cdX11_tellKept ?_
  show EV _ _ 0 [rv 42, iv p, uv] [] h _
  by_cases hp : 0 ≤ p ∧ p ≤ 7
  · skip
    refine ev_aload_n dX11_tellKept_0 rfl ?_
    refine ev_iload_n dX11_tellKept_1 rfl ?_
    refine ev_iconst dX11_tellKept_2 ?_
    refine ev_bipush dX11_tellKept_3 ?_
    refine ev_csi dX11_tellKept_5 lX11_164 (f_isIn1 hp) (by decide) rfl rfl (Nat.le_of_ble_eq_true rfl) rfl (fun r z23 q => ?_)
    obtain ⟨rfl, rfl⟩ := q
    refine ev_ifne 15 dX11_tellKept_8 (fun hbr => ?_) (fun h_no => (by exfalso; omega))
    refine ev_aload_n dX11_tellKept_15 rfl ?_
    refine ev_getrv dX11_tellKept_16 fX11_13 hI.o hI.n rfl hI.v_v ?_
    refine ev_iload_n dX11_tellKept_19 rfl ?_
    refine ev_csi dX11_tellKept_20 lX11_278 (s_keptAt hp.1 (by omega)) (by decide) rfl rfl (Nat.le_of_ble_eq_true rfl) rfl (fun r z9 q => ?_)
    obtain ⟨rfl, rfl⟩ := q
    refine ev_ild dX11_tellKept_23 hI.k_v hI.n_v rfl (by omega) (by omega) ?_
    rw [hZ]
    refine ev_ifne 31 dX11_tellKept_24 (fun h_no => (by exfalso; omega)) (fun hbr => ?_)
    refine ev_iconst dX11_tellKept_27 ?_
    refine ev_gt 32 dX11_tellKept_28 ?_
    refine ev_pt dX11_tellKept_32 fX11_161 hI.o hI.n rfl ?_
    refine ev_aload_n dX11_tellKept_35 rfl ?_
    refine ev_getiv dX11_tellKept_36 fX11_161 hI.o hI.n rfl (show _ = 2 from rfl) ?_
    refine ev_ifeq 44 dX11_tellKept_39 (fun h_no => (by exfalso; omega)) (fun hbr => ?_)
    refine ev_iconst dX11_tellKept_42 ?_
    exact ev_iret dX11_tellKept_43 (⟨_, rfl, rfl, KP.rf.pf (by decide), by rw [if_pos (by omega)]; rfl⟩)
  · skip
    refine ev_aload_n dX11_tellKept_0 rfl ?_
    refine ev_iload_n dX11_tellKept_1 rfl ?_
    refine ev_iconst dX11_tellKept_2 ?_
    refine ev_bipush dX11_tellKept_3 ?_
    refine ev_csi dX11_tellKept_5 lX11_164 (f_isIn0 hp) (by decide) rfl rfl (Nat.le_of_ble_eq_true rfl) rfl (fun r z24 q => ?_)
    obtain ⟨rfl, rfl⟩ := q
    refine ev_ifne 15 dX11_tellKept_8 (fun h_no => (by exfalso; omega)) (fun hbr => ?_)
    refine ev_iconst dX11_tellKept_11 ?_
    refine ev_gt 32 dX11_tellKept_12 ?_
    refine ev_pt dX11_tellKept_32 fX11_161 hI.o hI.n rfl ?_
    refine ev_aload_n dX11_tellKept_35 rfl ?_
    refine ev_getiv dX11_tellKept_36 fX11_161 hI.o hI.n rfl (show _ = 1 from rfl) ?_
    refine ev_ifeq 44 dX11_tellKept_39 (fun h_no => (by exfalso; omega)) (fun hbr => ?_)
    refine ev_iconst dX11_tellKept_42 ?_
    exact ev_iret dX11_tellKept_43 (⟨_, rfl, rfl, KP.rf.pf (by decide), by rw [if_neg (by omega)]; rfl⟩)
set_option maxRecDepth 100000 in
theorem f_reason {p q : Int} {h : AH} (hF : FRr h) : CV mX11_reason 8 [rv 42, iv p, iv q] h (oi fun r h1 => r = 0 ∧ KP h h1 AR0 FR0 ∧ h1.vl 42 0 = (if 0 ≤ p ∧ p ≤ 1 then 2 else 1)) := by
  obtain ⟨hI, hZ, ⟨g1, g2, g3, g4, g5, g6⟩, g7⟩ := id hF
  refine cv_of cdX11_reason ?_
  show EV _ _ 0 [rv 42, iv p, iv q] [] h _
  by_cases hp : 0 ≤ p ∧ p ≤ 1
  · skip
    refine ev_aload_n dX11_reason_0 rfl ?_
    refine ev_iload_n dX11_reason_1 rfl ?_
    refine ev_iconst dX11_reason_2 ?_
    refine ev_iconst dX11_reason_3 ?_
    refine ev_csi dX11_reason_4 lX11_164 (f_isIn1 hp) (by decide) rfl rfl (Nat.le_of_ble_eq_true rfl) rfl (fun r z25 q => ?_)
    obtain ⟨rfl, rfl⟩ := q
    refine ev_ifne 14 dX11_reason_7 (fun hbr => ?_) (fun h_no => (by exfalso; omega))
    refine ev_aload_n dX11_reason_14 rfl ?_
    refine ev_getiv dX11_reason_15 fX11_335 hI.o hI.n rfl g1 ?_
    refine ev_ifeq 33 dX11_reason_18 (fun hbr => ?_) (fun h_no => (by exfalso; omega))
    refine ev_iconst dX11_reason_33 ?_
    refine ev_gt 38 dX11_reason_34 ?_
    refine ev_pt dX11_reason_38 fX11_161 hI.o hI.n rfl ?_
    refine ev_aload_n dX11_reason_41 rfl ?_
    refine ev_getiv dX11_reason_42 fX11_161 hI.o hI.n rfl (show _ = 2 from rfl) ?_
    refine ev_ifeq 50 dX11_reason_45 (fun h_no => (by exfalso; omega)) (fun hbr => ?_)
    refine ev_iconst dX11_reason_48 ?_
    exact ev_iret dX11_reason_49 (⟨_, rfl, rfl, KP.rf.pf (by decide), by rw [if_pos hp]; rfl⟩)
  · skip
    refine ev_aload_n dX11_reason_0 rfl ?_
    refine ev_iload_n dX11_reason_1 rfl ?_
    refine ev_iconst dX11_reason_2 ?_
    refine ev_iconst dX11_reason_3 ?_
    refine ev_csi dX11_reason_4 lX11_164 (f_isIn0 hp) (by decide) rfl rfl (Nat.le_of_ble_eq_true rfl) rfl (fun r z26 q => ?_)
    obtain ⟨rfl, rfl⟩ := q
    refine ev_ifne 14 dX11_reason_7 (fun h_no => (by exfalso; omega)) (fun hbr => ?_)
    refine ev_iconst dX11_reason_10 ?_
    refine ev_gt 38 dX11_reason_11 ?_
    refine ev_pt dX11_reason_38 fX11_161 hI.o hI.n rfl ?_
    refine ev_aload_n dX11_reason_41 rfl ?_
    refine ev_getiv dX11_reason_42 fX11_161 hI.o hI.n rfl (show _ = 1 from rfl) ?_
    refine ev_ifeq 50 dX11_reason_45 (fun h_no => (by exfalso; omega)) (fun hbr => ?_)
    refine ev_iconst dX11_reason_48 ?_
    exact ev_iret dX11_reason_49 (⟨_, rfl, rfl, KP.rf.pf (by decide), by rw [if_neg hp]; rfl⟩)
set_option maxRecDepth 100000 in
theorem f_character {p : Int} {h : AH} (hF : FRr h) : CV mX11_character 8 [rv 42, iv p] h (oi fun r h1 => r = 0 ∧ KP h h1 AR0 FR0 ∧ h1.vl 42 0 = 1) := by
  obtain ⟨hI, hZ, ⟨g1, g2, g3, g4, g5, g6⟩, g7⟩ := id hF
  refine cv_of cdX11_character ?_
  show EV _ _ 0 [rv 42, iv p] [] h _
  refine ev_aload_n dX11_character_0 rfl ?_
  refine ev_iload_n dX11_character_1 rfl ?_
  refine ev_iconst dX11_character_2 ?_
  refine ev_aload_n dX11_character_3 rfl ?_
  refine ev_getiv dX11_character_4 fX11_440 hI.o hI.n rfl g6 ?_
  refine ev_iconst dX11_character_7 ?_
  refine ev_isub dX11_character_8 (by unfold ir; omega) ?_
  refine ev_csi dX11_character_9 lX11_164 (f_isIn0 (by omega)) (by decide) rfl rfl (Nat.le_of_ble_eq_true rfl) rfl (fun r z27 q => ?_)
  obtain ⟨rfl, rfl⟩ := q
  refine ev_ifeq 19 dX11_character_12 (fun hbr => ?_) (fun h_no => (by exfalso; omega))
  refine ev_iconst dX11_character_19 ?_
  refine ev_pt dX11_character_20 fX11_161 hI.o hI.n rfl ?_
  refine ev_aload_n dX11_character_23 rfl ?_
  refine ev_getiv dX11_character_24 fX11_161 hI.o hI.n rfl (show _ = 1 from rfl) ?_
  refine ev_ifne 40 dX11_character_27 (fun hbr => ?_) (fun h_no => (by exfalso; omega))
  refine ev_iconst dX11_character_40 ?_
  exact ev_cret dX11_character_41 (⟨_, rfl, rfl, KP.rf.pf (by decide), rfl⟩) (by omega) (by omega)
set_option maxRecDepth 100000 in
theorem f_append {p : Int} {h : AH} (hF : FRr h) : CV mX11_append 8 [rv 42, iv p] h (oi fun r h1 => KP h h1 AR0 FR0 ∧ ((¬ (33 ≤ p ∧ p ≤ 126) ∧ r = 0 ∧ h1.vl 42 0 = 1) ∨ ((33 ≤ p ∧ p ≤ 126) ∧ r = 1 ∧ h1.vl 42 0 = 0))) := by
  obtain ⟨hI, hZ, ⟨g1, g2, g3, g4, g5, g6⟩, g7⟩ := id hF
  refine cv_of cdX11_append ?_
  show EV _ _ 0 [rv 42, iv p] [] h _
  by_cases hp : 33 ≤ p ∧ p ≤ 126
  · skip
    refine ev_aload_n dX11_append_0 rfl ?_
    refine ev_iload_n dX11_append_1 rfl ?_
    refine ev_bipush dX11_append_2 ?_
    refine ev_bipush dX11_append_4 ?_
    refine ev_csi dX11_append_6 lX11_164 (f_isIn1 hp) (by decide) rfl rfl (Nat.le_of_ble_eq_true rfl) rfl (fun r z28 q => ?_)
    obtain ⟨rfl, rfl⟩ := q
    refine ev_ifne 16 dX11_append_9 (fun hbr => ?_) (fun h_no => (by exfalso; omega))
    refine ev_aload_n dX11_append_16 rfl ?_
    refine ev_getiv dX11_append_17 fX11_353 hI.o hI.n rfl g5 ?_
    refine ev_bipush dX11_append_20 ?_
    refine ev_icmpne 29 dX11_append_22 (fun hbr => ?_) (fun h_no => (by exfalso; omega))
    refine ev_iconst dX11_append_29 ?_
    refine ev_pt dX11_append_30 fX11_161 hI.o hI.n rfl ?_
    refine ev_aload_n dX11_append_33 rfl ?_
    refine ev_getiv dX11_append_34 fX11_161 hI.o hI.n rfl (show _ = 0 from rfl) ?_
    refine ev_ifeq 42 dX11_append_37 (fun hbr => ?_) (fun h_no => (by exfalso; omega))
    refine ev_aload_n dX11_append_42 rfl ?_
    refine ev_getrv dX11_append_43 fX11_149 hI.o hI.n rfl hI.v_input ?_
    refine ev_aload_n dX11_append_46 rfl ?_
    refine ev_getiv dX11_append_47 fX11_353 hI.o hI.n rfl g5 ?_
    refine ev_iload_n dX11_append_50 rfl ?_
    refine ev_istr dX11_append_51 hI.k_input hI.n_input rfl (by omega) (by omega) ?_
    refine ev_aload_n dX11_append_52 rfl ?_
    refine ev_dup dX11_append_53 ?_
    refine ev_getiv dX11_append_54 fX11_353 hI.o hI.n rfl g5 ?_
    refine ev_iconst dX11_append_57 ?_
    refine ev_iadd dX11_append_58 (by unfold ir; omega) ?_
    refine ev_pt dX11_append_59 fX11_353 hI.o hI.n rfl ?_
    refine ev_aload_n dX11_append_62 rfl ?_
    refine ev_getiv dX11_append_63 fX11_353 hI.o hI.n rfl (show _ = (0 + 1) from rfl) ?_
    exact ev_iret dX11_append_66 (⟨_, rfl, ((KP.rf.pf (by decide)).pr (by decide) (by decide)).pf (by decide), Or.inr ⟨hp, rfl, rfl⟩⟩)
  · skip
    refine ev_aload_n dX11_append_0 rfl ?_
    refine ev_iload_n dX11_append_1 rfl ?_
    refine ev_bipush dX11_append_2 ?_
    refine ev_bipush dX11_append_4 ?_
    refine ev_csi dX11_append_6 lX11_164 (f_isIn0 hp) (by decide) rfl rfl (Nat.le_of_ble_eq_true rfl) rfl (fun r z29 q => ?_)
    obtain ⟨rfl, rfl⟩ := q
    refine ev_ifne 16 dX11_append_9 (fun h_no => (by exfalso; omega)) (fun hbr => ?_)
    refine ev_iconst dX11_append_12 ?_
    refine ev_gt 30 dX11_append_13 ?_
    refine ev_pt dX11_append_30 fX11_161 hI.o hI.n rfl ?_
    refine ev_aload_n dX11_append_33 rfl ?_
    refine ev_getiv dX11_append_34 fX11_161 hI.o hI.n rfl (show _ = 1 from rfl) ?_
    refine ev_ifeq 42 dX11_append_37 (fun h_no => (by exfalso; omega)) (fun hbr => ?_)
    refine ev_iconst dX11_append_40 ?_
    exact ev_iret dX11_append_41 (⟨_, rfl, KP.rf.pf (by decide), Or.inl ⟨hp, rfl, rfl⟩⟩)
set_option maxRecDepth 100000 in
theorem s_lays {A B : Nat} {h : AH} (ka : h.kd A = (100, 569)) (na : A < h.n) (kb : h.kd B = (100, 569)) (nb : B < h.n) (h42 : A ≠ 42) (hAB : A ≠ B) : CV mX11_lays 1 [rv A, rv B] h (on fun h1 => KP h h1 [A] [] ∧ ∀ j : Nat, j < 569 → h1.vl A j = h.vl B j) := by
  refine cv_of cdX11_lays ?_
  show EV _ _ 0 [rv A, rv B, uv] [] h _
  have L : ∀ (m i : Nat) (g : AH), i + m = 569 → KP h g [A] [] → g.vl B = h.vl B → (∀ j : Nat, j < i → g.vl A j = h.vl B j) → EV mX11_lays 1 2 [rv A, rv B, iv i] [] g (on fun h1 => KP h h1 [A] [] ∧ ∀ j : Nat, j < 569 → h1.vl A j = h.vl B j) := by
    intro m
    induction m with
    | zero =>
      intro i g hi hk hb hj
      refine ev_iload_n dX11_lays_2 rfl ?_
      refine ev_sipush dX11_lays_3 ?_
      refine ev_icmpge 21 dX11_lays_6 (fun hc => ?_) (fun h_no => (by exfalso; omega))
      exact ev_vret dX11_lays_21 (⟨rfl, hk, fun j h9 => hj j (by omega)⟩)
    | succ m ih =>
      intro i g hi hk hb hj
      have ka' : g.kd A = (100, 569) := by rw [hk.2.1]; exact ka
      have kb' : g.kd B = (100, 569) := by rw [hk.2.1]; exact kb
      have na' : A < g.n := by rw [hk.1]; exact na
      have nb' : B < g.n := by rw [hk.1]; exact nb
      refine ev_iload_n dX11_lays_2 rfl ?_
      refine ev_sipush dX11_lays_3 ?_
      refine ev_icmpge 21 dX11_lays_6 (fun h_no => (by exfalso; omega)) (fun hc => ?_)
      refine ev_aload_n dX11_lays_9 rfl ?_
      refine ev_iload_n dX11_lays_10 rfl ?_
      refine ev_aload_n dX11_lays_11 rfl ?_
      refine ev_iload_n dX11_lays_12 rfl ?_
      refine ev_ild dX11_lays_13 kb' nb' rfl (by omega) (by omega) ?_
      refine ev_istr dX11_lays_14 ka' na' rfl (by omega) (by omega) ?_
      refine ev_iin2 dX11_lays_15 (by unfold ir; omega) ?_
      refine ev_gt 2 dX11_lays_18 ?_
      refine ih (i + 1) _ (by omega) (hk.pr (by simp) h42) ((put_ne _ (fun z => hAB z.symm)).trans hb) (fun j h9 => ?_)
      by_cases e : j = i
      · rw [e, AH.put_vl, if_pos ⟨rfl, by simp⟩, hb]; rfl
      · rw [AH.put_vl, if_neg (by simp; omega)]
        exact hj j (by omega)
  refine ev_iconst dX11_lays_0 ?_
  refine ev_ist2 dX11_lays_1 ?_
  exact L 569 0 h rfl KP.rf rfl (fun j h9 => absurd h9 (Nat.not_lt_zero j))
set_option maxRecDepth 100000 in
theorem s_begins {h : AH} (hI : RI h) : CV mX11_begins 2 [rv 42] h (on fun h1 => KP h h1 [44] [0, 69] ∧ h1.vl 42 0 = 0 ∧ h1.vl 42 69 = 0 ∧ ∀ j : Nat, j < 569 → h1.vl 44 j = h.vl 43 j) := by
  refine cv_of cdX11_begins ?_
  show EV _ _ 0 [rv 42] [] h _
  have hI2 : RI ((h.put 42 0 0).put 42 69 0) := ((KP.rf.pf (A := []) (F := [0, 69]) (by decide)).pf (by decide)).ri hI
  refine ev_aload_n dX11_begins_0 rfl ?_
  refine ev_iconst dX11_begins_1 ?_
  refine ev_pt dX11_begins_2 fX11_161 hI.o hI.n rfl ?_
  refine ev_aload_n dX11_begins_5 rfl ?_
  refine ev_iconst dX11_begins_6 ?_
  refine ev_pt dX11_begins_7 fX11_321 hI.o hI.n rfl ?_
  refine ev_aload_n dX11_begins_10 rfl ?_
  refine ev_getrv dX11_begins_11 fX11_17 hI.o hI.n rfl hI.v_before ?_
  refine ev_aload_n dX11_begins_14 rfl ?_
  refine ev_getrv dX11_begins_15 fX11_13 hI.o hI.n rfl hI.v_v ?_
  refine ev_csv dX11_begins_18 lX11_331 (s_lays (A := 44) (B := 43) hI2.k_before hI2.n_before hI2.k_v hI2.n_v (by decide) (by decide)) (by decide) rfl rfl (Nat.le_of_ble_eq_true rfl) rfl (fun h1 q => ?_)
  exact ev_vret dX11_begins_21 (⟨rfl, ((KP.rf.pf (by decide)).pf (by decide)).tr (q.1.wk (fun _ z => z) (fun _ z => nomatch z)), q.1.fl (j := 0) (by decide), q.1.fl (j := 69) (by decide), fun j hj => q.2 j hj⟩)
set_option maxRecDepth 100000 in
theorem s_endsR {a b : Int} {h : AH} (hI : RI h) (hr : h.vl 42 69 = 1) : CV mX11_ends 3 [rv 42, iv a, iv b] h (oi fun r h1 => r = 0 ∧ KP h h1 AR0 FR0 ∧ h1.vl 42 0 = b) := by
  refine cv_of cdX11_ends ?_
  show EV _ _ 0 [rv 42, iv a, iv b, uv] [] h _
  refine ev_aload_n dX11_ends_0 rfl ?_
  refine ev_geti dX11_ends_1 fX11_321 hI.o hI.n rfl ?_
  rw [hr]
  refine ev_ifeq 45 dX11_ends_4 (fun h_no => (by exfalso; omega)) (fun hc => ?_)
  refine ev_aload_n dX11_ends_7 rfl ?_
  refine ev_getrv dX11_ends_8 fX11_13 hI.o hI.n rfl hI.v_v ?_
  refine ev_aload_n dX11_ends_11 rfl ?_
  refine ev_getrv dX11_ends_12 fX11_17 hI.o hI.n rfl hI.v_before ?_
  refine ev_csv dX11_ends_15 lX11_331 (s_lays (A := 43) (B := 44) hI.k_v hI.n_v hI.k_before hI.n_before (by decide) (by decide)) (by decide) rfl rfl (Nat.le_of_ble_eq_true rfl) rfl (fun h1 q => ?_)
  have hI1 : RI h1 := q.1.ri hI
  refine ev_aload_n dX11_ends_18 rfl ?_
  refine ev_aload_n dX11_ends_19 rfl ?_
  refine ev_geti dX11_ends_20 fX11_325 hI1.o hI1.n rfl ?_
  refine ev_pt dX11_ends_23 fX11_335 hI1.o hI1.n rfl ?_
  refine ev_aload_n dX11_ends_26 rfl ?_
  refine ev_aload_n dX11_ends_27 rfl ?_
  refine ev_getiv dX11_ends_28 fX11_328 hI1.o hI1.n rfl (show _ = h1.vl 42 8 from rfl) ?_
  refine ev_pt dX11_ends_31 fX11_338 hI1.o hI1.n rfl ?_
  refine ev_aload_n dX11_ends_34 rfl ?_
  refine ev_iconst dX11_ends_35 ?_
  refine ev_pt dX11_ends_36 fX11_341 hI1.o hI1.n rfl ?_
  refine ev_aload_n dX11_ends_39 rfl ?_
  refine ev_iload_n dX11_ends_40 rfl ?_
  have hI2 : RI (((h1.put 42 3 (h1.vl 42 7)).put 42 4 (h1.vl 42 8)).put 42 5 0) := (((KP.rf.pf (A := []) (F := FR0) (by decide)).pf (by decide)).pf (by decide)).ri hI1
  refine ev_cvi dX11_ends_41 lX11_344 (s_no hI2) (by decide) hI1.o hI1.n rfl rfl rfl (Nat.le_of_ble_eq_true rfl) rfl (fun r h2 q2 => ?_)
  obtain ⟨rfl, rfl⟩ := q2
  exact ev_iret dX11_ends_44 (⟨_, rfl, rfl, ((((q.1.wk (by decide) (by decide)).pf (by decide)).pf (by decide)).pf (by decide)).pf (by decide), rfl⟩)
set_option maxRecDepth 100000 in
theorem f_drops {p : Int} {h : AH} (hF : FRr h) : CV mX11_drops 6 [rv 42, iv p] h (oi fun r h1 => r = 0 ∧ KP h h1 [] [69, 7, 8] ∧ h1.vl 42 69 = 1) := by
  obtain ⟨hI, hZ, ⟨g1, g2, g3, g4, g5, g6⟩, g7⟩ := id hF
  refine cv_of cdX11_drops ?_
  show EV _ _ 0 [rv 42, iv p, uv] [] h _
  refine ev_aload_n dX11_drops_0 rfl ?_
  refine ev_iload_n dX11_drops_1 rfl ?_
  refine ev_cvi dX11_drops_2 lX11_361 (f_isLesson hF) (by decide) hI.o hI.n rfl rfl rfl (Nat.le_of_ble_eq_true rfl) rfl (fun r z30 q => ?_)
  obtain ⟨rfl, rfl⟩ := q
  refine ev_ifne 15 dX11_drops_5 (fun h_no => (by exfalso; omega)) (fun hbr => ?_)
  refine ev_aload_n dX11_drops_8 rfl ?_
  refine ev_iconst dX11_drops_9 ?_
  refine ev_iload_n dX11_drops_10 rfl ?_
  refine ev_cvi dX11_drops_11 lX11_356 (s_refuses (by assumption)) (by decide) hI.o hI.n rfl rfl rfl (Nat.le_of_ble_eq_true rfl) rfl (fun r h1 q => ?_)
  obtain ⟨rfl, rfl⟩ := q
  exact ev_iret dX11_drops_14 (⟨_, rfl, rfl, ((KP.rf.pf (by decide)).pf (by decide)).pf (by decide), rfl⟩)
set_option maxRecDepth 100000 in
theorem f_keeps {p q : Int} {h : AH} (hF : FRr h) : CV mX11_keeps 6 [rv 42, iv p, iv q] h (oi fun r h1 => r = 0 ∧ KP h h1 [] [69, 7, 8] ∧ h1.vl 42 69 = 1) := by
  obtain ⟨hI, hZ, ⟨g1, g2, g3, g4, g5, g6⟩, g7⟩ := id hF
  refine cv_of cdX11_keeps ?_
  show EV _ _ 0 [rv 42, iv p, iv q, uv] [] h _
  refine ev_aload_n dX11_keeps_0 rfl ?_
  refine ev_iload_n dX11_keeps_1 rfl ?_
  refine ev_cvi dX11_keeps_2 lX11_361 (f_isLesson hF) (by decide) hI.o hI.n rfl rfl rfl (Nat.le_of_ble_eq_true rfl) rfl (fun r z31 q => ?_)
  obtain ⟨rfl, rfl⟩ := q
  refine ev_ifne 15 dX11_keeps_5 (fun h_no => (by exfalso; omega)) (fun hbr => ?_)
  refine ev_aload_n dX11_keeps_8 rfl ?_
  refine ev_iconst dX11_keeps_9 ?_
  refine ev_iload_n dX11_keeps_10 rfl ?_
  refine ev_cvi dX11_keeps_11 lX11_356 (s_refuses (by assumption)) (by decide) hI.o hI.n rfl rfl rfl (Nat.le_of_ble_eq_true rfl) rfl (fun r h1 q => ?_)
  obtain ⟨rfl, rfl⟩ := q
  exact ev_iret dX11_keeps_14 (⟨_, rfl, rfl, ((KP.rf.pf (by decide)).pf (by decide)).pf (by decide), rfl⟩)
set_option maxRecDepth 100000 in
theorem f_unkeeps {p : Int} {h : AH} (hF : FRr h) : CV mX11_unkeeps 6 [rv 42, iv p] h (oi fun r h1 => r = 0 ∧ KP h h1 [] [69, 7, 8] ∧ h1.vl 42 69 = 1) := by
  obtain ⟨hI, hZ, ⟨g1, g2, g3, g4, g5, g6⟩, g7⟩ := id hF
  refine cv_of cdX11_unkeeps ?_
  show EV _ _ 0 [rv 42, iv p, uv, uv] [] h _
  by_cases hp : 0 ≤ p ∧ p ≤ 7
  · skip
    refine ev_iload_n dX11_unkeeps_0 rfl ?_
    refine ev_iconst dX11_unkeeps_1 ?_
    refine ev_bipush dX11_unkeeps_2 ?_
    refine ev_csi dX11_unkeeps_4 lX11_164 (f_isIn1 hp) (by decide) rfl rfl (Nat.le_of_ble_eq_true rfl) rfl (fun r z32 q => ?_)
    obtain ⟨rfl, rfl⟩ := q
    refine ev_ifne 18 dX11_unkeeps_7 (fun hbr => ?_) (fun h_no => (by exfalso; omega))
    refine ev_aload_n dX11_unkeeps_18 rfl ?_
    refine ev_getrv dX11_unkeeps_19 fX11_13 hI.o hI.n rfl hI.v_v ?_
    refine ev_iload_n dX11_unkeeps_22 rfl ?_
    refine ev_csi dX11_unkeeps_23 lX11_278 (s_keptAt hp.1 (by omega)) (by decide) rfl rfl (Nat.le_of_ble_eq_true rfl) rfl (fun r z9 q => ?_)
    obtain ⟨rfl, rfl⟩ := q
    refine ev_ild dX11_unkeeps_26 hI.k_v hI.n_v rfl (by omega) (by omega) ?_
    rw [hZ]
    refine ev_ist2 dX11_unkeeps_27 ?_
    refine ev_iload_n dX11_unkeeps_28 rfl ?_
    refine ev_ifne 40 dX11_unkeeps_29 (fun h_no => (by exfalso; omega)) (fun hbr => ?_)
    refine ev_aload_n dX11_unkeeps_32 rfl ?_
    refine ev_bipush dX11_unkeeps_33 ?_
    refine ev_iload_n dX11_unkeeps_35 rfl ?_
    refine ev_cvi dX11_unkeeps_36 lX11_356 (s_refuses (by assumption)) (by decide) hI.o hI.n rfl rfl rfl (Nat.le_of_ble_eq_true rfl) rfl (fun r h1 q => ?_)
    obtain ⟨rfl, rfl⟩ := q
    exact ev_iret dX11_unkeeps_39 (⟨_, rfl, rfl, ((KP.rf.pf (by decide)).pf (by decide)).pf (by decide), rfl⟩)
  · skip
    refine ev_iload_n dX11_unkeeps_0 rfl ?_
    refine ev_iconst dX11_unkeeps_1 ?_
    refine ev_bipush dX11_unkeeps_2 ?_
    refine ev_csi dX11_unkeeps_4 lX11_164 (f_isIn0 hp) (by decide) rfl rfl (Nat.le_of_ble_eq_true rfl) rfl (fun r z33 q => ?_)
    obtain ⟨rfl, rfl⟩ := q
    refine ev_ifne 18 dX11_unkeeps_7 (fun h_no => (by exfalso; omega)) (fun hbr => ?_)
    refine ev_aload_n dX11_unkeeps_10 rfl ?_
    refine ev_bipush dX11_unkeeps_11 ?_
    refine ev_iload_n dX11_unkeeps_13 rfl ?_
    refine ev_cvi dX11_unkeeps_14 lX11_356 (s_refuses (by assumption)) (by decide) hI.o hI.n rfl rfl rfl (Nat.le_of_ble_eq_true rfl) rfl (fun r h1 q => ?_)
    obtain ⟨rfl, rfl⟩ := q
    exact ev_iret dX11_unkeeps_17 (⟨_, rfl, rfl, ((KP.rf.pf (by decide)).pf (by decide)).pf (by decide), rfl⟩)
set_option maxRecDepth 100000 in
theorem f_drop {p : Int} {h : AH} (hF : FRr h) : CV mX11_drop 8 [rv 42, iv p] h (oi fun r h1 => r = 0 ∧ KP h h1 AR0 FR0 ∧ h1.vl 42 0 = 1) := by
  obtain ⟨hI, hZ, ⟨g1, g2, g3, g4, g5, g6⟩, g7⟩ := id hF
  refine cv_of cdX11_drop ?_
  show EV _ _ 0 [rv 42, iv p] [] h _
  refine ev_aload_n dX11_drop_0 rfl ?_
  refine ev_cvv dX11_drop_1 lX11_350 (s_begins hI) (by decide) hI.o hI.n rfl rfl rfl (Nat.le_of_ble_eq_true rfl) rfl (fun h1 q => ?_)
  have hF1 : FRr h1 := hF.kp q.1
  have hI1 := hF1.1
  refine ev_aload_n dX11_drop_4 rfl ?_
  refine ev_aload_n dX11_drop_5 rfl ?_
  refine ev_iload_n dX11_drop_6 rfl ?_
  refine ev_cvi dX11_drop_7 lX11_364 (f_drops hF1) (by decide) hI1.o hI1.n rfl rfl rfl (Nat.le_of_ble_eq_true rfl) rfl (fun r h2 q2 => ?_)
  obtain ⟨rfl, q2, q3⟩ := q2
  have hF2 : FRr h2 := hF1.kp q2
  have hI2 := hF2.1
  refine ev_iconst dX11_drop_10 ?_
  refine ev_cvi dX11_drop_11 lX11_359 (s_endsR hF2.1 q3) (by decide) hI2.o hI2.n rfl rfl rfl (Nat.le_of_ble_eq_true rfl) rfl (fun r h3 q4 => ?_)
  obtain ⟨rfl, q4, q5⟩ := q4
  exact ev_iret dX11_drop_14 (⟨_, rfl, rfl, ((q.1.wk (by decide) (by decide)).tr (q2.wk (by decide) (by decide))).tr q4, q5⟩)
set_option maxRecDepth 100000 in
theorem f_keep {p q : Int} {h : AH} (hF : FRr h) : CV mX11_keep 8 [rv 42, iv p, iv q] h (oi fun r h1 => r = 0 ∧ KP h h1 AR0 FR0 ∧ h1.vl 42 0 = 1) := by
  obtain ⟨hI, hZ, ⟨g1, g2, g3, g4, g5, g6⟩, g7⟩ := id hF
  refine cv_of cdX11_keep ?_
  show EV _ _ 0 [rv 42, iv p, iv q] [] h _
  refine ev_aload_n dX11_keep_0 rfl ?_
  refine ev_cvv dX11_keep_1 lX11_350 (s_begins hI) (by decide) hI.o hI.n rfl rfl rfl (Nat.le_of_ble_eq_true rfl) rfl (fun h1 q => ?_)
  have hF1 : FRr h1 := hF.kp q.1
  have hI1 := hF1.1
  refine ev_aload_n dX11_keep_4 rfl ?_
  refine ev_aload_n dX11_keep_5 rfl ?_
  refine ev_iload_n dX11_keep_6 rfl ?_
  refine ev_iload_n dX11_keep_7 rfl ?_
  refine ev_cvi dX11_keep_8 lX11_373 (f_keeps hF1) (by decide) hI1.o hI1.n rfl rfl rfl (Nat.le_of_ble_eq_true rfl) rfl (fun r h2 q2 => ?_)
  obtain ⟨rfl, q2, q3⟩ := q2
  have hF2 : FRr h2 := hF1.kp q2
  have hI2 := hF2.1
  refine ev_iconst dX11_keep_11 ?_
  refine ev_cvi dX11_keep_12 lX11_359 (s_endsR hF2.1 q3) (by decide) hI2.o hI2.n rfl rfl rfl (Nat.le_of_ble_eq_true rfl) rfl (fun r h3 q4 => ?_)
  obtain ⟨rfl, q4, q5⟩ := q4
  exact ev_iret dX11_keep_15 (⟨_, rfl, rfl, ((q.1.wk (by decide) (by decide)).tr (q2.wk (by decide) (by decide))).tr q4, q5⟩)
set_option maxRecDepth 100000 in
theorem f_unkeep {p : Int} {h : AH} (hF : FRr h) : CV mX11_unkeep 8 [rv 42, iv p] h (oi fun r h1 => r = 0 ∧ KP h h1 AR0 FR0 ∧ h1.vl 42 0 = 1) := by
  obtain ⟨hI, hZ, ⟨g1, g2, g3, g4, g5, g6⟩, g7⟩ := id hF
  refine cv_of cdX11_unkeep ?_
  show EV _ _ 0 [rv 42, iv p] [] h _
  refine ev_aload_n dX11_unkeep_0 rfl ?_
  refine ev_cvv dX11_unkeep_1 lX11_350 (s_begins hI) (by decide) hI.o hI.n rfl rfl rfl (Nat.le_of_ble_eq_true rfl) rfl (fun h1 q => ?_)
  have hF1 : FRr h1 := hF.kp q.1
  have hI1 := hF1.1
  refine ev_aload_n dX11_unkeep_4 rfl ?_
  refine ev_aload_n dX11_unkeep_5 rfl ?_
  refine ev_iload_n dX11_unkeep_6 rfl ?_
  refine ev_cvi dX11_unkeep_7 lX11_376 (f_unkeeps hF1) (by decide) hI1.o hI1.n rfl rfl rfl (Nat.le_of_ble_eq_true rfl) rfl (fun r h2 q2 => ?_)
  obtain ⟨rfl, q2, q3⟩ := q2
  have hF2 : FRr h2 := hF1.kp q2
  have hI2 := hF2.1
  refine ev_iconst dX11_unkeep_10 ?_
  refine ev_cvi dX11_unkeep_11 lX11_359 (s_endsR hF2.1 q3) (by decide) hI2.o hI2.n rfl rfl rfl (Nat.le_of_ble_eq_true rfl) rfl (fun r h3 q4 => ?_)
  obtain ⟨rfl, q4, q5⟩ := q4
  exact ev_iret dX11_unkeep_14 (⟨_, rfl, rfl, ((q.1.wk (by decide) (by decide)).tr (q2.wk (by decide) (by decide))).tr q4, q5⟩)
theorem f_small {c : Int} {h : AH} (hc : c < 0) : CV mX11_isSmall 1 [iv c] h (oi fun r h1 => r = 0 ∧ h1 = h) := cv_mono s_isSmall fun o h1 q => by
  obtain ⟨x, rfl, rfl, rfl⟩ := q
  exact ⟨_, rfl, by rw [if_neg (by omega)], rfl⟩
theorem f_cap {c : Int} {h : AH} (hc : c < 0) : CV mX11_isCapital 1 [iv c] h (oi fun r h1 => r = 0 ∧ h1 = h) := cv_mono s_isCapitalR fun o h1 q => by
  obtain ⟨x, rfl, rfl, rfl⟩ := q
  exact ⟨_, rfl, by rw [if_neg (by omega)], rfl⟩
set_option maxRecDepth 100000 in
theorem f_leafKind {h : AH} : CV mX11_leafKind 2 [iv (-1)] h (oi fun r h1 => r = -1 ∧ h1 = h) := by
  refine cv_of cdX11_leafKind ?_
  show EV _ _ 0 [iv (-1)] [] h _
  refine ev_iload_n dX11_leafKind_0 rfl ?_
  refine ev_csi dX11_leafKind_1 lX11_178 (f_small (by decide)) (by decide) rfl rfl (Nat.le_of_ble_eq_true rfl) rfl (fun r z34 q => ?_)
  obtain ⟨rfl, rfl⟩ := q
  refine ev_ifeq 11 dX11_leafKind_4 (fun hbr => ?_) (fun h_no => (by exfalso; omega))
  refine ev_iload_n dX11_leafKind_11 rfl ?_
  refine ev_csi dX11_leafKind_12 lX11_182 (f_cap (by decide)) (by decide) rfl rfl (Nat.le_of_ble_eq_true rfl) rfl (fun r z35 q => ?_)
  obtain ⟨rfl, rfl⟩ := q
  refine ev_ifeq 22 dX11_leafKind_15 (fun hbr => ?_) (fun h_no => (by exfalso; omega))
  refine ev_iload_n dX11_leafKind_22 rfl ?_
  refine ev_bipush dX11_leafKind_23 ?_
  refine ev_bipush dX11_leafKind_25 ?_
  refine ev_csi dX11_leafKind_27 lX11_164 (f_isIn0 (by decide)) (by decide) rfl rfl (Nat.le_of_ble_eq_true rfl) rfl (fun r z36 q => ?_)
  obtain ⟨rfl, rfl⟩ := q
  refine ev_ifeq 37 dX11_leafKind_30 (fun hbr => ?_) (fun h_no => (by exfalso; omega))
  refine ev_iload_n dX11_leafKind_37 rfl ?_
  refine ev_bipush dX11_leafKind_38 ?_
  refine ev_icmpeq 55 dX11_leafKind_40 (fun h_no => (by exfalso; omega)) (fun hbr => ?_)
  refine ev_iload_n dX11_leafKind_43 rfl ?_
  refine ev_bipush dX11_leafKind_44 ?_
  refine ev_icmpeq 55 dX11_leafKind_46 (fun h_no => (by exfalso; omega)) (fun hbr => ?_)
  refine ev_iload_n dX11_leafKind_49 rfl ?_
  refine ev_bipush dX11_leafKind_50 ?_
  refine ev_icmpne 59 dX11_leafKind_52 (fun hbr => ?_) (fun h_no => (by exfalso; omega))
  refine ev_iconst dX11_leafKind_59 ?_
  exact ev_iret dX11_leafKind_60 (⟨_, rfl, rfl, rfl⟩)
set_option maxRecDepth 100000 in
theorem f_reads {h : AH} (hI : RI h) : CV mX11_reads 6 [rv 42, rv 88, iv 0, iv 0] h (oi fun r h1 => r = 0 ∧ KP h h1 [47, 48, 49, 50] [35, 34]) := by
  refine cv_of cdX11_reads ?_
  show EV _ _ 0 [rv 42, rv 88, iv 0, iv 0, uv, uv, uv] [] h _
  have hI2 : RI ((h.put 42 35 0).put 42 34 (-1)) := ((KP.rf.pf (A := []) (F := [35, 34]) (by decide)).pf (by decide)).ri hI
  refine ev_aload_n dX11_reads_0 rfl ?_
  refine ev_iconst dX11_reads_1 ?_
  refine ev_pt dX11_reads_2 fX11_168 hI.o hI.n rfl ?_
  refine ev_aload_n dX11_reads_5 rfl ?_
  refine ev_iconst dX11_reads_6 ?_
  refine ev_pt dX11_reads_7 fX11_171 hI.o hI.n rfl ?_
  refine ev_aload_n dX11_reads_10 rfl ?_
  refine ev_iconst dX11_reads_11 ?_
  refine ev_iconst dX11_reads_12 ?_
  refine ev_iconst dX11_reads_13 ?_
  refine ev_cvv dX11_reads_14 lX11_185 (s_opens hI2 (by show (-1 : Int) ≤ -1; decide) (by show (-1 : Int) < 63; decide)) (by decide) hI.o hI.n rfl rfl rfl (Nat.le_of_ble_eq_true rfl) rfl (fun h1 q => ?_)
  obtain ⟨g, hg⟩ : ∃ g, g = h1 := ⟨_, rfl⟩
  have hK : KP h g [47, 48, 49, 50] [35, 34] := by
    rw [hg, q]
    exact ((((((KP.rf.pf (by decide)).pf (by decide)).pf (by decide)).pr (by decide) (by decide)).pr (by decide) (by decide)).pr (by decide) (by decide)).pr (by decide) (by decide)
  have ht : g.vl 42 34 = 0 := by rw [hg, q]; rfl
  have hd : g.vl 48 0 = -1 := by rw [hg, q]; rfl
  rw [← hg]
  have hI3 : RI g := hK.ri hI
  refine ev_iconst dX11_reads_17 ?_
  refine ev_ist4 dX11_reads_18 ?_
  refine ev_iload dX11_reads_20 rfl ?_
  refine ev_iload_n dX11_reads_22 rfl ?_
  refine ev_icmpge 35 dX11_reads_23 (fun hbr => ?_) (fun h_no => (by exfalso; omega))
  refine ev_iconst dX11_reads_35 ?_
  refine ev_ist5 dX11_reads_36 ?_
  refine ev_aload_n dX11_reads_38 rfl ?_
  refine ev_getrv dX11_reads_39 fX11_29 hI3.o hI3.n rfl hI3.v_done ?_
  refine ev_aload_n dX11_reads_42 rfl ?_
  refine ev_geti dX11_reads_43 fX11_171 hI3.o hI3.n rfl ?_
  rw [ht]
  refine ev_ild dX11_reads_46 hI3.k_done hI3.n_done rfl (by decide) (by decide) ?_
  rw [show g.vl 48 (0 : Int).toNat = -1 from hd]
  refine ev_ifge 161 dX11_reads_47 (fun h_no => (by exfalso; omega)) (fun hbr => ?_)
  refine ev_iload dX11_reads_50 rfl ?_
  refine ev_bipush dX11_reads_52 ?_
  refine ev_icmpeq 64 dX11_reads_54 (fun h_no => (by exfalso; omega)) (fun hbr => ?_)
  refine ev_iload dX11_reads_57 rfl ?_
  refine ev_bipush dX11_reads_59 ?_
  refine ev_icmpne 161 dX11_reads_61 (fun hbr => ?_) (fun h_no => (by exfalso; omega))
  refine ev_iload dX11_reads_161 rfl ?_
  refine ev_bipush dX11_reads_163 ?_
  refine ev_icmpne 182 dX11_reads_165 (fun hbr => ?_) (fun h_no => (by exfalso; omega))
  refine ev_iload dX11_reads_182 rfl ?_
  refine ev_csi dX11_reads_184 lX11_189 (f_leafKind) (by decide) rfl rfl (Nat.le_of_ble_eq_true rfl) rfl (fun r z37 q => ?_)
  obtain ⟨rfl, rfl⟩ := q
  refine ev_iflt 215 dX11_reads_187 (fun hbr => ?_) (fun h_no => (by exfalso; omega))
  refine ev_aload_n dX11_reads_215 rfl ?_
  refine ev_getrv dX11_reads_216 fX11_29 hI3.o hI3.n rfl hI3.v_done ?_
  refine ev_aload_n dX11_reads_219 rfl ?_
  refine ev_geti dX11_reads_220 fX11_171 hI3.o hI3.n rfl ?_
  rw [ht]
  refine ev_ild dX11_reads_223 hI3.k_done hI3.n_done rfl (by decide) (by decide) ?_
  rw [show (0 : Int).toNat = 0 from rfl, hd]
  refine ev_iflt 247 dX11_reads_224 (fun hbr => ?_) (fun h_no => (by exfalso; omega))
  refine ev_iload dX11_reads_247 rfl ?_
  exact ev_iret dX11_reads_249 (⟨_, rfl, rfl, hK⟩)
set_option maxRecDepth 100000 in
theorem f_lesson {h : AH} (hF : FRr h) : CV mX11_lesson 8 [rv 42] h (oi fun r h1 => r = 0 ∧ KP h h1 AR0 FR0 ∧ h1.vl 42 0 = 1) := by
  obtain ⟨hI, hZ, ⟨g1, g2, g3, g4, g5, g6⟩, g7⟩ := id hF
  refine cv_of cdX11_lesson ?_
  show EV _ _ 0 [rv 42, uv, uv, uv] [] h _
  refine ev_aload_n dX11_lesson_0 rfl ?_
  refine ev_cvv dX11_lesson_1 lX11_350 (s_begins hI) (by decide) hI.o hI.n rfl rfl rfl (Nat.le_of_ble_eq_true rfl) rfl (fun h1 q => ?_)
  have hF1 : FRr h1 := hF.kp q.1
  have hI1 := hF1.1
  refine ev_aload_n dX11_lesson_4 rfl ?_
  refine ev_aload_n dX11_lesson_5 rfl ?_
  refine ev_aload_n dX11_lesson_6 rfl ?_
  refine ev_getrv dX11_lesson_7 fX11_149 hI1.o hI1.n rfl hI1.v_input ?_
  refine ev_iconst dX11_lesson_10 ?_
  refine ev_aload_n dX11_lesson_11 rfl ?_
  refine ev_getiv dX11_lesson_12 fX11_353 hI1.o hI1.n rfl hF1.2.2.1.2.2.2.2.1 ?_
  refine ev_cvi dX11_lesson_15 lX11_209 (f_reads hI1) (by decide) hI1.o hI1.n rfl rfl rfl (Nat.le_of_ble_eq_true rfl) rfl (fun r h2 q2 => ?_)
  obtain ⟨rfl, q2⟩ := q2
  have hF2 : FRr h2 := hF1.kp q2
  have hI2 := hF2.1
  refine ev_pt dX11_lesson_18 fX11_7 hI2.o hI2.n rfl ?_
  refine ev_aload_n dX11_lesson_21 rfl ?_
  refine ev_getiv dX11_lesson_22 fX11_353 hI2.o hI2.n rfl hF2.2.2.1.2.2.2.2.1 ?_
  refine ev_ist1 dX11_lesson_25 ?_
  refine ev_aload_n dX11_lesson_26 rfl ?_
  refine ev_iconst dX11_lesson_27 ?_
  refine ev_pt dX11_lesson_28 fX11_353 hI2.o hI2.n rfl ?_
  refine ev_aload_n dX11_lesson_31 rfl ?_
  refine ev_getiv dX11_lesson_32 fX11_7 hI2.o hI2.n rfl (show _ = 0 from rfl) ?_
  refine ev_iflt 44 dX11_lesson_35 (fun h_no => (by exfalso; omega)) (fun hbr => ?_)
  refine ev_aload_n dX11_lesson_38 rfl ?_
  refine ev_iconst dX11_lesson_39 ?_
  have hI4 : RI ((h2.put 42 9 0).put 42 71 0) := ((KP.rf.pf (A := []) (F := FR0) (by decide)).pf (by decide)).ri hI2
  refine ev_cvi dX11_lesson_40 lX11_344 (s_no hI4) (by decide) hI2.o hI2.n rfl rfl rfl (Nat.le_of_ble_eq_true rfl) rfl (fun r h3 q3 => ?_)
  obtain ⟨rfl, rfl⟩ := q3
  exact ev_iret dX11_lesson_43 (⟨_, rfl, rfl, ((((q.1.wk (by decide) (by decide)).tr (q2.wk (by decide) (by decide))).pf (by decide)).pf (by decide)).pf (by decide), rfl⟩)
set_option maxRecDepth 100000 in
theorem f_next {h : AH} (hI : RI h) (h0 : h.vl 42 75 = 0) (h1 : h.vl 42 76 = 0) : CV mX11_next 2 [rv 42] h (oi fun r h1 => r = -1 ∧ h1 = h) := by
  refine cv_of cdX11_next ?_
  show EV _ _ 0 [rv 42] [] h _
  refine ev_aload_n dX11_next_0 rfl ?_
  refine ev_geti dX11_next_1 fX11_418 hI.o hI.n rfl ?_
  refine ev_aload_n dX11_next_4 rfl ?_
  refine ev_geti dX11_next_5 fX11_421 hI.o hI.n rfl ?_
  rw [h0, h1]
  refine ev_icmpge 23 dX11_next_8 (fun hc => ?_) (fun h_no => (by exfalso; omega))
  refine ev_iconst dX11_next_23 ?_
  exact ev_iret dX11_next_24 (⟨_, rfl, rfl, rfl⟩)
set_option maxRecDepth 100000 in
theorem f_isOrder {h : AH} (hI : RI h) (h0 : h.vl 42 75 = 0) (h1 : h.vl 42 76 = 0) : CV mX11_isOrder 4 [rv 42, iv 0] h (oi fun r h1 => r = 0 ∧ h1 = h) := by
  refine cv_of cdX11_isOrder ?_
  show EV _ _ 0 [rv 42, iv 0, uv, uv, uv] [] h _
  refine ev_aload_n dX11_isOrder_0 rfl ?_
  refine ev_cvi dX11_isOrder_1 lX11_424 (f_next hI h0 h1) (by decide) hI.o hI.n rfl rfl rfl (Nat.le_of_ble_eq_true rfl) rfl (fun r z38 q => ?_)
  obtain ⟨rfl, rfl⟩ := q
  refine ev_ist2 dX11_isOrder_4 ?_
  refine ev_iconst dX11_isOrder_5 ?_
  refine ev_ist3 dX11_isOrder_6 ?_
  refine ev_iconst dX11_isOrder_7 ?_
  refine ev_ist4 dX11_isOrder_8 ?_
  refine ev_iload_n dX11_isOrder_10 rfl ?_
  refine ev_bipush dX11_isOrder_11 ?_
  refine ev_icmpeq 30 dX11_isOrder_13 (fun h_no => (by exfalso; omega)) (fun hbr => ?_)
  refine ev_iload_n dX11_isOrder_16 rfl ?_
  refine ev_bipush dX11_isOrder_17 ?_
  refine ev_icmpeq 30 dX11_isOrder_19 (fun h_no => (by exfalso; omega)) (fun hbr => ?_)
  refine ev_iload_n dX11_isOrder_22 rfl ?_
  refine ev_bipush dX11_isOrder_23 ?_
  refine ev_icmpeq 30 dX11_isOrder_25 (fun h_no => (by exfalso; omega)) (fun hbr => ?_)
  refine ev_iconst dX11_isOrder_28 ?_
  exact ev_zret dX11_isOrder_29 (⟨_, rfl, rfl, rfl⟩) (Or.inl rfl)
set_option maxRecDepth 100000 in
theorem f_areOrders {h : AH} (hI : RI h) (h1 : h.vl 42 76 = 0) : CV mX11_areOrders 6 [rv 42, iv 0] h (oi fun r h1 => r = 0 ∧ h1 = (h.put 42 75 0).put 42 77 0) := by
  refine cv_of cdX11_areOrders ?_
  show EV _ _ 0 [rv 42, iv 0] [] h _
  have hI2 : RI ((h.put 42 75 0).put 42 77 0) := ((KP.rf.pf (A := []) (F := FR0) (by decide)).pf (by decide)).ri hI
  refine ev_aload_n dX11_areOrders_0 rfl ?_
  refine ev_iconst dX11_areOrders_1 ?_
  refine ev_pt dX11_areOrders_2 fX11_418 hI.o hI.n rfl ?_
  refine ev_aload_n dX11_areOrders_5 rfl ?_
  refine ev_iconst dX11_areOrders_6 ?_
  refine ev_pt dX11_areOrders_7 fX11_427 hI.o hI.n rfl ?_
  refine ev_aload_n dX11_areOrders_10 rfl ?_
  refine ev_iload_n dX11_areOrders_11 rfl ?_
  refine ev_cvi dX11_areOrders_12 lX11_430 (f_isOrder hI2 rfl h1) (by decide) hI.o hI.n rfl rfl rfl (Nat.le_of_ble_eq_true rfl) rfl (fun r h2 q => ?_)
  obtain ⟨rfl, rfl⟩ := q
  refine ev_ifne 20 dX11_areOrders_15 (fun h_no => (by exfalso; omega)) (fun hbr => ?_)
  refine ev_iconst dX11_areOrders_18 ?_
  exact ev_zret dX11_areOrders_19 (⟨_, rfl, rfl, rfl⟩) (Or.inl rfl)
set_option maxRecDepth 100000 in
theorem f_run {h : AH} (hF : FRr h) : CV mX11_run 8 [rv 42] h (oi fun r h1 => r = 0 ∧ KP h h1 AR0 FR0 ∧ h1.vl 42 0 = 1) := by
  obtain ⟨hI, hZ, ⟨g1, g2, g3, g4, g5, g6⟩, g7⟩ := id hF
  refine cv_of cdX11_run ?_
  show EV _ _ 0 [rv 42, uv, uv, uv, uv] [] h _
  refine ev_aload_n dX11_run_0 rfl ?_
  refine ev_cvv dX11_run_1 lX11_350 (s_begins hI) (by decide) hI.o hI.n rfl rfl rfl (Nat.le_of_ble_eq_true rfl) rfl (fun h1 q => ?_)
  have hF1 : FRr h1 := hF.kp q.1
  have hI1 := hF1.1
  refine ev_aload_n dX11_run_4 rfl ?_
  refine ev_aload_n dX11_run_5 rfl ?_
  refine ev_getiv dX11_run_6 fX11_353 hI1.o hI1.n rfl hF1.2.2.1.2.2.2.2.1 ?_
  refine ev_pt dX11_run_9 fX11_421 hI1.o hI1.n rfl ?_
  refine ev_aload_n dX11_run_12 rfl ?_
  refine ev_iconst dX11_run_13 ?_
  refine ev_pt dX11_run_14 fX11_353 hI1.o hI1.n rfl ?_
  refine ev_aload_n dX11_run_17 rfl ?_
  refine ev_aload_n dX11_run_18 rfl ?_
  refine ev_iconst dX11_run_19 ?_
  have hI2 : RI ((h1.put 42 76 0).put 42 71 0) := ((KP.rf.pf (A := []) (F := FR0) (by decide)).pf (by decide)).ri hI1
  refine ev_cvi dX11_run_20 lX11_434 (f_areOrders hI2 rfl) (by decide) hI1.o hI1.n rfl rfl rfl (Nat.le_of_ble_eq_true rfl) rfl (fun r h2 q2 => ?_)
  obtain ⟨rfl, rfl⟩ := q2
  refine ev_ifeq 30 dX11_run_23 (fun hbr => ?_) (fun h_no => (by exfalso; omega))
  refine ev_aload_n dX11_run_30 rfl ?_
  refine ev_getiv dX11_run_31 fX11_418 hI1.o hI1.n rfl (show _ = 0 from rfl) ?_
  refine ev_pt dX11_run_34 fX11_7 hI1.o hI1.n rfl ?_
  refine ev_aload_n dX11_run_37 rfl ?_
  refine ev_getiv dX11_run_38 fX11_7 hI1.o hI1.n rfl (show _ = 0 from rfl) ?_
  refine ev_iflt 50 dX11_run_41 (fun h_no => (by exfalso; omega)) (fun hbr => ?_)
  refine ev_aload_n dX11_run_44 rfl ?_
  refine ev_iconst dX11_run_45 ?_
  have hI4 : RI (((((h1.put 42 76 0).put 42 71 0).put 42 75 0).put 42 77 0).put 42 9 0) := (((((KP.rf.pf (A := []) (F := FR0) (by decide)).pf (by decide)).pf (by decide)).pf (by decide)).pf (by decide)).ri hI1
  refine ev_cvi dX11_run_46 lX11_344 (s_no hI4) (by decide) hI1.o hI1.n rfl rfl rfl (Nat.le_of_ble_eq_true rfl) rfl (fun r h3 q3 => ?_)
  obtain ⟨rfl, rfl⟩ := q3
  exact ev_iret dX11_run_49 (⟨_, rfl, rfl, ((((((q.1.wk (by decide) (by decide)).pf (by decide)).pf (by decide)).pf (by decide)).pf (by decide)).pf (by decide)).pf (by decide), rfl⟩)
set_option maxRecDepth 100000 in
theorem f_save {h : AH} (hF : FRr h) : CV mX11_save 8 [rv 42] h (oi fun r h1 => r = 0 ∧ KP h h1 AR0 FR0) := by
  obtain ⟨hI, hZ, ⟨g1, g2, g3, g4, g5, g6⟩, g7⟩ := id hF
  refine cv_of cdX11_save ?_
  show EV _ _ 0 [rv 42] [] h _
  refine ev_aload_n dX11_save_0 rfl ?_
  refine ev_iconst dX11_save_1 ?_
  refine ev_pt dX11_save_2 fX11_161 hI.o hI.n rfl ?_
  refine ev_aload_n dX11_save_5 rfl ?_
  refine ev_getrv dX11_save_6 fX11_20 hI.o hI.n rfl hI.v_saved ?_
  refine ev_aload_n dX11_save_9 rfl ?_
  refine ev_getrv dX11_save_10 fX11_13 hI.o hI.n rfl hI.v_v ?_
  have hI2 : RI (h.put 42 0 0) := (KP.rf.pf (A := []) (F := FR0) (by decide)).ri hI
  refine ev_csv dX11_save_13 lX11_331 (s_lays (A := 45) (B := 43) hI2.k_saved hI2.n_saved hI2.k_v hI2.n_v (by decide) (by decide)) (by decide) rfl rfl (Nat.le_of_ble_eq_true rfl) rfl (fun h1 q => ?_)
  have hI1 : RI h1 := q.1.ri hI2
  have hZ1 : ∀ j, h1.vl 43 j = 0 := fun j => by rw [q.1.vl (r := 43)]; exact hZ j
  refine ev_aload_n dX11_save_16 rfl ?_
  refine ev_iconst dX11_save_17 ?_
  refine ev_pt dX11_save_18 fX11_467 hI1.o hI1.n rfl ?_
  refine ev_aload_n dX11_save_21 rfl ?_
  refine ev_getrv dX11_save_22 fX11_13 hI1.o hI1.n rfl hI1.v_v ?_
  refine ev_iconst dX11_save_25 ?_
  refine ev_ildv dX11_save_26 hI1.k_v hI1.n_v rfl (by decide) (by decide) (show _ = h1.vl 43 0 from rfl) ?_
  rw [hZ1]
  exact ev_iret dX11_save_27 (⟨_, rfl, rfl, ((KP.rf.pf (by decide)).tr (q.1.wk (by decide) (by decide))).pf (by decide)⟩)
set_option maxRecDepth 100000 in
theorem f_ofLessons {p : Int} {h : AH} (hI : RI h) (hZ : ∀ j, h.vl 43 j = 0) : CV mX11_ofLessons 6 [rv 42, iv p] h (oi fun r h1 => r = 0 ∧ h1 = h) := by
  refine cv_of cdX11_ofLessons ?_
  show EV _ _ 0 [rv 42, iv p, uv, uv, uv] [] h _
  refine ev_iconst dX11_ofLessons_0 ?_
  refine ev_ist2 dX11_ofLessons_1 ?_
  refine ev_iconst dX11_ofLessons_2 ?_
  refine ev_ist3 dX11_ofLessons_3 ?_
  refine ev_iload_n dX11_ofLessons_4 rfl ?_
  refine ev_aload_n dX11_ofLessons_5 rfl ?_
  refine ev_getrv dX11_ofLessons_6 fX11_13 hI.o hI.n rfl hI.v_v ?_
  refine ev_iconst dX11_ofLessons_9 ?_
  refine ev_ildv dX11_ofLessons_10 hI.k_v hI.n_v rfl (by decide) (by decide) (show _ = h.vl 43 0 from rfl) ?_
  rw [hZ]
  refine ev_icmpge 106 dX11_ofLessons_11 (fun hbr => ?_) (fun h_no => (by exfalso; omega))
  refine ev_iload_n dX11_ofLessons_106 rfl ?_
  exact ev_iret dX11_ofLessons_107 (⟨_, rfl, rfl, rfl⟩)
set_option maxRecDepth 100000 in
theorem f_allNodes {h : AH} (hI : RI h) (hZ : ∀ j, h.vl 43 j = 0) : CV mX11_allNodes 6 [rv 42] h (oi fun r h1 => r = 0 ∧ h1 = h) := by
  refine cv_of cdX11_allNodes ?_
  show EV _ _ 0 [rv 42, uv, uv] [] h _
  refine ev_iconst dX11_allNodes_0 ?_
  refine ev_ist1 dX11_allNodes_1 ?_
  refine ev_iconst dX11_allNodes_2 ?_
  refine ev_ist2 dX11_allNodes_3 ?_
  refine ev_iload_n dX11_allNodes_4 rfl ?_
  refine ev_aload_n dX11_allNodes_5 rfl ?_
  refine ev_getrv dX11_allNodes_6 fX11_13 hI.o hI.n rfl hI.v_v ?_
  refine ev_iconst dX11_allNodes_9 ?_
  refine ev_ildv dX11_allNodes_10 hI.k_v hI.n_v rfl (by decide) (by decide) (show _ = h.vl 43 0 from rfl) ?_
  rw [hZ]
  refine ev_icmpge 28 dX11_allNodes_11 (fun hbr => ?_) (fun h_no => (by exfalso; omega))
  refine ev_iload_n dX11_allNodes_28 rfl ?_
  exact ev_iret dX11_allNodes_29 (⟨_, rfl, rfl, rfl⟩)
set_option maxRecDepth 100000 in
theorem f_keptNow {h : AH} (hI : RI h) (hZ : ∀ j, h.vl 43 j = 0) : CV mX11_keptNow 6 [rv 42] h (oi fun r h1 => r = 0 ∧ h1 = h) := by
  refine cv_of cdX11_keptNow ?_
  show EV _ _ 0 [rv 42, uv, uv] [] h _
  have L : ∀ (m : Nat) (i : Int), i + m = 8 → 0 ≤ i → EV mX11_keptNow 6 4 [rv 42, iv 0, iv i] [] h (oi fun r h1 => r = 0 ∧ h1 = h) := by
    intro m
    induction m with
    | zero =>
      intro i hi h0
      refine ev_iload_n dX11_keptNow_4 rfl ?_
      refine ev_bipush dX11_keptNow_5 ?_
      refine ev_icmpge 36 dX11_keptNow_7 (fun hc => ?_) (fun h_no => (by exfalso; omega))
      refine ev_iload_n dX11_keptNow_36 rfl ?_
      exact ev_iret dX11_keptNow_37 (⟨_, rfl, rfl, rfl⟩)
    | succ m ih =>
      intro i hi h0
      refine ev_iload_n dX11_keptNow_4 rfl ?_
      refine ev_bipush dX11_keptNow_5 ?_
      refine ev_icmpge 36 dX11_keptNow_7 (fun h_no => (by exfalso; omega)) (fun hc => ?_)
      refine ev_iload_n dX11_keptNow_10 rfl ?_
      refine ev_aload_n dX11_keptNow_11 rfl ?_
      refine ev_getrv dX11_keptNow_12 fX11_13 hI.o hI.n rfl hI.v_v ?_
      refine ev_iload_n dX11_keptNow_15 rfl ?_
      refine ev_csi dX11_keptNow_16 lX11_278 (s_keptAt h0 (by omega)) (by decide) rfl rfl (Nat.le_of_ble_eq_true rfl) rfl (fun r h1 q => ?_)
      obtain ⟨rfl, rfl⟩ := q
      refine ev_ild dX11_keptNow_19 hI.k_v hI.n_v rfl (by omega) (by omega) ?_
      rw [hZ]
      refine ev_ifle 27 dX11_keptNow_20 (fun hc2 => ?_) (fun h_no => (by exfalso; omega))
      refine ev_iconst dX11_keptNow_27 ?_
      refine ev_iadd dX11_keptNow_28 (by unfold ir; omega) ?_
      refine ev_ist1 dX11_keptNow_29 ?_
      refine ev_iin2 dX11_keptNow_30 (by unfold ir; omega) ?_
      refine ev_gt 4 dX11_keptNow_33 ?_
      exact ih (i + 1) (by omega) (by omega)
  refine ev_iconst dX11_keptNow_0 ?_
  refine ev_ist1 dX11_keptNow_1 ?_
  refine ev_iconst dX11_keptNow_2 ?_
  refine ev_ist2 dX11_keptNow_3 ?_
  exact L 8 0 rfl (by decide)
set_option maxRecDepth 100000 in
theorem f_meanSize {h : AH} (hF : FRr h) : CV mX11_meanSize 8 [rv 42] h (fun o h1 => ∃ w, o = dv w ∧ KP h h1 AR0 FR0 ∧ h1.vl 42 0 = 1) := by
  obtain ⟨hI, hZ, ⟨g1, g2, g3, g4, g5, g6⟩, g7⟩ := id hF
  refine cv_of cdX11_meanSize ?_
  show EV _ _ 0 [rv 42, uv] [] h _
  refine ev_aload_n dX11_meanSize_0 rfl ?_
  refine ev_iconst dX11_meanSize_1 ?_
  refine ev_cvi dX11_meanSize_2 lX11_458 (f_ofLessons hI hZ) (by decide) hI.o hI.n rfl rfl rfl (Nat.le_of_ble_eq_true rfl) rfl (fun r z39 q => ?_)
  obtain ⟨rfl, rfl⟩ := q
  refine ev_ist1 dX11_meanSize_5 ?_
  refine ev_aload_n dX11_meanSize_6 rfl ?_
  refine ev_iload_n dX11_meanSize_7 rfl ?_
  refine ev_ifne 15 dX11_meanSize_8 (fun h_no => (by exfalso; omega)) (fun hbr => ?_)
  refine ev_iconst dX11_meanSize_11 ?_
  refine ev_gt 16 dX11_meanSize_12 ?_
  refine ev_pt dX11_meanSize_16 fX11_161 hI.o hI.n rfl ?_
  refine ev_aload_n dX11_meanSize_19 rfl ?_
  refine ev_getiv dX11_meanSize_20 fX11_161 hI.o hI.n rfl (show _ = 1 from rfl) ?_
  refine ev_ifne 38 dX11_meanSize_23 (fun hbr => ?_) (fun h_no => (by exfalso; omega))
  refine ev_dconst0 dX11_meanSize_38 ?_
  exact ev_dret dX11_meanSize_39 (⟨_, rfl, KP.rf.pf (by decide), rfl⟩)
set_option maxRecDepth 100000 in
theorem f_account {p : Int} {h : AH} (hF : FRr h) : CV mX11_account 8 [rv 42, iv p] h (oi fun r h1 => r = 0 ∧ KP h h1 AR0 FR0 ∧ h1.vl 42 0 = (if 0 ≤ p ∧ p ≤ 12 then 0 else 1)) := by
  obtain ⟨hI, hZ, ⟨g1, g2, g3, g4, g5, g6⟩, g7⟩ := id hF
  refine cv_of cdX11_account ?_
  show EV _ _ 0 [rv 42, iv p] [] h _
  have hI2 : RI (h.put 42 0 0) := (KP.rf.pf (A := []) (F := FR0) (by decide)).ri hI
  refine ev_aload_n dX11_account_0 rfl ?_
  refine ev_iconst dX11_account_1 ?_
  refine ev_pt dX11_account_2 fX11_161 hI.o hI.n rfl ?_
  refine ev_iload_n dX11_account_5 rfl ?_
  by_cases hp0 : p = 0
  · subst hp0
    refine ev_tsI 72 (66) dX11_account_6 (by omega) (by omega) rfl ?_
    refine ev_aload_n dX11_account_72 rfl ?_
    refine ev_getrv dX11_account_73 fX11_13 hI.o hI.n rfl hI.v_v ?_
    refine ev_iconst dX11_account_76 ?_
    refine ev_ildv dX11_account_77 hI.k_v hI.n_v rfl (by decide) (by decide) (show _ = h.vl 43 0 from rfl) ?_
    rw [hZ]
    exact ev_iret dX11_account_78 (⟨_, rfl, rfl, KP.rf.pf (by decide), rfl⟩)
  by_cases hp1 : p = 1
  · subst hp1
    refine ev_tsI 79 (73) dX11_account_6 (by omega) (by omega) rfl ?_
    refine ev_aload_n dX11_account_79 rfl ?_
    refine ev_iconst dX11_account_80 ?_
    refine ev_cvi dX11_account_81 lX11_458 (f_ofLessons hI2 (fun j => hZ j)) (by decide) hI.o hI.n rfl rfl rfl (Nat.le_of_ble_eq_true rfl) rfl (fun r h1 q => ?_)
    obtain ⟨rfl, rfl⟩ := q
    exact ev_iret dX11_account_84 (⟨_, rfl, rfl, KP.rf.pf (by decide), rfl⟩)
  by_cases hp2 : p = 2
  · subst hp2
    refine ev_tsI 85 (79) dX11_account_6 (by omega) (by omega) rfl ?_
    refine ev_aload_n dX11_account_85 rfl ?_
    refine ev_iload_n dX11_account_86 rfl ?_
    refine ev_iconst dX11_account_87 ?_
    refine ev_iadd dX11_account_88 (by unfold ir; omega) ?_
    refine ev_cvi dX11_account_89 lX11_458 (f_ofLessons hI2 (fun j => hZ j)) (by decide) hI.o hI.n rfl rfl rfl (Nat.le_of_ble_eq_true rfl) rfl (fun r h1 q => ?_)
    obtain ⟨rfl, rfl⟩ := q
    exact ev_iret dX11_account_92 (⟨_, rfl, rfl, KP.rf.pf (by decide), rfl⟩)
  by_cases hp3 : p = 3
  · subst hp3
    refine ev_tsI 85 (79) dX11_account_6 (by omega) (by omega) rfl ?_
    refine ev_aload_n dX11_account_85 rfl ?_
    refine ev_iload_n dX11_account_86 rfl ?_
    refine ev_iconst dX11_account_87 ?_
    refine ev_iadd dX11_account_88 (by unfold ir; omega) ?_
    refine ev_cvi dX11_account_89 lX11_458 (f_ofLessons hI2 (fun j => hZ j)) (by decide) hI.o hI.n rfl rfl rfl (Nat.le_of_ble_eq_true rfl) rfl (fun r h1 q => ?_)
    obtain ⟨rfl, rfl⟩ := q
    exact ev_iret dX11_account_92 (⟨_, rfl, rfl, KP.rf.pf (by decide), rfl⟩)
  by_cases hp4 : p = 4
  · subst hp4
    refine ev_tsI 85 (79) dX11_account_6 (by omega) (by omega) rfl ?_
    refine ev_aload_n dX11_account_85 rfl ?_
    refine ev_iload_n dX11_account_86 rfl ?_
    refine ev_iconst dX11_account_87 ?_
    refine ev_iadd dX11_account_88 (by unfold ir; omega) ?_
    refine ev_cvi dX11_account_89 lX11_458 (f_ofLessons hI2 (fun j => hZ j)) (by decide) hI.o hI.n rfl rfl rfl (Nat.le_of_ble_eq_true rfl) rfl (fun r h1 q => ?_)
    obtain ⟨rfl, rfl⟩ := q
    exact ev_iret dX11_account_92 (⟨_, rfl, rfl, KP.rf.pf (by decide), rfl⟩)
  by_cases hp5 : p = 5
  · subst hp5
    refine ev_tsI 93 (87) dX11_account_6 (by omega) (by omega) rfl ?_
    refine ev_aload_n dX11_account_93 rfl ?_
    refine ev_cvi dX11_account_94 lX11_461 (f_allNodes hI2 (fun j => hZ j)) (by decide) hI.o hI.n rfl rfl rfl (Nat.le_of_ble_eq_true rfl) rfl (fun r h1 q => ?_)
    obtain ⟨rfl, rfl⟩ := q
    exact ev_iret dX11_account_97 (⟨_, rfl, rfl, KP.rf.pf (by decide), rfl⟩)
  by_cases hp6 : p = 6
  · subst hp6
    refine ev_tsI 98 (92) dX11_account_6 (by omega) (by omega) rfl ?_
    refine ev_aload_n dX11_account_98 rfl ?_
    refine ev_cvi dX11_account_99 lX11_464 (f_keptNow hI2 (fun j => hZ j)) (by decide) hI.o hI.n rfl rfl rfl (Nat.le_of_ble_eq_true rfl) rfl (fun r h1 q => ?_)
    obtain ⟨rfl, rfl⟩ := q
    exact ev_iret dX11_account_102 (⟨_, rfl, rfl, KP.rf.pf (by decide), rfl⟩)
  by_cases hp7 : p = 7
  · subst hp7
    refine ev_tsI 103 (97) dX11_account_6 (by omega) (by omega) rfl ?_
    refine ev_aload_n dX11_account_103 rfl ?_
    refine ev_getrv dX11_account_104 fX11_13 hI.o hI.n rfl hI.v_v ?_
    refine ev_iconst dX11_account_107 ?_
    refine ev_iload_n dX11_account_108 rfl ?_
    refine ev_iadd dX11_account_109 (by unfold ir; omega) ?_
    refine ev_bipush dX11_account_110 ?_
    refine ev_isub dX11_account_112 (by unfold ir; omega) ?_
    refine ev_ildv dX11_account_113 hI.k_v hI.n_v rfl (by omega) (by omega) (show _ = h.vl 43 _ from rfl) ?_
    rw [hZ]
    exact ev_iret dX11_account_114 (⟨_, rfl, rfl, KP.rf.pf (by decide), rfl⟩)
  by_cases hp8 : p = 8
  · subst hp8
    refine ev_tsI 103 (97) dX11_account_6 (by omega) (by omega) rfl ?_
    refine ev_aload_n dX11_account_103 rfl ?_
    refine ev_getrv dX11_account_104 fX11_13 hI.o hI.n rfl hI.v_v ?_
    refine ev_iconst dX11_account_107 ?_
    refine ev_iload_n dX11_account_108 rfl ?_
    refine ev_iadd dX11_account_109 (by unfold ir; omega) ?_
    refine ev_bipush dX11_account_110 ?_
    refine ev_isub dX11_account_112 (by unfold ir; omega) ?_
    refine ev_ildv dX11_account_113 hI.k_v hI.n_v rfl (by omega) (by omega) (show _ = h.vl 43 _ from rfl) ?_
    rw [hZ]
    exact ev_iret dX11_account_114 (⟨_, rfl, rfl, KP.rf.pf (by decide), rfl⟩)
  by_cases hp9 : p = 9
  · subst hp9
    refine ev_tsI 115 (109) dX11_account_6 (by omega) (by omega) rfl ?_
    refine ev_aload_n dX11_account_115 rfl ?_
    refine ev_iconst dX11_account_116 ?_
    refine ev_cvi dX11_account_117 lX11_458 (f_ofLessons hI2 (fun j => hZ j)) (by decide) hI.o hI.n rfl rfl rfl (Nat.le_of_ble_eq_true rfl) rfl (fun r h1 q => ?_)
    obtain ⟨rfl, rfl⟩ := q
    exact ev_iret dX11_account_120 (⟨_, rfl, rfl, KP.rf.pf (by decide), rfl⟩)
  by_cases hp10 : p = 10
  · subst hp10
    refine ev_tsI 121 (115) dX11_account_6 (by omega) (by omega) rfl ?_
    refine ev_aload_n dX11_account_121 rfl ?_
    refine ev_getiv dX11_account_122 fX11_353 hI.o hI.n rfl (show _ = h.vl 42 71 from rfl) ?_
    exact ev_iret dX11_account_125 (⟨_, rfl, g5, KP.rf.pf (by decide), rfl⟩)
  by_cases hp11 : p = 11
  · subst hp11
    refine ev_tsI 126 (120) dX11_account_6 (by omega) (by omega) rfl ?_
    refine ev_aload_n dX11_account_126 rfl ?_
    refine ev_getiv dX11_account_127 fX11_347 hI.o hI.n rfl (show _ = h.vl 42 2 from rfl) ?_
    exact ev_iret dX11_account_130 (⟨_, rfl, g3, KP.rf.pf (by decide), rfl⟩)
  by_cases hp12 : p = 12
  · subst hp12
    refine ev_tsI 131 (125) dX11_account_6 (by omega) (by omega) rfl ?_
    refine ev_aload_n dX11_account_131 rfl ?_
    refine ev_bipush dX11_account_132 ?_
    refine ev_cvi dX11_account_134 lX11_458 (f_ofLessons hI2 (fun j => hZ j)) (by decide) hI.o hI.n rfl rfl rfl (Nat.le_of_ble_eq_true rfl) rfl (fun r h1 q => ?_)
    obtain ⟨rfl, rfl⟩ := q
    exact ev_iret dX11_account_137 (⟨_, rfl, rfl, KP.rf.pf (by decide), rfl⟩)
  refine ev_tsO 138 dX11_account_6 (by omega) ?_
  refine ev_aload_n dX11_account_138 rfl ?_
  refine ev_iconst dX11_account_139 ?_
  refine ev_cvi dX11_account_140 lX11_344 (s_no hI2) (by decide) hI.o hI.n rfl rfl rfl (Nat.le_of_ble_eq_true rfl) rfl (fun r h1 q => ?_)
  obtain ⟨rfl, rfl⟩ := q
  exact ev_iret dX11_account_143 (⟨_, rfl, rfl, (KP.rf.pf (by decide)).pf (by decide), by rw [if_neg (by omega)]; rfl⟩)
