/-! the reference's small methods -/
set_option maxRecDepth 100000 in
theorem s_isIn {x lo hi : Int} {h : AH} : CV mX11_isIn 1 [iv x, iv lo, iv hi] h (oi fun r h1 => r = (if lo ≤ x ∧ x ≤ hi then 1 else 0) ∧ h1 = h) := by
  refine cv_of cdX11_isIn ?_
  show EV _ _ 0 [iv x, iv lo, iv hi] [] h _
  refine ev_iload_n dX11_isIn_0 rfl ?_
  refine ev_iload_n dX11_isIn_1 rfl ?_
  refine ev_icmplt 14 dX11_isIn_2 (fun hb0 => ?_) (fun hb0 => ?_)
  · refine ev_iconst dX11_isIn_14 ?_
    exact ev_zret dX11_isIn_15 (by (refine ⟨_, rfl, ?_, rfl⟩; (first | rw [if_pos (by omega)] | rw [if_neg (by omega)]))) (by omega)
  · refine ev_iload_n dX11_isIn_5 rfl ?_
    refine ev_iload_n dX11_isIn_6 rfl ?_
    refine ev_icmpgt 14 dX11_isIn_7 (fun hb1 => ?_) (fun hb1 => ?_)
    · refine ev_iconst dX11_isIn_14 ?_
      exact ev_zret dX11_isIn_15 (by (refine ⟨_, rfl, ?_, rfl⟩; (first | rw [if_pos (by omega)] | rw [if_neg (by omega)]))) (by omega)
    · refine ev_iconst dX11_isIn_10 ?_
      refine ev_gt 15 dX11_isIn_11 ?_
      exact ev_zret dX11_isIn_15 (by (refine ⟨_, rfl, ?_, rfl⟩; (first | rw [if_pos (by omega)] | rw [if_neg (by omega)]))) (by omega)
set_option maxRecDepth 100000 in
theorem s_lessonAt {l : Int} {h : AH} (h0 : 0 ≤ l) (h6 : l ≤ 10) : CV mX11_lessonAt 1 [iv l] h (oi fun r h1 => r = 3 + 61 * l ∧ h1 = h) := by
  refine cv_of cdX11_lessonAt ?_
  show EV _ _ 0 [iv l] [] h _
  refine ev_iconst dX11_lessonAt_0 ?_
  refine ev_bipush dX11_lessonAt_1 ?_
  refine ev_iload_n dX11_lessonAt_3 rfl ?_
  refine ev_imul dX11_lessonAt_4 (by unfold ir; omega) ?_
  refine ev_iadd dX11_lessonAt_5 (by unfold ir; omega) ?_
  exact ev_iret dX11_lessonAt_6 (by exact ⟨_, rfl, rfl, rfl⟩)
set_option maxRecDepth 100000 in
theorem s_keptAt {l : Int} {h : AH} (h0 : 0 ≤ l) (h6 : l ≤ 10) : CV mX11_keptAt 1 [iv l] h (oi fun r h1 => r = 369 + 25 * l ∧ h1 = h) := by
  refine cv_of cdX11_keptAt ?_
  show EV _ _ 0 [iv l] [] h _
  refine ev_sipush dX11_keptAt_0 ?_
  refine ev_bipush dX11_keptAt_3 ?_
  refine ev_iload_n dX11_keptAt_5 rfl ?_
  refine ev_imul dX11_keptAt_6 (by unfold ir; omega) ?_
  refine ev_iadd dX11_keptAt_7 (by unfold ir; omega) ?_
  exact ev_iret dX11_keptAt_8 (by exact ⟨_, rfl, rfl, rfl⟩)
set_option maxRecDepth 100000 in
theorem s_no {x : Int} {h : AH} (hI : RI h) : CV mX11_no 1 [rv 42, iv x] h (oi fun r h1 => r = 0 ∧ h1 = h.put 42 0 x) := by
  refine cv_of cdX11_no ?_
  show EV _ _ 0 [rv 42, iv x] [] h _
  refine ev_aload_n dX11_no_0 rfl ?_
  refine ev_iload_n dX11_no_1 rfl ?_
  refine ev_pt dX11_no_2 fX11_161 hI.o hI.n rfl ?_
  refine ev_iconst dX11_no_5 ?_
  exact ev_iret dX11_no_6 (by exact ⟨_, rfl, rfl, rfl⟩)
set_option maxRecDepth 100000 in
theorem s_isLesson {l : Int} {h : AH} (hI : RI h) (hv : 0 ≤ h.vl 43 0 ∧ h.vl 43 0 ≤ 6) : CV mX11_isLesson 2 [rv 42, iv l] h (oi fun r h1 => r = (if 0 ≤ l ∧ l < h.vl 43 0 then 1 else 0) ∧ h1 = h) := by
  refine cv_of cdX11_isLesson ?_
  show EV _ _ 0 [rv 42, iv l] [] h _
  refine ev_iload_n dX11_isLesson_0 rfl ?_
  refine ev_iconst dX11_isLesson_1 ?_
  refine ev_aload_n dX11_isLesson_2 rfl ?_
  refine ev_getrv dX11_isLesson_3 fX11_13 hI.o hI.n rfl hI.v_v ?_
  refine ev_iconst dX11_isLesson_6 ?_
  refine ev_ildv dX11_isLesson_7 hI.k_v hI.n_v rfl (by decide) (by decide) (show _ = h.vl 43 0 from rfl) ?_
  refine ev_iconst dX11_isLesson_8 ?_
  refine ev_isub dX11_isLesson_9 (by unfold ir; omega) ?_
  refine ev_csi dX11_isLesson_10 lX11_164 (s_isIn) (by decide) rfl rfl (by decide) rfl (fun r h1 q => ?_)
  obtain ⟨rfl, rfl⟩ := q
  exact ev_zret dX11_isLesson_13 (⟨_, rfl, zif (by omega), rfl⟩) (z01)
set_option maxRecDepth 100000 in
theorem s_part {a b c : Int} {h : AH} (hI : RI h) (h0 : 0 ≤ h.vl 42 49) (h9 : h.vl 42 49 < 20000) : CV mX11_part 1 [rv 42, iv a, iv b, iv c] h (oi fun r h1 => r = h.vl 42 49 ∧ h1 = (((((h.put 66 (h.vl 42 49).toNat a).put 67 (h.vl 42 49).toNat b).put 68 (h.vl 42 49).toNat c).put 69 (h.vl 42 49).toNat (-1)).put 70 (h.vl 42 49).toNat 0).put 42 49 (h.vl 42 49 + 1)) := by
  refine cv_of cdX11_part ?_
  show EV _ _ 0 [rv 42, iv a, iv b, iv c] [] h _
  refine ev_aload_n dX11_part_0 rfl ?_
  refine ev_getrv dX11_part_1 fX11_83 hI.o hI.n rfl hI.v_sort ?_
  refine ev_aload_n dX11_part_4 rfl ?_
  refine ev_geti dX11_part_5 fX11_213 hI.o hI.n rfl ?_
  refine ev_iload_n dX11_part_8 rfl ?_
  refine ev_istr dX11_part_9 hI.k_sort hI.n_sort rfl (by omega) (by omega) ?_
  refine ev_aload_n dX11_part_10 rfl ?_
  refine ev_getrv dX11_part_11 fX11_86 hI.o hI.n rfl hI.v_from ?_
  refine ev_aload_n dX11_part_14 rfl ?_
  refine ev_getiv dX11_part_15 fX11_213 hI.o hI.n rfl (show _ = h.vl 42 49 from rfl) ?_
  refine ev_iload_n dX11_part_18 rfl ?_
  refine ev_istr dX11_part_19 hI.k_from hI.n_from rfl (by omega) (by omega) ?_
  refine ev_aload_n dX11_part_20 rfl ?_
  refine ev_getrv dX11_part_21 fX11_89 hI.o hI.n rfl hI.v_to ?_
  refine ev_aload_n dX11_part_24 rfl ?_
  refine ev_getiv dX11_part_25 fX11_213 hI.o hI.n rfl (show _ = h.vl 42 49 from rfl) ?_
  refine ev_iload_n dX11_part_28 rfl ?_
  refine ev_istr dX11_part_29 hI.k_to hI.n_to rfl (by omega) (by omega) ?_
  refine ev_aload_n dX11_part_30 rfl ?_
  refine ev_getrv dX11_part_31 fX11_92 hI.o hI.n rfl hI.v_link ?_
  refine ev_aload_n dX11_part_34 rfl ?_
  refine ev_getiv dX11_part_35 fX11_213 hI.o hI.n rfl (show _ = h.vl 42 49 from rfl) ?_
  refine ev_iconst dX11_part_38 ?_
  refine ev_istr dX11_part_39 hI.k_link hI.n_link rfl (by omega) (by omega) ?_
  refine ev_aload_n dX11_part_40 rfl ?_
  refine ev_getrv dX11_part_41 fX11_95 hI.o hI.n rfl hI.v_isNew ?_
  refine ev_aload_n dX11_part_44 rfl ?_
  refine ev_getiv dX11_part_45 fX11_213 hI.o hI.n rfl (show _ = h.vl 42 49 from rfl) ?_
  refine ev_iconst dX11_part_48 ?_
  refine ev_istr dX11_part_49 hI.k_isNew hI.n_isNew rfl (by omega) (by omega) ?_
  refine ev_aload_n dX11_part_50 rfl ?_
  refine ev_dup dX11_part_51 ?_
  refine ev_getiv dX11_part_52 fX11_213 hI.o hI.n rfl (show _ = h.vl 42 49 from rfl) ?_
  refine ev_iconst dX11_part_55 ?_
  refine ev_iadd dX11_part_56 (by unfold ir; omega) ?_
  refine ev_pt dX11_part_57 fX11_213 hI.o hI.n rfl ?_
  refine ev_aload_n dX11_part_60 rfl ?_
  refine ev_getiv dX11_part_61 fX11_213 hI.o hI.n rfl (show _ = (h.vl 42 49 + 1) from rfl) ?_
  refine ev_iconst dX11_part_64 ?_
  refine ev_isub dX11_part_65 (by unfold ir; omega) ?_
  exact ev_iret dX11_part_66 (⟨_, rfl, by show (h.vl 42 49 + 1 - 1 : Int) = _; omega, rfl⟩)
