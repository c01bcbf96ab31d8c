/-! the reference's small methods -/
set_option maxRecDepth 100000 in
theorem s_isIn {x lo hi : Int} {h : AH} : CV mX11_isIn 1 [iv x, iv lo, iv hi] h (oi fun r h1 => r = (if lo ≤ x ∧ x ≤ hi then 1 else 0) ∧ h1 = h) := by
  refine cv_of cdX11_isIn ?_
  show EV _ _ 0 [iv x, iv lo, iv hi] [] h _
  refine ev_iload_n dX11_isIn_0 rfl ?_
  refine ev_iload_n dX11_isIn_1 rfl ?_
  refine ev_icmplt 14 dX11_isIn_2 (fun hb0 => ?_) (fun hb0 => ?_)
  · refine ev_iconst dX11_isIn_14 ?_
    exact ev_zret dX11_isIn_15 (by (refine ⟨_, rfl, ?_, rfl⟩; (first | rw [if_pos (by omega)] | rw [if_neg (by omega)]))) (by omega)
  · refine ev_iload_n dX11_isIn_5 rfl ?_
    refine ev_iload_n dX11_isIn_6 rfl ?_
    refine ev_icmpgt 14 dX11_isIn_7 (fun hb1 => ?_) (fun hb1 => ?_)
    · refine ev_iconst dX11_isIn_14 ?_
      exact ev_zret dX11_isIn_15 (by (refine ⟨_, rfl, ?_, rfl⟩; (first | rw [if_pos (by omega)] | rw [if_neg (by omega)]))) (by omega)
    · refine ev_iconst dX11_isIn_10 ?_
      refine ev_gt 15 dX11_isIn_11 ?_
      exact ev_zret dX11_isIn_15 (by (refine ⟨_, rfl, ?_, rfl⟩; (first | rw [if_pos (by omega)] | rw [if_neg (by omega)]))) (by omega)
set_option maxRecDepth 100000 in
theorem s_lessonAt {l : Int} {h : AH} (h0 : 0 ≤ l) (h6 : l ≤ 10) : CV mX11_lessonAt 1 [iv l] h (oi fun r h1 => r = 3 + 61 * l ∧ h1 = h) := by
  refine cv_of cdX11_lessonAt ?_
  show EV _ _ 0 [iv l] [] h _
  refine ev_iconst dX11_lessonAt_0 ?_
  refine ev_bipush dX11_lessonAt_1 ?_
  refine ev_iload_n dX11_lessonAt_3 rfl ?_
  refine ev_imul dX11_lessonAt_4 (by unfold ir; omega) ?_
  refine ev_iadd dX11_lessonAt_5 (by unfold ir; omega) ?_
  exact ev_iret dX11_lessonAt_6 (by exact ⟨_, rfl, rfl, rfl⟩)
set_option maxRecDepth 100000 in
theorem s_keptAt {l : Int} {h : AH} (h0 : 0 ≤ l) (h6 : l ≤ 10) : CV mX11_keptAt 1 [iv l] h (oi fun r h1 => r = 369 + 25 * l ∧ h1 = h) := by
  refine cv_of cdX11_keptAt ?_
  show EV _ _ 0 [iv l] [] h _
  refine ev_sipush dX11_keptAt_0 ?_
  refine ev_bipush dX11_keptAt_3 ?_
  refine ev_iload_n dX11_keptAt_5 rfl ?_
  refine ev_imul dX11_keptAt_6 (by unfold ir; omega) ?_
  refine ev_iadd dX11_keptAt_7 (by unfold ir; omega) ?_
  exact ev_iret dX11_keptAt_8 (by exact ⟨_, rfl, rfl, rfl⟩)
set_option maxRecDepth 100000 in
theorem s_no {x : Int} {h : AH} (hI : RI h) : CV mX11_no 1 [rv 42, iv x] h (oi fun r h1 => r = 0 ∧ h1 = h.put 42 0 x) := by
  refine cv_of cdX11_no ?_
  show EV _ _ 0 [rv 42, iv x] [] h _
  refine ev_aload_n dX11_no_0 rfl ?_
  refine ev_iload_n dX11_no_1 rfl ?_
  refine ev_pt dX11_no_2 fX11_161 hI.o hI.n rfl ?_
  refine ev_iconst dX11_no_5 ?_
  exact ev_iret dX11_no_6 (by exact ⟨_, rfl, rfl, rfl⟩)
set_option maxRecDepth 100000 in
theorem s_isLesson {l : Int} {h : AH} (hI : RI h) (hv : 0 ≤ h.vl 43 0 ∧ h.vl 43 0 ≤ 6) : CV mX11_isLesson 2 [rv 42, iv l] h (oi fun r h1 => r = (if 0 ≤ l ∧ l < h.vl 43 0 then 1 else 0) ∧ h1 = h) := by
  refine cv_of cdX11_isLesson ?_
  show EV _ _ 0 [rv 42, iv l] [] h _
  refine ev_iload_n dX11_isLesson_0 rfl ?_
  refine ev_iconst dX11_isLesson_1 ?_
  refine ev_aload_n dX11_isLesson_2 rfl ?_
  refine ev_getrv dX11_isLesson_3 fX11_13 hI.o hI.n rfl hI.v_v ?_
  refine ev_iconst dX11_isLesson_6 ?_
  refine ev_ildv dX11_isLesson_7 hI.k_v hI.n_v rfl (by decide) (by decide) (show _ = h.vl 43 0 from rfl) ?_
  refine ev_iconst dX11_isLesson_8 ?_
  refine ev_isub dX11_isLesson_9 (by unfold ir; omega) ?_
  refine ev_csi dX11_isLesson_10 lX11_164 (s_isIn) (by decide) rfl rfl (by decide) rfl (fun r h1 q => ?_)
  obtain ⟨rfl, rfl⟩ := q
  exact ev_zret dX11_isLesson_13 (⟨_, rfl, zif (by omega), rfl⟩) (z01)
set_option maxRecDepth 100000 in
theorem s_part {a b c : Int} {h : AH} (hI : RI h) (h0 : 0 ≤ h.vl 42 49) (h9 : h.vl 42 49 < 20000) : CV mX11_part 1 [rv 42, iv a, iv b, iv c] h (oi fun r h1 => r = h.vl 42 49 ∧ h1 = (((((h.put 66 (h.vl 42 49).toNat a).put 67 (h.vl 42 49).toNat b).put 68 (h.vl 42 49).toNat c).put 69 (h.vl 42 49).toNat (-1)).put 70 (h.vl 42 49).toNat 0).put 42 49 (h.vl 42 49 + 1)) := by
  refine cv_of cdX11_part ?_
  show EV _ _ 0 [rv 42, iv a, iv b, iv c] [] h _
  refine ev_aload_n dX11_part_0 rfl ?_
  refine ev_getrv dX11_part_1 fX11_83 hI.o hI.n rfl hI.v_sort ?_
  refine ev_aload_n dX11_part_4 rfl ?_
  refine ev_geti dX11_part_5 fX11_213 hI.o hI.n rfl ?_
  refine ev_iload_n dX11_part_8 rfl ?_
  refine ev_istr dX11_part_9 hI.k_sort hI.n_sort rfl (by omega) (by omega) ?_
  refine ev_aload_n dX11_part_10 rfl ?_
  refine ev_getrv dX11_part_11 fX11_86 hI.o hI.n rfl hI.v_from ?_
  refine ev_aload_n dX11_part_14 rfl ?_
  refine ev_getiv dX11_part_15 fX11_213 hI.o hI.n rfl (show _ = h.vl 42 49 from rfl) ?_
  refine ev_iload_n dX11_part_18 rfl ?_
  refine ev_istr dX11_part_19 hI.k_from hI.n_from rfl (by omega) (by omega) ?_
  refine ev_aload_n dX11_part_20 rfl ?_
  refine ev_getrv dX11_part_21 fX11_89 hI.o hI.n rfl hI.v_to ?_
  refine ev_aload_n dX11_part_24 rfl ?_
  refine ev_getiv dX11_part_25 fX11_213 hI.o hI.n rfl (show _ = h.vl 42 49 from rfl) ?_
  refine ev_iload_n dX11_part_28 rfl ?_
  refine ev_istr dX11_part_29 hI.k_to hI.n_to rfl (by omega) (by omega) ?_
  refine ev_aload_n dX11_part_30 rfl ?_
  refine ev_getrv dX11_part_31 fX11_92 hI.o hI.n rfl hI.v_link ?_
  refine ev_aload_n dX11_part_34 rfl ?_
  refine ev_getiv dX11_part_35 fX11_213 hI.o hI.n rfl (show _ = h.vl 42 49 from rfl) ?_
  refine ev_iconst dX11_part_38 ?_
  refine ev_istr dX11_part_39 hI.k_link hI.n_link rfl (by omega) (by omega) ?_
  refine ev_aload_n dX11_part_40 rfl ?_
  refine ev_getrv dX11_part_41 fX11_95 hI.o hI.n rfl hI.v_isNew ?_
  refine ev_aload_n dX11_part_44 rfl ?_
  refine ev_getiv dX11_part_45 fX11_213 hI.o hI.n rfl (show _ = h.vl 42 49 from rfl) ?_
  refine ev_iconst dX11_part_48 ?_
  refine ev_istr dX11_part_49 hI.k_isNew hI.n_isNew rfl (by omega) (by omega) ?_
  refine ev_aload_n dX11_part_50 rfl ?_
  refine ev_dup dX11_part_51 ?_
  refine ev_getiv dX11_part_52 fX11_213 hI.o hI.n rfl (show _ = h.vl 42 49 from rfl) ?_
  refine ev_iconst dX11_part_55 ?_
  refine ev_iadd dX11_part_56 (by unfold ir; omega) ?_
  refine ev_pt dX11_part_57 fX11_213 hI.o hI.n rfl ?_
  refine ev_aload_n dX11_part_60 rfl ?_
  refine ev_getiv dX11_part_61 fX11_213 hI.o hI.n rfl (show _ = (h.vl 42 49 + 1) from rfl) ?_
  refine ev_iconst dX11_part_64 ?_
  refine ev_isub dX11_part_65 (by unfold ir; omega) ?_
  exact ev_iret dX11_part_66 (⟨_, rfl, by show (h.vl 42 49 + 1 - 1 : Int) = _; omega, rfl⟩)
set_option maxRecDepth 100000 in
theorem s_fresh {h : AH} (hI : RI h) (h0 : 0 ≤ h.vl 42 49) (h9 : h.vl 42 49 < 20000) : CV mX11_fresh 2 [rv 42] h (oi fun r h1 => r = h.vl 42 49 ∧ h1 = (((((h.put 66 (h.vl 42 49).toNat 3).put 67 (h.vl 42 49).toNat (-1)).put 68 (h.vl 42 49).toNat (-1)).put 69 (h.vl 42 49).toNat (-1)).put 70 (h.vl 42 49).toNat 0).put 42 49 (h.vl 42 49 + 1)) := by
  refine cv_of cdX11_fresh ?_
  show EV _ _ 0 [rv 42] [] h _
  refine ev_aload_n dX11_fresh_0 rfl ?_
  refine ev_iconst dX11_fresh_1 ?_
  refine ev_iconst dX11_fresh_2 ?_
  refine ev_iconst dX11_fresh_3 ?_
  refine ev_cvi dX11_fresh_4 lX11_216 (s_part hI h0 h9) (by decide) hI.o hI.n rfl rfl rfl (by decide) rfl (fun r h1 q => ?_)
  obtain ⟨rfl, rfl⟩ := q
  exact ev_iret dX11_fresh_7 (⟨_, rfl, rfl, rfl⟩)
set_option maxRecDepth 100000 in
theorem s_arrow {a b : Int} {h : AH} (hI : RI h) (h0 : 0 ≤ h.vl 42 49) (h9 : h.vl 42 49 < 20000) : CV mX11_arrow 2 [rv 42, iv a, iv b] h (oi fun r h1 => r = h.vl 42 49 ∧ h1 = (((((h.put 66 (h.vl 42 49).toNat 2).put 67 (h.vl 42 49).toNat a).put 68 (h.vl 42 49).toNat b).put 69 (h.vl 42 49).toNat (-1)).put 70 (h.vl 42 49).toNat 0).put 42 49 (h.vl 42 49 + 1)) := by
  refine cv_of cdX11_arrow ?_
  show EV _ _ 0 [rv 42, iv a, iv b] [] h _
  refine ev_aload_n dX11_arrow_0 rfl ?_
  refine ev_iconst dX11_arrow_1 ?_
  refine ev_iload_n dX11_arrow_2 rfl ?_
  refine ev_iload_n dX11_arrow_3 rfl ?_
  refine ev_cvi dX11_arrow_4 lX11_216 (s_part hI h0 h9) (by decide) hI.o hI.n rfl rfl rfl (by decide) rfl (fun r h1 q => ?_)
  obtain ⟨rfl, rfl⟩ := q
  exact ev_iret dX11_arrow_7 (⟨_, rfl, rfl, rfl⟩)
set_option maxRecDepth 100000 in
theorem s_thrown {h : AH} (hI : RI h) : CV mX11_thrown 1 [rv 42] h (oi fun r h1 => r = h.vl 42 0 ∧ h1 = h) := by
  refine cv_of cdX11_thrown ?_
  show EV _ _ 0 [rv 42] [] h _
  refine ev_aload_n dX11_thrown_0 rfl ?_
  refine ev_geti dX11_thrown_1 fX11_161 hI.o hI.n rfl ?_
  exact ev_iret dX11_thrown_4 (⟨_, rfl, rfl, rfl⟩)
set_option maxRecDepth 100000 in
theorem s_isSmall {c : Int} {h : AH} : CV mX11_isSmall 1 [iv c] h (oi fun r h1 => r = (if 97 ≤ c ∧ c ≤ 122 then 1 else 0) ∧ h1 = h) := by
  refine cv_of cdX11_isSmall ?_
  show EV _ _ 0 [iv c] [] h _
  refine ev_iload_n dX11_isSmall_0 rfl ?_
  refine ev_bipush dX11_isSmall_1 ?_
  refine ev_icmplt 16 dX11_isSmall_3 (fun hb0 => ?_) (fun hb0 => ?_)
  · refine ev_iconst dX11_isSmall_16 ?_
    exact ev_zret dX11_isSmall_17 (by (refine ⟨_, rfl, ?_, rfl⟩; (first | rw [if_pos (by omega)] | rw [if_neg (by omega)]))) (by omega)
  · refine ev_iload_n dX11_isSmall_6 rfl ?_
    refine ev_bipush dX11_isSmall_7 ?_
    refine ev_icmpgt 16 dX11_isSmall_9 (fun hb1 => ?_) (fun hb1 => ?_)
    · refine ev_iconst dX11_isSmall_16 ?_
      exact ev_zret dX11_isSmall_17 (by (refine ⟨_, rfl, ?_, rfl⟩; (first | rw [if_pos (by omega)] | rw [if_neg (by omega)]))) (by omega)
    · refine ev_iconst dX11_isSmall_12 ?_
      refine ev_gt 17 dX11_isSmall_13 ?_
      exact ev_zret dX11_isSmall_17 (by (refine ⟨_, rfl, ?_, rfl⟩; (first | rw [if_pos (by omega)] | rw [if_neg (by omega)]))) (by omega)
set_option maxRecDepth 100000 in
theorem s_isCapitalR {c : Int} {h : AH} : CV mX11_isCapital 1 [iv c] h (oi fun r h1 => r = (if 65 ≤ c ∧ c ≤ 72 then 1 else 0) ∧ h1 = h) := by
  refine cv_of cdX11_isCapital ?_
  show EV _ _ 0 [iv c] [] h _
  refine ev_iload_n dX11_isCapital_0 rfl ?_
  refine ev_bipush dX11_isCapital_1 ?_
  refine ev_icmplt 16 dX11_isCapital_3 (fun hb0 => ?_) (fun hb0 => ?_)
  · refine ev_iconst dX11_isCapital_16 ?_
    exact ev_zret dX11_isCapital_17 (by (refine ⟨_, rfl, ?_, rfl⟩; (first | rw [if_pos (by omega)] | rw [if_neg (by omega)]))) (by omega)
  · refine ev_iload_n dX11_isCapital_6 rfl ?_
    refine ev_bipush dX11_isCapital_7 ?_
    refine ev_icmpgt 16 dX11_isCapital_9 (fun hb1 => ?_) (fun hb1 => ?_)
    · refine ev_iconst dX11_isCapital_16 ?_
      exact ev_zret dX11_isCapital_17 (by (refine ⟨_, rfl, ?_, rfl⟩; (first | rw [if_pos (by omega)] | rw [if_neg (by omega)]))) (by omega)
    · refine ev_iconst dX11_isCapital_12 ?_
      refine ev_gt 17 dX11_isCapital_13 ?_
      exact ev_zret dX11_isCapital_17 (by (refine ⟨_, rfl, ?_, rfl⟩; (first | rw [if_pos (by omega)] | rw [if_neg (by omega)]))) (by omega)
set_option maxRecDepth 100000 in
theorem s_raw {a b c d e : Int} {h : AH} (hI : RI h) (h0 : 0 ≤ h.vl 42 35) (h9 : h.vl 42 35 < 130) : CV mX11_raw 1 [rv 42, iv a, iv b, iv c, iv d, iv e] h (oi fun r h1 => r = h.vl 42 35 ∧ h1 = (((((h.put 52 (h.vl 42 35).toNat a).put 53 (h.vl 42 35).toNat b).put 54 (h.vl 42 35).toNat c).put 55 (h.vl 42 35).toNat d).put 56 (h.vl 42 35).toNat e).put 42 35 (h.vl 42 35 + 1)) := by
  refine cv_of cdX11_raw ?_
  show EV _ _ 0 [rv 42, iv a, iv b, iv c, iv d, iv e] [] h _
  refine ev_aload_n dX11_raw_0 rfl ?_
  refine ev_getrv dX11_raw_1 fX11_41 hI.o hI.n rfl hI.v_rawKind ?_
  refine ev_aload_n dX11_raw_4 rfl ?_
  refine ev_geti dX11_raw_5 fX11_168 hI.o hI.n rfl ?_
  refine ev_iload_n dX11_raw_8 rfl ?_
  refine ev_istr dX11_raw_9 hI.k_rawKind hI.n_rawKind rfl (by omega) (by omega) ?_
  refine ev_aload_n dX11_raw_10 rfl ?_
  refine ev_getrv dX11_raw_11 fX11_44 hI.o hI.n rfl hI.v_rawSign ?_
  refine ev_aload_n dX11_raw_14 rfl ?_
  refine ev_getiv dX11_raw_15 fX11_168 hI.o hI.n rfl (show _ = h.vl 42 35 from rfl) ?_
  refine ev_iload_n dX11_raw_18 rfl ?_
  refine ev_istr dX11_raw_19 hI.k_rawSign hI.n_rawSign rfl (by omega) (by omega) ?_
  refine ev_aload_n dX11_raw_20 rfl ?_
  refine ev_getrv dX11_raw_21 fX11_47 hI.o hI.n rfl hI.v_rawFirst ?_
  refine ev_aload_n dX11_raw_24 rfl ?_
  refine ev_getiv dX11_raw_25 fX11_168 hI.o hI.n rfl (show _ = h.vl 42 35 from rfl) ?_
  refine ev_iload_n dX11_raw_28 rfl ?_
  refine ev_istr dX11_raw_29 hI.k_rawFirst hI.n_rawFirst rfl (by omega) (by omega) ?_
  refine ev_aload_n dX11_raw_30 rfl ?_
  refine ev_getrv dX11_raw_31 fX11_50 hI.o hI.n rfl hI.v_rawSecond ?_
  refine ev_aload_n dX11_raw_34 rfl ?_
  refine ev_getiv dX11_raw_35 fX11_168 hI.o hI.n rfl (show _ = h.vl 42 35 from rfl) ?_
  refine ev_iload dX11_raw_38 rfl ?_
  refine ev_istr dX11_raw_40 hI.k_rawSecond hI.n_rawSecond rfl (by omega) (by omega) ?_
  refine ev_aload_n dX11_raw_41 rfl ?_
  refine ev_getrv dX11_raw_42 fX11_53 hI.o hI.n rfl hI.v_rawAt ?_
  refine ev_aload_n dX11_raw_45 rfl ?_
  refine ev_getiv dX11_raw_46 fX11_168 hI.o hI.n rfl (show _ = h.vl 42 35 from rfl) ?_
  refine ev_iload dX11_raw_49 rfl ?_
  refine ev_istr dX11_raw_51 hI.k_rawAt hI.n_rawAt rfl (by omega) (by omega) ?_
  refine ev_aload_n dX11_raw_52 rfl ?_
  refine ev_dup dX11_raw_53 ?_
  refine ev_getiv dX11_raw_54 fX11_168 hI.o hI.n rfl (show _ = h.vl 42 35 from rfl) ?_
  refine ev_iconst dX11_raw_57 ?_
  refine ev_iadd dX11_raw_58 (by unfold ir; omega) ?_
  refine ev_pt dX11_raw_59 fX11_168 hI.o hI.n rfl ?_
  refine ev_aload_n dX11_raw_62 rfl ?_
  refine ev_getiv dX11_raw_63 fX11_168 hI.o hI.n rfl (show _ = (h.vl 42 35 + 1) from rfl) ?_
  refine ev_iconst dX11_raw_66 ?_
  refine ev_isub dX11_raw_67 (by unfold ir; omega) ?_
  exact ev_iret dX11_raw_68 (⟨_, rfl, by show (h.vl 42 35 + 1 - 1 : Int) = _; omega, rfl⟩)
set_option maxRecDepth 100000 in
theorem s_opens {a b c : Int} {h : AH} (hI : RI h) (h0 : -1 ≤ h.vl 42 34) (h9 : h.vl 42 34 < 63) : CV mX11_opens 1 [rv 42, iv a, iv b, iv c] h (on fun h1 => h1 = ((((h.put 42 34 (h.vl 42 34 + 1)).put 47 (h.vl 42 34 + 1).toNat a).put 48 (h.vl 42 34 + 1).toNat (-1)).put 49 (h.vl 42 34 + 1).toNat b).put 50 (h.vl 42 34 + 1).toNat c) := by
  refine cv_of cdX11_opens ?_
  show EV _ _ 0 [rv 42, iv a, iv b, iv c] [] h _
  refine ev_aload_n dX11_opens_0 rfl ?_
  refine ev_dup dX11_opens_1 ?_
  refine ev_geti dX11_opens_2 fX11_171 hI.o hI.n rfl ?_
  refine ev_iconst dX11_opens_5 ?_
  refine ev_iadd dX11_opens_6 (by unfold ir; omega) ?_
  refine ev_pt dX11_opens_7 fX11_171 hI.o hI.n rfl ?_
  refine ev_aload_n dX11_opens_10 rfl ?_
  refine ev_getrv dX11_opens_11 fX11_26 hI.o hI.n rfl hI.v_frame ?_
  refine ev_aload_n dX11_opens_14 rfl ?_
  refine ev_getiv dX11_opens_15 fX11_171 hI.o hI.n rfl (show _ = (h.vl 42 34 + 1) from rfl) ?_
  refine ev_iload_n dX11_opens_18 rfl ?_
  refine ev_istr dX11_opens_19 hI.k_frame hI.n_frame rfl (by omega) (by omega) ?_
  refine ev_aload_n dX11_opens_20 rfl ?_
  refine ev_getrv dX11_opens_21 fX11_29 hI.o hI.n rfl hI.v_done ?_
  refine ev_aload_n dX11_opens_24 rfl ?_
  refine ev_getiv dX11_opens_25 fX11_171 hI.o hI.n rfl (show _ = (h.vl 42 34 + 1) from rfl) ?_
  refine ev_iconst dX11_opens_28 ?_
  refine ev_istr dX11_opens_29 hI.k_done hI.n_done rfl (by omega) (by omega) ?_
  refine ev_aload_n dX11_opens_30 rfl ?_
  refine ev_getrv dX11_opens_31 fX11_32 hI.o hI.n rfl hI.v_letter ?_
  refine ev_aload_n dX11_opens_34 rfl ?_
  refine ev_getiv dX11_opens_35 fX11_171 hI.o hI.n rfl (show _ = (h.vl 42 34 + 1) from rfl) ?_
  refine ev_iload_n dX11_opens_38 rfl ?_
  refine ev_istr dX11_opens_39 hI.k_letter hI.n_letter rfl (by omega) (by omega) ?_
  refine ev_aload_n dX11_opens_40 rfl ?_
  refine ev_getrv dX11_opens_41 fX11_35 hI.o hI.n rfl hI.v_place ?_
  refine ev_aload_n dX11_opens_44 rfl ?_
  refine ev_getiv dX11_opens_45 fX11_171 hI.o hI.n rfl (show _ = (h.vl 42 34 + 1) from rfl) ?_
  refine ev_iload_n dX11_opens_48 rfl ?_
  refine ev_istr dX11_opens_49 hI.k_place hI.n_place rfl (by omega) (by omega) ?_
  exact ev_vret dX11_opens_50 (⟨rfl, rfl⟩)
set_option maxRecDepth 100000 in
theorem s_pairs {k a b c : Int} {h : AH} (hI : RI h) (h0 : 0 ≤ k) (h9 : k < 6000) : CV mX11_pairs 1 [rv 42, iv k, iv a, iv b, iv c] h (on fun h1 => h1 = ((h.put 75 k.toNat a).put 76 k.toNat b).put 77 k.toNat c) := by
  refine cv_of cdX11_pairs ?_
  show EV _ _ 0 [rv 42, iv k, iv a, iv b, iv c] [] h _
  refine ev_aload_n dX11_pairs_0 rfl ?_
  refine ev_getrv dX11_pairs_1 fX11_110 hI.o hI.n rfl hI.v_left ?_
  refine ev_iload_n dX11_pairs_4 rfl ?_
  refine ev_iload_n dX11_pairs_5 rfl ?_
  refine ev_istr dX11_pairs_6 hI.k_left hI.n_left rfl (by omega) (by omega) ?_
  refine ev_aload_n dX11_pairs_7 rfl ?_
  refine ev_getrv dX11_pairs_8 fX11_113 hI.o hI.n rfl hI.v_right ?_
  refine ev_iload_n dX11_pairs_11 rfl ?_
  refine ev_iload_n dX11_pairs_12 rfl ?_
  refine ev_istr dX11_pairs_13 hI.k_right hI.n_right rfl (by omega) (by omega) ?_
  refine ev_aload_n dX11_pairs_14 rfl ?_
  refine ev_getrv dX11_pairs_15 fX11_116 hI.o hI.n rfl hI.v_ends ?_
  refine ev_iload_n dX11_pairs_18 rfl ?_
  refine ev_iload dX11_pairs_19 rfl ?_
  refine ev_istr dX11_pairs_21 hI.k_ends hI.n_ends rfl (by omega) (by omega) ?_
  exact ev_vret dX11_pairs_22 (⟨rfl, rfl⟩)
set_option maxRecDepth 100000 in
theorem s_fails {a b c : Int} {h : AH} (hI : RI h) : CV mX11_fails 1 [rv 42, iv a, iv b, iv c] h (oi fun r h1 => r = a ∧ h1 = ((h.put 42 52 a).put 42 54 b).put 42 55 c) := by
  refine cv_of cdX11_fails ?_
  show EV _ _ 0 [rv 42, iv a, iv b, iv c] [] h _
  refine ev_aload_n dX11_fails_0 rfl ?_
  refine ev_iload_n dX11_fails_1 rfl ?_
  refine ev_pt dX11_fails_2 fX11_242 hI.o hI.n rfl ?_
  refine ev_aload_n dX11_fails_5 rfl ?_
  refine ev_iload_n dX11_fails_6 rfl ?_
  refine ev_pt dX11_fails_7 fX11_245 hI.o hI.n rfl ?_
  refine ev_aload_n dX11_fails_10 rfl ?_
  refine ev_iload_n dX11_fails_11 rfl ?_
  refine ev_pt dX11_fails_12 fX11_248 hI.o hI.n rfl ?_
  refine ev_iload_n dX11_fails_15 rfl ?_
  exact ev_iret dX11_fails_16 (⟨_, rfl, rfl, rfl⟩)
set_option maxRecDepth 100000 in
theorem s_failsAt {a b : Int} {h : AH} (hI : RI h) : CV mX11_failsAt 2 [rv 42, iv a, iv b] h (on fun h1 => h1 = (((h.put 42 52 a).put 42 54 (-1)).put 42 55 (-1)).put 42 53 b) := by
  refine cv_of cdX11_failsAt ?_
  show EV _ _ 0 [rv 42, iv a, iv b, uv] [] h _
  refine ev_aload_n dX11_failsAt_0 rfl ?_
  refine ev_iload_n dX11_failsAt_1 rfl ?_
  refine ev_iconst dX11_failsAt_2 ?_
  refine ev_iconst dX11_failsAt_3 ?_
  refine ev_cvi dX11_failsAt_4 lX11_259 (s_fails hI) (by decide) hI.o hI.n rfl rfl rfl (by decide) rfl (fun r h1 q => ?_)
  obtain ⟨rfl, rfl⟩ := q
  refine ev_ist3 dX11_failsAt_7 ?_
  refine ev_aload_n dX11_failsAt_8 rfl ?_
  refine ev_iload_n dX11_failsAt_9 rfl ?_
  refine ev_pt dX11_failsAt_10 fX11_275 hI.o hI.n rfl ?_
  exact ev_vret dX11_failsAt_13 (⟨rfl, rfl⟩)
set_option maxRecDepth 100000 in
theorem s_goes {a b : Int} {h : AH} (hI : RI h) (h0 : 0 ≤ h.vl 42 68) (h9 : h.vl 42 68 < 400) : CV mX11_goes 1 [rv 42, iv a, iv b] h (on fun h1 => h1 = ((h.put 86 (h.vl 42 68).toNat a).put 87 (h.vl 42 68).toNat b).put 42 68 (h.vl 42 68 + 1)) := by
  refine cv_of cdX11_goes ?_
  show EV _ _ 0 [rv 42, iv a, iv b] [] h _
  refine ev_aload_n dX11_goes_0 rfl ?_
  refine ev_getrv dX11_goes_1 fX11_143 hI.o hI.n rfl hI.v_walk ?_
  refine ev_aload_n dX11_goes_4 rfl ?_
  refine ev_geti dX11_goes_5 fX11_268 hI.o hI.n rfl ?_
  refine ev_iload_n dX11_goes_8 rfl ?_
  refine ev_istr dX11_goes_9 hI.k_walk hI.n_walk rfl (by omega) (by omega) ?_
  refine ev_aload_n dX11_goes_10 rfl ?_
  refine ev_getrv dX11_goes_11 fX11_146 hI.o hI.n rfl hI.v_phase ?_
  refine ev_aload_n dX11_goes_14 rfl ?_
  refine ev_getiv dX11_goes_15 fX11_268 hI.o hI.n rfl (show _ = h.vl 42 68 from rfl) ?_
  refine ev_iload_n dX11_goes_18 rfl ?_
  refine ev_istr dX11_goes_19 hI.k_phase hI.n_phase rfl (by omega) (by omega) ?_
  refine ev_aload_n dX11_goes_20 rfl ?_
  refine ev_dup dX11_goes_21 ?_
  refine ev_getiv dX11_goes_22 fX11_268 hI.o hI.n rfl (show _ = h.vl 42 68 from rfl) ?_
  refine ev_iconst dX11_goes_25 ?_
  refine ev_iadd dX11_goes_26 (by unfold ir; omega) ?_
  refine ev_pt dX11_goes_27 fX11_268 hI.o hI.n rfl ?_
  exact ev_vret dX11_goes_30 (⟨rfl, rfl⟩)
set_option maxRecDepth 100000 in
theorem s_refuses {a b : Int} {h : AH} (hI : RI h) : CV mX11_refuses 1 [rv 42, iv a, iv b] h (oi fun r h1 => r = 0 ∧ h1 = ((h.put 42 69 1).put 42 7 a).put 42 8 b) := by
  refine cv_of cdX11_refuses ?_
  show EV _ _ 0 [rv 42, iv a, iv b] [] h _
  refine ev_aload_n dX11_refuses_0 rfl ?_
  refine ev_iconst dX11_refuses_1 ?_
  refine ev_pt dX11_refuses_2 fX11_321 hI.o hI.n rfl ?_
  refine ev_aload_n dX11_refuses_5 rfl ?_
  refine ev_iload_n dX11_refuses_6 rfl ?_
  refine ev_pt dX11_refuses_7 fX11_325 hI.o hI.n rfl ?_
  refine ev_aload_n dX11_refuses_10 rfl ?_
  refine ev_iload_n dX11_refuses_11 rfl ?_
  refine ev_pt dX11_refuses_12 fX11_328 hI.o hI.n rfl ?_
  refine ev_iconst dX11_refuses_15 ?_
  exact ev_iret dX11_refuses_16 (⟨_, rfl, rfl, rfl⟩)
set_option maxRecDepth 100000 in
theorem s_writes {c : Int} {h : AH} (hI : RI h) (h0 : 0 ≤ h.vl 42 80) (h9 : h.vl 42 80 < 900) : CV mX11_writes 1 [rv 42, iv c] h (on fun h1 => h1 = (h.put 90 (h.vl 42 80).toNat c).put 42 80 (h.vl 42 80 + 1)) := by
  refine cv_of cdX11_writes ?_
  show EV _ _ 0 [rv 42, iv c] [] h _
  refine ev_aload_n dX11_writes_0 rfl ?_
  refine ev_getrv dX11_writes_1 fX11_155 hI.o hI.n rfl hI.v_line ?_
  refine ev_aload_n dX11_writes_4 rfl ?_
  refine ev_geti dX11_writes_5 fX11_440 hI.o hI.n rfl ?_
  refine ev_iload_n dX11_writes_8 rfl ?_
  refine ev_istr dX11_writes_9 hI.k_line hI.n_line rfl (by omega) (by omega) ?_
  refine ev_aload_n dX11_writes_10 rfl ?_
  refine ev_dup dX11_writes_11 ?_
  refine ev_getiv dX11_writes_12 fX11_440 hI.o hI.n rfl (show _ = h.vl 42 80 from rfl) ?_
  refine ev_iconst dX11_writes_15 ?_
  refine ev_iadd dX11_writes_16 (by unfold ir; omega) ?_
  refine ev_pt dX11_writes_17 fX11_440 hI.o hI.n rfl ?_
  exact ev_vret dX11_writes_20 (⟨rfl, rfl⟩)
set_option maxRecDepth 100000 in
theorem s_later {c : Int} {h : AH} (hI : RI h) (h0 : 0 ≤ h.vl 42 81) (h9 : h.vl 42 81 < 900) : CV mX11_later 1 [rv 42, iv c] h (on fun h1 => h1 = (h.put 91 (h.vl 42 81).toNat c).put 42 81 (h.vl 42 81 + 1)) := by
  refine cv_of cdX11_later ?_
  show EV _ _ 0 [rv 42, iv c] [] h _
  refine ev_aload_n dX11_later_0 rfl ?_
  refine ev_getrv dX11_later_1 fX11_158 hI.o hI.n rfl hI.v_acts ?_
  refine ev_aload_n dX11_later_4 rfl ?_
  refine ev_geti dX11_later_5 fX11_443 hI.o hI.n rfl ?_
  refine ev_iload_n dX11_later_8 rfl ?_
  refine ev_istr dX11_later_9 hI.k_acts hI.n_acts rfl (by omega) (by omega) ?_
  refine ev_aload_n dX11_later_10 rfl ?_
  refine ev_dup dX11_later_11 ?_
  refine ev_getiv dX11_later_12 fX11_443 hI.o hI.n rfl (show _ = h.vl 42 81 from rfl) ?_
  refine ev_iconst dX11_later_15 ?_
  refine ev_iadd dX11_later_16 (by unfold ir; omega) ?_
  refine ev_pt dX11_later_17 fX11_443 hI.o hI.n rfl ?_
  exact ev_vret dX11_later_20 (⟨rfl, rfl⟩)
