/-! the law's wrappers: what the class throws becomes a number, what it answers is laid out -/
theorem hc_L_lesson_1 : HC mL_lesson 3 0 1 := ⟨[], ⟨0, 8, 11, 13⟩, [⟨0, 8, 14, 15⟩], 2, 1, ⟨by decide, rfl, fun z hz => nomatch hz⟩, ⟨rfl, by decide, q_cl0, q_cast0⟩, Or.inr ⟨rfl, 2, rfl, dL_lesson_11⟩, by decide, dL_lesson_12, dL_lesson_13, by unfold ir; decide⟩
theorem hc_L_lesson_2 : HC mL_lesson 3 1 2 := ⟨[⟨0, 8, 11, 13⟩], ⟨0, 8, 14, 15⟩, [], 2, 1, ⟨by decide, rfl, fun z hz => by
      simp only [List.mem_cons, List.not_mem_nil, or_false] at hz
      rcases hz with rfl
      · exact Or.inr ⟨by decide, 0, by decide, by decide, q_cl0⟩⟩, ⟨rfl, by decide, q_cl1, q_cast1⟩, Or.inr ⟨rfl, 2, rfl, dL_lesson_14⟩, by decide, dL_lesson_15, dL_lesson_16, by unfold ir; decide⟩
set_option maxRecDepth 100000 in
theorem w_lesson {h : AH} {Q1 : AV → AH → Prop} {P : Int → AH → Prop} {d1 : Nat} (hd1 : d1 < 19) (hC : CV mX10_lesson d1 [rv 0] h Q1) (k0 : h.kd 0 = (10, 13)) (n0 : 0 < h.n) (hq : ∀ o h1, Q1 o h1 → (h1.kd 92 = (102, 1) ∧ 92 < h1.n) ∧ ((∃ x, o = iv x ∧ P 0 (h1.put 92 0 x)) ∨ (o = xv 0 ∧ P 1 h1) ∨ (o = xv 1 ∧ P 2 h1))) : CVH mL_lesson 19 [rv 0, rv 92] h (oi P) := by
  refine cv_ofH cdL_lesson ?_
  show EV _ _ 0 [rv 0, rv 92, uv] [] h _
  refine ev_aload_n dL_lesson_0 rfl ?_
  refine ev_iconst dL_lesson_1 ?_
  refine ev_aload_n dL_lesson_2 rfl ?_
  refine ev_callvh dL_lesson_3 lL_7 q_733 hC (Nat.lt_of_lt_of_le hd1 (by decide)) (by decide) (by omega) k0 rfl rfl (Nat.le_of_ble_eq_true rfl) (fun o h1 q => ?_)
  obtain ⟨⟨ko, no⟩, hh⟩ := hq o h1 q
  refine ⟨fun e7 => ?_, fun e7 => ?_⟩
  · rcases hh with hn | ⟨rfl, hp⟩ | ⟨rfl, hp⟩
    · obtain ⟨x, rfl, -⟩ := hn
      exact absurd (show (0 : Nat) = 7 from e7) (by decide)
    · exact Or.inr ⟨rfl, 0, 1, rfl, hc_L_lesson_1, 1, rfl, hp⟩
    · exact Or.inr ⟨rfl, 1, 2, rfl, hc_L_lesson_2, 2, rfl, hp⟩
  · rcases hh with hn | ⟨rfl, -⟩ | ⟨rfl, -⟩
    · obtain ⟨x, rfl, hn⟩ := hn
      show EV _ _ _ _ (iv x :: _) _ _
      refine ev_i2l dL_lesson_6 ?_
      refine ev_last dL_lesson_7 ko no rfl (by decide) (by decide) ?_
      refine ev_gt 17 dL_lesson_8 ?_
      refine ev_iconst dL_lesson_17 ?_
      exact ev_iret dL_lesson_18 (⟨_, rfl, hn⟩)
    · exact absurd rfl e7
    · exact absurd rfl e7
theorem hc_L_drop_1 : HC mL_drop 4 1 1 := ⟨[], ⟨0, 9, 12, 15⟩, [], 3, 1, ⟨by decide, rfl, fun z hz => nomatch hz⟩, ⟨rfl, by decide, q_cl1, q_cast1⟩, Or.inr ⟨rfl, 3, rfl, dL_drop_12⟩, by decide, dL_drop_13, dL_drop_14, by unfold ir; decide⟩
set_option maxRecDepth 100000 in
theorem w_drop {p : Int} {h : AH} {Q1 : AV → AH → Prop} {P : Int → AH → Prop} {d1 : Nat} (hd1 : d1 < 19) (hC : CV mX10_drop d1 [rv 0, iv p] h Q1) (k0 : h.kd 0 = (10, 13)) (n0 : 0 < h.n) (hq : ∀ o h1, Q1 o h1 → (h1.kd 92 = (102, 1) ∧ 92 < h1.n) ∧ ((∃ x, o = iv x ∧ P 0 (h1.put 92 0 x)) ∨ (o = xv 1 ∧ P 1 h1))) : CVH mL_drop 19 [rv 0, iv p, rv 92] h (oi P) := by
  refine cv_ofH cdL_drop ?_
  show EV _ _ 0 [rv 0, iv p, rv 92, uv] [] h _
  refine ev_aload_n dL_drop_0 rfl ?_
  refine ev_iconst dL_drop_1 ?_
  refine ev_aload_n dL_drop_2 rfl ?_
  refine ev_iload_n dL_drop_3 rfl ?_
  refine ev_callvh dL_drop_4 lL_17 q_1238 hC (Nat.lt_of_lt_of_le hd1 (by decide)) (by decide) (by omega) k0 rfl rfl (Nat.le_of_ble_eq_true rfl) (fun o h1 q => ?_)
  obtain ⟨⟨ko, no⟩, hh⟩ := hq o h1 q
  refine ⟨fun e7 => ?_, fun e7 => ?_⟩
  · rcases hh with hn | ⟨rfl, hp⟩
    · obtain ⟨x, rfl, -⟩ := hn
      exact absurd (show (0 : Nat) = 7 from e7) (by decide)
    · exact Or.inr ⟨rfl, 1, 1, rfl, hc_L_drop_1, 1, rfl, hp⟩
  · rcases hh with hn | ⟨rfl, -⟩
    · obtain ⟨x, rfl, hn⟩ := hn
      show EV _ _ _ _ (iv x :: _) _ _
      refine ev_i2l dL_drop_7 ?_
      refine ev_last dL_drop_8 ko no rfl (by decide) (by decide) ?_
      refine ev_gt 15 dL_drop_9 ?_
      refine ev_iconst dL_drop_15 ?_
      exact ev_iret dL_drop_16 (⟨_, rfl, hn⟩)
    · exact absurd rfl e7
theorem hc_L_keep_1 : HC mL_keep 5 1 1 := ⟨[], ⟨0, 10, 13, 15⟩, [], 4, 2, ⟨by decide, rfl, fun z hz => nomatch hz⟩, ⟨rfl, by decide, q_cl1, q_cast1⟩, Or.inl ⟨rfl, dL_keep_13⟩, by decide, dL_keep_15, dL_keep_16, by unfold ir; decide⟩
set_option maxRecDepth 100000 in
theorem w_keep {p q : Int} {h : AH} {Q1 : AV → AH → Prop} {P : Int → AH → Prop} {d1 : Nat} (hd1 : d1 < 19) (hC : CV mX10_keep d1 [rv 0, iv p, iv q] h Q1) (k0 : h.kd 0 = (10, 13)) (n0 : 0 < h.n) (hq : ∀ o h1, Q1 o h1 → (h1.kd 92 = (102, 1) ∧ 92 < h1.n) ∧ ((∃ x, o = iv x ∧ P 0 (h1.put 92 0 x)) ∨ (o = xv 1 ∧ P 1 h1))) : CVH mL_keep 19 [rv 0, iv p, iv q, rv 92] h (oi P) := by
  refine cv_ofH cdL_keep ?_
  show EV _ _ 0 [rv 0, iv p, iv q, rv 92, uv] [] h _
  refine ev_aload_n dL_keep_0 rfl ?_
  refine ev_iconst dL_keep_1 ?_
  refine ev_aload_n dL_keep_2 rfl ?_
  refine ev_iload_n dL_keep_3 rfl ?_
  refine ev_iload_n dL_keep_4 rfl ?_
  refine ev_callvh dL_keep_5 lL_21 q_1255 hC (Nat.lt_of_lt_of_le hd1 (by decide)) (by decide) (by omega) k0 rfl rfl (Nat.le_of_ble_eq_true rfl) (fun o h1 q => ?_)
  obtain ⟨⟨ko, no⟩, hh⟩ := hq o h1 q
  refine ⟨fun e7 => ?_, fun e7 => ?_⟩
  · rcases hh with hn | ⟨rfl, hp⟩
    · obtain ⟨x, rfl, -⟩ := hn
      exact absurd (show (0 : Nat) = 7 from e7) (by decide)
    · exact Or.inr ⟨rfl, 1, 1, rfl, hc_L_keep_1, 1, rfl, hp⟩
  · rcases hh with hn | ⟨rfl, -⟩
    · obtain ⟨x, rfl, hn⟩ := hn
      show EV _ _ _ _ (iv x :: _) _ _
      refine ev_i2l dL_keep_8 ?_
      refine ev_last dL_keep_9 ko no rfl (by decide) (by decide) ?_
      refine ev_gt 17 dL_keep_10 ?_
      refine ev_iconst dL_keep_17 ?_
      exact ev_iret dL_keep_18 (⟨_, rfl, hn⟩)
    · exact absurd rfl e7
theorem hc_L_unkeep_1 : HC mL_unkeep 4 1 1 := ⟨[], ⟨0, 9, 12, 15⟩, [], 3, 1, ⟨by decide, rfl, fun z hz => nomatch hz⟩, ⟨rfl, by decide, q_cl1, q_cast1⟩, Or.inr ⟨rfl, 3, rfl, dL_unkeep_12⟩, by decide, dL_unkeep_13, dL_unkeep_14, by unfold ir; decide⟩
set_option maxRecDepth 100000 in
theorem w_unkeep {p : Int} {h : AH} {Q1 : AV → AH → Prop} {P : Int → AH → Prop} {d1 : Nat} (hd1 : d1 < 19) (hC : CV mX10_unkeep d1 [rv 0, iv p] h Q1) (k0 : h.kd 0 = (10, 13)) (n0 : 0 < h.n) (hq : ∀ o h1, Q1 o h1 → (h1.kd 92 = (102, 1) ∧ 92 < h1.n) ∧ ((∃ x, o = iv x ∧ P 0 (h1.put 92 0 x)) ∨ (o = xv 1 ∧ P 1 h1))) : CVH mL_unkeep 19 [rv 0, iv p, rv 92] h (oi P) := by
  refine cv_ofH cdL_unkeep ?_
  show EV _ _ 0 [rv 0, iv p, rv 92, uv] [] h _
  refine ev_aload_n dL_unkeep_0 rfl ?_
  refine ev_iconst dL_unkeep_1 ?_
  refine ev_aload_n dL_unkeep_2 rfl ?_
  refine ev_iload_n dL_unkeep_3 rfl ?_
  refine ev_callvh dL_unkeep_4 lL_25 q_1302 hC (Nat.lt_of_lt_of_le hd1 (by decide)) (by decide) (by omega) k0 rfl rfl (Nat.le_of_ble_eq_true rfl) (fun o h1 q => ?_)
  obtain ⟨⟨ko, no⟩, hh⟩ := hq o h1 q
  refine ⟨fun e7 => ?_, fun e7 => ?_⟩
  · rcases hh with hn | ⟨rfl, hp⟩
    · obtain ⟨x, rfl, -⟩ := hn
      exact absurd (show (0 : Nat) = 7 from e7) (by decide)
    · exact Or.inr ⟨rfl, 1, 1, rfl, hc_L_unkeep_1, 1, rfl, hp⟩
  · rcases hh with hn | ⟨rfl, -⟩
    · obtain ⟨x, rfl, hn⟩ := hn
      show EV _ _ _ _ (iv x :: _) _ _
      refine ev_i2l dL_unkeep_7 ?_
      refine ev_last dL_unkeep_8 ko no rfl (by decide) (by decide) ?_
      refine ev_gt 15 dL_unkeep_9 ?_
      refine ev_iconst dL_unkeep_15 ?_
      exact ev_iret dL_unkeep_16 (⟨_, rfl, hn⟩)
    · exact absurd rfl e7
theorem hc_L_nodes_1 : HC mL_nodes 4 2 1 := ⟨[], ⟨0, 9, 12, 31⟩, [], 3, 1, ⟨by decide, rfl, fun z hz => nomatch hz⟩, ⟨rfl, by decide, q_cl2, q_cast2⟩, Or.inr ⟨rfl, 3, rfl, dL_nodes_12⟩, by decide, dL_nodes_13, dL_nodes_14, by unfold ir; decide⟩
set_option maxRecDepth 100000 in
theorem w_nodes {p : Int} {h : AH} {Q1 : AV → AH → Prop} {P : Int → AH → Prop} {d1 : Nat} (hd1 : d1 < 19) (hC : CV mX10_nodes d1 [rv 0, iv p] h Q1) (k0 : h.kd 0 = (10, 13)) (n0 : 0 < h.n) (hq : ∀ o h1, Q1 o h1 → (h1.kd 92 = (102, 1) ∧ 92 < h1.n) ∧ ((∃ x, o = iv x ∧ P 0 (h1.put 92 0 x)) ∨ (o = xv 2 ∧ P 1 h1))) : CVH mL_nodes 19 [rv 0, iv p, rv 92] h (oi P) := by
  refine cv_ofH cdL_nodes ?_
  show EV _ _ 0 [rv 0, iv p, rv 92, uv] [] h _
  refine ev_aload_n dL_nodes_0 rfl ?_
  refine ev_iconst dL_nodes_1 ?_
  refine ev_aload_n dL_nodes_2 rfl ?_
  refine ev_iload_n dL_nodes_3 rfl ?_
  refine ev_callvh dL_nodes_4 lL_28 q_1322 hC (Nat.lt_of_lt_of_le hd1 (by decide)) (by decide) (by omega) k0 rfl rfl (Nat.le_of_ble_eq_true rfl) (fun o h1 q => ?_)
  obtain ⟨⟨ko, no⟩, hh⟩ := hq o h1 q
  refine ⟨fun e7 => ?_, fun e7 => ?_⟩
  · rcases hh with hn | ⟨rfl, hp⟩
    · obtain ⟨x, rfl, -⟩ := hn
      exact absurd (show (0 : Nat) = 7 from e7) (by decide)
    · exact Or.inr ⟨rfl, 2, 1, rfl, hc_L_nodes_1, 1, rfl, hp⟩
  · rcases hh with hn | ⟨rfl, -⟩
    · obtain ⟨x, rfl, hn⟩ := hn
      show EV _ _ _ _ (iv x :: _) _ _
      refine ev_i2l dL_nodes_7 ?_
      refine ev_last dL_nodes_8 ko no rfl (by decide) (by decide) ?_
      refine ev_gt 15 dL_nodes_9 ?_
      refine ev_iconst dL_nodes_15 ?_
      exact ev_iret dL_nodes_16 (⟨_, rfl, hn⟩)
    · exact absurd rfl e7
theorem hc_L_nodeOf_1 : HC mL_nodeOf 7 2 1 := ⟨[], ⟨0, 12, 15, 31⟩, [⟨0, 12, 19, 13⟩], 5, 2, ⟨by decide, rfl, fun z hz => nomatch hz⟩, ⟨rfl, by decide, q_cl2, q_cast2⟩, Or.inl ⟨rfl, dL_nodeOf_15⟩, by decide, dL_nodeOf_17, dL_nodeOf_18, by unfold ir; decide⟩
theorem hc_L_nodeOf_2 : HC mL_nodeOf 7 0 2 := ⟨[⟨0, 12, 15, 31⟩], ⟨0, 12, 19, 13⟩, [], 5, 2, ⟨by decide, rfl, fun z hz => by
      simp only [List.mem_cons, List.not_mem_nil, or_false] at hz
      rcases hz with rfl
      · exact Or.inr ⟨by decide, 2, by decide, by decide, q_cl2⟩⟩, ⟨rfl, by decide, q_cl0, q_cast0⟩, Or.inl ⟨rfl, dL_nodeOf_19⟩, by decide, dL_nodeOf_21, dL_nodeOf_22, by unfold ir; decide⟩
set_option maxRecDepth 100000 in
theorem w_nodeOf {p q r : Int} {h : AH} {Q1 : AV → AH → Prop} {P : Int → AH → Prop} {d1 : Nat} (hd1 : d1 < 19) (hC : CV mX10_nodeOf d1 [rv 0, iv p, iv q, iv r] h Q1) (k0 : h.kd 0 = (10, 13)) (n0 : 0 < h.n) (hq : ∀ o h1, Q1 o h1 → (h1.kd 92 = (102, 1) ∧ 92 < h1.n) ∧ ((∃ x, o = iv x ∧ P 0 (h1.put 92 0 x)) ∨ (o = xv 2 ∧ P 1 h1) ∨ (o = xv 0 ∧ P 2 h1))) : CVH mL_nodeOf 19 [rv 0, iv p, iv q, iv r, rv 92] h (oi P) := by
  refine cv_ofH cdL_nodeOf ?_
  show EV _ _ 0 [rv 0, iv p, iv q, iv r, rv 92, uv] [] h _
  refine ev_aload dL_nodeOf_0 rfl ?_
  refine ev_iconst dL_nodeOf_2 ?_
  refine ev_aload_n dL_nodeOf_3 rfl ?_
  refine ev_iload_n dL_nodeOf_4 rfl ?_
  refine ev_iload_n dL_nodeOf_5 rfl ?_
  refine ev_iload_n dL_nodeOf_6 rfl ?_
  refine ev_callvh dL_nodeOf_7 lL_33 q_1346 hC (Nat.lt_of_lt_of_le hd1 (by decide)) (by decide) (by omega) k0 rfl rfl (Nat.le_of_ble_eq_true rfl) (fun o h1 q => ?_)
  obtain ⟨⟨ko, no⟩, hh⟩ := hq o h1 q
  refine ⟨fun e7 => ?_, fun e7 => ?_⟩
  · rcases hh with hn | ⟨rfl, hp⟩ | ⟨rfl, hp⟩
    · obtain ⟨x, rfl, -⟩ := hn
      exact absurd (show (0 : Nat) = 7 from e7) (by decide)
    · exact Or.inr ⟨rfl, 2, 1, rfl, hc_L_nodeOf_1, 1, rfl, hp⟩
    · exact Or.inr ⟨rfl, 0, 2, rfl, hc_L_nodeOf_2, 2, rfl, hp⟩
  · rcases hh with hn | ⟨rfl, -⟩ | ⟨rfl, -⟩
    · obtain ⟨x, rfl, hn⟩ := hn
      show EV _ _ _ _ (iv x :: _) _ _
      refine ev_i2l dL_nodeOf_10 ?_
      refine ev_last dL_nodeOf_11 ko no rfl (by decide) (by decide) ?_
      refine ev_gt 23 dL_nodeOf_12 ?_
      refine ev_iconst dL_nodeOf_23 ?_
      exact ev_iret dL_nodeOf_24 (⟨_, rfl, hn⟩)
    · exact absurd rfl e7
    · exact absurd rfl e7
theorem hc_L_signOf_1 : HC mL_signOf 5 2 1 := ⟨[], ⟨0, 10, 13, 31⟩, [⟨0, 10, 17, 41⟩], 4, 2, ⟨by decide, rfl, fun z hz => nomatch hz⟩, ⟨rfl, by decide, q_cl2, q_cast2⟩, Or.inl ⟨rfl, dL_signOf_13⟩, by decide, dL_signOf_15, dL_signOf_16, by unfold ir; decide⟩
theorem hc_L_signOf_2 : HC mL_signOf 5 3 2 := ⟨[⟨0, 10, 13, 31⟩], ⟨0, 10, 17, 41⟩, [], 4, 2, ⟨by decide, rfl, fun z hz => by
      simp only [List.mem_cons, List.not_mem_nil, or_false] at hz
      rcases hz with rfl
      · exact Or.inr ⟨by decide, 2, by decide, by decide, q_cl2⟩⟩, ⟨rfl, by decide, q_cl3, q_cast3⟩, Or.inl ⟨rfl, dL_signOf_17⟩, by decide, dL_signOf_19, dL_signOf_20, by unfold ir; decide⟩
set_option maxRecDepth 100000 in
theorem w_signOf {p q : Int} {h : AH} {Q1 : AV → AH → Prop} {P : Int → AH → Prop} {d1 : Nat} (hd1 : d1 < 19) (hC : CV mX10_signOf d1 [rv 0, iv p, iv q] h Q1) (k0 : h.kd 0 = (10, 13)) (n0 : 0 < h.n) (hq : ∀ o h1, Q1 o h1 → (h1.kd 92 = (102, 1) ∧ 92 < h1.n) ∧ ((∃ x, o = iv x ∧ P 0 (h1.put 92 0 x)) ∨ (o = xv 2 ∧ P 1 h1) ∨ (o = xv 3 ∧ P 2 h1))) : CVH mL_signOf 19 [rv 0, iv p, iv q, rv 92] h (oi P) := by
  refine cv_ofH cdL_signOf ?_
  show EV _ _ 0 [rv 0, iv p, iv q, rv 92, uv] [] h _
  refine ev_aload_n dL_signOf_0 rfl ?_
  refine ev_iconst dL_signOf_1 ?_
  refine ev_aload_n dL_signOf_2 rfl ?_
  refine ev_iload_n dL_signOf_3 rfl ?_
  refine ev_iload_n dL_signOf_4 rfl ?_
  refine ev_callvh dL_signOf_5 lL_37 q_1362 hC (Nat.lt_of_lt_of_le hd1 (by decide)) (by decide) (by omega) k0 rfl rfl (Nat.le_of_ble_eq_true rfl) (fun o h1 q => ?_)
  obtain ⟨⟨ko, no⟩, hh⟩ := hq o h1 q
  refine ⟨fun e7 => ?_, fun e7 => ?_⟩
  · rcases hh with hn | ⟨rfl, hp⟩ | ⟨rfl, hp⟩
    · obtain ⟨x, rfl, -⟩ := hn
      exact absurd (show (0 : Nat) = 7 from e7) (by decide)
    · exact Or.inr ⟨rfl, 2, 1, rfl, hc_L_signOf_1, 1, rfl, hp⟩
    · exact Or.inr ⟨rfl, 3, 2, rfl, hc_L_signOf_2, 2, rfl, hp⟩
  · rcases hh with hn | ⟨rfl, -⟩ | ⟨rfl, -⟩
    · obtain ⟨x, rfl, hn⟩ := hn
      show EV _ _ _ _ (iv x :: _) _ _
      refine ev_i2l dL_signOf_8 ?_
      refine ev_last dL_signOf_9 ko no rfl (by decide) (by decide) ?_
      refine ev_gt 21 dL_signOf_10 ?_
      refine ev_iconst dL_signOf_21 ?_
      exact ev_iret dL_signOf_22 (⟨_, rfl, hn⟩)
    · exact absurd rfl e7
    · exact absurd rfl e7
theorem hc_L_binder_1 : HC mL_binder 5 2 1 := ⟨[], ⟨0, 10, 13, 31⟩, [⟨0, 10, 17, 41⟩], 4, 2, ⟨by decide, rfl, fun z hz => nomatch hz⟩, ⟨rfl, by decide, q_cl2, q_cast2⟩, Or.inl ⟨rfl, dL_binder_13⟩, by decide, dL_binder_15, dL_binder_16, by unfold ir; decide⟩
theorem hc_L_binder_2 : HC mL_binder 5 3 2 := ⟨[⟨0, 10, 13, 31⟩], ⟨0, 10, 17, 41⟩, [], 4, 2, ⟨by decide, rfl, fun z hz => by
      simp only [List.mem_cons, List.not_mem_nil, or_false] at hz
      rcases hz with rfl
      · exact Or.inr ⟨by decide, 2, by decide, by decide, q_cl2⟩⟩, ⟨rfl, by decide, q_cl3, q_cast3⟩, Or.inl ⟨rfl, dL_binder_17⟩, by decide, dL_binder_19, dL_binder_20, by unfold ir; decide⟩
set_option maxRecDepth 100000 in
theorem w_binder {p q : Int} {h : AH} {Q1 : AV → AH → Prop} {P : Int → AH → Prop} {d1 : Nat} (hd1 : d1 < 19) (hC : CV mX10_binder d1 [rv 0, iv p, iv q] h Q1) (k0 : h.kd 0 = (10, 13)) (n0 : 0 < h.n) (hq : ∀ o h1, Q1 o h1 → (h1.kd 92 = (102, 1) ∧ 92 < h1.n) ∧ ((∃ x, o = iv x ∧ P 0 (h1.put 92 0 x)) ∨ (o = xv 2 ∧ P 1 h1) ∨ (o = xv 3 ∧ P 2 h1))) : CVH mL_binder 19 [rv 0, iv p, iv q, rv 92] h (oi P) := by
  refine cv_ofH cdL_binder ?_
  show EV _ _ 0 [rv 0, iv p, iv q, rv 92, uv] [] h _
  refine ev_aload_n dL_binder_0 rfl ?_
  refine ev_iconst dL_binder_1 ?_
  refine ev_aload_n dL_binder_2 rfl ?_
  refine ev_iload_n dL_binder_3 rfl ?_
  refine ev_iload_n dL_binder_4 rfl ?_
  refine ev_callvh dL_binder_5 lL_43 q_1385 hC (Nat.lt_of_lt_of_le hd1 (by decide)) (by decide) (by omega) k0 rfl rfl (Nat.le_of_ble_eq_true rfl) (fun o h1 q => ?_)
  obtain ⟨⟨ko, no⟩, hh⟩ := hq o h1 q
  refine ⟨fun e7 => ?_, fun e7 => ?_⟩
  · rcases hh with hn | ⟨rfl, hp⟩ | ⟨rfl, hp⟩
    · obtain ⟨x, rfl, -⟩ := hn
      exact absurd (show (0 : Nat) = 7 from e7) (by decide)
    · exact Or.inr ⟨rfl, 2, 1, rfl, hc_L_binder_1, 1, rfl, hp⟩
    · exact Or.inr ⟨rfl, 3, 2, rfl, hc_L_binder_2, 2, rfl, hp⟩
  · rcases hh with hn | ⟨rfl, -⟩ | ⟨rfl, -⟩
    · obtain ⟨x, rfl, hn⟩ := hn
      show EV _ _ _ _ (iv x :: _) _ _
      refine ev_i2l dL_binder_8 ?_
      refine ev_last dL_binder_9 ko no rfl (by decide) (by decide) ?_
      refine ev_gt 21 dL_binder_10 ?_
      refine ev_iconst dL_binder_21 ?_
      exact ev_iret dL_binder_22 (⟨_, rfl, hn⟩)
    · exact absurd rfl e7
    · exact absurd rfl e7
theorem hc_L_uses_1 : HC mL_uses 5 2 1 := ⟨[], ⟨0, 10, 13, 31⟩, [⟨0, 10, 17, 13⟩], 4, 2, ⟨by decide, rfl, fun z hz => nomatch hz⟩, ⟨rfl, by decide, q_cl2, q_cast2⟩, Or.inl ⟨rfl, dL_uses_13⟩, by decide, dL_uses_15, dL_uses_16, by unfold ir; decide⟩
theorem hc_L_uses_2 : HC mL_uses 5 0 2 := ⟨[⟨0, 10, 13, 31⟩], ⟨0, 10, 17, 13⟩, [], 4, 2, ⟨by decide, rfl, fun z hz => by
      simp only [List.mem_cons, List.not_mem_nil, or_false] at hz
      rcases hz with rfl
      · exact Or.inr ⟨by decide, 2, by decide, by decide, q_cl2⟩⟩, ⟨rfl, by decide, q_cl0, q_cast0⟩, Or.inl ⟨rfl, dL_uses_17⟩, by decide, dL_uses_19, dL_uses_20, by unfold ir; decide⟩
set_option maxRecDepth 100000 in
theorem w_uses {p q : Int} {h : AH} {Q1 : AV → AH → Prop} {P : Int → AH → Prop} {d1 : Nat} (hd1 : d1 < 19) (hC : CV mX10_uses d1 [rv 0, iv p, iv q] h Q1) (k0 : h.kd 0 = (10, 13)) (n0 : 0 < h.n) (hq : ∀ o h1, Q1 o h1 → (h1.kd 92 = (102, 1) ∧ 92 < h1.n) ∧ ((∃ x, o = iv x ∧ P 0 (h1.put 92 0 x)) ∨ (o = xv 2 ∧ P 1 h1) ∨ (o = xv 0 ∧ P 2 h1))) : CVH mL_uses 19 [rv 0, iv p, iv q, rv 92] h (oi P) := by
  refine cv_ofH cdL_uses ?_
  show EV _ _ 0 [rv 0, iv p, iv q, rv 92, uv] [] h _
  refine ev_aload_n dL_uses_0 rfl ?_
  refine ev_iconst dL_uses_1 ?_
  refine ev_aload_n dL_uses_2 rfl ?_
  refine ev_iload_n dL_uses_3 rfl ?_
  refine ev_iload_n dL_uses_4 rfl ?_
  refine ev_callvh dL_uses_5 lL_46 q_1393 hC (Nat.lt_of_lt_of_le hd1 (by decide)) (by decide) (by omega) k0 rfl rfl (Nat.le_of_ble_eq_true rfl) (fun o h1 q => ?_)
  obtain ⟨⟨ko, no⟩, hh⟩ := hq o h1 q
  refine ⟨fun e7 => ?_, fun e7 => ?_⟩
  · rcases hh with hn | ⟨rfl, hp⟩ | ⟨rfl, hp⟩
    · obtain ⟨x, rfl, -⟩ := hn
      exact absurd (show (0 : Nat) = 7 from e7) (by decide)
    · exact Or.inr ⟨rfl, 2, 1, rfl, hc_L_uses_1, 1, rfl, hp⟩
    · exact Or.inr ⟨rfl, 0, 2, rfl, hc_L_uses_2, 2, rfl, hp⟩
  · rcases hh with hn | ⟨rfl, -⟩ | ⟨rfl, -⟩
    · obtain ⟨x, rfl, hn⟩ := hn
      show EV _ _ _ _ (iv x :: _) _ _
      refine ev_i2l dL_uses_8 ?_
      refine ev_last dL_uses_9 ko no rfl (by decide) (by decide) ?_
      refine ev_gt 21 dL_uses_10 ?_
      refine ev_iconst dL_uses_21 ?_
      exact ev_iret dL_uses_22 (⟨_, rfl, hn⟩)
    · exact absurd rfl e7
    · exact absurd rfl e7
theorem hc_L_unbound_1 : HC mL_unbound 4 2 1 := ⟨[], ⟨0, 9, 12, 31⟩, [], 3, 1, ⟨by decide, rfl, fun z hz => nomatch hz⟩, ⟨rfl, by decide, q_cl2, q_cast2⟩, Or.inr ⟨rfl, 3, rfl, dL_unbound_12⟩, by decide, dL_unbound_13, dL_unbound_14, by unfold ir; decide⟩
set_option maxRecDepth 100000 in
theorem w_unbound {p : Int} {h : AH} {Q1 : AV → AH → Prop} {P : Int → AH → Prop} {d1 : Nat} (hd1 : d1 < 19) (hC : CV mX10_unbound d1 [rv 0, iv p] h Q1) (k0 : h.kd 0 = (10, 13)) (n0 : 0 < h.n) (hq : ∀ o h1, Q1 o h1 → (h1.kd 92 = (102, 1) ∧ 92 < h1.n) ∧ ((∃ x, o = iv x ∧ P 0 (h1.put 92 0 x)) ∨ (o = xv 2 ∧ P 1 h1))) : CVH mL_unbound 19 [rv 0, iv p, rv 92] h (oi P) := by
  refine cv_ofH cdL_unbound ?_
  show EV _ _ 0 [rv 0, iv p, rv 92, uv] [] h _
  refine ev_aload_n dL_unbound_0 rfl ?_
  refine ev_iconst dL_unbound_1 ?_
  refine ev_aload_n dL_unbound_2 rfl ?_
  refine ev_iload_n dL_unbound_3 rfl ?_
  refine ev_callvh dL_unbound_4 lL_49 q_1405 hC (Nat.lt_of_lt_of_le hd1 (by decide)) (by decide) (by omega) k0 rfl rfl (Nat.le_of_ble_eq_true rfl) (fun o h1 q => ?_)
  obtain ⟨⟨ko, no⟩, hh⟩ := hq o h1 q
  refine ⟨fun e7 => ?_, fun e7 => ?_⟩
  · rcases hh with hn | ⟨rfl, hp⟩
    · obtain ⟨x, rfl, -⟩ := hn
      exact absurd (show (0 : Nat) = 7 from e7) (by decide)
    · exact Or.inr ⟨rfl, 2, 1, rfl, hc_L_unbound_1, 1, rfl, hp⟩
  · rcases hh with hn | ⟨rfl, -⟩
    · obtain ⟨x, rfl, hn⟩ := hn
      show EV _ _ _ _ (iv x :: _) _ _
      refine ev_i2l dL_unbound_7 ?_
      refine ev_last dL_unbound_8 ko no rfl (by decide) (by decide) ?_
      refine ev_gt 15 dL_unbound_9 ?_
      refine ev_iconst dL_unbound_15 ?_
      exact ev_iret dL_unbound_16 (⟨_, rfl, hn⟩)
    · exact absurd rfl e7
theorem hc_L_isTyped_1 : HC mL_isTyped 4 2 1 := ⟨[], ⟨0, 16, 19, 31⟩, [], 3, 1, ⟨by decide, rfl, fun z hz => nomatch hz⟩, ⟨rfl, by decide, q_cl2, q_cast2⟩, Or.inr ⟨rfl, 3, rfl, dL_isTyped_19⟩, by decide, dL_isTyped_20, dL_isTyped_21, by unfold ir; decide⟩
set_option maxRecDepth 100000 in
theorem w_isTyped {p : Int} {h : AH} {Q1 : AV → AH → Prop} {P : Int → AH → Prop} {d1 : Nat} (hd1 : d1 < 19) (hC : CV mX10_isTyped d1 [rv 0, iv p] h Q1) (k0 : h.kd 0 = (10, 13)) (n0 : 0 < h.n) (hq : ∀ o h1, Q1 o h1 → (h1.kd 92 = (102, 1) ∧ 92 < h1.n) ∧ ((∃ x, o = iv x ∧ (x = 0 ∨ x = 1) ∧ P 0 (h1.put 92 0 x)) ∨ (o = xv 2 ∧ P 1 h1))) : CVH mL_isTyped 19 [rv 0, iv p, rv 92] h (oi P) := by
  refine cv_ofH cdL_isTyped ?_
  show EV _ _ 0 [rv 0, iv p, rv 92, uv] [] h _
  refine ev_aload_n dL_isTyped_0 rfl ?_
  refine ev_iconst dL_isTyped_1 ?_
  refine ev_aload_n dL_isTyped_2 rfl ?_
  refine ev_iload_n dL_isTyped_3 rfl ?_
  refine ev_callvh dL_isTyped_4 lL_52 q_1412 hC (Nat.lt_of_lt_of_le hd1 (by decide)) (by decide) (by omega) k0 rfl rfl (Nat.le_of_ble_eq_true rfl) (fun o h1 q => ?_)
  obtain ⟨⟨ko, no⟩, hh⟩ := hq o h1 q
  refine ⟨fun e7 => ?_, fun e7 => ?_⟩
  · rcases hh with hn | ⟨rfl, hp⟩
    · obtain ⟨x, rfl, -⟩ := hn
      exact absurd (show (0 : Nat) = 7 from e7) (by decide)
    · exact Or.inr ⟨rfl, 2, 1, rfl, hc_L_isTyped_1, 1, rfl, hp⟩
  · rcases hh with hn | ⟨rfl, -⟩
    · obtain ⟨x, rfl, hx, hn⟩ := hn
      show EV _ _ _ _ (iv x :: _) _ _
      rcases hx with rfl | rfl
      · skip
        refine ev_ifeq 14 dL_isTyped_7 (fun hcc => ?_) (fun h_no => (by exfalso; exact h_no rfl))
        refine ev_lconst dL_isTyped_14 ?_
        refine ev_last dL_isTyped_15 ko no rfl (by omega) (by omega) ?_
        refine ev_gt 22 dL_isTyped_16 ?_
        refine ev_iconst dL_isTyped_22 ?_
        exact ev_iret dL_isTyped_23 (⟨_, rfl, hn⟩)
      · skip
        refine ev_ifeq 14 dL_isTyped_7 (fun h_no => (by exfalso; exact absurd h_no (by decide))) (fun hcc => ?_)
        refine ev_lconst dL_isTyped_10 ?_
        refine ev_gt 15 dL_isTyped_11 ?_
        refine ev_last dL_isTyped_15 ko no rfl (by omega) (by omega) ?_
        refine ev_gt 22 dL_isTyped_16 ?_
        refine ev_iconst dL_isTyped_22 ?_
        exact ev_iret dL_isTyped_23 (⟨_, rfl, hn⟩)
    · exact absurd rfl e7
theorem hc_L_failure_1 : HC mL_failure 5 2 1 := ⟨[], ⟨0, 10, 13, 31⟩, [⟨0, 10, 17, 13⟩, ⟨0, 10, 21, 41⟩], 4, 2, ⟨by decide, rfl, fun z hz => nomatch hz⟩, ⟨rfl, by decide, q_cl2, q_cast2⟩, Or.inl ⟨rfl, dL_failure_13⟩, by decide, dL_failure_15, dL_failure_16, by unfold ir; decide⟩
theorem hc_L_failure_2 : HC mL_failure 5 0 2 := ⟨[⟨0, 10, 13, 31⟩], ⟨0, 10, 17, 13⟩, [⟨0, 10, 21, 41⟩], 4, 2, ⟨by decide, rfl, fun z hz => by
      simp only [List.mem_cons, List.not_mem_nil, or_false] at hz
      rcases hz with rfl
      · exact Or.inr ⟨by decide, 2, by decide, by decide, q_cl2⟩⟩, ⟨rfl, by decide, q_cl0, q_cast0⟩, Or.inl ⟨rfl, dL_failure_17⟩, by decide, dL_failure_19, dL_failure_20, by unfold ir; decide⟩
theorem hc_L_failure_3 : HC mL_failure 5 3 3 := ⟨[⟨0, 10, 13, 31⟩, ⟨0, 10, 17, 13⟩], ⟨0, 10, 21, 41⟩, [], 4, 2, ⟨by decide, rfl, fun z hz => by
      simp only [List.mem_cons, List.not_mem_nil, or_false] at hz
      rcases hz with rfl | rfl
      · exact Or.inr ⟨by decide, 2, by decide, by decide, q_cl2⟩
      · exact Or.inr ⟨by decide, 0, by decide, by decide, q_cl0⟩⟩, ⟨rfl, by decide, q_cl3, q_cast3⟩, Or.inl ⟨rfl, dL_failure_21⟩, by decide, dL_failure_23, dL_failure_24, by unfold ir; decide⟩
set_option maxRecDepth 100000 in
theorem w_failure {p q : Int} {h : AH} {Q1 : AV → AH → Prop} {P : Int → AH → Prop} {d1 : Nat} (hd1 : d1 < 19) (hC : CV mX10_failure d1 [rv 0, iv p, iv q] h Q1) (k0 : h.kd 0 = (10, 13)) (n0 : 0 < h.n) (hq : ∀ o h1, Q1 o h1 → (h1.kd 92 = (102, 1) ∧ 92 < h1.n) ∧ ((∃ x, o = iv x ∧ P 0 (h1.put 92 0 x)) ∨ (o = xv 2 ∧ P 1 h1) ∨ (o = xv 0 ∧ P 2 h1) ∨ (o = xv 3 ∧ P 3 h1))) : CVH mL_failure 19 [rv 0, iv p, iv q, rv 92] h (oi P) := by
  refine cv_ofH cdL_failure ?_
  show EV _ _ 0 [rv 0, iv p, iv q, rv 92, uv] [] h _
  refine ev_aload_n dL_failure_0 rfl ?_
  refine ev_iconst dL_failure_1 ?_
  refine ev_aload_n dL_failure_2 rfl ?_
  refine ev_iload_n dL_failure_3 rfl ?_
  refine ev_iload_n dL_failure_4 rfl ?_
  refine ev_callvh dL_failure_5 lL_56 q_1419 hC (Nat.lt_of_lt_of_le hd1 (by decide)) (by decide) (by omega) k0 rfl rfl (Nat.le_of_ble_eq_true rfl) (fun o h1 q => ?_)
  obtain ⟨⟨ko, no⟩, hh⟩ := hq o h1 q
  refine ⟨fun e7 => ?_, fun e7 => ?_⟩
  · rcases hh with hn | ⟨rfl, hp⟩ | ⟨rfl, hp⟩ | ⟨rfl, hp⟩
    · obtain ⟨x, rfl, -⟩ := hn
      exact absurd (show (0 : Nat) = 7 from e7) (by decide)
    · exact Or.inr ⟨rfl, 2, 1, rfl, hc_L_failure_1, 1, rfl, hp⟩
    · exact Or.inr ⟨rfl, 0, 2, rfl, hc_L_failure_2, 2, rfl, hp⟩
    · exact Or.inr ⟨rfl, 3, 3, rfl, hc_L_failure_3, 3, rfl, hp⟩
  · rcases hh with hn | ⟨rfl, -⟩ | ⟨rfl, -⟩ | ⟨rfl, -⟩
    · obtain ⟨x, rfl, hn⟩ := hn
      show EV _ _ _ _ (iv x :: _) _ _
      refine ev_i2l dL_failure_8 ?_
      refine ev_last dL_failure_9 ko no rfl (by decide) (by decide) ?_
      refine ev_gt 25 dL_failure_10 ?_
      refine ev_iconst dL_failure_25 ?_
      exact ev_iret dL_failure_26 (⟨_, rfl, hn⟩)
    · exact absurd rfl e7
    · exact absurd rfl e7
    · exact absurd rfl e7
theorem hc_L_typeOf_1 : HC mL_typeOf 5 2 1 := ⟨[], ⟨0, 10, 13, 31⟩, [⟨0, 10, 17, 13⟩, ⟨0, 10, 21, 62⟩], 4, 2, ⟨by decide, rfl, fun z hz => nomatch hz⟩, ⟨rfl, by decide, q_cl2, q_cast2⟩, Or.inl ⟨rfl, dL_typeOf_13⟩, by decide, dL_typeOf_15, dL_typeOf_16, by unfold ir; decide⟩
theorem hc_L_typeOf_2 : HC mL_typeOf 5 0 2 := ⟨[⟨0, 10, 13, 31⟩], ⟨0, 10, 17, 13⟩, [⟨0, 10, 21, 62⟩], 4, 2, ⟨by decide, rfl, fun z hz => by
      simp only [List.mem_cons, List.not_mem_nil, or_false] at hz
      rcases hz with rfl
      · exact Or.inr ⟨by decide, 2, by decide, by decide, q_cl2⟩⟩, ⟨rfl, by decide, q_cl0, q_cast0⟩, Or.inl ⟨rfl, dL_typeOf_17⟩, by decide, dL_typeOf_19, dL_typeOf_20, by unfold ir; decide⟩
theorem hc_L_typeOf_3 : HC mL_typeOf 5 4 3 := ⟨[⟨0, 10, 13, 31⟩, ⟨0, 10, 17, 13⟩], ⟨0, 10, 21, 62⟩, [], 4, 2, ⟨by decide, rfl, fun z hz => by
      simp only [List.mem_cons, List.not_mem_nil, or_false] at hz
      rcases hz with rfl | rfl
      · exact Or.inr ⟨by decide, 2, by decide, by decide, q_cl2⟩
      · exact Or.inr ⟨by decide, 0, by decide, by decide, q_cl0⟩⟩, ⟨rfl, by decide, q_cl4, q_cast4⟩, Or.inl ⟨rfl, dL_typeOf_21⟩, by decide, dL_typeOf_23, dL_typeOf_24, by unfold ir; decide⟩
set_option maxRecDepth 100000 in
theorem w_typeOf {p q : Int} {h : AH} {Q1 : AV → AH → Prop} {P : Int → AH → Prop} {d1 : Nat} (hd1 : d1 < 19) (hC : CV mX10_typeOf d1 [rv 0, iv p, iv q] h Q1) (k0 : h.kd 0 = (10, 13)) (n0 : 0 < h.n) (hq : ∀ o h1, Q1 o h1 → (h1.kd 92 = (102, 1) ∧ 92 < h1.n) ∧ ((∃ x, o = iv x ∧ P 0 (h1.put 92 0 x)) ∨ (o = xv 2 ∧ P 1 h1) ∨ (o = xv 0 ∧ P 2 h1) ∨ (o = xv 4 ∧ P 3 h1))) : CVH mL_typeOf 19 [rv 0, iv p, iv q, rv 92] h (oi P) := by
  refine cv_ofH cdL_typeOf ?_
  show EV _ _ 0 [rv 0, iv p, iv q, rv 92, uv] [] h _
  refine ev_aload_n dL_typeOf_0 rfl ?_
  refine ev_iconst dL_typeOf_1 ?_
  refine ev_aload_n dL_typeOf_2 rfl ?_
  refine ev_iload_n dL_typeOf_3 rfl ?_
  refine ev_iload_n dL_typeOf_4 rfl ?_
  refine ev_callvh dL_typeOf_5 lL_59 q_1429 hC (Nat.lt_of_lt_of_le hd1 (by decide)) (by decide) (by omega) k0 rfl rfl (Nat.le_of_ble_eq_true rfl) (fun o h1 q => ?_)
  obtain ⟨⟨ko, no⟩, hh⟩ := hq o h1 q
  refine ⟨fun e7 => ?_, fun e7 => ?_⟩
  · rcases hh with hn | ⟨rfl, hp⟩ | ⟨rfl, hp⟩ | ⟨rfl, hp⟩
    · obtain ⟨x, rfl, -⟩ := hn
      exact absurd (show (0 : Nat) = 7 from e7) (by decide)
    · exact Or.inr ⟨rfl, 2, 1, rfl, hc_L_typeOf_1, 1, rfl, hp⟩
    · exact Or.inr ⟨rfl, 0, 2, rfl, hc_L_typeOf_2, 2, rfl, hp⟩
    · exact Or.inr ⟨rfl, 4, 3, rfl, hc_L_typeOf_3, 3, rfl, hp⟩
  · rcases hh with hn | ⟨rfl, -⟩ | ⟨rfl, -⟩ | ⟨rfl, -⟩
    · obtain ⟨x, rfl, hn⟩ := hn
      show EV _ _ _ _ (iv x :: _) _ _
      refine ev_i2l dL_typeOf_8 ?_
      refine ev_last dL_typeOf_9 ko no rfl (by decide) (by decide) ?_
      refine ev_gt 25 dL_typeOf_10 ?_
      refine ev_iconst dL_typeOf_25 ?_
      exact ev_iret dL_typeOf_26 (⟨_, rfl, hn⟩)
    · exact absurd rfl e7
    · exact absurd rfl e7
    · exact absurd rfl e7
theorem hc_L_typeAgain_1 : HC mL_typeAgain 5 2 1 := ⟨[], ⟨0, 10, 13, 31⟩, [⟨0, 10, 17, 13⟩, ⟨0, 10, 21, 62⟩], 4, 2, ⟨by decide, rfl, fun z hz => nomatch hz⟩, ⟨rfl, by decide, q_cl2, q_cast2⟩, Or.inl ⟨rfl, dL_typeAgain_13⟩, by decide, dL_typeAgain_15, dL_typeAgain_16, by unfold ir; decide⟩
theorem hc_L_typeAgain_2 : HC mL_typeAgain 5 0 2 := ⟨[⟨0, 10, 13, 31⟩], ⟨0, 10, 17, 13⟩, [⟨0, 10, 21, 62⟩], 4, 2, ⟨by decide, rfl, fun z hz => by
      simp only [List.mem_cons, List.not_mem_nil, or_false] at hz
      rcases hz with rfl
      · exact Or.inr ⟨by decide, 2, by decide, by decide, q_cl2⟩⟩, ⟨rfl, by decide, q_cl0, q_cast0⟩, Or.inl ⟨rfl, dL_typeAgain_17⟩, by decide, dL_typeAgain_19, dL_typeAgain_20, by unfold ir; decide⟩
theorem hc_L_typeAgain_3 : HC mL_typeAgain 5 4 3 := ⟨[⟨0, 10, 13, 31⟩, ⟨0, 10, 17, 13⟩], ⟨0, 10, 21, 62⟩, [], 4, 2, ⟨by decide, rfl, fun z hz => by
      simp only [List.mem_cons, List.not_mem_nil, or_false] at hz
      rcases hz with rfl | rfl
      · exact Or.inr ⟨by decide, 2, by decide, by decide, q_cl2⟩
      · exact Or.inr ⟨by decide, 0, by decide, by decide, q_cl0⟩⟩, ⟨rfl, by decide, q_cl4, q_cast4⟩, Or.inl ⟨rfl, dL_typeAgain_21⟩, by decide, dL_typeAgain_23, dL_typeAgain_24, by unfold ir; decide⟩
set_option maxRecDepth 100000 in
theorem w_typeAgain {p q : Int} {h : AH} {Q1 : AV → AH → Prop} {P : Int → AH → Prop} {d1 : Nat} (hd1 : d1 < 19) (hC : CV mX10_typeAgain d1 [rv 0, iv p, iv q] h Q1) (k0 : h.kd 0 = (10, 13)) (n0 : 0 < h.n) (hq : ∀ o h1, Q1 o h1 → (h1.kd 92 = (102, 1) ∧ 92 < h1.n) ∧ ((∃ x, o = iv x ∧ P 0 (h1.put 92 0 x)) ∨ (o = xv 2 ∧ P 1 h1) ∨ (o = xv 0 ∧ P 2 h1) ∨ (o = xv 4 ∧ P 3 h1))) : CVH mL_typeAgain 19 [rv 0, iv p, iv q, rv 92] h (oi P) := by
  refine cv_ofH cdL_typeAgain ?_
  show EV _ _ 0 [rv 0, iv p, iv q, rv 92, uv] [] h _
  refine ev_aload_n dL_typeAgain_0 rfl ?_
  refine ev_iconst dL_typeAgain_1 ?_
  refine ev_aload_n dL_typeAgain_2 rfl ?_
  refine ev_iload_n dL_typeAgain_3 rfl ?_
  refine ev_iload_n dL_typeAgain_4 rfl ?_
  refine ev_callvh dL_typeAgain_5 lL_64 q_1460 hC (Nat.lt_of_lt_of_le hd1 (by decide)) (by decide) (by omega) k0 rfl rfl (Nat.le_of_ble_eq_true rfl) (fun o h1 q => ?_)
  obtain ⟨⟨ko, no⟩, hh⟩ := hq o h1 q
  refine ⟨fun e7 => ?_, fun e7 => ?_⟩
  · rcases hh with hn | ⟨rfl, hp⟩ | ⟨rfl, hp⟩ | ⟨rfl, hp⟩
    · obtain ⟨x, rfl, -⟩ := hn
      exact absurd (show (0 : Nat) = 7 from e7) (by decide)
    · exact Or.inr ⟨rfl, 2, 1, rfl, hc_L_typeAgain_1, 1, rfl, hp⟩
    · exact Or.inr ⟨rfl, 0, 2, rfl, hc_L_typeAgain_2, 2, rfl, hp⟩
    · exact Or.inr ⟨rfl, 4, 3, rfl, hc_L_typeAgain_3, 3, rfl, hp⟩
  · rcases hh with hn | ⟨rfl, -⟩ | ⟨rfl, -⟩ | ⟨rfl, -⟩
    · obtain ⟨x, rfl, hn⟩ := hn
      show EV _ _ _ _ (iv x :: _) _ _
      refine ev_i2l dL_typeAgain_8 ?_
      refine ev_last dL_typeAgain_9 ko no rfl (by decide) (by decide) ?_
      refine ev_gt 25 dL_typeAgain_10 ?_
      refine ev_iconst dL_typeAgain_25 ?_
      exact ev_iret dL_typeAgain_26 (⟨_, rfl, hn⟩)
    · exact absurd rfl e7
    · exact absurd rfl e7
    · exact absurd rfl e7
theorem hc_L_nodeType_1 : HC mL_nodeType 7 2 1 := ⟨[], ⟨0, 12, 15, 31⟩, [⟨0, 12, 19, 13⟩, ⟨0, 12, 23, 62⟩], 5, 2, ⟨by decide, rfl, fun z hz => nomatch hz⟩, ⟨rfl, by decide, q_cl2, q_cast2⟩, Or.inl ⟨rfl, dL_nodeType_15⟩, by decide, dL_nodeType_17, dL_nodeType_18, by unfold ir; decide⟩
theorem hc_L_nodeType_2 : HC mL_nodeType 7 0 2 := ⟨[⟨0, 12, 15, 31⟩], ⟨0, 12, 19, 13⟩, [⟨0, 12, 23, 62⟩], 5, 2, ⟨by decide, rfl, fun z hz => by
      simp only [List.mem_cons, List.not_mem_nil, or_false] at hz
      rcases hz with rfl
      · exact Or.inr ⟨by decide, 2, by decide, by decide, q_cl2⟩⟩, ⟨rfl, by decide, q_cl0, q_cast0⟩, Or.inl ⟨rfl, dL_nodeType_19⟩, by decide, dL_nodeType_21, dL_nodeType_22, by unfold ir; decide⟩
theorem hc_L_nodeType_3 : HC mL_nodeType 7 4 3 := ⟨[⟨0, 12, 15, 31⟩, ⟨0, 12, 19, 13⟩], ⟨0, 12, 23, 62⟩, [], 5, 2, ⟨by decide, rfl, fun z hz => by
      simp only [List.mem_cons, List.not_mem_nil, or_false] at hz
      rcases hz with rfl | rfl
      · exact Or.inr ⟨by decide, 2, by decide, by decide, q_cl2⟩
      · exact Or.inr ⟨by decide, 0, by decide, by decide, q_cl0⟩⟩, ⟨rfl, by decide, q_cl4, q_cast4⟩, Or.inl ⟨rfl, dL_nodeType_23⟩, by decide, dL_nodeType_25, dL_nodeType_26, by unfold ir; decide⟩
set_option maxRecDepth 100000 in
theorem w_nodeType {p q r : Int} {h : AH} {Q1 : AV → AH → Prop} {P : Int → AH → Prop} {d1 : Nat} (hd1 : d1 < 19) (hC : CV mX10_nodeType d1 [rv 0, iv p, iv q, iv r] h Q1) (k0 : h.kd 0 = (10, 13)) (n0 : 0 < h.n) (hq : ∀ o h1, Q1 o h1 → (h1.kd 92 = (102, 1) ∧ 92 < h1.n) ∧ ((∃ x, o = iv x ∧ P 0 (h1.put 92 0 x)) ∨ (o = xv 2 ∧ P 1 h1) ∨ (o = xv 0 ∧ P 2 h1) ∨ (o = xv 4 ∧ P 3 h1))) : CVH mL_nodeType 19 [rv 0, iv p, iv q, iv r, rv 92] h (oi P) := by
  refine cv_ofH cdL_nodeType ?_
  show EV _ _ 0 [rv 0, iv p, iv q, iv r, rv 92, uv] [] h _
  refine ev_aload dL_nodeType_0 rfl ?_
  refine ev_iconst dL_nodeType_2 ?_
  refine ev_aload_n dL_nodeType_3 rfl ?_
  refine ev_iload_n dL_nodeType_4 rfl ?_
  refine ev_iload_n dL_nodeType_5 rfl ?_
  refine ev_iload_n dL_nodeType_6 rfl ?_
  refine ev_callvh dL_nodeType_7 lL_67 q_1468 hC (Nat.lt_of_lt_of_le hd1 (by decide)) (by decide) (by omega) k0 rfl rfl (Nat.le_of_ble_eq_true rfl) (fun o h1 q => ?_)
  obtain ⟨⟨ko, no⟩, hh⟩ := hq o h1 q
  refine ⟨fun e7 => ?_, fun e7 => ?_⟩
  · rcases hh with hn | ⟨rfl, hp⟩ | ⟨rfl, hp⟩ | ⟨rfl, hp⟩
    · obtain ⟨x, rfl, -⟩ := hn
      exact absurd (show (0 : Nat) = 7 from e7) (by decide)
    · exact Or.inr ⟨rfl, 2, 1, rfl, hc_L_nodeType_1, 1, rfl, hp⟩
    · exact Or.inr ⟨rfl, 0, 2, rfl, hc_L_nodeType_2, 2, rfl, hp⟩
    · exact Or.inr ⟨rfl, 4, 3, rfl, hc_L_nodeType_3, 3, rfl, hp⟩
  · rcases hh with hn | ⟨rfl, -⟩ | ⟨rfl, -⟩ | ⟨rfl, -⟩
    · obtain ⟨x, rfl, hn⟩ := hn
      show EV _ _ _ _ (iv x :: _) _ _
      refine ev_i2l dL_nodeType_10 ?_
      refine ev_last dL_nodeType_11 ko no rfl (by decide) (by decide) ?_
      refine ev_gt 27 dL_nodeType_12 ?_
      refine ev_iconst dL_nodeType_27 ?_
      exact ev_iret dL_nodeType_28 (⟨_, rfl, hn⟩)
    · exact absurd rfl e7
    · exact absurd rfl e7
    · exact absurd rfl e7
theorem hc_L_isAlike_1 : HC mL_isAlike 5 2 1 := ⟨[], ⟨0, 17, 20, 31⟩, [⟨0, 17, 24, 62⟩], 4, 2, ⟨by decide, rfl, fun z hz => nomatch hz⟩, ⟨rfl, by decide, q_cl2, q_cast2⟩, Or.inl ⟨rfl, dL_isAlike_20⟩, by decide, dL_isAlike_22, dL_isAlike_23, by unfold ir; decide⟩
theorem hc_L_isAlike_2 : HC mL_isAlike 5 4 2 := ⟨[⟨0, 17, 20, 31⟩], ⟨0, 17, 24, 62⟩, [], 4, 2, ⟨by decide, rfl, fun z hz => by
      simp only [List.mem_cons, List.not_mem_nil, or_false] at hz
      rcases hz with rfl
      · exact Or.inr ⟨by decide, 2, by decide, by decide, q_cl2⟩⟩, ⟨rfl, by decide, q_cl4, q_cast4⟩, Or.inl ⟨rfl, dL_isAlike_24⟩, by decide, dL_isAlike_26, dL_isAlike_27, by unfold ir; decide⟩
set_option maxRecDepth 100000 in
theorem w_isAlike {p q : Int} {h : AH} {Q1 : AV → AH → Prop} {P : Int → AH → Prop} {d1 : Nat} (hd1 : d1 < 19) (hC : CV mX10_isAlike d1 [rv 0, iv p, iv q] h Q1) (k0 : h.kd 0 = (10, 13)) (n0 : 0 < h.n) (hq : ∀ o h1, Q1 o h1 → (h1.kd 92 = (102, 1) ∧ 92 < h1.n) ∧ ((∃ x, o = iv x ∧ (x = 0 ∨ x = 1) ∧ P 0 (h1.put 92 0 x)) ∨ (o = xv 2 ∧ P 1 h1) ∨ (o = xv 4 ∧ P 2 h1))) : CVH mL_isAlike 19 [rv 0, iv p, iv q, rv 92] h (oi P) := by
  refine cv_ofH cdL_isAlike ?_
  show EV _ _ 0 [rv 0, iv p, iv q, rv 92, uv] [] h _
  refine ev_aload_n dL_isAlike_0 rfl ?_
  refine ev_iconst dL_isAlike_1 ?_
  refine ev_aload_n dL_isAlike_2 rfl ?_
  refine ev_iload_n dL_isAlike_3 rfl ?_
  refine ev_iload_n dL_isAlike_4 rfl ?_
  refine ev_callvh dL_isAlike_5 lL_70 q_1479 hC (Nat.lt_of_lt_of_le hd1 (by decide)) (by decide) (by omega) k0 rfl rfl (Nat.le_of_ble_eq_true rfl) (fun o h1 q => ?_)
  obtain ⟨⟨ko, no⟩, hh⟩ := hq o h1 q
  refine ⟨fun e7 => ?_, fun e7 => ?_⟩
  · rcases hh with hn | ⟨rfl, hp⟩ | ⟨rfl, hp⟩
    · obtain ⟨x, rfl, -⟩ := hn
      exact absurd (show (0 : Nat) = 7 from e7) (by decide)
    · exact Or.inr ⟨rfl, 2, 1, rfl, hc_L_isAlike_1, 1, rfl, hp⟩
    · exact Or.inr ⟨rfl, 4, 2, rfl, hc_L_isAlike_2, 2, rfl, hp⟩
  · rcases hh with hn | ⟨rfl, -⟩ | ⟨rfl, -⟩
    · obtain ⟨x, rfl, hx, hn⟩ := hn
      show EV _ _ _ _ (iv x :: _) _ _
      rcases hx with rfl | rfl
      · skip
        refine ev_ifeq 15 dL_isAlike_8 (fun hcc => ?_) (fun h_no => (by exfalso; exact h_no rfl))
        refine ev_lconst dL_isAlike_15 ?_
        refine ev_last dL_isAlike_16 ko no rfl (by omega) (by omega) ?_
        refine ev_gt 28 dL_isAlike_17 ?_
        refine ev_iconst dL_isAlike_28 ?_
        exact ev_iret dL_isAlike_29 (⟨_, rfl, hn⟩)
      · skip
        refine ev_ifeq 15 dL_isAlike_8 (fun h_no => (by exfalso; exact absurd h_no (by decide))) (fun hcc => ?_)
        refine ev_lconst dL_isAlike_11 ?_
        refine ev_gt 16 dL_isAlike_12 ?_
        refine ev_last dL_isAlike_16 ko no rfl (by omega) (by omega) ?_
        refine ev_gt 28 dL_isAlike_17 ?_
        refine ev_iconst dL_isAlike_28 ?_
        exact ev_iret dL_isAlike_29 (⟨_, rfl, hn⟩)
    · exact absurd rfl e7
    · exact absurd rfl e7
theorem hc_L_isAsGeneral_1 : HC mL_isAsGeneral 5 2 1 := ⟨[], ⟨0, 17, 20, 31⟩, [⟨0, 17, 24, 62⟩], 4, 2, ⟨by decide, rfl, fun z hz => nomatch hz⟩, ⟨rfl, by decide, q_cl2, q_cast2⟩, Or.inl ⟨rfl, dL_isAsGeneral_20⟩, by decide, dL_isAsGeneral_22, dL_isAsGeneral_23, by unfold ir; decide⟩
theorem hc_L_isAsGeneral_2 : HC mL_isAsGeneral 5 4 2 := ⟨[⟨0, 17, 20, 31⟩], ⟨0, 17, 24, 62⟩, [], 4, 2, ⟨by decide, rfl, fun z hz => by
      simp only [List.mem_cons, List.not_mem_nil, or_false] at hz
      rcases hz with rfl
      · exact Or.inr ⟨by decide, 2, by decide, by decide, q_cl2⟩⟩, ⟨rfl, by decide, q_cl4, q_cast4⟩, Or.inl ⟨rfl, dL_isAsGeneral_24⟩, by decide, dL_isAsGeneral_26, dL_isAsGeneral_27, by unfold ir; decide⟩
set_option maxRecDepth 100000 in
theorem w_isAsGeneral {p q : Int} {h : AH} {Q1 : AV → AH → Prop} {P : Int → AH → Prop} {d1 : Nat} (hd1 : d1 < 19) (hC : CV mX10_isAsGeneral d1 [rv 0, iv p, iv q] h Q1) (k0 : h.kd 0 = (10, 13)) (n0 : 0 < h.n) (hq : ∀ o h1, Q1 o h1 → (h1.kd 92 = (102, 1) ∧ 92 < h1.n) ∧ ((∃ x, o = iv x ∧ (x = 0 ∨ x = 1) ∧ P 0 (h1.put 92 0 x)) ∨ (o = xv 2 ∧ P 1 h1) ∨ (o = xv 4 ∧ P 2 h1))) : CVH mL_isAsGeneral 19 [rv 0, iv p, iv q, rv 92] h (oi P) := by
  refine cv_ofH cdL_isAsGeneral ?_
  show EV _ _ 0 [rv 0, iv p, iv q, rv 92, uv] [] h _
  refine ev_aload_n dL_isAsGeneral_0 rfl ?_
  refine ev_iconst dL_isAsGeneral_1 ?_
  refine ev_aload_n dL_isAsGeneral_2 rfl ?_
  refine ev_iload_n dL_isAsGeneral_3 rfl ?_
  refine ev_iload_n dL_isAsGeneral_4 rfl ?_
  refine ev_callvh dL_isAsGeneral_5 lL_74 q_1486 hC (Nat.lt_of_lt_of_le hd1 (by decide)) (by decide) (by omega) k0 rfl rfl (Nat.le_of_ble_eq_true rfl) (fun o h1 q => ?_)
  obtain ⟨⟨ko, no⟩, hh⟩ := hq o h1 q
  refine ⟨fun e7 => ?_, fun e7 => ?_⟩
  · rcases hh with hn | ⟨rfl, hp⟩ | ⟨rfl, hp⟩
    · obtain ⟨x, rfl, -⟩ := hn
      exact absurd (show (0 : Nat) = 7 from e7) (by decide)
    · exact Or.inr ⟨rfl, 2, 1, rfl, hc_L_isAsGeneral_1, 1, rfl, hp⟩
    · exact Or.inr ⟨rfl, 4, 2, rfl, hc_L_isAsGeneral_2, 2, rfl, hp⟩
  · rcases hh with hn | ⟨rfl, -⟩ | ⟨rfl, -⟩
    · obtain ⟨x, rfl, hx, hn⟩ := hn
      show EV _ _ _ _ (iv x :: _) _ _
      rcases hx with rfl | rfl
      · skip
        refine ev_ifeq 15 dL_isAsGeneral_8 (fun hcc => ?_) (fun h_no => (by exfalso; exact h_no rfl))
        refine ev_lconst dL_isAsGeneral_15 ?_
        refine ev_last dL_isAsGeneral_16 ko no rfl (by omega) (by omega) ?_
        refine ev_gt 28 dL_isAsGeneral_17 ?_
        refine ev_iconst dL_isAsGeneral_28 ?_
        exact ev_iret dL_isAsGeneral_29 (⟨_, rfl, hn⟩)
      · skip
        refine ev_ifeq 15 dL_isAsGeneral_8 (fun h_no => (by exfalso; exact absurd h_no (by decide))) (fun hcc => ?_)
        refine ev_lconst dL_isAsGeneral_11 ?_
        refine ev_gt 16 dL_isAsGeneral_12 ?_
        refine ev_last dL_isAsGeneral_16 ko no rfl (by omega) (by omega) ?_
        refine ev_gt 28 dL_isAsGeneral_17 ?_
        refine ev_iconst dL_isAsGeneral_28 ?_
        exact ev_iret dL_isAsGeneral_29 (⟨_, rfl, hn⟩)
    · exact absurd rfl e7
    · exact absurd rfl e7
theorem hc_L_fit_1 : HC mL_fit 5 2 1 := ⟨[], ⟨0, 10, 13, 31⟩, [⟨0, 10, 17, 62⟩, ⟨0, 10, 21, 41⟩], 4, 2, ⟨by decide, rfl, fun z hz => nomatch hz⟩, ⟨rfl, by decide, q_cl2, q_cast2⟩, Or.inl ⟨rfl, dL_fit_13⟩, by decide, dL_fit_15, dL_fit_16, by unfold ir; decide⟩
theorem hc_L_fit_2 : HC mL_fit 5 4 2 := ⟨[⟨0, 10, 13, 31⟩], ⟨0, 10, 17, 62⟩, [⟨0, 10, 21, 41⟩], 4, 2, ⟨by decide, rfl, fun z hz => by
      simp only [List.mem_cons, List.not_mem_nil, or_false] at hz
      rcases hz with rfl
      · exact Or.inr ⟨by decide, 2, by decide, by decide, q_cl2⟩⟩, ⟨rfl, by decide, q_cl4, q_cast4⟩, Or.inl ⟨rfl, dL_fit_17⟩, by decide, dL_fit_19, dL_fit_20, by unfold ir; decide⟩
theorem hc_L_fit_3 : HC mL_fit 5 3 3 := ⟨[⟨0, 10, 13, 31⟩, ⟨0, 10, 17, 62⟩], ⟨0, 10, 21, 41⟩, [], 4, 2, ⟨by decide, rfl, fun z hz => by
      simp only [List.mem_cons, List.not_mem_nil, or_false] at hz
      rcases hz with rfl | rfl
      · exact Or.inr ⟨by decide, 2, by decide, by decide, q_cl2⟩
      · exact Or.inr ⟨by decide, 4, by decide, by decide, q_cl4⟩⟩, ⟨rfl, by decide, q_cl3, q_cast3⟩, Or.inl ⟨rfl, dL_fit_21⟩, by decide, dL_fit_23, dL_fit_24, by unfold ir; decide⟩
set_option maxRecDepth 100000 in
theorem w_fit {p q : Int} {h : AH} {Q1 : AV → AH → Prop} {P : Int → AH → Prop} {d1 : Nat} (hd1 : d1 < 19) (hC : CV mX10_fit d1 [rv 0, iv p, iv q] h Q1) (k0 : h.kd 0 = (10, 13)) (n0 : 0 < h.n) (hq : ∀ o h1, Q1 o h1 → (h1.kd 92 = (102, 1) ∧ 92 < h1.n) ∧ ((∃ x, o = iv x ∧ P 0 (h1.put 92 0 x)) ∨ (o = xv 2 ∧ P 1 h1) ∨ (o = xv 4 ∧ P 2 h1) ∨ (o = xv 3 ∧ P 3 h1))) : CVH mL_fit 19 [rv 0, iv p, iv q, rv 92] h (oi P) := by
  refine cv_ofH cdL_fit ?_
  show EV _ _ 0 [rv 0, iv p, iv q, rv 92, uv] [] h _
  refine ev_aload_n dL_fit_0 rfl ?_
  refine ev_iconst dL_fit_1 ?_
  refine ev_aload_n dL_fit_2 rfl ?_
  refine ev_iload_n dL_fit_3 rfl ?_
  refine ev_iload_n dL_fit_4 rfl ?_
  refine ev_callvh dL_fit_5 lL_77 q_1506 hC (Nat.lt_of_lt_of_le hd1 (by decide)) (by decide) (by omega) k0 rfl rfl (Nat.le_of_ble_eq_true rfl) (fun o h1 q => ?_)
  obtain ⟨⟨ko, no⟩, hh⟩ := hq o h1 q
  refine ⟨fun e7 => ?_, fun e7 => ?_⟩
  · rcases hh with hn | ⟨rfl, hp⟩ | ⟨rfl, hp⟩ | ⟨rfl, hp⟩
    · obtain ⟨x, rfl, -⟩ := hn
      exact absurd (show (0 : Nat) = 7 from e7) (by decide)
    · exact Or.inr ⟨rfl, 2, 1, rfl, hc_L_fit_1, 1, rfl, hp⟩
    · exact Or.inr ⟨rfl, 4, 2, rfl, hc_L_fit_2, 2, rfl, hp⟩
    · exact Or.inr ⟨rfl, 3, 3, rfl, hc_L_fit_3, 3, rfl, hp⟩
  · rcases hh with hn | ⟨rfl, -⟩ | ⟨rfl, -⟩ | ⟨rfl, -⟩
    · obtain ⟨x, rfl, hn⟩ := hn
      show EV _ _ _ _ (iv x :: _) _ _
      refine ev_i2l dL_fit_8 ?_
      refine ev_last dL_fit_9 ko no rfl (by decide) (by decide) ?_
      refine ev_gt 25 dL_fit_10 ?_
      refine ev_iconst dL_fit_25 ?_
      exact ev_iret dL_fit_26 (⟨_, rfl, hn⟩)
    · exact absurd rfl e7
    · exact absurd rfl e7
    · exact absurd rfl e7
theorem hc_L_fitting_1 : HC mL_fitting 4 2 1 := ⟨[], ⟨0, 9, 12, 31⟩, [⟨0, 9, 15, 62⟩], 3, 1, ⟨by decide, rfl, fun z hz => nomatch hz⟩, ⟨rfl, by decide, q_cl2, q_cast2⟩, Or.inr ⟨rfl, 3, rfl, dL_fitting_12⟩, by decide, dL_fitting_13, dL_fitting_14, by unfold ir; decide⟩
theorem hc_L_fitting_2 : HC mL_fitting 4 4 2 := ⟨[⟨0, 9, 12, 31⟩], ⟨0, 9, 15, 62⟩, [], 3, 1, ⟨by decide, rfl, fun z hz => by
      simp only [List.mem_cons, List.not_mem_nil, or_false] at hz
      rcases hz with rfl
      · exact Or.inr ⟨by decide, 2, by decide, by decide, q_cl2⟩⟩, ⟨rfl, by decide, q_cl4, q_cast4⟩, Or.inr ⟨rfl, 3, rfl, dL_fitting_15⟩, by decide, dL_fitting_16, dL_fitting_17, by unfold ir; decide⟩
set_option maxRecDepth 100000 in
theorem w_fitting {p : Int} {h : AH} {Q1 : AV → AH → Prop} {P : Int → AH → Prop} {d1 : Nat} (hd1 : d1 < 19) (hC : CV mX10_fitting d1 [rv 0, iv p] h Q1) (k0 : h.kd 0 = (10, 13)) (n0 : 0 < h.n) (hq : ∀ o h1, Q1 o h1 → (h1.kd 92 = (102, 1) ∧ 92 < h1.n) ∧ ((∃ x, o = iv x ∧ P 0 (h1.put 92 0 x)) ∨ (o = xv 2 ∧ P 1 h1) ∨ (o = xv 4 ∧ P 2 h1))) : CVH mL_fitting 19 [rv 0, iv p, rv 92] h (oi P) := by
  refine cv_ofH cdL_fitting ?_
  show EV _ _ 0 [rv 0, iv p, rv 92, uv] [] h _
  refine ev_aload_n dL_fitting_0 rfl ?_
  refine ev_iconst dL_fitting_1 ?_
  refine ev_aload_n dL_fitting_2 rfl ?_
  refine ev_iload_n dL_fitting_3 rfl ?_
  refine ev_callvh dL_fitting_4 lL_80 q_1518 hC (Nat.lt_of_lt_of_le hd1 (by decide)) (by decide) (by omega) k0 rfl rfl (Nat.le_of_ble_eq_true rfl) (fun o h1 q => ?_)
  obtain ⟨⟨ko, no⟩, hh⟩ := hq o h1 q
  refine ⟨fun e7 => ?_, fun e7 => ?_⟩
  · rcases hh with hn | ⟨rfl, hp⟩ | ⟨rfl, hp⟩
    · obtain ⟨x, rfl, -⟩ := hn
      exact absurd (show (0 : Nat) = 7 from e7) (by decide)
    · exact Or.inr ⟨rfl, 2, 1, rfl, hc_L_fitting_1, 1, rfl, hp⟩
    · exact Or.inr ⟨rfl, 4, 2, rfl, hc_L_fitting_2, 2, rfl, hp⟩
  · rcases hh with hn | ⟨rfl, -⟩ | ⟨rfl, -⟩
    · obtain ⟨x, rfl, hn⟩ := hn
      show EV _ _ _ _ (iv x :: _) _ _
      refine ev_i2l dL_fitting_7 ?_
      refine ev_last dL_fitting_8 ko no rfl (by decide) (by decide) ?_
      refine ev_gt 18 dL_fitting_9 ?_
      refine ev_iconst dL_fitting_18 ?_
      exact ev_iret dL_fitting_19 (⟨_, rfl, hn⟩)
    · exact absurd rfl e7
    · exact absurd rfl e7
theorem hc_L_isKept_1 : HC mL_isKept 4 2 1 := ⟨[], ⟨0, 16, 19, 31⟩, [], 3, 1, ⟨by decide, rfl, fun z hz => nomatch hz⟩, ⟨rfl, by decide, q_cl2, q_cast2⟩, Or.inr ⟨rfl, 3, rfl, dL_isKept_19⟩, by decide, dL_isKept_20, dL_isKept_21, by unfold ir; decide⟩
set_option maxRecDepth 100000 in
theorem w_isKept {p : Int} {h : AH} {Q1 : AV → AH → Prop} {P : Int → AH → Prop} {d1 : Nat} (hd1 : d1 < 19) (hC : CV mX10_isKept d1 [rv 0, iv p] h Q1) (k0 : h.kd 0 = (10, 13)) (n0 : 0 < h.n) (hq : ∀ o h1, Q1 o h1 → (h1.kd 92 = (102, 1) ∧ 92 < h1.n) ∧ ((∃ x, o = iv x ∧ (x = 0 ∨ x = 1) ∧ P 0 (h1.put 92 0 x)) ∨ (o = xv 2 ∧ P 1 h1))) : CVH mL_isKept 19 [rv 0, iv p, rv 92] h (oi P) := by
  refine cv_ofH cdL_isKept ?_
  show EV _ _ 0 [rv 0, iv p, rv 92, uv] [] h _
  refine ev_aload_n dL_isKept_0 rfl ?_
  refine ev_iconst dL_isKept_1 ?_
  refine ev_aload_n dL_isKept_2 rfl ?_
  refine ev_iload_n dL_isKept_3 rfl ?_
  refine ev_callvh dL_isKept_4 lL_83 q_1525 hC (Nat.lt_of_lt_of_le hd1 (by decide)) (by decide) (by omega) k0 rfl rfl (Nat.le_of_ble_eq_true rfl) (fun o h1 q => ?_)
  obtain ⟨⟨ko, no⟩, hh⟩ := hq o h1 q
  refine ⟨fun e7 => ?_, fun e7 => ?_⟩
  · rcases hh with hn | ⟨rfl, hp⟩
    · obtain ⟨x, rfl, -⟩ := hn
      exact absurd (show (0 : Nat) = 7 from e7) (by decide)
    · exact Or.inr ⟨rfl, 2, 1, rfl, hc_L_isKept_1, 1, rfl, hp⟩
  · rcases hh with hn | ⟨rfl, -⟩
    · obtain ⟨x, rfl, hx, hn⟩ := hn
      show EV _ _ _ _ (iv x :: _) _ _
      rcases hx with rfl | rfl
      · skip
        refine ev_ifeq 14 dL_isKept_7 (fun hcc => ?_) (fun h_no => (by exfalso; exact h_no rfl))
        refine ev_lconst dL_isKept_14 ?_
        refine ev_last dL_isKept_15 ko no rfl (by omega) (by omega) ?_
        refine ev_gt 22 dL_isKept_16 ?_
        refine ev_iconst dL_isKept_22 ?_
        exact ev_iret dL_isKept_23 (⟨_, rfl, hn⟩)
      · skip
        refine ev_ifeq 14 dL_isKept_7 (fun h_no => (by exfalso; exact absurd h_no (by decide))) (fun hcc => ?_)
        refine ev_lconst dL_isKept_10 ?_
        refine ev_gt 15 dL_isKept_11 ?_
        refine ev_last dL_isKept_15 ko no rfl (by omega) (by omega) ?_
        refine ev_gt 22 dL_isKept_16 ?_
        refine ev_iconst dL_isKept_22 ?_
        exact ev_iret dL_isKept_23 (⟨_, rfl, hn⟩)
    · exact absurd rfl e7
theorem hc_L_largest_1 : HC mL_largest 3 3 1 := ⟨[], ⟨0, 8, 11, 41⟩, [], 2, 1, ⟨by decide, rfl, fun z hz => nomatch hz⟩, ⟨rfl, by decide, q_cl3, q_cast3⟩, Or.inr ⟨rfl, 2, rfl, dL_largest_11⟩, by decide, dL_largest_12, dL_largest_13, by unfold ir; decide⟩
set_option maxRecDepth 100000 in
theorem w_largest {h : AH} {Q1 : AV → AH → Prop} {P : Int → AH → Prop} {d1 : Nat} (hd1 : d1 < 19) (hC : CV mX10_largest d1 [rv 0] h Q1) (k0 : h.kd 0 = (10, 13)) (n0 : 0 < h.n) (hq : ∀ o h1, Q1 o h1 → (h1.kd 92 = (102, 1) ∧ 92 < h1.n) ∧ ((∃ x, o = iv x ∧ P 0 (h1.put 92 0 x)) ∨ (o = xv 3 ∧ P 1 h1))) : CVH mL_largest 19 [rv 0, rv 92] h (oi P) := by
  refine cv_ofH cdL_largest ?_
  show EV _ _ 0 [rv 0, rv 92, uv] [] h _
  refine ev_aload_n dL_largest_0 rfl ?_
  refine ev_iconst dL_largest_1 ?_
  refine ev_aload_n dL_largest_2 rfl ?_
  refine ev_callvh dL_largest_3 lL_86 q_1536 hC (Nat.lt_of_lt_of_le hd1 (by decide)) (by decide) (by omega) k0 rfl rfl (Nat.le_of_ble_eq_true rfl) (fun o h1 q => ?_)
  obtain ⟨⟨ko, no⟩, hh⟩ := hq o h1 q
  refine ⟨fun e7 => ?_, fun e7 => ?_⟩
  · rcases hh with hn | ⟨rfl, hp⟩
    · obtain ⟨x, rfl, -⟩ := hn
      exact absurd (show (0 : Nat) = 7 from e7) (by decide)
    · exact Or.inr ⟨rfl, 3, 1, rfl, hc_L_largest_1, 1, rfl, hp⟩
  · rcases hh with hn | ⟨rfl, -⟩
    · obtain ⟨x, rfl, hn⟩ := hn
      show EV _ _ _ _ (iv x :: _) _ _
      refine ev_i2l dL_largest_6 ?_
      refine ev_last dL_largest_7 ko no rfl (by decide) (by decide) ?_
      refine ev_gt 14 dL_largest_8 ?_
      refine ev_iconst dL_largest_14 ?_
      exact ev_iret dL_largest_15 (⟨_, rfl, hn⟩)
    · exact absurd rfl e7
theorem hc_L_ranked_1 : HC mL_ranked 4 3 1 := ⟨[], ⟨0, 9, 12, 41⟩, [], 3, 1, ⟨by decide, rfl, fun z hz => nomatch hz⟩, ⟨rfl, by decide, q_cl3, q_cast3⟩, Or.inr ⟨rfl, 3, rfl, dL_ranked_12⟩, by decide, dL_ranked_13, dL_ranked_14, by unfold ir; decide⟩
set_option maxRecDepth 100000 in
theorem w_ranked {p : Int} {h : AH} {Q1 : AV → AH → Prop} {P : Int → AH → Prop} {d1 : Nat} (hd1 : d1 < 19) (hC : CV mX10_ranked d1 [rv 0, iv p] h Q1) (k0 : h.kd 0 = (10, 13)) (n0 : 0 < h.n) (hq : ∀ o h1, Q1 o h1 → (h1.kd 92 = (102, 1) ∧ 92 < h1.n) ∧ ((∃ x, o = iv x ∧ P 0 (h1.put 92 0 x)) ∨ (o = xv 3 ∧ P 1 h1))) : CVH mL_ranked 19 [rv 0, iv p, rv 92] h (oi P) := by
  refine cv_ofH cdL_ranked ?_
  show EV _ _ 0 [rv 0, iv p, rv 92, uv] [] h _
  refine ev_aload_n dL_ranked_0 rfl ?_
  refine ev_iconst dL_ranked_1 ?_
  refine ev_aload_n dL_ranked_2 rfl ?_
  refine ev_iload_n dL_ranked_3 rfl ?_
  refine ev_callvh dL_ranked_4 lL_89 q_1544 hC (Nat.lt_of_lt_of_le hd1 (by decide)) (by decide) (by omega) k0 rfl rfl (Nat.le_of_ble_eq_true rfl) (fun o h1 q => ?_)
  obtain ⟨⟨ko, no⟩, hh⟩ := hq o h1 q
  refine ⟨fun e7 => ?_, fun e7 => ?_⟩
  · rcases hh with hn | ⟨rfl, hp⟩
    · obtain ⟨x, rfl, -⟩ := hn
      exact absurd (show (0 : Nat) = 7 from e7) (by decide)
    · exact Or.inr ⟨rfl, 3, 1, rfl, hc_L_ranked_1, 1, rfl, hp⟩
  · rcases hh with hn | ⟨rfl, -⟩
    · obtain ⟨x, rfl, hn⟩ := hn
      show EV _ _ _ _ (iv x :: _) _ _
      refine ev_i2l dL_ranked_7 ?_
      refine ev_last dL_ranked_8 ko no rfl (by decide) (by decide) ?_
      refine ev_gt 15 dL_ranked_9 ?_
      refine ev_iconst dL_ranked_15 ?_
      exact ev_iret dL_ranked_16 (⟨_, rfl, hn⟩)
    · exact absurd rfl e7
theorem hc_L_append_1 : HC mL_append 4 0 1 := ⟨[], ⟨0, 9, 12, 13⟩, [⟨0, 9, 15, 62⟩], 3, 1, ⟨by decide, rfl, fun z hz => nomatch hz⟩, ⟨rfl, by decide, q_cl0, q_cast0⟩, Or.inr ⟨rfl, 3, rfl, dL_append_12⟩, by decide, dL_append_13, dL_append_14, by unfold ir; decide⟩
theorem hc_L_append_2 : HC mL_append 4 4 2 := ⟨[⟨0, 9, 12, 13⟩], ⟨0, 9, 15, 62⟩, [], 3, 1, ⟨by decide, rfl, fun z hz => by
      simp only [List.mem_cons, List.not_mem_nil, or_false] at hz
      rcases hz with rfl
      · exact Or.inr ⟨by decide, 0, by decide, by decide, q_cl0⟩⟩, ⟨rfl, by decide, q_cl4, q_cast4⟩, Or.inr ⟨rfl, 3, rfl, dL_append_15⟩, by decide, dL_append_16, dL_append_17, by unfold ir; decide⟩
set_option maxRecDepth 100000 in
theorem w_append {p : Int} {h : AH} {Q1 : AV → AH → Prop} {P : Int → AH → Prop} {d1 : Nat} (hd1 : d1 < 19) (hC : CV mX10_append d1 [rv 0, iv p] h Q1) (k0 : h.kd 0 = (10, 13)) (n0 : 0 < h.n) (hq : ∀ o h1, Q1 o h1 → (h1.kd 92 = (102, 1) ∧ 92 < h1.n) ∧ ((∃ x, o = iv x ∧ P 0 (h1.put 92 0 x)) ∨ (o = xv 0 ∧ P 1 h1) ∨ (o = xv 4 ∧ P 2 h1))) : CVH mL_append 19 [rv 0, iv p, rv 92] h (oi P) := by
  refine cv_ofH cdL_append ?_
  show EV _ _ 0 [rv 0, iv p, rv 92, uv] [] h _
  refine ev_aload_n dL_append_0 rfl ?_
  refine ev_iconst dL_append_1 ?_
  refine ev_aload_n dL_append_2 rfl ?_
  refine ev_iload_n dL_append_3 rfl ?_
  refine ev_callvh dL_append_4 lL_92 q_1560 hC (Nat.lt_of_lt_of_le hd1 (by decide)) (by decide) (by omega) k0 rfl rfl (Nat.le_of_ble_eq_true rfl) (fun o h1 q => ?_)
  obtain ⟨⟨ko, no⟩, hh⟩ := hq o h1 q
  refine ⟨fun e7 => ?_, fun e7 => ?_⟩
  · rcases hh with hn | ⟨rfl, hp⟩ | ⟨rfl, hp⟩
    · obtain ⟨x, rfl, -⟩ := hn
      exact absurd (show (0 : Nat) = 7 from e7) (by decide)
    · exact Or.inr ⟨rfl, 0, 1, rfl, hc_L_append_1, 1, rfl, hp⟩
    · exact Or.inr ⟨rfl, 4, 2, rfl, hc_L_append_2, 2, rfl, hp⟩
  · rcases hh with hn | ⟨rfl, -⟩ | ⟨rfl, -⟩
    · obtain ⟨x, rfl, hn⟩ := hn
      show EV _ _ _ _ (iv x :: _) _ _
      refine ev_i2l dL_append_7 ?_
      refine ev_last dL_append_8 ko no rfl (by decide) (by decide) ?_
      refine ev_gt 18 dL_append_9 ?_
      refine ev_iconst dL_append_18 ?_
      exact ev_iret dL_append_19 (⟨_, rfl, hn⟩)
    · exact absurd rfl e7
    · exact absurd rfl e7
theorem hc_L_run_1 : HC mL_run 3 0 1 := ⟨[], ⟨0, 8, 11, 13⟩, [⟨0, 8, 14, 15⟩], 2, 1, ⟨by decide, rfl, fun z hz => nomatch hz⟩, ⟨rfl, by decide, q_cl0, q_cast0⟩, Or.inr ⟨rfl, 2, rfl, dL_run_11⟩, by decide, dL_run_12, dL_run_13, by unfold ir; decide⟩
theorem hc_L_run_2 : HC mL_run 3 1 2 := ⟨[⟨0, 8, 11, 13⟩], ⟨0, 8, 14, 15⟩, [], 2, 1, ⟨by decide, rfl, fun z hz => by
      simp only [List.mem_cons, List.not_mem_nil, or_false] at hz
      rcases hz with rfl
      · exact Or.inr ⟨by decide, 0, by decide, by decide, q_cl0⟩⟩, ⟨rfl, by decide, q_cl1, q_cast1⟩, Or.inr ⟨rfl, 2, rfl, dL_run_14⟩, by decide, dL_run_15, dL_run_16, by unfold ir; decide⟩
set_option maxRecDepth 100000 in
theorem w_run {h : AH} {Q1 : AV → AH → Prop} {P : Int → AH → Prop} {d1 : Nat} (hd1 : d1 < 19) (hC : CV mX10_run d1 [rv 0] h Q1) (k0 : h.kd 0 = (10, 13)) (n0 : 0 < h.n) (hq : ∀ o h1, Q1 o h1 → (h1.kd 92 = (102, 1) ∧ 92 < h1.n) ∧ ((∃ x, o = iv x ∧ P 0 (h1.put 92 0 x)) ∨ (o = xv 0 ∧ P 1 h1) ∨ (o = xv 1 ∧ P 2 h1))) : CVH mL_run 19 [rv 0, rv 92] h (oi P) := by
  refine cv_ofH cdL_run ?_
  show EV _ _ 0 [rv 0, rv 92, uv] [] h _
  refine ev_aload_n dL_run_0 rfl ?_
  refine ev_iconst dL_run_1 ?_
  refine ev_aload_n dL_run_2 rfl ?_
  refine ev_callvh dL_run_3 lL_96 q_1586 hC (Nat.lt_of_lt_of_le hd1 (by decide)) (by decide) (by omega) k0 rfl rfl (Nat.le_of_ble_eq_true rfl) (fun o h1 q => ?_)
  obtain ⟨⟨ko, no⟩, hh⟩ := hq o h1 q
  refine ⟨fun e7 => ?_, fun e7 => ?_⟩
  · rcases hh with hn | ⟨rfl, hp⟩ | ⟨rfl, hp⟩
    · obtain ⟨x, rfl, -⟩ := hn
      exact absurd (show (0 : Nat) = 7 from e7) (by decide)
    · exact Or.inr ⟨rfl, 0, 1, rfl, hc_L_run_1, 1, rfl, hp⟩
    · exact Or.inr ⟨rfl, 1, 2, rfl, hc_L_run_2, 2, rfl, hp⟩
  · rcases hh with hn | ⟨rfl, -⟩ | ⟨rfl, -⟩
    · obtain ⟨x, rfl, hn⟩ := hn
      show EV _ _ _ _ (iv x :: _) _ _
      refine ev_i2l dL_run_6 ?_
      refine ev_last dL_run_7 ko no rfl (by decide) (by decide) ?_
      refine ev_gt 17 dL_run_8 ?_
      refine ev_iconst dL_run_17 ?_
      exact ev_iret dL_run_18 (⟨_, rfl, hn⟩)
    · exact absurd rfl e7
    · exact absurd rfl e7
theorem hc_L_reason_1 : HC mL_reason 5 0 1 := ⟨[], ⟨0, 10, 13, 13⟩, [⟨0, 10, 17, 41⟩], 4, 2, ⟨by decide, rfl, fun z hz => nomatch hz⟩, ⟨rfl, by decide, q_cl0, q_cast0⟩, Or.inl ⟨rfl, dL_reason_13⟩, by decide, dL_reason_15, dL_reason_16, by unfold ir; decide⟩
theorem hc_L_reason_2 : HC mL_reason 5 3 2 := ⟨[⟨0, 10, 13, 13⟩], ⟨0, 10, 17, 41⟩, [], 4, 2, ⟨by decide, rfl, fun z hz => by
      simp only [List.mem_cons, List.not_mem_nil, or_false] at hz
      rcases hz with rfl
      · exact Or.inr ⟨by decide, 0, by decide, by decide, q_cl0⟩⟩, ⟨rfl, by decide, q_cl3, q_cast3⟩, Or.inl ⟨rfl, dL_reason_17⟩, by decide, dL_reason_19, dL_reason_20, by unfold ir; decide⟩
set_option maxRecDepth 100000 in
theorem w_reason {p q : Int} {h : AH} {Q1 : AV → AH → Prop} {P : Int → AH → Prop} {d1 : Nat} (hd1 : d1 < 19) (hC : CV mX10_reason d1 [rv 0, iv p, iv q] h Q1) (k0 : h.kd 0 = (10, 13)) (n0 : 0 < h.n) (hq : ∀ o h1, Q1 o h1 → (h1.kd 92 = (102, 1) ∧ 92 < h1.n) ∧ ((∃ x, o = iv x ∧ P 0 (h1.put 92 0 x)) ∨ (o = xv 0 ∧ P 1 h1) ∨ (o = xv 3 ∧ P 2 h1))) : CVH mL_reason 19 [rv 0, iv p, iv q, rv 92] h (oi P) := by
  refine cv_ofH cdL_reason ?_
  show EV _ _ 0 [rv 0, iv p, iv q, rv 92, uv] [] h _
  refine ev_aload_n dL_reason_0 rfl ?_
  refine ev_iconst dL_reason_1 ?_
  refine ev_aload_n dL_reason_2 rfl ?_
  refine ev_iload_n dL_reason_3 rfl ?_
  refine ev_iload_n dL_reason_4 rfl ?_
  refine ev_callvh dL_reason_5 lL_99 q_1609 hC (Nat.lt_of_lt_of_le hd1 (by decide)) (by decide) (by omega) k0 rfl rfl (Nat.le_of_ble_eq_true rfl) (fun o h1 q => ?_)
  obtain ⟨⟨ko, no⟩, hh⟩ := hq o h1 q
  refine ⟨fun e7 => ?_, fun e7 => ?_⟩
  · rcases hh with hn | ⟨rfl, hp⟩ | ⟨rfl, hp⟩
    · obtain ⟨x, rfl, -⟩ := hn
      exact absurd (show (0 : Nat) = 7 from e7) (by decide)
    · exact Or.inr ⟨rfl, 0, 1, rfl, hc_L_reason_1, 1, rfl, hp⟩
    · exact Or.inr ⟨rfl, 3, 2, rfl, hc_L_reason_2, 2, rfl, hp⟩
  · rcases hh with hn | ⟨rfl, -⟩ | ⟨rfl, -⟩
    · obtain ⟨x, rfl, hn⟩ := hn
      show EV _ _ _ _ (iv x :: _) _ _
      refine ev_i2l dL_reason_8 ?_
      refine ev_last dL_reason_9 ko no rfl (by decide) (by decide) ?_
      refine ev_gt 21 dL_reason_10 ?_
      refine ev_iconst dL_reason_21 ?_
      exact ev_iret dL_reason_22 (⟨_, rfl, hn⟩)
    · exact absurd rfl e7
    · exact absurd rfl e7
theorem hc_L_tell_1 : HC mL_tell 4 2 1 := ⟨[], ⟨0, 9, 12, 31⟩, [⟨0, 9, 15, 62⟩], 3, 1, ⟨by decide, rfl, fun z hz => nomatch hz⟩, ⟨rfl, by decide, q_cl2, q_cast2⟩, Or.inr ⟨rfl, 3, rfl, dL_tell_12⟩, by decide, dL_tell_13, dL_tell_14, by unfold ir; decide⟩
theorem hc_L_tell_2 : HC mL_tell 4 4 2 := ⟨[⟨0, 9, 12, 31⟩], ⟨0, 9, 15, 62⟩, [], 3, 1, ⟨by decide, rfl, fun z hz => by
      simp only [List.mem_cons, List.not_mem_nil, or_false] at hz
      rcases hz with rfl
      · exact Or.inr ⟨by decide, 2, by decide, by decide, q_cl2⟩⟩, ⟨rfl, by decide, q_cl4, q_cast4⟩, Or.inr ⟨rfl, 3, rfl, dL_tell_15⟩, by decide, dL_tell_16, dL_tell_17, by unfold ir; decide⟩
set_option maxRecDepth 100000 in
theorem w_tell {p : Int} {h : AH} {Q1 : AV → AH → Prop} {P : Int → AH → Prop} {d1 : Nat} (hd1 : d1 < 19) (hC : CV mX10_tell d1 [rv 0, iv p] h Q1) (k0 : h.kd 0 = (10, 13)) (n0 : 0 < h.n) (hq : ∀ o h1, Q1 o h1 → (h1.kd 92 = (102, 1) ∧ 92 < h1.n) ∧ ((∃ x, o = iv x ∧ P 0 (h1.put 92 0 x)) ∨ (o = xv 2 ∧ P 1 h1) ∨ (o = xv 4 ∧ P 2 h1))) : CVH mL_tell 19 [rv 0, iv p, rv 92] h (oi P) := by
  refine cv_ofH cdL_tell ?_
  show EV _ _ 0 [rv 0, iv p, rv 92, uv] [] h _
  refine ev_aload_n dL_tell_0 rfl ?_
  refine ev_iconst dL_tell_1 ?_
  refine ev_aload_n dL_tell_2 rfl ?_
  refine ev_iload_n dL_tell_3 rfl ?_
  refine ev_callvh dL_tell_4 lL_103 q_1618 hC (Nat.lt_of_lt_of_le hd1 (by decide)) (by decide) (by omega) k0 rfl rfl (Nat.le_of_ble_eq_true rfl) (fun o h1 q => ?_)
  obtain ⟨⟨ko, no⟩, hh⟩ := hq o h1 q
  refine ⟨fun e7 => ?_, fun e7 => ?_⟩
  · rcases hh with hn | ⟨rfl, hp⟩ | ⟨rfl, hp⟩
    · obtain ⟨x, rfl, -⟩ := hn
      exact absurd (show (0 : Nat) = 7 from e7) (by decide)
    · exact Or.inr ⟨rfl, 2, 1, rfl, hc_L_tell_1, 1, rfl, hp⟩
    · exact Or.inr ⟨rfl, 4, 2, rfl, hc_L_tell_2, 2, rfl, hp⟩
  · rcases hh with hn | ⟨rfl, -⟩ | ⟨rfl, -⟩
    · obtain ⟨x, rfl, hn⟩ := hn
      show EV _ _ _ _ (iv x :: _) _ _
      refine ev_i2l dL_tell_7 ?_
      refine ev_last dL_tell_8 ko no rfl (by decide) (by decide) ?_
      refine ev_gt 18 dL_tell_9 ?_
      refine ev_iconst dL_tell_18 ?_
      exact ev_iret dL_tell_19 (⟨_, rfl, hn⟩)
    · exact absurd rfl e7
    · exact absurd rfl e7
theorem hc_L_tellNode_1 : HC mL_tellNode 5 2 1 := ⟨[], ⟨0, 10, 13, 31⟩, [⟨0, 10, 17, 62⟩], 4, 2, ⟨by decide, rfl, fun z hz => nomatch hz⟩, ⟨rfl, by decide, q_cl2, q_cast2⟩, Or.inl ⟨rfl, dL_tellNode_13⟩, by decide, dL_tellNode_15, dL_tellNode_16, by unfold ir; decide⟩
theorem hc_L_tellNode_2 : HC mL_tellNode 5 4 2 := ⟨[⟨0, 10, 13, 31⟩], ⟨0, 10, 17, 62⟩, [], 4, 2, ⟨by decide, rfl, fun z hz => by
      simp only [List.mem_cons, List.not_mem_nil, or_false] at hz
      rcases hz with rfl
      · exact Or.inr ⟨by decide, 2, by decide, by decide, q_cl2⟩⟩, ⟨rfl, by decide, q_cl4, q_cast4⟩, Or.inl ⟨rfl, dL_tellNode_17⟩, by decide, dL_tellNode_19, dL_tellNode_20, by unfold ir; decide⟩
set_option maxRecDepth 100000 in
theorem w_tellNode {p q : Int} {h : AH} {Q1 : AV → AH → Prop} {P : Int → AH → Prop} {d1 : Nat} (hd1 : d1 < 19) (hC : CV mX10_tellNode d1 [rv 0, iv p, iv q] h Q1) (k0 : h.kd 0 = (10, 13)) (n0 : 0 < h.n) (hq : ∀ o h1, Q1 o h1 → (h1.kd 92 = (102, 1) ∧ 92 < h1.n) ∧ ((∃ x, o = iv x ∧ P 0 (h1.put 92 0 x)) ∨ (o = xv 2 ∧ P 1 h1) ∨ (o = xv 4 ∧ P 2 h1))) : CVH mL_tellNode 19 [rv 0, iv p, iv q, rv 92] h (oi P) := by
  refine cv_ofH cdL_tellNode ?_
  show EV _ _ 0 [rv 0, iv p, iv q, rv 92, uv] [] h _
  refine ev_aload_n dL_tellNode_0 rfl ?_
  refine ev_iconst dL_tellNode_1 ?_
  refine ev_aload_n dL_tellNode_2 rfl ?_
  refine ev_iload_n dL_tellNode_3 rfl ?_
  refine ev_iload_n dL_tellNode_4 rfl ?_
  refine ev_callvh dL_tellNode_5 lL_106 q_1639 hC (Nat.lt_of_lt_of_le hd1 (by decide)) (by decide) (by omega) k0 rfl rfl (Nat.le_of_ble_eq_true rfl) (fun o h1 q => ?_)
  obtain ⟨⟨ko, no⟩, hh⟩ := hq o h1 q
  refine ⟨fun e7 => ?_, fun e7 => ?_⟩
  · rcases hh with hn | ⟨rfl, hp⟩ | ⟨rfl, hp⟩
    · obtain ⟨x, rfl, -⟩ := hn
      exact absurd (show (0 : Nat) = 7 from e7) (by decide)
    · exact Or.inr ⟨rfl, 2, 1, rfl, hc_L_tellNode_1, 1, rfl, hp⟩
    · exact Or.inr ⟨rfl, 4, 2, rfl, hc_L_tellNode_2, 2, rfl, hp⟩
  · rcases hh with hn | ⟨rfl, -⟩ | ⟨rfl, -⟩
    · obtain ⟨x, rfl, hn⟩ := hn
      show EV _ _ _ _ (iv x :: _) _ _
      refine ev_i2l dL_tellNode_8 ?_
      refine ev_last dL_tellNode_9 ko no rfl (by decide) (by decide) ?_
      refine ev_gt 21 dL_tellNode_10 ?_
      refine ev_iconst dL_tellNode_21 ?_
      exact ev_iret dL_tellNode_22 (⟨_, rfl, hn⟩)
    · exact absurd rfl e7
    · exact absurd rfl e7
theorem hc_L_tellKept_1 : HC mL_tellKept 4 2 1 := ⟨[], ⟨0, 9, 12, 31⟩, [⟨0, 9, 15, 41⟩], 3, 1, ⟨by decide, rfl, fun z hz => nomatch hz⟩, ⟨rfl, by decide, q_cl2, q_cast2⟩, Or.inr ⟨rfl, 3, rfl, dL_tellKept_12⟩, by decide, dL_tellKept_13, dL_tellKept_14, by unfold ir; decide⟩
theorem hc_L_tellKept_2 : HC mL_tellKept 4 3 2 := ⟨[⟨0, 9, 12, 31⟩], ⟨0, 9, 15, 41⟩, [], 3, 1, ⟨by decide, rfl, fun z hz => by
      simp only [List.mem_cons, List.not_mem_nil, or_false] at hz
      rcases hz with rfl
      · exact Or.inr ⟨by decide, 2, by decide, by decide, q_cl2⟩⟩, ⟨rfl, by decide, q_cl3, q_cast3⟩, Or.inr ⟨rfl, 3, rfl, dL_tellKept_15⟩, by decide, dL_tellKept_16, dL_tellKept_17, by unfold ir; decide⟩
set_option maxRecDepth 100000 in
theorem w_tellKept {p : Int} {h : AH} {Q1 : AV → AH → Prop} {P : Int → AH → Prop} {d1 : Nat} (hd1 : d1 < 19) (hC : CV mX10_tellKept d1 [rv 0, iv p] h Q1) (k0 : h.kd 0 = (10, 13)) (n0 : 0 < h.n) (hq : ∀ o h1, Q1 o h1 → (h1.kd 92 = (102, 1) ∧ 92 < h1.n) ∧ ((∃ x, o = iv x ∧ P 0 (h1.put 92 0 x)) ∨ (o = xv 2 ∧ P 1 h1) ∨ (o = xv 3 ∧ P 2 h1))) : CVH mL_tellKept 19 [rv 0, iv p, rv 92] h (oi P) := by
  refine cv_ofH cdL_tellKept ?_
  show EV _ _ 0 [rv 0, iv p, rv 92, uv] [] h _
  refine ev_aload_n dL_tellKept_0 rfl ?_
  refine ev_iconst dL_tellKept_1 ?_
  refine ev_aload_n dL_tellKept_2 rfl ?_
  refine ev_iload_n dL_tellKept_3 rfl ?_
  refine ev_callvh dL_tellKept_4 lL_109 q_1646 hC (Nat.lt_of_lt_of_le hd1 (by decide)) (by decide) (by omega) k0 rfl rfl (Nat.le_of_ble_eq_true rfl) (fun o h1 q => ?_)
  obtain ⟨⟨ko, no⟩, hh⟩ := hq o h1 q
  refine ⟨fun e7 => ?_, fun e7 => ?_⟩
  · rcases hh with hn | ⟨rfl, hp⟩ | ⟨rfl, hp⟩
    · obtain ⟨x, rfl, -⟩ := hn
      exact absurd (show (0 : Nat) = 7 from e7) (by decide)
    · exact Or.inr ⟨rfl, 2, 1, rfl, hc_L_tellKept_1, 1, rfl, hp⟩
    · exact Or.inr ⟨rfl, 3, 2, rfl, hc_L_tellKept_2, 2, rfl, hp⟩
  · rcases hh with hn | ⟨rfl, -⟩ | ⟨rfl, -⟩
    · obtain ⟨x, rfl, hn⟩ := hn
      show EV _ _ _ _ (iv x :: _) _ _
      refine ev_i2l dL_tellKept_7 ?_
      refine ev_last dL_tellKept_8 ko no rfl (by decide) (by decide) ?_
      refine ev_gt 18 dL_tellKept_9 ?_
      refine ev_iconst dL_tellKept_18 ?_
      exact ev_iret dL_tellKept_19 (⟨_, rfl, hn⟩)
    · exact absurd rfl e7
    · exact absurd rfl e7
theorem hc_L_tellTerm_1 : HC mL_tellTerm 4 2 1 := ⟨[], ⟨0, 9, 12, 31⟩, [], 3, 1, ⟨by decide, rfl, fun z hz => nomatch hz⟩, ⟨rfl, by decide, q_cl2, q_cast2⟩, Or.inr ⟨rfl, 3, rfl, dL_tellTerm_12⟩, by decide, dL_tellTerm_13, dL_tellTerm_14, by unfold ir; decide⟩
set_option maxRecDepth 100000 in
theorem w_tellTerm {p : Int} {h : AH} {Q1 : AV → AH → Prop} {P : Int → AH → Prop} {d1 : Nat} (hd1 : d1 < 19) (hC : CV mX10_tellTerm d1 [rv 0, iv p] h Q1) (k0 : h.kd 0 = (10, 13)) (n0 : 0 < h.n) (hq : ∀ o h1, Q1 o h1 → (h1.kd 92 = (102, 1) ∧ 92 < h1.n) ∧ ((∃ x, o = iv x ∧ P 0 (h1.put 92 0 x)) ∨ (o = xv 2 ∧ P 1 h1))) : CVH mL_tellTerm 19 [rv 0, iv p, rv 92] h (oi P) := by
  refine cv_ofH cdL_tellTerm ?_
  show EV _ _ 0 [rv 0, iv p, rv 92, uv] [] h _
  refine ev_aload_n dL_tellTerm_0 rfl ?_
  refine ev_iconst dL_tellTerm_1 ?_
  refine ev_aload_n dL_tellTerm_2 rfl ?_
  refine ev_iload_n dL_tellTerm_3 rfl ?_
  refine ev_callvh dL_tellTerm_4 lL_112 q_1654 hC (Nat.lt_of_lt_of_le hd1 (by decide)) (by decide) (by omega) k0 rfl rfl (Nat.le_of_ble_eq_true rfl) (fun o h1 q => ?_)
  obtain ⟨⟨ko, no⟩, hh⟩ := hq o h1 q
  refine ⟨fun e7 => ?_, fun e7 => ?_⟩
  · rcases hh with hn | ⟨rfl, hp⟩
    · obtain ⟨x, rfl, -⟩ := hn
      exact absurd (show (0 : Nat) = 7 from e7) (by decide)
    · exact Or.inr ⟨rfl, 2, 1, rfl, hc_L_tellTerm_1, 1, rfl, hp⟩
  · rcases hh with hn | ⟨rfl, -⟩
    · obtain ⟨x, rfl, hn⟩ := hn
      show EV _ _ _ _ (iv x :: _) _ _
      refine ev_i2l dL_tellTerm_7 ?_
      refine ev_last dL_tellTerm_8 ko no rfl (by decide) (by decide) ?_
      refine ev_gt 15 dL_tellTerm_9 ?_
      refine ev_iconst dL_tellTerm_15 ?_
      exact ev_iret dL_tellTerm_16 (⟨_, rfl, hn⟩)
    · exact absurd rfl e7
theorem hc_L_character_1 : HC mL_character 4 2 1 := ⟨[], ⟨0, 9, 12, 31⟩, [], 3, 1, ⟨by decide, rfl, fun z hz => nomatch hz⟩, ⟨rfl, by decide, q_cl2, q_cast2⟩, Or.inr ⟨rfl, 3, rfl, dL_character_12⟩, by decide, dL_character_13, dL_character_14, by unfold ir; decide⟩
set_option maxRecDepth 100000 in
theorem w_character {p : Int} {h : AH} {Q1 : AV → AH → Prop} {P : Int → AH → Prop} {d1 : Nat} (hd1 : d1 < 19) (hC : CV mX10_character d1 [rv 0, iv p] h Q1) (k0 : h.kd 0 = (10, 13)) (n0 : 0 < h.n) (hq : ∀ o h1, Q1 o h1 → (h1.kd 92 = (102, 1) ∧ 92 < h1.n) ∧ ((∃ x, o = iv x ∧ P 0 (h1.put 92 0 x)) ∨ (o = xv 2 ∧ P 1 h1))) : CVH mL_character 19 [rv 0, iv p, rv 92] h (oi P) := by
  refine cv_ofH cdL_character ?_
  show EV _ _ 0 [rv 0, iv p, rv 92, uv] [] h _
  refine ev_aload_n dL_character_0 rfl ?_
  refine ev_iconst dL_character_1 ?_
  refine ev_aload_n dL_character_2 rfl ?_
  refine ev_iload_n dL_character_3 rfl ?_
  refine ev_callvh dL_character_4 lL_115 q_1674 hC (Nat.lt_of_lt_of_le hd1 (by decide)) (by decide) (by omega) k0 rfl rfl (Nat.le_of_ble_eq_true rfl) (fun o h1 q => ?_)
  obtain ⟨⟨ko, no⟩, hh⟩ := hq o h1 q
  refine ⟨fun e7 => ?_, fun e7 => ?_⟩
  · rcases hh with hn | ⟨rfl, hp⟩
    · obtain ⟨x, rfl, -⟩ := hn
      exact absurd (show (0 : Nat) = 7 from e7) (by decide)
    · exact Or.inr ⟨rfl, 2, 1, rfl, hc_L_character_1, 1, rfl, hp⟩
  · rcases hh with hn | ⟨rfl, -⟩
    · obtain ⟨x, rfl, hn⟩ := hn
      show EV _ _ _ _ (iv x :: _) _ _
      refine ev_i2l dL_character_7 ?_
      refine ev_last dL_character_8 ko no rfl (by decide) (by decide) ?_
      refine ev_gt 15 dL_character_9 ?_
      refine ev_iconst dL_character_15 ?_
      exact ev_iret dL_character_16 (⟨_, rfl, hn⟩)
    · exact absurd rfl e7
theorem hc_L_account_1 : HC mL_account 4 0 1 := ⟨[], ⟨0, 9, 12, 13⟩, [], 3, 1, ⟨by decide, rfl, fun z hz => nomatch hz⟩, ⟨rfl, by decide, q_cl0, q_cast0⟩, Or.inr ⟨rfl, 3, rfl, dL_account_12⟩, by decide, dL_account_13, dL_account_14, by unfold ir; decide⟩
set_option maxRecDepth 100000 in
theorem w_account {p : Int} {h : AH} {Q1 : AV → AH → Prop} {P : Int → AH → Prop} {d1 : Nat} (hd1 : d1 < 19) (hC : CV mX10_account d1 [rv 0, iv p] h Q1) (k0 : h.kd 0 = (10, 13)) (n0 : 0 < h.n) (hq : ∀ o h1, Q1 o h1 → (h1.kd 92 = (102, 1) ∧ 92 < h1.n) ∧ ((∃ x, o = iv x ∧ P 0 (h1.put 92 0 x)) ∨ (o = xv 0 ∧ P 1 h1))) : CVH mL_account 19 [rv 0, iv p, rv 92] h (oi P) := by
  refine cv_ofH cdL_account ?_
  show EV _ _ 0 [rv 0, iv p, rv 92, uv] [] h _
  refine ev_aload_n dL_account_0 rfl ?_
  refine ev_iconst dL_account_1 ?_
  refine ev_aload_n dL_account_2 rfl ?_
  refine ev_iload_n dL_account_3 rfl ?_
  refine ev_callvh dL_account_4 lL_119 q_1682 hC (Nat.lt_of_lt_of_le hd1 (by decide)) (by decide) (by omega) k0 rfl rfl (Nat.le_of_ble_eq_true rfl) (fun o h1 q => ?_)
  obtain ⟨⟨ko, no⟩, hh⟩ := hq o h1 q
  refine ⟨fun e7 => ?_, fun e7 => ?_⟩
  · rcases hh with hn | ⟨rfl, hp⟩
    · obtain ⟨x, rfl, -⟩ := hn
      exact absurd (show (0 : Nat) = 7 from e7) (by decide)
    · exact Or.inr ⟨rfl, 0, 1, rfl, hc_L_account_1, 1, rfl, hp⟩
  · rcases hh with hn | ⟨rfl, -⟩
    · obtain ⟨x, rfl, hn⟩ := hn
      show EV _ _ _ _ (iv x :: _) _ _
      refine ev_i2l dL_account_7 ?_
      refine ev_last dL_account_8 ko no rfl (by decide) (by decide) ?_
      refine ev_gt 15 dL_account_9 ?_
      refine ev_iconst dL_account_15 ?_
      exact ev_iret dL_account_16 (⟨_, rfl, hn⟩)
    · exact absurd rfl e7
theorem hc_L_meanSize_1 : HC mL_meanSize 3 5 1 := ⟨[], ⟨0, 7, 10, 126⟩, [], 2, 1, ⟨by decide, rfl, fun z hz => nomatch hz⟩, ⟨rfl, by decide, q_cl5, q_cast5⟩, Or.inr ⟨rfl, 2, rfl, dL_meanSize_10⟩, by decide, dL_meanSize_11, dL_meanSize_12, by unfold ir; decide⟩
set_option maxRecDepth 100000 in
theorem w_meanSize {h : AH} {Q1 : AV → AH → Prop} {P : Int → AH → Prop} {d1 : Nat} (hd1 : d1 < 19) (hC : CV mX10_meanSize d1 [rv 0] h Q1) (k0 : h.kd 0 = (10, 13)) (n0 : 0 < h.n) (hq : ∀ o h1, Q1 o h1 → (h1.kd 93 = (103, 1) ∧ 93 < h1.n) ∧ ((∃ w, o = dv w ∧ P 0 (h1.put 93 0 (w.toNat : Int))) ∨ (o = xv 5 ∧ P 1 h1))) : CVH mL_meanSize 19 [rv 0, rv 93] h (oi P) := by
  refine cv_ofH cdL_meanSize ?_
  show EV _ _ 0 [rv 0, rv 93, uv] [] h _
  refine ev_aload_n dL_meanSize_0 rfl ?_
  refine ev_iconst dL_meanSize_1 ?_
  refine ev_aload_n dL_meanSize_2 rfl ?_
  refine ev_callvh dL_meanSize_3 lL_122 q_1720 hC (Nat.lt_of_lt_of_le hd1 (by decide)) (by decide) (by omega) k0 rfl rfl (Nat.le_of_ble_eq_true rfl) (fun o h1 q => ?_)
  obtain ⟨⟨ko, no⟩, hh⟩ := hq o h1 q
  refine ⟨fun e7 => ?_, fun e7 => ?_⟩
  · rcases hh with hn | ⟨rfl, hp⟩
    · obtain ⟨x, rfl, -⟩ := hn
      exact absurd (show (4 : Nat) = 7 from e7) (by decide)
    · exact Or.inr ⟨rfl, 5, 1, rfl, hc_L_meanSize_1, 1, rfl, hp⟩
  · rcases hh with hn | ⟨rfl, -⟩
    · obtain ⟨x, rfl, hn⟩ := hn
      show EV _ _ _ _ (dv x :: _) _ _
      refine ev_dast dL_meanSize_6 ko no rfl (by decide) (by decide) ?_
      refine ev_gt 13 dL_meanSize_7 ?_
      refine ev_iconst dL_meanSize_13 ?_
      exact ev_iret dL_meanSize_14 (⟨_, rfl, hn⟩)
    · exact absurd rfl e7
theorem hc_L_typedShare_1 : HC mL_typedShare 3 5 1 := ⟨[], ⟨0, 8, 11, 126⟩, [], 2, 1, ⟨by decide, rfl, fun z hz => nomatch hz⟩, ⟨rfl, by decide, q_cl5, q_cast5⟩, Or.inr ⟨rfl, 2, rfl, dL_typedShare_11⟩, by decide, dL_typedShare_12, dL_typedShare_13, by unfold ir; decide⟩
set_option maxRecDepth 100000 in
theorem w_typedShare {h : AH} {Q1 : AV → AH → Prop} {P : Int → AH → Prop} {d1 : Nat} (hd1 : d1 < 19) (hC : CV mX10_typedShare d1 [rv 0] h Q1) (k0 : h.kd 0 = (10, 13)) (n0 : 0 < h.n) (hq : ∀ o h1, Q1 o h1 → (h1.kd 93 = (103, 1) ∧ 93 < h1.n) ∧ ((∃ w, o = fv w ∧ vf_n64 (FP.f2d w) ∧ P 0 (h1.put 93 0 ((FP.f2d w).toNat : Int))) ∨ (o = xv 5 ∧ P 1 h1))) : CVH mL_typedShare 19 [rv 0, rv 93] h (oi P) := by
  refine cv_ofH cdL_typedShare ?_
  show EV _ _ 0 [rv 0, rv 93, uv] [] h _
  refine ev_aload_n dL_typedShare_0 rfl ?_
  refine ev_iconst dL_typedShare_1 ?_
  refine ev_aload_n dL_typedShare_2 rfl ?_
  refine ev_callvh dL_typedShare_3 lL_128 q_1729 hC (Nat.lt_of_lt_of_le hd1 (by decide)) (by decide) (by omega) k0 rfl rfl (Nat.le_of_ble_eq_true rfl) (fun o h1 q => ?_)
  obtain ⟨⟨ko, no⟩, hh⟩ := hq o h1 q
  refine ⟨fun e7 => ?_, fun e7 => ?_⟩
  · rcases hh with hn | ⟨rfl, hp⟩
    · obtain ⟨x, rfl, -⟩ := hn
      exact absurd (show (3 : Nat) = 7 from e7) (by decide)
    · exact Or.inr ⟨rfl, 5, 1, rfl, hc_L_typedShare_1, 1, rfl, hp⟩
  · rcases hh with hn | ⟨rfl, -⟩
    · obtain ⟨x, rfl, hne, hn⟩ := hn
      show EV _ _ _ _ (fv x :: _) _ _
      refine ev_f2d dL_typedShare_6 hne ?_
      refine ev_dast dL_typedShare_7 ko no rfl (by decide) (by decide) ?_
      refine ev_gt 14 dL_typedShare_8 ?_
      refine ev_iconst dL_typedShare_14 ?_
      exact ev_iret dL_typedShare_15 (⟨_, rfl, hn⟩)
    · exact absurd rfl e7
theorem hc_L_undo_1 : HC mL_undo 3 4 1 := ⟨[], ⟨0, 8, 11, 62⟩, [], 2, 1, ⟨by decide, rfl, fun z hz => nomatch hz⟩, ⟨rfl, by decide, q_cl4, q_cast4⟩, Or.inr ⟨rfl, 2, rfl, dL_undo_11⟩, by decide, dL_undo_12, dL_undo_13, by unfold ir; decide⟩
set_option maxRecDepth 100000 in
theorem w_undo {h : AH} {Q1 : AV → AH → Prop} {P : Int → AH → Prop} {d1 : Nat} (hd1 : d1 < 19) (hC : CV mX10_undo d1 [rv 0] h Q1) (k0 : h.kd 0 = (10, 13)) (n0 : 0 < h.n) (hq : ∀ o h1, Q1 o h1 → (h1.kd 92 = (102, 1) ∧ 92 < h1.n) ∧ ((∃ x, o = iv x ∧ P 0 (h1.put 92 0 x)) ∨ (o = xv 4 ∧ P 1 h1))) : CVH mL_undo 19 [rv 0, rv 92] h (oi P) := by
  refine cv_ofH cdL_undo ?_
  show EV _ _ 0 [rv 0, rv 92, uv] [] h _
  refine ev_aload_n dL_undo_0 rfl ?_
  refine ev_iconst dL_undo_1 ?_
  refine ev_aload_n dL_undo_2 rfl ?_
  refine ev_callvh dL_undo_3 lL_132 q_1737 hC (Nat.lt_of_lt_of_le hd1 (by decide)) (by decide) (by omega) k0 rfl rfl (Nat.le_of_ble_eq_true rfl) (fun o h1 q => ?_)
  obtain ⟨⟨ko, no⟩, hh⟩ := hq o h1 q
  refine ⟨fun e7 => ?_, fun e7 => ?_⟩
  · rcases hh with hn | ⟨rfl, hp⟩
    · obtain ⟨x, rfl, -⟩ := hn
      exact absurd (show (0 : Nat) = 7 from e7) (by decide)
    · exact Or.inr ⟨rfl, 4, 1, rfl, hc_L_undo_1, 1, rfl, hp⟩
  · rcases hh with hn | ⟨rfl, -⟩
    · obtain ⟨x, rfl, hn⟩ := hn
      show EV _ _ _ _ (iv x :: _) _ _
      refine ev_i2l dL_undo_6 ?_
      refine ev_last dL_undo_7 ko no rfl (by decide) (by decide) ?_
      refine ev_gt 14 dL_undo_8 ?_
      refine ev_iconst dL_undo_14 ?_
      exact ev_iret dL_undo_15 (⟨_, rfl, hn⟩)
    · exact absurd rfl e7
theorem hc_L_restore_1 : HC mL_restore 3 4 1 := ⟨[], ⟨0, 8, 11, 62⟩, [], 2, 1, ⟨by decide, rfl, fun z hz => nomatch hz⟩, ⟨rfl, by decide, q_cl4, q_cast4⟩, Or.inr ⟨rfl, 2, rfl, dL_restore_11⟩, by decide, dL_restore_12, dL_restore_13, by unfold ir; decide⟩
set_option maxRecDepth 100000 in
theorem w_restore {h : AH} {Q1 : AV → AH → Prop} {P : Int → AH → Prop} {d1 : Nat} (hd1 : d1 < 19) (hC : CV mX10_restore d1 [rv 0] h Q1) (k0 : h.kd 0 = (10, 13)) (n0 : 0 < h.n) (hq : ∀ o h1, Q1 o h1 → (h1.kd 92 = (102, 1) ∧ 92 < h1.n) ∧ ((∃ x, o = iv x ∧ P 0 (h1.put 92 0 x)) ∨ (o = xv 4 ∧ P 1 h1))) : CVH mL_restore 19 [rv 0, rv 92] h (oi P) := by
  refine cv_ofH cdL_restore ?_
  show EV _ _ 0 [rv 0, rv 92, uv] [] h _
  refine ev_aload_n dL_restore_0 rfl ?_
  refine ev_iconst dL_restore_1 ?_
  refine ev_aload_n dL_restore_2 rfl ?_
  refine ev_callvh dL_restore_3 lL_135 q_1750 hC (Nat.lt_of_lt_of_le hd1 (by decide)) (by decide) (by omega) k0 rfl rfl (Nat.le_of_ble_eq_true rfl) (fun o h1 q => ?_)
  obtain ⟨⟨ko, no⟩, hh⟩ := hq o h1 q
  refine ⟨fun e7 => ?_, fun e7 => ?_⟩
  · rcases hh with hn | ⟨rfl, hp⟩
    · obtain ⟨x, rfl, -⟩ := hn
      exact absurd (show (0 : Nat) = 7 from e7) (by decide)
    · exact Or.inr ⟨rfl, 4, 1, rfl, hc_L_restore_1, 1, rfl, hp⟩
  · rcases hh with hn | ⟨rfl, -⟩
    · obtain ⟨x, rfl, hn⟩ := hn
      show EV _ _ _ _ (iv x :: _) _ _
      refine ev_i2l dL_restore_6 ?_
      refine ev_last dL_restore_7 ko no rfl (by decide) (by decide) ?_
      refine ev_gt 14 dL_restore_8 ?_
      refine ev_iconst dL_restore_14 ?_
      exact ev_iret dL_restore_15 (⟨_, rfl, hn⟩)
    · exact absurd rfl e7
