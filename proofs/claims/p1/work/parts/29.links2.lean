theorem gx_J5_ensureCapacityInternal_d00df : Cond.selects RJ4 yJ5_ensureCapacityInternal_d00df yJ5_ensureCapacityInternal_d00df ∈ gw := List.mem_append_left _ List.mem_cons_self
theorem gx_J5_newCapacity_0f7a4 : Cond.selects RJ4 yJ5_newCapacity_0f7a4 yJ5_newCapacity_0f7a4 ∈ gw := List.mem_append_left _ (List.mem_cons_of_mem _ List.mem_cons_self)
theorem q_oc : Cond.code Lib.objectInit ⟨#[0xb1]⟩ 1 none ∈ gw := gw_in (t_in_1 (List.mem_of_getElem? (i := 43) rfl)) rfl
theorem q_ab : Cond.arrayClass .byte ∈ gw := gw_in (t_in_1 (List.mem_of_getElem? (i := 76) rfl)) rfl
theorem q_al : Cond.arrayClass .long ∈ gw := gw_in (t_in_10 (List.mem_of_getElem? (i := 113) rfl)) rfl
theorem q_ad : Cond.arrayClass .double ∈ gw := gw_in (t_in_10 (List.mem_of_getElem? (i := 114) rfl)) rfl
theorem q_cast0 : Cond.castable (xn 0) (xn 0) ∈ lw_tbl := t_in_4 (List.mem_of_getElem? (i := 101) rfl)
theorem q_cl0 : Cond.classLink RL 13 (xn 0) ∈ gw := gw_in (t_in_3 (List.mem_of_getElem? (i := 96) rfl)) rfl
theorem q_cast1 : Cond.castable (xn 1) (xn 1) ∈ lw_tbl := t_in_5 (List.mem_of_getElem? (i := 36) rfl)
theorem q_cl1 : Cond.classLink RL 15 (xn 1) ∈ gw := gw_in (t_in_3 (List.mem_of_getElem? (i := 97) rfl)) rfl
theorem q_cast2 : Cond.castable (xn 2) (xn 2) ∈ lw_tbl := t_in_5 (List.mem_of_getElem? (i := 217) rfl)
theorem q_cl2 : Cond.classLink RL 31 (xn 2) ∈ gw := gw_in (t_in_5 (List.mem_of_getElem? (i := 204) rfl)) rfl
theorem q_cast3 : Cond.castable (xn 3) (xn 3) ∈ lw_tbl := t_in_6 (List.mem_of_getElem? (i := 13) rfl)
theorem q_cl3 : Cond.classLink RL 41 (xn 3) ∈ gw := gw_in (t_in_6 (List.mem_of_getElem? (i := 6) rfl)) rfl
theorem q_cast4 : Cond.castable (xn 4) (xn 4) ∈ lw_tbl := t_in_6 (List.mem_of_getElem? (i := 88) rfl)
theorem q_cl4 : Cond.classLink RL 62 (xn 4) ∈ gw := gw_in (t_in_6 (List.mem_of_getElem? (i := 73) rfl)) rfl
theorem q_cast5 : Cond.castable (xn 5) (xn 5) ∈ lw_tbl := t_in_7 (List.mem_of_getElem? (i := 123) rfl)
theorem q_cl5 : Cond.classLink RL 126 (xn 5) ∈ gw := gw_in (t_in_7 (List.mem_of_getElem? (i := 111) rfl)) rfl
theorem tk_all {ws : List Cond} (h : ws.all (fun w => (goodWord w || nwOk w) && decide (w ∈ lw_tbl)) = true) : ∀ w ∈ ws, w ∈ gw ∨ (w ∈ lw_tbl ∧ nwOk w = true) := fun w hw => by
  have g := List.all_eq_true.mp h w hw
  simp only [Bool.and_eq_true, Bool.or_eq_true, decide_eq_true_eq] at g
  rcases g.1 with g1 | g1
  · exact Or.inl (gw_in g.2 g1)
  · exact Or.inr ⟨g.2, g1⟩
theorem tk_0 : TK RX10 76 80 0 ["java/lang/RuntimeException", "java/lang/Exception"] := ⟨by decide +kernel, by decide +kernel, by decide, gw_in (t_in_5 (List.mem_of_getElem? (i := 8) rfl)) rfl, gw_in (t_in_1 (List.mem_of_getElem? (i := 27) rfl)) rfl, tk_all (by decide +kernel)⟩
theorem tk_1 : TK RX10 90 94 1 ["java/lang/RuntimeException", "java/lang/Exception"] := ⟨by decide +kernel, by decide +kernel, by decide, gw_in (t_in_5 (List.mem_of_getElem? (i := 34) rfl)) rfl, gw_in (t_in_1 (List.mem_of_getElem? (i := 30) rfl)) rfl, tk_all (by decide +kernel)⟩
theorem tk_4 : TK RX10 184 188 4 ["java/lang/RuntimeException", "java/lang/Exception"] := ⟨by decide +kernel, by decide +kernel, by decide, gw_in (t_in_6 (List.mem_of_getElem? (i := 86) rfl)) rfl, gw_in (t_in_1 (List.mem_of_getElem? (i := 33) rfl)) rfl, tk_all (by decide +kernel)⟩
theorem tk_2 : TK RX10 292 296 2 ["java/lang/RuntimeException", "java/lang/Exception"] := ⟨by decide +kernel, by decide +kernel, by decide, gw_in (t_in_5 (List.mem_of_getElem? (i := 215) rfl)) rfl, gw_in (t_in_1 (List.mem_of_getElem? (i := 19) rfl)) rfl, tk_all (by decide +kernel)⟩
theorem tk_5 : TK RX10 322 324 5 ["java/lang/RuntimeException", "java/lang/Exception"] := ⟨by decide +kernel, by decide +kernel, by decide, gw_in (t_in_7 (List.mem_of_getElem? (i := 129) rfl)) rfl, gw_in (t_in_1 (List.mem_of_getElem? (i := 35) rfl)) rfl, tk_all (by decide +kernel)⟩
abbrev mL_lesson : MD := (yL_lesson, cL_lesson, 3, some .int, [(0, 8, 11, 13), (0, 8, 14, 15)], tt)
theorem q_730 : Cond.codeWith yL_lesson cL_lesson 3 (some .int) [(0, 8, 11, 13), (0, 8, 14, 15)] ∈ gw := gw_in (t_in_3 (List.mem_of_getElem? (i := 95) rfl)) rfl
theorem q_155 : Cond.initialized RL ∈ gw := gw_in (t_in_1 (List.mem_of_getElem? (i := 0) rfl)) rfl
theorem cdL_lesson : CDH mL_lesson := ⟨q_730, q_155, by decide +kernel, ⟨by decide +kernel, by decide +kernel⟩, fun _ => trivial⟩
abbrev mL_drop : MD := (yL_drop, cL_drop, 4, some .int, [(0, 9, 12, 15)], tt)
theorem q_1237 : Cond.codeWith yL_drop cL_drop 4 (some .int) [(0, 9, 12, 15)] ∈ gw := gw_in (t_in_5 (List.mem_of_getElem? (i := 122) rfl)) rfl
theorem cdL_drop : CDH mL_drop := ⟨q_1237, q_155, by decide +kernel, ⟨by decide +kernel, by decide +kernel⟩, fun _ => trivial⟩
abbrev mL_keep : MD := (yL_keep, cL_keep, 5, some .int, [(0, 10, 13, 15)], tt)
theorem q_1254 : Cond.codeWith yL_keep cL_keep 5 (some .int) [(0, 10, 13, 15)] ∈ gw := gw_in (t_in_5 (List.mem_of_getElem? (i := 139) rfl)) rfl
theorem cdL_keep : CDH mL_keep := ⟨q_1254, q_155, by decide +kernel, ⟨by decide +kernel, by decide +kernel⟩, fun _ => trivial⟩
abbrev mL_unkeep : MD := (yL_unkeep, cL_unkeep, 4, some .int, [(0, 9, 12, 15)], tt)
theorem q_1301 : Cond.codeWith yL_unkeep cL_unkeep 4 (some .int) [(0, 9, 12, 15)] ∈ gw := gw_in (t_in_5 (List.mem_of_getElem? (i := 186) rfl)) rfl
theorem cdL_unkeep : CDH mL_unkeep := ⟨q_1301, q_155, by decide +kernel, ⟨by decide +kernel, by decide +kernel⟩, fun _ => trivial⟩
abbrev mL_nodes : MD := (yL_nodes, cL_nodes, 4, some .int, [(0, 9, 12, 31)], tt)
theorem q_1318 : Cond.codeWith yL_nodes cL_nodes 4 (some .int) [(0, 9, 12, 31)] ∈ gw := gw_in (t_in_5 (List.mem_of_getElem? (i := 203) rfl)) rfl
theorem cdL_nodes : CDH mL_nodes := ⟨q_1318, q_155, by decide +kernel, ⟨by decide +kernel, by decide +kernel⟩, fun _ => trivial⟩
abbrev mL_nodeOf : MD := (yL_nodeOf, cL_nodeOf, 6, some .int, [(0, 12, 15, 31), (0, 12, 19, 13)], tt)
theorem q_1345 : Cond.codeWith yL_nodeOf cL_nodeOf 6 (some .int) [(0, 12, 15, 31), (0, 12, 19, 13)] ∈ gw := gw_in (t_in_5 (List.mem_of_getElem? (i := 230) rfl)) rfl
theorem cdL_nodeOf : CDH mL_nodeOf := ⟨q_1345, q_155, by decide +kernel, ⟨by decide +kernel, by decide +kernel⟩, fun _ => trivial⟩
abbrev mL_signOf : MD := (yL_signOf, cL_signOf, 5, some .int, [(0, 10, 13, 31), (0, 10, 17, 41)], tt)
theorem q_1360 : Cond.codeWith yL_signOf cL_signOf 5 (some .int) [(0, 10, 13, 31), (0, 10, 17, 41)] ∈ gw := gw_in (t_in_6 (List.mem_of_getElem? (i := 5) rfl)) rfl
theorem cdL_signOf : CDH mL_signOf := ⟨q_1360, q_155, by decide +kernel, ⟨by decide +kernel, by decide +kernel⟩, fun _ => trivial⟩
abbrev mL_binder : MD := (yL_binder, cL_binder, 5, some .int, [(0, 10, 13, 31), (0, 10, 17, 41)], tt)
theorem q_1384 : Cond.codeWith yL_binder cL_binder 5 (some .int) [(0, 10, 13, 31), (0, 10, 17, 41)] ∈ gw := gw_in (t_in_6 (List.mem_of_getElem? (i := 29) rfl)) rfl
theorem cdL_binder : CDH mL_binder := ⟨q_1384, q_155, by decide +kernel, ⟨by decide +kernel, by decide +kernel⟩, fun _ => trivial⟩
abbrev mL_uses : MD := (yL_uses, cL_uses, 5, some .int, [(0, 10, 13, 31), (0, 10, 17, 13)], tt)
theorem q_1392 : Cond.codeWith yL_uses cL_uses 5 (some .int) [(0, 10, 13, 31), (0, 10, 17, 13)] ∈ gw := gw_in (t_in_6 (List.mem_of_getElem? (i := 37) rfl)) rfl
theorem cdL_uses : CDH mL_uses := ⟨q_1392, q_155, by decide +kernel, ⟨by decide +kernel, by decide +kernel⟩, fun _ => trivial⟩
abbrev mL_unbound : MD := (yL_unbound, cL_unbound, 4, some .int, [(0, 9, 12, 31)], tt)
theorem q_1404 : Cond.codeWith yL_unbound cL_unbound 4 (some .int) [(0, 9, 12, 31)] ∈ gw := gw_in (t_in_6 (List.mem_of_getElem? (i := 49) rfl)) rfl
theorem cdL_unbound : CDH mL_unbound := ⟨q_1404, q_155, by decide +kernel, ⟨by decide +kernel, by decide +kernel⟩, fun _ => trivial⟩
abbrev mL_isTyped : MD := (yL_isTyped, cL_isTyped, 4, some .int, [(0, 16, 19, 31)], tt)
theorem q_1411 : Cond.codeWith yL_isTyped cL_isTyped 4 (some .int) [(0, 16, 19, 31)] ∈ gw := gw_in (t_in_6 (List.mem_of_getElem? (i := 56) rfl)) rfl
theorem cdL_isTyped : CDH mL_isTyped := ⟨q_1411, q_155, by decide +kernel, ⟨by decide +kernel, by decide +kernel⟩, fun _ => trivial⟩
abbrev mL_failure : MD := (yL_failure, cL_failure, 5, some .int, [(0, 10, 13, 31), (0, 10, 17, 13), (0, 10, 21, 41)], tt)
theorem q_1418 : Cond.codeWith yL_failure cL_failure 5 (some .int) [(0, 10, 13, 31), (0, 10, 17, 13), (0, 10, 21, 41)] ∈ gw := gw_in (t_in_6 (List.mem_of_getElem? (i := 63) rfl)) rfl
theorem cdL_failure : CDH mL_failure := ⟨q_1418, q_155, by decide +kernel, ⟨by decide +kernel, by decide +kernel⟩, fun _ => trivial⟩
abbrev mL_typeOf : MD := (yL_typeOf, cL_typeOf, 5, some .int, [(0, 10, 13, 31), (0, 10, 17, 13), (0, 10, 21, 62)], tt)
theorem q_1427 : Cond.codeWith yL_typeOf cL_typeOf 5 (some .int) [(0, 10, 13, 31), (0, 10, 17, 13), (0, 10, 21, 62)] ∈ gw := gw_in (t_in_6 (List.mem_of_getElem? (i := 72) rfl)) rfl
theorem cdL_typeOf : CDH mL_typeOf := ⟨q_1427, q_155, by decide +kernel, ⟨by decide +kernel, by decide +kernel⟩, fun _ => trivial⟩
abbrev mL_typeAgain : MD := (yL_typeAgain, cL_typeAgain, 5, some .int, [(0, 10, 13, 31), (0, 10, 17, 13), (0, 10, 21, 62)], tt)
theorem q_1459 : Cond.codeWith yL_typeAgain cL_typeAgain 5 (some .int) [(0, 10, 13, 31), (0, 10, 17, 13), (0, 10, 21, 62)] ∈ gw := gw_in (t_in_6 (List.mem_of_getElem? (i := 104) rfl)) rfl
theorem cdL_typeAgain : CDH mL_typeAgain := ⟨q_1459, q_155, by decide +kernel, ⟨by decide +kernel, by decide +kernel⟩, fun _ => trivial⟩
abbrev mL_nodeType : MD := (yL_nodeType, cL_nodeType, 6, some .int, [(0, 12, 15, 31), (0, 12, 19, 13), (0, 12, 23, 62)], tt)
theorem q_1467 : Cond.codeWith yL_nodeType cL_nodeType 6 (some .int) [(0, 12, 15, 31), (0, 12, 19, 13), (0, 12, 23, 62)] ∈ gw := gw_in (t_in_6 (List.mem_of_getElem? (i := 112) rfl)) rfl
theorem cdL_nodeType : CDH mL_nodeType := ⟨q_1467, q_155, by decide +kernel, ⟨by decide +kernel, by decide +kernel⟩, fun _ => trivial⟩
abbrev mL_isAlike : MD := (yL_isAlike, cL_isAlike, 5, some .int, [(0, 17, 20, 31), (0, 17, 24, 62)], tt)
theorem q_1478 : Cond.codeWith yL_isAlike cL_isAlike 5 (some .int) [(0, 17, 20, 31), (0, 17, 24, 62)] ∈ gw := gw_in (t_in_6 (List.mem_of_getElem? (i := 123) rfl)) rfl
theorem cdL_isAlike : CDH mL_isAlike := ⟨q_1478, q_155, by decide +kernel, ⟨by decide +kernel, by decide +kernel⟩, fun _ => trivial⟩
abbrev mL_isAsGeneral : MD := (yL_isAsGeneral, cL_isAsGeneral, 5, some .int, [(0, 17, 20, 31), (0, 17, 24, 62)], tt)
theorem q_1485 : Cond.codeWith yL_isAsGeneral cL_isAsGeneral 5 (some .int) [(0, 17, 20, 31), (0, 17, 24, 62)] ∈ gw := gw_in (t_in_6 (List.mem_of_getElem? (i := 130) rfl)) rfl
theorem cdL_isAsGeneral : CDH mL_isAsGeneral := ⟨q_1485, q_155, by decide +kernel, ⟨by decide +kernel, by decide +kernel⟩, fun _ => trivial⟩
abbrev mL_fit : MD := (yL_fit, cL_fit, 5, some .int, [(0, 10, 13, 31), (0, 10, 17, 62), (0, 10, 21, 41)], tt)
theorem q_1505 : Cond.codeWith yL_fit cL_fit 5 (some .int) [(0, 10, 13, 31), (0, 10, 17, 62), (0, 10, 21, 41)] ∈ gw := gw_in (t_in_6 (List.mem_of_getElem? (i := 150) rfl)) rfl
theorem cdL_fit : CDH mL_fit := ⟨q_1505, q_155, by decide +kernel, ⟨by decide +kernel, by decide +kernel⟩, fun _ => trivial⟩
abbrev mL_fitting : MD := (yL_fitting, cL_fitting, 4, some .int, [(0, 9, 12, 31), (0, 9, 15, 62)], tt)
theorem q_1517 : Cond.codeWith yL_fitting cL_fitting 4 (some .int) [(0, 9, 12, 31), (0, 9, 15, 62)] ∈ gw := gw_in (t_in_6 (List.mem_of_getElem? (i := 162) rfl)) rfl
theorem cdL_fitting : CDH mL_fitting := ⟨q_1517, q_155, by decide +kernel, ⟨by decide +kernel, by decide +kernel⟩, fun _ => trivial⟩
abbrev mL_isKept : MD := (yL_isKept, cL_isKept, 4, some .int, [(0, 16, 19, 31)], tt)
theorem q_1524 : Cond.codeWith yL_isKept cL_isKept 4 (some .int) [(0, 16, 19, 31)] ∈ gw := gw_in (t_in_6 (List.mem_of_getElem? (i := 169) rfl)) rfl
theorem cdL_isKept : CDH mL_isKept := ⟨q_1524, q_155, by decide +kernel, ⟨by decide +kernel, by decide +kernel⟩, fun _ => trivial⟩
abbrev mL_largest : MD := (yL_largest, cL_largest, 3, some .int, [(0, 8, 11, 41)], tt)
theorem q_1535 : Cond.codeWith yL_largest cL_largest 3 (some .int) [(0, 8, 11, 41)] ∈ gw := gw_in (t_in_6 (List.mem_of_getElem? (i := 180) rfl)) rfl
theorem cdL_largest : CDH mL_largest := ⟨q_1535, q_155, by decide +kernel, ⟨by decide +kernel, by decide +kernel⟩, fun _ => trivial⟩
abbrev mL_ranked : MD := (yL_ranked, cL_ranked, 4, some .int, [(0, 9, 12, 41)], tt)
theorem q_1543 : Cond.codeWith yL_ranked cL_ranked 4 (some .int) [(0, 9, 12, 41)] ∈ gw := gw_in (t_in_6 (List.mem_of_getElem? (i := 188) rfl)) rfl
theorem cdL_ranked : CDH mL_ranked := ⟨q_1543, q_155, by decide +kernel, ⟨by decide +kernel, by decide +kernel⟩, fun _ => trivial⟩
abbrev mL_append : MD := (yL_append, cL_append, 4, some .int, [(0, 9, 12, 13), (0, 9, 15, 62)], tt)
theorem q_1559 : Cond.codeWith yL_append cL_append 4 (some .int) [(0, 9, 12, 13), (0, 9, 15, 62)] ∈ gw := gw_in (t_in_6 (List.mem_of_getElem? (i := 204) rfl)) rfl
theorem cdL_append : CDH mL_append := ⟨q_1559, q_155, by decide +kernel, ⟨by decide +kernel, by decide +kernel⟩, fun _ => trivial⟩
abbrev mL_run : MD := (yL_run, cL_run, 3, some .int, [(0, 8, 11, 13), (0, 8, 14, 15)], tt)
theorem q_1585 : Cond.codeWith yL_run cL_run 3 (some .int) [(0, 8, 11, 13), (0, 8, 14, 15)] ∈ gw := gw_in (t_in_6 (List.mem_of_getElem? (i := 230) rfl)) rfl
theorem cdL_run : CDH mL_run := ⟨q_1585, q_155, by decide +kernel, ⟨by decide +kernel, by decide +kernel⟩, fun _ => trivial⟩
abbrev mL_reason : MD := (yL_reason, cL_reason, 5, some .int, [(0, 10, 13, 13), (0, 10, 17, 41)], tt)
theorem q_1608 : Cond.codeWith yL_reason cL_reason 5 (some .int) [(0, 10, 13, 13), (0, 10, 17, 41)] ∈ gw := gw_in (t_in_7 (List.mem_of_getElem? (i := 13) rfl)) rfl
theorem cdL_reason : CDH mL_reason := ⟨q_1608, q_155, by decide +kernel, ⟨by decide +kernel, by decide +kernel⟩, fun _ => trivial⟩
abbrev mL_tell : MD := (yL_tell, cL_tell, 4, some .int, [(0, 9, 12, 31), (0, 9, 15, 62)], tt)
theorem q_1617 : Cond.codeWith yL_tell cL_tell 4 (some .int) [(0, 9, 12, 31), (0, 9, 15, 62)] ∈ gw := gw_in (t_in_7 (List.mem_of_getElem? (i := 22) rfl)) rfl
theorem cdL_tell : CDH mL_tell := ⟨q_1617, q_155, by decide +kernel, ⟨by decide +kernel, by decide +kernel⟩, fun _ => trivial⟩
abbrev mL_tellNode : MD := (yL_tellNode, cL_tellNode, 5, some .int, [(0, 10, 13, 31), (0, 10, 17, 62)], tt)
theorem q_1638 : Cond.codeWith yL_tellNode cL_tellNode 5 (some .int) [(0, 10, 13, 31), (0, 10, 17, 62)] ∈ gw := gw_in (t_in_7 (List.mem_of_getElem? (i := 43) rfl)) rfl
theorem cdL_tellNode : CDH mL_tellNode := ⟨q_1638, q_155, by decide +kernel, ⟨by decide +kernel, by decide +kernel⟩, fun _ => trivial⟩
abbrev mL_tellKept : MD := (yL_tellKept, cL_tellKept, 4, some .int, [(0, 9, 12, 31), (0, 9, 15, 41)], tt)
theorem q_1645 : Cond.codeWith yL_tellKept cL_tellKept 4 (some .int) [(0, 9, 12, 31), (0, 9, 15, 41)] ∈ gw := gw_in (t_in_7 (List.mem_of_getElem? (i := 50) rfl)) rfl
theorem cdL_tellKept : CDH mL_tellKept := ⟨q_1645, q_155, by decide +kernel, ⟨by decide +kernel, by decide +kernel⟩, fun _ => trivial⟩
abbrev mL_tellTerm : MD := (yL_tellTerm, cL_tellTerm, 4, some .int, [(0, 9, 12, 31)], tt)
theorem q_1653 : Cond.codeWith yL_tellTerm cL_tellTerm 4 (some .int) [(0, 9, 12, 31)] ∈ gw := gw_in (t_in_7 (List.mem_of_getElem? (i := 58) rfl)) rfl
theorem cdL_tellTerm : CDH mL_tellTerm := ⟨q_1653, q_155, by decide +kernel, ⟨by decide +kernel, by decide +kernel⟩, fun _ => trivial⟩
abbrev mL_character : MD := (yL_character, cL_character, 4, some .int, [(0, 9, 12, 31)], tt)
theorem q_1673 : Cond.codeWith yL_character cL_character 4 (some .int) [(0, 9, 12, 31)] ∈ gw := gw_in (t_in_7 (List.mem_of_getElem? (i := 78) rfl)) rfl
theorem cdL_character : CDH mL_character := ⟨q_1673, q_155, by decide +kernel, ⟨by decide +kernel, by decide +kernel⟩, fun _ => trivial⟩
abbrev mL_account : MD := (yL_account, cL_account, 4, some .int, [(0, 9, 12, 13)], tt)
theorem q_1681 : Cond.codeWith yL_account cL_account 4 (some .int) [(0, 9, 12, 13)] ∈ gw := gw_in (t_in_7 (List.mem_of_getElem? (i := 86) rfl)) rfl
theorem cdL_account : CDH mL_account := ⟨q_1681, q_155, by decide +kernel, ⟨by decide +kernel, by decide +kernel⟩, fun _ => trivial⟩
abbrev mL_meanSize : MD := (yL_meanSize, cL_meanSize, 3, some .int, [(0, 7, 10, 126)], tt)
theorem q_1705 : Cond.codeWith yL_meanSize cL_meanSize 3 (some .int) [(0, 7, 10, 126)] ∈ gw := gw_in (t_in_7 (List.mem_of_getElem? (i := 110) rfl)) rfl
theorem cdL_meanSize : CDH mL_meanSize := ⟨q_1705, q_155, by decide +kernel, ⟨by decide +kernel, by decide +kernel⟩, fun _ => trivial⟩
abbrev mL_typedShare : MD := (yL_typedShare, cL_typedShare, 3, some .int, [(0, 8, 11, 126)], tt)
theorem q_1728 : Cond.codeWith yL_typedShare cL_typedShare 3 (some .int) [(0, 8, 11, 126)] ∈ gw := gw_in (t_in_7 (List.mem_of_getElem? (i := 133) rfl)) rfl
theorem cdL_typedShare : CDH mL_typedShare := ⟨q_1728, q_155, by decide +kernel, ⟨by decide +kernel, by decide +kernel⟩, fun _ => trivial⟩
abbrev mL_undo : MD := (yL_undo, cL_undo, 3, some .int, [(0, 8, 11, 62)], tt)
theorem q_1736 : Cond.codeWith yL_undo cL_undo 3 (some .int) [(0, 8, 11, 62)] ∈ gw := gw_in (t_in_7 (List.mem_of_getElem? (i := 141) rfl)) rfl
theorem cdL_undo : CDH mL_undo := ⟨q_1736, q_155, by decide +kernel, ⟨by decide +kernel, by decide +kernel⟩, fun _ => trivial⟩
abbrev mL_restore : MD := (yL_restore, cL_restore, 3, some .int, [(0, 8, 11, 62)], tt)
theorem q_1749 : Cond.codeWith yL_restore cL_restore 3 (some .int) [(0, 8, 11, 62)] ∈ gw := gw_in (t_in_7 (List.mem_of_getElem? (i := 154) rfl)) rfl
theorem cdL_restore : CDH mL_restore := ⟨q_1749, q_155, by decide +kernel, ⟨by decide +kernel, by decide +kernel⟩, fun _ => trivial⟩
theorem q_203 : Cond.code yJ4_init_da8c8 cJ4_init_da8c8 1 (none) ∈ gw := gw_in (t_in_1 (List.mem_of_getElem? (i := 48) rfl)) rfl
theorem cdJ4_init_da8c8 : CD mJ4_init_da8c8 := ⟨q_203, q_158, by decide +kernel, ⟨by decide +kernel, by decide +kernel⟩, rfl, fun _ => trivial⟩
theorem q_206 : Cond.code yJ5_init_d00df cJ5_init_d00df 2 (none) ∈ gw := gw_in (t_in_1 (List.mem_of_getElem? (i := 51) rfl)) rfl
theorem q_157 : Cond.initialized RJ5 ∈ gw := gw_in (t_in_1 (List.mem_of_getElem? (i := 2) rfl)) rfl
theorem cdJ5_init_d00df : CD mJ5_init_d00df := ⟨q_206, q_157, by decide +kernel, ⟨by decide +kernel, by decide +kernel⟩, rfl, fun _ => trivial⟩
theorem q_744 : Cond.code yJ4_length_8abf5 cJ4_length_8abf5 1 (some .int) ∈ gw := gw_in (t_in_3 (List.mem_of_getElem? (i := 109) rfl)) rfl
theorem cdJ4_length_8abf5 : CD mJ4_length_8abf5 := ⟨q_744, q_158, by decide +kernel, ⟨by decide +kernel, by decide +kernel⟩, rfl, fun _ => trivial⟩
theorem q_747 : Cond.code yJ5_length_8abf5 cJ5_length_8abf5 1 (some .int) ∈ gw := gw_in (t_in_3 (List.mem_of_getElem? (i := 112) rfl)) rfl
theorem cdJ5_length_8abf5 : CD mJ5_length_8abf5 := ⟨q_747, q_157, by decide +kernel, ⟨by decide +kernel, by decide +kernel⟩, rfl, fun _ => trivial⟩
theorem q_809 : Cond.code yJ4_setLength_d00df cJ4_setLength_d00df 2 (none) ∈ gw := gw_in (t_in_3 (List.mem_of_getElem? (i := 174) rfl)) rfl
theorem cdJ4_setLength_d00df : CD mJ4_setLength_d00df := ⟨q_809, q_158, by decide +kernel, ⟨by decide +kernel, by decide +kernel⟩, rfl, fun _ => trivial⟩
theorem q_812 : Cond.code yJ5_setLength_d00df cJ5_setLength_d00df 2 (none) ∈ gw := gw_in (t_in_3 (List.mem_of_getElem? (i := 177) rfl)) rfl
theorem cdJ5_setLength_d00df : CD mJ5_setLength_d00df := ⟨q_812, q_157, by decide +kernel, ⟨by decide +kernel, by decide +kernel⟩, rfl, fun _ => trivial⟩
theorem q_835 : Cond.code yJ5_ensureCapacityInternal_d00df cJ5_ensureCapacityInternal_d00df 3 (none) ∈ gw := gw_in (t_in_3 (List.mem_of_getElem? (i := 200) rfl)) rfl
theorem cdJ5_ensureCapacityInternal_d00df : CD mJ5_ensureCapacityInternal_d00df := ⟨q_835, q_157, by decide +kernel, ⟨by decide +kernel, by decide +kernel⟩, rfl, fun _ => trivial⟩
theorem q_839 : Cond.code yJ5_newCapacity_0f7a4 cJ5_newCapacity_0f7a4 6 (some .int) ∈ gw := gw_in (t_in_3 (List.mem_of_getElem? (i := 204) rfl)) rfl
theorem cdJ5_newCapacity_0f7a4 : CD mJ5_newCapacity_0f7a4 := ⟨q_839, q_157, by decide +kernel, ⟨by decide +kernel, by decide +kernel⟩, rfl, fun _ => trivial⟩
theorem q_842 : Cond.code yJ8_newLength_cabcc cJ8_newLength_cabcc 4 (some .int) ∈ gw := gw_in (t_in_3 (List.mem_of_getElem? (i := 207) rfl)) rfl
theorem q_176 : Cond.initialized RJ8 ∈ gw := gw_in (t_in_1 (List.mem_of_getElem? (i := 21) rfl)) rfl
theorem cdJ8_newLength_cabcc : CD mJ8_newLength_cabcc := ⟨q_842, q_176, by decide +kernel, ⟨by decide +kernel, by decide +kernel⟩, rfl, fun _ => trivial⟩
theorem q_514 : Cond.code yJ7_copyOf_59c91 cJ7_copyOf_59c91 3 (some (.array .int)) ∈ gw := gw_in (t_in_2 (List.mem_of_getElem? (i := 119) rfl)) rfl
theorem q_177 : Cond.initialized RJ7 ∈ gw := gw_in (t_in_1 (List.mem_of_getElem? (i := 22) rfl)) rfl
theorem cdJ7_copyOf_59c91 : CD mJ7_copyOf_59c91 := ⟨q_514, q_177, by decide +kernel, ⟨by decide +kernel, by decide +kernel⟩, rfl, fun _ => trivial⟩
theorem q_851 : Cond.code yJ7_copyOf_9075b cJ7_copyOf_9075b 3 (some (.array .byte)) ∈ gw := gw_in (t_in_3 (List.mem_of_getElem? (i := 216) rfl)) rfl
theorem cdJ7_copyOf_9075b : CD mJ7_copyOf_9075b := ⟨q_851, q_177, by decide +kernel, ⟨by decide +kernel, by decide +kernel⟩, rfl, fun _ => trivial⟩
theorem q_1569 : Cond.code yJ4_append_cf468 cJ4_append_cf468 2 (some (.object "java/lang/StringBuilder")) ∈ gw := gw_in (t_in_6 (List.mem_of_getElem? (i := 214) rfl)) rfl
theorem cdJ4_append_cf468 : CD mJ4_append_cf468 := ⟨q_1569, q_158, by decide +kernel, ⟨by decide +kernel, by decide +kernel⟩, rfl, fun _ => trivial⟩
theorem q_1572 : Cond.code yJ5_append_3fe6f cJ5_append_3fe6f 2 (some (.object "java/lang/AbstractStringBuilder")) ∈ gw := gw_in (t_in_6 (List.mem_of_getElem? (i := 217) rfl)) rfl
theorem cdJ5_append_3fe6f : CD mJ5_append_3fe6f := ⟨q_1572, q_157, by decide +kernel, ⟨by decide +kernel, by decide +kernel⟩, rfl, fun _ => trivial⟩
theorem q_861 : Cond.code yJ5_isLatin1_aae02 cJ5_isLatin1_aae02 1 (some .boolean) ∈ gw := gw_in (t_in_3 (List.mem_of_getElem? (i := 226) rfl)) rfl
theorem cdJ5_isLatin1_aae02 : CD mJ5_isLatin1_aae02 := ⟨q_861, q_157, by decide +kernel, ⟨by decide +kernel, by decide +kernel⟩, rfl, fun _ => trivial⟩
theorem q_1575 : Cond.code yJ1_canEncode_fc78d cJ1_canEncode_fc78d 1 (some .boolean) ∈ gw := gw_in (t_in_6 (List.mem_of_getElem? (i := 220) rfl)) rfl
theorem q_179 : Cond.initialized RJ1 ∈ gw := gw_in (t_in_1 (List.mem_of_getElem? (i := 24) rfl)) rfl
theorem cdJ1_canEncode_fc78d : CD mJ1_canEncode_fc78d := ⟨q_1575, q_179, by decide +kernel, ⟨by decide +kernel, by decide +kernel⟩, rfl, fun _ => trivial⟩
theorem q_751 : Cond.code yJ4_charAt_5068e cJ4_charAt_5068e 2 (some .char) ∈ gw := gw_in (t_in_3 (List.mem_of_getElem? (i := 116) rfl)) rfl
theorem cdJ4_charAt_5068e : CD mJ4_charAt_5068e := ⟨q_751, q_158, by decide +kernel, ⟨by decide +kernel, by decide +kernel⟩, rfl, fun _ => trivial⟩
theorem q_754 : Cond.code yJ5_charAt_5068e cJ5_charAt_5068e 5 (some .char) ∈ gw := gw_in (t_in_3 (List.mem_of_getElem? (i := 119) rfl)) rfl
theorem cdJ5_charAt_5068e : CD mJ5_charAt_5068e := ⟨q_754, q_157, by decide +kernel, ⟨by decide +kernel, by decide +kernel⟩, rfl, fun _ => trivial⟩
theorem q_758 : Cond.code yJ0_checkIndex_df160 cJ0_checkIndex_df160 2 (none) ∈ gw := gw_in (t_in_3 (List.mem_of_getElem? (i := 123) rfl)) rfl
theorem q_159 : Cond.initialized RJ0 ∈ gw := gw_in (t_in_1 (List.mem_of_getElem? (i := 4) rfl)) rfl
theorem cdJ0_checkIndex_df160 : CD mJ0_checkIndex_df160 := ⟨q_758, q_159, by decide +kernel, ⟨by decide +kernel, by decide +kernel⟩, rfl, fun _ => trivial⟩
theorem q_923 : Cond.code yJ4_append_bf812 cJ4_append_bf812 2 (some (.object "java/lang/StringBuilder")) ∈ gw := gw_in (t_in_4 (List.mem_of_getElem? (i := 48) rfl)) rfl
theorem cdJ4_append_bf812 : CD mJ4_append_bf812 := ⟨q_923, q_158, by decide +kernel, ⟨by decide +kernel, by decide +kernel⟩, rfl, fun _ => trivial⟩
theorem q_926 : Cond.code yJ5_append_c97b9 cJ5_append_c97b9 4 (some (.object "java/lang/AbstractStringBuilder")) ∈ gw := gw_in (t_in_4 (List.mem_of_getElem? (i := 51) rfl)) rfl
theorem cdJ5_append_c97b9 : CD mJ5_append_c97b9 := ⟨q_926, q_157, by decide +kernel, ⟨by decide +kernel, by decide +kernel⟩, rfl, fun _ => trivial⟩
theorem q_929 : Cond.code yJ6_stringSize_0f7a4 cJ6_stringSize_0f7a4 4 (some .int) ∈ gw := gw_in (t_in_4 (List.mem_of_getElem? (i := 54) rfl)) rfl
theorem q_181 : Cond.initialized RJ6 ∈ gw := gw_in (t_in_1 (List.mem_of_getElem? (i := 26) rfl)) rfl
theorem cdJ6_stringSize_0f7a4 : CD mJ6_stringSize_0f7a4 := ⟨q_929, q_181, by decide +kernel, ⟨by decide +kernel, by decide +kernel⟩, rfl, fun _ => trivial⟩
theorem q_932 : Cond.code yJ6_getChars_ba4f3 cJ6_getChars_ba4f3 7 (some .int) ∈ gw := gw_in (t_in_4 (List.mem_of_getElem? (i := 57) rfl)) rfl
theorem cdJ6_getChars_ba4f3 : CD mJ6_getChars_ba4f3 := ⟨q_932, q_181, by decide +kernel, ⟨by decide +kernel, by decide +kernel⟩, rfl, fun _ => trivial⟩
theorem q_196 : Cond.methodLink RX10 3 ⟨"java/lang/Object", "<init>", "()V"⟩ ∈ gw := gw_in (t_in_1 (List.mem_of_getElem? (i := 41) rfl)) rfl
theorem q_197 : Cond.instanceMethod ⟨"java/lang/Object", "<init>", "()V"⟩ ∈ gw := gw_in (t_in_1 (List.mem_of_getElem? (i := 42) rfl)) rfl
theorem oX10_3 : LKO RX10 3 := ⟨q_196, q_197, q_oc⟩
theorem q_201 : Cond.methodLink RX10 11 yJ4_init_da8c8 ∈ gw := gw_in (t_in_1 (List.mem_of_getElem? (i := 46) rfl)) rfl
theorem q_202 : Cond.instanceMethod yJ4_init_da8c8 ∈ gw := gw_in (t_in_1 (List.mem_of_getElem? (i := 47) rfl)) rfl
theorem lX10_11 : LKI RX10 11 mJ4_init_da8c8 0 := ⟨cdJ4_init_da8c8, by decide, by decide +kernel, q_202, rfl, rfl, Or.inl q_201⟩
theorem q_806 : Cond.methodLink RX10 73 yJ4_setLength_d00df ∈ gw := gw_in (t_in_3 (List.mem_of_getElem? (i := 171) rfl)) rfl
theorem q_807 : Cond.instanceMethod yJ4_setLength_d00df ∈ gw := gw_in (t_in_3 (List.mem_of_getElem? (i := 172) rfl)) rfl
theorem q_808 : Cond.selects RJ4 yJ4_setLength_d00df yJ4_setLength_d00df ∈ gw := gw_in (t_in_3 (List.mem_of_getElem? (i := 173) rfl)) rfl
theorem lX10_73 : LKV RX10 73 mJ4_setLength_d00df 0 1 := ⟨cdJ4_setLength_d00df, by decide, by decide +kernel, q_807, q_808, Or.inl q_806, _, _, _, kc_J4⟩
theorem q_1207 : Cond.methodLink RX10 236 yJ4_length_8abf5 ∈ gw := gw_in (t_in_5 (List.mem_of_getElem? (i := 92) rfl)) rfl
theorem q_742 : Cond.instanceMethod yJ4_length_8abf5 ∈ gw := gw_in (t_in_3 (List.mem_of_getElem? (i := 107) rfl)) rfl
theorem q_743 : Cond.selects RJ4 yJ4_length_8abf5 yJ4_length_8abf5 ∈ gw := gw_in (t_in_3 (List.mem_of_getElem? (i := 108) rfl)) rfl
theorem lX10_236 : LKV RX10 236 mJ4_length_8abf5 0 0 := ⟨cdJ4_length_8abf5, by decide, by decide +kernel, q_742, q_743, Or.inl q_1207, _, _, _, kc_J4⟩
theorem q_1566 : Cond.methodLink RX10 241 yJ4_append_cf468 ∈ gw := gw_in (t_in_6 (List.mem_of_getElem? (i := 211) rfl)) rfl
theorem q_1567 : Cond.instanceMethod yJ4_append_cf468 ∈ gw := gw_in (t_in_6 (List.mem_of_getElem? (i := 212) rfl)) rfl
theorem q_1568 : Cond.selects RJ4 yJ4_append_cf468 yJ4_append_cf468 ∈ gw := gw_in (t_in_6 (List.mem_of_getElem? (i := 213) rfl)) rfl
theorem lX10_241 : LKV RX10 241 mJ4_append_cf468 0 1 := ⟨cdJ4_append_cf468, by decide, by decide +kernel, q_1567, q_1568, Or.inl q_1566, _, _, _, kc_J4⟩
theorem q_1208 : Cond.methodLink RX10 297 yJ4_charAt_5068e ∈ gw := gw_in (t_in_5 (List.mem_of_getElem? (i := 93) rfl)) rfl
theorem q_749 : Cond.instanceMethod yJ4_charAt_5068e ∈ gw := gw_in (t_in_3 (List.mem_of_getElem? (i := 114) rfl)) rfl
theorem q_750 : Cond.selects RJ4 yJ4_charAt_5068e yJ4_charAt_5068e ∈ gw := gw_in (t_in_3 (List.mem_of_getElem? (i := 115) rfl)) rfl
theorem lX10_297 : LKV RX10 297 mJ4_charAt_5068e 0 1 := ⟨cdJ4_charAt_5068e, by decide, by decide +kernel, q_749, q_750, Or.inl q_1208, _, _, _, kc_J4⟩
theorem q_257 : Cond.methodLink RX0 3 ⟨"java/lang/Object", "<init>", "()V"⟩ ∈ gw := gw_in (t_in_1 (List.mem_of_getElem? (i := 102) rfl)) rfl
theorem oX0_3 : LKO RX0 3 := ⟨q_257, q_197, q_oc⟩
theorem q_430 : Cond.methodLink RX1 3 ⟨"java/lang/Object", "<init>", "()V"⟩ ∈ gw := gw_in (t_in_2 (List.mem_of_getElem? (i := 35) rfl)) rfl
theorem oX1_3 : LKO RX1 3 := ⟨q_430, q_197, q_oc⟩
theorem q_1593 : Cond.methodLink RX2 9 yJ4_length_8abf5 ∈ gw := gw_in (t_in_6 (List.mem_of_getElem? (i := 238) rfl)) rfl
theorem lX2_9 : LKV RX2 9 mJ4_length_8abf5 0 0 := ⟨cdJ4_length_8abf5, by decide, by decide +kernel, q_742, q_743, Or.inl q_1593, _, _, _, kc_J4⟩
theorem q_1594 : Cond.methodLink RX2 15 yJ4_charAt_5068e ∈ gw := gw_in (t_in_6 (List.mem_of_getElem? (i := 239) rfl)) rfl
theorem lX2_15 : LKV RX2 15 mJ4_charAt_5068e 0 1 := ⟨cdJ4_charAt_5068e, by decide, by decide +kernel, q_749, q_750, Or.inl q_1594, _, _, _, kc_J4⟩
theorem q_318 : Cond.methodLink RX3 3 ⟨"java/lang/Object", "<init>", "()V"⟩ ∈ gw := gw_in (t_in_1 (List.mem_of_getElem? (i := 163) rfl)) rfl
theorem oX3_3 : LKO RX3 3 := ⟨q_318, q_197, q_oc⟩
theorem q_1135 : Cond.methodLink RX4 1 ⟨"java/lang/Object", "<init>", "()V"⟩ ∈ gw := gw_in (t_in_5 (List.mem_of_getElem? (i := 20) rfl)) rfl
theorem oX4_1 : LKO RX4 1 := ⟨q_1135, q_197, q_oc⟩
theorem q_387 : Cond.methodLink RX5 3 ⟨"java/lang/Object", "<init>", "()V"⟩ ∈ gw := gw_in (t_in_1 (List.mem_of_getElem? (i := 232) rfl)) rfl
theorem oX5_3 : LKO RX5 3 := ⟨q_387, q_197, q_oc⟩
theorem q_1630 : Cond.methodLink RX5 69 yJ4_append_cf468 ∈ gw := gw_in (t_in_7 (List.mem_of_getElem? (i := 35) rfl)) rfl
theorem lX5_69 : LKV RX5 69 mJ4_append_cf468 0 1 := ⟨cdJ4_append_cf468, by decide, by decide +kernel, q_1567, q_1568, Or.inl q_1630, _, _, _, kc_J4⟩
theorem q_1635 : Cond.methodLink RX5 82 yJ4_append_bf812 ∈ gw := gw_in (t_in_7 (List.mem_of_getElem? (i := 40) rfl)) rfl
theorem q_921 : Cond.instanceMethod yJ4_append_bf812 ∈ gw := gw_in (t_in_4 (List.mem_of_getElem? (i := 46) rfl)) rfl
theorem q_922 : Cond.selects RJ4 yJ4_append_bf812 yJ4_append_bf812 ∈ gw := gw_in (t_in_4 (List.mem_of_getElem? (i := 47) rfl)) rfl
theorem lX5_82 : LKV RX5 82 mJ4_append_bf812 0 1 := ⟨cdJ4_append_bf812, by decide, by decide +kernel, q_921, q_922, Or.inl q_1635, _, _, _, kc_J4⟩
theorem q_402 : Cond.methodLink RX6 3 ⟨"java/lang/Object", "<init>", "()V"⟩ ∈ gw := gw_in (t_in_2 (List.mem_of_getElem? (i := 7) rfl)) rfl
theorem oX6_3 : LKO RX6 3 := ⟨q_402, q_197, q_oc⟩
theorem q_1173 : Cond.methodLink RX7 3 ⟨"java/lang/Object", "<init>", "()V"⟩ ∈ gw := gw_in (t_in_5 (List.mem_of_getElem? (i := 58) rfl)) rfl
theorem oX7_3 : LKO RX7 3 := ⟨q_1173, q_197, q_oc⟩
theorem q_1666 : Cond.methodLink RX7 43 yJ4_append_cf468 ∈ gw := gw_in (t_in_7 (List.mem_of_getElem? (i := 71) rfl)) rfl
theorem lX7_43 : LKV RX7 43 mJ4_append_cf468 0 1 := ⟨cdJ4_append_cf468, by decide, by decide +kernel, q_1567, q_1568, Or.inl q_1666, _, _, _, kc_J4⟩
theorem q_237 : Cond.methodLink RX8 3 ⟨"java/lang/Object", "<init>", "()V"⟩ ∈ gw := gw_in (t_in_1 (List.mem_of_getElem? (i := 82) rfl)) rfl
theorem oX8_3 : LKO RX8 3 := ⟨q_237, q_197, q_oc⟩
theorem q_741 : Cond.methodLink RX8 22 yJ4_length_8abf5 ∈ gw := gw_in (t_in_3 (List.mem_of_getElem? (i := 106) rfl)) rfl
theorem lX8_22 : LKV RX8 22 mJ4_length_8abf5 0 0 := ⟨cdJ4_length_8abf5, by decide, by decide +kernel, q_742, q_743, Or.inl q_741, _, _, _, kc_J4⟩
theorem q_748 : Cond.methodLink RX8 28 yJ4_charAt_5068e ∈ gw := gw_in (t_in_3 (List.mem_of_getElem? (i := 113) rfl)) rfl
theorem lX8_28 : LKV RX8 28 mJ4_charAt_5068e 0 1 := ⟨cdJ4_charAt_5068e, by decide, by decide +kernel, q_749, q_750, Or.inl q_748, _, _, _, kc_J4⟩
theorem q_263 : Cond.methodLink RX9 3 ⟨"java/lang/Object", "<init>", "()V"⟩ ∈ gw := gw_in (t_in_1 (List.mem_of_getElem? (i := 108) rfl)) rfl
theorem oX9_3 : LKO RX9 3 := ⟨q_263, q_197, q_oc⟩
theorem q_512 : Cond.methodLink RX9 53 yJ7_copyOf_59c91 ∈ gw := gw_in (t_in_2 (List.mem_of_getElem? (i := 117) rfl)) rfl
theorem q_513 : Cond.static yJ7_copyOf_59c91 ∈ gw := gw_in (t_in_2 (List.mem_of_getElem? (i := 118) rfl)) rfl
theorem lX9_53 : LKS RX9 53 mJ7_copyOf_59c91 2 := ⟨cdJ7_copyOf_59c91, by decide, by decide +kernel, q_513, Or.inl q_512⟩
theorem q_733 : Cond.methodLink RL 7 yX10_lesson ∈ gw := gw_in (t_in_3 (List.mem_of_getElem? (i := 98) rfl)) rfl
theorem q_734 : Cond.instanceMethod yX10_lesson ∈ gw := gw_in (t_in_3 (List.mem_of_getElem? (i := 99) rfl)) rfl
theorem q_735 : Cond.selects RX10 yX10_lesson yX10_lesson ∈ gw := gw_in (t_in_3 (List.mem_of_getElem? (i := 100) rfl)) rfl
theorem lL_7 : LKV RL 7 mX10_lesson 10 0 := ⟨cdX10_lesson, by decide, by decide +kernel, q_734, q_735, Or.inl q_733, _, _, _, kc_X10⟩
theorem q_191 : Cond.classLink RL 8 RX10 ∈ gw := gw_in (t_in_1 (List.mem_of_getElem? (i := 36) rfl)) rfl
theorem q_192 : Cond.instantiable RX10 13 ∈ gw := gw_in (t_in_1 (List.mem_of_getElem? (i := 37) rfl)) rfl
theorem nL_8 : NL RL 8 10 13 := ⟨RX10, TX10, tyX10, kc_X10, q_191, q_192, q_156⟩
theorem q_1238 : Cond.methodLink RL 17 yX10_drop ∈ gw := gw_in (t_in_5 (List.mem_of_getElem? (i := 123) rfl)) rfl
theorem q_1239 : Cond.instanceMethod yX10_drop ∈ gw := gw_in (t_in_5 (List.mem_of_getElem? (i := 124) rfl)) rfl
theorem q_1240 : Cond.selects RX10 yX10_drop yX10_drop ∈ gw := gw_in (t_in_5 (List.mem_of_getElem? (i := 125) rfl)) rfl
theorem lL_17 : LKV RL 17 mX10_drop 10 1 := ⟨cdX10_drop, by decide, by decide +kernel, q_1239, q_1240, Or.inl q_1238, _, _, _, kc_X10⟩
theorem q_1255 : Cond.methodLink RL 21 yX10_keep ∈ gw := gw_in (t_in_5 (List.mem_of_getElem? (i := 140) rfl)) rfl
theorem q_1256 : Cond.instanceMethod yX10_keep ∈ gw := gw_in (t_in_5 (List.mem_of_getElem? (i := 141) rfl)) rfl
theorem q_1257 : Cond.selects RX10 yX10_keep yX10_keep ∈ gw := gw_in (t_in_5 (List.mem_of_getElem? (i := 142) rfl)) rfl
theorem lL_21 : LKV RL 21 mX10_keep 10 2 := ⟨cdX10_keep, by decide, by decide +kernel, q_1256, q_1257, Or.inl q_1255, _, _, _, kc_X10⟩
theorem q_1302 : Cond.methodLink RL 25 yX10_unkeep ∈ gw := gw_in (t_in_5 (List.mem_of_getElem? (i := 187) rfl)) rfl
theorem q_1303 : Cond.instanceMethod yX10_unkeep ∈ gw := gw_in (t_in_5 (List.mem_of_getElem? (i := 188) rfl)) rfl
theorem q_1304 : Cond.selects RX10 yX10_unkeep yX10_unkeep ∈ gw := gw_in (t_in_5 (List.mem_of_getElem? (i := 189) rfl)) rfl
theorem lL_25 : LKV RL 25 mX10_unkeep 10 1 := ⟨cdX10_unkeep, by decide, by decide +kernel, q_1303, q_1304, Or.inl q_1302, _, _, _, kc_X10⟩
theorem q_1322 : Cond.methodLink RL 28 yX10_nodes ∈ gw := gw_in (t_in_5 (List.mem_of_getElem? (i := 207) rfl)) rfl
theorem q_1323 : Cond.instanceMethod yX10_nodes ∈ gw := gw_in (t_in_5 (List.mem_of_getElem? (i := 208) rfl)) rfl
theorem q_1324 : Cond.selects RX10 yX10_nodes yX10_nodes ∈ gw := gw_in (t_in_5 (List.mem_of_getElem? (i := 209) rfl)) rfl
theorem lL_28 : LKV RL 28 mX10_nodes 10 1 := ⟨cdX10_nodes, by decide, by decide +kernel, q_1323, q_1324, Or.inl q_1322, _, _, _, kc_X10⟩
theorem q_1346 : Cond.methodLink RL 33 yX10_nodeOf ∈ gw := gw_in (t_in_5 (List.mem_of_getElem? (i := 231) rfl)) rfl
theorem q_1347 : Cond.instanceMethod yX10_nodeOf ∈ gw := gw_in (t_in_5 (List.mem_of_getElem? (i := 232) rfl)) rfl
theorem q_1348 : Cond.selects RX10 yX10_nodeOf yX10_nodeOf ∈ gw := gw_in (t_in_5 (List.mem_of_getElem? (i := 233) rfl)) rfl
theorem lL_33 : LKV RL 33 mX10_nodeOf 10 3 := ⟨cdX10_nodeOf, by decide, by decide +kernel, q_1347, q_1348, Or.inl q_1346, _, _, _, kc_X10⟩
theorem q_1362 : Cond.methodLink RL 37 yX10_signOf ∈ gw := gw_in (t_in_6 (List.mem_of_getElem? (i := 7) rfl)) rfl
theorem q_1363 : Cond.instanceMethod yX10_signOf ∈ gw := gw_in (t_in_6 (List.mem_of_getElem? (i := 8) rfl)) rfl
theorem q_1364 : Cond.selects RX10 yX10_signOf yX10_signOf ∈ gw := gw_in (t_in_6 (List.mem_of_getElem? (i := 9) rfl)) rfl
theorem lL_37 : LKV RL 37 mX10_signOf 10 2 := ⟨cdX10_signOf, by decide, by decide +kernel, q_1363, q_1364, Or.inl q_1362, _, _, _, kc_X10⟩
theorem q_1385 : Cond.methodLink RL 43 yX10_binder ∈ gw := gw_in (t_in_6 (List.mem_of_getElem? (i := 30) rfl)) rfl
theorem q_1386 : Cond.instanceMethod yX10_binder ∈ gw := gw_in (t_in_6 (List.mem_of_getElem? (i := 31) rfl)) rfl
theorem q_1387 : Cond.selects RX10 yX10_binder yX10_binder ∈ gw := gw_in (t_in_6 (List.mem_of_getElem? (i := 32) rfl)) rfl
theorem lL_43 : LKV RL 43 mX10_binder 10 2 := ⟨cdX10_binder, by decide, by decide +kernel, q_1386, q_1387, Or.inl q_1385, _, _, _, kc_X10⟩
theorem q_1393 : Cond.methodLink RL 46 yX10_uses ∈ gw := gw_in (t_in_6 (List.mem_of_getElem? (i := 38) rfl)) rfl
theorem q_1394 : Cond.instanceMethod yX10_uses ∈ gw := gw_in (t_in_6 (List.mem_of_getElem? (i := 39) rfl)) rfl
theorem q_1395 : Cond.selects RX10 yX10_uses yX10_uses ∈ gw := gw_in (t_in_6 (List.mem_of_getElem? (i := 40) rfl)) rfl
theorem lL_46 : LKV RL 46 mX10_uses 10 2 := ⟨cdX10_uses, by decide, by decide +kernel, q_1394, q_1395, Or.inl q_1393, _, _, _, kc_X10⟩
theorem q_1405 : Cond.methodLink RL 49 yX10_unbound ∈ gw := gw_in (t_in_6 (List.mem_of_getElem? (i := 50) rfl)) rfl
theorem q_1406 : Cond.instanceMethod yX10_unbound ∈ gw := gw_in (t_in_6 (List.mem_of_getElem? (i := 51) rfl)) rfl
theorem q_1407 : Cond.selects RX10 yX10_unbound yX10_unbound ∈ gw := gw_in (t_in_6 (List.mem_of_getElem? (i := 52) rfl)) rfl
theorem lL_49 : LKV RL 49 mX10_unbound 10 1 := ⟨cdX10_unbound, by decide, by decide +kernel, q_1406, q_1407, Or.inl q_1405, _, _, _, kc_X10⟩
theorem q_1412 : Cond.methodLink RL 52 yX10_isTyped ∈ gw := gw_in (t_in_6 (List.mem_of_getElem? (i := 57) rfl)) rfl
theorem q_1413 : Cond.instanceMethod yX10_isTyped ∈ gw := gw_in (t_in_6 (List.mem_of_getElem? (i := 58) rfl)) rfl
theorem q_1414 : Cond.selects RX10 yX10_isTyped yX10_isTyped ∈ gw := gw_in (t_in_6 (List.mem_of_getElem? (i := 59) rfl)) rfl
theorem lL_52 : LKV RL 52 mX10_isTyped 10 1 := ⟨cdX10_isTyped, by decide, by decide +kernel, q_1413, q_1414, Or.inl q_1412, _, _, _, kc_X10⟩
theorem q_1419 : Cond.methodLink RL 56 yX10_failure ∈ gw := gw_in (t_in_6 (List.mem_of_getElem? (i := 64) rfl)) rfl
theorem q_1420 : Cond.instanceMethod yX10_failure ∈ gw := gw_in (t_in_6 (List.mem_of_getElem? (i := 65) rfl)) rfl
theorem q_1421 : Cond.selects RX10 yX10_failure yX10_failure ∈ gw := gw_in (t_in_6 (List.mem_of_getElem? (i := 66) rfl)) rfl
theorem lL_56 : LKV RL 56 mX10_failure 10 2 := ⟨cdX10_failure, by decide, by decide +kernel, q_1420, q_1421, Or.inl q_1419, _, _, _, kc_X10⟩
theorem q_1429 : Cond.methodLink RL 59 yX10_typeOf ∈ gw := gw_in (t_in_6 (List.mem_of_getElem? (i := 74) rfl)) rfl
theorem q_1430 : Cond.instanceMethod yX10_typeOf ∈ gw := gw_in (t_in_6 (List.mem_of_getElem? (i := 75) rfl)) rfl
theorem q_1431 : Cond.selects RX10 yX10_typeOf yX10_typeOf ∈ gw := gw_in (t_in_6 (List.mem_of_getElem? (i := 76) rfl)) rfl
theorem lL_59 : LKV RL 59 mX10_typeOf 10 2 := ⟨cdX10_typeOf, by decide, by decide +kernel, q_1430, q_1431, Or.inl q_1429, _, _, _, kc_X10⟩
theorem q_1460 : Cond.methodLink RL 64 yX10_typeAgain ∈ gw := gw_in (t_in_6 (List.mem_of_getElem? (i := 105) rfl)) rfl
theorem q_1461 : Cond.instanceMethod yX10_typeAgain ∈ gw := gw_in (t_in_6 (List.mem_of_getElem? (i := 106) rfl)) rfl
theorem q_1462 : Cond.selects RX10 yX10_typeAgain yX10_typeAgain ∈ gw := gw_in (t_in_6 (List.mem_of_getElem? (i := 107) rfl)) rfl
theorem lL_64 : LKV RL 64 mX10_typeAgain 10 2 := ⟨cdX10_typeAgain, by decide, by decide +kernel, q_1461, q_1462, Or.inl q_1460, _, _, _, kc_X10⟩
theorem q_1468 : Cond.methodLink RL 67 yX10_nodeType ∈ gw := gw_in (t_in_6 (List.mem_of_getElem? (i := 113) rfl)) rfl
theorem q_1469 : Cond.instanceMethod yX10_nodeType ∈ gw := gw_in (t_in_6 (List.mem_of_getElem? (i := 114) rfl)) rfl
theorem q_1470 : Cond.selects RX10 yX10_nodeType yX10_nodeType ∈ gw := gw_in (t_in_6 (List.mem_of_getElem? (i := 115) rfl)) rfl
theorem lL_67 : LKV RL 67 mX10_nodeType 10 3 := ⟨cdX10_nodeType, by decide, by decide +kernel, q_1469, q_1470, Or.inl q_1468, _, _, _, kc_X10⟩
theorem q_1479 : Cond.methodLink RL 70 yX10_isAlike ∈ gw := gw_in (t_in_6 (List.mem_of_getElem? (i := 124) rfl)) rfl
theorem q_1480 : Cond.instanceMethod yX10_isAlike ∈ gw := gw_in (t_in_6 (List.mem_of_getElem? (i := 125) rfl)) rfl
theorem q_1481 : Cond.selects RX10 yX10_isAlike yX10_isAlike ∈ gw := gw_in (t_in_6 (List.mem_of_getElem? (i := 126) rfl)) rfl
theorem lL_70 : LKV RL 70 mX10_isAlike 10 2 := ⟨cdX10_isAlike, by decide, by decide +kernel, q_1480, q_1481, Or.inl q_1479, _, _, _, kc_X10⟩
theorem q_1486 : Cond.methodLink RL 74 yX10_isAsGeneral ∈ gw := gw_in (t_in_6 (List.mem_of_getElem? (i := 131) rfl)) rfl
theorem q_1487 : Cond.instanceMethod yX10_isAsGeneral ∈ gw := gw_in (t_in_6 (List.mem_of_getElem? (i := 132) rfl)) rfl
theorem q_1488 : Cond.selects RX10 yX10_isAsGeneral yX10_isAsGeneral ∈ gw := gw_in (t_in_6 (List.mem_of_getElem? (i := 133) rfl)) rfl
theorem lL_74 : LKV RL 74 mX10_isAsGeneral 10 2 := ⟨cdX10_isAsGeneral, by decide, by decide +kernel, q_1487, q_1488, Or.inl q_1486, _, _, _, kc_X10⟩
theorem q_1506 : Cond.methodLink RL 77 yX10_fit ∈ gw := gw_in (t_in_6 (List.mem_of_getElem? (i := 151) rfl)) rfl
theorem q_1507 : Cond.instanceMethod yX10_fit ∈ gw := gw_in (t_in_6 (List.mem_of_getElem? (i := 152) rfl)) rfl
theorem q_1508 : Cond.selects RX10 yX10_fit yX10_fit ∈ gw := gw_in (t_in_6 (List.mem_of_getElem? (i := 153) rfl)) rfl
theorem lL_77 : LKV RL 77 mX10_fit 10 2 := ⟨cdX10_fit, by decide, by decide +kernel, q_1507, q_1508, Or.inl q_1506, _, _, _, kc_X10⟩
theorem q_1518 : Cond.methodLink RL 80 yX10_fitting ∈ gw := gw_in (t_in_6 (List.mem_of_getElem? (i := 163) rfl)) rfl
theorem q_1519 : Cond.instanceMethod yX10_fitting ∈ gw := gw_in (t_in_6 (List.mem_of_getElem? (i := 164) rfl)) rfl
theorem q_1520 : Cond.selects RX10 yX10_fitting yX10_fitting ∈ gw := gw_in (t_in_6 (List.mem_of_getElem? (i := 165) rfl)) rfl
theorem lL_80 : LKV RL 80 mX10_fitting 10 1 := ⟨cdX10_fitting, by decide, by decide +kernel, q_1519, q_1520, Or.inl q_1518, _, _, _, kc_X10⟩
theorem q_1525 : Cond.methodLink RL 83 yX10_isKept ∈ gw := gw_in (t_in_6 (List.mem_of_getElem? (i := 170) rfl)) rfl
theorem q_1526 : Cond.instanceMethod yX10_isKept ∈ gw := gw_in (t_in_6 (List.mem_of_getElem? (i := 171) rfl)) rfl
theorem q_1527 : Cond.selects RX10 yX10_isKept yX10_isKept ∈ gw := gw_in (t_in_6 (List.mem_of_getElem? (i := 172) rfl)) rfl
theorem lL_83 : LKV RL 83 mX10_isKept 10 1 := ⟨cdX10_isKept, by decide, by decide +kernel, q_1526, q_1527, Or.inl q_1525, _, _, _, kc_X10⟩
theorem q_1536 : Cond.methodLink RL 86 yX10_largest ∈ gw := gw_in (t_in_6 (List.mem_of_getElem? (i := 181) rfl)) rfl
theorem q_1537 : Cond.instanceMethod yX10_largest ∈ gw := gw_in (t_in_6 (List.mem_of_getElem? (i := 182) rfl)) rfl
theorem q_1538 : Cond.selects RX10 yX10_largest yX10_largest ∈ gw := gw_in (t_in_6 (List.mem_of_getElem? (i := 183) rfl)) rfl
theorem lL_86 : LKV RL 86 mX10_largest 10 0 := ⟨cdX10_largest, by decide, by decide +kernel, q_1537, q_1538, Or.inl q_1536, _, _, _, kc_X10⟩
theorem q_1544 : Cond.methodLink RL 89 yX10_ranked ∈ gw := gw_in (t_in_6 (List.mem_of_getElem? (i := 189) rfl)) rfl
theorem q_1545 : Cond.instanceMethod yX10_ranked ∈ gw := gw_in (t_in_6 (List.mem_of_getElem? (i := 190) rfl)) rfl
theorem q_1546 : Cond.selects RX10 yX10_ranked yX10_ranked ∈ gw := gw_in (t_in_6 (List.mem_of_getElem? (i := 191) rfl)) rfl
theorem lL_89 : LKV RL 89 mX10_ranked 10 1 := ⟨cdX10_ranked, by decide, by decide +kernel, q_1545, q_1546, Or.inl q_1544, _, _, _, kc_X10⟩
theorem q_1560 : Cond.methodLink RL 92 yX10_append ∈ gw := gw_in (t_in_6 (List.mem_of_getElem? (i := 205) rfl)) rfl
theorem q_1561 : Cond.instanceMethod yX10_append ∈ gw := gw_in (t_in_6 (List.mem_of_getElem? (i := 206) rfl)) rfl
theorem q_1562 : Cond.selects RX10 yX10_append yX10_append ∈ gw := gw_in (t_in_6 (List.mem_of_getElem? (i := 207) rfl)) rfl
theorem lL_92 : LKV RL 92 mX10_append 10 1 := ⟨cdX10_append, by decide, by decide +kernel, q_1561, q_1562, Or.inl q_1560, _, _, _, kc_X10⟩
theorem q_1586 : Cond.methodLink RL 96 yX10_run ∈ gw := gw_in (t_in_6 (List.mem_of_getElem? (i := 231) rfl)) rfl
theorem q_1587 : Cond.instanceMethod yX10_run ∈ gw := gw_in (t_in_6 (List.mem_of_getElem? (i := 232) rfl)) rfl
theorem q_1588 : Cond.selects RX10 yX10_run yX10_run ∈ gw := gw_in (t_in_6 (List.mem_of_getElem? (i := 233) rfl)) rfl
theorem lL_96 : LKV RL 96 mX10_run 10 0 := ⟨cdX10_run, by decide, by decide +kernel, q_1587, q_1588, Or.inl q_1586, _, _, _, kc_X10⟩
theorem q_1609 : Cond.methodLink RL 99 yX10_reason ∈ gw := gw_in (t_in_7 (List.mem_of_getElem? (i := 14) rfl)) rfl
theorem q_1610 : Cond.instanceMethod yX10_reason ∈ gw := gw_in (t_in_7 (List.mem_of_getElem? (i := 15) rfl)) rfl
theorem q_1611 : Cond.selects RX10 yX10_reason yX10_reason ∈ gw := gw_in (t_in_7 (List.mem_of_getElem? (i := 16) rfl)) rfl
theorem lL_99 : LKV RL 99 mX10_reason 10 2 := ⟨cdX10_reason, by decide, by decide +kernel, q_1610, q_1611, Or.inl q_1609, _, _, _, kc_X10⟩
theorem q_1618 : Cond.methodLink RL 103 yX10_tell ∈ gw := gw_in (t_in_7 (List.mem_of_getElem? (i := 23) rfl)) rfl
theorem q_1619 : Cond.instanceMethod yX10_tell ∈ gw := gw_in (t_in_7 (List.mem_of_getElem? (i := 24) rfl)) rfl
theorem q_1620 : Cond.selects RX10 yX10_tell yX10_tell ∈ gw := gw_in (t_in_7 (List.mem_of_getElem? (i := 25) rfl)) rfl
theorem lL_103 : LKV RL 103 mX10_tell 10 1 := ⟨cdX10_tell, by decide, by decide +kernel, q_1619, q_1620, Or.inl q_1618, _, _, _, kc_X10⟩
theorem q_1639 : Cond.methodLink RL 106 yX10_tellNode ∈ gw := gw_in (t_in_7 (List.mem_of_getElem? (i := 44) rfl)) rfl
theorem q_1640 : Cond.instanceMethod yX10_tellNode ∈ gw := gw_in (t_in_7 (List.mem_of_getElem? (i := 45) rfl)) rfl
theorem q_1641 : Cond.selects RX10 yX10_tellNode yX10_tellNode ∈ gw := gw_in (t_in_7 (List.mem_of_getElem? (i := 46) rfl)) rfl
theorem lL_106 : LKV RL 106 mX10_tellNode 10 2 := ⟨cdX10_tellNode, by decide, by decide +kernel, q_1640, q_1641, Or.inl q_1639, _, _, _, kc_X10⟩
theorem q_1646 : Cond.methodLink RL 109 yX10_tellKept ∈ gw := gw_in (t_in_7 (List.mem_of_getElem? (i := 51) rfl)) rfl
theorem q_1647 : Cond.instanceMethod yX10_tellKept ∈ gw := gw_in (t_in_7 (List.mem_of_getElem? (i := 52) rfl)) rfl
theorem q_1648 : Cond.selects RX10 yX10_tellKept yX10_tellKept ∈ gw := gw_in (t_in_7 (List.mem_of_getElem? (i := 53) rfl)) rfl
theorem lL_109 : LKV RL 109 mX10_tellKept 10 1 := ⟨cdX10_tellKept, by decide, by decide +kernel, q_1647, q_1648, Or.inl q_1646, _, _, _, kc_X10⟩
theorem q_1654 : Cond.methodLink RL 112 yX10_tellTerm ∈ gw := gw_in (t_in_7 (List.mem_of_getElem? (i := 59) rfl)) rfl
theorem q_1655 : Cond.instanceMethod yX10_tellTerm ∈ gw := gw_in (t_in_7 (List.mem_of_getElem? (i := 60) rfl)) rfl
theorem q_1656 : Cond.selects RX10 yX10_tellTerm yX10_tellTerm ∈ gw := gw_in (t_in_7 (List.mem_of_getElem? (i := 61) rfl)) rfl
theorem lL_112 : LKV RL 112 mX10_tellTerm 10 1 := ⟨cdX10_tellTerm, by decide, by decide +kernel, q_1655, q_1656, Or.inl q_1654, _, _, _, kc_X10⟩
theorem q_1674 : Cond.methodLink RL 115 yX10_character ∈ gw := gw_in (t_in_7 (List.mem_of_getElem? (i := 79) rfl)) rfl
theorem q_1675 : Cond.instanceMethod yX10_character ∈ gw := gw_in (t_in_7 (List.mem_of_getElem? (i := 80) rfl)) rfl
theorem q_1676 : Cond.selects RX10 yX10_character yX10_character ∈ gw := gw_in (t_in_7 (List.mem_of_getElem? (i := 81) rfl)) rfl
theorem lL_115 : LKV RL 115 mX10_character 10 1 := ⟨cdX10_character, by decide, by decide +kernel, q_1675, q_1676, Or.inl q_1674, _, _, _, kc_X10⟩
theorem q_1682 : Cond.methodLink RL 119 yX10_account ∈ gw := gw_in (t_in_7 (List.mem_of_getElem? (i := 87) rfl)) rfl
theorem q_1683 : Cond.instanceMethod yX10_account ∈ gw := gw_in (t_in_7 (List.mem_of_getElem? (i := 88) rfl)) rfl
theorem q_1684 : Cond.selects RX10 yX10_account yX10_account ∈ gw := gw_in (t_in_7 (List.mem_of_getElem? (i := 89) rfl)) rfl
theorem lL_119 : LKV RL 119 mX10_account 10 1 := ⟨cdX10_account, by decide, by decide +kernel, q_1683, q_1684, Or.inl q_1682, _, _, _, kc_X10⟩
theorem q_1720 : Cond.methodLink RL 122 yX10_meanSize ∈ gw := gw_in (t_in_7 (List.mem_of_getElem? (i := 125) rfl)) rfl
theorem q_1721 : Cond.instanceMethod yX10_meanSize ∈ gw := gw_in (t_in_7 (List.mem_of_getElem? (i := 126) rfl)) rfl
theorem q_1722 : Cond.selects RX10 yX10_meanSize yX10_meanSize ∈ gw := gw_in (t_in_7 (List.mem_of_getElem? (i := 127) rfl)) rfl
theorem lL_122 : LKV RL 122 mX10_meanSize 10 0 := ⟨cdX10_meanSize, by decide, by decide +kernel, q_1721, q_1722, Or.inl q_1720, _, _, _, kc_X10⟩
theorem q_1729 : Cond.methodLink RL 128 yX10_typedShare ∈ gw := gw_in (t_in_7 (List.mem_of_getElem? (i := 134) rfl)) rfl
theorem q_1730 : Cond.instanceMethod yX10_typedShare ∈ gw := gw_in (t_in_7 (List.mem_of_getElem? (i := 135) rfl)) rfl
theorem q_1731 : Cond.selects RX10 yX10_typedShare yX10_typedShare ∈ gw := gw_in (t_in_7 (List.mem_of_getElem? (i := 136) rfl)) rfl
theorem lL_128 : LKV RL 128 mX10_typedShare 10 0 := ⟨cdX10_typedShare, by decide, by decide +kernel, q_1730, q_1731, Or.inl q_1729, _, _, _, kc_X10⟩
theorem q_1737 : Cond.methodLink RL 132 yX10_undo ∈ gw := gw_in (t_in_7 (List.mem_of_getElem? (i := 142) rfl)) rfl
theorem q_1738 : Cond.instanceMethod yX10_undo ∈ gw := gw_in (t_in_7 (List.mem_of_getElem? (i := 143) rfl)) rfl
theorem q_1739 : Cond.selects RX10 yX10_undo yX10_undo ∈ gw := gw_in (t_in_7 (List.mem_of_getElem? (i := 144) rfl)) rfl
theorem lL_132 : LKV RL 132 mX10_undo 10 0 := ⟨cdX10_undo, by decide, by decide +kernel, q_1738, q_1739, Or.inl q_1737, _, _, _, kc_X10⟩
theorem q_1750 : Cond.methodLink RL 135 yX10_restore ∈ gw := gw_in (t_in_7 (List.mem_of_getElem? (i := 155) rfl)) rfl
theorem q_1751 : Cond.instanceMethod yX10_restore ∈ gw := gw_in (t_in_7 (List.mem_of_getElem? (i := 156) rfl)) rfl
theorem q_1752 : Cond.selects RX10 yX10_restore yX10_restore ∈ gw := gw_in (t_in_7 (List.mem_of_getElem? (i := 157) rfl)) rfl
theorem lL_135 : LKV RL 135 mX10_restore 10 0 := ⟨cdX10_restore, by decide, by decide +kernel, q_1751, q_1752, Or.inl q_1750, _, _, _, kc_X10⟩
theorem q_193 : Cond.methodLink RL 138 yX10_init ∈ gw := gw_in (t_in_1 (List.mem_of_getElem? (i := 38) rfl)) rfl
theorem q_194 : Cond.instanceMethod yX10_init ∈ gw := gw_in (t_in_1 (List.mem_of_getElem? (i := 39) rfl)) rfl
theorem lL_138 : LKI RL 138 mX10_init 0 := ⟨cdX10_init, by decide, by decide +kernel, q_194, rfl, rfl, Or.inl q_193⟩
theorem q_1759 : Cond.classLink RL 139 RX11 ∈ gw := gw_in (t_in_7 (List.mem_of_getElem? (i := 164) rfl)) rfl
theorem q_1760 : Cond.instantiable RX11 82 ∈ gw := gw_in (t_in_7 (List.mem_of_getElem? (i := 165) rfl)) rfl
theorem nL_139 : NL RL 139 11 82 := ⟨RX11, TX11, tyX11, kc_X11, q_1759, q_1760, q_168⟩
theorem q_1761 : Cond.methodLink RL 141 yX11_init ∈ gw := gw_in (t_in_7 (List.mem_of_getElem? (i := 166) rfl)) rfl
theorem q_1762 : Cond.instanceMethod yX11_init ∈ gw := gw_in (t_in_7 (List.mem_of_getElem? (i := 167) rfl)) rfl
theorem lL_141 : LKI RL 141 mX11_init 0 := ⟨cdX11_init, by decide, by decide +kernel, q_1762, rfl, rfl, Or.inl q_1761⟩
theorem q_729 : Cond.static yL_lesson ∈ gw := gw_in (t_in_3 (List.mem_of_getElem? (i := 94) rfl)) rfl
theorem q_728 : Cond.methodLink RL 142 yL_lesson ∈ gw := gw_in (t_in_3 (List.mem_of_getElem? (i := 93) rfl)) rfl
theorem lL_142 : LKH RL 142 mL_lesson 2 := ⟨cdL_lesson, by decide, by decide +kernel, q_729, q_728⟩
theorem q_2015 : Cond.methodLink RL 147 yX11_lesson ∈ gw := gw_in (t_in_8 (List.mem_of_getElem? (i := 180) rfl)) rfl
theorem q_2016 : Cond.instanceMethod yX11_lesson ∈ gw := gw_in (t_in_8 (List.mem_of_getElem? (i := 181) rfl)) rfl
theorem q_2017 : Cond.selects RX11 yX11_lesson yX11_lesson ∈ gw := gw_in (t_in_8 (List.mem_of_getElem? (i := 182) rfl)) rfl
theorem lL_147 : LKV RL 147 mX11_lesson 11 0 := ⟨cdX11_lesson, by decide, by decide +kernel, q_2016, q_2017, Or.inl q_2015, _, _, _, kc_X11⟩
theorem q_2011 : Cond.methodLink RL 148 yX11_thrown ∈ gw := gw_in (t_in_8 (List.mem_of_getElem? (i := 176) rfl)) rfl
theorem q_2012 : Cond.instanceMethod yX11_thrown ∈ gw := gw_in (t_in_8 (List.mem_of_getElem? (i := 177) rfl)) rfl
theorem q_2013 : Cond.selects RX11 yX11_thrown yX11_thrown ∈ gw := gw_in (t_in_8 (List.mem_of_getElem? (i := 178) rfl)) rfl
theorem lL_148 : LKV RL 148 mX11_thrown 11 0 := ⟨cdX11_thrown, by decide, by decide +kernel, q_2012, q_2013, Or.inl q_2011, _, _, _, kc_X11⟩
theorem q_1236 : Cond.static yL_drop ∈ gw := gw_in (t_in_5 (List.mem_of_getElem? (i := 121) rfl)) rfl
theorem q_1235 : Cond.methodLink RL 151 yL_drop ∈ gw := gw_in (t_in_5 (List.mem_of_getElem? (i := 120) rfl)) rfl
theorem lL_151 : LKH RL 151 mL_drop 3 := ⟨cdL_drop, by decide, by decide +kernel, q_1236, q_1235⟩
theorem q_2077 : Cond.methodLink RL 154 yX11_drop ∈ gw := gw_in (t_in_9 (List.mem_of_getElem? (i := 2) rfl)) rfl
theorem q_2078 : Cond.instanceMethod yX11_drop ∈ gw := gw_in (t_in_9 (List.mem_of_getElem? (i := 3) rfl)) rfl
theorem q_2079 : Cond.selects RX11 yX11_drop yX11_drop ∈ gw := gw_in (t_in_9 (List.mem_of_getElem? (i := 4) rfl)) rfl
theorem lL_154 : LKV RL 154 mX11_drop 11 1 := ⟨cdX11_drop, by decide, by decide +kernel, q_2078, q_2079, Or.inl q_2077, _, _, _, kc_X11⟩
theorem q_1253 : Cond.static yL_keep ∈ gw := gw_in (t_in_5 (List.mem_of_getElem? (i := 138) rfl)) rfl
theorem q_1252 : Cond.methodLink RL 155 yL_keep ∈ gw := gw_in (t_in_5 (List.mem_of_getElem? (i := 137) rfl)) rfl
theorem lL_155 : LKH RL 155 mL_keep 4 := ⟨cdL_keep, by decide, by decide +kernel, q_1253, q_1252⟩
theorem q_2093 : Cond.methodLink RL 158 yX11_keep ∈ gw := gw_in (t_in_9 (List.mem_of_getElem? (i := 18) rfl)) rfl
theorem q_2094 : Cond.instanceMethod yX11_keep ∈ gw := gw_in (t_in_9 (List.mem_of_getElem? (i := 19) rfl)) rfl
theorem q_2095 : Cond.selects RX11 yX11_keep yX11_keep ∈ gw := gw_in (t_in_9 (List.mem_of_getElem? (i := 20) rfl)) rfl
theorem lL_158 : LKV RL 158 mX11_keep 11 2 := ⟨cdX11_keep, by decide, by decide +kernel, q_2094, q_2095, Or.inl q_2093, _, _, _, kc_X11⟩
theorem q_1300 : Cond.static yL_unkeep ∈ gw := gw_in (t_in_5 (List.mem_of_getElem? (i := 185) rfl)) rfl
theorem q_1299 : Cond.methodLink RL 159 yL_unkeep ∈ gw := gw_in (t_in_5 (List.mem_of_getElem? (i := 184) rfl)) rfl
theorem lL_159 : LKH RL 159 mL_unkeep 3 := ⟨cdL_unkeep, by decide, by decide +kernel, q_1300, q_1299⟩
theorem q_2200 : Cond.methodLink RL 161 yX11_unkeep ∈ gw := gw_in (t_in_9 (List.mem_of_getElem? (i := 125) rfl)) rfl
theorem q_2201 : Cond.instanceMethod yX11_unkeep ∈ gw := gw_in (t_in_9 (List.mem_of_getElem? (i := 126) rfl)) rfl
theorem q_2202 : Cond.selects RX11 yX11_unkeep yX11_unkeep ∈ gw := gw_in (t_in_9 (List.mem_of_getElem? (i := 127) rfl)) rfl
theorem lL_161 : LKV RL 161 mX11_unkeep 11 1 := ⟨cdX11_unkeep, by decide, by decide +kernel, q_2201, q_2202, Or.inl q_2200, _, _, _, kc_X11⟩
theorem q_1317 : Cond.static yL_nodes ∈ gw := gw_in (t_in_5 (List.mem_of_getElem? (i := 202) rfl)) rfl
theorem q_1316 : Cond.methodLink RL 162 yL_nodes ∈ gw := gw_in (t_in_5 (List.mem_of_getElem? (i := 201) rfl)) rfl
theorem lL_162 : LKH RL 162 mL_nodes 3 := ⟨cdL_nodes, by decide, by decide +kernel, q_1317, q_1316⟩
theorem q_2208 : Cond.methodLink RL 164 yX11_nodes ∈ gw := gw_in (t_in_9 (List.mem_of_getElem? (i := 133) rfl)) rfl
theorem q_2209 : Cond.instanceMethod yX11_nodes ∈ gw := gw_in (t_in_9 (List.mem_of_getElem? (i := 134) rfl)) rfl
theorem q_2210 : Cond.selects RX11 yX11_nodes yX11_nodes ∈ gw := gw_in (t_in_9 (List.mem_of_getElem? (i := 135) rfl)) rfl
theorem lL_164 : LKV RL 164 mX11_nodes 11 1 := ⟨cdX11_nodes, by decide, by decide +kernel, q_2209, q_2210, Or.inl q_2208, _, _, _, kc_X11⟩
theorem q_1344 : Cond.static yL_nodeOf ∈ gw := gw_in (t_in_5 (List.mem_of_getElem? (i := 229) rfl)) rfl
theorem q_1343 : Cond.methodLink RL 165 yL_nodeOf ∈ gw := gw_in (t_in_5 (List.mem_of_getElem? (i := 228) rfl)) rfl
theorem lL_165 : LKH RL 165 mL_nodeOf 5 := ⟨cdL_nodeOf, by decide, by decide +kernel, q_1344, q_1343⟩
theorem q_2212 : Cond.methodLink RL 168 yX11_nodeOf ∈ gw := gw_in (t_in_9 (List.mem_of_getElem? (i := 137) rfl)) rfl
theorem q_2213 : Cond.instanceMethod yX11_nodeOf ∈ gw := gw_in (t_in_9 (List.mem_of_getElem? (i := 138) rfl)) rfl
theorem q_2214 : Cond.selects RX11 yX11_nodeOf yX11_nodeOf ∈ gw := gw_in (t_in_9 (List.mem_of_getElem? (i := 139) rfl)) rfl
theorem lL_168 : LKV RL 168 mX11_nodeOf 11 3 := ⟨cdX11_nodeOf, by decide, by decide +kernel, q_2213, q_2214, Or.inl q_2212, _, _, _, kc_X11⟩
theorem q_1359 : Cond.static yL_signOf ∈ gw := gw_in (t_in_6 (List.mem_of_getElem? (i := 4) rfl)) rfl
theorem q_1358 : Cond.methodLink RL 169 yL_signOf ∈ gw := gw_in (t_in_6 (List.mem_of_getElem? (i := 3) rfl)) rfl
theorem lL_169 : LKH RL 169 mL_signOf 4 := ⟨cdL_signOf, by decide, by decide +kernel, q_1359, q_1358⟩
theorem q_2220 : Cond.methodLink RL 171 yX11_signOf ∈ gw := gw_in (t_in_9 (List.mem_of_getElem? (i := 145) rfl)) rfl
theorem q_2221 : Cond.instanceMethod yX11_signOf ∈ gw := gw_in (t_in_9 (List.mem_of_getElem? (i := 146) rfl)) rfl
theorem q_2222 : Cond.selects RX11 yX11_signOf yX11_signOf ∈ gw := gw_in (t_in_9 (List.mem_of_getElem? (i := 147) rfl)) rfl
theorem lL_171 : LKV RL 171 mX11_signOf 11 2 := ⟨cdX11_signOf, by decide, by decide +kernel, q_2221, q_2222, Or.inl q_2220, _, _, _, kc_X11⟩
theorem q_1383 : Cond.static yL_binder ∈ gw := gw_in (t_in_6 (List.mem_of_getElem? (i := 28) rfl)) rfl
theorem q_1382 : Cond.methodLink RL 172 yL_binder ∈ gw := gw_in (t_in_6 (List.mem_of_getElem? (i := 27) rfl)) rfl
theorem lL_172 : LKH RL 172 mL_binder 4 := ⟨cdL_binder, by decide, by decide +kernel, q_1383, q_1382⟩
theorem q_2224 : Cond.methodLink RL 174 yX11_binder ∈ gw := gw_in (t_in_9 (List.mem_of_getElem? (i := 149) rfl)) rfl
theorem q_2225 : Cond.instanceMethod yX11_binder ∈ gw := gw_in (t_in_9 (List.mem_of_getElem? (i := 150) rfl)) rfl
theorem q_2226 : Cond.selects RX11 yX11_binder yX11_binder ∈ gw := gw_in (t_in_9 (List.mem_of_getElem? (i := 151) rfl)) rfl
theorem lL_174 : LKV RL 174 mX11_binder 11 2 := ⟨cdX11_binder, by decide, by decide +kernel, q_2225, q_2226, Or.inl q_2224, _, _, _, kc_X11⟩
theorem q_1391 : Cond.static yL_uses ∈ gw := gw_in (t_in_6 (List.mem_of_getElem? (i := 36) rfl)) rfl
theorem q_1390 : Cond.methodLink RL 175 yL_uses ∈ gw := gw_in (t_in_6 (List.mem_of_getElem? (i := 35) rfl)) rfl
theorem lL_175 : LKH RL 175 mL_uses 4 := ⟨cdL_uses, by decide, by decide +kernel, q_1391, q_1390⟩
theorem q_2228 : Cond.methodLink RL 177 yX11_uses ∈ gw := gw_in (t_in_9 (List.mem_of_getElem? (i := 153) rfl)) rfl
theorem q_2229 : Cond.instanceMethod yX11_uses ∈ gw := gw_in (t_in_9 (List.mem_of_getElem? (i := 154) rfl)) rfl
theorem q_2230 : Cond.selects RX11 yX11_uses yX11_uses ∈ gw := gw_in (t_in_9 (List.mem_of_getElem? (i := 155) rfl)) rfl
theorem lL_177 : LKV RL 177 mX11_uses 11 2 := ⟨cdX11_uses, by decide, by decide +kernel, q_2229, q_2230, Or.inl q_2228, _, _, _, kc_X11⟩
theorem q_1403 : Cond.static yL_unbound ∈ gw := gw_in (t_in_6 (List.mem_of_getElem? (i := 48) rfl)) rfl
theorem q_1402 : Cond.methodLink RL 178 yL_unbound ∈ gw := gw_in (t_in_6 (List.mem_of_getElem? (i := 47) rfl)) rfl
theorem lL_178 : LKH RL 178 mL_unbound 3 := ⟨cdL_unbound, by decide, by decide +kernel, q_1403, q_1402⟩
theorem q_2236 : Cond.methodLink RL 180 yX11_unbound ∈ gw := gw_in (t_in_9 (List.mem_of_getElem? (i := 161) rfl)) rfl
theorem q_2237 : Cond.instanceMethod yX11_unbound ∈ gw := gw_in (t_in_9 (List.mem_of_getElem? (i := 162) rfl)) rfl
theorem q_2238 : Cond.selects RX11 yX11_unbound yX11_unbound ∈ gw := gw_in (t_in_9 (List.mem_of_getElem? (i := 163) rfl)) rfl
theorem lL_180 : LKV RL 180 mX11_unbound 11 1 := ⟨cdX11_unbound, by decide, by decide +kernel, q_2237, q_2238, Or.inl q_2236, _, _, _, kc_X11⟩
theorem q_1410 : Cond.static yL_isTyped ∈ gw := gw_in (t_in_6 (List.mem_of_getElem? (i := 55) rfl)) rfl
theorem q_1409 : Cond.methodLink RL 181 yL_isTyped ∈ gw := gw_in (t_in_6 (List.mem_of_getElem? (i := 54) rfl)) rfl
theorem lL_181 : LKH RL 181 mL_isTyped 3 := ⟨cdL_isTyped, by decide, by decide +kernel, q_1410, q_1409⟩
theorem q_2240 : Cond.methodLink RL 183 yX11_isTyped ∈ gw := gw_in (t_in_9 (List.mem_of_getElem? (i := 165) rfl)) rfl
theorem q_2241 : Cond.instanceMethod yX11_isTyped ∈ gw := gw_in (t_in_9 (List.mem_of_getElem? (i := 166) rfl)) rfl
theorem q_2242 : Cond.selects RX11 yX11_isTyped yX11_isTyped ∈ gw := gw_in (t_in_9 (List.mem_of_getElem? (i := 167) rfl)) rfl
theorem lL_183 : LKV RL 183 mX11_isTyped 11 1 := ⟨cdX11_isTyped, by decide, by decide +kernel, q_2241, q_2242, Or.inl q_2240, _, _, _, kc_X11⟩
theorem q_1417 : Cond.static yL_failure ∈ gw := gw_in (t_in_6 (List.mem_of_getElem? (i := 62) rfl)) rfl
theorem q_1416 : Cond.methodLink RL 184 yL_failure ∈ gw := gw_in (t_in_6 (List.mem_of_getElem? (i := 61) rfl)) rfl
theorem lL_184 : LKH RL 184 mL_failure 4 := ⟨cdL_failure, by decide, by decide +kernel, q_1417, q_1416⟩
theorem q_2244 : Cond.methodLink RL 186 yX11_failure ∈ gw := gw_in (t_in_9 (List.mem_of_getElem? (i := 169) rfl)) rfl
theorem q_2245 : Cond.instanceMethod yX11_failure ∈ gw := gw_in (t_in_9 (List.mem_of_getElem? (i := 170) rfl)) rfl
theorem q_2246 : Cond.selects RX11 yX11_failure yX11_failure ∈ gw := gw_in (t_in_9 (List.mem_of_getElem? (i := 171) rfl)) rfl
theorem lL_186 : LKV RL 186 mX11_failure 11 2 := ⟨cdX11_failure, by decide, by decide +kernel, q_2245, q_2246, Or.inl q_2244, _, _, _, kc_X11⟩
theorem q_1426 : Cond.static yL_typeOf ∈ gw := gw_in (t_in_6 (List.mem_of_getElem? (i := 71) rfl)) rfl
theorem q_1425 : Cond.methodLink RL 187 yL_typeOf ∈ gw := gw_in (t_in_6 (List.mem_of_getElem? (i := 70) rfl)) rfl
theorem lL_187 : LKH RL 187 mL_typeOf 4 := ⟨cdL_typeOf, by decide, by decide +kernel, q_1426, q_1425⟩
theorem q_2248 : Cond.methodLink RL 189 yX11_typeOf ∈ gw := gw_in (t_in_9 (List.mem_of_getElem? (i := 173) rfl)) rfl
theorem q_2249 : Cond.instanceMethod yX11_typeOf ∈ gw := gw_in (t_in_9 (List.mem_of_getElem? (i := 174) rfl)) rfl
theorem q_2250 : Cond.selects RX11 yX11_typeOf yX11_typeOf ∈ gw := gw_in (t_in_9 (List.mem_of_getElem? (i := 175) rfl)) rfl
theorem lL_189 : LKV RL 189 mX11_typeOf 11 2 := ⟨cdX11_typeOf, by decide, by decide +kernel, q_2249, q_2250, Or.inl q_2248, _, _, _, kc_X11⟩
theorem q_1458 : Cond.static yL_typeAgain ∈ gw := gw_in (t_in_6 (List.mem_of_getElem? (i := 103) rfl)) rfl
theorem q_1457 : Cond.methodLink RL 190 yL_typeAgain ∈ gw := gw_in (t_in_6 (List.mem_of_getElem? (i := 102) rfl)) rfl
theorem lL_190 : LKH RL 190 mL_typeAgain 4 := ⟨cdL_typeAgain, by decide, by decide +kernel, q_1458, q_1457⟩
theorem q_2260 : Cond.methodLink RL 192 yX11_typeAgain ∈ gw := gw_in (t_in_9 (List.mem_of_getElem? (i := 185) rfl)) rfl
theorem q_2261 : Cond.instanceMethod yX11_typeAgain ∈ gw := gw_in (t_in_9 (List.mem_of_getElem? (i := 186) rfl)) rfl
theorem q_2262 : Cond.selects RX11 yX11_typeAgain yX11_typeAgain ∈ gw := gw_in (t_in_9 (List.mem_of_getElem? (i := 187) rfl)) rfl
theorem lL_192 : LKV RL 192 mX11_typeAgain 11 2 := ⟨cdX11_typeAgain, by decide, by decide +kernel, q_2261, q_2262, Or.inl q_2260, _, _, _, kc_X11⟩
theorem q_1466 : Cond.static yL_nodeType ∈ gw := gw_in (t_in_6 (List.mem_of_getElem? (i := 111) rfl)) rfl
theorem q_1465 : Cond.methodLink RL 193 yL_nodeType ∈ gw := gw_in (t_in_6 (List.mem_of_getElem? (i := 110) rfl)) rfl
theorem lL_193 : LKH RL 193 mL_nodeType 5 := ⟨cdL_nodeType, by decide, by decide +kernel, q_1466, q_1465⟩
theorem q_2268 : Cond.methodLink RL 195 yX11_nodeType ∈ gw := gw_in (t_in_9 (List.mem_of_getElem? (i := 193) rfl)) rfl
theorem q_2269 : Cond.instanceMethod yX11_nodeType ∈ gw := gw_in (t_in_9 (List.mem_of_getElem? (i := 194) rfl)) rfl
theorem q_2270 : Cond.selects RX11 yX11_nodeType yX11_nodeType ∈ gw := gw_in (t_in_9 (List.mem_of_getElem? (i := 195) rfl)) rfl
theorem lL_195 : LKV RL 195 mX11_nodeType 11 3 := ⟨cdX11_nodeType, by decide, by decide +kernel, q_2269, q_2270, Or.inl q_2268, _, _, _, kc_X11⟩
theorem q_1477 : Cond.static yL_isAlike ∈ gw := gw_in (t_in_6 (List.mem_of_getElem? (i := 122) rfl)) rfl
theorem q_1476 : Cond.methodLink RL 196 yL_isAlike ∈ gw := gw_in (t_in_6 (List.mem_of_getElem? (i := 121) rfl)) rfl
theorem lL_196 : LKH RL 196 mL_isAlike 4 := ⟨cdL_isAlike, by decide, by decide +kernel, q_1477, q_1476⟩
theorem q_2272 : Cond.methodLink RL 198 yX11_isAlike ∈ gw := gw_in (t_in_9 (List.mem_of_getElem? (i := 197) rfl)) rfl
theorem q_2273 : Cond.instanceMethod yX11_isAlike ∈ gw := gw_in (t_in_9 (List.mem_of_getElem? (i := 198) rfl)) rfl
theorem q_2274 : Cond.selects RX11 yX11_isAlike yX11_isAlike ∈ gw := gw_in (t_in_9 (List.mem_of_getElem? (i := 199) rfl)) rfl
theorem lL_198 : LKV RL 198 mX11_isAlike 11 2 := ⟨cdX11_isAlike, by decide, by decide +kernel, q_2273, q_2274, Or.inl q_2272, _, _, _, kc_X11⟩
theorem q_1484 : Cond.static yL_isAsGeneral ∈ gw := gw_in (t_in_6 (List.mem_of_getElem? (i := 129) rfl)) rfl
theorem q_1483 : Cond.methodLink RL 199 yL_isAsGeneral ∈ gw := gw_in (t_in_6 (List.mem_of_getElem? (i := 128) rfl)) rfl
theorem lL_199 : LKH RL 199 mL_isAsGeneral 4 := ⟨cdL_isAsGeneral, by decide, by decide +kernel, q_1484, q_1483⟩
theorem q_2284 : Cond.methodLink RL 201 yX11_isAsGeneral ∈ gw := gw_in (t_in_9 (List.mem_of_getElem? (i := 209) rfl)) rfl
theorem q_2285 : Cond.instanceMethod yX11_isAsGeneral ∈ gw := gw_in (t_in_9 (List.mem_of_getElem? (i := 210) rfl)) rfl
theorem q_2286 : Cond.selects RX11 yX11_isAsGeneral yX11_isAsGeneral ∈ gw := gw_in (t_in_9 (List.mem_of_getElem? (i := 211) rfl)) rfl
theorem lL_201 : LKV RL 201 mX11_isAsGeneral 11 2 := ⟨cdX11_isAsGeneral, by decide, by decide +kernel, q_2285, q_2286, Or.inl q_2284, _, _, _, kc_X11⟩
theorem q_1504 : Cond.static yL_fit ∈ gw := gw_in (t_in_6 (List.mem_of_getElem? (i := 149) rfl)) rfl
theorem q_1503 : Cond.methodLink RL 202 yL_fit ∈ gw := gw_in (t_in_6 (List.mem_of_getElem? (i := 148) rfl)) rfl
theorem lL_202 : LKH RL 202 mL_fit 4 := ⟨cdL_fit, by decide, by decide +kernel, q_1504, q_1503⟩
theorem q_2296 : Cond.methodLink RL 204 yX11_fit ∈ gw := gw_in (t_in_9 (List.mem_of_getElem? (i := 221) rfl)) rfl
theorem q_2297 : Cond.instanceMethod yX11_fit ∈ gw := gw_in (t_in_9 (List.mem_of_getElem? (i := 222) rfl)) rfl
theorem q_2298 : Cond.selects RX11 yX11_fit yX11_fit ∈ gw := gw_in (t_in_9 (List.mem_of_getElem? (i := 223) rfl)) rfl
theorem lL_204 : LKV RL 204 mX11_fit 11 2 := ⟨cdX11_fit, by decide, by decide +kernel, q_2297, q_2298, Or.inl q_2296, _, _, _, kc_X11⟩
theorem q_1516 : Cond.static yL_fitting ∈ gw := gw_in (t_in_6 (List.mem_of_getElem? (i := 161) rfl)) rfl
theorem q_1515 : Cond.methodLink RL 205 yL_fitting ∈ gw := gw_in (t_in_6 (List.mem_of_getElem? (i := 160) rfl)) rfl
theorem lL_205 : LKH RL 205 mL_fitting 3 := ⟨cdL_fitting, by decide, by decide +kernel, q_1516, q_1515⟩
theorem q_2304 : Cond.methodLink RL 207 yX11_fitting ∈ gw := gw_in (t_in_9 (List.mem_of_getElem? (i := 229) rfl)) rfl
theorem q_2305 : Cond.instanceMethod yX11_fitting ∈ gw := gw_in (t_in_9 (List.mem_of_getElem? (i := 230) rfl)) rfl
theorem q_2306 : Cond.selects RX11 yX11_fitting yX11_fitting ∈ gw := gw_in (t_in_9 (List.mem_of_getElem? (i := 231) rfl)) rfl
theorem lL_207 : LKV RL 207 mX11_fitting 11 1 := ⟨cdX11_fitting, by decide, by decide +kernel, q_2305, q_2306, Or.inl q_2304, _, _, _, kc_X11⟩
theorem q_1523 : Cond.static yL_isKept ∈ gw := gw_in (t_in_6 (List.mem_of_getElem? (i := 168) rfl)) rfl
theorem q_1522 : Cond.methodLink RL 208 yL_isKept ∈ gw := gw_in (t_in_6 (List.mem_of_getElem? (i := 167) rfl)) rfl
theorem lL_208 : LKH RL 208 mL_isKept 3 := ⟨cdL_isKept, by decide, by decide +kernel, q_1523, q_1522⟩
theorem q_2308 : Cond.methodLink RL 210 yX11_isKept ∈ gw := gw_in (t_in_9 (List.mem_of_getElem? (i := 233) rfl)) rfl
theorem q_2309 : Cond.instanceMethod yX11_isKept ∈ gw := gw_in (t_in_9 (List.mem_of_getElem? (i := 234) rfl)) rfl
theorem q_2310 : Cond.selects RX11 yX11_isKept yX11_isKept ∈ gw := gw_in (t_in_9 (List.mem_of_getElem? (i := 235) rfl)) rfl
theorem lL_210 : LKV RL 210 mX11_isKept 11 1 := ⟨cdX11_isKept, by decide, by decide +kernel, q_2309, q_2310, Or.inl q_2308, _, _, _, kc_X11⟩
theorem q_1534 : Cond.static yL_largest ∈ gw := gw_in (t_in_6 (List.mem_of_getElem? (i := 179) rfl)) rfl
theorem q_1533 : Cond.methodLink RL 211 yL_largest ∈ gw := gw_in (t_in_6 (List.mem_of_getElem? (i := 178) rfl)) rfl
theorem lL_211 : LKH RL 211 mL_largest 2 := ⟨cdL_largest, by decide, by decide +kernel, q_1534, q_1533⟩
theorem q_2312 : Cond.methodLink RL 213 yX11_largest ∈ gw := gw_in (t_in_9 (List.mem_of_getElem? (i := 237) rfl)) rfl
theorem q_2313 : Cond.instanceMethod yX11_largest ∈ gw := gw_in (t_in_9 (List.mem_of_getElem? (i := 238) rfl)) rfl
theorem q_2314 : Cond.selects RX11 yX11_largest yX11_largest ∈ gw := gw_in (t_in_9 (List.mem_of_getElem? (i := 239) rfl)) rfl
theorem lL_213 : LKV RL 213 mX11_largest 11 0 := ⟨cdX11_largest, by decide, by decide +kernel, q_2313, q_2314, Or.inl q_2312, _, _, _, kc_X11⟩
theorem q_1542 : Cond.static yL_ranked ∈ gw := gw_in (t_in_6 (List.mem_of_getElem? (i := 187) rfl)) rfl
theorem q_1541 : Cond.methodLink RL 214 yL_ranked ∈ gw := gw_in (t_in_6 (List.mem_of_getElem? (i := 186) rfl)) rfl
theorem lL_214 : LKH RL 214 mL_ranked 3 := ⟨cdL_ranked, by decide, by decide +kernel, q_1542, q_1541⟩
theorem q_2316 : Cond.methodLink RL 216 yX11_ranked ∈ gw := gw_in (t_in_10 (List.mem_of_getElem? (i := 1) rfl)) rfl
theorem q_2317 : Cond.instanceMethod yX11_ranked ∈ gw := gw_in (t_in_10 (List.mem_of_getElem? (i := 2) rfl)) rfl
theorem q_2318 : Cond.selects RX11 yX11_ranked yX11_ranked ∈ gw := gw_in (t_in_10 (List.mem_of_getElem? (i := 3) rfl)) rfl
theorem lL_216 : LKV RL 216 mX11_ranked 11 1 := ⟨cdX11_ranked, by decide, by decide +kernel, q_2317, q_2318, Or.inl q_2316, _, _, _, kc_X11⟩
theorem q_484 : Cond.methodLink RL 217 yX10_isTold ∈ gw := gw_in (t_in_2 (List.mem_of_getElem? (i := 89) rfl)) rfl
theorem q_485 : Cond.instanceMethod yX10_isTold ∈ gw := gw_in (t_in_2 (List.mem_of_getElem? (i := 90) rfl)) rfl
theorem q_486 : Cond.selects RX10 yX10_isTold yX10_isTold ∈ gw := gw_in (t_in_2 (List.mem_of_getElem? (i := 91) rfl)) rfl
theorem lL_217 : LKV RL 217 mX10_isTold 10 0 := ⟨cdX10_isTold, by decide, by decide +kernel, q_485, q_486, Or.inl q_484, _, _, _, kc_X10⟩
theorem q_2324 : Cond.methodLink RL 221 yX11_isTold ∈ gw := gw_in (t_in_10 (List.mem_of_getElem? (i := 9) rfl)) rfl
theorem q_2325 : Cond.instanceMethod yX11_isTold ∈ gw := gw_in (t_in_10 (List.mem_of_getElem? (i := 10) rfl)) rfl
theorem q_2326 : Cond.selects RX11 yX11_isTold yX11_isTold ∈ gw := gw_in (t_in_10 (List.mem_of_getElem? (i := 11) rfl)) rfl
theorem lL_221 : LKV RL 221 mX11_isTold 11 0 := ⟨cdX11_isTold, by decide, by decide +kernel, q_2325, q_2326, Or.inl q_2324, _, _, _, kc_X11⟩
theorem q_1558 : Cond.static yL_append ∈ gw := gw_in (t_in_6 (List.mem_of_getElem? (i := 203) rfl)) rfl
theorem q_1557 : Cond.methodLink RL 222 yL_append ∈ gw := gw_in (t_in_6 (List.mem_of_getElem? (i := 202) rfl)) rfl
theorem lL_222 : LKH RL 222 mL_append 3 := ⟨cdL_append, by decide, by decide +kernel, q_1558, q_1557⟩
theorem q_2328 : Cond.methodLink RL 225 yX11_append ∈ gw := gw_in (t_in_10 (List.mem_of_getElem? (i := 13) rfl)) rfl
theorem q_2329 : Cond.instanceMethod yX11_append ∈ gw := gw_in (t_in_10 (List.mem_of_getElem? (i := 14) rfl)) rfl
theorem q_2330 : Cond.selects RX11 yX11_append yX11_append ∈ gw := gw_in (t_in_10 (List.mem_of_getElem? (i := 15) rfl)) rfl
theorem lL_225 : LKV RL 225 mX11_append 11 1 := ⟨cdX11_append, by decide, by decide +kernel, q_2329, q_2330, Or.inl q_2328, _, _, _, kc_X11⟩
theorem q_1584 : Cond.static yL_run ∈ gw := gw_in (t_in_6 (List.mem_of_getElem? (i := 229) rfl)) rfl
theorem q_1583 : Cond.methodLink RL 226 yL_run ∈ gw := gw_in (t_in_6 (List.mem_of_getElem? (i := 228) rfl)) rfl
theorem lL_226 : LKH RL 226 mL_run 2 := ⟨cdL_run, by decide, by decide +kernel, q_1584, q_1583⟩
theorem q_2332 : Cond.methodLink RL 228 yX11_run ∈ gw := gw_in (t_in_10 (List.mem_of_getElem? (i := 17) rfl)) rfl
theorem q_2333 : Cond.instanceMethod yX11_run ∈ gw := gw_in (t_in_10 (List.mem_of_getElem? (i := 18) rfl)) rfl
theorem q_2334 : Cond.selects RX11 yX11_run yX11_run ∈ gw := gw_in (t_in_10 (List.mem_of_getElem? (i := 19) rfl)) rfl
theorem lL_228 : LKV RL 228 mX11_run 11 0 := ⟨cdX11_run, by decide, by decide +kernel, q_2333, q_2334, Or.inl q_2332, _, _, _, kc_X11⟩
theorem q_714 : Cond.methodLink RL 229 yX10_faultPosition ∈ gw := gw_in (t_in_3 (List.mem_of_getElem? (i := 79) rfl)) rfl
theorem q_715 : Cond.instanceMethod yX10_faultPosition ∈ gw := gw_in (t_in_3 (List.mem_of_getElem? (i := 80) rfl)) rfl
theorem q_716 : Cond.selects RX10 yX10_faultPosition yX10_faultPosition ∈ gw := gw_in (t_in_3 (List.mem_of_getElem? (i := 81) rfl)) rfl
theorem lL_229 : LKV RL 229 mX10_faultPosition 10 0 := ⟨cdX10_faultPosition, by decide, by decide +kernel, q_715, q_716, Or.inl q_714, _, _, _, kc_X10⟩
theorem q_2348 : Cond.methodLink RL 232 yX11_faultPosition ∈ gw := gw_in (t_in_10 (List.mem_of_getElem? (i := 33) rfl)) rfl
theorem q_2349 : Cond.instanceMethod yX11_faultPosition ∈ gw := gw_in (t_in_10 (List.mem_of_getElem? (i := 34) rfl)) rfl
theorem q_2350 : Cond.selects RX11 yX11_faultPosition yX11_faultPosition ∈ gw := gw_in (t_in_10 (List.mem_of_getElem? (i := 35) rfl)) rfl
theorem lL_232 : LKV RL 232 mX11_faultPosition 11 0 := ⟨cdX11_faultPosition, by decide, by decide +kernel, q_2349, q_2350, Or.inl q_2348, _, _, _, kc_X11⟩
theorem q_1607 : Cond.static yL_reason ∈ gw := gw_in (t_in_7 (List.mem_of_getElem? (i := 12) rfl)) rfl
theorem q_1606 : Cond.methodLink RL 233 yL_reason ∈ gw := gw_in (t_in_7 (List.mem_of_getElem? (i := 11) rfl)) rfl
theorem lL_233 : LKH RL 233 mL_reason 4 := ⟨cdL_reason, by decide, by decide +kernel, q_1607, q_1606⟩
theorem q_2352 : Cond.methodLink RL 236 yX11_reason ∈ gw := gw_in (t_in_10 (List.mem_of_getElem? (i := 37) rfl)) rfl
theorem q_2353 : Cond.instanceMethod yX11_reason ∈ gw := gw_in (t_in_10 (List.mem_of_getElem? (i := 38) rfl)) rfl
theorem q_2354 : Cond.selects RX11 yX11_reason yX11_reason ∈ gw := gw_in (t_in_10 (List.mem_of_getElem? (i := 39) rfl)) rfl
theorem lL_236 : LKV RL 236 mX11_reason 11 2 := ⟨cdX11_reason, by decide, by decide +kernel, q_2353, q_2354, Or.inl q_2352, _, _, _, kc_X11⟩
theorem q_1616 : Cond.static yL_tell ∈ gw := gw_in (t_in_7 (List.mem_of_getElem? (i := 21) rfl)) rfl
theorem q_1615 : Cond.methodLink RL 237 yL_tell ∈ gw := gw_in (t_in_7 (List.mem_of_getElem? (i := 20) rfl)) rfl
theorem lL_237 : LKH RL 237 mL_tell 3 := ⟨cdL_tell, by decide, by decide +kernel, q_1616, q_1615⟩
theorem q_2356 : Cond.methodLink RL 239 yX11_tell ∈ gw := gw_in (t_in_10 (List.mem_of_getElem? (i := 41) rfl)) rfl
theorem q_2357 : Cond.instanceMethod yX11_tell ∈ gw := gw_in (t_in_10 (List.mem_of_getElem? (i := 42) rfl)) rfl
theorem q_2358 : Cond.selects RX11 yX11_tell yX11_tell ∈ gw := gw_in (t_in_10 (List.mem_of_getElem? (i := 43) rfl)) rfl
theorem lL_239 : LKV RL 239 mX11_tell 11 1 := ⟨cdX11_tell, by decide, by decide +kernel, q_2357, q_2358, Or.inl q_2356, _, _, _, kc_X11⟩
theorem q_1637 : Cond.static yL_tellNode ∈ gw := gw_in (t_in_7 (List.mem_of_getElem? (i := 42) rfl)) rfl
theorem q_1636 : Cond.methodLink RL 240 yL_tellNode ∈ gw := gw_in (t_in_7 (List.mem_of_getElem? (i := 41) rfl)) rfl
theorem lL_240 : LKH RL 240 mL_tellNode 4 := ⟨cdL_tellNode, by decide, by decide +kernel, q_1637, q_1636⟩
theorem q_2372 : Cond.methodLink RL 242 yX11_tellNode ∈ gw := gw_in (t_in_10 (List.mem_of_getElem? (i := 57) rfl)) rfl
theorem q_2373 : Cond.instanceMethod yX11_tellNode ∈ gw := gw_in (t_in_10 (List.mem_of_getElem? (i := 58) rfl)) rfl
theorem q_2374 : Cond.selects RX11 yX11_tellNode yX11_tellNode ∈ gw := gw_in (t_in_10 (List.mem_of_getElem? (i := 59) rfl)) rfl
theorem lL_242 : LKV RL 242 mX11_tellNode 11 2 := ⟨cdX11_tellNode, by decide, by decide +kernel, q_2373, q_2374, Or.inl q_2372, _, _, _, kc_X11⟩
theorem q_1644 : Cond.static yL_tellKept ∈ gw := gw_in (t_in_7 (List.mem_of_getElem? (i := 49) rfl)) rfl
theorem q_1643 : Cond.methodLink RL 243 yL_tellKept ∈ gw := gw_in (t_in_7 (List.mem_of_getElem? (i := 48) rfl)) rfl
theorem lL_243 : LKH RL 243 mL_tellKept 3 := ⟨cdL_tellKept, by decide, by decide +kernel, q_1644, q_1643⟩
theorem q_2376 : Cond.methodLink RL 245 yX11_tellKept ∈ gw := gw_in (t_in_10 (List.mem_of_getElem? (i := 61) rfl)) rfl
theorem q_2377 : Cond.instanceMethod yX11_tellKept ∈ gw := gw_in (t_in_10 (List.mem_of_getElem? (i := 62) rfl)) rfl
theorem q_2378 : Cond.selects RX11 yX11_tellKept yX11_tellKept ∈ gw := gw_in (t_in_10 (List.mem_of_getElem? (i := 63) rfl)) rfl
theorem lL_245 : LKV RL 245 mX11_tellKept 11 1 := ⟨cdX11_tellKept, by decide, by decide +kernel, q_2377, q_2378, Or.inl q_2376, _, _, _, kc_X11⟩
theorem q_1652 : Cond.static yL_tellTerm ∈ gw := gw_in (t_in_7 (List.mem_of_getElem? (i := 57) rfl)) rfl
theorem q_1651 : Cond.methodLink RL 246 yL_tellTerm ∈ gw := gw_in (t_in_7 (List.mem_of_getElem? (i := 56) rfl)) rfl
theorem lL_246 : LKH RL 246 mL_tellTerm 3 := ⟨cdL_tellTerm, by decide, by decide +kernel, q_1652, q_1651⟩
theorem q_2380 : Cond.methodLink RL 248 yX11_tellTerm ∈ gw := gw_in (t_in_10 (List.mem_of_getElem? (i := 65) rfl)) rfl
theorem q_2381 : Cond.instanceMethod yX11_tellTerm ∈ gw := gw_in (t_in_10 (List.mem_of_getElem? (i := 66) rfl)) rfl
theorem q_2382 : Cond.selects RX11 yX11_tellTerm yX11_tellTerm ∈ gw := gw_in (t_in_10 (List.mem_of_getElem? (i := 67) rfl)) rfl
theorem lL_248 : LKV RL 248 mX11_tellTerm 11 1 := ⟨cdX11_tellTerm, by decide, by decide +kernel, q_2381, q_2382, Or.inl q_2380, _, _, _, kc_X11⟩
theorem q_1672 : Cond.static yL_character ∈ gw := gw_in (t_in_7 (List.mem_of_getElem? (i := 77) rfl)) rfl
theorem q_1671 : Cond.methodLink RL 249 yL_character ∈ gw := gw_in (t_in_7 (List.mem_of_getElem? (i := 76) rfl)) rfl
theorem lL_249 : LKH RL 249 mL_character 3 := ⟨cdL_character, by decide, by decide +kernel, q_1672, q_1671⟩
theorem q_2388 : Cond.methodLink RL 251 yX11_character ∈ gw := gw_in (t_in_10 (List.mem_of_getElem? (i := 73) rfl)) rfl
theorem q_2389 : Cond.instanceMethod yX11_character ∈ gw := gw_in (t_in_10 (List.mem_of_getElem? (i := 74) rfl)) rfl
theorem q_2390 : Cond.selects RX11 yX11_character yX11_character ∈ gw := gw_in (t_in_10 (List.mem_of_getElem? (i := 75) rfl)) rfl
theorem lL_251 : LKV RL 251 mX11_character 11 1 := ⟨cdX11_character, by decide, by decide +kernel, q_2389, q_2390, Or.inl q_2388, _, _, _, kc_X11⟩
theorem q_1680 : Cond.static yL_account ∈ gw := gw_in (t_in_7 (List.mem_of_getElem? (i := 85) rfl)) rfl
theorem q_1679 : Cond.methodLink RL 252 yL_account ∈ gw := gw_in (t_in_7 (List.mem_of_getElem? (i := 84) rfl)) rfl
theorem lL_252 : LKH RL 252 mL_account 3 := ⟨cdL_account, by decide, by decide +kernel, q_1680, q_1679⟩
theorem q_2392 : Cond.methodLink RL 254 yX11_account ∈ gw := gw_in (t_in_10 (List.mem_of_getElem? (i := 77) rfl)) rfl
theorem q_2393 : Cond.instanceMethod yX11_account ∈ gw := gw_in (t_in_10 (List.mem_of_getElem? (i := 78) rfl)) rfl
theorem q_2394 : Cond.selects RX11 yX11_account yX11_account ∈ gw := gw_in (t_in_10 (List.mem_of_getElem? (i := 79) rfl)) rfl
theorem lL_254 : LKV RL 254 mX11_account 11 1 := ⟨cdX11_account, by decide, by decide +kernel, q_2393, q_2394, Or.inl q_2392, _, _, _, kc_X11⟩
theorem q_1704 : Cond.static yL_meanSize ∈ gw := gw_in (t_in_7 (List.mem_of_getElem? (i := 109) rfl)) rfl
theorem q_1703 : Cond.methodLink RL 255 yL_meanSize ∈ gw := gw_in (t_in_7 (List.mem_of_getElem? (i := 108) rfl)) rfl
theorem lL_255 : LKH RL 255 mL_meanSize 2 := ⟨cdL_meanSize, by decide, by decide +kernel, q_1704, q_1703⟩
theorem q_2408 : Cond.methodLink RL 258 yX11_meanSize ∈ gw := gw_in (t_in_10 (List.mem_of_getElem? (i := 93) rfl)) rfl
theorem q_2409 : Cond.instanceMethod yX11_meanSize ∈ gw := gw_in (t_in_10 (List.mem_of_getElem? (i := 94) rfl)) rfl
theorem q_2410 : Cond.selects RX11 yX11_meanSize yX11_meanSize ∈ gw := gw_in (t_in_10 (List.mem_of_getElem? (i := 95) rfl)) rfl
theorem lL_258 : LKV RL 258 mX11_meanSize 11 0 := ⟨cdX11_meanSize, by decide, by decide +kernel, q_2409, q_2410, Or.inl q_2408, _, _, _, kc_X11⟩
theorem q_1727 : Cond.static yL_typedShare ∈ gw := gw_in (t_in_7 (List.mem_of_getElem? (i := 132) rfl)) rfl
theorem q_1726 : Cond.methodLink RL 259 yL_typedShare ∈ gw := gw_in (t_in_7 (List.mem_of_getElem? (i := 131) rfl)) rfl
theorem lL_259 : LKH RL 259 mL_typedShare 2 := ⟨cdL_typedShare, by decide, by decide +kernel, q_1727, q_1726⟩
theorem q_2412 : Cond.methodLink RL 261 yX11_typedShare ∈ gw := gw_in (t_in_10 (List.mem_of_getElem? (i := 97) rfl)) rfl
theorem q_2413 : Cond.instanceMethod yX11_typedShare ∈ gw := gw_in (t_in_10 (List.mem_of_getElem? (i := 98) rfl)) rfl
theorem q_2414 : Cond.selects RX11 yX11_typedShare yX11_typedShare ∈ gw := gw_in (t_in_10 (List.mem_of_getElem? (i := 99) rfl)) rfl
theorem lL_261 : LKV RL 261 mX11_typedShare 11 0 := ⟨cdX11_typedShare, by decide, by decide +kernel, q_2413, q_2414, Or.inl q_2412, _, _, _, kc_X11⟩
theorem q_1735 : Cond.static yL_undo ∈ gw := gw_in (t_in_7 (List.mem_of_getElem? (i := 140) rfl)) rfl
theorem q_1734 : Cond.methodLink RL 262 yL_undo ∈ gw := gw_in (t_in_7 (List.mem_of_getElem? (i := 139) rfl)) rfl
theorem lL_262 : LKH RL 262 mL_undo 2 := ⟨cdL_undo, by decide, by decide +kernel, q_1735, q_1734⟩
theorem q_2416 : Cond.methodLink RL 264 yX11_undo ∈ gw := gw_in (t_in_10 (List.mem_of_getElem? (i := 101) rfl)) rfl
theorem q_2417 : Cond.instanceMethod yX11_undo ∈ gw := gw_in (t_in_10 (List.mem_of_getElem? (i := 102) rfl)) rfl
theorem q_2418 : Cond.selects RX11 yX11_undo yX11_undo ∈ gw := gw_in (t_in_10 (List.mem_of_getElem? (i := 103) rfl)) rfl
theorem lL_264 : LKV RL 264 mX11_undo 11 0 := ⟨cdX11_undo, by decide, by decide +kernel, q_2417, q_2418, Or.inl q_2416, _, _, _, kc_X11⟩
theorem q_718 : Cond.methodLink RL 265 yX10_save ∈ gw := gw_in (t_in_3 (List.mem_of_getElem? (i := 83) rfl)) rfl
theorem q_719 : Cond.instanceMethod yX10_save ∈ gw := gw_in (t_in_3 (List.mem_of_getElem? (i := 84) rfl)) rfl
theorem q_720 : Cond.selects RX10 yX10_save yX10_save ∈ gw := gw_in (t_in_3 (List.mem_of_getElem? (i := 85) rfl)) rfl
theorem lL_265 : LKV RL 265 mX10_save 10 0 := ⟨cdX10_save, by decide, by decide +kernel, q_719, q_720, Or.inl q_718, _, _, _, kc_X10⟩
theorem q_2420 : Cond.methodLink RL 268 yX11_save ∈ gw := gw_in (t_in_10 (List.mem_of_getElem? (i := 105) rfl)) rfl
theorem q_2421 : Cond.instanceMethod yX11_save ∈ gw := gw_in (t_in_10 (List.mem_of_getElem? (i := 106) rfl)) rfl
theorem q_2422 : Cond.selects RX11 yX11_save yX11_save ∈ gw := gw_in (t_in_10 (List.mem_of_getElem? (i := 107) rfl)) rfl
theorem lL_268 : LKV RL 268 mX11_save 11 0 := ⟨cdX11_save, by decide, by decide +kernel, q_2421, q_2422, Or.inl q_2420, _, _, _, kc_X11⟩
theorem q_1748 : Cond.static yL_restore ∈ gw := gw_in (t_in_7 (List.mem_of_getElem? (i := 153) rfl)) rfl
theorem q_1747 : Cond.methodLink RL 269 yL_restore ∈ gw := gw_in (t_in_7 (List.mem_of_getElem? (i := 152) rfl)) rfl
theorem lL_269 : LKH RL 269 mL_restore 2 := ⟨cdL_restore, by decide, by decide +kernel, q_1748, q_1747⟩
theorem q_2424 : Cond.methodLink RL 271 yX11_restore ∈ gw := gw_in (t_in_10 (List.mem_of_getElem? (i := 109) rfl)) rfl
theorem q_2425 : Cond.instanceMethod yX11_restore ∈ gw := gw_in (t_in_10 (List.mem_of_getElem? (i := 110) rfl)) rfl
theorem q_2426 : Cond.selects RX11 yX11_restore yX11_restore ∈ gw := gw_in (t_in_10 (List.mem_of_getElem? (i := 111) rfl)) rfl
theorem lL_271 : LKV RL 271 mX11_restore 11 0 := ⟨cdX11_restore, by decide, by decide +kernel, q_2425, q_2426, Or.inl q_2424, _, _, _, kc_X11⟩
theorem q_1764 : Cond.methodLink RX11 1 ⟨"java/lang/Object", "<init>", "()V"⟩ ∈ gw := gw_in (t_in_7 (List.mem_of_getElem? (i := 169) rfl)) rfl
theorem oX11_1 : LKO RX11 1 := ⟨q_1764, q_197, q_oc⟩
theorem q_207 : Cond.methodLink RJ5 3 ⟨"java/lang/Object", "<init>", "()V"⟩ ∈ gw := gw_in (t_in_1 (List.mem_of_getElem? (i := 52) rfl)) rfl
theorem oJ5_3 : LKO RJ5 3 := ⟨q_207, q_197, q_oc⟩
theorem q_217 : Cond.fieldLink RJ5 15 "java/lang/AbstractStringBuilder" "value" "[B" ∈ gw := gw_in (t_in_1 (List.mem_of_getElem? (i := 62) rfl)) rfl
theorem fJ5_15 : FL RJ5 15 0 4 0 false (.array .byte) := ⟨RJ4, TJ4, tyJ4, kc_J4, by decide, rfl, rfl, Or.inl q_217⟩
theorem q_208 : Cond.fieldLink RJ5 18 "java/lang/String" "COMPACT_STRINGS" "Z" ∈ gw := gw_in (t_in_1 (List.mem_of_getElem? (i := 53) rfl)) rfl
theorem q_218 : Cond.fieldLink RJ5 22 "java/lang/AbstractStringBuilder" "coder" "B" ∈ gw := gw_in (t_in_1 (List.mem_of_getElem? (i := 63) rfl)) rfl
theorem fJ5_22 : FL RJ5 22 0 4 1 false .byte := ⟨RJ4, TJ4, tyJ4, kc_J4, by decide, rfl, rfl, Or.inl q_218⟩
theorem q_219 : Cond.fieldLink RJ5 73 "java/lang/AbstractStringBuilder" "maybeLatin1" "Z" ∈ gw := gw_in (t_in_1 (List.mem_of_getElem? (i := 64) rfl)) rfl
theorem fJ5_73 : FL RJ5 73 0 4 2 false .boolean := ⟨RJ4, TJ4, tyJ4, kc_J4, by decide, rfl, rfl, Or.inl q_219⟩
theorem q_221 : Cond.fieldLink RJ5 79 "java/lang/AbstractStringBuilder" "count" "I" ∈ gw := gw_in (t_in_1 (List.mem_of_getElem? (i := 66) rfl)) rfl
theorem fJ5_79 : FL RJ5 79 0 4 3 false .int := ⟨RJ4, TJ4, tyJ4, kc_J4, by decide, rfl, rfl, Or.inl q_221⟩
theorem q_857 : Cond.methodLink RJ5 83 yJ5_isLatin1_aae02 ∈ gw := gw_in (t_in_3 (List.mem_of_getElem? (i := 222) rfl)) rfl
theorem q_860 : Cond.selects RJ4 yJ5_isLatin1_aae02 yJ5_isLatin1_aae02 ∈ gw := gw_in (t_in_3 (List.mem_of_getElem? (i := 225) rfl)) rfl
theorem q_858 : Cond.instanceMethod yJ5_isLatin1_aae02 ∈ gw := gw_in (t_in_3 (List.mem_of_getElem? (i := 223) rfl)) rfl
theorem q_859 : Cond.sameMethod RJ5 RJ5 "isLatin1" "()Z" ∈ gw := gw_in (t_in_3 (List.mem_of_getElem? (i := 224) rfl)) rfl
theorem lJ5_83 : LKU RJ5 83 mJ5_isLatin1_aae02 0 0 := ⟨cdJ5_isLatin1_aae02, by decide, by decide +kernel, q_858, q_857, q_859, _, _, _, _, kc_J4, q_860⟩
theorem q_832 : Cond.methodLink RJ5 100 yJ5_ensureCapacityInternal_d00df ∈ gw := gw_in (t_in_3 (List.mem_of_getElem? (i := 197) rfl)) rfl
theorem q_834 : Cond.instanceMethod yJ5_ensureCapacityInternal_d00df ∈ gw := gw_in (t_in_3 (List.mem_of_getElem? (i := 199) rfl)) rfl
theorem q_2435 : Cond.sameMethod RJ5 RJ5 "ensureCapacityInternal" "(I)V" ∈ gw := gw_in (t_in_10 (List.mem_of_getElem? (i := 120) rfl)) rfl
theorem lJ5_100 : LKU RJ5 100 mJ5_ensureCapacityInternal_d00df 0 1 := ⟨cdJ5_ensureCapacityInternal_d00df, by decide, by decide +kernel, q_834, q_832, q_2435, _, _, _, _, kc_J4, gx_J5_ensureCapacityInternal_d00df⟩
theorem q_836 : Cond.methodLink RJ5 104 yJ5_newCapacity_0f7a4 ∈ gw := gw_in (t_in_3 (List.mem_of_getElem? (i := 201) rfl)) rfl
theorem q_838 : Cond.instanceMethod yJ5_newCapacity_0f7a4 ∈ gw := gw_in (t_in_3 (List.mem_of_getElem? (i := 203) rfl)) rfl
theorem q_2436 : Cond.sameMethod RJ5 RJ5 "newCapacity" "(I)I" ∈ gw := gw_in (t_in_10 (List.mem_of_getElem? (i := 121) rfl)) rfl
theorem lJ5_104 : LKU RJ5 104 mJ5_newCapacity_0f7a4 0 1 := ⟨cdJ5_newCapacity_0f7a4, by decide, by decide +kernel, q_838, q_836, q_2436, _, _, _, _, kc_J4, gx_J5_newCapacity_0f7a4⟩
theorem q_849 : Cond.methodLink RJ5 108 yJ7_copyOf_9075b ∈ gw := gw_in (t_in_3 (List.mem_of_getElem? (i := 214) rfl)) rfl
theorem q_850 : Cond.static yJ7_copyOf_9075b ∈ gw := gw_in (t_in_3 (List.mem_of_getElem? (i := 215) rfl)) rfl
theorem lJ5_108 : LKS RJ5 108 mJ7_copyOf_9075b 2 := ⟨cdJ7_copyOf_9075b, by decide, by decide +kernel, q_850, Or.inl q_849⟩
theorem q_840 : Cond.methodLink RJ5 114 yJ8_newLength_cabcc ∈ gw := gw_in (t_in_3 (List.mem_of_getElem? (i := 205) rfl)) rfl
theorem q_841 : Cond.static yJ8_newLength_cabcc ∈ gw := gw_in (t_in_3 (List.mem_of_getElem? (i := 206) rfl)) rfl
theorem lJ5_114 : LKS RJ5 114 mJ8_newLength_cabcc 3 := ⟨cdJ8_newLength_cabcc, by decide, by decide +kernel, q_841, Or.inl q_840⟩
theorem q_756 : Cond.methodLink RJ5 144 yJ0_checkIndex_df160 ∈ gw := gw_in (t_in_3 (List.mem_of_getElem? (i := 121) rfl)) rfl
theorem q_757 : Cond.static yJ0_checkIndex_df160 ∈ gw := gw_in (t_in_3 (List.mem_of_getElem? (i := 122) rfl)) rfl
theorem lJ5_144 : LKS RJ5 144 mJ0_checkIndex_df160 2 := ⟨cdJ0_checkIndex_df160, by decide, by decide +kernel, q_757, Or.inl q_756⟩
theorem q_1573 : Cond.methodLink RJ5 191 yJ1_canEncode_fc78d ∈ gw := gw_in (t_in_6 (List.mem_of_getElem? (i := 218) rfl)) rfl
theorem q_1574 : Cond.static yJ1_canEncode_fc78d ∈ gw := gw_in (t_in_6 (List.mem_of_getElem? (i := 219) rfl)) rfl
theorem lJ5_191 : LKS RJ5 191 mJ1_canEncode_fc78d 1 := ⟨cdJ1_canEncode_fc78d, by decide, by decide +kernel, q_1574, Or.inl q_1573⟩
theorem q_927 : Cond.methodLink RJ5 245 yJ6_stringSize_0f7a4 ∈ gw := gw_in (t_in_4 (List.mem_of_getElem? (i := 52) rfl)) rfl
theorem q_928 : Cond.static yJ6_stringSize_0f7a4 ∈ gw := gw_in (t_in_4 (List.mem_of_getElem? (i := 53) rfl)) rfl
theorem lJ5_245 : LKS RJ5 245 mJ6_stringSize_0f7a4 1 := ⟨cdJ6_stringSize_0f7a4, by decide, by decide +kernel, q_928, Or.inl q_927⟩
theorem q_930 : Cond.methodLink RJ5 248 yJ6_getChars_ba4f3 ∈ gw := gw_in (t_in_4 (List.mem_of_getElem? (i := 55) rfl)) rfl
theorem q_931 : Cond.static yJ6_getChars_ba4f3 ∈ gw := gw_in (t_in_4 (List.mem_of_getElem? (i := 56) rfl)) rfl
theorem lJ5_248 : LKS RJ5 248 mJ6_getChars_ba4f3 3 := ⟨cdJ6_getChars_ba4f3, by decide, by decide +kernel, q_931, Or.inl q_930⟩
theorem q_204 : Cond.methodLink RJ4 1 yJ5_init_d00df ∈ gw := gw_in (t_in_1 (List.mem_of_getElem? (i := 49) rfl)) rfl
theorem q_205 : Cond.instanceMethod yJ5_init_d00df ∈ gw := gw_in (t_in_1 (List.mem_of_getElem? (i := 50) rfl)) rfl
theorem lJ4_1 : LKI RJ4 1 mJ5_init_d00df 1 := ⟨cdJ5_init_d00df, by decide, by decide +kernel, q_205, rfl, rfl, Or.inl q_204⟩
theorem q_1570 : Cond.methodLink RJ4 50 yJ5_append_3fe6f ∈ gw := gw_in (t_in_6 (List.mem_of_getElem? (i := 215) rfl)) rfl
theorem q_1571 : Cond.instanceMethod yJ5_append_3fe6f ∈ gw := gw_in (t_in_6 (List.mem_of_getElem? (i := 216) rfl)) rfl
theorem q_2443 : Cond.sameMethod RJ5 RJ5 "append" "(C)Ljava/lang/AbstractStringBuilder;" ∈ gw := gw_in (t_in_10 (List.mem_of_getElem? (i := 128) rfl)) rfl
theorem q_230 : Cond.superclass RJ4 RJ5 ∈ gw := gw_in (t_in_1 (List.mem_of_getElem? (i := 75) rfl)) rfl
theorem lJ4_50 : LKP RJ4 50 mJ5_append_3fe6f 0 1 := ⟨cdJ5_append_3fe6f, by decide, by decide +kernel, q_1571, q_1570, q_2443, q_230, by decide, _, _, _, _, kc_J4⟩
theorem q_924 : Cond.methodLink RJ4 53 yJ5_append_c97b9 ∈ gw := gw_in (t_in_4 (List.mem_of_getElem? (i := 49) rfl)) rfl
theorem q_925 : Cond.instanceMethod yJ5_append_c97b9 ∈ gw := gw_in (t_in_4 (List.mem_of_getElem? (i := 50) rfl)) rfl
theorem q_2440 : Cond.sameMethod RJ5 RJ5 "append" "(I)Ljava/lang/AbstractStringBuilder;" ∈ gw := gw_in (t_in_10 (List.mem_of_getElem? (i := 125) rfl)) rfl
theorem lJ4_53 : LKP RJ4 53 mJ5_append_c97b9 0 1 := ⟨cdJ5_append_c97b9, by decide, by decide +kernel, q_925, q_924, q_2440, q_230, by decide, _, _, _, _, kc_J4⟩
theorem q_752 : Cond.methodLink RJ4 329 yJ5_charAt_5068e ∈ gw := gw_in (t_in_3 (List.mem_of_getElem? (i := 117) rfl)) rfl
theorem q_753 : Cond.instanceMethod yJ5_charAt_5068e ∈ gw := gw_in (t_in_3 (List.mem_of_getElem? (i := 118) rfl)) rfl
theorem q_2431 : Cond.sameMethod RJ5 RJ5 "charAt" "(I)C" ∈ gw := gw_in (t_in_10 (List.mem_of_getElem? (i := 116) rfl)) rfl
theorem lJ4_329 : LKP RJ4 329 mJ5_charAt_5068e 0 1 := ⟨cdJ5_charAt_5068e, by decide, by decide +kernel, q_753, q_752, q_2431, q_230, by decide, _, _, _, _, kc_J4⟩
theorem q_810 : Cond.methodLink RJ4 333 yJ5_setLength_d00df ∈ gw := gw_in (t_in_3 (List.mem_of_getElem? (i := 175) rfl)) rfl
theorem q_811 : Cond.instanceMethod yJ5_setLength_d00df ∈ gw := gw_in (t_in_3 (List.mem_of_getElem? (i := 176) rfl)) rfl
theorem q_2432 : Cond.sameMethod RJ5 RJ5 "setLength" "(I)V" ∈ gw := gw_in (t_in_10 (List.mem_of_getElem? (i := 117) rfl)) rfl
theorem lJ4_333 : LKP RJ4 333 mJ5_setLength_d00df 0 1 := ⟨cdJ5_setLength_d00df, by decide, by decide +kernel, q_811, q_810, q_2432, q_230, by decide, _, _, _, _, kc_J4⟩
theorem q_745 : Cond.methodLink RJ4 343 yJ5_length_8abf5 ∈ gw := gw_in (t_in_3 (List.mem_of_getElem? (i := 110) rfl)) rfl
theorem q_746 : Cond.instanceMethod yJ5_length_8abf5 ∈ gw := gw_in (t_in_3 (List.mem_of_getElem? (i := 111) rfl)) rfl
theorem q_2430 : Cond.sameMethod RJ5 RJ5 "length" "()I" ∈ gw := gw_in (t_in_10 (List.mem_of_getElem? (i := 115) rfl)) rfl
theorem lJ4_343 : LKP RJ4 343 mJ5_length_8abf5 0 0 := ⟨cdJ5_length_8abf5, by decide, by decide +kernel, q_746, q_745, q_2430, q_230, by decide, _, _, _, _, kc_J4⟩
theorem q_1020 : Cond.classLink RJ7 45 RJ4 ∈ gw := gw_in (t_in_4 (List.mem_of_getElem? (i := 145) rfl)) rfl
theorem nJ7_45 : NL RJ7 45 0 4 := ⟨RJ4, TJ4, tyJ4, kc_J4, q_1020, q_200, q_158⟩
theorem q_1021 : Cond.methodLink RJ7 47 yJ4_init_da8c8 ∈ gw := gw_in (t_in_4 (List.mem_of_getElem? (i := 146) rfl)) rfl
theorem lJ7_47 : LKI RJ7 47 mJ4_init_da8c8 0 := ⟨cdJ4_init_da8c8, by decide, by decide +kernel, q_202, rfl, rfl, Or.inl q_1021⟩
theorem q_1022 : Cond.methodLink RJ7 54 yJ4_append_bf812 ∈ gw := gw_in (t_in_4 (List.mem_of_getElem? (i := 147) rfl)) rfl
theorem lJ7_54 : LKV RJ7 54 mJ4_append_bf812 0 1 := ⟨cdJ4_append_bf812, by decide, by decide +kernel, q_921, q_922, Or.inl q_1022, _, _, _, kc_J4⟩
theorem q_403 : Cond.classLink RX6 9 RX7 ∈ gw := gw_in (t_in_2 (List.mem_of_getElem? (i := 8) rfl)) rfl
theorem q_405 : Cond.classLink RX6 17 RX5 ∈ gw := gw_in (t_in_2 (List.mem_of_getElem? (i := 10) rfl)) rfl
