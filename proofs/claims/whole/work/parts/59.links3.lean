/-! further links -/
theorem q_763 : Cond.code yJ3_checkIndex_8e157 cJ3_checkIndex_8e157 3 (some .int) ∈ gw := gw_in (t_in_3 (List.mem_of_getElem? (i := 128) rfl)) rfl
theorem q_170 : Cond.initialized RJ3 ∈ gw := gw_in (t_in_1 (List.mem_of_getElem? (i := 15) rfl)) rfl
theorem cdJ3_checkIndex_8e157 : CD mJ3_checkIndex_8e157 := ⟨q_763, q_170, by decide +kernel, ⟨by decide +kernel, by decide +kernel⟩, rfl, fun _ => trivial⟩
theorem q_637 : Cond.code yJ7_fill_53178 cJ7_fill_53178 4 (none) ∈ gw := gw_in (t_in_3 (List.mem_of_getElem? (i := 2) rfl)) rfl
theorem cdJ7_fill_53178 : CD mJ7_fill_53178 := ⟨q_637, q_177, by decide +kernel, ⟨by decide +kernel, by decide +kernel⟩, rfl, fun _ => trivial⟩
theorem q_1494 : Cond.methodLink RX5 56 yJ7_fill_53178 ∈ gw := gw_in (t_in_6 (List.mem_of_getElem? (i := 139) rfl)) rfl
theorem q_636 : Cond.static yJ7_fill_53178 ∈ gw := gw_in (t_in_3 (List.mem_of_getElem? (i := 1) rfl)) rfl
theorem lX5_56 : LKS RX5 56 mJ7_fill_53178 2 := ⟨cdJ7_fill_53178, by decide, by decide +kernel, q_636, Or.inl q_1494⟩
theorem q_635 : Cond.methodLink RX9 121 yJ7_fill_53178 ∈ gw := gw_in (t_in_3 (List.mem_of_getElem? (i := 0) rfl)) rfl
theorem lX9_121 : LKS RX9 121 mJ7_fill_53178 2 := ⟨cdJ7_fill_53178, by decide, by decide +kernel, q_636, Or.inl q_635⟩
theorem q_761 : Cond.methodLink RJ0 1059 yJ3_checkIndex_8e157 ∈ gw := gw_in (t_in_3 (List.mem_of_getElem? (i := 126) rfl)) rfl
theorem q_762 : Cond.static yJ3_checkIndex_8e157 ∈ gw := gw_in (t_in_3 (List.mem_of_getElem? (i := 127) rfl)) rfl
theorem lJ0_1059 : LKS RJ0 1059 mJ3_checkIndex_8e157 3 := ⟨cdJ3_checkIndex_8e157, by decide, by decide +kernel, q_762, Or.inl q_761⟩
theorem q_759 : Cond.fieldLink RJ0 1053 "jdk/internal/util/Preconditions" "SIOOBE_FORMATTER" "Ljava/util/function/BiFunction;" ∈ gw := gw_in (t_in_3 (List.mem_of_getElem? (i := 124) rfl)) rfl
theorem q_703 : Cond.methodLink RX0 196 yJ9_max_7cf53 ∈ gw := gw_in (t_in_3 (List.mem_of_getElem? (i := 68) rfl)) rfl
theorem q_1234 : Cond.methodLink RX1 38 yJ9_min_7cf53 ∈ gw := gw_in (t_in_5 (List.mem_of_getElem? (i := 119) rfl)) rfl
theorem q_1746 : Cond.methodLink RX1 41 yJ9_max_7cf53 ∈ gw := gw_in (t_in_7 (List.mem_of_getElem? (i := 151) rfl)) rfl
theorem q_1289 : Cond.methodLink RX5 50 yJ9_max_7cf53 ∈ gw := gw_in (t_in_5 (List.mem_of_getElem? (i := 174) rfl)) rfl
theorem q_1250 : Cond.methodLink RX6 41 yJ9_max_7cf53 ∈ gw := gw_in (t_in_5 (List.mem_of_getElem? (i := 135) rfl)) rfl
theorem q_688 : Cond.methodLink RX9 116 yJ9_max_7cf53 ∈ gw := gw_in (t_in_3 (List.mem_of_getElem? (i := 53) rfl)) rfl
theorem q_755 : Cond.methodLink RJ5 138 yJ9_min_7cf53 ∈ gw := gw_in (t_in_3 (List.mem_of_getElem? (i := 120) rfl)) rfl
theorem q_522 : Cond.methodLink RJ7 304 yJ9_min_7cf53 ∈ gw := gw_in (t_in_2 (List.mem_of_getElem? (i := 127) rfl)) rfl
theorem q_843 : Cond.methodLink RJ8 194 yJ9_max_7cf53 ∈ gw := gw_in (t_in_3 (List.mem_of_getElem? (i := 208) rfl)) rfl
theorem q_523 : Cond.static yJ9_min_7cf53 ∈ gw := gw_in (t_in_2 (List.mem_of_getElem? (i := 128) rfl)) rfl
theorem q_169 : Cond.initialized RJ9 ∈ gw := gw_in (t_in_1 (List.mem_of_getElem? (i := 14) rfl)) rfl
theorem q_524 : Cond.code yJ9_min_7cf53 cJ9_min_7cf53 2 (some .int) ∈ gw := gw_in (t_in_2 (List.mem_of_getElem? (i := 129) rfl)) rfl
theorem q_689 : Cond.static yJ9_max_7cf53 ∈ gw := gw_in (t_in_3 (List.mem_of_getElem? (i := 54) rfl)) rfl
theorem q_690 : Cond.code yJ9_max_7cf53 cJ9_max_7cf53 2 (some .int) ∈ gw := gw_in (t_in_3 (List.mem_of_getElem? (i := 55) rfl)) rfl
