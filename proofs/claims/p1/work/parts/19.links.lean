theorem t_in_1 {w : Cond} (h : w ∈ tables_1_1) : w ∈ lw_tbl := List.mem_append_right _ (show w ∈ tables_1 from List.mem_append_left _ h)
theorem t_in_2 {w : Cond} (h : w ∈ tables_1_2) : w ∈ lw_tbl := List.mem_append_right _ (show w ∈ tables_1 from List.mem_append_right _ (List.mem_append_left _ h))
theorem t_in_3 {w : Cond} (h : w ∈ tables_1_3) : w ∈ lw_tbl := List.mem_append_right _ (show w ∈ tables_1 from List.mem_append_right _ (List.mem_append_right _ (List.mem_append_left _ h)))
theorem t_in_4 {w : Cond} (h : w ∈ tables_1_4) : w ∈ lw_tbl := List.mem_append_right _ (show w ∈ tables_1 from List.mem_append_right _ (List.mem_append_right _ (List.mem_append_right _ (List.mem_append_left _ h))))
theorem t_in_5 {w : Cond} (h : w ∈ tables_1_5) : w ∈ lw_tbl := List.mem_append_right _ (show w ∈ tables_1 from List.mem_append_right _ (List.mem_append_right _ (List.mem_append_right _ (List.mem_append_right _ (List.mem_append_left _ h)))))
theorem t_in_6 {w : Cond} (h : w ∈ tables_1_6) : w ∈ lw_tbl := List.mem_append_right _ (show w ∈ tables_1 from List.mem_append_right _ (List.mem_append_right _ (List.mem_append_right _ (List.mem_append_right _ (List.mem_append_right _ (List.mem_append_left _ h))))))
theorem t_in_7 {w : Cond} (h : w ∈ tables_1_7) : w ∈ lw_tbl := List.mem_append_right _ (show w ∈ tables_1 from List.mem_append_right _ (List.mem_append_right _ (List.mem_append_right _ (List.mem_append_right _ (List.mem_append_right _ (List.mem_append_right _ (List.mem_append_left _ h)))))))
theorem t_in_8 {w : Cond} (h : w ∈ tables_1_8) : w ∈ lw_tbl := List.mem_append_right _ (show w ∈ tables_1 from List.mem_append_right _ (List.mem_append_right _ (List.mem_append_right _ (List.mem_append_right _ (List.mem_append_right _ (List.mem_append_right _ (List.mem_append_right _ (List.mem_append_left _ h))))))))
theorem t_in_9 {w : Cond} (h : w ∈ tables_1_9) : w ∈ lw_tbl := List.mem_append_right _ (show w ∈ tables_1 from List.mem_append_right _ (List.mem_append_right _ (List.mem_append_right _ (List.mem_append_right _ (List.mem_append_right _ (List.mem_append_right _ (List.mem_append_right _ (List.mem_append_right _ (List.mem_append_left _ h)))))))))
theorem t_in_10 {w : Cond} (h : w ∈ tables_1_10) : w ∈ lw_tbl := List.mem_append_right _ (show w ∈ tables_1 from List.mem_append_right _ (List.mem_append_right _ (List.mem_append_right _ (List.mem_append_right _ (List.mem_append_right _ (List.mem_append_right _ (List.mem_append_right _ (List.mem_append_right _ (List.mem_append_right _ (h))))))))))
theorem p_in_1 {w : Cond} (h : w ∈ k2_sels lw_privs_1) : ∃ q ∈ lw_privs, Cond.selects q.1.cls q.1 q.1 = w := by
  obtain ⟨q, hq, e⟩ := List.mem_map.mp h
  exact ⟨q, show q ∈ lw_privs from List.mem_append_left _ hq, e⟩
theorem p_in_2 {w : Cond} (h : w ∈ k2_sels lw_privs_2) : ∃ q ∈ lw_privs, Cond.selects q.1.cls q.1 q.1 = w := by
  obtain ⟨q, hq, e⟩ := List.mem_map.mp h
  exact ⟨q, show q ∈ lw_privs from List.mem_append_right _ (List.mem_append_left _ hq), e⟩
theorem p_in_3 {w : Cond} (h : w ∈ k2_sels lw_privs_3) : ∃ q ∈ lw_privs, Cond.selects q.1.cls q.1 q.1 = w := by
  obtain ⟨q, hq, e⟩ := List.mem_map.mp h
  exact ⟨q, show q ∈ lw_privs from List.mem_append_right _ (List.mem_append_right _ (List.mem_append_left _ hq)), e⟩
theorem p_in_4 {w : Cond} (h : w ∈ k2_sels lw_privs_4) : ∃ q ∈ lw_privs, Cond.selects q.1.cls q.1 q.1 = w := by
  obtain ⟨q, hq, e⟩ := List.mem_map.mp h
  exact ⟨q, show q ∈ lw_privs from List.mem_append_right _ (List.mem_append_right _ (List.mem_append_right _ (List.mem_append_left _ hq))), e⟩
theorem p_in_5 {w : Cond} (h : w ∈ k2_sels lw_privs_5) : ∃ q ∈ lw_privs, Cond.selects q.1.cls q.1 q.1 = w := by
  obtain ⟨q, hq, e⟩ := List.mem_map.mp h
  exact ⟨q, show q ∈ lw_privs from List.mem_append_right _ (List.mem_append_right _ (List.mem_append_right _ (List.mem_append_right _ (List.mem_append_left _ hq)))), e⟩
theorem p_in_6 {w : Cond} (h : w ∈ k2_sels lw_privs_6) : ∃ q ∈ lw_privs, Cond.selects q.1.cls q.1 q.1 = w := by
  obtain ⟨q, hq, e⟩ := List.mem_map.mp h
  exact ⟨q, show q ∈ lw_privs from List.mem_append_right _ (List.mem_append_right _ (List.mem_append_right _ (List.mem_append_right _ (List.mem_append_right _ (List.mem_append_left _ hq))))), e⟩
theorem p_in_7 {w : Cond} (h : w ∈ k2_sels lw_privs_7) : ∃ q ∈ lw_privs, Cond.selects q.1.cls q.1 q.1 = w := by
  obtain ⟨q, hq, e⟩ := List.mem_map.mp h
  exact ⟨q, show q ∈ lw_privs from List.mem_append_right _ (List.mem_append_right _ (List.mem_append_right _ (List.mem_append_right _ (List.mem_append_right _ (List.mem_append_right _ (List.mem_append_left _ hq)))))), e⟩
theorem p_in_8 {w : Cond} (h : w ∈ k2_sels lw_privs_8) : ∃ q ∈ lw_privs, Cond.selects q.1.cls q.1 q.1 = w := by
  obtain ⟨q, hq, e⟩ := List.mem_map.mp h
  exact ⟨q, show q ∈ lw_privs from List.mem_append_right _ (List.mem_append_right _ (List.mem_append_right _ (List.mem_append_right _ (List.mem_append_right _ (List.mem_append_right _ (List.mem_append_right _ (List.mem_append_left _ hq))))))), e⟩
theorem p_in_9 {w : Cond} (h : w ∈ k2_sels lw_privs_9) : ∃ q ∈ lw_privs, Cond.selects q.1.cls q.1 q.1 = w := by
  obtain ⟨q, hq, e⟩ := List.mem_map.mp h
  exact ⟨q, show q ∈ lw_privs from List.mem_append_right _ (List.mem_append_right _ (List.mem_append_right _ (List.mem_append_right _ (List.mem_append_right _ (List.mem_append_right _ (List.mem_append_right _ (List.mem_append_right _ (List.mem_append_left _ hq)))))))), e⟩
theorem p_in_10 {w : Cond} (h : w ∈ k2_sels lw_privs_10) : ∃ q ∈ lw_privs, Cond.selects q.1.cls q.1 q.1 = w := by
  obtain ⟨q, hq, e⟩ := List.mem_map.mp h
  exact ⟨q, show q ∈ lw_privs from List.mem_append_right _ (List.mem_append_right _ (List.mem_append_right _ (List.mem_append_right _ (List.mem_append_right _ (List.mem_append_right _ (List.mem_append_right _ (List.mem_append_right _ (List.mem_append_right _ (hq))))))))), e⟩
theorem lw_i {w : Cond} (h : ∃ q ∈ lw_privs, Cond.selects q.1.cls q.1 q.1 = w) : w ∈ lw_tbl := List.mem_append_left _ (List.mem_map.mpr h)
theorem gw_ps {ws : List Cond} (ps : List Nat) (hp : ws = ps.filterMap (fun i => lw_tbl[i]?)) (hg : ws.all goodWord = true) : ∀ w ∈ ws, w ∈ gw := fun w hw => gw_in (by
  rw [hp] at hw
  obtain ⟨i, -, hi⟩ := List.mem_filterMap.mp hw
  exact List.mem_of_getElem? hi) (List.all_eq_true.mp hg w hw)
theorem kc_J4 : KC 0 RJ4 TJ4 tyJ4 4 := ⟨by decide, rfl, gw_ps [222, 224, 226, 228] (by decide +kernel) (by decide +kernel), tyJ4_ok, nmJ4, by decide +kernel⟩
theorem kc_X0 : KC 1 RX0 TX0 tyX0 14 := ⟨by decide, rfl, gw_ps [353, 355, 357, 359, 361, 363, 365, 367, 369, 371, 373, 375, 377, 379] (by decide +kernel) (by decide +kernel), tyX0_ok, nmX0, by decide +kernel⟩
theorem kc_X1 : KC 2 RX1 TX1 tyX1 3 := ⟨by decide, rfl, gw_ps [437, 439, 441] (by decide +kernel) (by decide +kernel), tyX1_ok, nmX1, by decide +kernel⟩
theorem kc_X3 : KC 3 RX3 TX3 tyX3 4 := ⟨by decide, rfl, gw_ps [324, 326, 328, 330] (by decide +kernel) (by decide +kernel), tyX3_ok, nmX3, by decide +kernel⟩
theorem kc_X4 : KC 4 RX4 TX4 tyX4 3 := ⟨by decide, rfl, gw_ps [1142, 1144, 1146] (by decide +kernel) (by decide +kernel), tyX4_ok, nmX4, by decide +kernel⟩
theorem kc_X5 : KC 5 RX5 TX5 tyX5 2 := ⟨by decide, rfl, gw_ps [392, 394] (by decide +kernel) (by decide +kernel), tyX5_ok, nmX5, by decide +kernel⟩
theorem kc_X6 : KC 6 RX6 TX6 tyX6 5 := ⟨by decide, rfl, gw_ps [414, 416, 418, 420, 422] (by decide +kernel) (by decide +kernel), tyX6_ok, nmX6, by decide +kernel⟩
theorem kc_X7 : KC 7 RX7 TX7 tyX7 2 := ⟨by decide, rfl, gw_ps [1182, 1184] (by decide +kernel) (by decide +kernel), tyX7_ok, nmX7, by decide +kernel⟩
theorem kc_X8 : KC 8 RX8 TX8 tyX8 4 := ⟨by decide, rfl, gw_ps [242, 244, 246, 248] (by decide +kernel) (by decide +kernel), tyX8_ok, nmX8, by decide +kernel⟩
theorem kc_X9 : KC 9 RX9 TX9 tyX9 15 := ⟨by decide, rfl, gw_ps [282, 284, 286, 288, 290, 292, 294, 296, 298, 300, 302, 304, 306, 308, 310] (by decide +kernel) (by decide +kernel), tyX9_ok, nmX9, by decide +kernel⟩
theorem kc_X10 : KC 10 RX10 TX10 tyX10 13 := ⟨by decide, rfl, gw_ps [457, 459, 461, 463, 465, 467, 469, 471, 473, 475, 477, 479, 481] (by decide +kernel) (by decide +kernel), tyX10_ok, nmX10, by decide +kernel⟩
theorem kc_X11 : KC 11 RX11 TX11 tyX11 82 := ⟨by decide, rfl, gw_ps [1846, 1848, 1850, 1852, 1854, 1856, 1858, 1860, 1862, 1864, 1866, 1868, 1870, 1872, 1874, 1876, 1878, 1880, 1882, 1884, 1886, 1888, 1890, 1892, 1894, 1896, 1898, 1900, 1902, 1904, 1906, 1908, 1910, 1912, 1914, 1916, 1918, 1920, 1922, 1924, 1926, 1928, 1930, 1932, 1934, 1936, 1938, 1940, 1942, 1944, 1946, 1948, 1950, 1952, 1954, 1956, 1958, 1960, 1962, 1964, 1966, 1968, 1970, 1972, 1974, 1976, 1978, 1980, 1982, 1984, 1986, 1988, 1990, 1992, 1994, 1996, 1998, 2000, 2002, 2004, 2006, 2008] (by decide +kernel) (by decide +kernel), tyX11_ok, nmX11, by decide +kernel⟩
abbrev mX10_init : MD := (yX10_init, cX10_init, 1, none, [], tt)
theorem q_195 : Cond.code yX10_init cX10_init 1 (none) ∈ gw := gw_in (t_in_1 (List.mem_of_getElem? (i := 40) rfl)) rfl
theorem q_156 : Cond.initialized RX10 ∈ gw := gw_in (t_in_1 (List.mem_of_getElem? (i := 1) rfl)) rfl
theorem cdX10_init : CD mX10_init := ⟨q_195, q_156, by decide +kernel, ⟨by decide +kernel, by decide +kernel⟩, rfl, fun _ => trivial⟩
abbrev mJ4_init_da8c8 : MD := (yJ4_init_da8c8, cJ4_init_da8c8, 1, none, [], tt)
abbrev mJ5_init_d00df : MD := (yJ5_init_d00df, cJ5_init_d00df, 2, none, [], tt)
abbrev mJ2_newBytesFor_77867 : MD := (yJ2_newBytesFor_77867, cJ2_newBytesFor_77867, 1, some (.array .byte), [], tt)
abbrev mJ2_newBytesLength_0f7a4 : MD := (yJ2_newBytesLength_0f7a4, cJ2_newBytesLength_0f7a4, 1, some .int, [], tt)
abbrev mX8_init : MD := (yX8_init, cX8_init, 1, none, [], tt)
theorem q_236 : Cond.code yX8_init cX8_init 1 (none) ∈ gw := gw_in (t_in_1 (List.mem_of_getElem? (i := 81) rfl)) rfl
theorem q_161 : Cond.initialized RX8 ∈ gw := gw_in (t_in_1 (List.mem_of_getElem? (i := 6) rfl)) rfl
theorem cdX8_init : CD mX8_init := ⟨q_236, q_161, by decide +kernel, ⟨by decide +kernel, by decide +kernel⟩, rfl, fun _ => trivial⟩
abbrev mX0_init : MD := (yX0_init, cX0_init, 1, none, [], tt)
theorem q_256 : Cond.code yX0_init cX0_init 1 (none) ∈ gw := gw_in (t_in_1 (List.mem_of_getElem? (i := 101) rfl)) rfl
theorem q_162 : Cond.initialized RX0 ∈ gw := gw_in (t_in_1 (List.mem_of_getElem? (i := 7) rfl)) rfl
theorem cdX0_init : CD mX0_init := ⟨q_256, q_162, by decide +kernel, ⟨by decide +kernel, by decide +kernel⟩, rfl, fun _ => trivial⟩
abbrev mX9_init : MD := (yX9_init, cX9_init, 1, none, [], tt)
theorem q_262 : Cond.code yX9_init cX9_init 1 (none) ∈ gw := gw_in (t_in_1 (List.mem_of_getElem? (i := 107) rfl)) rfl
theorem q_163 : Cond.initialized RX9 ∈ gw := gw_in (t_in_1 (List.mem_of_getElem? (i := 8) rfl)) rfl
theorem cdX9_init : CD mX9_init := ⟨q_262, q_163, by decide +kernel, ⟨by decide +kernel, by decide +kernel⟩, rfl, fun _ => trivial⟩
abbrev mX3_init : MD := (yX3_init, cX3_init, 1, none, [], tt)
theorem q_317 : Cond.code yX3_init cX3_init 1 (none) ∈ gw := gw_in (t_in_1 (List.mem_of_getElem? (i := 162) rfl)) rfl
theorem q_164 : Cond.initialized RX3 ∈ gw := gw_in (t_in_1 (List.mem_of_getElem? (i := 9) rfl)) rfl
theorem cdX3_init : CD mX3_init := ⟨q_317, q_164, by decide +kernel, ⟨by decide +kernel, by decide +kernel⟩, rfl, fun _ => trivial⟩
abbrev mX5_init : MD := (yX5_init, cX5_init, 2, none, [], tt)
theorem q_386 : Cond.code yX5_init cX5_init 2 (none) ∈ gw := gw_in (t_in_1 (List.mem_of_getElem? (i := 231) rfl)) rfl
theorem q_165 : Cond.initialized RX5 ∈ gw := gw_in (t_in_1 (List.mem_of_getElem? (i := 10) rfl)) rfl
theorem cdX5_init : CD mX5_init := ⟨q_386, q_165, by decide +kernel, ⟨by decide +kernel, by decide +kernel⟩, rfl, fun _ => trivial⟩
abbrev mX6_init : MD := (yX6_init, cX6_init, 1, none, [], tt)
theorem q_401 : Cond.code yX6_init cX6_init 1 (none) ∈ gw := gw_in (t_in_2 (List.mem_of_getElem? (i := 6) rfl)) rfl
theorem q_166 : Cond.initialized RX6 ∈ gw := gw_in (t_in_1 (List.mem_of_getElem? (i := 11) rfl)) rfl
theorem cdX6_init : CD mX6_init := ⟨q_401, q_166, by decide +kernel, ⟨by decide +kernel, by decide +kernel⟩, rfl, fun _ => trivial⟩
abbrev mX1_init : MD := (yX1_init, cX1_init, 1, none, [], tt)
theorem q_429 : Cond.code yX1_init cX1_init 1 (none) ∈ gw := gw_in (t_in_2 (List.mem_of_getElem? (i := 34) rfl)) rfl
theorem q_167 : Cond.initialized RX1 ∈ gw := gw_in (t_in_1 (List.mem_of_getElem? (i := 12) rfl)) rfl
theorem cdX1_init : CD mX1_init := ⟨q_429, q_167, by decide +kernel, ⟨by decide +kernel, by decide +kernel⟩, rfl, fun _ => trivial⟩
abbrev mX10_isTold : MD := (yX10_isTold, cX10_isTold, 3, some .boolean, [], tt)
theorem q_487 : Cond.code yX10_isTold cX10_isTold 3 (some .boolean) ∈ gw := gw_in (t_in_2 (List.mem_of_getElem? (i := 92) rfl)) rfl
theorem cdX10_isTold : CD mX10_isTold := ⟨q_487, q_156, by decide +kernel, ⟨by decide +kernel, by decide +kernel⟩, rfl, fun _ => trivial⟩
abbrev mX6_termAt : MD := (yX6_termAt, cX6_termAt, 2, some (.object "TypeTutor$Term"), [], tt)
theorem q_491 : Cond.code yX6_termAt cX6_termAt 2 (some (.object "TypeTutor$Term")) ∈ gw := gw_in (t_in_2 (List.mem_of_getElem? (i := 96) rfl)) rfl
theorem cdX6_termAt : CD mX6_termAt := ⟨q_491, q_166, by decide +kernel, ⟨by decide +kernel, by decide +kernel⟩, rfl, fun _ => trivial⟩
abbrev mX10_spells : MD := (yX10_spells, cX10_spells, 3, some .boolean, [], tt)
theorem q_495 : Cond.code yX10_spells cX10_spells 3 (some .boolean) ∈ gw := gw_in (t_in_2 (List.mem_of_getElem? (i := 100) rfl)) rfl
theorem cdX10_spells : CD mX10_spells := ⟨q_495, q_156, by decide +kernel, ⟨by decide +kernel, by decide +kernel⟩, rfl, fun _ => trivial⟩
abbrev mX0_goThrough : MD := (yX0_goThrough, cX0_goThrough, 6, some .boolean, [], tt)
theorem q_499 : Cond.code yX0_goThrough cX0_goThrough 6 (some .boolean) ∈ gw := gw_in (t_in_2 (List.mem_of_getElem? (i := 104) rfl)) rfl
theorem cdX0_goThrough : CD mX0_goThrough := ⟨q_499, q_162, by decide +kernel, ⟨by decide +kernel, by decide +kernel⟩, rfl, fun _ => trivial⟩
abbrev mX0_begin : MD := (yX0_begin, cX0_begin, 2, none, [], tt)
theorem q_503 : Cond.code yX0_begin cX0_begin 2 (none) ∈ gw := gw_in (t_in_2 (List.mem_of_getElem? (i := 108) rfl)) rfl
theorem cdX0_begin : CD mX0_begin := ⟨q_503, q_162, by decide +kernel, ⟨by decide +kernel, by decide +kernel⟩, rfl, fun _ => trivial⟩
abbrev mX9_clear : MD := (yX9_clear, cX9_clear, 1, none, [], tt)
theorem q_507 : Cond.code yX9_clear cX9_clear 1 (none) ∈ gw := gw_in (t_in_2 (List.mem_of_getElem? (i := 112) rfl)) rfl
theorem cdX9_clear : CD mX9_clear := ⟨q_507, q_163, by decide +kernel, ⟨by decide +kernel, by decide +kernel⟩, rfl, fun _ => trivial⟩
abbrev mX9_add : MD := (yX9_add, cX9_add, 3, some .int, [], tt)
theorem q_511 : Cond.code yX9_add cX9_add 3 (some .int) ∈ gw := gw_in (t_in_2 (List.mem_of_getElem? (i := 116) rfl)) rfl
theorem cdX9_add : CD mX9_add := ⟨q_511, q_163, by decide +kernel, ⟨by decide +kernel, by decide +kernel⟩, rfl, fun _ => trivial⟩
abbrev mJ7_copyOf_59c91 : MD := (yJ7_copyOf_59c91, cJ7_copyOf_59c91, 3, some (.array .int), [], tt)
abbrev mJ9_min_7cf53 : MD := (yJ9_min_7cf53, cJ9_min_7cf53, 2, some .int, [], tt)
abbrev mX10_put : MD := (yX10_put, cX10_put, 3, none, [], tt)
theorem q_530 : Cond.code yX10_put cX10_put 3 (none) ∈ gw := gw_in (t_in_2 (List.mem_of_getElem? (i := 135) rfl)) rfl
theorem cdX10_put : CD mX10_put := ⟨q_530, q_156, by decide +kernel, ⟨by decide +kernel, by decide +kernel⟩, rfl, fun _ => trivial⟩
abbrev mX3_enter : MD := (yX3_enter, cX3_enter, 2, none, [], tt)
theorem q_534 : Cond.code yX3_enter cX3_enter 2 (none) ∈ gw := gw_in (t_in_2 (List.mem_of_getElem? (i := 139) rfl)) rfl
theorem cdX3_enter : CD mX3_enter := ⟨q_534, q_164, by decide +kernel, ⟨by decide +kernel, by decide +kernel⟩, rfl, fun _ => trivial⟩
abbrev mX0_isGoing : MD := (yX0_isGoing, cX0_isGoing, 1, some .boolean, [], tt)
theorem q_540 : Cond.code yX0_isGoing cX0_isGoing 1 (some .boolean) ∈ gw := gw_in (t_in_2 (List.mem_of_getElem? (i := 145) rfl)) rfl
theorem cdX0_isGoing : CD mX0_isGoing := ⟨q_540, q_162, by decide +kernel, ⟨by decide +kernel, by decide +kernel⟩, rfl, fun _ => trivial⟩
abbrev mX9_matchNext : MD := (yX9_matchNext, cX9_matchNext, 5, some .int, [], tt)
theorem q_544 : Cond.code yX9_matchNext cX9_matchNext 5 (some .int) ∈ gw := gw_in (t_in_2 (List.mem_of_getElem? (i := 149) rfl)) rfl
theorem cdX9_matchNext : CD mX9_matchNext := ⟨q_544, q_163, by decide +kernel, ⟨by decide +kernel, by decide +kernel⟩, rfl, fun _ => trivial⟩
abbrev mX10_at : MD := (yX10_at, cX10_at, 2, some .int, [], tt)
theorem q_547 : Cond.code yX10_at cX10_at 2 (some .int) ∈ gw := gw_in (t_in_2 (List.mem_of_getElem? (i := 152) rfl)) rfl
theorem cdX10_at : CD mX10_at := ⟨q_547, q_156, by decide +kernel, ⟨by decide +kernel, by decide +kernel⟩, rfl, fun _ => trivial⟩
abbrev mX9_known : MD := (yX9_known, cX9_known, 4, some .int, [], tt)
theorem q_551 : Cond.code yX9_known cX9_known 4 (some .int) ∈ gw := gw_in (t_in_2 (List.mem_of_getElem? (i := 156) rfl)) rfl
theorem cdX9_known : CD mX9_known := ⟨q_551, q_163, by decide +kernel, ⟨by decide +kernel, by decide +kernel⟩, rfl, fun _ => trivial⟩
abbrev mX9_kindOf : MD := (yX9_kindOf, cX9_kindOf, 2, some .int, [], tt)
theorem q_555 : Cond.code yX9_kindOf cX9_kindOf 2 (some .int) ∈ gw := gw_in (t_in_2 (List.mem_of_getElem? (i := 160) rfl)) rfl
theorem cdX9_kindOf : CD mX9_kindOf := ⟨q_555, q_163, by decide +kernel, ⟨by decide +kernel, by decide +kernel⟩, rfl, fun _ => trivial⟩
abbrev mX9_become : MD := (yX9_become, cX9_become, 3, some .int, [], tt)
theorem q_559 : Cond.code yX9_become cX9_become 3 (some .int) ∈ gw := gw_in (t_in_2 (List.mem_of_getElem? (i := 164) rfl)) rfl
theorem cdX9_become : CD mX9_become := ⟨q_559, q_163, by decide +kernel, ⟨by decide +kernel, by decide +kernel⟩, rfl, fun _ => trivial⟩
abbrev mX9_newMark : MD := (yX9_newMark, cX9_newMark, 1, some .int, [], tt)
theorem q_563 : Cond.code yX9_newMark cX9_newMark 1 (some .int) ∈ gw := gw_in (t_in_2 (List.mem_of_getElem? (i := 168) rfl)) rfl
theorem cdX9_newMark : CD mX9_newMark := ⟨q_563, q_163, by decide +kernel, ⟨by decide +kernel, by decide +kernel⟩, rfl, fun _ => trivial⟩
abbrev mX9_markAll : MD := (yX9_markAll, cX9_markAll, 5, none, [], tt)
theorem q_567 : Cond.code yX9_markAll cX9_markAll 5 (none) ∈ gw := gw_in (t_in_2 (List.mem_of_getElem? (i := 172) rfl)) rfl
theorem cdX9_markAll : CD mX9_markAll := ⟨q_567, q_163, by decide +kernel, ⟨by decide +kernel, by decide +kernel⟩, rfl, fun _ => trivial⟩
abbrev mX9_addTrail : MD := (yX9_addTrail, cX9_addTrail, 2, none, [], tt)
theorem q_571 : Cond.code yX9_addTrail cX9_addTrail 2 (none) ∈ gw := gw_in (t_in_2 (List.mem_of_getElem? (i := 176) rfl)) rfl
theorem cdX9_addTrail : CD mX9_addTrail := ⟨q_571, q_163, by decide +kernel, ⟨by decide +kernel, by decide +kernel⟩, rfl, fun _ => trivial⟩
abbrev mX9_takeTrail : MD := (yX9_takeTrail, cX9_takeTrail, 1, some .int, [], tt)
theorem q_576 : Cond.code yX9_takeTrail cX9_takeTrail 1 (some .int) ∈ gw := gw_in (t_in_2 (List.mem_of_getElem? (i := 181) rfl)) rfl
theorem cdX9_takeTrail : CD mX9_takeTrail := ⟨q_576, q_163, by decide +kernel, ⟨by decide +kernel, by decide +kernel⟩, rfl, fun _ => trivial⟩
abbrev mX9_addPair : MD := (yX9_addPair, cX9_addPair, 4, none, [], tt)
theorem q_580 : Cond.code yX9_addPair cX9_addPair 4 (none) ∈ gw := gw_in (t_in_2 (List.mem_of_getElem? (i := 185) rfl)) rfl
theorem cdX9_addPair : CD mX9_addPair := ⟨q_580, q_163, by decide +kernel, ⟨by decide +kernel, by decide +kernel⟩, rfl, fun _ => trivial⟩
abbrev mX0_failFitting : MD := (yX0_failFitting, cX0_failFitting, 2, none, [], tt)
theorem q_584 : Cond.code yX0_failFitting cX0_failFitting 2 (none) ∈ gw := gw_in (t_in_2 (List.mem_of_getElem? (i := 189) rfl)) rfl
theorem cdX0_failFitting : CD mX0_failFitting := ⟨q_584, q_162, by decide +kernel, ⟨by decide +kernel, by decide +kernel⟩, rfl, fun _ => trivial⟩
abbrev mX3_node : MD := (yX3_node, cX3_node, 1, some .int, [], tt)
theorem q_588 : Cond.code yX3_node cX3_node 1 (some .int) ∈ gw := gw_in (t_in_2 (List.mem_of_getElem? (i := 193) rfl)) rfl
theorem cdX3_node : CD mX3_node := ⟨q_588, q_164, by decide +kernel, ⟨by decide +kernel, by decide +kernel⟩, rfl, fun _ => trivial⟩
abbrev mX0_fail : MD := (yX0_fail, cX0_fail, 3, none, [], tt)
theorem q_593 : Cond.code yX0_fail cX0_fail 3 (none) ∈ gw := gw_in (t_in_2 (List.mem_of_getElem? (i := 198) rfl)) rfl
theorem cdX0_fail : CD mX0_fail := ⟨q_593, q_162, by decide +kernel, ⟨by decide +kernel, by decide +kernel⟩, rfl, fun _ => trivial⟩
abbrev mX0_goOn : MD := (yX0_goOn, cX0_goOn, 6, none, [], tt)
theorem q_597 : Cond.code yX0_goOn cX0_goOn 6 (none) ∈ gw := gw_in (t_in_2 (List.mem_of_getElem? (i := 202) rfl)) rfl
theorem cdX0_goOn : CD mX0_goOn := ⟨q_597, q_162, by decide +kernel, ⟨by decide +kernel, by decide +kernel⟩, rfl, fun _ => trivial⟩
abbrev mX3_takeStage : MD := (yX3_takeStage, cX3_takeStage, 2, some .int, [], tt)
theorem q_601 : Cond.code yX3_takeStage cX3_takeStage 2 (some .int) ∈ gw := gw_in (t_in_2 (List.mem_of_getElem? (i := 206) rfl)) rfl
theorem cdX3_takeStage : CD mX3_takeStage := ⟨q_601, q_164, by decide +kernel, ⟨by decide +kernel, by decide +kernel⟩, rfl, fun _ => trivial⟩
abbrev mX7_of : MD := (yX7_of, cX7_of, 3, some .int, [], tt)
theorem q_606 : Cond.code yX7_of cX7_of 3 (some .int) ∈ gw := gw_in (t_in_2 (List.mem_of_getElem? (i := 211) rfl)) rfl
theorem q_186 : Cond.initialized RX7 ∈ gw := gw_in (t_in_1 (List.mem_of_getElem? (i := 31) rfl)) rfl
theorem cdX7_of : CD mX7_of := ⟨q_606, q_186, by decide +kernel, ⟨by decide +kernel, by decide +kernel⟩, rfl, fun _ => trivial⟩
abbrev mX7_hasNode : MD := (yX7_hasNode, cX7_hasNode, 2, some .boolean, [], tt)
theorem q_610 : Cond.code yX7_hasNode cX7_hasNode 2 (some .boolean) ∈ gw := gw_in (t_in_2 (List.mem_of_getElem? (i := 215) rfl)) rfl
theorem cdX7_hasNode : CD mX7_hasNode := ⟨q_610, q_186, by decide +kernel, ⟨by decide +kernel, by decide +kernel⟩, rfl, fun _ => trivial⟩
abbrev mX0_goName : MD := (yX0_goName, cX0_goName, 5, none, [], tt)
theorem q_615 : Cond.code yX0_goName cX0_goName 5 (none) ∈ gw := gw_in (t_in_2 (List.mem_of_getElem? (i := 220) rfl)) rfl
theorem cdX0_goName : CD mX0_goName := ⟨q_615, q_162, by decide +kernel, ⟨by decide +kernel, by decide +kernel⟩, rfl, fun _ => trivial⟩
abbrev mX0_end : MD := (yX0_end, cX0_end, 3, none, [], tt)
theorem q_620 : Cond.code yX0_end cX0_end 3 (none) ∈ gw := gw_in (t_in_2 (List.mem_of_getElem? (i := 225) rfl)) rfl
theorem cdX0_end : CD mX0_end := ⟨q_620, q_162, by decide +kernel, ⟨by decide +kernel, by decide +kernel⟩, rfl, fun _ => trivial⟩
abbrev mX3_leave : MD := (yX3_leave, cX3_leave, 1, none, [], tt)
theorem q_625 : Cond.code yX3_leave cX3_leave 1 (none) ∈ gw := gw_in (t_in_2 (List.mem_of_getElem? (i := 230) rfl)) rfl
theorem cdX3_leave : CD mX3_leave := ⟨q_625, q_164, by decide +kernel, ⟨by decide +kernel, by decide +kernel⟩, rfl, fun _ => trivial⟩
abbrev mX0_scheme : MD := (yX0_scheme, cX0_scheme, 2, some (.object "TypeTutor$Shape"), [], tt)
theorem q_629 : Cond.code yX0_scheme cX0_scheme 2 (some (.object "TypeTutor$Shape")) ∈ gw := gw_in (t_in_2 (List.mem_of_getElem? (i := 234) rfl)) rfl
theorem cdX0_scheme : CD mX0_scheme := ⟨q_629, q_162, by decide +kernel, ⟨by decide +kernel, by decide +kernel⟩, rfl, fun _ => trivial⟩
abbrev mX9_make : MD := (yX9_make, cX9_make, 6, some .int, [], tt)
theorem q_634 : Cond.code yX9_make cX9_make 6 (some .int) ∈ gw := gw_in (t_in_2 (List.mem_of_getElem? (i := 239) rfl)) rfl
theorem cdX9_make : CD mX9_make := ⟨q_634, q_163, by decide +kernel, ⟨by decide +kernel, by decide +kernel⟩, rfl, fun _ => trivial⟩
abbrev mJ7_fill_53178 : MD := (yJ7_fill_53178, cJ7_fill_53178, 4, none, [], tt)
abbrev mX5_sign : MD := (yX5_sign, cX5_sign, 2, some .int, [], tt)
theorem q_641 : Cond.code yX5_sign cX5_sign 2 (some .int) ∈ gw := gw_in (t_in_3 (List.mem_of_getElem? (i := 6) rfl)) rfl
theorem cdX5_sign : CD mX5_sign := ⟨q_641, q_165, by decide +kernel, ⟨by decide +kernel, by decide +kernel⟩, rfl, fun _ => trivial⟩
abbrev mX6_keptAt : MD := (yX6_keptAt, cX6_keptAt, 2, some (.object "TypeTutor$Shape"), [], tt)
theorem q_646 : Cond.code yX6_keptAt cX6_keptAt 2 (some (.object "TypeTutor$Shape")) ∈ gw := gw_in (t_in_3 (List.mem_of_getElem? (i := 11) rfl)) rfl
theorem cdX6_keptAt : CD mX6_keptAt := ⟨q_646, q_166, by decide +kernel, ⟨by decide +kernel, by decide +kernel⟩, rfl, fun _ => trivial⟩
abbrev mX0_goKept : MD := (yX0_goKept, cX0_goKept, 3, none, [], tt)
theorem q_650 : Cond.code yX0_goKept cX0_goKept 3 (none) ∈ gw := gw_in (t_in_3 (List.mem_of_getElem? (i := 15) rfl)) rfl
theorem cdX0_goKept : CD mX0_goKept := ⟨q_650, q_162, by decide +kernel, ⟨by decide +kernel, by decide +kernel⟩, rfl, fun _ => trivial⟩
abbrev mX9_ofSign : MD := (yX9_ofSign, cX9_ofSign, 3, some .int, [], tt)
theorem q_654 : Cond.code yX9_ofSign cX9_ofSign 3 (some .int) ∈ gw := gw_in (t_in_3 (List.mem_of_getElem? (i := 19) rfl)) rfl
theorem cdX9_ofSign : CD mX9_ofSign := ⟨q_654, q_163, by decide +kernel, ⟨by decide +kernel, by decide +kernel⟩, rfl, fun _ => trivial⟩
abbrev mX0_goFunction : MD := (yX0_goFunction, cX0_goFunction, 4, none, [], tt)
theorem q_658 : Cond.code yX0_goFunction cX0_goFunction 4 (none) ∈ gw := gw_in (t_in_3 (List.mem_of_getElem? (i := 23) rfl)) rfl
theorem cdX0_goFunction : CD mX0_goFunction := ⟨q_658, q_162, by decide +kernel, ⟨by decide +kernel, by decide +kernel⟩, rfl, fun _ => trivial⟩
abbrev mX0_goLet : MD := (yX0_goLet, cX0_goLet, 6, none, [], tt)
theorem q_663 : Cond.code yX0_goLet cX0_goLet 6 (none) ∈ gw := gw_in (t_in_3 (List.mem_of_getElem? (i := 28) rfl)) rfl
theorem cdX0_goLet : CD mX0_goLet := ⟨q_663, q_162, by decide +kernel, ⟨by decide +kernel, by decide +kernel⟩, rfl, fun _ => trivial⟩
abbrev mX9_sizeOf : MD := (yX9_sizeOf, cX9_sizeOf, 4, some .int, [], tt)
theorem q_667 : Cond.code yX9_sizeOf cX9_sizeOf 4 (some .int) ∈ gw := gw_in (t_in_3 (List.mem_of_getElem? (i := 32) rfl)) rfl
theorem cdX9_sizeOf : CD mX9_sizeOf := ⟨q_667, q_163, by decide +kernel, ⟨by decide +kernel, by decide +kernel⟩, rfl, fun _ => trivial⟩
abbrev mX7_parentOf : MD := (yX7_parentOf, cX7_parentOf, 3, some .int, [], tt)
theorem q_672 : Cond.code yX7_parentOf cX7_parentOf 3 (some .int) ∈ gw := gw_in (t_in_3 (List.mem_of_getElem? (i := 37) rfl)) rfl
theorem cdX7_parentOf : CD mX7_parentOf := ⟨q_672, q_186, by decide +kernel, ⟨by decide +kernel, by decide +kernel⟩, rfl, fun _ => trivial⟩
abbrev mX9_spell : MD := (yX9_spell, cX9_spell, 9, none, [], tt)
theorem q_678 : Cond.code yX9_spell cX9_spell 9 (none) ∈ gw := gw_in (t_in_3 (List.mem_of_getElem? (i := 43) rfl)) rfl
theorem cdX9_spell : CD mX9_spell := ⟨q_678, q_163, by decide +kernel, ⟨by decide +kernel, by decide +kernel⟩, rfl, fun _ => trivial⟩
abbrev mX5_add : MD := (yX5_add, cX5_add, 2, none, [], tt)
theorem q_682 : Cond.code yX5_add cX5_add 2 (none) ∈ gw := gw_in (t_in_3 (List.mem_of_getElem? (i := 47) rfl)) rfl
theorem cdX5_add : CD mX5_add := ⟨q_682, q_165, by decide +kernel, ⟨by decide +kernel, by decide +kernel⟩, rfl, fun _ => trivial⟩
abbrev mX9_numberOf : MD := (yX9_numberOf, cX9_numberOf, 4, some .int, [], tt)
theorem q_687 : Cond.code yX9_numberOf cX9_numberOf 4 (some .int) ∈ gw := gw_in (t_in_3 (List.mem_of_getElem? (i := 52) rfl)) rfl
theorem cdX9_numberOf : CD mX9_numberOf := ⟨q_687, q_163, by decide +kernel, ⟨by decide +kernel, by decide +kernel⟩, rfl, fun _ => trivial⟩
abbrev mJ9_max_7cf53 : MD := (yJ9_max_7cf53, cJ9_max_7cf53, 2, some .int, [], tt)
abbrev mX0_goApplication : MD := (yX0_goApplication, cX0_goApplication, 5, none, [], tt)
theorem q_694 : Cond.code yX0_goApplication cX0_goApplication 5 (none) ∈ gw := gw_in (t_in_3 (List.mem_of_getElem? (i := 59) rfl)) rfl
theorem cdX0_goApplication : CD mX0_goApplication := ⟨q_694, q_162, by decide +kernel, ⟨by decide +kernel, by decide +kernel⟩, rfl, fun _ => trivial⟩
abbrev mX3_hold : MD := (yX3_hold, cX3_hold, 2, none, [], tt)
theorem q_698 : Cond.code yX3_hold cX3_hold 2 (none) ∈ gw := gw_in (t_in_3 (List.mem_of_getElem? (i := 63) rfl)) rfl
theorem cdX3_hold : CD mX3_hold := ⟨q_698, q_164, by decide +kernel, ⟨by decide +kernel, by decide +kernel⟩, rfl, fun _ => trivial⟩
abbrev mX3_holding : MD := (yX3_holding, cX3_holding, 1, some .int, [], tt)
theorem q_702 : Cond.code yX3_holding cX3_holding 1 (some .int) ∈ gw := gw_in (t_in_3 (List.mem_of_getElem? (i := 67) rfl)) rfl
theorem cdX3_holding : CD mX3_holding := ⟨q_702, q_164, by decide +kernel, ⟨by decide +kernel, by decide +kernel⟩, rfl, fun _ => trivial⟩
abbrev mX0_spellWhole : MD := (yX0_spellWhole, cX0_spellWhole, 2, none, [], tt)
theorem q_708 : Cond.code yX0_spellWhole cX0_spellWhole 2 (none) ∈ gw := gw_in (t_in_3 (List.mem_of_getElem? (i := 73) rfl)) rfl
theorem cdX0_spellWhole : CD mX0_spellWhole := ⟨q_708, q_162, by decide +kernel, ⟨by decide +kernel, by decide +kernel⟩, rfl, fun _ => trivial⟩
abbrev mX5_isSame : MD := (yX5_isSame, cX5_isSame, 3, some .boolean, [], tt)
theorem q_712 : Cond.code yX5_isSame cX5_isSame 3 (some .boolean) ∈ gw := gw_in (t_in_3 (List.mem_of_getElem? (i := 77) rfl)) rfl
theorem cdX5_isSame : CD mX5_isSame := ⟨q_712, q_165, by decide +kernel, ⟨by decide +kernel, by decide +kernel⟩, rfl, fun _ => trivial⟩
abbrev mX10_faultPosition : MD := (yX10_faultPosition, cX10_faultPosition, 1, some .int, [], tt)
theorem q_717 : Cond.code yX10_faultPosition cX10_faultPosition 1 (some .int) ∈ gw := gw_in (t_in_3 (List.mem_of_getElem? (i := 82) rfl)) rfl
theorem cdX10_faultPosition : CD mX10_faultPosition := ⟨q_717, q_156, by decide +kernel, ⟨by decide +kernel, by decide +kernel⟩, rfl, fun _ => trivial⟩
abbrev mX10_save : MD := (yX10_save, cX10_save, 1, some .int, [], tt)
theorem q_721 : Cond.code yX10_save cX10_save 1 (some .int) ∈ gw := gw_in (t_in_3 (List.mem_of_getElem? (i := 86) rfl)) rfl
theorem cdX10_save : CD mX10_save := ⟨q_721, q_156, by decide +kernel, ⟨by decide +kernel, by decide +kernel⟩, rfl, fun _ => trivial⟩
abbrev mX6_take : MD := (yX6_take, cX6_take, 3, none, [], tt)
theorem q_725 : Cond.code yX6_take cX6_take 3 (none) ∈ gw := gw_in (t_in_3 (List.mem_of_getElem? (i := 90) rfl)) rfl
theorem cdX6_take : CD mX6_take := ⟨q_725, q_166, by decide +kernel, ⟨by decide +kernel, by decide +kernel⟩, rfl, fun _ => trivial⟩
abbrev mX10_lesson : MD := (yX10_lesson, cX10_lesson, 2, some .int, [], tt)
theorem q_736 : Cond.code yX10_lesson cX10_lesson 2 (some .int) ∈ gw := gw_in (t_in_3 (List.mem_of_getElem? (i := 101) rfl)) rfl
theorem cdX10_lesson : CD mX10_lesson := ⟨q_736, q_156, by decide +kernel, ⟨by decide +kernel, by decide +kernel⟩, rfl, fun _ => trivial⟩
abbrev mX8_faultIn : MD := (yX8_faultIn, cX8_faultIn, 4, some .int, [], tt)
theorem q_740 : Cond.code yX8_faultIn cX8_faultIn 4 (some .int) ∈ gw := gw_in (t_in_3 (List.mem_of_getElem? (i := 105) rfl)) rfl
theorem cdX8_faultIn : CD mX8_faultIn := ⟨q_740, q_161, by decide +kernel, ⟨by decide +kernel, by decide +kernel⟩, rfl, fun _ => trivial⟩
abbrev mJ4_length_8abf5 : MD := (yJ4_length_8abf5, cJ4_length_8abf5, 1, some .int, [], tt)
abbrev mJ5_length_8abf5 : MD := (yJ5_length_8abf5, cJ5_length_8abf5, 1, some .int, [], tt)
abbrev mJ4_charAt_5068e : MD := (yJ4_charAt_5068e, cJ4_charAt_5068e, 2, some .char, [], tt)
abbrev mJ5_charAt_5068e : MD := (yJ5_charAt_5068e, cJ5_charAt_5068e, 5, some .char, [], tt)
abbrev mJ0_checkIndex_df160 : MD := (yJ0_checkIndex_df160, cJ0_checkIndex_df160, 2, none, [], tt)
abbrev mJ3_checkIndex_8e157 : MD := (yJ3_checkIndex_8e157, cJ3_checkIndex_8e157, 3, some .int, [], tt)
abbrev mJ2_getChar_3b067 : MD := (yJ2_getChar_3b067, cJ2_getChar_3b067, 2, some .char, [], tt)
abbrev mJ2_length_9d52b : MD := (yJ2_length_9d52b, cJ2_length_9d52b, 1, some .int, [], tt)
abbrev mX8_placeBehind : MD := (yX8_placeBehind, cX8_placeBehind, 3, some .int, [], tt)
theorem q_779 : Cond.code yX8_placeBehind cX8_placeBehind 3 (some .int) ∈ gw := gw_in (t_in_3 (List.mem_of_getElem? (i := 144) rfl)) rfl
theorem cdX8_placeBehind : CD mX8_placeBehind := ⟨q_779, q_161, by decide +kernel, ⟨by decide +kernel, by decide +kernel⟩, rfl, fun _ => trivial⟩
abbrev mX8_placeBehindPart : MD := (yX8_placeBehindPart, cX8_placeBehindPart, 2, some .int, [], tt)
theorem q_783 : Cond.code yX8_placeBehindPart cX8_placeBehindPart 2 (some .int) ∈ gw := gw_in (t_in_3 (List.mem_of_getElem? (i := 148) rfl)) rfl
theorem cdX8_placeBehindPart : CD mX8_placeBehindPart := ⟨q_783, q_161, by decide +kernel, ⟨by decide +kernel, by decide +kernel⟩, rfl, fun _ => trivial⟩
abbrev mX8_placeInside : MD := (yX8_placeInside, cX8_placeInside, 2, some .int, [], tt)
theorem q_787 : Cond.code yX8_placeInside cX8_placeInside 2 (some .int) ∈ gw := gw_in (t_in_3 (List.mem_of_getElem? (i := 152) rfl)) rfl
theorem cdX8_placeInside : CD mX8_placeInside := ⟨q_787, q_161, by decide +kernel, ⟨by decide +kernel, by decide +kernel⟩, rfl, fun _ => trivial⟩
abbrev mX8_kindOf : MD := (yX8_kindOf, cX8_kindOf, 1, some .int, [], tt)
theorem q_791 : Cond.code yX8_kindOf cX8_kindOf 1 (some .int) ∈ gw := gw_in (t_in_3 (List.mem_of_getElem? (i := 156) rfl)) rfl
theorem cdX8_kindOf : CD mX8_kindOf := ⟨q_791, q_161, by decide +kernel, ⟨by decide +kernel, by decide +kernel⟩, rfl, fun _ => trivial⟩
abbrev mX10_isLetter : MD := (yX10_isLetter, cX10_isLetter, 1, some .boolean, [], tt)
theorem q_794 : Cond.code yX10_isLetter cX10_isLetter 1 (some .boolean) ∈ gw := gw_in (t_in_3 (List.mem_of_getElem? (i := 159) rfl)) rfl
theorem cdX10_isLetter : CD mX10_isLetter := ⟨q_794, q_156, by decide +kernel, ⟨by decide +kernel, by decide +kernel⟩, rfl, fun _ => trivial⟩
abbrev mX10_isCapitalSign : MD := (yX10_isCapitalSign, cX10_isCapitalSign, 1, some .boolean, [], tt)
theorem q_797 : Cond.code yX10_isCapitalSign cX10_isCapitalSign 1 (some .boolean) ∈ gw := gw_in (t_in_3 (List.mem_of_getElem? (i := 162) rfl)) rfl
theorem cdX10_isCapitalSign : CD mX10_isCapitalSign := ⟨q_797, q_156, by decide +kernel, ⟨by decide +kernel, by decide +kernel⟩, rfl, fun _ => trivial⟩
abbrev mX10_isDigit : MD := (yX10_isDigit, cX10_isDigit, 1, some .boolean, [], tt)
theorem q_800 : Cond.code yX10_isDigit cX10_isDigit 1 (some .boolean) ∈ gw := gw_in (t_in_3 (List.mem_of_getElem? (i := 165) rfl)) rfl
theorem cdX10_isDigit : CD mX10_isDigit := ⟨q_800, q_156, by decide +kernel, ⟨by decide +kernel, by decide +kernel⟩, rfl, fun _ => trivial⟩
abbrev mX8_placeOutside : MD := (yX8_placeOutside, cX8_placeOutside, 3, some .int, [], tt)
theorem q_804 : Cond.code yX8_placeOutside cX8_placeOutside 3 (some .int) ∈ gw := gw_in (t_in_3 (List.mem_of_getElem? (i := 169) rfl)) rfl
theorem cdX8_placeOutside : CD mX8_placeOutside := ⟨q_804, q_161, by decide +kernel, ⟨by decide +kernel, by decide +kernel⟩, rfl, fun _ => trivial⟩
abbrev mJ4_setLength_d00df : MD := (yJ4_setLength_d00df, cJ4_setLength_d00df, 2, none, [], tt)
abbrev mJ5_setLength_d00df : MD := (yJ5_setLength_d00df, cJ5_setLength_d00df, 2, none, [], tt)
abbrev mJx7c733_init_d00df : MD := (yJx7c733_init_d00df, cJx7c733_init_d00df, 2, none, [], tt)
abbrev mJ4_append_15ec4 : MD := (yJ4_append_15ec4, cJ4_append_15ec4, 2, some (.object "java/lang/StringBuilder"), [], tt)
abbrev mJ5_append_cf1ce : MD := (yJ5_append_cf1ce, cJ5_append_cf1ce, 3, some (.object "java/lang/AbstractStringBuilder"), [], tt)
abbrev mJ5_appendNull_278bc : MD := (yJ5_appendNull_278bc, cJ5_appendNull_278bc, 3, some (.object "java/lang/AbstractStringBuilder"), [], tt)
abbrev mJ5_ensureCapacityInternal_d00df : MD := (yJ5_ensureCapacityInternal_d00df, cJ5_ensureCapacityInternal_d00df, 3, none, [], tt)
abbrev mJ5_newCapacity_0f7a4 : MD := (yJ5_newCapacity_0f7a4, cJ5_newCapacity_0f7a4, 6, some .int, [], tt)
abbrev mJ8_newLength_cabcc : MD := (yJ8_newLength_cabcc, cJ8_newLength_cabcc, 4, some .int, [], tt)
abbrev mJ8_hugeLength_7cf53 : MD := (yJ8_hugeLength_7cf53, cJ8_hugeLength_7cf53, 3, some .int, [], tt)
abbrev mJ7_copyOf_9075b : MD := (yJ7_copyOf_9075b, cJ7_copyOf_9075b, 3, some (.array .byte), [], tt)
abbrev mJ5_isLatin1_aae02 : MD := (yJ5_isLatin1_aae02, cJ5_isLatin1_aae02, 1, some .boolean, [], tt)
abbrev mJ2_putCharsAt_cd4e5 : MD := (yJ2_putCharsAt_cd4e5, cJ2_putCharsAt_cd4e5, 7, some .int, [], tt)
abbrev mJ2_checkBoundsBeginEnd_d044e : MD := (yJ2_checkBoundsBeginEnd_d044e, cJ2_checkBoundsBeginEnd_d044e, 3, none, [], tt)
abbrev mJ0_checkBoundsBeginEnd_23922 : MD := (yJ0_checkBoundsBeginEnd_23922, cJ0_checkBoundsBeginEnd_23922, 3, none, [], tt)
abbrev mJ3_checkFromToIndex_8c36e : MD := (yJ3_checkFromToIndex_8c36e, cJ3_checkFromToIndex_8c36e, 4, some .int, [], tt)
abbrev mJ2_putChar_b72d1 : MD := (yJ2_putChar_b72d1, cJ2_putChar_b72d1, 3, none, [], tt)
abbrev mJ0_length_8abf5 : MD := (yJ0_length_8abf5, cJ0_length_8abf5, 1, some .int, [], tt)
abbrev mJ0_coder_7d493 : MD := (yJ0_coder_7d493, cJ0_coder_7d493, 1, some .byte, [], tt)
abbrev mJ5_putStringAt_47b60 : MD := (yJ5_putStringAt_47b60, cJ5_putStringAt_47b60, 3, none, [], tt)
abbrev mJ5_inflateIfNeededFor_a7421 : MD := (yJ5_inflateIfNeededFor_a7421, cJ5_inflateIfNeededFor_a7421, 2, none, [], tt)
abbrev mJ5_inflate_da8c8 : MD := (yJ5_inflate_da8c8, cJ5_inflate_da8c8, 2, none, [], tt)
abbrev mJ1_inflate_0e8fd : MD := (yJ1_inflate_0e8fd, cJ1_inflate_0e8fd, 5, none, [], tt)
abbrev mJ2_inflate_0e8fd : MD := (yJ2_inflate_0e8fd, cJ2_inflate_0e8fd, 6, none, [], tt)
abbrev mJ2_checkBoundsOffCount_d044e : MD := (yJ2_checkBoundsOffCount_d044e, cJ2_checkBoundsOffCount_d044e, 3, none, [], tt)
abbrev mJ0_checkBoundsOffCount_cabcc : MD := (yJ0_checkBoundsOffCount_cabcc, cJ0_checkBoundsOffCount_cabcc, 3, some .int, [], tt)
abbrev mJ3_checkFromIndexSize_8c36e : MD := (yJ3_checkFromIndexSize_8c36e, cJ3_checkFromIndexSize_8c36e, 4, some .int, [], tt)
abbrev mJ0_getBytes_840e7 : MD := (yJ0_getBytes_840e7, cJ0_getBytes_840e7, 4, none, [], tt)
abbrev mJ4_append_bf812 : MD := (yJ4_append_bf812, cJ4_append_bf812, 2, some (.object "java/lang/StringBuilder"), [], tt)
abbrev mJ5_append_c97b9 : MD := (yJ5_append_c97b9, cJ5_append_c97b9, 4, some (.object "java/lang/AbstractStringBuilder"), [], tt)
abbrev mJ6_stringSize_0f7a4 : MD := (yJ6_stringSize_0f7a4, cJ6_stringSize_0f7a4, 4, some .int, [], tt)
abbrev mJ6_getChars_ba4f3 : MD := (yJ6_getChars_ba4f3, cJ6_getChars_ba4f3, 7, some .int, [], tt)
abbrev mJ2_getChars_46870 : MD := (yJ2_getChars_46870, cJ2_getChars_46870, 5, some .int, [], tt)
abbrev mJ2_getChars_ba4f3 : MD := (yJ2_getChars_ba4f3, cJ2_getChars_ba4f3, 7, some .int, [], tt)
abbrev mJ4_toString_0e30d : MD := (yJ4_toString_0e30d, cJ4_toString_0e30d, 1, some (.object "java/lang/String"), [], tt)
abbrev mJ0_init_81219 : MD := (yJ0_init_81219, cJ0_init_81219, 2, none, [], tt)
abbrev mJ0_init_db425 : MD := (yJ0_init_db425, cJ0_init_db425, 5, none, [], tt)
abbrev mJ5_getValue_6d5f1 : MD := (yJ5_getValue_6d5f1, cJ5_getValue_6d5f1, 1, some (.array .byte), [], tt)
abbrev mJ7_copyOfRange_39247 : MD := (yJ7_copyOfRange_39247, cJ7_copyOfRange_39247, 3, some (.array .byte), [], tt)
abbrev mJ7_copyOfRangeByte_39247 : MD := (yJ7_copyOfRangeByte_39247, cJ7_copyOfRangeByte_39247, 5, some (.array .byte), [], tt)
abbrev mJ7_checkLength_df160 : MD := (yJ7_checkLength_df160, cJ7_checkLength_df160, 2, none, [], tt)
abbrev mJ2_compress_39247 : MD := (yJ2_compress_39247, cJ2_compress_39247, 6, some (.array .byte), [], tt)
abbrev mJ2_compress_5af95 : MD := (yJ2_compress_5af95, cJ2_compress_5af95, 7, some .int, [], tt)
abbrev mJ2_coderFromArrayLen_85cad : MD := (yJ2_coderFromArrayLen_85cad, cJ2_coderFromArrayLen_85cad, 2, some .byte, [], tt)
abbrev mJ1_fillNull_b72d1 : MD := (yJ1_fillNull_b72d1, cJ1_fillNull_b72d1, 3, none, [], tt)
abbrev mJ7_fill_eb02e : MD := (yJ7_fill_eb02e, cJ7_fill_eb02e, 5, none, [], tt)
abbrev mJ7_rangeCheck_23922 : MD := (yJ7_rangeCheck_23922, cJ7_rangeCheck_23922, 3, none, [], tt)
abbrev mJx00060_init_d00df : MD := (yJx00060_init_d00df, cJx00060_init_d00df, 2, none, [], tt)
abbrev mJ2_fillNull_b72d1 : MD := (yJ2_fillNull_b72d1, cJ2_fillNull_b72d1, 3, none, [], tt)
abbrev mX10_refuse : MD := (yX10_refuse, cX10_refuse, 3, some .int, [], tt)
theorem q_1129 : Cond.code yX10_refuse cX10_refuse 3 (some .int) ∈ gw := gw_in (t_in_5 (List.mem_of_getElem? (i := 14) rfl)) rfl
theorem cdX10_refuse : CD mX10_refuse := ⟨q_1129, q_156, by decide +kernel, ⟨by decide +kernel, by decide +kernel⟩, rfl, fun _ => trivial⟩
abbrev mX4_init : MD := (yX4_init, cX4_init, 4, none, [], tt)
theorem q_1134 : Cond.code yX4_init cX4_init 4 (none) ∈ gw := gw_in (t_in_5 (List.mem_of_getElem? (i := 19) rfl)) rfl
theorem q_184 : Cond.initialized RX4 ∈ gw := gw_in (t_in_1 (List.mem_of_getElem? (i := 29) rfl)) rfl
theorem cdX4_init : CD mX4_init := ⟨q_1134, q_184, by decide +kernel, ⟨by decide +kernel, by decide +kernel⟩, rfl, fun _ => trivial⟩
abbrev mX8_read : MD := (yX8_read, cX8_read, 7, some (.object "TypeTutor$Term"), [], tt)
theorem q_1168 : Cond.code yX8_read cX8_read 7 (some (.object "TypeTutor$Term")) ∈ gw := gw_in (t_in_5 (List.mem_of_getElem? (i := 53) rfl)) rfl
theorem cdX8_read : CD mX8_read := ⟨q_1168, q_161, by decide +kernel, ⟨by decide +kernel, by decide +kernel⟩, rfl, fun _ => trivial⟩
abbrev mX7_init : MD := (yX7_init, cX7_init, 2, none, [], tt)
theorem q_1172 : Cond.code yX7_init cX7_init 2 (none) ∈ gw := gw_in (t_in_5 (List.mem_of_getElem? (i := 57) rfl)) rfl
theorem cdX7_init : CD mX7_init := ⟨q_1172, q_186, by decide +kernel, ⟨by decide +kernel, by decide +kernel⟩, rfl, fun _ => trivial⟩
abbrev mX8_partsFrom : MD := (yX8_partsFrom, cX8_partsFrom, 6, some .int, [], tt)
theorem q_1189 : Cond.code yX8_partsFrom cX8_partsFrom 6 (some .int) ∈ gw := gw_in (t_in_5 (List.mem_of_getElem? (i := 74) rfl)) rfl
theorem cdX8_partsFrom : CD mX8_partsFrom := ⟨q_1189, q_161, by decide +kernel, ⟨by decide +kernel, by decide +kernel⟩, rfl, fun _ => trivial⟩
abbrev mX8_addApplications : MD := (yX8_addApplications, cX8_addApplications, 4, none, [], tt)
theorem q_1193 : Cond.code yX8_addApplications cX8_addApplications 4 (none) ∈ gw := gw_in (t_in_5 (List.mem_of_getElem? (i := 78) rfl)) rfl
theorem cdX8_addApplications : CD mX8_addApplications := ⟨q_1193, q_161, by decide +kernel, ⟨by decide +kernel, by decide +kernel⟩, rfl, fun _ => trivial⟩
abbrev mX8_addNode : MD := (yX8_addNode, cX8_addNode, 9, none, [], tt)
theorem q_1197 : Cond.code yX8_addNode cX8_addNode 9 (none) ∈ gw := gw_in (t_in_5 (List.mem_of_getElem? (i := 82) rfl)) rfl
theorem cdX8_addNode : CD mX8_addNode := ⟨q_1197, q_161, by decide +kernel, ⟨by decide +kernel, by decide +kernel⟩, rfl, fun _ => trivial⟩
abbrev mX7_set : MD := (yX7_set, cX7_set, 4, none, [], tt)
theorem q_1201 : Cond.code yX7_set cX7_set 4 (none) ∈ gw := gw_in (t_in_5 (List.mem_of_getElem? (i := 86) rfl)) rfl
theorem cdX7_set : CD mX7_set := ⟨q_1201, q_186, by decide +kernel, ⟨by decide +kernel, by decide +kernel⟩, rfl, fun _ => trivial⟩
abbrev mX10_signAt : MD := (yX10_signAt, cX10_signAt, 2, some .char, [], tt)
theorem q_1206 : Cond.code yX10_signAt cX10_signAt 2 (some .char) ∈ gw := gw_in (t_in_5 (List.mem_of_getElem? (i := 91) rfl)) rfl
theorem cdX10_signAt : CD mX10_signAt := ⟨q_1206, q_156, by decide +kernel, ⟨by decide +kernel, by decide +kernel⟩, rfl, fun _ => trivial⟩
abbrev mX8_finish : MD := (yX8_finish, cX8_finish, 3, none, [], tt)
theorem q_1211 : Cond.code yX8_finish cX8_finish 3 (none) ∈ gw := gw_in (t_in_5 (List.mem_of_getElem? (i := 96) rfl)) rfl
theorem cdX8_finish : CD mX8_finish := ⟨q_1211, q_161, by decide +kernel, ⟨by decide +kernel, by decide +kernel⟩, rfl, fun _ => trivial⟩
abbrev mX7_binderOf : MD := (yX7_binderOf, cX7_binderOf, 6, some .int, [], tt)
theorem q_1215 : Cond.code yX7_binderOf cX7_binderOf 6 (some .int) ∈ gw := gw_in (t_in_5 (List.mem_of_getElem? (i := 100) rfl)) rfl
theorem cdX7_binderOf : CD mX7_binderOf := ⟨q_1215, q_186, by decide +kernel, ⟨by decide +kernel, by decide +kernel⟩, rfl, fun _ => trivial⟩
abbrev mX6_give : MD := (yX6_give, cX6_give, 3, some .int, [], tt)
theorem q_1220 : Cond.code yX6_give cX6_give 3 (some .int) ∈ gw := gw_in (t_in_5 (List.mem_of_getElem? (i := 105) rfl)) rfl
theorem cdX6_give : CD mX6_give := ⟨q_1220, q_166, by decide +kernel, ⟨by decide +kernel, by decide +kernel⟩, rfl, fun _ => trivial⟩
abbrev mX1_push : MD := (yX1_push, cX1_push, 2, none, [], tt)
theorem q_1224 : Cond.code yX1_push cX1_push 2 (none) ∈ gw := gw_in (t_in_5 (List.mem_of_getElem? (i := 109) rfl)) rfl
theorem cdX1_push : CD mX1_push := ⟨q_1224, q_167, by decide +kernel, ⟨by decide +kernel, by decide +kernel⟩, rfl, fun _ => trivial⟩
abbrev mX1_stateAt : MD := (yX1_stateAt, cX1_stateAt, 2, some (.object "TypeTutor$State"), [], tt)
theorem q_1228 : Cond.code yX1_stateAt cX1_stateAt 2 (some (.object "TypeTutor$State")) ∈ gw := gw_in (t_in_5 (List.mem_of_getElem? (i := 113) rfl)) rfl
theorem cdX1_stateAt : CD mX1_stateAt := ⟨q_1228, q_167, by decide +kernel, ⟨by decide +kernel, by decide +kernel⟩, rfl, fun _ => trivial⟩
abbrev mJ9_floorMod_7cf53 : MD := (yJ9_floorMod_7cf53, cJ9_floorMod_7cf53, 3, some .int, [], tt)
abbrev mX10_drop : MD := (yX10_drop, cX10_drop, 3, some .int, [], tt)
theorem q_1241 : Cond.code yX10_drop cX10_drop 3 (some .int) ∈ gw := gw_in (t_in_5 (List.mem_of_getElem? (i := 126) rfl)) rfl
theorem cdX10_drop : CD mX10_drop := ⟨q_1241, q_156, by decide +kernel, ⟨by decide +kernel, by decide +kernel⟩, rfl, fun _ => trivial⟩
abbrev mX10_dropLesson : MD := (yX10_dropLesson, cX10_dropLesson, 3, some .int, [], tt)
theorem q_1245 : Cond.code yX10_dropLesson cX10_dropLesson 3 (some .int) ∈ gw := gw_in (t_in_5 (List.mem_of_getElem? (i := 130) rfl)) rfl
theorem cdX10_dropLesson : CD mX10_dropLesson := ⟨q_1245, q_156, by decide +kernel, ⟨by decide +kernel, by decide +kernel⟩, rfl, fun _ => trivial⟩
abbrev mX6_remove : MD := (yX6_remove, cX6_remove, 3, none, [], tt)
theorem q_1249 : Cond.code yX6_remove cX6_remove 3 (none) ∈ gw := gw_in (t_in_5 (List.mem_of_getElem? (i := 134) rfl)) rfl
theorem cdX6_remove : CD mX6_remove := ⟨q_1249, q_166, by decide +kernel, ⟨by decide +kernel, by decide +kernel⟩, rfl, fun _ => trivial⟩
abbrev mX10_keep : MD := (yX10_keep, cX10_keep, 4, some .int, [], tt)
theorem q_1258 : Cond.code yX10_keep cX10_keep 4 (some .int) ∈ gw := gw_in (t_in_5 (List.mem_of_getElem? (i := 143) rfl)) rfl
theorem cdX10_keep : CD mX10_keep := ⟨q_1258, q_156, by decide +kernel, ⟨by decide +kernel, by decide +kernel⟩, rfl, fun _ => trivial⟩
abbrev mX10_keepType : MD := (yX10_keepType, cX10_keepType, 4, some .int, [], tt)
theorem q_1262 : Cond.code yX10_keepType cX10_keepType 4 (some .int) ∈ gw := gw_in (t_in_5 (List.mem_of_getElem? (i := 147) rfl)) rfl
theorem cdX10_keepType : CD mX10_keepType := ⟨q_1262, q_156, by decide +kernel, ⟨by decide +kernel, by decide +kernel⟩, rfl, fun _ => trivial⟩
abbrev mX10_isCapital : MD := (yX10_isCapital, cX10_isCapital, 1, some .boolean, [], tt)
theorem q_1265 : Cond.code yX10_isCapital cX10_isCapital 1 (some .boolean) ∈ gw := gw_in (t_in_5 (List.mem_of_getElem? (i := 150) rfl)) rfl
theorem cdX10_isCapital : CD mX10_isCapital := ⟨q_1265, q_156, by decide +kernel, ⟨by decide +kernel, by decide +kernel⟩, rfl, fun _ => trivial⟩
abbrev mX5_copy : MD := (yX5_copy, cX5_copy, 3, some (.object "TypeTutor$Shape"), [], tt)
theorem q_1269 : Cond.code yX5_copy cX5_copy 3 (some (.object "TypeTutor$Shape")) ∈ gw := gw_in (t_in_5 (List.mem_of_getElem? (i := 154) rfl)) rfl
theorem cdX5_copy : CD mX5_copy := ⟨q_1269, q_165, by decide +kernel, ⟨by decide +kernel, by decide +kernel⟩, rfl, fun _ => trivial⟩
abbrev mX6_keepAt : MD := (yX6_keepAt, cX6_keepAt, 3, none, [], tt)
theorem q_1276 : Cond.code yX6_keepAt cX6_keepAt 3 (none) ∈ gw := gw_in (t_in_5 (List.mem_of_getElem? (i := 161) rfl)) rfl
theorem cdX6_keepAt : CD mX6_keepAt := ⟨q_1276, q_166, by decide +kernel, ⟨by decide +kernel, by decide +kernel⟩, rfl, fun _ => trivial⟩
abbrev mX5_measure : MD := (yX5_measure, cX5_measure, 2, some .int, [], tt)
theorem q_1280 : Cond.code yX5_measure cX5_measure 2 (some .int) ∈ gw := gw_in (t_in_5 (List.mem_of_getElem? (i := 165) rfl)) rfl
theorem cdX5_measure : CD mX5_measure := ⟨q_1280, q_165, by decide +kernel, ⟨by decide +kernel, by decide +kernel⟩, rfl, fun _ => trivial⟩
abbrev mX5_arrows : MD := (yX5_arrows, cX5_arrows, 3, some .int, [], tt)
theorem q_1284 : Cond.code yX5_arrows cX5_arrows 3 (some .int) ∈ gw := gw_in (t_in_5 (List.mem_of_getElem? (i := 169) rfl)) rfl
theorem cdX5_arrows : CD mX5_arrows := ⟨q_1284, q_165, by decide +kernel, ⟨by decide +kernel, by decide +kernel⟩, rfl, fun _ => trivial⟩
abbrev mX5_variables : MD := (yX5_variables, cX5_variables, 3, some .int, [], tt)
theorem q_1288 : Cond.code yX5_variables cX5_variables 3 (some .int) ∈ gw := gw_in (t_in_5 (List.mem_of_getElem? (i := 173) rfl)) rfl
theorem cdX5_variables : CD mX5_variables := ⟨q_1288, q_165, by decide +kernel, ⟨by decide +kernel, by decide +kernel⟩, rfl, fun _ => trivial⟩
abbrev mX5_order : MD := (yX5_order, cX5_order, 4, some .int, [], tt)
theorem q_1293 : Cond.code yX5_order cX5_order 4 (some .int) ∈ gw := gw_in (t_in_5 (List.mem_of_getElem? (i := 178) rfl)) rfl
theorem cdX5_order : CD mX5_order := ⟨q_1293, q_165, by decide +kernel, ⟨by decide +kernel, by decide +kernel⟩, rfl, fun _ => trivial⟩
abbrev mX5_places : MD := (yX5_places, cX5_places, 4, some .int, [], tt)
theorem q_1297 : Cond.code yX5_places cX5_places 4 (some .int) ∈ gw := gw_in (t_in_5 (List.mem_of_getElem? (i := 182) rfl)) rfl
theorem cdX5_places : CD mX5_places := ⟨q_1297, q_165, by decide +kernel, ⟨by decide +kernel, by decide +kernel⟩, rfl, fun _ => trivial⟩
abbrev mX10_unkeep : MD := (yX10_unkeep, cX10_unkeep, 3, some .int, [], tt)
theorem q_1305 : Cond.code yX10_unkeep cX10_unkeep 3 (some .int) ∈ gw := gw_in (t_in_5 (List.mem_of_getElem? (i := 190) rfl)) rfl
theorem cdX10_unkeep : CD mX10_unkeep := ⟨q_1305, q_156, by decide +kernel, ⟨by decide +kernel, by decide +kernel⟩, rfl, fun _ => trivial⟩
abbrev mX10_unkeepType : MD := (yX10_unkeepType, cX10_unkeepType, 3, some .int, [], tt)
theorem q_1309 : Cond.code yX10_unkeepType cX10_unkeepType 3 (some .int) ∈ gw := gw_in (t_in_5 (List.mem_of_getElem? (i := 194) rfl)) rfl
theorem cdX10_unkeepType : CD mX10_unkeepType := ⟨q_1309, q_156, by decide +kernel, ⟨by decide +kernel, by decide +kernel⟩, rfl, fun _ => trivial⟩
abbrev mX6_emptyAt : MD := (yX6_emptyAt, cX6_emptyAt, 2, none, [], tt)
theorem q_1314 : Cond.code yX6_emptyAt cX6_emptyAt 2 (none) ∈ gw := gw_in (t_in_5 (List.mem_of_getElem? (i := 199) rfl)) rfl
theorem cdX6_emptyAt : CD mX6_emptyAt := ⟨q_1314, q_166, by decide +kernel, ⟨by decide +kernel, by decide +kernel⟩, rfl, fun _ => trivial⟩
abbrev mJx00060_init_a7421 : MD := (yJx00060_init_a7421, cJx00060_init_a7421, 2, none, [], tt)
abbrev mX10_nodes : MD := (yX10_nodes, cX10_nodes, 2, some .int, [], tt)
theorem q_1325 : Cond.code yX10_nodes cX10_nodes 2 (some .int) ∈ gw := gw_in (t_in_5 (List.mem_of_getElem? (i := 210) rfl)) rfl
theorem cdX10_nodes : CD mX10_nodes := ⟨q_1325, q_156, by decide +kernel, ⟨by decide +kernel, by decide +kernel⟩, rfl, fun _ => trivial⟩
abbrev mX10_termOf : MD := (yX10_termOf, cX10_termOf, 3, some (.object "TypeTutor$Term"), [], tt)
theorem q_1329 : Cond.code yX10_termOf cX10_termOf 3 (some (.object "TypeTutor$Term")) ∈ gw := gw_in (t_in_5 (List.mem_of_getElem? (i := 214) rfl)) rfl
theorem cdX10_termOf : CD mX10_termOf := ⟨q_1329, q_156, by decide +kernel, ⟨by decide +kernel, by decide +kernel⟩, rfl, fun _ => trivial⟩
abbrev mX10_nodeOf : MD := (yX10_nodeOf, cX10_nodeOf, 5, some .int, [], tt)
theorem q_1349 : Cond.code yX10_nodeOf cX10_nodeOf 5 (some .int) ∈ gw := gw_in (t_in_5 (List.mem_of_getElem? (i := 234) rfl)) rfl
theorem cdX10_nodeOf : CD mX10_nodeOf := ⟨q_1349, q_156, by decide +kernel, ⟨by decide +kernel, by decide +kernel⟩, rfl, fun _ => trivial⟩
abbrev mX10_termWith : MD := (yX10_termWith, cX10_termWith, 4, some (.object "TypeTutor$Term"), [], tt)
theorem q_1353 : Cond.code yX10_termWith cX10_termWith 4 (some (.object "TypeTutor$Term")) ∈ gw := gw_in (t_in_5 (List.mem_of_getElem? (i := 238) rfl)) rfl
theorem cdX10_termWith : CD mX10_termWith := ⟨q_1353, q_156, by decide +kernel, ⟨by decide +kernel, by decide +kernel⟩, rfl, fun _ => trivial⟩
abbrev mX10_signOf : MD := (yX10_signOf, cX10_signOf, 4, some .char, [], tt)
theorem q_1365 : Cond.code yX10_signOf cX10_signOf 4 (some .char) ∈ gw := gw_in (t_in_6 (List.mem_of_getElem? (i := 10) rfl)) rfl
theorem cdX10_signOf : CD mX10_signOf := ⟨q_1365, q_156, by decide +kernel, ⟨by decide +kernel, by decide +kernel⟩, rfl, fun _ => trivial⟩
abbrev mX10_binder : MD := (yX10_binder, cX10_binder, 4, some .int, [], tt)
theorem q_1388 : Cond.code yX10_binder cX10_binder 4 (some .int) ∈ gw := gw_in (t_in_6 (List.mem_of_getElem? (i := 33) rfl)) rfl
theorem cdX10_binder : CD mX10_binder := ⟨q_1388, q_156, by decide +kernel, ⟨by decide +kernel, by decide +kernel⟩, rfl, fun _ => trivial⟩
abbrev mX10_uses : MD := (yX10_uses, cX10_uses, 5, some .int, [], tt)
theorem q_1396 : Cond.code yX10_uses cX10_uses 5 (some .int) ∈ gw := gw_in (t_in_6 (List.mem_of_getElem? (i := 41) rfl)) rfl
theorem cdX10_uses : CD mX10_uses := ⟨q_1396, q_156, by decide +kernel, ⟨by decide +kernel, by decide +kernel⟩, rfl, fun _ => trivial⟩
abbrev mX7_namesBoundBy : MD := (yX7_namesBoundBy, cX7_namesBoundBy, 4, some .int, [], tt)
theorem q_1401 : Cond.code yX7_namesBoundBy cX7_namesBoundBy 4 (some .int) ∈ gw := gw_in (t_in_6 (List.mem_of_getElem? (i := 46) rfl)) rfl
theorem cdX7_namesBoundBy : CD mX7_namesBoundBy := ⟨q_1401, q_186, by decide +kernel, ⟨by decide +kernel, by decide +kernel⟩, rfl, fun _ => trivial⟩
abbrev mX10_unbound : MD := (yX10_unbound, cX10_unbound, 2, some .int, [], tt)
theorem q_1408 : Cond.code yX10_unbound cX10_unbound 2 (some .int) ∈ gw := gw_in (t_in_6 (List.mem_of_getElem? (i := 53) rfl)) rfl
theorem cdX10_unbound : CD mX10_unbound := ⟨q_1408, q_156, by decide +kernel, ⟨by decide +kernel, by decide +kernel⟩, rfl, fun _ => trivial⟩
abbrev mX10_isTyped : MD := (yX10_isTyped, cX10_isTyped, 2, some .boolean, [], tt)
theorem q_1415 : Cond.code yX10_isTyped cX10_isTyped 2 (some .boolean) ∈ gw := gw_in (t_in_6 (List.mem_of_getElem? (i := 60) rfl)) rfl
theorem cdX10_isTyped : CD mX10_isTyped := ⟨q_1415, q_156, by decide +kernel, ⟨by decide +kernel, by decide +kernel⟩, rfl, fun _ => trivial⟩
abbrev mX10_failure : MD := (yX10_failure, cX10_failure, 4, some .int, [], tt)
theorem q_1422 : Cond.code yX10_failure cX10_failure 4 (some .int) ∈ gw := gw_in (t_in_6 (List.mem_of_getElem? (i := 67) rfl)) rfl
theorem cdX10_failure : CD mX10_failure := ⟨q_1422, q_156, by decide +kernel, ⟨by decide +kernel, by decide +kernel⟩, rfl, fun _ => trivial⟩
abbrev mX10_typeOf : MD := (yX10_typeOf, cX10_typeOf, 4, some .int, [], tt)
theorem q_1432 : Cond.code yX10_typeOf cX10_typeOf 4 (some .int) ∈ gw := gw_in (t_in_6 (List.mem_of_getElem? (i := 77) rfl)) rfl
theorem cdX10_typeOf : CD mX10_typeOf := ⟨q_1432, q_156, by decide +kernel, ⟨by decide +kernel, by decide +kernel⟩, rfl, fun _ => trivial⟩
abbrev mX10_needMeasure : MD := (yX10_needMeasure, cX10_needMeasure, 1, none, [], tt)
theorem q_1435 : Cond.code yX10_needMeasure cX10_needMeasure 1 (none) ∈ gw := gw_in (t_in_6 (List.mem_of_getElem? (i := 80) rfl)) rfl
theorem cdX10_needMeasure : CD mX10_needMeasure := ⟨q_1435, q_156, by decide +kernel, ⟨by decide +kernel, by decide +kernel⟩, rfl, fun _ => trivial⟩
abbrev mX10_needType : MD := (yX10_needType, cX10_needType, 3, none, [], tt)
theorem q_1440 : Cond.code yX10_needType cX10_needType 3 (none) ∈ gw := gw_in (t_in_6 (List.mem_of_getElem? (i := 85) rfl)) rfl
theorem cdX10_needType : CD mX10_needType := ⟨q_1440, q_156, by decide +kernel, ⟨by decide +kernel, by decide +kernel⟩, rfl, fun _ => trivial⟩
abbrev mX10_typeAgain : MD := (yX10_typeAgain, cX10_typeAgain, 4, some .int, [], tt)
theorem q_1463 : Cond.code yX10_typeAgain cX10_typeAgain 4 (some .int) ∈ gw := gw_in (t_in_6 (List.mem_of_getElem? (i := 108) rfl)) rfl
theorem cdX10_typeAgain : CD mX10_typeAgain := ⟨q_1463, q_156, by decide +kernel, ⟨by decide +kernel, by decide +kernel⟩, rfl, fun _ => trivial⟩
abbrev mX10_nodeType : MD := (yX10_nodeType, cX10_nodeType, 5, some .int, [], tt)
theorem q_1471 : Cond.code yX10_nodeType cX10_nodeType 5 (some .int) ∈ gw := gw_in (t_in_6 (List.mem_of_getElem? (i := 116) rfl)) rfl
theorem cdX10_nodeType : CD mX10_nodeType := ⟨q_1471, q_156, by decide +kernel, ⟨by decide +kernel, by decide +kernel⟩, rfl, fun _ => trivial⟩
abbrev mX0_spellNode : MD := (yX0_spellNode, cX0_spellNode, 3, none, [], tt)
theorem q_1475 : Cond.code yX0_spellNode cX0_spellNode 3 (none) ∈ gw := gw_in (t_in_6 (List.mem_of_getElem? (i := 120) rfl)) rfl
theorem cdX0_spellNode : CD mX0_spellNode := ⟨q_1475, q_162, by decide +kernel, ⟨by decide +kernel, by decide +kernel⟩, rfl, fun _ => trivial⟩
abbrev mX10_isAlike : MD := (yX10_isAlike, cX10_isAlike, 5, some .boolean, [], tt)
theorem q_1482 : Cond.code yX10_isAlike cX10_isAlike 5 (some .boolean) ∈ gw := gw_in (t_in_6 (List.mem_of_getElem? (i := 127) rfl)) rfl
theorem cdX10_isAlike : CD mX10_isAlike := ⟨q_1482, q_156, by decide +kernel, ⟨by decide +kernel, by decide +kernel⟩, rfl, fun _ => trivial⟩
abbrev mX10_isAsGeneral : MD := (yX10_isAsGeneral, cX10_isAsGeneral, 5, some .boolean, [], tt)
theorem q_1489 : Cond.code yX10_isAsGeneral cX10_isAsGeneral 5 (some .boolean) ∈ gw := gw_in (t_in_6 (List.mem_of_getElem? (i := 134) rfl)) rfl
theorem cdX10_isAsGeneral : CD mX10_isAsGeneral := ⟨q_1489, q_156, by decide +kernel, ⟨by decide +kernel, by decide +kernel⟩, rfl, fun _ => trivial⟩
abbrev mX5_becomes : MD := (yX5_becomes, cX5_becomes, 6, some .boolean, [], tt)
theorem q_1493 : Cond.code yX5_becomes cX5_becomes 6 (some .boolean) ∈ gw := gw_in (t_in_6 (List.mem_of_getElem? (i := 138) rfl)) rfl
theorem cdX5_becomes : CD mX5_becomes := ⟨q_1493, q_165, by decide +kernel, ⟨by decide +kernel, by decide +kernel⟩, rfl, fun _ => trivial⟩
abbrev mX5_isRepeated : MD := (yX5_isRepeated, cX5_isRepeated, 5, some .boolean, [], tt)
theorem q_1498 : Cond.code yX5_isRepeated cX5_isRepeated 5 (some .boolean) ∈ gw := gw_in (t_in_6 (List.mem_of_getElem? (i := 143) rfl)) rfl
theorem cdX5_isRepeated : CD mX5_isRepeated := ⟨q_1498, q_165, by decide +kernel, ⟨by decide +kernel, by decide +kernel⟩, rfl, fun _ => trivial⟩
abbrev mX5_endOf : MD := (yX5_endOf, cX5_endOf, 4, some .int, [], tt)
theorem q_1502 : Cond.code yX5_endOf cX5_endOf 4 (some .int) ∈ gw := gw_in (t_in_6 (List.mem_of_getElem? (i := 147) rfl)) rfl
theorem cdX5_endOf : CD mX5_endOf := ⟨q_1502, q_165, by decide +kernel, ⟨by decide +kernel, by decide +kernel⟩, rfl, fun _ => trivial⟩
abbrev mX10_fit : MD := (yX10_fit, cX10_fit, 6, some .int, [], tt)
theorem q_1509 : Cond.code yX10_fit cX10_fit 6 (some .int) ∈ gw := gw_in (t_in_6 (List.mem_of_getElem? (i := 154) rfl)) rfl
theorem cdX10_fit : CD mX10_fit := ⟨q_1509, q_156, by decide +kernel, ⟨by decide +kernel, by decide +kernel⟩, rfl, fun _ => trivial⟩
abbrev mX0_sizeApplied : MD := (yX0_sizeApplied, cX0_sizeApplied, 6, some .int, [], tt)
theorem q_1513 : Cond.code yX0_sizeApplied cX0_sizeApplied 6 (some .int) ∈ gw := gw_in (t_in_6 (List.mem_of_getElem? (i := 158) rfl)) rfl
theorem cdX0_sizeApplied : CD mX0_sizeApplied := ⟨q_1513, q_162, by decide +kernel, ⟨by decide +kernel, by decide +kernel⟩, rfl, fun _ => trivial⟩
abbrev mX10_fitting : MD := (yX10_fitting, cX10_fitting, 4, some .int, [], tt)
theorem q_1521 : Cond.code yX10_fitting cX10_fitting 4 (some .int) ∈ gw := gw_in (t_in_6 (List.mem_of_getElem? (i := 166) rfl)) rfl
theorem cdX10_fitting : CD mX10_fitting := ⟨q_1521, q_156, by decide +kernel, ⟨by decide +kernel, by decide +kernel⟩, rfl, fun _ => trivial⟩
abbrev mX10_isKept : MD := (yX10_isKept, cX10_isKept, 2, some .boolean, [], tt)
theorem q_1528 : Cond.code yX10_isKept cX10_isKept 2 (some .boolean) ∈ gw := gw_in (t_in_6 (List.mem_of_getElem? (i := 173) rfl)) rfl
theorem cdX10_isKept : CD mX10_isKept := ⟨q_1528, q_156, by decide +kernel, ⟨by decide +kernel, by decide +kernel⟩, rfl, fun _ => trivial⟩
abbrev mX10_needCapital : MD := (yX10_needCapital, cX10_needCapital, 1, none, [], tt)
theorem q_1531 : Cond.code yX10_needCapital cX10_needCapital 1 (none) ∈ gw := gw_in (t_in_6 (List.mem_of_getElem? (i := 176) rfl)) rfl
theorem cdX10_needCapital : CD mX10_needCapital := ⟨q_1531, q_156, by decide +kernel, ⟨by decide +kernel, by decide +kernel⟩, rfl, fun _ => trivial⟩
abbrev mX10_largest : MD := (yX10_largest, cX10_largest, 4, some .int, [], tt)
theorem q_1539 : Cond.code yX10_largest cX10_largest 4 (some .int) ∈ gw := gw_in (t_in_6 (List.mem_of_getElem? (i := 184) rfl)) rfl
theorem cdX10_largest : CD mX10_largest := ⟨q_1539, q_156, by decide +kernel, ⟨by decide +kernel, by decide +kernel⟩, rfl, fun _ => trivial⟩
abbrev mX10_ranked : MD := (yX10_ranked, cX10_ranked, 3, some .int, [], tt)
theorem q_1547 : Cond.code yX10_ranked cX10_ranked 3 (some .int) ∈ gw := gw_in (t_in_6 (List.mem_of_getElem? (i := 192) rfl)) rfl
theorem cdX10_ranked : CD mX10_ranked := ⟨q_1547, q_156, by decide +kernel, ⟨by decide +kernel, by decide +kernel⟩, rfl, fun _ => trivial⟩
abbrev mX6_placeOf : MD := (yX6_placeOf, cX6_placeOf, 4, some .int, [], tt)
theorem q_1551 : Cond.code yX6_placeOf cX6_placeOf 4 (some .int) ∈ gw := gw_in (t_in_6 (List.mem_of_getElem? (i := 196) rfl)) rfl
theorem cdX6_placeOf : CD mX6_placeOf := ⟨q_1551, q_166, by decide +kernel, ⟨by decide +kernel, by decide +kernel⟩, rfl, fun _ => trivial⟩
abbrev mX6_nodesOf : MD := (yX6_nodesOf, cX6_nodesOf, 3, some .int, [], tt)
theorem q_1555 : Cond.code yX6_nodesOf cX6_nodesOf 3 (some .int) ∈ gw := gw_in (t_in_6 (List.mem_of_getElem? (i := 200) rfl)) rfl
theorem cdX6_nodesOf : CD mX6_nodesOf := ⟨q_1555, q_166, by decide +kernel, ⟨by decide +kernel, by decide +kernel⟩, rfl, fun _ => trivial⟩
abbrev mX10_append : MD := (yX10_append, cX10_append, 2, some .int, [], tt)
theorem q_1563 : Cond.code yX10_append cX10_append 2 (some .int) ∈ gw := gw_in (t_in_6 (List.mem_of_getElem? (i := 208) rfl)) rfl
theorem cdX10_append : CD mX10_append := ⟨q_1563, q_156, by decide +kernel, ⟨by decide +kernel, by decide +kernel⟩, rfl, fun _ => trivial⟩
abbrev mJ4_append_cf468 : MD := (yJ4_append_cf468, cJ4_append_cf468, 2, some (.object "java/lang/StringBuilder"), [], tt)
abbrev mJ5_append_3fe6f : MD := (yJ5_append_3fe6f, cJ5_append_3fe6f, 2, some (.object "java/lang/AbstractStringBuilder"), [], tt)
abbrev mJ1_canEncode_fc78d : MD := (yJ1_canEncode_fc78d, cJ1_canEncode_fc78d, 1, some .boolean, [], tt)
abbrev mJ2_putCharSB_b72d1 : MD := (yJ2_putCharSB_b72d1, cJ2_putCharSB_b72d1, 3, none, [], tt)
abbrev mJ2_checkIndex_2214a : MD := (yJ2_checkIndex_2214a, cJ2_checkIndex_2214a, 2, none, [], tt)
abbrev mX10_run : MD := (yX10_run, cX10_run, 6, some .int, [], tt)
theorem q_1589 : Cond.code yX10_run cX10_run 6 (some .int) ∈ gw := gw_in (t_in_6 (List.mem_of_getElem? (i := 234) rfl)) rfl
theorem cdX10_run : CD mX10_run := ⟨q_1589, q_156, by decide +kernel, ⟨by decide +kernel, by decide +kernel⟩, rfl, fun _ => trivial⟩
abbrev mX2_faultIn : MD := (yX2_faultIn, cX2_faultIn, 3, some .int, [], tt)
theorem q_1592 : Cond.code yX2_faultIn cX2_faultIn 3 (some .int) ∈ gw := gw_in (t_in_6 (List.mem_of_getElem? (i := 237) rfl)) rfl
theorem q_189 : Cond.initialized RX2 ∈ gw := gw_in (t_in_1 (List.mem_of_getElem? (i := 34) rfl)) rfl
theorem cdX2_faultIn : CD mX2_faultIn := ⟨q_1592, q_189, by decide +kernel, ⟨by decide +kernel, by decide +kernel⟩, rfl, fun _ => trivial⟩
abbrev mX2_placeBehind : MD := (yX2_placeBehind, cX2_placeBehind, 2, some .int, [], tt)
theorem q_1597 : Cond.code yX2_placeBehind cX2_placeBehind 2 (some .int) ∈ gw := gw_in (t_in_7 (List.mem_of_getElem? (i := 2) rfl)) rfl
theorem cdX2_placeBehind : CD mX2_placeBehind := ⟨q_1597, q_189, by decide +kernel, ⟨by decide +kernel, by decide +kernel⟩, rfl, fun _ => trivial⟩
abbrev mX2_lengthOf : MD := (yX2_lengthOf, cX2_lengthOf, 1, some .int, [], tt)
theorem q_1604 : Cond.code yX2_lengthOf cX2_lengthOf 1 (some .int) ∈ gw := gw_in (t_in_7 (List.mem_of_getElem? (i := 9) rfl)) rfl
theorem cdX2_lengthOf : CD mX2_lengthOf := ⟨q_1604, q_189, by decide +kernel, ⟨by decide +kernel, by decide +kernel⟩, rfl, fun _ => trivial⟩
abbrev mX10_reason : MD := (yX10_reason, cX10_reason, 4, some .int, [], tt)
theorem q_1612 : Cond.code yX10_reason cX10_reason 4 (some .int) ∈ gw := gw_in (t_in_7 (List.mem_of_getElem? (i := 17) rfl)) rfl
theorem cdX10_reason : CD mX10_reason := ⟨q_1612, q_156, by decide +kernel, ⟨by decide +kernel, by decide +kernel⟩, rfl, fun _ => trivial⟩
abbrev mX10_tell : MD := (yX10_tell, cX10_tell, 2, some .int, [], tt)
theorem q_1621 : Cond.code yX10_tell cX10_tell 2 (some .int) ∈ gw := gw_in (t_in_7 (List.mem_of_getElem? (i := 26) rfl)) rfl
theorem cdX10_tell : CD mX10_tell := ⟨q_1621, q_156, by decide +kernel, ⟨by decide +kernel, by decide +kernel⟩, rfl, fun _ => trivial⟩
abbrev mX10_writeLine : MD := (yX10_writeLine, cX10_writeLine, 2, some .int, [], tt)
theorem q_1625 : Cond.code yX10_writeLine cX10_writeLine 2 (some .int) ∈ gw := gw_in (t_in_7 (List.mem_of_getElem? (i := 30) rfl)) rfl
theorem cdX10_writeLine : CD mX10_writeLine := ⟨q_1625, q_156, by decide +kernel, ⟨by decide +kernel, by decide +kernel⟩, rfl, fun _ => trivial⟩
abbrev mX5_write : MD := (yX5_write, cX5_write, 4, none, [], tt)
theorem q_1629 : Cond.code yX5_write cX5_write 4 (none) ∈ gw := gw_in (t_in_7 (List.mem_of_getElem? (i := 34) rfl)) rfl
theorem cdX5_write : CD mX5_write := ⟨q_1629, q_165, by decide +kernel, ⟨by decide +kernel, by decide +kernel⟩, rfl, fun _ => trivial⟩
abbrev mX5_writeSign : MD := (yX5_writeSign, cX5_writeSign, 3, none, [], tt)
theorem q_1633 : Cond.code yX5_writeSign cX5_writeSign 3 (none) ∈ gw := gw_in (t_in_7 (List.mem_of_getElem? (i := 38) rfl)) rfl
theorem cdX5_writeSign : CD mX5_writeSign := ⟨q_1633, q_165, by decide +kernel, ⟨by decide +kernel, by decide +kernel⟩, rfl, fun _ => trivial⟩
abbrev mX10_tellNode : MD := (yX10_tellNode, cX10_tellNode, 3, some .int, [], tt)
theorem q_1642 : Cond.code yX10_tellNode cX10_tellNode 3 (some .int) ∈ gw := gw_in (t_in_7 (List.mem_of_getElem? (i := 47) rfl)) rfl
theorem cdX10_tellNode : CD mX10_tellNode := ⟨q_1642, q_156, by decide +kernel, ⟨by decide +kernel, by decide +kernel⟩, rfl, fun _ => trivial⟩
abbrev mX10_tellKept : MD := (yX10_tellKept, cX10_tellKept, 3, some .int, [], tt)
theorem q_1649 : Cond.code yX10_tellKept cX10_tellKept 3 (some .int) ∈ gw := gw_in (t_in_7 (List.mem_of_getElem? (i := 54) rfl)) rfl
theorem cdX10_tellKept : CD mX10_tellKept := ⟨q_1649, q_156, by decide +kernel, ⟨by decide +kernel, by decide +kernel⟩, rfl, fun _ => trivial⟩
abbrev mX10_tellTerm : MD := (yX10_tellTerm, cX10_tellTerm, 3, some .int, [], tt)
theorem q_1657 : Cond.code yX10_tellTerm cX10_tellTerm 3 (some .int) ∈ gw := gw_in (t_in_7 (List.mem_of_getElem? (i := 62) rfl)) rfl
theorem cdX10_tellTerm : CD mX10_tellTerm := ⟨q_1657, q_156, by decide +kernel, ⟨by decide +kernel, by decide +kernel⟩, rfl, fun _ => trivial⟩
abbrev mX7_write : MD := (yX7_write, cX7_write, 4, none, [], tt)
theorem q_1661 : Cond.code yX7_write cX7_write 4 (none) ∈ gw := gw_in (t_in_7 (List.mem_of_getElem? (i := 66) rfl)) rfl
theorem cdX7_write : CD mX7_write := ⟨q_1661, q_186, by decide +kernel, ⟨by decide +kernel, by decide +kernel⟩, rfl, fun _ => trivial⟩
abbrev mX7_isBracketed : MD := (yX7_isBracketed, cX7_isBracketed, 2, some .boolean, [], tt)
theorem q_1665 : Cond.code yX7_isBracketed cX7_isBracketed 2 (some .boolean) ∈ gw := gw_in (t_in_7 (List.mem_of_getElem? (i := 70) rfl)) rfl
theorem cdX7_isBracketed : CD mX7_isBracketed := ⟨q_1665, q_186, by decide +kernel, ⟨by decide +kernel, by decide +kernel⟩, rfl, fun _ => trivial⟩
abbrev mX7_writeEnds : MD := (yX7_writeEnds, cX7_writeEnds, 5, none, [], tt)
theorem q_1670 : Cond.code yX7_writeEnds cX7_writeEnds 5 (none) ∈ gw := gw_in (t_in_7 (List.mem_of_getElem? (i := 75) rfl)) rfl
theorem cdX7_writeEnds : CD mX7_writeEnds := ⟨q_1670, q_186, by decide +kernel, ⟨by decide +kernel, by decide +kernel⟩, rfl, fun _ => trivial⟩
abbrev mX10_character : MD := (yX10_character, cX10_character, 2, some .char, [], tt)
theorem q_1677 : Cond.code yX10_character cX10_character 2 (some .char) ∈ gw := gw_in (t_in_7 (List.mem_of_getElem? (i := 82) rfl)) rfl
theorem cdX10_character : CD mX10_character := ⟨q_1677, q_156, by decide +kernel, ⟨by decide +kernel, by decide +kernel⟩, rfl, fun _ => trivial⟩
abbrev mX10_account : MD := (yX10_account, cX10_account, 2, some .int, [], tt)
theorem q_1685 : Cond.code yX10_account cX10_account 2 (some .int) ∈ gw := gw_in (t_in_7 (List.mem_of_getElem? (i := 90) rfl)) rfl
theorem cdX10_account : CD mX10_account := ⟨q_1685, q_156, by decide +kernel, ⟨by decide +kernel, by decide +kernel⟩, rfl, fun _ => trivial⟩
abbrev mX10_lessonsFailing : MD := (yX10_lessonsFailing, cX10_lessonsFailing, 5, some .int, [], tt)
theorem q_1689 : Cond.code yX10_lessonsFailing cX10_lessonsFailing 5 (some .int) ∈ gw := gw_in (t_in_7 (List.mem_of_getElem? (i := 94) rfl)) rfl
theorem cdX10_lessonsFailing : CD mX10_lessonsFailing := ⟨q_1689, q_156, by decide +kernel, ⟨by decide +kernel, by decide +kernel⟩, rfl, fun _ => trivial⟩
abbrev mX6_allNodes : MD := (yX6_allNodes, cX6_allNodes, 3, some .int, [], tt)
theorem q_1693 : Cond.code yX6_allNodes cX6_allNodes 3 (some .int) ∈ gw := gw_in (t_in_7 (List.mem_of_getElem? (i := 98) rfl)) rfl
theorem cdX6_allNodes : CD mX6_allNodes := ⟨q_1693, q_166, by decide +kernel, ⟨by decide +kernel, by decide +kernel⟩, rfl, fun _ => trivial⟩
abbrev mX6_capitalsKeeping : MD := (yX6_capitalsKeeping, cX6_capitalsKeeping, 3, some .int, [], tt)
theorem q_1697 : Cond.code yX6_capitalsKeeping cX6_capitalsKeeping 3 (some .int) ∈ gw := gw_in (t_in_7 (List.mem_of_getElem? (i := 102) rfl)) rfl
theorem cdX6_capitalsKeeping : CD mX6_capitalsKeeping := ⟨q_1697, q_166, by decide +kernel, ⟨by decide +kernel, by decide +kernel⟩, rfl, fun _ => trivial⟩
abbrev mX10_lessonsWithoutVariables : MD := (yX10_lessonsWithoutVariables, cX10_lessonsWithoutVariables, 4, some .int, [], tt)
theorem q_1701 : Cond.code yX10_lessonsWithoutVariables cX10_lessonsWithoutVariables 4 (some .int) ∈ gw := gw_in (t_in_7 (List.mem_of_getElem? (i := 106) rfl)) rfl
theorem cdX10_lessonsWithoutVariables : CD mX10_lessonsWithoutVariables := ⟨q_1701, q_156, by decide +kernel, ⟨by decide +kernel, by decide +kernel⟩, rfl, fun _ => trivial⟩
abbrev mX10_meanSize : MD := (yX10_meanSize, cX10_meanSize, 4, some .double, [], tt)
theorem q_1723 : Cond.code yX10_meanSize cX10_meanSize 4 (some .double) ∈ gw := gw_in (t_in_7 (List.mem_of_getElem? (i := 128) rfl)) rfl
theorem cdX10_meanSize : CD mX10_meanSize := ⟨q_1723, q_156, by decide +kernel, ⟨by decide +kernel, by decide +kernel⟩, rfl, fun _ => trivial⟩
abbrev mX10_typedShare : MD := (yX10_typedShare, cX10_typedShare, 1, some .float, [], tt)
theorem q_1732 : Cond.code yX10_typedShare cX10_typedShare 1 (some .float) ∈ gw := gw_in (t_in_7 (List.mem_of_getElem? (i := 137) rfl)) rfl
theorem cdX10_typedShare : CD mX10_typedShare := ⟨q_1732, q_156, by decide +kernel, ⟨by decide +kernel, by decide +kernel⟩, rfl, fun _ => trivial⟩
abbrev mX10_undo : MD := (yX10_undo, cX10_undo, 1, some .int, [], tt)
theorem q_1740 : Cond.code yX10_undo cX10_undo 1 (some .int) ∈ gw := gw_in (t_in_7 (List.mem_of_getElem? (i := 145) rfl)) rfl
theorem cdX10_undo : CD mX10_undo := ⟨q_1740, q_156, by decide +kernel, ⟨by decide +kernel, by decide +kernel⟩, rfl, fun _ => trivial⟩
abbrev mX1_pop : MD := (yX1_pop, cX1_pop, 2, none, [], tt)
theorem q_1745 : Cond.code yX1_pop cX1_pop 2 (none) ∈ gw := gw_in (t_in_7 (List.mem_of_getElem? (i := 150) rfl)) rfl
theorem cdX1_pop : CD mX1_pop := ⟨q_1745, q_167, by decide +kernel, ⟨by decide +kernel, by decide +kernel⟩, rfl, fun _ => trivial⟩
abbrev mX10_restore : MD := (yX10_restore, cX10_restore, 1, some .int, [], tt)
theorem q_1753 : Cond.code yX10_restore cX10_restore 1 (some .int) ∈ gw := gw_in (t_in_7 (List.mem_of_getElem? (i := 158) rfl)) rfl
theorem cdX10_restore : CD mX10_restore := ⟨q_1753, q_156, by decide +kernel, ⟨by decide +kernel, by decide +kernel⟩, rfl, fun _ => trivial⟩
abbrev mX1_clear : MD := (yX1_clear, cX1_clear, 1, none, [], tt)
theorem q_1758 : Cond.code yX1_clear cX1_clear 1 (none) ∈ gw := gw_in (t_in_7 (List.mem_of_getElem? (i := 163) rfl)) rfl
theorem cdX1_clear : CD mX1_clear := ⟨q_1758, q_167, by decide +kernel, ⟨by decide +kernel, by decide +kernel⟩, rfl, fun _ => trivial⟩
abbrev mX11_init : MD := (yX11_init, cX11_init, 1, none, [], tt)
theorem q_1763 : Cond.code yX11_init cX11_init 1 (none) ∈ gw := gw_in (t_in_7 (List.mem_of_getElem? (i := 168) rfl)) rfl
theorem q_168 : Cond.initialized RX11 ∈ gw := gw_in (t_in_1 (List.mem_of_getElem? (i := 13) rfl)) rfl
theorem cdX11_init : CD mX11_init := ⟨q_1763, q_168, by decide +kernel, ⟨by decide +kernel, by decide +kernel⟩, rfl, fun _ => trivial⟩
abbrev mX11_thrown : MD := (yX11_thrown, cX11_thrown, 1, some .int, [], tt)
theorem q_2014 : Cond.code yX11_thrown cX11_thrown 1 (some .int) ∈ gw := gw_in (t_in_8 (List.mem_of_getElem? (i := 179) rfl)) rfl
theorem cdX11_thrown : CD mX11_thrown := ⟨q_2014, q_168, by decide +kernel, ⟨by decide +kernel, by decide +kernel⟩, rfl, fun _ => trivial⟩
abbrev mX11_lesson : MD := (yX11_lesson, cX11_lesson, 4, some .int, [], tt)
theorem q_2018 : Cond.code yX11_lesson cX11_lesson 4 (some .int) ∈ gw := gw_in (t_in_8 (List.mem_of_getElem? (i := 183) rfl)) rfl
theorem cdX11_lesson : CD mX11_lesson := ⟨q_2018, q_168, by decide +kernel, ⟨by decide +kernel, by decide +kernel⟩, rfl, fun _ => trivial⟩
abbrev mX11_begins : MD := (yX11_begins, cX11_begins, 1, none, [], tt)
theorem q_2022 : Cond.code yX11_begins cX11_begins 1 (none) ∈ gw := gw_in (t_in_8 (List.mem_of_getElem? (i := 187) rfl)) rfl
theorem cdX11_begins : CD mX11_begins := ⟨q_2022, q_168, by decide +kernel, ⟨by decide +kernel, by decide +kernel⟩, rfl, fun _ => trivial⟩
abbrev mX11_lays : MD := (yX11_lays, cX11_lays, 3, none, [], tt)
theorem q_2025 : Cond.code yX11_lays cX11_lays 3 (none) ∈ gw := gw_in (t_in_8 (List.mem_of_getElem? (i := 190) rfl)) rfl
theorem cdX11_lays : CD mX11_lays := ⟨q_2025, q_168, by decide +kernel, ⟨by decide +kernel, by decide +kernel⟩, rfl, fun _ => trivial⟩
abbrev mX11_reads : MD := (yX11_reads, cX11_reads, 7, some .int, [], tt)
theorem q_2029 : Cond.code yX11_reads cX11_reads 7 (some .int) ∈ gw := gw_in (t_in_8 (List.mem_of_getElem? (i := 194) rfl)) rfl
theorem cdX11_reads : CD mX11_reads := ⟨q_2029, q_168, by decide +kernel, ⟨by decide +kernel, by decide +kernel⟩, rfl, fun _ => trivial⟩
abbrev mX11_opens : MD := (yX11_opens, cX11_opens, 4, none, [], tt)
theorem q_2033 : Cond.code yX11_opens cX11_opens 4 (none) ∈ gw := gw_in (t_in_8 (List.mem_of_getElem? (i := 198) rfl)) rfl
theorem cdX11_opens : CD mX11_opens := ⟨q_2033, q_168, by decide +kernel, ⟨by decide +kernel, by decide +kernel⟩, rfl, fun _ => trivial⟩
abbrev mX11_isSmall : MD := (yX11_isSmall, cX11_isSmall, 1, some .boolean, [], tt)
theorem q_2036 : Cond.code yX11_isSmall cX11_isSmall 1 (some .boolean) ∈ gw := gw_in (t_in_8 (List.mem_of_getElem? (i := 201) rfl)) rfl
theorem cdX11_isSmall : CD mX11_isSmall := ⟨q_2036, q_168, by decide +kernel, ⟨by decide +kernel, by decide +kernel⟩, rfl, fun _ => trivial⟩
abbrev mX11_leafKind : MD := (yX11_leafKind, cX11_leafKind, 1, some .int, [], tt)
theorem q_2039 : Cond.code yX11_leafKind cX11_leafKind 1 (some .int) ∈ gw := gw_in (t_in_8 (List.mem_of_getElem? (i := 204) rfl)) rfl
theorem cdX11_leafKind : CD mX11_leafKind := ⟨q_2039, q_168, by decide +kernel, ⟨by decide +kernel, by decide +kernel⟩, rfl, fun _ => trivial⟩
abbrev mX11_isCapital : MD := (yX11_isCapital, cX11_isCapital, 1, some .boolean, [], tt)
theorem q_2042 : Cond.code yX11_isCapital cX11_isCapital 1 (some .boolean) ∈ gw := gw_in (t_in_8 (List.mem_of_getElem? (i := 207) rfl)) rfl
theorem cdX11_isCapital : CD mX11_isCapital := ⟨q_2042, q_168, by decide +kernel, ⟨by decide +kernel, by decide +kernel⟩, rfl, fun _ => trivial⟩
abbrev mX11_isIn : MD := (yX11_isIn, cX11_isIn, 3, some .boolean, [], tt)
theorem q_2045 : Cond.code yX11_isIn cX11_isIn 3 (some .boolean) ∈ gw := gw_in (t_in_8 (List.mem_of_getElem? (i := 210) rfl)) rfl
theorem cdX11_isIn : CD mX11_isIn := ⟨q_2045, q_168, by decide +kernel, ⟨by decide +kernel, by decide +kernel⟩, rfl, fun _ => trivial⟩
abbrev mX11_raw : MD := (yX11_raw, cX11_raw, 6, some .int, [], tt)
theorem q_2049 : Cond.code yX11_raw cX11_raw 6 (some .int) ∈ gw := gw_in (t_in_8 (List.mem_of_getElem? (i := 214) rfl)) rfl
theorem cdX11_raw : CD mX11_raw := ⟨q_2049, q_168, by decide +kernel, ⟨by decide +kernel, by decide +kernel⟩, rfl, fun _ => trivial⟩
abbrev mX11_adds : MD := (yX11_adds, cX11_adds, 2, none, [], tt)
theorem q_2053 : Cond.code yX11_adds cX11_adds 2 (none) ∈ gw := gw_in (t_in_8 (List.mem_of_getElem? (i := 218) rfl)) rfl
theorem cdX11_adds : CD mX11_adds := ⟨q_2053, q_168, by decide +kernel, ⟨by decide +kernel, by decide +kernel⟩, rfl, fun _ => trivial⟩
abbrev mX11_closes : MD := (yX11_closes, cX11_closes, 2, none, [], tt)
theorem q_2057 : Cond.code yX11_closes cX11_closes 2 (none) ∈ gw := gw_in (t_in_8 (List.mem_of_getElem? (i := 222) rfl)) rfl
theorem cdX11_closes : CD mX11_closes := ⟨q_2057, q_168, by decide +kernel, ⟨by decide +kernel, by decide +kernel⟩, rfl, fun _ => trivial⟩
abbrev mX11_numbers : MD := (yX11_numbers, cX11_numbers, 6, none, [], tt)
theorem q_2061 : Cond.code yX11_numbers cX11_numbers 6 (none) ∈ gw := gw_in (t_in_8 (List.mem_of_getElem? (i := 226) rfl)) rfl
theorem cdX11_numbers : CD mX11_numbers := ⟨q_2061, q_168, by decide +kernel, ⟨by decide +kernel, by decide +kernel⟩, rfl, fun _ => trivial⟩
abbrev mX11_no : MD := (yX11_no, cX11_no, 2, some .int, [], tt)
theorem q_2065 : Cond.code yX11_no cX11_no 2 (some .int) ∈ gw := gw_in (t_in_8 (List.mem_of_getElem? (i := 230) rfl)) rfl
theorem cdX11_no : CD mX11_no := ⟨q_2065, q_168, by decide +kernel, ⟨by decide +kernel, by decide +kernel⟩, rfl, fun _ => trivial⟩
abbrev mX11_refuses : MD := (yX11_refuses, cX11_refuses, 3, some .int, [], tt)
theorem q_2069 : Cond.code yX11_refuses cX11_refuses 3 (some .int) ∈ gw := gw_in (t_in_8 (List.mem_of_getElem? (i := 234) rfl)) rfl
theorem cdX11_refuses : CD mX11_refuses := ⟨q_2069, q_168, by decide +kernel, ⟨by decide +kernel, by decide +kernel⟩, rfl, fun _ => trivial⟩
abbrev mX11_ends : MD := (yX11_ends, cX11_ends, 4, some .int, [], tt)
theorem q_2073 : Cond.code yX11_ends cX11_ends 4 (some .int) ∈ gw := gw_in (t_in_8 (List.mem_of_getElem? (i := 238) rfl)) rfl
theorem cdX11_ends : CD mX11_ends := ⟨q_2073, q_168, by decide +kernel, ⟨by decide +kernel, by decide +kernel⟩, rfl, fun _ => trivial⟩
abbrev mX11_lessonAt : MD := (yX11_lessonAt, cX11_lessonAt, 1, some .int, [], tt)
theorem q_2076 : Cond.code yX11_lessonAt cX11_lessonAt 1 (some .int) ∈ gw := gw_in (t_in_9 (List.mem_of_getElem? (i := 1) rfl)) rfl
theorem cdX11_lessonAt : CD mX11_lessonAt := ⟨q_2076, q_168, by decide +kernel, ⟨by decide +kernel, by decide +kernel⟩, rfl, fun _ => trivial⟩
abbrev mX11_drop : MD := (yX11_drop, cX11_drop, 2, some .int, [], tt)
theorem q_2080 : Cond.code yX11_drop cX11_drop 2 (some .int) ∈ gw := gw_in (t_in_9 (List.mem_of_getElem? (i := 5) rfl)) rfl
theorem cdX11_drop : CD mX11_drop := ⟨q_2080, q_168, by decide +kernel, ⟨by decide +kernel, by decide +kernel⟩, rfl, fun _ => trivial⟩
abbrev mX11_drops : MD := (yX11_drops, cX11_drops, 3, some .int, [], tt)
theorem q_2084 : Cond.code yX11_drops cX11_drops 3 (some .int) ∈ gw := gw_in (t_in_9 (List.mem_of_getElem? (i := 9) rfl)) rfl
theorem cdX11_drops : CD mX11_drops := ⟨q_2084, q_168, by decide +kernel, ⟨by decide +kernel, by decide +kernel⟩, rfl, fun _ => trivial⟩
abbrev mX11_isLesson : MD := (yX11_isLesson, cX11_isLesson, 2, some .boolean, [], tt)
theorem q_2088 : Cond.code yX11_isLesson cX11_isLesson 2 (some .boolean) ∈ gw := gw_in (t_in_9 (List.mem_of_getElem? (i := 13) rfl)) rfl
theorem cdX11_isLesson : CD mX11_isLesson := ⟨q_2088, q_168, by decide +kernel, ⟨by decide +kernel, by decide +kernel⟩, rfl, fun _ => trivial⟩
abbrev mX11_nodesOf : MD := (yX11_nodesOf, cX11_nodesOf, 3, none, [], tt)
theorem q_2092 : Cond.code yX11_nodesOf cX11_nodesOf 3 (none) ∈ gw := gw_in (t_in_9 (List.mem_of_getElem? (i := 17) rfl)) rfl
theorem cdX11_nodesOf : CD mX11_nodesOf := ⟨q_2092, q_168, by decide +kernel, ⟨by decide +kernel, by decide +kernel⟩, rfl, fun _ => trivial⟩
abbrev mX11_keep : MD := (yX11_keep, cX11_keep, 3, some .int, [], tt)
theorem q_2096 : Cond.code yX11_keep cX11_keep 3 (some .int) ∈ gw := gw_in (t_in_9 (List.mem_of_getElem? (i := 21) rfl)) rfl
theorem cdX11_keep : CD mX11_keep := ⟨q_2096, q_168, by decide +kernel, ⟨by decide +kernel, by decide +kernel⟩, rfl, fun _ => trivial⟩
abbrev mX11_keeps : MD := (yX11_keeps, cX11_keeps, 4, some .int, [], tt)
theorem q_2100 : Cond.code yX11_keeps cX11_keeps 4 (some .int) ∈ gw := gw_in (t_in_9 (List.mem_of_getElem? (i := 25) rfl)) rfl
theorem cdX11_keeps : CD mX11_keeps := ⟨q_2100, q_168, by decide +kernel, ⟨by decide +kernel, by decide +kernel⟩, rfl, fun _ => trivial⟩
abbrev mX11_finds : MD := (yX11_finds, cX11_finds, 3, some .boolean, [], tt)
theorem q_2104 : Cond.code yX11_finds cX11_finds 3 (some .boolean) ∈ gw := gw_in (t_in_9 (List.mem_of_getElem? (i := 29) rfl)) rfl
theorem cdX11_finds : CD mX11_finds := ⟨q_2104, q_168, by decide +kernel, ⟨by decide +kernel, by decide +kernel⟩, rfl, fun _ => trivial⟩
abbrev mX11_goes : MD := (yX11_goes, cX11_goes, 3, none, [], tt)
theorem q_2108 : Cond.code yX11_goes cX11_goes 3 (none) ∈ gw := gw_in (t_in_9 (List.mem_of_getElem? (i := 33) rfl)) rfl
theorem cdX11_goes : CD mX11_goes := ⟨q_2108, q_168, by decide +kernel, ⟨by decide +kernel, by decide +kernel⟩, rfl, fun _ => trivial⟩
abbrev mX11_steps : MD := (yX11_steps, cX11_steps, 3, none, [], tt)
theorem q_2112 : Cond.code yX11_steps cX11_steps 3 (none) ∈ gw := gw_in (t_in_9 (List.mem_of_getElem? (i := 37) rfl)) rfl
theorem cdX11_steps : CD mX11_steps := ⟨q_2112, q_168, by decide +kernel, ⟨by decide +kernel, by decide +kernel⟩, rfl, fun _ => trivial⟩
abbrev mX11_leaf : MD := (yX11_leaf, cX11_leaf, 3, none, [], tt)
theorem q_2116 : Cond.code yX11_leaf cX11_leaf 3 (none) ∈ gw := gw_in (t_in_9 (List.mem_of_getElem? (i := 41) rfl)) rfl
theorem cdX11_leaf : CD mX11_leaf := ⟨q_2116, q_168, by decide +kernel, ⟨by decide +kernel, by decide +kernel⟩, rfl, fun _ => trivial⟩
abbrev mX11_keptAt : MD := (yX11_keptAt, cX11_keptAt, 1, some .int, [], tt)
theorem q_2119 : Cond.code yX11_keptAt cX11_keptAt 1 (some .int) ∈ gw := gw_in (t_in_9 (List.mem_of_getElem? (i := 44) rfl)) rfl
theorem cdX11_keptAt : CD mX11_keptAt := ⟨q_2119, q_168, by decide +kernel, ⟨by decide +kernel, by decide +kernel⟩, rfl, fun _ => trivial⟩
abbrev mX11_failsAt : MD := (yX11_failsAt, cX11_failsAt, 4, none, [], tt)
theorem q_2123 : Cond.code yX11_failsAt cX11_failsAt 4 (none) ∈ gw := gw_in (t_in_9 (List.mem_of_getElem? (i := 48) rfl)) rfl
theorem cdX11_failsAt : CD mX11_failsAt := ⟨q_2123, q_168, by decide +kernel, ⟨by decide +kernel, by decide +kernel⟩, rfl, fun _ => trivial⟩
abbrev mX11_fails : MD := (yX11_fails, cX11_fails, 4, some .int, [], tt)
theorem q_2127 : Cond.code yX11_fails cX11_fails 4 (some .int) ∈ gw := gw_in (t_in_9 (List.mem_of_getElem? (i := 52) rfl)) rfl
theorem cdX11_fails : CD mX11_fails := ⟨q_2127, q_168, by decide +kernel, ⟨by decide +kernel, by decide +kernel⟩, rfl, fun _ => trivial⟩
abbrev mX11_makes : MD := (yX11_makes, cX11_makes, 8, some .int, [], tt)
theorem q_2131 : Cond.code yX11_makes cX11_makes 8 (some .int) ∈ gw := gw_in (t_in_9 (List.mem_of_getElem? (i := 56) rfl)) rfl
theorem cdX11_makes : CD mX11_makes := ⟨q_2131, q_168, by decide +kernel, ⟨by decide +kernel, by decide +kernel⟩, rfl, fun _ => trivial⟩
abbrev mX11_fresh : MD := (yX11_fresh, cX11_fresh, 1, some .int, [], tt)
theorem q_2135 : Cond.code yX11_fresh cX11_fresh 1 (some .int) ∈ gw := gw_in (t_in_9 (List.mem_of_getElem? (i := 60) rfl)) rfl
theorem cdX11_fresh : CD mX11_fresh := ⟨q_2135, q_168, by decide +kernel, ⟨by decide +kernel, by decide +kernel⟩, rfl, fun _ => trivial⟩
abbrev mX11_part : MD := (yX11_part, cX11_part, 4, some .int, [], tt)
theorem q_2139 : Cond.code yX11_part cX11_part 4 (some .int) ∈ gw := gw_in (t_in_9 (List.mem_of_getElem? (i := 64) rfl)) rfl
theorem cdX11_part : CD mX11_part := ⟨q_2139, q_168, by decide +kernel, ⟨by decide +kernel, by decide +kernel⟩, rfl, fun _ => trivial⟩
abbrev mX11_signType : MD := (yX11_signType, cX11_signType, 4, some .int, [], tt)
theorem q_2143 : Cond.code yX11_signType cX11_signType 4 (some .int) ∈ gw := gw_in (t_in_9 (List.mem_of_getElem? (i := 68) rfl)) rfl
theorem cdX11_signType : CD mX11_signType := ⟨q_2143, q_168, by decide +kernel, ⟨by decide +kernel, by decide +kernel⟩, rfl, fun _ => trivial⟩
abbrev mX11_arrow : MD := (yX11_arrow, cX11_arrow, 3, some .int, [], tt)
theorem q_2147 : Cond.code yX11_arrow cX11_arrow 3 (some .int) ∈ gw := gw_in (t_in_9 (List.mem_of_getElem? (i := 72) rfl)) rfl
theorem cdX11_arrow : CD mX11_arrow := ⟨q_2147, q_168, by decide +kernel, ⟨by decide +kernel, by decide +kernel⟩, rfl, fun _ => trivial⟩
abbrev mX11_binderOf : MD := (yX11_binderOf, cX11_binderOf, 5, some .int, [], tt)
theorem q_2151 : Cond.code yX11_binderOf cX11_binderOf 5 (some .int) ∈ gw := gw_in (t_in_9 (List.mem_of_getElem? (i := 76) rfl)) rfl
theorem cdX11_binderOf : CD mX11_binderOf := ⟨q_2151, q_168, by decide +kernel, ⟨by decide +kernel, by decide +kernel⟩, rfl, fun _ => trivial⟩
abbrev mX11_copied : MD := (yX11_copied, cX11_copied, 5, some .int, [], tt)
theorem q_2155 : Cond.code yX11_copied cX11_copied 5 (some .int) ∈ gw := gw_in (t_in_9 (List.mem_of_getElem? (i := 80) rfl)) rfl
theorem cdX11_copied : CD mX11_copied := ⟨q_2155, q_168, by decide +kernel, ⟨by decide +kernel, by decide +kernel⟩, rfl, fun _ => trivial⟩
abbrev mX11_starts : MD := (yX11_starts, cX11_starts, 2, none, [], tt)
theorem q_2159 : Cond.code yX11_starts cX11_starts 2 (none) ∈ gw := gw_in (t_in_9 (List.mem_of_getElem? (i := 84) rfl)) rfl
theorem cdX11_starts : CD mX11_starts := ⟨q_2159, q_168, by decide +kernel, ⟨by decide +kernel, by decide +kernel⟩, rfl, fun _ => trivial⟩
abbrev mX11_is : MD := (yX11_is, cX11_is, 3, some .int, [], tt)
theorem q_2163 : Cond.code yX11_is cX11_is 3 (some .int) ∈ gw := gw_in (t_in_9 (List.mem_of_getElem? (i := 88) rfl)) rfl
theorem cdX11_is : CD mX11_is := ⟨q_2163, q_168, by decide +kernel, ⟨by decide +kernel, by decide +kernel⟩, rfl, fun _ => trivial⟩
abbrev mX11_turn : MD := (yX11_turn, cX11_turn, 2, some .int, [], tt)
theorem q_2167 : Cond.code yX11_turn cX11_turn 2 (some .int) ∈ gw := gw_in (t_in_9 (List.mem_of_getElem? (i := 92) rfl)) rfl
theorem cdX11_turn : CD mX11_turn := ⟨q_2167, q_168, by decide +kernel, ⟨by decide +kernel, by decide +kernel⟩, rfl, fun _ => trivial⟩
abbrev mX11_applies : MD := (yX11_applies, cX11_applies, 3, none, [], tt)
theorem q_2171 : Cond.code yX11_applies cX11_applies 3 (none) ∈ gw := gw_in (t_in_9 (List.mem_of_getElem? (i := 96) rfl)) rfl
theorem cdX11_applies : CD mX11_applies := ⟨q_2171, q_168, by decide +kernel, ⟨by decide +kernel, by decide +kernel⟩, rfl, fun _ => trivial⟩
abbrev mX11_size : MD := (yX11_size, cX11_size, 6, some .int, [], tt)
theorem q_2175 : Cond.code yX11_size cX11_size 6 (some .int) ∈ gw := gw_in (t_in_9 (List.mem_of_getElem? (i := 100) rfl)) rfl
theorem cdX11_size : CD mX11_size := ⟨q_2175, q_168, by decide +kernel, ⟨by decide +kernel, by decide +kernel⟩, rfl, fun _ => trivial⟩
abbrev mX11_fits : MD := (yX11_fits, cX11_fits, 8, some .int, [], tt)
theorem q_2179 : Cond.code yX11_fits cX11_fits 8 (some .int) ∈ gw := gw_in (t_in_9 (List.mem_of_getElem? (i := 104) rfl)) rfl
theorem cdX11_fits : CD mX11_fits := ⟨q_2179, q_168, by decide +kernel, ⟨by decide +kernel, by decide +kernel⟩, rfl, fun _ => trivial⟩
abbrev mX11_pairs : MD := (yX11_pairs, cX11_pairs, 5, none, [], tt)
theorem q_2183 : Cond.code yX11_pairs cX11_pairs 5 (none) ∈ gw := gw_in (t_in_9 (List.mem_of_getElem? (i := 108) rfl)) rfl
theorem cdX11_pairs : CD mX11_pairs := ⟨q_2183, q_168, by decide +kernel, ⟨by decide +kernel, by decide +kernel⟩, rfl, fun _ => trivial⟩
abbrev mX11_has : MD := (yX11_has, cX11_has, 3, some .boolean, [], tt)
theorem q_2187 : Cond.code yX11_has cX11_has 3 (some .boolean) ∈ gw := gw_in (t_in_9 (List.mem_of_getElem? (i := 112) rfl)) rfl
theorem cdX11_has : CD mX11_has := ⟨q_2187, q_168, by decide +kernel, ⟨by decide +kernel, by decide +kernel⟩, rfl, fun _ => trivial⟩
abbrev mX11_marks : MD := (yX11_marks, cX11_marks, 3, none, [], tt)
theorem q_2191 : Cond.code yX11_marks cX11_marks 3 (none) ∈ gw := gw_in (t_in_9 (List.mem_of_getElem? (i := 116) rfl)) rfl
theorem cdX11_marks : CD mX11_marks := ⟨q_2191, q_168, by decide +kernel, ⟨by decide +kernel, by decide +kernel⟩, rfl, fun _ => trivial⟩
abbrev mX11_generalises : MD := (yX11_generalises, cX11_generalises, 3, none, [], tt)
theorem q_2195 : Cond.code yX11_generalises cX11_generalises 3 (none) ∈ gw := gw_in (t_in_9 (List.mem_of_getElem? (i := 120) rfl)) rfl
theorem cdX11_generalises : CD mX11_generalises := ⟨q_2195, q_168, by decide +kernel, ⟨by decide +kernel, by decide +kernel⟩, rfl, fun _ => trivial⟩
abbrev mX11_writesRow : MD := (yX11_writesRow, cX11_writesRow, 3, none, [], tt)
theorem q_2199 : Cond.code yX11_writesRow cX11_writesRow 3 (none) ∈ gw := gw_in (t_in_9 (List.mem_of_getElem? (i := 124) rfl)) rfl
theorem cdX11_writesRow : CD mX11_writesRow := ⟨q_2199, q_168, by decide +kernel, ⟨by decide +kernel, by decide +kernel⟩, rfl, fun _ => trivial⟩
abbrev mX11_unkeep : MD := (yX11_unkeep, cX11_unkeep, 2, some .int, [], tt)
theorem q_2203 : Cond.code yX11_unkeep cX11_unkeep 2 (some .int) ∈ gw := gw_in (t_in_9 (List.mem_of_getElem? (i := 128) rfl)) rfl
theorem cdX11_unkeep : CD mX11_unkeep := ⟨q_2203, q_168, by decide +kernel, ⟨by decide +kernel, by decide +kernel⟩, rfl, fun _ => trivial⟩
abbrev mX11_unkeeps : MD := (yX11_unkeeps, cX11_unkeeps, 4, some .int, [], tt)
theorem q_2207 : Cond.code yX11_unkeeps cX11_unkeeps 4 (some .int) ∈ gw := gw_in (t_in_9 (List.mem_of_getElem? (i := 132) rfl)) rfl
theorem cdX11_unkeeps : CD mX11_unkeeps := ⟨q_2207, q_168, by decide +kernel, ⟨by decide +kernel, by decide +kernel⟩, rfl, fun _ => trivial⟩
abbrev mX11_nodes : MD := (yX11_nodes, cX11_nodes, 2, some .int, [], tt)
theorem q_2211 : Cond.code yX11_nodes cX11_nodes 2 (some .int) ∈ gw := gw_in (t_in_9 (List.mem_of_getElem? (i := 136) rfl)) rfl
theorem cdX11_nodes : CD mX11_nodes := ⟨q_2211, q_168, by decide +kernel, ⟨by decide +kernel, by decide +kernel⟩, rfl, fun _ => trivial⟩
abbrev mX11_nodeOf : MD := (yX11_nodeOf, cX11_nodeOf, 4, some .int, [], tt)
theorem q_2215 : Cond.code yX11_nodeOf cX11_nodeOf 4 (some .int) ∈ gw := gw_in (t_in_9 (List.mem_of_getElem? (i := 140) rfl)) rfl
theorem cdX11_nodeOf : CD mX11_nodeOf := ⟨q_2215, q_168, by decide +kernel, ⟨by decide +kernel, by decide +kernel⟩, rfl, fun _ => trivial⟩
abbrev mX11_isNode : MD := (yX11_isNode, cX11_isNode, 3, some .boolean, [], tt)
theorem q_2219 : Cond.code yX11_isNode cX11_isNode 3 (some .boolean) ∈ gw := gw_in (t_in_9 (List.mem_of_getElem? (i := 144) rfl)) rfl
theorem cdX11_isNode : CD mX11_isNode := ⟨q_2219, q_168, by decide +kernel, ⟨by decide +kernel, by decide +kernel⟩, rfl, fun _ => trivial⟩
abbrev mX11_signOf : MD := (yX11_signOf, cX11_signOf, 3, some .char, [], tt)
theorem q_2223 : Cond.code yX11_signOf cX11_signOf 3 (some .char) ∈ gw := gw_in (t_in_9 (List.mem_of_getElem? (i := 148) rfl)) rfl
theorem cdX11_signOf : CD mX11_signOf := ⟨q_2223, q_168, by decide +kernel, ⟨by decide +kernel, by decide +kernel⟩, rfl, fun _ => trivial⟩
abbrev mX11_binder : MD := (yX11_binder, cX11_binder, 3, some .int, [], tt)
theorem q_2227 : Cond.code yX11_binder cX11_binder 3 (some .int) ∈ gw := gw_in (t_in_9 (List.mem_of_getElem? (i := 152) rfl)) rfl
theorem cdX11_binder : CD mX11_binder := ⟨q_2227, q_168, by decide +kernel, ⟨by decide +kernel, by decide +kernel⟩, rfl, fun _ => trivial⟩
abbrev mX11_uses : MD := (yX11_uses, cX11_uses, 3, some .int, [], tt)
theorem q_2231 : Cond.code yX11_uses cX11_uses 3 (some .int) ∈ gw := gw_in (t_in_9 (List.mem_of_getElem? (i := 156) rfl)) rfl
theorem cdX11_uses : CD mX11_uses := ⟨q_2231, q_168, by decide +kernel, ⟨by decide +kernel, by decide +kernel⟩, rfl, fun _ => trivial⟩
abbrev mX11_boundBy : MD := (yX11_boundBy, cX11_boundBy, 4, some .int, [], tt)
theorem q_2235 : Cond.code yX11_boundBy cX11_boundBy 4 (some .int) ∈ gw := gw_in (t_in_9 (List.mem_of_getElem? (i := 160) rfl)) rfl
theorem cdX11_boundBy : CD mX11_boundBy := ⟨q_2235, q_168, by decide +kernel, ⟨by decide +kernel, by decide +kernel⟩, rfl, fun _ => trivial⟩
abbrev mX11_unbound : MD := (yX11_unbound, cX11_unbound, 2, some .int, [], tt)
theorem q_2239 : Cond.code yX11_unbound cX11_unbound 2 (some .int) ∈ gw := gw_in (t_in_9 (List.mem_of_getElem? (i := 164) rfl)) rfl
theorem cdX11_unbound : CD mX11_unbound := ⟨q_2239, q_168, by decide +kernel, ⟨by decide +kernel, by decide +kernel⟩, rfl, fun _ => trivial⟩
abbrev mX11_isTyped : MD := (yX11_isTyped, cX11_isTyped, 2, some .boolean, [], tt)
theorem q_2243 : Cond.code yX11_isTyped cX11_isTyped 2 (some .boolean) ∈ gw := gw_in (t_in_9 (List.mem_of_getElem? (i := 168) rfl)) rfl
theorem cdX11_isTyped : CD mX11_isTyped := ⟨q_2243, q_168, by decide +kernel, ⟨by decide +kernel, by decide +kernel⟩, rfl, fun _ => trivial⟩
abbrev mX11_failure : MD := (yX11_failure, cX11_failure, 3, some .int, [], tt)
theorem q_2247 : Cond.code yX11_failure cX11_failure 3 (some .int) ∈ gw := gw_in (t_in_9 (List.mem_of_getElem? (i := 172) rfl)) rfl
theorem cdX11_failure : CD mX11_failure := ⟨q_2247, q_168, by decide +kernel, ⟨by decide +kernel, by decide +kernel⟩, rfl, fun _ => trivial⟩
abbrev mX11_typeOf : MD := (yX11_typeOf, cX11_typeOf, 3, some .int, [], tt)
theorem q_2251 : Cond.code yX11_typeOf cX11_typeOf 3 (some .int) ∈ gw := gw_in (t_in_9 (List.mem_of_getElem? (i := 176) rfl)) rfl
theorem cdX11_typeOf : CD mX11_typeOf := ⟨q_2251, q_168, by decide +kernel, ⟨by decide +kernel, by decide +kernel⟩, rfl, fun _ => trivial⟩
abbrev mX11_number : MD := (yX11_number, cX11_number, 5, some .int, [], tt)
theorem q_2255 : Cond.code yX11_number cX11_number 5 (some .int) ∈ gw := gw_in (t_in_9 (List.mem_of_getElem? (i := 180) rfl)) rfl
theorem cdX11_number : CD mX11_number := ⟨q_2255, q_168, by decide +kernel, ⟨by decide +kernel, by decide +kernel⟩, rfl, fun _ => trivial⟩
abbrev mX11_places : MD := (yX11_places, cX11_places, 4, some .int, [], tt)
theorem q_2259 : Cond.code yX11_places cX11_places 4 (some .int) ∈ gw := gw_in (t_in_9 (List.mem_of_getElem? (i := 184) rfl)) rfl
theorem cdX11_places : CD mX11_places := ⟨q_2259, q_168, by decide +kernel, ⟨by decide +kernel, by decide +kernel⟩, rfl, fun _ => trivial⟩
abbrev mX11_typeAgain : MD := (yX11_typeAgain, cX11_typeAgain, 3, some .int, [], tt)
theorem q_2263 : Cond.code yX11_typeAgain cX11_typeAgain 3 (some .int) ∈ gw := gw_in (t_in_9 (List.mem_of_getElem? (i := 188) rfl)) rfl
theorem cdX11_typeAgain : CD mX11_typeAgain := ⟨q_2263, q_168, by decide +kernel, ⟨by decide +kernel, by decide +kernel⟩, rfl, fun _ => trivial⟩
abbrev mX11_again : MD := (yX11_again, cX11_again, 5, some .int, [], tt)
theorem q_2267 : Cond.code yX11_again cX11_again 5 (some .int) ∈ gw := gw_in (t_in_9 (List.mem_of_getElem? (i := 192) rfl)) rfl
theorem cdX11_again : CD mX11_again := ⟨q_2267, q_168, by decide +kernel, ⟨by decide +kernel, by decide +kernel⟩, rfl, fun _ => trivial⟩
abbrev mX11_nodeType : MD := (yX11_nodeType, cX11_nodeType, 4, some .int, [], tt)
theorem q_2271 : Cond.code yX11_nodeType cX11_nodeType 4 (some .int) ∈ gw := gw_in (t_in_9 (List.mem_of_getElem? (i := 196) rfl)) rfl
theorem cdX11_nodeType : CD mX11_nodeType := ⟨q_2271, q_168, by decide +kernel, ⟨by decide +kernel, by decide +kernel⟩, rfl, fun _ => trivial⟩
abbrev mX11_isAlike : MD := (yX11_isAlike, cX11_isAlike, 5, some .boolean, [], tt)
theorem q_2275 : Cond.code yX11_isAlike cX11_isAlike 5 (some .boolean) ∈ gw := gw_in (t_in_9 (List.mem_of_getElem? (i := 200) rfl)) rfl
theorem cdX11_isAlike : CD mX11_isAlike := ⟨q_2275, q_168, by decide +kernel, ⟨by decide +kernel, by decide +kernel⟩, rfl, fun _ => trivial⟩
abbrev mX11_twoLessons : MD := (yX11_twoLessons, cX11_twoLessons, 3, some .int, [], tt)
theorem q_2279 : Cond.code yX11_twoLessons cX11_twoLessons 3 (some .int) ∈ gw := gw_in (t_in_9 (List.mem_of_getElem? (i := 204) rfl)) rfl
theorem cdX11_twoLessons : CD mX11_twoLessons := ⟨q_2279, q_168, by decide +kernel, ⟨by decide +kernel, by decide +kernel⟩, rfl, fun _ => trivial⟩
abbrev mX11_both : MD := (yX11_both, cX11_both, 4, some .boolean, [], tt)
theorem q_2283 : Cond.code yX11_both cX11_both 4 (some .boolean) ∈ gw := gw_in (t_in_9 (List.mem_of_getElem? (i := 208) rfl)) rfl
theorem cdX11_both : CD mX11_both := ⟨q_2283, q_168, by decide +kernel, ⟨by decide +kernel, by decide +kernel⟩, rfl, fun _ => trivial⟩
abbrev mX11_isAsGeneral : MD := (yX11_isAsGeneral, cX11_isAsGeneral, 6, some .boolean, [], tt)
theorem q_2287 : Cond.code yX11_isAsGeneral cX11_isAsGeneral 6 (some .boolean) ∈ gw := gw_in (t_in_9 (List.mem_of_getElem? (i := 212) rfl)) rfl
theorem cdX11_isAsGeneral : CD mX11_isAsGeneral := ⟨q_2287, q_168, by decide +kernel, ⟨by decide +kernel, by decide +kernel⟩, rfl, fun _ => trivial⟩
abbrev mX11_isSame : MD := (yX11_isSame, cX11_isSame, 6, some .boolean, [], tt)
theorem q_2291 : Cond.code yX11_isSame cX11_isSame 6 (some .boolean) ∈ gw := gw_in (t_in_9 (List.mem_of_getElem? (i := 216) rfl)) rfl
theorem cdX11_isSame : CD mX11_isSame := ⟨q_2291, q_168, by decide +kernel, ⟨by decide +kernel, by decide +kernel⟩, rfl, fun _ => trivial⟩
abbrev mX11_endOf : MD := (yX11_endOf, cX11_endOf, 4, some .int, [], tt)
theorem q_2295 : Cond.code yX11_endOf cX11_endOf 4 (some .int) ∈ gw := gw_in (t_in_9 (List.mem_of_getElem? (i := 220) rfl)) rfl
theorem cdX11_endOf : CD mX11_endOf := ⟨q_2295, q_168, by decide +kernel, ⟨by decide +kernel, by decide +kernel⟩, rfl, fun _ => trivial⟩
abbrev mX11_fit : MD := (yX11_fit, cX11_fit, 4, some .int, [], tt)
theorem q_2299 : Cond.code yX11_fit cX11_fit 4 (some .int) ∈ gw := gw_in (t_in_9 (List.mem_of_getElem? (i := 224) rfl)) rfl
theorem cdX11_fit : CD mX11_fit := ⟨q_2299, q_168, by decide +kernel, ⟨by decide +kernel, by decide +kernel⟩, rfl, fun _ => trivial⟩
abbrev mX11_fitted : MD := (yX11_fitted, cX11_fitted, 5, some .int, [], tt)
theorem q_2303 : Cond.code yX11_fitted cX11_fitted 5 (some .int) ∈ gw := gw_in (t_in_9 (List.mem_of_getElem? (i := 228) rfl)) rfl
theorem cdX11_fitted : CD mX11_fitted := ⟨q_2303, q_168, by decide +kernel, ⟨by decide +kernel, by decide +kernel⟩, rfl, fun _ => trivial⟩
abbrev mX11_fitting : MD := (yX11_fitting, cX11_fitting, 4, some .int, [], tt)
theorem q_2307 : Cond.code yX11_fitting cX11_fitting 4 (some .int) ∈ gw := gw_in (t_in_9 (List.mem_of_getElem? (i := 232) rfl)) rfl
theorem cdX11_fitting : CD mX11_fitting := ⟨q_2307, q_168, by decide +kernel, ⟨by decide +kernel, by decide +kernel⟩, rfl, fun _ => trivial⟩
abbrev mX11_isKept : MD := (yX11_isKept, cX11_isKept, 2, some .boolean, [], tt)
theorem q_2311 : Cond.code yX11_isKept cX11_isKept 2 (some .boolean) ∈ gw := gw_in (t_in_9 (List.mem_of_getElem? (i := 236) rfl)) rfl
theorem cdX11_isKept : CD mX11_isKept := ⟨q_2311, q_168, by decide +kernel, ⟨by decide +kernel, by decide +kernel⟩, rfl, fun _ => trivial⟩
abbrev mX11_largest : MD := (yX11_largest, cX11_largest, 5, some .int, [], tt)
theorem q_2315 : Cond.code yX11_largest cX11_largest 5 (some .int) ∈ gw := gw_in (t_in_10 (List.mem_of_getElem? (i := 0) rfl)) rfl
theorem cdX11_largest : CD mX11_largest := ⟨q_2315, q_168, by decide +kernel, ⟨by decide +kernel, by decide +kernel⟩, rfl, fun _ => trivial⟩
abbrev mX11_ranked : MD := (yX11_ranked, cX11_ranked, 6, some .int, [], tt)
theorem q_2319 : Cond.code yX11_ranked cX11_ranked 6 (some .int) ∈ gw := gw_in (t_in_10 (List.mem_of_getElem? (i := 4) rfl)) rfl
theorem cdX11_ranked : CD mX11_ranked := ⟨q_2319, q_168, by decide +kernel, ⟨by decide +kernel, by decide +kernel⟩, rfl, fun _ => trivial⟩
abbrev mX11_many : MD := (yX11_many, cX11_many, 2, some .int, [], tt)
theorem q_2323 : Cond.code yX11_many cX11_many 2 (some .int) ∈ gw := gw_in (t_in_10 (List.mem_of_getElem? (i := 8) rfl)) rfl
theorem cdX11_many : CD mX11_many := ⟨q_2323, q_168, by decide +kernel, ⟨by decide +kernel, by decide +kernel⟩, rfl, fun _ => trivial⟩
abbrev mX11_isTold : MD := (yX11_isTold, cX11_isTold, 1, some .boolean, [], tt)
theorem q_2327 : Cond.code yX11_isTold cX11_isTold 1 (some .boolean) ∈ gw := gw_in (t_in_10 (List.mem_of_getElem? (i := 12) rfl)) rfl
theorem cdX11_isTold : CD mX11_isTold := ⟨q_2327, q_168, by decide +kernel, ⟨by decide +kernel, by decide +kernel⟩, rfl, fun _ => trivial⟩
abbrev mX11_append : MD := (yX11_append, cX11_append, 2, some .int, [], tt)
theorem q_2331 : Cond.code yX11_append cX11_append 2 (some .int) ∈ gw := gw_in (t_in_10 (List.mem_of_getElem? (i := 16) rfl)) rfl
theorem cdX11_append : CD mX11_append := ⟨q_2331, q_168, by decide +kernel, ⟨by decide +kernel, by decide +kernel⟩, rfl, fun _ => trivial⟩
abbrev mX11_run : MD := (yX11_run, cX11_run, 5, some .int, [], tt)
theorem q_2335 : Cond.code yX11_run cX11_run 5 (some .int) ∈ gw := gw_in (t_in_10 (List.mem_of_getElem? (i := 20) rfl)) rfl
theorem cdX11_run : CD mX11_run := ⟨q_2335, q_168, by decide +kernel, ⟨by decide +kernel, by decide +kernel⟩, rfl, fun _ => trivial⟩
abbrev mX11_areOrders : MD := (yX11_areOrders, cX11_areOrders, 2, some .boolean, [], tt)
theorem q_2339 : Cond.code yX11_areOrders cX11_areOrders 2 (some .boolean) ∈ gw := gw_in (t_in_10 (List.mem_of_getElem? (i := 24) rfl)) rfl
theorem cdX11_areOrders : CD mX11_areOrders := ⟨q_2339, q_168, by decide +kernel, ⟨by decide +kernel, by decide +kernel⟩, rfl, fun _ => trivial⟩
abbrev mX11_isOrder : MD := (yX11_isOrder, cX11_isOrder, 5, some .boolean, [], tt)
theorem q_2343 : Cond.code yX11_isOrder cX11_isOrder 5 (some .boolean) ∈ gw := gw_in (t_in_10 (List.mem_of_getElem? (i := 28) rfl)) rfl
theorem cdX11_isOrder : CD mX11_isOrder := ⟨q_2343, q_168, by decide +kernel, ⟨by decide +kernel, by decide +kernel⟩, rfl, fun _ => trivial⟩
abbrev mX11_next : MD := (yX11_next, cX11_next, 1, some .int, [], tt)
theorem q_2347 : Cond.code yX11_next cX11_next 1 (some .int) ∈ gw := gw_in (t_in_10 (List.mem_of_getElem? (i := 32) rfl)) rfl
theorem cdX11_next : CD mX11_next := ⟨q_2347, q_168, by decide +kernel, ⟨by decide +kernel, by decide +kernel⟩, rfl, fun _ => trivial⟩
abbrev mX11_faultPosition : MD := (yX11_faultPosition, cX11_faultPosition, 1, some .int, [], tt)
theorem q_2351 : Cond.code yX11_faultPosition cX11_faultPosition 1 (some .int) ∈ gw := gw_in (t_in_10 (List.mem_of_getElem? (i := 36) rfl)) rfl
theorem cdX11_faultPosition : CD mX11_faultPosition := ⟨q_2351, q_168, by decide +kernel, ⟨by decide +kernel, by decide +kernel⟩, rfl, fun _ => trivial⟩
abbrev mX11_reason : MD := (yX11_reason, cX11_reason, 3, some .int, [], tt)
theorem q_2355 : Cond.code yX11_reason cX11_reason 3 (some .int) ∈ gw := gw_in (t_in_10 (List.mem_of_getElem? (i := 40) rfl)) rfl
theorem cdX11_reason : CD mX11_reason := ⟨q_2355, q_168, by decide +kernel, ⟨by decide +kernel, by decide +kernel⟩, rfl, fun _ => trivial⟩
abbrev mX11_tell : MD := (yX11_tell, cX11_tell, 2, some .int, [], tt)
theorem q_2359 : Cond.code yX11_tell cX11_tell 2 (some .int) ∈ gw := gw_in (t_in_10 (List.mem_of_getElem? (i := 44) rfl)) rfl
theorem cdX11_tell : CD mX11_tell := ⟨q_2359, q_168, by decide +kernel, ⟨by decide +kernel, by decide +kernel⟩, rfl, fun _ => trivial⟩
abbrev mX11_writesType : MD := (yX11_writesType, cX11_writesType, 4, some .int, [], tt)
theorem q_2363 : Cond.code yX11_writesType cX11_writesType 4 (some .int) ∈ gw := gw_in (t_in_10 (List.mem_of_getElem? (i := 48) rfl)) rfl
theorem cdX11_writesType : CD mX11_writesType := ⟨q_2363, q_168, by decide +kernel, ⟨by decide +kernel, by decide +kernel⟩, rfl, fun _ => trivial⟩
abbrev mX11_later : MD := (yX11_later, cX11_later, 2, none, [], tt)
theorem q_2367 : Cond.code yX11_later cX11_later 2 (none) ∈ gw := gw_in (t_in_10 (List.mem_of_getElem? (i := 52) rfl)) rfl
theorem cdX11_later : CD mX11_later := ⟨q_2367, q_168, by decide +kernel, ⟨by decide +kernel, by decide +kernel⟩, rfl, fun _ => trivial⟩
abbrev mX11_writes : MD := (yX11_writes, cX11_writes, 2, none, [], tt)
theorem q_2371 : Cond.code yX11_writes cX11_writes 2 (none) ∈ gw := gw_in (t_in_10 (List.mem_of_getElem? (i := 56) rfl)) rfl
theorem cdX11_writes : CD mX11_writes := ⟨q_2371, q_168, by decide +kernel, ⟨by decide +kernel, by decide +kernel⟩, rfl, fun _ => trivial⟩
abbrev mX11_tellNode : MD := (yX11_tellNode, cX11_tellNode, 3, some .int, [], tt)
theorem q_2375 : Cond.code yX11_tellNode cX11_tellNode 3 (some .int) ∈ gw := gw_in (t_in_10 (List.mem_of_getElem? (i := 60) rfl)) rfl
theorem cdX11_tellNode : CD mX11_tellNode := ⟨q_2375, q_168, by decide +kernel, ⟨by decide +kernel, by decide +kernel⟩, rfl, fun _ => trivial⟩
abbrev mX11_tellKept : MD := (yX11_tellKept, cX11_tellKept, 3, some .int, [], tt)
theorem q_2379 : Cond.code yX11_tellKept cX11_tellKept 3 (some .int) ∈ gw := gw_in (t_in_10 (List.mem_of_getElem? (i := 64) rfl)) rfl
theorem cdX11_tellKept : CD mX11_tellKept := ⟨q_2379, q_168, by decide +kernel, ⟨by decide +kernel, by decide +kernel⟩, rfl, fun _ => trivial⟩
abbrev mX11_tellTerm : MD := (yX11_tellTerm, cX11_tellTerm, 2, some .int, [], tt)
theorem q_2383 : Cond.code yX11_tellTerm cX11_tellTerm 2 (some .int) ∈ gw := gw_in (t_in_10 (List.mem_of_getElem? (i := 68) rfl)) rfl
theorem cdX11_tellTerm : CD mX11_tellTerm := ⟨q_2383, q_168, by decide +kernel, ⟨by decide +kernel, by decide +kernel⟩, rfl, fun _ => trivial⟩
abbrev mX11_writesNode : MD := (yX11_writesNode, cX11_writesNode, 3, none, [], tt)
theorem q_2387 : Cond.code yX11_writesNode cX11_writesNode 3 (none) ∈ gw := gw_in (t_in_10 (List.mem_of_getElem? (i := 72) rfl)) rfl
theorem cdX11_writesNode : CD mX11_writesNode := ⟨q_2387, q_168, by decide +kernel, ⟨by decide +kernel, by decide +kernel⟩, rfl, fun _ => trivial⟩
abbrev mX11_character : MD := (yX11_character, cX11_character, 2, some .char, [], tt)
theorem q_2391 : Cond.code yX11_character cX11_character 2 (some .char) ∈ gw := gw_in (t_in_10 (List.mem_of_getElem? (i := 76) rfl)) rfl
theorem cdX11_character : CD mX11_character := ⟨q_2391, q_168, by decide +kernel, ⟨by decide +kernel, by decide +kernel⟩, rfl, fun _ => trivial⟩
abbrev mX11_account : MD := (yX11_account, cX11_account, 2, some .int, [], tt)
theorem q_2395 : Cond.code yX11_account cX11_account 2 (some .int) ∈ gw := gw_in (t_in_10 (List.mem_of_getElem? (i := 80) rfl)) rfl
theorem cdX11_account : CD mX11_account := ⟨q_2395, q_168, by decide +kernel, ⟨by decide +kernel, by decide +kernel⟩, rfl, fun _ => trivial⟩
abbrev mX11_ofLessons : MD := (yX11_ofLessons, cX11_ofLessons, 5, some .int, [], tt)
theorem q_2399 : Cond.code yX11_ofLessons cX11_ofLessons 5 (some .int) ∈ gw := gw_in (t_in_10 (List.mem_of_getElem? (i := 84) rfl)) rfl
theorem cdX11_ofLessons : CD mX11_ofLessons := ⟨q_2399, q_168, by decide +kernel, ⟨by decide +kernel, by decide +kernel⟩, rfl, fun _ => trivial⟩
abbrev mX11_allNodes : MD := (yX11_allNodes, cX11_allNodes, 3, some .int, [], tt)
theorem q_2403 : Cond.code yX11_allNodes cX11_allNodes 3 (some .int) ∈ gw := gw_in (t_in_10 (List.mem_of_getElem? (i := 88) rfl)) rfl
theorem cdX11_allNodes : CD mX11_allNodes := ⟨q_2403, q_168, by decide +kernel, ⟨by decide +kernel, by decide +kernel⟩, rfl, fun _ => trivial⟩
abbrev mX11_keptNow : MD := (yX11_keptNow, cX11_keptNow, 3, some .int, [], tt)
theorem q_2407 : Cond.code yX11_keptNow cX11_keptNow 3 (some .int) ∈ gw := gw_in (t_in_10 (List.mem_of_getElem? (i := 92) rfl)) rfl
theorem cdX11_keptNow : CD mX11_keptNow := ⟨q_2407, q_168, by decide +kernel, ⟨by decide +kernel, by decide +kernel⟩, rfl, fun _ => trivial⟩
abbrev mX11_meanSize : MD := (yX11_meanSize, cX11_meanSize, 2, some .double, [], tt)
theorem q_2411 : Cond.code yX11_meanSize cX11_meanSize 2 (some .double) ∈ gw := gw_in (t_in_10 (List.mem_of_getElem? (i := 96) rfl)) rfl
theorem cdX11_meanSize : CD mX11_meanSize := ⟨q_2411, q_168, by decide +kernel, ⟨by decide +kernel, by decide +kernel⟩, rfl, fun _ => trivial⟩
abbrev mX11_typedShare : MD := (yX11_typedShare, cX11_typedShare, 1, some .float, [], tt)
theorem q_2415 : Cond.code yX11_typedShare cX11_typedShare 1 (some .float) ∈ gw := gw_in (t_in_10 (List.mem_of_getElem? (i := 100) rfl)) rfl
theorem cdX11_typedShare : CD mX11_typedShare := ⟨q_2415, q_168, by decide +kernel, ⟨by decide +kernel, by decide +kernel⟩, rfl, fun _ => trivial⟩
abbrev mX11_undo : MD := (yX11_undo, cX11_undo, 2, some .int, [], tt)
theorem q_2419 : Cond.code yX11_undo cX11_undo 2 (some .int) ∈ gw := gw_in (t_in_10 (List.mem_of_getElem? (i := 104) rfl)) rfl
theorem cdX11_undo : CD mX11_undo := ⟨q_2419, q_168, by decide +kernel, ⟨by decide +kernel, by decide +kernel⟩, rfl, fun _ => trivial⟩
abbrev mX11_save : MD := (yX11_save, cX11_save, 1, some .int, [], tt)
theorem q_2423 : Cond.code yX11_save cX11_save 1 (some .int) ∈ gw := gw_in (t_in_10 (List.mem_of_getElem? (i := 108) rfl)) rfl
theorem cdX11_save : CD mX11_save := ⟨q_2423, q_168, by decide +kernel, ⟨by decide +kernel, by decide +kernel⟩, rfl, fun _ => trivial⟩
abbrev mX11_restore : MD := (yX11_restore, cX11_restore, 1, some .int, [], tt)
theorem q_2427 : Cond.code yX11_restore cX11_restore 1 (some .int) ∈ gw := gw_in (t_in_10 (List.mem_of_getElem? (i := 112) rfl)) rfl
theorem cdX11_restore : CD mX11_restore := ⟨q_2427, q_168, by decide +kernel, ⟨by decide +kernel, by decide +kernel⟩, rfl, fun _ => trivial⟩
theorem q_199 : Cond.classLink RX10 9 RJ4 ∈ gw := gw_in (t_in_1 (List.mem_of_getElem? (i := 44) rfl)) rfl
theorem q_200 : Cond.instantiable RJ4 4 ∈ gw := gw_in (t_in_1 (List.mem_of_getElem? (i := 45) rfl)) rfl
theorem q_158 : Cond.initialized RJ4 ∈ gw := gw_in (t_in_1 (List.mem_of_getElem? (i := 3) rfl)) rfl
theorem nX10_9 : NL RX10 9 0 4 := ⟨RJ4, TJ4, tyJ4, kc_J4, q_199, q_200, q_158⟩
theorem q_444 : Cond.fieldLink RX10 12 "TypeTutor" "input" "Ljava/lang/StringBuilder;" ∈ gw := gw_in (t_in_2 (List.mem_of_getElem? (i := 49) rfl)) rfl
theorem fX10_12 : FL RX10 12 10 13 0 true (.object "java/lang/StringBuilder") := ⟨RX10, TX10, tyX10, kc_X10, by decide, rfl, rfl, Or.inl q_444⟩
theorem fX10_12F : FLF RX10 12 10 13 0 (.object "java/lang/StringBuilder") := ⟨RX10, TX10, tyX10, kc_X10, by decide, rfl, rfl, rfl, q_444⟩
theorem q_445 : Cond.fieldLink RX10 16 "TypeTutor" "line" "Ljava/lang/StringBuilder;" ∈ gw := gw_in (t_in_2 (List.mem_of_getElem? (i := 50) rfl)) rfl
theorem fX10_16 : FL RX10 16 10 13 1 true (.object "java/lang/StringBuilder") := ⟨RX10, TX10, tyX10, kc_X10, by decide, rfl, rfl, Or.inl q_445⟩
theorem fX10_16F : FLF RX10 16 10 13 1 (.object "java/lang/StringBuilder") := ⟨RX10, TX10, tyX10, kc_X10, by decide, rfl, rfl, rfl, q_445⟩
theorem q_232 : Cond.classLink RX10 19 RX8 ∈ gw := gw_in (t_in_1 (List.mem_of_getElem? (i := 77) rfl)) rfl
theorem q_233 : Cond.instantiable RX8 4 ∈ gw := gw_in (t_in_1 (List.mem_of_getElem? (i := 78) rfl)) rfl
theorem nX10_19 : NL RX10 19 8 4 := ⟨RX8, TX8, tyX8, kc_X8, q_232, q_233, q_161⟩
theorem q_234 : Cond.methodLinkNest RX10 21 yX8_init RX10 ∈ lw_tbl := t_in_1 (List.mem_of_getElem? (i := 79) rfl)
theorem q_235 : Cond.instanceMethod yX8_init ∈ gw := gw_in (t_in_1 (List.mem_of_getElem? (i := 80) rfl)) rfl
theorem lX10_21 : LKI RX10 21 mX8_init 0 := ⟨cdX8_init, by decide, by decide +kernel, q_235, rfl, rfl, Or.inr ⟨_, q_234⟩⟩
theorem q_446 : Cond.fieldLink RX10 22 "TypeTutor" "reader" "LTypeTutor$TermReader;" ∈ gw := gw_in (t_in_2 (List.mem_of_getElem? (i := 51) rfl)) rfl
theorem fX10_22 : FL RX10 22 10 13 2 true (.object "TypeTutor$TermReader") := ⟨RX10, TX10, tyX10, kc_X10, by decide, rfl, rfl, Or.inl q_446⟩
theorem fX10_22F : FLF RX10 22 10 13 2 (.object "TypeTutor$TermReader") := ⟨RX10, TX10, tyX10, kc_X10, by decide, rfl, rfl, rfl, q_446⟩
theorem q_252 : Cond.classLink RX10 26 RX0 ∈ gw := gw_in (t_in_1 (List.mem_of_getElem? (i := 97) rfl)) rfl
theorem q_253 : Cond.instantiable RX0 14 ∈ gw := gw_in (t_in_1 (List.mem_of_getElem? (i := 98) rfl)) rfl
theorem nX10_26 : NL RX10 26 1 14 := ⟨RX0, TX0, tyX0, kc_X0, q_252, q_253, q_162⟩
theorem q_254 : Cond.methodLinkNest RX10 28 yX0_init RX10 ∈ lw_tbl := t_in_1 (List.mem_of_getElem? (i := 99) rfl)
theorem q_255 : Cond.instanceMethod yX0_init ∈ gw := gw_in (t_in_1 (List.mem_of_getElem? (i := 100) rfl)) rfl
theorem lX10_28 : LKI RX10 28 mX0_init 0 := ⟨cdX0_init, by decide, by decide +kernel, q_255, rfl, rfl, Or.inr ⟨_, q_254⟩⟩
theorem q_447 : Cond.fieldLink RX10 29 "TypeTutor" "finder" "LTypeTutor$Finder;" ∈ gw := gw_in (t_in_2 (List.mem_of_getElem? (i := 52) rfl)) rfl
theorem fX10_29 : FL RX10 29 10 13 3 true (.object "TypeTutor$Finder") := ⟨RX10, TX10, tyX10, kc_X10, by decide, rfl, rfl, Or.inl q_447⟩
theorem fX10_29F : FLF RX10 29 10 13 3 (.object "TypeTutor$Finder") := ⟨RX10, TX10, tyX10, kc_X10, by decide, rfl, rfl, rfl, q_447⟩
theorem q_382 : Cond.classLink RX10 33 RX5 ∈ gw := gw_in (t_in_1 (List.mem_of_getElem? (i := 227) rfl)) rfl
theorem q_383 : Cond.instantiable RX5 2 ∈ gw := gw_in (t_in_1 (List.mem_of_getElem? (i := 228) rfl)) rfl
theorem nX10_33 : NL RX10 33 5 2 := ⟨RX5, TX5, tyX5, kc_X5, q_382, q_383, q_165⟩
theorem q_384 : Cond.methodLinkNest RX10 35 yX5_init RX10 ∈ lw_tbl := t_in_1 (List.mem_of_getElem? (i := 229) rfl)
theorem q_385 : Cond.instanceMethod yX5_init ∈ gw := gw_in (t_in_1 (List.mem_of_getElem? (i := 230) rfl)) rfl
theorem lX10_35 : LKI RX10 35 mX5_init 1 := ⟨cdX5_init, by decide, by decide +kernel, q_385, rfl, rfl, Or.inr ⟨_, q_384⟩⟩
theorem q_448 : Cond.fieldLink RX10 38 "TypeTutor" "shapeOne" "LTypeTutor$Shape;" ∈ gw := gw_in (t_in_2 (List.mem_of_getElem? (i := 53) rfl)) rfl
theorem fX10_38 : FL RX10 38 10 13 4 true (.object "TypeTutor$Shape") := ⟨RX10, TX10, tyX10, kc_X10, by decide, rfl, rfl, Or.inl q_448⟩
theorem fX10_38F : FLF RX10 38 10 13 4 (.object "TypeTutor$Shape") := ⟨RX10, TX10, tyX10, kc_X10, by decide, rfl, rfl, rfl, q_448⟩
theorem q_449 : Cond.fieldLink RX10 42 "TypeTutor" "shapeTwo" "LTypeTutor$Shape;" ∈ gw := gw_in (t_in_2 (List.mem_of_getElem? (i := 54) rfl)) rfl
theorem fX10_42 : FL RX10 42 10 13 5 true (.object "TypeTutor$Shape") := ⟨RX10, TX10, tyX10, kc_X10, by decide, rfl, rfl, Or.inl q_449⟩
theorem fX10_42F : FLF RX10 42 10 13 5 (.object "TypeTutor$Shape") := ⟨RX10, TX10, tyX10, kc_X10, by decide, rfl, rfl, rfl, q_449⟩
theorem q_397 : Cond.classLink RX10 45 RX6 ∈ gw := gw_in (t_in_2 (List.mem_of_getElem? (i := 2) rfl)) rfl
theorem q_398 : Cond.instantiable RX6 5 ∈ gw := gw_in (t_in_2 (List.mem_of_getElem? (i := 3) rfl)) rfl
theorem nX10_45 : NL RX10 45 6 5 := ⟨RX6, TX6, tyX6, kc_X6, q_397, q_398, q_166⟩
theorem q_399 : Cond.methodLinkNest RX10 47 yX6_init RX10 ∈ lw_tbl := t_in_2 (List.mem_of_getElem? (i := 4) rfl)
theorem q_400 : Cond.instanceMethod yX6_init ∈ gw := gw_in (t_in_2 (List.mem_of_getElem? (i := 5) rfl)) rfl
theorem lX10_47 : LKI RX10 47 mX6_init 0 := ⟨cdX6_init, by decide, by decide +kernel, q_400, rfl, rfl, Or.inr ⟨_, q_399⟩⟩
theorem q_450 : Cond.fieldLink RX10 48 "TypeTutor" "now" "LTypeTutor$State;" ∈ gw := gw_in (t_in_2 (List.mem_of_getElem? (i := 55) rfl)) rfl
theorem fX10_48 : FL RX10 48 10 13 6 true (.object "TypeTutor$State") := ⟨RX10, TX10, tyX10, kc_X10, by decide, rfl, rfl, Or.inl q_450⟩
theorem fX10_48F : FLF RX10 48 10 13 6 (.object "TypeTutor$State") := ⟨RX10, TX10, tyX10, kc_X10, by decide, rfl, rfl, rfl, q_450⟩
theorem q_451 : Cond.fieldLink RX10 52 "TypeTutor" "before" "LTypeTutor$State;" ∈ gw := gw_in (t_in_2 (List.mem_of_getElem? (i := 56) rfl)) rfl
theorem fX10_52 : FL RX10 52 10 13 7 true (.object "TypeTutor$State") := ⟨RX10, TX10, tyX10, kc_X10, by decide, rfl, rfl, Or.inl q_451⟩
theorem fX10_52F : FLF RX10 52 10 13 7 (.object "TypeTutor$State") := ⟨RX10, TX10, tyX10, kc_X10, by decide, rfl, rfl, rfl, q_451⟩
theorem q_452 : Cond.fieldLink RX10 55 "TypeTutor" "saved" "LTypeTutor$State;" ∈ gw := gw_in (t_in_2 (List.mem_of_getElem? (i := 57) rfl)) rfl
theorem fX10_55 : FL RX10 55 10 13 8 true (.object "TypeTutor$State") := ⟨RX10, TX10, tyX10, kc_X10, by decide, rfl, rfl, Or.inl q_452⟩
theorem fX10_55F : FLF RX10 55 10 13 8 (.object "TypeTutor$State") := ⟨RX10, TX10, tyX10, kc_X10, by decide, rfl, rfl, rfl, q_452⟩
theorem q_425 : Cond.classLink RX10 58 RX1 ∈ gw := gw_in (t_in_2 (List.mem_of_getElem? (i := 30) rfl)) rfl
theorem q_426 : Cond.instantiable RX1 3 ∈ gw := gw_in (t_in_2 (List.mem_of_getElem? (i := 31) rfl)) rfl
theorem nX10_58 : NL RX10 58 2 3 := ⟨RX1, TX1, tyX1, kc_X1, q_425, q_426, q_167⟩
theorem q_427 : Cond.methodLinkNest RX10 60 yX1_init RX10 ∈ lw_tbl := t_in_2 (List.mem_of_getElem? (i := 32) rfl)
theorem q_428 : Cond.instanceMethod yX1_init ∈ gw := gw_in (t_in_2 (List.mem_of_getElem? (i := 33) rfl)) rfl
theorem lX10_60 : LKI RX10 60 mX1_init 0 := ⟨cdX1_init, by decide, by decide +kernel, q_428, rfl, rfl, Or.inr ⟨_, q_427⟩⟩
theorem q_453 : Cond.fieldLink RX10 61 "TypeTutor" "history" "LTypeTutor$History;" ∈ gw := gw_in (t_in_2 (List.mem_of_getElem? (i := 58) rfl)) rfl
theorem fX10_61 : FL RX10 61 10 13 9 true (.object "TypeTutor$History") := ⟨RX10, TX10, tyX10, kc_X10, by decide, rfl, rfl, Or.inl q_453⟩
theorem fX10_61F : FLF RX10 61 10 13 9 (.object "TypeTutor$History") := ⟨RX10, TX10, tyX10, kc_X10, by decide, rfl, rfl, rfl, q_453⟩
theorem q_455 : Cond.fieldLink RX10 65 "TypeTutor" "fault" "I" ∈ gw := gw_in (t_in_2 (List.mem_of_getElem? (i := 60) rfl)) rfl
theorem fX10_65 : FL RX10 65 10 13 11 false .int := ⟨RX10, TX10, tyX10, kc_X10, by decide, rfl, rfl, Or.inl q_455⟩
theorem q_737 : Cond.methodLinkNest RX10 69 yX8_faultIn RX10 ∈ lw_tbl := t_in_3 (List.mem_of_getElem? (i := 102) rfl)
theorem q_739 : Cond.instanceMethod yX8_faultIn ∈ gw := gw_in (t_in_3 (List.mem_of_getElem? (i := 104) rfl)) rfl
theorem q_46 : Cond.selects RX8 yX8_faultIn yX8_faultIn ∈ gw := gw_in (lw_i (p_in_3 (List.mem_of_getElem? (i := 14) rfl))) rfl
theorem lX10_69 : LKV RX10 69 mX8_faultIn 8 1 := ⟨cdX8_faultIn, by decide, by decide +kernel, q_739, q_46, Or.inr ⟨_, q_737⟩, _, _, _, kc_X8⟩
theorem q_408 : Cond.fieldLinkNest RX10 83 "TypeTutor$State" "count" "I" RX10 ∈ lw_tbl := t_in_2 (List.mem_of_getElem? (i := 13) rfl)
theorem fX10_83 : FL RX10 83 6 5 2 false .int := ⟨RX6, TX6, tyX6, kc_X6, by decide, rfl, rfl, Or.inr ⟨_, q_408⟩⟩
theorem q_1126 : Cond.methodLink RX10 86 yX10_refuse ∈ gw := gw_in (t_in_5 (List.mem_of_getElem? (i := 11) rfl)) rfl
theorem q_1128 : Cond.instanceMethod yX10_refuse ∈ gw := gw_in (t_in_5 (List.mem_of_getElem? (i := 13) rfl)) rfl
theorem q_52 : Cond.selects RX10 yX10_refuse yX10_refuse ∈ gw := gw_in (lw_i (p_in_4 (List.mem_of_getElem? (i := 4) rfl))) rfl
theorem lX10_86 : LKV RX10 86 mX10_refuse 10 2 := ⟨cdX10_refuse, by decide, by decide +kernel, q_1128, q_52, Or.inl q_1126, _, _, _, kc_X10⟩
theorem q_722 : Cond.methodLinkNest RX10 95 yX6_take RX10 ∈ lw_tbl := t_in_3 (List.mem_of_getElem? (i := 87) rfl)
theorem q_724 : Cond.instanceMethod yX6_take ∈ gw := gw_in (t_in_3 (List.mem_of_getElem? (i := 89) rfl)) rfl
theorem q_45 : Cond.selects RX6 yX6_take yX6_take ∈ gw := gw_in (lw_i (p_in_3 (List.mem_of_getElem? (i := 13) rfl))) rfl
theorem lX10_95 : LKV RX10 95 mX6_take 6 1 := ⟨cdX6_take, by decide, by decide +kernel, q_724, q_45, Or.inr ⟨_, q_722⟩, _, _, _, kc_X6⟩
theorem q_1165 : Cond.methodLinkNest RX10 99 yX8_read RX10 ∈ lw_tbl := t_in_5 (List.mem_of_getElem? (i := 50) rfl)
theorem q_1167 : Cond.instanceMethod yX8_read ∈ gw := gw_in (t_in_5 (List.mem_of_getElem? (i := 52) rfl)) rfl
theorem q_53 : Cond.selects RX8 yX8_read yX8_read ∈ gw := gw_in (lw_i (p_in_4 (List.mem_of_getElem? (i := 5) rfl))) rfl
theorem lX10_99 : LKV RX10 99 mX8_read 8 1 := ⟨cdX8_read, by decide, by decide +kernel, q_1167, q_53, Or.inr ⟨_, q_1165⟩, _, _, _, kc_X8⟩
theorem q_1217 : Cond.methodLinkNest RX10 103 yX6_give RX10 ∈ lw_tbl := t_in_5 (List.mem_of_getElem? (i := 102) rfl)
theorem q_1219 : Cond.instanceMethod yX6_give ∈ gw := gw_in (t_in_5 (List.mem_of_getElem? (i := 104) rfl)) rfl
theorem q_58 : Cond.selects RX6 yX6_give yX6_give ∈ gw := gw_in (lw_i (p_in_4 (List.mem_of_getElem? (i := 10) rfl))) rfl
theorem lX10_103 : LKV RX10 103 mX6_give 6 1 := ⟨cdX6_give, by decide, by decide +kernel, q_1219, q_58, Or.inr ⟨_, q_1217⟩, _, _, _, kc_X6⟩
theorem q_1221 : Cond.methodLinkNest RX10 107 yX1_push RX10 ∈ lw_tbl := t_in_5 (List.mem_of_getElem? (i := 106) rfl)
theorem q_1223 : Cond.instanceMethod yX1_push ∈ gw := gw_in (t_in_5 (List.mem_of_getElem? (i := 108) rfl)) rfl
theorem q_59 : Cond.selects RX1 yX1_push yX1_push ∈ gw := gw_in (lw_i (p_in_4 (List.mem_of_getElem? (i := 11) rfl))) rfl
theorem lX10_107 : LKV RX10 107 mX1_push 2 1 := ⟨cdX1_push, by decide, by decide +kernel, q_1223, q_59, Or.inr ⟨_, q_1221⟩, _, _, _, kc_X1⟩
theorem q_1242 : Cond.methodLink RX10 110 yX10_dropLesson ∈ gw := gw_in (t_in_5 (List.mem_of_getElem? (i := 127) rfl)) rfl
theorem q_1244 : Cond.instanceMethod yX10_dropLesson ∈ gw := gw_in (t_in_5 (List.mem_of_getElem? (i := 129) rfl)) rfl
theorem q_61 : Cond.selects RX10 yX10_dropLesson yX10_dropLesson ∈ gw := gw_in (lw_i (p_in_4 (List.mem_of_getElem? (i := 13) rfl))) rfl
theorem lX10_110 : LKV RX10 110 mX10_dropLesson 10 1 := ⟨cdX10_dropLesson, by decide, by decide +kernel, q_1244, q_61, Or.inl q_1242, _, _, _, kc_X10⟩
theorem q_1259 : Cond.methodLink RX10 116 yX10_keepType ∈ gw := gw_in (t_in_5 (List.mem_of_getElem? (i := 144) rfl)) rfl
theorem q_1261 : Cond.instanceMethod yX10_keepType ∈ gw := gw_in (t_in_5 (List.mem_of_getElem? (i := 146) rfl)) rfl
theorem q_63 : Cond.selects RX10 yX10_keepType yX10_keepType ∈ gw := gw_in (lw_i (p_in_4 (List.mem_of_getElem? (i := 15) rfl))) rfl
theorem lX10_116 : LKV RX10 116 mX10_keepType 10 2 := ⟨cdX10_keepType, by decide, by decide +kernel, q_1261, q_63, Or.inl q_1259, _, _, _, kc_X10⟩
theorem q_1306 : Cond.methodLink RX10 121 yX10_unkeepType ∈ gw := gw_in (t_in_5 (List.mem_of_getElem? (i := 191) rfl)) rfl
theorem q_1308 : Cond.instanceMethod yX10_unkeepType ∈ gw := gw_in (t_in_5 (List.mem_of_getElem? (i := 193) rfl)) rfl
theorem q_71 : Cond.selects RX10 yX10_unkeepType yX10_unkeepType ∈ gw := gw_in (lw_i (p_in_5 (List.mem_of_getElem? (i := 7) rfl))) rfl
theorem lX10_121 : LKV RX10 121 mX10_unkeepType 10 1 := ⟨cdX10_unkeepType, by decide, by decide +kernel, q_1308, q_71, Or.inl q_1306, _, _, _, kc_X10⟩
theorem q_1326 : Cond.methodLink RX10 126 yX10_termOf ∈ gw := gw_in (t_in_5 (List.mem_of_getElem? (i := 211) rfl)) rfl
theorem q_1328 : Cond.instanceMethod yX10_termOf ∈ gw := gw_in (t_in_5 (List.mem_of_getElem? (i := 213) rfl)) rfl
theorem q_73 : Cond.selects RX10 yX10_termOf yX10_termOf ∈ gw := gw_in (lw_i (p_in_5 (List.mem_of_getElem? (i := 9) rfl))) rfl
theorem lX10_126 : LKV RX10 126 mX10_termOf 10 1 := ⟨cdX10_termOf, by decide, by decide +kernel, q_1328, q_73, Or.inl q_1326, _, _, _, kc_X10⟩
theorem q_1179 : Cond.fieldLinkNest RX10 130 "TypeTutor$Term" "count" "I" RX10 ∈ lw_tbl := t_in_5 (List.mem_of_getElem? (i := 64) rfl)
theorem fX10_130 : FL RX10 130 7 2 1 false .int := ⟨RX7, TX7, tyX7, kc_X7, by decide, rfl, rfl, Or.inr ⟨_, q_1179⟩⟩
theorem q_1350 : Cond.methodLink RX10 133 yX10_termWith ∈ gw := gw_in (t_in_5 (List.mem_of_getElem? (i := 235) rfl)) rfl
theorem q_1352 : Cond.instanceMethod yX10_termWith ∈ gw := gw_in (t_in_5 (List.mem_of_getElem? (i := 237) rfl)) rfl
theorem q_74 : Cond.selects RX10 yX10_termWith yX10_termWith ∈ gw := gw_in (lw_i (p_in_5 (List.mem_of_getElem? (i := 10) rfl))) rfl
theorem lX10_133 : LKV RX10 133 mX10_termWith 10 2 := ⟨cdX10_termWith, by decide, by decide +kernel, q_1352, q_74, Or.inl q_1350, _, _, _, kc_X10⟩
theorem q_1357 : Cond.methodLinkNest RX10 139 yX7_of RX10 ∈ lw_tbl := t_in_6 (List.mem_of_getElem? (i := 2) rfl)
theorem q_604 : Cond.instanceMethod yX7_of ∈ gw := gw_in (t_in_2 (List.mem_of_getElem? (i := 209) rfl)) rfl
theorem q_22 : Cond.selects RX7 yX7_of yX7_of ∈ gw := gw_in (lw_i (p_in_2 (List.mem_of_getElem? (i := 6) rfl))) rfl
theorem lX10_139 : LKV RX10 139 mX7_of 7 2 := ⟨cdX7_of, by decide, by decide +kernel, q_604, q_22, Or.inr ⟨_, q_1357⟩, _, _, _, kc_X7⟩
theorem q_1398 : Cond.methodLinkNest RX10 151 yX7_namesBoundBy RX10 ∈ lw_tbl := t_in_6 (List.mem_of_getElem? (i := 43) rfl)
theorem q_1400 : Cond.instanceMethod yX7_namesBoundBy ∈ gw := gw_in (t_in_6 (List.mem_of_getElem? (i := 45) rfl)) rfl
theorem q_75 : Cond.selects RX7 yX7_namesBoundBy yX7_namesBoundBy ∈ gw := gw_in (lw_i (p_in_5 (List.mem_of_getElem? (i := 11) rfl))) rfl
theorem lX10_151 : LKV RX10 151 mX7_namesBoundBy 7 1 := ⟨cdX7_namesBoundBy, by decide, by decide +kernel, q_1400, q_75, Or.inr ⟨_, q_1398⟩, _, _, _, kc_X7⟩
theorem q_496 : Cond.methodLinkNest RX10 154 yX0_goThrough RX10 ∈ lw_tbl := t_in_2 (List.mem_of_getElem? (i := 101) rfl)
theorem q_498 : Cond.instanceMethod yX0_goThrough ∈ gw := gw_in (t_in_2 (List.mem_of_getElem? (i := 103) rfl)) rfl
theorem q_2 : Cond.selects RX0 yX0_goThrough yX0_goThrough ∈ gw := gw_in (lw_i (p_in_1 (List.mem_of_getElem? (i := 2) rfl))) rfl
theorem lX10_154 : LKV RX10 154 mX0_goThrough 1 3 := ⟨cdX0_goThrough, by decide, by decide +kernel, q_498, q_2, Or.inr ⟨_, q_496⟩, _, _, _, kc_X0⟩
theorem q_346 : Cond.fieldLinkNest RX10 162 "TypeTutor$Finder" "reasonFound" "I" RX10 ∈ lw_tbl := t_in_1 (List.mem_of_getElem? (i := 191) rfl)
theorem fX10_162 : FL RX10 162 1 14 10 false .int := ⟨RX0, TX0, tyX0, kc_X0, by decide, rfl, rfl, Or.inr ⟨_, q_346⟩⟩
theorem q_348 : Cond.fieldLinkNest RX10 165 "TypeTutor$Finder" "where" "I" RX10 ∈ lw_tbl := t_in_1 (List.mem_of_getElem? (i := 193) rfl)
theorem fX10_165 : FL RX10 165 1 14 11 false .int := ⟨RX0, TX0, tyX0, kc_X0, by decide, rfl, rfl, Or.inr ⟨_, q_348⟩⟩
theorem q_350 : Cond.fieldLinkNest RX10 168 "TypeTutor$Finder" "partOne" "I" RX10 ∈ lw_tbl := t_in_1 (List.mem_of_getElem? (i := 195) rfl)
theorem fX10_168 : FL RX10 168 1 14 12 false .int := ⟨RX0, TX0, tyX0, kc_X0, by decide, rfl, rfl, Or.inr ⟨_, q_350⟩⟩
theorem q_352 : Cond.fieldLinkNest RX10 171 "TypeTutor$Finder" "partTwo" "I" RX10 ∈ lw_tbl := t_in_1 (List.mem_of_getElem? (i := 197) rfl)
theorem fX10_171 : FL RX10 171 1 14 13 false .int := ⟨RX0, TX0, tyX0, kc_X0, by decide, rfl, rfl, Or.inr ⟨_, q_352⟩⟩
theorem q_1433 : Cond.methodLink RX10 174 yX10_needMeasure ∈ gw := gw_in (t_in_6 (List.mem_of_getElem? (i := 78) rfl)) rfl
theorem q_1434 : Cond.static yX10_needMeasure ∈ gw := gw_in (t_in_6 (List.mem_of_getElem? (i := 79) rfl)) rfl
theorem lX10_174 : LKS RX10 174 mX10_needMeasure 1 := ⟨cdX10_needMeasure, by decide, by decide +kernel, q_1434, Or.inl q_1433⟩
theorem q_1437 : Cond.methodLink RX10 177 yX10_needType ∈ gw := gw_in (t_in_6 (List.mem_of_getElem? (i := 82) rfl)) rfl
theorem q_1439 : Cond.instanceMethod yX10_needType ∈ gw := gw_in (t_in_6 (List.mem_of_getElem? (i := 84) rfl)) rfl
theorem q_76 : Cond.selects RX10 yX10_needType yX10_needType ∈ gw := gw_in (lw_i (p_in_5 (List.mem_of_getElem? (i := 12) rfl))) rfl
theorem lX10_177 : LKV RX10 177 mX10_needType 10 2 := ⟨cdX10_needType, by decide, by decide +kernel, q_1439, q_76, Or.inl q_1437, _, _, _, kc_X10⟩
theorem q_1277 : Cond.methodLinkNest RX10 181 yX5_measure RX10 ∈ lw_tbl := t_in_5 (List.mem_of_getElem? (i := 162) rfl)
theorem q_1279 : Cond.instanceMethod yX5_measure ∈ gw := gw_in (t_in_5 (List.mem_of_getElem? (i := 164) rfl)) rfl
theorem q_66 : Cond.selects RX5 yX5_measure yX5_measure ∈ gw := gw_in (lw_i (p_in_5 (List.mem_of_getElem? (i := 2) rfl))) rfl
theorem lX10_181 : LKV RX10 181 mX5_measure 5 1 := ⟨cdX5_measure, by decide, by decide +kernel, q_1279, q_66, Or.inr ⟨_, q_1277⟩, _, _, _, kc_X5⟩
theorem q_705 : Cond.methodLinkNest RX10 189 yX0_spellWhole RX10 ∈ lw_tbl := t_in_3 (List.mem_of_getElem? (i := 70) rfl)
theorem q_707 : Cond.instanceMethod yX0_spellWhole ∈ gw := gw_in (t_in_3 (List.mem_of_getElem? (i := 72) rfl)) rfl
theorem q_43 : Cond.selects RX0 yX0_spellWhole yX0_spellWhole ∈ gw := gw_in (lw_i (p_in_3 (List.mem_of_getElem? (i := 11) rfl))) rfl
theorem lX10_189 : LKV RX10 189 mX0_spellWhole 1 1 := ⟨cdX0_spellWhole, by decide, by decide +kernel, q_707, q_43, Or.inr ⟨_, q_705⟩, _, _, _, kc_X0⟩
theorem q_1472 : Cond.methodLinkNest RX10 193 yX0_spellNode RX10 ∈ lw_tbl := t_in_6 (List.mem_of_getElem? (i := 117) rfl)
theorem q_1474 : Cond.instanceMethod yX0_spellNode ∈ gw := gw_in (t_in_6 (List.mem_of_getElem? (i := 119) rfl)) rfl
theorem q_77 : Cond.selects RX0 yX0_spellNode yX0_spellNode ∈ gw := gw_in (lw_i (p_in_5 (List.mem_of_getElem? (i := 13) rfl))) rfl
theorem lX10_193 : LKV RX10 193 mX0_spellNode 1 2 := ⟨cdX0_spellNode, by decide, by decide +kernel, q_1474, q_77, Or.inr ⟨_, q_1472⟩, _, _, _, kc_X0⟩
theorem q_709 : Cond.methodLinkNest RX10 197 yX5_isSame RX10 ∈ lw_tbl := t_in_3 (List.mem_of_getElem? (i := 74) rfl)
theorem q_711 : Cond.instanceMethod yX5_isSame ∈ gw := gw_in (t_in_3 (List.mem_of_getElem? (i := 76) rfl)) rfl
theorem q_44 : Cond.selects RX5 yX5_isSame yX5_isSame ∈ gw := gw_in (lw_i (p_in_3 (List.mem_of_getElem? (i := 12) rfl))) rfl
theorem lX10_197 : LKV RX10 197 mX5_isSame 5 1 := ⟨cdX5_isSame, by decide, by decide +kernel, q_711, q_44, Or.inr ⟨_, q_709⟩, _, _, _, kc_X5⟩
theorem q_1490 : Cond.methodLinkNest RX10 201 yX5_becomes RX10 ∈ lw_tbl := t_in_6 (List.mem_of_getElem? (i := 135) rfl)
theorem q_1492 : Cond.instanceMethod yX5_becomes ∈ gw := gw_in (t_in_6 (List.mem_of_getElem? (i := 137) rfl)) rfl
theorem q_78 : Cond.selects RX5 yX5_becomes yX5_becomes ∈ gw := gw_in (lw_i (p_in_5 (List.mem_of_getElem? (i := 14) rfl))) rfl
theorem lX10_201 : LKV RX10 201 mX5_becomes 5 1 := ⟨cdX5_becomes, by decide, by decide +kernel, q_1492, q_78, Or.inr ⟨_, q_1490⟩, _, _, _, kc_X5⟩
theorem q_1510 : Cond.methodLinkNest RX10 204 yX0_sizeApplied RX10 ∈ lw_tbl := t_in_6 (List.mem_of_getElem? (i := 155) rfl)
theorem q_1512 : Cond.instanceMethod yX0_sizeApplied ∈ gw := gw_in (t_in_6 (List.mem_of_getElem? (i := 157) rfl)) rfl
theorem q_81 : Cond.selects RX0 yX0_sizeApplied yX0_sizeApplied ∈ gw := gw_in (lw_i (p_in_6 (List.mem_of_getElem? (i := 1) rfl))) rfl
theorem lX10_204 : LKV RX10 204 mX0_sizeApplied 1 2 := ⟨cdX0_sizeApplied, by decide, by decide +kernel, q_1512, q_81, Or.inr ⟨_, q_1510⟩, _, _, _, kc_X0⟩
theorem q_488 : Cond.methodLinkNest RX10 210 yX6_termAt RX10 ∈ lw_tbl := t_in_2 (List.mem_of_getElem? (i := 93) rfl)
theorem q_490 : Cond.instanceMethod yX6_termAt ∈ gw := gw_in (t_in_2 (List.mem_of_getElem? (i := 95) rfl)) rfl
theorem q_0 : Cond.selects RX6 yX6_termAt yX6_termAt ∈ gw := gw_in (lw_i (p_in_1 (List.mem_of_getElem? (i := 0) rfl))) rfl
theorem lX10_210 : LKV RX10 210 mX6_termAt 6 1 := ⟨cdX6_termAt, by decide, by decide +kernel, q_490, q_0, Or.inr ⟨_, q_488⟩, _, _, _, kc_X6⟩
theorem q_492 : Cond.methodLink RX10 213 yX10_spells ∈ gw := gw_in (t_in_2 (List.mem_of_getElem? (i := 97) rfl)) rfl
theorem q_494 : Cond.instanceMethod yX10_spells ∈ gw := gw_in (t_in_2 (List.mem_of_getElem? (i := 99) rfl)) rfl
theorem q_1 : Cond.selects RX10 yX10_spells yX10_spells ∈ gw := gw_in (lw_i (p_in_1 (List.mem_of_getElem? (i := 1) rfl))) rfl
theorem lX10_213 : LKV RX10 213 mX10_spells 10 2 := ⟨cdX10_spells, by decide, by decide +kernel, q_494, q_1, Or.inl q_492, _, _, _, kc_X10⟩
theorem q_1529 : Cond.methodLink RX10 217 yX10_needCapital ∈ gw := gw_in (t_in_6 (List.mem_of_getElem? (i := 174) rfl)) rfl
theorem q_1530 : Cond.static yX10_needCapital ∈ gw := gw_in (t_in_6 (List.mem_of_getElem? (i := 175) rfl)) rfl
theorem lX10_217 : LKS RX10 217 mX10_needCapital 1 := ⟨cdX10_needCapital, by decide, by decide +kernel, q_1530, Or.inl q_1529⟩
theorem q_1310 : Cond.methodLinkNest RX10 220 yX6_keptAt RX10 ∈ lw_tbl := t_in_5 (List.mem_of_getElem? (i := 195) rfl)
theorem q_645 : Cond.instanceMethod yX6_keptAt ∈ gw := gw_in (t_in_3 (List.mem_of_getElem? (i := 10) rfl)) rfl
theorem q_30 : Cond.selects RX6 yX6_keptAt yX6_keptAt ∈ gw := gw_in (lw_i (p_in_2 (List.mem_of_getElem? (i := 14) rfl))) rfl
theorem lX10_220 : LKV RX10 220 mX6_keptAt 6 1 := ⟨cdX6_keptAt, by decide, by decide +kernel, q_645, q_30, Or.inr ⟨_, q_1310⟩, _, _, _, kc_X6⟩
theorem q_391 : Cond.fieldLinkNest RX10 224 "TypeTutor$Shape" "length" "I" RX10 ∈ lw_tbl := t_in_1 (List.mem_of_getElem? (i := 236) rfl)
theorem fX10_224 : FL RX10 224 5 2 1 false .int := ⟨RX5, TX5, tyX5, kc_X5, by decide, rfl, rfl, Or.inr ⟨_, q_391⟩⟩
theorem q_1548 : Cond.methodLinkNest RX10 229 yX6_placeOf RX10 ∈ lw_tbl := t_in_6 (List.mem_of_getElem? (i := 193) rfl)
theorem q_1550 : Cond.instanceMethod yX6_placeOf ∈ gw := gw_in (t_in_6 (List.mem_of_getElem? (i := 195) rfl)) rfl
theorem q_82 : Cond.selects RX6 yX6_placeOf yX6_placeOf ∈ gw := gw_in (lw_i (p_in_6 (List.mem_of_getElem? (i := 2) rfl))) rfl
theorem lX10_229 : LKV RX10 229 mX6_placeOf 6 1 := ⟨cdX6_placeOf, by decide, by decide +kernel, q_1550, q_82, Or.inr ⟨_, q_1548⟩, _, _, _, kc_X6⟩
theorem q_1590 : Cond.methodLinkNest RX10 245 yX2_faultIn RX10 ∈ lw_tbl := t_in_6 (List.mem_of_getElem? (i := 235) rfl)
theorem q_1591 : Cond.static yX2_faultIn ∈ gw := gw_in (t_in_6 (List.mem_of_getElem? (i := 236) rfl)) rfl
theorem lX10_245 : LKS RX10 245 mX2_faultIn 1 := ⟨cdX2_faultIn, by decide, by decide +kernel, q_1591, Or.inr ⟨_, q_1590⟩⟩
theorem q_1601 : Cond.methodLink RX10 250 yX10_signAt ∈ gw := gw_in (t_in_7 (List.mem_of_getElem? (i := 6) rfl)) rfl
theorem q_1205 : Cond.static yX10_signAt ∈ gw := gw_in (t_in_5 (List.mem_of_getElem? (i := 90) rfl)) rfl
theorem lX10_250 : LKS RX10 250 mX10_signAt 2 := ⟨cdX10_signAt, by decide, by decide +kernel, q_1205, Or.inl q_1601⟩
theorem q_1602 : Cond.methodLinkNest RX10 254 yX2_lengthOf RX10 ∈ lw_tbl := t_in_7 (List.mem_of_getElem? (i := 7) rfl)
theorem q_1603 : Cond.static yX2_lengthOf ∈ gw := gw_in (t_in_7 (List.mem_of_getElem? (i := 8) rfl)) rfl
theorem lX10_254 : LKS RX10 254 mX2_lengthOf 1 := ⟨cdX2_lengthOf, by decide, by decide +kernel, q_1603, Or.inr ⟨_, q_1602⟩⟩
theorem q_1130 : Cond.classLink RX10 258 RX4 ∈ gw := gw_in (t_in_5 (List.mem_of_getElem? (i := 15) rfl)) rfl
theorem q_1131 : Cond.instantiable RX4 3 ∈ gw := gw_in (t_in_5 (List.mem_of_getElem? (i := 16) rfl)) rfl
theorem nX10_258 : NL RX10 258 4 3 := ⟨RX4, TX4, tyX4, kc_X4, q_1130, q_1131, q_184⟩
theorem q_456 : Cond.fieldLink RX10 260 "TypeTutor" "refusal" "LTypeTutor$Refusal;" ∈ gw := gw_in (t_in_2 (List.mem_of_getElem? (i := 61) rfl)) rfl
theorem fX10_260 : FL RX10 260 10 13 12 false (.object "TypeTutor$Refusal") := ⟨RX10, TX10, tyX10, kc_X10, by decide, rfl, rfl, Or.inl q_456⟩
theorem q_1132 : Cond.methodLinkNest RX10 264 yX4_init RX10 ∈ lw_tbl := t_in_5 (List.mem_of_getElem? (i := 17) rfl)
theorem q_1133 : Cond.instanceMethod yX4_init ∈ gw := gw_in (t_in_5 (List.mem_of_getElem? (i := 18) rfl)) rfl
theorem lX10_264 : LKI RX10 264 mX4_init 3 := ⟨cdX4_init, by decide, by decide +kernel, q_1133, rfl, rfl, Or.inr ⟨_, q_1132⟩⟩
theorem q_1141 : Cond.fieldLinkNest RX10 271 "TypeTutor$Refusal" "cause" "LTypeTutor$Refusal;" RX10 ∈ lw_tbl := t_in_5 (List.mem_of_getElem? (i := 26) rfl)
theorem fX10_271 : FL RX10 271 4 3 2 true (.object "TypeTutor$Refusal") := ⟨RX4, TX4, tyX4, kc_X4, by decide, rfl, rfl, Or.inr ⟨_, q_1141⟩⟩
theorem q_1139 : Cond.fieldLinkNest RX10 276 "TypeTutor$Refusal" "detail" "I" RX10 ∈ lw_tbl := t_in_5 (List.mem_of_getElem? (i := 24) rfl)
theorem fX10_276 : FL RX10 276 4 3 1 true .int := ⟨RX4, TX4, tyX4, kc_X4, by decide, rfl, rfl, Or.inr ⟨_, q_1139⟩⟩
theorem q_1137 : Cond.fieldLinkNest RX10 279 "TypeTutor$Refusal" "number" "I" RX10 ∈ lw_tbl := t_in_5 (List.mem_of_getElem? (i := 22) rfl)
theorem fX10_279 : FL RX10 279 4 3 0 true .int := ⟨RX4, TX4, tyX4, kc_X4, by decide, rfl, rfl, Or.inr ⟨_, q_1137⟩⟩
theorem q_1622 : Cond.methodLink RX10 282 yX10_writeLine ∈ gw := gw_in (t_in_7 (List.mem_of_getElem? (i := 27) rfl)) rfl
theorem q_1624 : Cond.instanceMethod yX10_writeLine ∈ gw := gw_in (t_in_7 (List.mem_of_getElem? (i := 29) rfl)) rfl
theorem q_84 : Cond.selects RX10 yX10_writeLine yX10_writeLine ∈ gw := gw_in (lw_i (p_in_6 (List.mem_of_getElem? (i := 4) rfl))) rfl
theorem lX10_282 : LKV RX10 282 mX10_writeLine 10 1 := ⟨cdX10_writeLine, by decide, by decide +kernel, q_1624, q_84, Or.inl q_1622, _, _, _, kc_X10⟩
theorem q_1658 : Cond.methodLinkNest RX10 288 yX7_write RX10 ∈ lw_tbl := t_in_7 (List.mem_of_getElem? (i := 63) rfl)
theorem q_1660 : Cond.instanceMethod yX7_write ∈ gw := gw_in (t_in_7 (List.mem_of_getElem? (i := 65) rfl)) rfl
theorem q_86 : Cond.selects RX7 yX7_write yX7_write ∈ gw := gw_in (lw_i (p_in_6 (List.mem_of_getElem? (i := 6) rfl))) rfl
theorem lX10_288 : LKV RX10 288 mX7_write 7 1 := ⟨cdX7_write, by decide, by decide +kernel, q_1660, q_86, Or.inr ⟨_, q_1658⟩, _, _, _, kc_X7⟩
theorem q_1686 : Cond.methodLink RX10 301 yX10_lessonsFailing ∈ gw := gw_in (t_in_7 (List.mem_of_getElem? (i := 91) rfl)) rfl
theorem q_1688 : Cond.instanceMethod yX10_lessonsFailing ∈ gw := gw_in (t_in_7 (List.mem_of_getElem? (i := 93) rfl)) rfl
theorem q_89 : Cond.selects RX10 yX10_lessonsFailing yX10_lessonsFailing ∈ gw := gw_in (lw_i (p_in_6 (List.mem_of_getElem? (i := 9) rfl))) rfl
theorem lX10_301 : LKV RX10 301 mX10_lessonsFailing 10 1 := ⟨cdX10_lessonsFailing, by decide, by decide +kernel, q_1688, q_89, Or.inl q_1686, _, _, _, kc_X10⟩
theorem q_1690 : Cond.methodLinkNest RX10 304 yX6_allNodes RX10 ∈ lw_tbl := t_in_7 (List.mem_of_getElem? (i := 95) rfl)
theorem q_1692 : Cond.instanceMethod yX6_allNodes ∈ gw := gw_in (t_in_7 (List.mem_of_getElem? (i := 97) rfl)) rfl
theorem q_90 : Cond.selects RX6 yX6_allNodes yX6_allNodes ∈ gw := gw_in (lw_i (p_in_6 (List.mem_of_getElem? (i := 10) rfl))) rfl
theorem lX10_304 : LKV RX10 304 mX6_allNodes 6 0 := ⟨cdX6_allNodes, by decide, by decide +kernel, q_1692, q_90, Or.inr ⟨_, q_1690⟩, _, _, _, kc_X6⟩
theorem q_1694 : Cond.methodLinkNest RX10 307 yX6_capitalsKeeping RX10 ∈ lw_tbl := t_in_7 (List.mem_of_getElem? (i := 99) rfl)
theorem q_1696 : Cond.instanceMethod yX6_capitalsKeeping ∈ gw := gw_in (t_in_7 (List.mem_of_getElem? (i := 101) rfl)) rfl
theorem q_91 : Cond.selects RX6 yX6_capitalsKeeping yX6_capitalsKeeping ∈ gw := gw_in (lw_i (p_in_6 (List.mem_of_getElem? (i := 11) rfl))) rfl
theorem lX10_307 : LKV RX10 307 mX6_capitalsKeeping 6 0 := ⟨cdX6_capitalsKeeping, by decide, by decide +kernel, q_1696, q_91, Or.inr ⟨_, q_1694⟩, _, _, _, kc_X6⟩
theorem q_411 : Cond.fieldLinkNest RX10 310 "TypeTutor$State" "given" "I" RX10 ∈ lw_tbl := t_in_2 (List.mem_of_getElem? (i := 16) rfl)
theorem fX10_310 : FL RX10 310 6 5 3 false .int := ⟨RX6, TX6, tyX6, kc_X6, by decide, rfl, rfl, Or.inr ⟨_, q_411⟩⟩
theorem q_413 : Cond.fieldLinkNest RX10 313 "TypeTutor$State" "everKept" "I" RX10 ∈ lw_tbl := t_in_2 (List.mem_of_getElem? (i := 18) rfl)
theorem fX10_313 : FL RX10 313 6 5 4 false .int := ⟨RX6, TX6, tyX6, kc_X6, by decide, rfl, rfl, Or.inr ⟨_, q_413⟩⟩
theorem q_1698 : Cond.methodLink RX10 316 yX10_lessonsWithoutVariables ∈ gw := gw_in (t_in_7 (List.mem_of_getElem? (i := 103) rfl)) rfl
theorem q_1700 : Cond.instanceMethod yX10_lessonsWithoutVariables ∈ gw := gw_in (t_in_7 (List.mem_of_getElem? (i := 105) rfl)) rfl
theorem q_92 : Cond.selects RX10 yX10_lessonsWithoutVariables yX10_lessonsWithoutVariables ∈ gw := gw_in (lw_i (p_in_6 (List.mem_of_getElem? (i := 12) rfl))) rfl
theorem lX10_316 : LKV RX10 316 mX10_lessonsWithoutVariables 10 0 := ⟨cdX10_lessonsWithoutVariables, by decide, by decide +kernel, q_1700, q_92, Or.inl q_1698, _, _, _, kc_X10⟩
theorem q_436 : Cond.fieldLinkNest RX10 319 "TypeTutor$History" "count" "I" RX10 ∈ lw_tbl := t_in_2 (List.mem_of_getElem? (i := 41) rfl)
theorem fX10_319 : FL RX10 319 2 3 2 false .int := ⟨RX1, TX1, tyX1, kc_X1, by decide, rfl, rfl, Or.inr ⟨_, q_436⟩⟩
theorem q_1742 : Cond.methodLinkNest RX10 329 yX1_pop RX10 ∈ lw_tbl := t_in_7 (List.mem_of_getElem? (i := 147) rfl)
theorem q_1744 : Cond.instanceMethod yX1_pop ∈ gw := gw_in (t_in_7 (List.mem_of_getElem? (i := 149) rfl)) rfl
theorem q_93 : Cond.selects RX1 yX1_pop yX1_pop ∈ gw := gw_in (lw_i (p_in_6 (List.mem_of_getElem? (i := 13) rfl))) rfl
theorem lX10_329 : LKV RX10 329 mX1_pop 2 1 := ⟨cdX1_pop, by decide, by decide +kernel, q_1744, q_93, Or.inr ⟨_, q_1742⟩, _, _, _, kc_X1⟩
theorem q_454 : Cond.fieldLink RX10 332 "TypeTutor" "isSaved" "Z" ∈ gw := gw_in (t_in_2 (List.mem_of_getElem? (i := 59) rfl)) rfl
theorem fX10_332 : FL RX10 332 10 13 10 false .boolean := ⟨RX10, TX10, tyX10, kc_X10, by decide, rfl, rfl, Or.inl q_454⟩
theorem q_1755 : Cond.methodLinkNest RX10 338 yX1_clear RX10 ∈ lw_tbl := t_in_7 (List.mem_of_getElem? (i := 160) rfl)
theorem q_1757 : Cond.instanceMethod yX1_clear ∈ gw := gw_in (t_in_7 (List.mem_of_getElem? (i := 162) rfl)) rfl
theorem q_94 : Cond.selects RX1 yX1_clear yX1_clear ∈ gw := gw_in (lw_i (p_in_6 (List.mem_of_getElem? (i := 14) rfl))) rfl
theorem lX10_338 : LKV RX10 338 mX1_clear 2 0 := ⟨cdX1_clear, by decide, by decide +kernel, q_1757, q_94, Or.inr ⟨_, q_1755⟩, _, _, _, kc_X1⟩
theorem q_1246 : Cond.methodLinkNest RX10 341 yX6_remove RX10 ∈ lw_tbl := t_in_5 (List.mem_of_getElem? (i := 131) rfl)
theorem q_1248 : Cond.instanceMethod yX6_remove ∈ gw := gw_in (t_in_5 (List.mem_of_getElem? (i := 133) rfl)) rfl
theorem q_62 : Cond.selects RX6 yX6_remove yX6_remove ∈ gw := gw_in (lw_i (p_in_4 (List.mem_of_getElem? (i := 14) rfl))) rfl
theorem lX10_341 : LKV RX10 341 mX6_remove 6 1 := ⟨cdX6_remove, by decide, by decide +kernel, q_1248, q_62, Or.inr ⟨_, q_1246⟩, _, _, _, kc_X6⟩
theorem q_1263 : Cond.methodLink RX10 344 yX10_isCapital ∈ gw := gw_in (t_in_5 (List.mem_of_getElem? (i := 148) rfl)) rfl
theorem q_1264 : Cond.static yX10_isCapital ∈ gw := gw_in (t_in_5 (List.mem_of_getElem? (i := 149) rfl)) rfl
theorem lX10_344 : LKS RX10 344 mX10_isCapital 1 := ⟨cdX10_isCapital, by decide, by decide +kernel, q_1264, Or.inl q_1263⟩
theorem q_1266 : Cond.methodLinkNest RX10 348 yX5_copy RX10 ∈ lw_tbl := t_in_5 (List.mem_of_getElem? (i := 151) rfl)
theorem q_1268 : Cond.instanceMethod yX5_copy ∈ gw := gw_in (t_in_5 (List.mem_of_getElem? (i := 153) rfl)) rfl
theorem q_64 : Cond.selects RX5 yX5_copy yX5_copy ∈ gw := gw_in (lw_i (p_in_5 (List.mem_of_getElem? (i := 0) rfl))) rfl
theorem lX10_348 : LKV RX10 348 mX5_copy 5 0 := ⟨cdX5_copy, by decide, by decide +kernel, q_1268, q_64, Or.inr ⟨_, q_1266⟩, _, _, _, kc_X5⟩
theorem q_1273 : Cond.methodLinkNest RX10 352 yX6_keepAt RX10 ∈ lw_tbl := t_in_5 (List.mem_of_getElem? (i := 158) rfl)
theorem q_1275 : Cond.instanceMethod yX6_keepAt ∈ gw := gw_in (t_in_5 (List.mem_of_getElem? (i := 160) rfl)) rfl
theorem q_65 : Cond.selects RX6 yX6_keepAt yX6_keepAt ∈ gw := gw_in (lw_i (p_in_5 (List.mem_of_getElem? (i := 1) rfl))) rfl
theorem lX10_352 : LKV RX10 352 mX6_keepAt 6 2 := ⟨cdX6_keepAt, by decide, by decide +kernel, q_1275, q_65, Or.inr ⟨_, q_1273⟩, _, _, _, kc_X6⟩
theorem q_1311 : Cond.methodLinkNest RX10 355 yX6_emptyAt RX10 ∈ lw_tbl := t_in_5 (List.mem_of_getElem? (i := 196) rfl)
theorem q_1313 : Cond.instanceMethod yX6_emptyAt ∈ gw := gw_in (t_in_5 (List.mem_of_getElem? (i := 198) rfl)) rfl
theorem q_72 : Cond.selects RX6 yX6_emptyAt yX6_emptyAt ∈ gw := gw_in (lw_i (p_in_5 (List.mem_of_getElem? (i := 8) rfl))) rfl
theorem lX10_355 : LKV RX10 355 mX6_emptyAt 6 1 := ⟨cdX6_emptyAt, by decide, by decide +kernel, q_1313, q_72, Or.inr ⟨_, q_1311⟩, _, _, _, kc_X6⟩
theorem q_1354 : Cond.methodLinkNest RX10 360 yX7_hasNode RX10 ∈ lw_tbl := t_in_5 (List.mem_of_getElem? (i := 239) rfl)
theorem q_609 : Cond.instanceMethod yX7_hasNode ∈ gw := gw_in (t_in_2 (List.mem_of_getElem? (i := 214) rfl)) rfl
theorem q_23 : Cond.selects RX7 yX7_hasNode yX7_hasNode ∈ gw := gw_in (lw_i (p_in_2 (List.mem_of_getElem? (i := 7) rfl))) rfl
theorem lX10_360 : LKV RX10 360 mX7_hasNode 7 1 := ⟨cdX7_hasNode, by decide, by decide +kernel, q_609, q_23, Or.inr ⟨_, q_1354⟩, _, _, _, kc_X7⟩
theorem q_1626 : Cond.methodLinkNest RX10 371 yX5_write RX10 ∈ lw_tbl := t_in_7 (List.mem_of_getElem? (i := 31) rfl)
theorem q_1628 : Cond.instanceMethod yX5_write ∈ gw := gw_in (t_in_7 (List.mem_of_getElem? (i := 33) rfl)) rfl
theorem q_85 : Cond.selects RX5 yX5_write yX5_write ∈ gw := gw_in (lw_i (p_in_6 (List.mem_of_getElem? (i := 5) rfl))) rfl
theorem lX10_371 : LKV RX10 371 mX5_write 5 1 := ⟨cdX5_write, by decide, by decide +kernel, q_1628, q_85, Or.inr ⟨_, q_1626⟩, _, _, _, kc_X5⟩
theorem q_258 : Cond.classLink RX0 9 RX9 ∈ gw := gw_in (t_in_1 (List.mem_of_getElem? (i := 103) rfl)) rfl
theorem q_259 : Cond.instantiable RX9 15 ∈ gw := gw_in (t_in_1 (List.mem_of_getElem? (i := 104) rfl)) rfl
theorem nX0_9 : NL RX0 9 9 15 := ⟨RX9, TX9, tyX9, kc_X9, q_258, q_259, q_163⟩
theorem q_260 : Cond.methodLinkNest RX0 11 yX9_init RX10 ∈ lw_tbl := t_in_1 (List.mem_of_getElem? (i := 105) rfl)
theorem q_261 : Cond.instanceMethod yX9_init ∈ gw := gw_in (t_in_1 (List.mem_of_getElem? (i := 106) rfl)) rfl
theorem lX0_11 : LKI RX0 11 mX9_init 0 := ⟨cdX9_init, by decide, by decide +kernel, q_261, rfl, rfl, Or.inr ⟨_, q_260⟩⟩
theorem q_335 : Cond.fieldLink RX0 12 "TypeTutor$Finder" "types" "LTypeTutor$Types;" ∈ gw := gw_in (t_in_1 (List.mem_of_getElem? (i := 180) rfl)) rfl
theorem fX0_12 : FL RX0 12 1 14 0 true (.object "TypeTutor$Types") := ⟨RX0, TX0, tyX0, kc_X0, by decide, rfl, rfl, Or.inl q_335⟩
theorem fX0_12F : FLF RX0 12 1 14 0 (.object "TypeTutor$Types") := ⟨RX0, TX0, tyX0, kc_X0, by decide, rfl, rfl, rfl, q_335⟩
theorem q_313 : Cond.classLink RX0 18 RX3 ∈ gw := gw_in (t_in_1 (List.mem_of_getElem? (i := 158) rfl)) rfl
theorem q_314 : Cond.instantiable RX3 4 ∈ gw := gw_in (t_in_1 (List.mem_of_getElem? (i := 159) rfl)) rfl
theorem nX0_18 : NL RX0 18 3 4 := ⟨RX3, TX3, tyX3, kc_X3, q_313, q_314, q_164⟩
theorem q_315 : Cond.methodLinkNest RX0 20 yX3_init RX10 ∈ lw_tbl := t_in_1 (List.mem_of_getElem? (i := 160) rfl)
theorem q_316 : Cond.instanceMethod yX3_init ∈ gw := gw_in (t_in_1 (List.mem_of_getElem? (i := 161) rfl)) rfl
theorem lX0_20 : LKI RX0 20 mX3_init 0 := ⟨cdX3_init, by decide, by decide +kernel, q_316, rfl, rfl, Or.inr ⟨_, q_315⟩⟩
theorem q_336 : Cond.fieldLink RX0 21 "TypeTutor$Finder" "path" "LTypeTutor$Path;" ∈ gw := gw_in (t_in_1 (List.mem_of_getElem? (i := 181) rfl)) rfl
theorem fX0_21 : FL RX0 21 1 14 1 true (.object "TypeTutor$Path") := ⟨RX0, TX0, tyX0, kc_X0, by decide, rfl, rfl, Or.inl q_336⟩
theorem fX0_21F : FLF RX0 21 1 14 1 (.object "TypeTutor$Path") := ⟨RX0, TX0, tyX0, kc_X0, by decide, rfl, rfl, rfl, q_336⟩
theorem q_337 : Cond.fieldLink RX0 25 "TypeTutor$Finder" "found" "[I" ∈ gw := gw_in (t_in_1 (List.mem_of_getElem? (i := 182) rfl)) rfl
theorem fX0_25 : FL RX0 25 1 14 2 true (.array .int) := ⟨RX0, TX0, tyX0, kc_X0, by decide, rfl, rfl, Or.inl q_337⟩
theorem fX0_25F : FLF RX0 25 1 14 2 (.array .int) := ⟨RX0, TX0, tyX0, kc_X0, by decide, rfl, rfl, rfl, q_337⟩
theorem q_338 : Cond.fieldLink RX0 29 "TypeTutor$Finder" "variableOf" "[I" ∈ gw := gw_in (t_in_1 (List.mem_of_getElem? (i := 183) rfl)) rfl
theorem fX0_29 : FL RX0 29 1 14 3 true (.array .int) := ⟨RX0, TX0, tyX0, kc_X0, by decide, rfl, rfl, Or.inl q_338⟩
theorem fX0_29F : FLF RX0 29 1 14 3 (.array .int) := ⟨RX0, TX0, tyX0, kc_X0, by decide, rfl, rfl, rfl, q_338⟩
theorem q_339 : Cond.fieldLink RX0 32 "TypeTutor$Finder" "schemeOf" "[I" ∈ gw := gw_in (t_in_1 (List.mem_of_getElem? (i := 184) rfl)) rfl
theorem fX0_32 : FL RX0 32 1 14 4 true (.array .int) := ⟨RX0, TX0, tyX0, kc_X0, by decide, rfl, rfl, Or.inl q_339⟩
theorem fX0_32F : FLF RX0 32 1 14 4 (.array .int) := ⟨RX0, TX0, tyX0, kc_X0, by decide, rfl, rfl, rfl, q_339⟩
theorem q_333 : Cond.classLink RX0 35 RX5 ∈ gw := gw_in (t_in_1 (List.mem_of_getElem? (i := 178) rfl)) rfl
theorem nX0_35 : NL RX0 35 5 2 := ⟨RX5, TX5, tyX5, kc_X5, q_333, q_383, q_165⟩
theorem q_340 : Cond.fieldLink RX0 37 "TypeTutor$Finder" "schemes" "[LTypeTutor$Shape;" ∈ gw := gw_in (t_in_1 (List.mem_of_getElem? (i := 185) rfl)) rfl
theorem fX0_37 : FL RX0 37 1 14 5 true (.array (.object "TypeTutor$Shape")) := ⟨RX0, TX0, tyX0, kc_X0, by decide, rfl, rfl, Or.inl q_340⟩
theorem fX0_37F : FLF RX0 37 1 14 5 (.array (.object "TypeTutor$Shape")) := ⟨RX0, TX0, tyX0, kc_X0, by decide, rfl, rfl, rfl, q_340⟩
theorem q_500 : Cond.methodLink RX0 41 yX0_begin ∈ gw := gw_in (t_in_2 (List.mem_of_getElem? (i := 105) rfl)) rfl
theorem q_502 : Cond.instanceMethod yX0_begin ∈ gw := gw_in (t_in_2 (List.mem_of_getElem? (i := 107) rfl)) rfl
theorem q_3 : Cond.selects RX0 yX0_begin yX0_begin ∈ gw := gw_in (lw_i (p_in_1 (List.mem_of_getElem? (i := 3) rfl))) rfl
theorem lX0_41 : LKV RX0 41 mX0_begin 1 1 := ⟨cdX0_begin, by decide, by decide +kernel, q_502, q_3, Or.inl q_500, _, _, _, kc_X0⟩
theorem q_537 : Cond.methodLink RX0 46 yX0_isGoing ∈ gw := gw_in (t_in_2 (List.mem_of_getElem? (i := 142) rfl)) rfl
theorem q_539 : Cond.instanceMethod yX0_isGoing ∈ gw := gw_in (t_in_2 (List.mem_of_getElem? (i := 144) rfl)) rfl
theorem q_7 : Cond.selects RX0 yX0_isGoing yX0_isGoing ∈ gw := gw_in (lw_i (p_in_1 (List.mem_of_getElem? (i := 7) rfl))) rfl
theorem lX0_46 : LKV RX0 46 mX0_isGoing 1 0 := ⟨cdX0_isGoing, by decide, by decide +kernel, q_539, q_7, Or.inl q_537, _, _, _, kc_X0⟩
theorem q_274 : Cond.fieldLinkNest RX0 50 "TypeTutor$Types" "pairs" "I" RX10 ∈ lw_tbl := t_in_1 (List.mem_of_getElem? (i := 119) rfl)
theorem fX0_50 : FL RX0 50 9 15 9 false .int := ⟨RX9, TX9, tyX9, kc_X9, by decide, rfl, rfl, Or.inr ⟨_, q_274⟩⟩
theorem q_541 : Cond.methodLinkNest RX0 54 yX9_matchNext RX10 ∈ lw_tbl := t_in_2 (List.mem_of_getElem? (i := 146) rfl)
theorem q_543 : Cond.instanceMethod yX9_matchNext ∈ gw := gw_in (t_in_2 (List.mem_of_getElem? (i := 148) rfl)) rfl
theorem q_8 : Cond.selects RX9 yX9_matchNext yX9_matchNext ∈ gw := gw_in (lw_i (p_in_1 (List.mem_of_getElem? (i := 8) rfl))) rfl
theorem lX0_54 : LKV RX0 54 mX9_matchNext 9 0 := ⟨cdX9_matchNext, by decide, by decide +kernel, q_543, q_8, Or.inr ⟨_, q_541⟩, _, _, _, kc_X9⟩
theorem q_581 : Cond.methodLink RX0 58 yX0_failFitting ∈ gw := gw_in (t_in_2 (List.mem_of_getElem? (i := 186) rfl)) rfl
theorem q_583 : Cond.instanceMethod yX0_failFitting ∈ gw := gw_in (t_in_2 (List.mem_of_getElem? (i := 188) rfl)) rfl
theorem q_17 : Cond.selects RX0 yX0_failFitting yX0_failFitting ∈ gw := gw_in (lw_i (p_in_2 (List.mem_of_getElem? (i := 1) rfl))) rfl
theorem lX0_58 : LKV RX0 58 mX0_failFitting 1 1 := ⟨cdX0_failFitting, by decide, by decide +kernel, q_583, q_17, Or.inl q_581, _, _, _, kc_X0⟩
theorem q_585 : Cond.methodLinkNest RX0 62 yX3_node RX10 ∈ lw_tbl := t_in_2 (List.mem_of_getElem? (i := 190) rfl)
theorem q_587 : Cond.instanceMethod yX3_node ∈ gw := gw_in (t_in_2 (List.mem_of_getElem? (i := 192) rfl)) rfl
theorem q_18 : Cond.selects RX3 yX3_node yX3_node ∈ gw := gw_in (lw_i (p_in_2 (List.mem_of_getElem? (i := 2) rfl))) rfl
theorem lX0_62 : LKV RX0 62 mX3_node 3 0 := ⟨cdX3_node, by decide, by decide +kernel, q_587, q_18, Or.inr ⟨_, q_585⟩, _, _, _, kc_X3⟩
theorem q_594 : Cond.methodLink RX0 65 yX0_goOn ∈ gw := gw_in (t_in_2 (List.mem_of_getElem? (i := 199) rfl)) rfl
theorem q_596 : Cond.instanceMethod yX0_goOn ∈ gw := gw_in (t_in_2 (List.mem_of_getElem? (i := 201) rfl)) rfl
theorem q_20 : Cond.selects RX0 yX0_goOn yX0_goOn ∈ gw := gw_in (lw_i (p_in_2 (List.mem_of_getElem? (i := 4) rfl))) rfl
theorem lX0_65 : LKV RX0 65 mX0_goOn 1 3 := ⟨cdX0_goOn, by decide, by decide +kernel, q_596, q_20, Or.inl q_594, _, _, _, kc_X0⟩
theorem q_1178 : Cond.fieldLinkNest RX0 69 "TypeTutor$Term" "count" "I" RX10 ∈ lw_tbl := t_in_5 (List.mem_of_getElem? (i := 63) rfl)
theorem fX0_69 : FL RX0 69 7 2 1 false .int := ⟨RX7, TX7, tyX7, kc_X7, by decide, rfl, rfl, Or.inr ⟨_, q_1178⟩⟩
theorem q_345 : Cond.fieldLink RX0 74 "TypeTutor$Finder" "reasonFound" "I" ∈ gw := gw_in (t_in_1 (List.mem_of_getElem? (i := 190) rfl)) rfl
theorem fX0_74 : FL RX0 74 1 14 10 false .int := ⟨RX0, TX0, tyX0, kc_X0, by decide, rfl, rfl, Or.inl q_345⟩
theorem q_342 : Cond.fieldLink RX0 77 "TypeTutor$Finder" "isAgain" "Z" ∈ gw := gw_in (t_in_1 (List.mem_of_getElem? (i := 187) rfl)) rfl
theorem fX0_77 : FL RX0 77 1 14 7 false .boolean := ⟨RX0, TX0, tyX0, kc_X0, by decide, rfl, rfl, Or.inl q_342⟩
theorem q_616 : Cond.methodLinkNest RX0 81 yX10_at RX10 ∈ lw_tbl := t_in_2 (List.mem_of_getElem? (i := 221) rfl)
theorem q_546 : Cond.static yX10_at ∈ gw := gw_in (t_in_2 (List.mem_of_getElem? (i := 151) rfl)) rfl
theorem lX0_81 : LKS RX0 81 mX10_at 2 := ⟨cdX10_at, by decide, by decide +kernel, q_546, Or.inr ⟨_, q_616⟩⟩
theorem q_664 : Cond.methodLinkNest RX0 85 yX9_sizeOf RX10 ∈ lw_tbl := t_in_3 (List.mem_of_getElem? (i := 29) rfl)
theorem q_666 : Cond.instanceMethod yX9_sizeOf ∈ gw := gw_in (t_in_3 (List.mem_of_getElem? (i := 31) rfl)) rfl
theorem q_35 : Cond.selects RX9 yX9_sizeOf yX9_sizeOf ∈ gw := gw_in (lw_i (p_in_3 (List.mem_of_getElem? (i := 3) rfl))) rfl
theorem lX0_85 : LKV RX0 85 mX9_sizeOf 9 1 := ⟨cdX9_sizeOf, by decide, by decide +kernel, q_666, q_35, Or.inr ⟨_, q_664⟩, _, _, _, kc_X9⟩
theorem q_590 : Cond.methodLink RX0 89 yX0_fail ∈ gw := gw_in (t_in_2 (List.mem_of_getElem? (i := 195) rfl)) rfl
theorem q_592 : Cond.instanceMethod yX0_fail ∈ gw := gw_in (t_in_2 (List.mem_of_getElem? (i := 197) rfl)) rfl
theorem q_19 : Cond.selects RX0 yX0_fail yX0_fail ∈ gw := gw_in (lw_i (p_in_2 (List.mem_of_getElem? (i := 3) rfl))) rfl
theorem lX0_89 : LKV RX0 89 mX0_fail 1 2 := ⟨cdX0_fail, by decide, by decide +kernel, q_592, q_19, Or.inl q_590, _, _, _, kc_X0⟩
theorem q_344 : Cond.fieldLink RX0 93 "TypeTutor$Finder" "gone" "I" ∈ gw := gw_in (t_in_1 (List.mem_of_getElem? (i := 189) rfl)) rfl
theorem fX0_93 : FL RX0 93 1 14 9 false .int := ⟨RX0, TX0, tyX0, kc_X0, by decide, rfl, rfl, Or.inl q_344⟩
theorem q_504 : Cond.methodLinkNest RX0 96 yX9_clear RX10 ∈ lw_tbl := t_in_2 (List.mem_of_getElem? (i := 109) rfl)
theorem q_506 : Cond.instanceMethod yX9_clear ∈ gw := gw_in (t_in_2 (List.mem_of_getElem? (i := 111) rfl)) rfl
theorem q_4 : Cond.selects RX9 yX9_clear yX9_clear ∈ gw := gw_in (lw_i (p_in_1 (List.mem_of_getElem? (i := 4) rfl))) rfl
theorem lX0_96 : LKV RX0 96 mX9_clear 9 0 := ⟨cdX9_clear, by decide, by decide +kernel, q_506, q_4, Or.inr ⟨_, q_504⟩, _, _, _, kc_X9⟩
theorem q_341 : Cond.fieldLink RX0 99 "TypeTutor$Finder" "schemeCount" "I" ∈ gw := gw_in (t_in_1 (List.mem_of_getElem? (i := 186) rfl)) rfl
theorem fX0_99 : FL RX0 99 1 14 6 false .int := ⟨RX0, TX0, tyX0, kc_X0, by decide, rfl, rfl, Or.inl q_341⟩
theorem q_347 : Cond.fieldLink RX0 102 "TypeTutor$Finder" "where" "I" ∈ gw := gw_in (t_in_1 (List.mem_of_getElem? (i := 192) rfl)) rfl
theorem fX0_102 : FL RX0 102 1 14 11 false .int := ⟨RX0, TX0, tyX0, kc_X0, by decide, rfl, rfl, Or.inl q_347⟩
theorem q_349 : Cond.fieldLink RX0 105 "TypeTutor$Finder" "partOne" "I" ∈ gw := gw_in (t_in_1 (List.mem_of_getElem? (i := 194) rfl)) rfl
theorem fX0_105 : FL RX0 105 1 14 12 false .int := ⟨RX0, TX0, tyX0, kc_X0, by decide, rfl, rfl, Or.inl q_349⟩
theorem q_351 : Cond.fieldLink RX0 108 "TypeTutor$Finder" "partTwo" "I" ∈ gw := gw_in (t_in_1 (List.mem_of_getElem? (i := 196) rfl)) rfl
theorem fX0_108 : FL RX0 108 1 14 13 false .int := ⟨RX0, TX0, tyX0, kc_X0, by decide, rfl, rfl, Or.inl q_351⟩
theorem q_323 : Cond.fieldLinkNest RX0 111 "TypeTutor$Path" "count" "I" RX10 ∈ lw_tbl := t_in_1 (List.mem_of_getElem? (i := 168) rfl)
theorem fX0_111 : FL RX0 111 3 4 3 false .int := ⟨RX3, TX3, tyX3, kc_X3, by decide, rfl, rfl, Or.inr ⟨_, q_323⟩⟩
theorem q_531 : Cond.methodLinkNest RX0 112 yX3_enter RX10 ∈ lw_tbl := t_in_2 (List.mem_of_getElem? (i := 136) rfl)
theorem q_533 : Cond.instanceMethod yX3_enter ∈ gw := gw_in (t_in_2 (List.mem_of_getElem? (i := 138) rfl)) rfl
theorem q_6 : Cond.selects RX3 yX3_enter yX3_enter ∈ gw := gw_in (lw_i (p_in_1 (List.mem_of_getElem? (i := 6) rfl))) rfl
theorem lX0_112 : LKV RX0 112 mX3_enter 3 1 := ⟨cdX3_enter, by decide, by decide +kernel, q_533, q_6, Or.inr ⟨_, q_531⟩, _, _, _, kc_X3⟩
theorem q_343 : Cond.fieldLink RX0 115 "TypeTutor$Finder" "result" "I" ∈ gw := gw_in (t_in_1 (List.mem_of_getElem? (i := 188) rfl)) rfl
theorem fX0_115 : FL RX0 115 1 14 8 false .int := ⟨RX0, TX0, tyX0, kc_X0, by decide, rfl, rfl, Or.inl q_343⟩
theorem q_675 : Cond.methodLinkNest RX0 118 yX9_spell RX10 ∈ lw_tbl := t_in_3 (List.mem_of_getElem? (i := 40) rfl)
theorem q_677 : Cond.instanceMethod yX9_spell ∈ gw := gw_in (t_in_3 (List.mem_of_getElem? (i := 42) rfl)) rfl
theorem q_37 : Cond.selects RX9 yX9_spell yX9_spell ∈ gw := gw_in (lw_i (p_in_3 (List.mem_of_getElem? (i := 5) rfl))) rfl
theorem lX0_118 : LKV RX0 118 mX9_spell 9 3 := ⟨cdX9_spell, by decide, by decide +kernel, q_677, q_37, Or.inr ⟨_, q_675⟩, _, _, _, kc_X9⟩
theorem q_659 : Cond.methodLinkNest RX0 122 yX9_add RX10 ∈ lw_tbl := t_in_3 (List.mem_of_getElem? (i := 24) rfl)
theorem q_510 : Cond.instanceMethod yX9_add ∈ gw := gw_in (t_in_2 (List.mem_of_getElem? (i := 115) rfl)) rfl
theorem q_5 : Cond.selects RX9 yX9_add yX9_add ∈ gw := gw_in (lw_i (p_in_1 (List.mem_of_getElem? (i := 5) rfl))) rfl
theorem lX0_122 : LKV RX0 122 mX9_add 9 2 := ⟨cdX9_add, by decide, by decide +kernel, q_510, q_5, Or.inr ⟨_, q_659⟩, _, _, _, kc_X9⟩
theorem q_631 : Cond.methodLinkNest RX0 126 yX9_make RX10 ∈ lw_tbl := t_in_2 (List.mem_of_getElem? (i := 236) rfl)
theorem q_633 : Cond.instanceMethod yX9_make ∈ gw := gw_in (t_in_2 (List.mem_of_getElem? (i := 238) rfl)) rfl
theorem q_28 : Cond.selects RX9 yX9_make yX9_make ∈ gw := gw_in (lw_i (p_in_2 (List.mem_of_getElem? (i := 12) rfl))) rfl
theorem lX0_126 : LKV RX0 126 mX9_make 9 1 := ⟨cdX9_make, by decide, by decide +kernel, q_633, q_28, Or.inr ⟨_, q_631⟩, _, _, _, kc_X9⟩
theorem q_704 : Cond.methodLinkNest RX0 130 yX9_addPair RX10 ∈ lw_tbl := t_in_3 (List.mem_of_getElem? (i := 69) rfl)
theorem q_579 : Cond.instanceMethod yX9_addPair ∈ gw := gw_in (t_in_2 (List.mem_of_getElem? (i := 184) rfl)) rfl
theorem q_16 : Cond.selects RX9 yX9_addPair yX9_addPair ∈ gw := gw_in (lw_i (p_in_2 (List.mem_of_getElem? (i := 0) rfl))) rfl
theorem lX0_130 : LKV RX0 130 mX9_addPair 9 3 := ⟨cdX9_addPair, by decide, by decide +kernel, q_579, q_16, Or.inr ⟨_, q_704⟩, _, _, _, kc_X9⟩
theorem q_598 : Cond.methodLinkNest RX0 134 yX3_takeStage RX10 ∈ lw_tbl := t_in_2 (List.mem_of_getElem? (i := 203) rfl)
theorem q_600 : Cond.instanceMethod yX3_takeStage ∈ gw := gw_in (t_in_2 (List.mem_of_getElem? (i := 205) rfl)) rfl
theorem q_21 : Cond.selects RX3 yX3_takeStage yX3_takeStage ∈ gw := gw_in (lw_i (p_in_2 (List.mem_of_getElem? (i := 5) rfl))) rfl
theorem lX0_134 : LKV RX0 134 mX3_takeStage 3 0 := ⟨cdX3_takeStage, by decide, by decide +kernel, q_600, q_21, Or.inr ⟨_, q_598⟩, _, _, _, kc_X3⟩
theorem q_602 : Cond.methodLinkNest RX0 137 yX7_of RX10 ∈ lw_tbl := t_in_2 (List.mem_of_getElem? (i := 207) rfl)
theorem lX0_137 : LKV RX0 137 mX7_of 7 2 := ⟨cdX7_of, by decide, by decide +kernel, q_604, q_22, Or.inr ⟨_, q_602⟩, _, _, _, kc_X7⟩
theorem q_612 : Cond.methodLink RX0 140 yX0_goName ∈ gw := gw_in (t_in_2 (List.mem_of_getElem? (i := 217) rfl)) rfl
theorem q_614 : Cond.instanceMethod yX0_goName ∈ gw := gw_in (t_in_2 (List.mem_of_getElem? (i := 219) rfl)) rfl
theorem q_24 : Cond.selects RX0 yX0_goName yX0_goName ∈ gw := gw_in (lw_i (p_in_2 (List.mem_of_getElem? (i := 8) rfl))) rfl
theorem lX0_140 : LKV RX0 140 mX0_goName 1 3 := ⟨cdX0_goName, by decide, by decide +kernel, q_614, q_24, Or.inl q_612, _, _, _, kc_X0⟩
theorem q_643 : Cond.methodLinkNest RX0 144 yX6_keptAt RX10 ∈ lw_tbl := t_in_3 (List.mem_of_getElem? (i := 8) rfl)
theorem lX0_144 : LKV RX0 144 mX6_keptAt 6 1 := ⟨cdX6_keptAt, by decide, by decide +kernel, q_645, q_30, Or.inr ⟨_, q_643⟩, _, _, _, kc_X6⟩
theorem q_647 : Cond.methodLink RX0 150 yX0_goKept ∈ gw := gw_in (t_in_3 (List.mem_of_getElem? (i := 12) rfl)) rfl
theorem q_649 : Cond.instanceMethod yX0_goKept ∈ gw := gw_in (t_in_3 (List.mem_of_getElem? (i := 14) rfl)) rfl
theorem q_31 : Cond.selects RX0 yX0_goKept yX0_goKept ∈ gw := gw_in (lw_i (p_in_2 (List.mem_of_getElem? (i := 15) rfl))) rfl
theorem lX0_150 : LKV RX0 150 mX0_goKept 1 2 := ⟨cdX0_goKept, by decide, by decide +kernel, q_649, q_31, Or.inl q_647, _, _, _, kc_X0⟩
theorem q_617 : Cond.methodLink RX0 154 yX0_end ∈ gw := gw_in (t_in_2 (List.mem_of_getElem? (i := 222) rfl)) rfl
theorem q_619 : Cond.instanceMethod yX0_end ∈ gw := gw_in (t_in_2 (List.mem_of_getElem? (i := 224) rfl)) rfl
theorem q_25 : Cond.selects RX0 yX0_end yX0_end ∈ gw := gw_in (lw_i (p_in_2 (List.mem_of_getElem? (i := 9) rfl))) rfl
theorem lX0_154 : LKV RX0 154 mX0_end 1 2 := ⟨cdX0_end, by decide, by decide +kernel, q_619, q_25, Or.inl q_617, _, _, _, kc_X0⟩
theorem q_651 : Cond.methodLinkNest RX0 157 yX9_ofSign RX10 ∈ lw_tbl := t_in_3 (List.mem_of_getElem? (i := 16) rfl)
theorem q_653 : Cond.instanceMethod yX9_ofSign ∈ gw := gw_in (t_in_3 (List.mem_of_getElem? (i := 18) rfl)) rfl
theorem q_32 : Cond.selects RX9 yX9_ofSign yX9_ofSign ∈ gw := gw_in (lw_i (p_in_3 (List.mem_of_getElem? (i := 0) rfl))) rfl
theorem lX0_157 : LKV RX0 157 mX9_ofSign 9 1 := ⟨cdX9_ofSign, by decide, by decide +kernel, q_653, q_32, Or.inr ⟨_, q_651⟩, _, _, _, kc_X9⟩
theorem q_655 : Cond.methodLink RX0 160 yX0_goFunction ∈ gw := gw_in (t_in_3 (List.mem_of_getElem? (i := 20) rfl)) rfl
theorem q_657 : Cond.instanceMethod yX0_goFunction ∈ gw := gw_in (t_in_3 (List.mem_of_getElem? (i := 22) rfl)) rfl
theorem q_33 : Cond.selects RX0 yX0_goFunction yX0_goFunction ∈ gw := gw_in (lw_i (p_in_3 (List.mem_of_getElem? (i := 1) rfl))) rfl
theorem lX0_160 : LKV RX0 160 mX0_goFunction 1 3 := ⟨cdX0_goFunction, by decide, by decide +kernel, q_657, q_33, Or.inl q_655, _, _, _, kc_X0⟩
theorem q_660 : Cond.methodLink RX0 163 yX0_goLet ∈ gw := gw_in (t_in_3 (List.mem_of_getElem? (i := 25) rfl)) rfl
theorem q_662 : Cond.instanceMethod yX0_goLet ∈ gw := gw_in (t_in_3 (List.mem_of_getElem? (i := 27) rfl)) rfl
theorem q_34 : Cond.selects RX0 yX0_goLet yX0_goLet ∈ gw := gw_in (lw_i (p_in_3 (List.mem_of_getElem? (i := 2) rfl))) rfl
theorem lX0_163 : LKV RX0 163 mX0_goLet 1 3 := ⟨cdX0_goLet, by decide, by decide +kernel, q_662, q_34, Or.inl q_660, _, _, _, kc_X0⟩
theorem q_691 : Cond.methodLink RX0 166 yX0_goApplication ∈ gw := gw_in (t_in_3 (List.mem_of_getElem? (i := 56) rfl)) rfl
theorem q_693 : Cond.instanceMethod yX0_goApplication ∈ gw := gw_in (t_in_3 (List.mem_of_getElem? (i := 58) rfl)) rfl
theorem q_40 : Cond.selects RX0 yX0_goApplication yX0_goApplication ∈ gw := gw_in (lw_i (p_in_3 (List.mem_of_getElem? (i := 8) rfl))) rfl
theorem lX0_166 : LKV RX0 166 mX0_goApplication 1 3 := ⟨cdX0_goApplication, by decide, by decide +kernel, q_693, q_40, Or.inl q_691, _, _, _, kc_X0⟩
theorem q_621 : Cond.methodLinkNest RX0 169 yX10_put RX10 ∈ lw_tbl := t_in_2 (List.mem_of_getElem? (i := 226) rfl)
theorem q_529 : Cond.static yX10_put ∈ gw := gw_in (t_in_2 (List.mem_of_getElem? (i := 134) rfl)) rfl
theorem lX0_169 : LKS RX0 169 mX10_put 3 := ⟨cdX10_put, by decide, by decide +kernel, q_529, Or.inr ⟨_, q_621⟩⟩
theorem q_622 : Cond.methodLinkNest RX0 173 yX3_leave RX10 ∈ lw_tbl := t_in_2 (List.mem_of_getElem? (i := 227) rfl)
theorem q_624 : Cond.instanceMethod yX3_leave ∈ gw := gw_in (t_in_2 (List.mem_of_getElem? (i := 229) rfl)) rfl
theorem q_26 : Cond.selects RX3 yX3_leave yX3_leave ∈ gw := gw_in (lw_i (p_in_2 (List.mem_of_getElem? (i := 10) rfl))) rfl
theorem lX0_173 : LKV RX0 173 mX3_leave 3 0 := ⟨cdX3_leave, by decide, by decide +kernel, q_624, q_26, Or.inr ⟨_, q_622⟩, _, _, _, kc_X3⟩
theorem q_279 : Cond.fieldLinkNest RX0 176 "TypeTutor$Types" "partOne" "I" RX10 ∈ lw_tbl := t_in_1 (List.mem_of_getElem? (i := 124) rfl)
theorem fX0_176 : FL RX0 176 9 15 13 false .int := ⟨RX9, TX9, tyX9, kc_X9, by decide, rfl, rfl, Or.inr ⟨_, q_279⟩⟩
theorem q_281 : Cond.fieldLinkNest RX0 177 "TypeTutor$Types" "partTwo" "I" RX10 ∈ lw_tbl := t_in_1 (List.mem_of_getElem? (i := 126) rfl)
theorem fX0_177 : FL RX0 177 9 15 14 false .int := ⟨RX9, TX9, tyX9, kc_X9, by decide, rfl, rfl, Or.inr ⟨_, q_281⟩⟩
theorem q_626 : Cond.methodLink RX0 178 yX0_scheme ∈ gw := gw_in (t_in_2 (List.mem_of_getElem? (i := 231) rfl)) rfl
theorem q_628 : Cond.instanceMethod yX0_scheme ∈ gw := gw_in (t_in_2 (List.mem_of_getElem? (i := 233) rfl)) rfl
theorem q_27 : Cond.selects RX0 yX0_scheme yX0_scheme ∈ gw := gw_in (lw_i (p_in_2 (List.mem_of_getElem? (i := 11) rfl))) rfl
theorem lX0_178 : LKV RX0 178 mX0_scheme 1 1 := ⟨cdX0_scheme, by decide, by decide +kernel, q_628, q_27, Or.inl q_626, _, _, _, kc_X0⟩
theorem q_668 : Cond.methodLinkNest RX0 181 yX9_newMark RX10 ∈ lw_tbl := t_in_3 (List.mem_of_getElem? (i := 33) rfl)
theorem q_562 : Cond.instanceMethod yX9_newMark ∈ gw := gw_in (t_in_2 (List.mem_of_getElem? (i := 167) rfl)) rfl
theorem q_12 : Cond.selects RX9 yX9_newMark yX9_newMark ∈ gw := gw_in (lw_i (p_in_1 (List.mem_of_getElem? (i := 12) rfl))) rfl
theorem lX0_181 : LKV RX0 181 mX9_newMark 9 0 := ⟨cdX9_newMark, by decide, by decide +kernel, q_562, q_12, Or.inr ⟨_, q_668⟩, _, _, _, kc_X9⟩
theorem q_669 : Cond.methodLinkNest RX0 184 yX7_parentOf RX10 ∈ lw_tbl := t_in_3 (List.mem_of_getElem? (i := 34) rfl)
theorem q_671 : Cond.instanceMethod yX7_parentOf ∈ gw := gw_in (t_in_3 (List.mem_of_getElem? (i := 36) rfl)) rfl
theorem q_36 : Cond.selects RX7 yX7_parentOf yX7_parentOf ∈ gw := gw_in (lw_i (p_in_3 (List.mem_of_getElem? (i := 4) rfl))) rfl
theorem lX0_184 : LKV RX0 184 mX7_parentOf 7 1 := ⟨cdX7_parentOf, by decide, by decide +kernel, q_671, q_36, Or.inr ⟨_, q_669⟩, _, _, _, kc_X7⟩
theorem q_674 : Cond.methodLinkNest RX0 187 yX9_markAll RX10 ∈ lw_tbl := t_in_3 (List.mem_of_getElem? (i := 39) rfl)
theorem q_566 : Cond.instanceMethod yX9_markAll ∈ gw := gw_in (t_in_2 (List.mem_of_getElem? (i := 171) rfl)) rfl
theorem q_13 : Cond.selects RX9 yX9_markAll yX9_markAll ∈ gw := gw_in (lw_i (p_in_1 (List.mem_of_getElem? (i := 13) rfl))) rfl
theorem lX0_187 : LKV RX0 187 mX9_markAll 9 2 := ⟨cdX9_markAll, by decide, by decide +kernel, q_566, q_13, Or.inr ⟨_, q_674⟩, _, _, _, kc_X9⟩
theorem q_695 : Cond.methodLinkNest RX0 190 yX3_hold RX10 ∈ lw_tbl := t_in_3 (List.mem_of_getElem? (i := 60) rfl)
theorem q_697 : Cond.instanceMethod yX3_hold ∈ gw := gw_in (t_in_3 (List.mem_of_getElem? (i := 62) rfl)) rfl
theorem q_41 : Cond.selects RX3 yX3_hold yX3_hold ∈ gw := gw_in (lw_i (p_in_3 (List.mem_of_getElem? (i := 9) rfl))) rfl
theorem lX0_190 : LKV RX0 190 mX3_hold 3 1 := ⟨cdX3_hold, by decide, by decide +kernel, q_697, q_41, Or.inr ⟨_, q_695⟩, _, _, _, kc_X3⟩
theorem q_699 : Cond.methodLinkNest RX0 193 yX3_holding RX10 ∈ lw_tbl := t_in_3 (List.mem_of_getElem? (i := 64) rfl)
theorem q_701 : Cond.instanceMethod yX3_holding ∈ gw := gw_in (t_in_3 (List.mem_of_getElem? (i := 66) rfl)) rfl
theorem q_42 : Cond.selects RX3 yX3_holding yX3_holding ∈ gw := gw_in (lw_i (p_in_3 (List.mem_of_getElem? (i := 10) rfl))) rfl
theorem lX0_193 : LKV RX0 193 mX3_holding 3 0 := ⟨cdX3_holding, by decide, by decide +kernel, q_701, q_42, Or.inr ⟨_, q_699⟩, _, _, _, kc_X3⟩
theorem q_630 : Cond.methodLinkNest RX0 201 yX5_init RX10 ∈ lw_tbl := t_in_2 (List.mem_of_getElem? (i := 235) rfl)
theorem lX0_201 : LKI RX0 201 mX5_init 1 := ⟨cdX5_init, by decide, by decide +kernel, q_385, rfl, rfl, Or.inr ⟨_, q_630⟩⟩
theorem q_431 : Cond.classLink RX1 9 RX6 ∈ gw := gw_in (t_in_2 (List.mem_of_getElem? (i := 36) rfl)) rfl
theorem nX1_9 : NL RX1 9 6 5 := ⟨RX6, TX6, tyX6, kc_X6, q_431, q_398, q_166⟩
theorem q_433 : Cond.fieldLink RX1 11 "TypeTutor$History" "states" "[LTypeTutor$State;" ∈ gw := gw_in (t_in_2 (List.mem_of_getElem? (i := 38) rfl)) rfl
theorem fX1_11 : FL RX1 11 2 3 0 true (.array (.object "TypeTutor$State")) := ⟨RX1, TX1, tyX1, kc_X1, by decide, rfl, rfl, Or.inl q_433⟩
theorem fX1_11F : FLF RX1 11 2 3 0 (.array (.object "TypeTutor$State")) := ⟨RX1, TX1, tyX1, kc_X1, by decide, rfl, rfl, rfl, q_433⟩
theorem q_434 : Cond.fieldLink RX1 17 "TypeTutor$History" "next" "I" ∈ gw := gw_in (t_in_2 (List.mem_of_getElem? (i := 39) rfl)) rfl
theorem fX1_17 : FL RX1 17 2 3 1 false .int := ⟨RX1, TX1, tyX1, kc_X1, by decide, rfl, rfl, Or.inl q_434⟩
theorem q_1225 : Cond.methodLink RX1 21 yX1_stateAt ∈ gw := gw_in (t_in_5 (List.mem_of_getElem? (i := 110) rfl)) rfl
theorem q_1227 : Cond.instanceMethod yX1_stateAt ∈ gw := gw_in (t_in_5 (List.mem_of_getElem? (i := 112) rfl)) rfl
theorem q_60 : Cond.selects RX1 yX1_stateAt yX1_stateAt ∈ gw := gw_in (lw_i (p_in_4 (List.mem_of_getElem? (i := 12) rfl))) rfl
theorem lX1_21 : LKV RX1 21 mX1_stateAt 2 1 := ⟨cdX1_stateAt, by decide, by decide +kernel, q_1227, q_60, Or.inl q_1225, _, _, _, kc_X1⟩
theorem q_1230 : Cond.methodLinkNest RX1 25 yX6_take RX10 ∈ lw_tbl := t_in_5 (List.mem_of_getElem? (i := 115) rfl)
theorem lX1_25 : LKV RX1 25 mX6_take 6 1 := ⟨cdX6_take, by decide, by decide +kernel, q_724, q_45, Or.inr ⟨_, q_1230⟩, _, _, _, kc_X6⟩
theorem q_435 : Cond.fieldLink RX1 35 "TypeTutor$History" "count" "I" ∈ gw := gw_in (t_in_2 (List.mem_of_getElem? (i := 40) rfl)) rfl
theorem fX1_35 : FL RX1 35 2 3 2 false .int := ⟨RX1, TX1, tyX1, kc_X1, by decide, rfl, rfl, Or.inl q_435⟩
theorem q_1229 : Cond.methodLinkNest RX1 44 yX6_init RX10 ∈ lw_tbl := t_in_5 (List.mem_of_getElem? (i := 114) rfl)
theorem lX1_44 : LKI RX1 44 mX6_init 0 := ⟨cdX6_init, by decide, by decide +kernel, q_400, rfl, rfl, Or.inr ⟨_, q_1229⟩⟩
theorem q_1595 : Cond.methodLink RX2 19 yX2_placeBehind ∈ gw := gw_in (t_in_7 (List.mem_of_getElem? (i := 0) rfl)) rfl
theorem q_1596 : Cond.static yX2_placeBehind ∈ gw := gw_in (t_in_7 (List.mem_of_getElem? (i := 1) rfl)) rfl
theorem lX2_19 : LKS RX2 19 mX2_placeBehind 2 := ⟨cdX2_placeBehind, by decide, by decide +kernel, q_1596, Or.inl q_1595⟩
theorem q_1598 : Cond.methodLinkNest RX2 23 yX10_isDigit RX10 ∈ lw_tbl := t_in_7 (List.mem_of_getElem? (i := 3) rfl)
theorem q_799 : Cond.static yX10_isDigit ∈ gw := gw_in (t_in_3 (List.mem_of_getElem? (i := 164) rfl)) rfl
theorem lX2_23 : LKS RX2 23 mX10_isDigit 1 := ⟨cdX10_isDigit, by decide, by decide +kernel, q_799, Or.inr ⟨_, q_1598⟩⟩
theorem q_1599 : Cond.methodLinkNest RX2 29 yX10_isCapitalSign RX10 ∈ lw_tbl := t_in_7 (List.mem_of_getElem? (i := 4) rfl)
theorem q_796 : Cond.static yX10_isCapitalSign ∈ gw := gw_in (t_in_3 (List.mem_of_getElem? (i := 161) rfl)) rfl
theorem lX2_29 : LKS RX2 29 mX10_isCapitalSign 1 := ⟨cdX10_isCapitalSign, by decide, by decide +kernel, q_796, Or.inr ⟨_, q_1599⟩⟩
theorem q_319 : Cond.fieldLink RX3 9 "TypeTutor$Path" "nodes" "[I" ∈ gw := gw_in (t_in_1 (List.mem_of_getElem? (i := 164) rfl)) rfl
theorem fX3_9 : FL RX3 9 3 4 0 true (.array .int) := ⟨RX3, TX3, tyX3, kc_X3, by decide, rfl, rfl, Or.inl q_319⟩
theorem fX3_9F : FLF RX3 9 3 4 0 (.array .int) := ⟨RX3, TX3, tyX3, kc_X3, by decide, rfl, rfl, rfl, q_319⟩
theorem q_320 : Cond.fieldLink RX3 15 "TypeTutor$Path" "stages" "[I" ∈ gw := gw_in (t_in_1 (List.mem_of_getElem? (i := 165) rfl)) rfl
theorem fX3_15 : FL RX3 15 3 4 1 true (.array .int) := ⟨RX3, TX3, tyX3, kc_X3, by decide, rfl, rfl, Or.inl q_320⟩
theorem fX3_15F : FLF RX3 15 3 4 1 (.array .int) := ⟨RX3, TX3, tyX3, kc_X3, by decide, rfl, rfl, rfl, q_320⟩
theorem q_321 : Cond.fieldLink RX3 18 "TypeTutor$Path" "held" "[I" ∈ gw := gw_in (t_in_1 (List.mem_of_getElem? (i := 166) rfl)) rfl
theorem fX3_18 : FL RX3 18 3 4 2 true (.array .int) := ⟨RX3, TX3, tyX3, kc_X3, by decide, rfl, rfl, Or.inl q_321⟩
theorem fX3_18F : FLF RX3 18 3 4 2 (.array .int) := ⟨RX3, TX3, tyX3, kc_X3, by decide, rfl, rfl, rfl, q_321⟩
theorem q_322 : Cond.fieldLink RX3 21 "TypeTutor$Path" "count" "I" ∈ gw := gw_in (t_in_1 (List.mem_of_getElem? (i := 167) rfl)) rfl
theorem fX3_21 : FL RX3 21 3 4 3 false .int := ⟨RX3, TX3, tyX3, kc_X3, by decide, rfl, rfl, Or.inl q_322⟩
theorem q_535 : Cond.methodLinkNest RX3 25 yX10_put RX10 ∈ lw_tbl := t_in_2 (List.mem_of_getElem? (i := 140) rfl)
theorem lX3_25 : LKS RX3 25 mX10_put 3 := ⟨cdX10_put, by decide, by decide +kernel, q_529, Or.inr ⟨_, q_535⟩⟩
theorem q_589 : Cond.methodLinkNest RX3 29 yX10_at RX10 ∈ lw_tbl := t_in_2 (List.mem_of_getElem? (i := 194) rfl)
theorem lX3_29 : LKS RX3 29 mX10_at 2 := ⟨cdX10_at, by decide, by decide +kernel, q_546, Or.inr ⟨_, q_589⟩⟩
theorem q_1136 : Cond.fieldLink RX4 7 "TypeTutor$Refusal" "number" "I" ∈ gw := gw_in (t_in_5 (List.mem_of_getElem? (i := 21) rfl)) rfl
theorem fX4_7 : FL RX4 7 4 3 0 true .int := ⟨RX4, TX4, tyX4, kc_X4, by decide, rfl, rfl, Or.inl q_1136⟩
theorem fX4_7F : FLF RX4 7 4 3 0 .int := ⟨RX4, TX4, tyX4, kc_X4, by decide, rfl, rfl, rfl, q_1136⟩
theorem q_1138 : Cond.fieldLink RX4 13 "TypeTutor$Refusal" "detail" "I" ∈ gw := gw_in (t_in_5 (List.mem_of_getElem? (i := 23) rfl)) rfl
theorem fX4_13 : FL RX4 13 4 3 1 true .int := ⟨RX4, TX4, tyX4, kc_X4, by decide, rfl, rfl, Or.inl q_1138⟩
theorem fX4_13F : FLF RX4 13 4 3 1 .int := ⟨RX4, TX4, tyX4, kc_X4, by decide, rfl, rfl, rfl, q_1138⟩
theorem q_1140 : Cond.fieldLink RX4 16 "TypeTutor$Refusal" "cause" "LTypeTutor$Refusal;" ∈ gw := gw_in (t_in_5 (List.mem_of_getElem? (i := 25) rfl)) rfl
theorem fX4_16 : FL RX4 16 4 3 2 true (.object "TypeTutor$Refusal") := ⟨RX4, TX4, tyX4, kc_X4, by decide, rfl, rfl, Or.inl q_1140⟩
theorem fX4_16F : FLF RX4 16 4 3 2 (.object "TypeTutor$Refusal") := ⟨RX4, TX4, tyX4, kc_X4, by decide, rfl, rfl, rfl, q_1140⟩
theorem q_388 : Cond.fieldLink RX5 9 "TypeTutor$Shape" "signs" "[I" ∈ gw := gw_in (t_in_1 (List.mem_of_getElem? (i := 233) rfl)) rfl
theorem fX5_9 : FL RX5 9 5 2 0 true (.array .int) := ⟨RX5, TX5, tyX5, kc_X5, by decide, rfl, rfl, Or.inl q_388⟩
theorem fX5_9F : FLF RX5 9 5 2 0 (.array .int) := ⟨RX5, TX5, tyX5, kc_X5, by decide, rfl, rfl, rfl, q_388⟩
theorem q_1270 : Cond.classLink RX5 10 RX5 ∈ gw := gw_in (t_in_5 (List.mem_of_getElem? (i := 155) rfl)) rfl
theorem nX5_10 : NL RX5 10 5 2 := ⟨RX5, TX5, tyX5, kc_X5, q_1270, q_383, q_165⟩
theorem q_389 : Cond.fieldLink RX5 15 "TypeTutor$Shape" "length" "I" ∈ gw := gw_in (t_in_1 (List.mem_of_getElem? (i := 234) rfl)) rfl
theorem fX5_15 : FL RX5 15 5 2 1 false .int := ⟨RX5, TX5, tyX5, kc_X5, by decide, rfl, rfl, Or.inl q_389⟩
theorem q_683 : Cond.methodLinkNest RX5 19 yX10_put RX10 ∈ lw_tbl := t_in_3 (List.mem_of_getElem? (i := 48) rfl)
theorem lX5_19 : LKS RX5 19 mX10_put 3 := ⟨cdX10_put, by decide, by decide +kernel, q_529, Or.inr ⟨_, q_683⟩⟩
theorem q_642 : Cond.methodLinkNest RX5 23 yX10_at RX10 ∈ lw_tbl := t_in_3 (List.mem_of_getElem? (i := 7) rfl)
theorem lX5_23 : LKS RX5 23 mX10_at 2 := ⟨cdX10_at, by decide, by decide +kernel, q_546, Or.inr ⟨_, q_642⟩⟩
theorem q_1271 : Cond.methodLink RX5 27 yX5_init ∈ gw := gw_in (t_in_5 (List.mem_of_getElem? (i := 156) rfl)) rfl
theorem lX5_27 : LKI RX5 27 mX5_init 1 := ⟨cdX5_init, by decide, by decide +kernel, q_385, rfl, rfl, Or.inl q_1271⟩
theorem q_713 : Cond.methodLink RX5 30 yX5_sign ∈ gw := gw_in (t_in_3 (List.mem_of_getElem? (i := 78) rfl)) rfl
theorem q_640 : Cond.instanceMethod yX5_sign ∈ gw := gw_in (t_in_3 (List.mem_of_getElem? (i := 5) rfl)) rfl
theorem q_29 : Cond.selects RX5 yX5_sign yX5_sign ∈ gw := gw_in (lw_i (p_in_2 (List.mem_of_getElem? (i := 13) rfl))) rfl
theorem lX5_30 : LKV RX5 30 mX5_sign 5 1 := ⟨cdX5_sign, by decide, by decide +kernel, q_640, q_29, Or.inl q_713, _, _, _, kc_X5⟩
theorem q_1272 : Cond.methodLink RX5 34 yX5_add ∈ gw := gw_in (t_in_5 (List.mem_of_getElem? (i := 157) rfl)) rfl
theorem q_681 : Cond.instanceMethod yX5_add ∈ gw := gw_in (t_in_3 (List.mem_of_getElem? (i := 46) rfl)) rfl
theorem q_38 : Cond.selects RX5 yX5_add yX5_add ∈ gw := gw_in (lw_i (p_in_3 (List.mem_of_getElem? (i := 6) rfl))) rfl
theorem lX5_34 : LKV RX5 34 mX5_add 5 1 := ⟨cdX5_add, by decide, by decide +kernel, q_681, q_38, Or.inl q_1272, _, _, _, kc_X5⟩
theorem q_1281 : Cond.methodLink RX5 37 yX5_arrows ∈ gw := gw_in (t_in_5 (List.mem_of_getElem? (i := 166) rfl)) rfl
theorem q_1283 : Cond.instanceMethod yX5_arrows ∈ gw := gw_in (t_in_5 (List.mem_of_getElem? (i := 168) rfl)) rfl
theorem q_67 : Cond.selects RX5 yX5_arrows yX5_arrows ∈ gw := gw_in (lw_i (p_in_5 (List.mem_of_getElem? (i := 3) rfl))) rfl
theorem lX5_37 : LKV RX5 37 mX5_arrows 5 0 := ⟨cdX5_arrows, by decide, by decide +kernel, q_1283, q_67, Or.inl q_1281, _, _, _, kc_X5⟩
theorem q_1285 : Cond.methodLink RX5 41 yX5_variables ∈ gw := gw_in (t_in_5 (List.mem_of_getElem? (i := 170) rfl)) rfl
theorem q_1287 : Cond.instanceMethod yX5_variables ∈ gw := gw_in (t_in_5 (List.mem_of_getElem? (i := 172) rfl)) rfl
theorem q_68 : Cond.selects RX5 yX5_variables yX5_variables ∈ gw := gw_in (lw_i (p_in_5 (List.mem_of_getElem? (i := 4) rfl))) rfl
theorem lX5_41 : LKV RX5 41 mX5_variables 5 0 := ⟨cdX5_variables, by decide, by decide +kernel, q_1287, q_68, Or.inl q_1285, _, _, _, kc_X5⟩
theorem q_1290 : Cond.methodLink RX5 44 yX5_order ∈ gw := gw_in (t_in_5 (List.mem_of_getElem? (i := 175) rfl)) rfl
theorem q_1292 : Cond.instanceMethod yX5_order ∈ gw := gw_in (t_in_5 (List.mem_of_getElem? (i := 177) rfl)) rfl
theorem q_69 : Cond.selects RX5 yX5_order yX5_order ∈ gw := gw_in (lw_i (p_in_5 (List.mem_of_getElem? (i := 5) rfl))) rfl
theorem lX5_44 : LKV RX5 44 mX5_order 5 0 := ⟨cdX5_order, by decide, by decide +kernel, q_1292, q_69, Or.inl q_1290, _, _, _, kc_X5⟩
theorem q_1294 : Cond.methodLink RX5 47 yX5_places ∈ gw := gw_in (t_in_5 (List.mem_of_getElem? (i := 179) rfl)) rfl
theorem q_1296 : Cond.instanceMethod yX5_places ∈ gw := gw_in (t_in_5 (List.mem_of_getElem? (i := 181) rfl)) rfl
theorem q_70 : Cond.selects RX5 yX5_places yX5_places ∈ gw := gw_in (lw_i (p_in_5 (List.mem_of_getElem? (i := 6) rfl))) rfl
theorem lX5_47 : LKV RX5 47 mX5_places 5 0 := ⟨cdX5_places, by decide, by decide +kernel, q_1296, q_70, Or.inl q_1294, _, _, _, kc_X5⟩
theorem q_1495 : Cond.methodLink RX5 62 yX5_isRepeated ∈ gw := gw_in (t_in_6 (List.mem_of_getElem? (i := 140) rfl)) rfl
theorem q_1497 : Cond.instanceMethod yX5_isRepeated ∈ gw := gw_in (t_in_6 (List.mem_of_getElem? (i := 142) rfl)) rfl
theorem q_79 : Cond.selects RX5 yX5_isRepeated yX5_isRepeated ∈ gw := gw_in (lw_i (p_in_5 (List.mem_of_getElem? (i := 15) rfl))) rfl
theorem lX5_62 : LKV RX5 62 mX5_isRepeated 5 2 := ⟨cdX5_isRepeated, by decide, by decide +kernel, q_1497, q_79, Or.inl q_1495, _, _, _, kc_X5⟩
theorem q_1499 : Cond.methodLink RX5 66 yX5_endOf ∈ gw := gw_in (t_in_6 (List.mem_of_getElem? (i := 144) rfl)) rfl
theorem q_1501 : Cond.instanceMethod yX5_endOf ∈ gw := gw_in (t_in_6 (List.mem_of_getElem? (i := 146) rfl)) rfl
theorem q_80 : Cond.selects RX5 yX5_endOf yX5_endOf ∈ gw := gw_in (lw_i (p_in_6 (List.mem_of_getElem? (i := 0) rfl))) rfl
theorem lX5_66 : LKV RX5 66 mX5_endOf 5 1 := ⟨cdX5_endOf, by decide, by decide +kernel, q_1501, q_80, Or.inl q_1499, _, _, _, kc_X5⟩
theorem q_1631 : Cond.methodLink RX5 75 yX5_writeSign ∈ gw := gw_in (t_in_7 (List.mem_of_getElem? (i := 36) rfl)) rfl
theorem q_1632 : Cond.static yX5_writeSign ∈ gw := gw_in (t_in_7 (List.mem_of_getElem? (i := 37) rfl)) rfl
theorem lX5_75 : LKS RX5 75 mX5_writeSign 2 := ⟨cdX5_writeSign, by decide, by decide +kernel, q_1632, Or.inl q_1631⟩
theorem q_406 : Cond.fieldLink RX6 11 "TypeTutor$State" "terms" "[LTypeTutor$Term;" ∈ gw := gw_in (t_in_2 (List.mem_of_getElem? (i := 11) rfl)) rfl
theorem fX6_11 : FL RX6 11 6 5 0 true (.array (.object "TypeTutor$Term")) := ⟨RX6, TX6, tyX6, kc_X6, by decide, rfl, rfl, Or.inl q_406⟩
theorem fX6_11F : FLF RX6 11 6 5 0 (.array (.object "TypeTutor$Term")) := ⟨RX6, TX6, tyX6, kc_X6, by decide, rfl, rfl, rfl, q_406⟩
theorem q_407 : Cond.fieldLink RX6 19 "TypeTutor$State" "kept" "[LTypeTutor$Shape;" ∈ gw := gw_in (t_in_2 (List.mem_of_getElem? (i := 12) rfl)) rfl
theorem fX6_19 : FL RX6 19 6 5 1 true (.array (.object "TypeTutor$Shape")) := ⟨RX6, TX6, tyX6, kc_X6, by decide, rfl, rfl, Or.inl q_407⟩
theorem fX6_19F : FLF RX6 19 6 5 1 (.array (.object "TypeTutor$Shape")) := ⟨RX6, TX6, tyX6, kc_X6, by decide, rfl, rfl, rfl, q_407⟩
theorem q_726 : Cond.methodLink RX6 23 yX6_termAt ∈ gw := gw_in (t_in_3 (List.mem_of_getElem? (i := 91) rfl)) rfl
theorem lX6_23 : LKV RX6 23 mX6_termAt 6 1 := ⟨cdX6_termAt, by decide, by decide +kernel, q_490, q_0, Or.inl q_726, _, _, _, kc_X6⟩
theorem q_727 : Cond.methodLink RX6 27 yX6_keptAt ∈ gw := gw_in (t_in_3 (List.mem_of_getElem? (i := 92) rfl)) rfl
theorem lX6_27 : LKV RX6 27 mX6_keptAt 6 1 := ⟨cdX6_keptAt, by decide, by decide +kernel, q_645, q_30, Or.inl q_727, _, _, _, kc_X6⟩
theorem q_409 : Cond.fieldLink RX6 31 "TypeTutor$State" "count" "I" ∈ gw := gw_in (t_in_2 (List.mem_of_getElem? (i := 14) rfl)) rfl
theorem fX6_31 : FL RX6 31 6 5 2 false .int := ⟨RX6, TX6, tyX6, kc_X6, by decide, rfl, rfl, Or.inl q_409⟩
theorem q_410 : Cond.fieldLink RX6 35 "TypeTutor$State" "given" "I" ∈ gw := gw_in (t_in_2 (List.mem_of_getElem? (i := 15) rfl)) rfl
theorem fX6_35 : FL RX6 35 6 5 3 false .int := ⟨RX6, TX6, tyX6, kc_X6, by decide, rfl, rfl, Or.inl q_410⟩
theorem q_412 : Cond.fieldLink RX6 38 "TypeTutor$State" "everKept" "I" ∈ gw := gw_in (t_in_2 (List.mem_of_getElem? (i := 17) rfl)) rfl
theorem fX6_38 : FL RX6 38 6 5 4 false .int := ⟨RX6, TX6, tyX6, kc_X6, by decide, rfl, rfl, Or.inl q_412⟩
theorem q_1180 : Cond.fieldLinkNest RX6 47 "TypeTutor$Term" "count" "I" RX10 ∈ lw_tbl := t_in_5 (List.mem_of_getElem? (i := 65) rfl)
theorem fX6_47 : FL RX6 47 7 2 1 false .int := ⟨RX7, TX7, tyX7, kc_X7, by decide, rfl, rfl, Or.inr ⟨_, q_1180⟩⟩
theorem q_1552 : Cond.methodLink RX6 48 yX6_nodesOf ∈ gw := gw_in (t_in_6 (List.mem_of_getElem? (i := 197) rfl)) rfl
theorem q_1554 : Cond.instanceMethod yX6_nodesOf ∈ gw := gw_in (t_in_6 (List.mem_of_getElem? (i := 199) rfl)) rfl
theorem q_83 : Cond.selects RX6 yX6_nodesOf yX6_nodesOf ∈ gw := gw_in (lw_i (p_in_6 (List.mem_of_getElem? (i := 3) rfl))) rfl
theorem lX6_48 : LKV RX6 48 mX6_nodesOf 6 1 := ⟨cdX6_nodesOf, by decide, by decide +kernel, q_1554, q_83, Or.inl q_1552, _, _, _, kc_X6⟩
theorem q_1176 : Cond.fieldLink RX7 11 "TypeTutor$Term" "rows" "[[I" ∈ gw := gw_in (t_in_5 (List.mem_of_getElem? (i := 61) rfl)) rfl
theorem fX7_11 : FL RX7 11 7 2 0 true (.array (.array .int)) := ⟨RX7, TX7, tyX7, kc_X7, by decide, rfl, rfl, Or.inl q_1176⟩
theorem fX7_11F : FLF RX7 11 7 2 0 (.array (.array .int)) := ⟨RX7, TX7, tyX7, kc_X7, by decide, rfl, rfl, rfl, q_1176⟩
theorem q_1177 : Cond.fieldLink RX7 16 "TypeTutor$Term" "count" "I" ∈ gw := gw_in (t_in_5 (List.mem_of_getElem? (i := 62) rfl)) rfl
theorem fX7_16 : FL RX7 16 7 2 1 false .int := ⟨RX7, TX7, tyX7, kc_X7, by decide, rfl, rfl, Or.inl q_1177⟩
theorem q_607 : Cond.methodLink RX7 20 yX7_hasNode ∈ gw := gw_in (t_in_2 (List.mem_of_getElem? (i := 212) rfl)) rfl
theorem lX7_20 : LKV RX7 20 mX7_hasNode 7 1 := ⟨cdX7_hasNode, by decide, by decide +kernel, q_609, q_23, Or.inl q_607, _, _, _, kc_X7⟩
theorem q_611 : Cond.methodLinkNest RX7 24 yX10_at RX10 ∈ lw_tbl := t_in_2 (List.mem_of_getElem? (i := 216) rfl)
theorem lX7_24 : LKS RX7 24 mX10_at 2 := ⟨cdX10_at, by decide, by decide +kernel, q_546, Or.inr ⟨_, q_611⟩⟩
theorem q_1202 : Cond.methodLinkNest RX7 28 yX10_put RX10 ∈ lw_tbl := t_in_5 (List.mem_of_getElem? (i := 87) rfl)
theorem lX7_28 : LKS RX7 28 mX10_put 3 := ⟨cdX10_put, by decide, by decide +kernel, q_529, Or.inr ⟨_, q_1202⟩⟩
theorem q_673 : Cond.methodLink RX7 32 yX7_of ∈ gw := gw_in (t_in_3 (List.mem_of_getElem? (i := 38) rfl)) rfl
theorem lX7_32 : LKV RX7 32 mX7_of 7 2 := ⟨cdX7_of, by decide, by decide +kernel, q_604, q_22, Or.inl q_673, _, _, _, kc_X7⟩
theorem q_1216 : Cond.methodLink RX7 36 yX7_parentOf ∈ gw := gw_in (t_in_5 (List.mem_of_getElem? (i := 101) rfl)) rfl
theorem lX7_36 : LKV RX7 36 mX7_parentOf 7 1 := ⟨cdX7_parentOf, by decide, by decide +kernel, q_671, q_36, Or.inl q_1216, _, _, _, kc_X7⟩
theorem q_1662 : Cond.methodLink RX7 40 yX7_isBracketed ∈ gw := gw_in (t_in_7 (List.mem_of_getElem? (i := 67) rfl)) rfl
theorem q_1664 : Cond.instanceMethod yX7_isBracketed ∈ gw := gw_in (t_in_7 (List.mem_of_getElem? (i := 69) rfl)) rfl
theorem q_87 : Cond.selects RX7 yX7_isBracketed yX7_isBracketed ∈ gw := gw_in (lw_i (p_in_6 (List.mem_of_getElem? (i := 7) rfl))) rfl
theorem lX7_40 : LKV RX7 40 mX7_isBracketed 7 1 := ⟨cdX7_isBracketed, by decide, by decide +kernel, q_1664, q_87, Or.inl q_1662, _, _, _, kc_X7⟩
theorem q_1667 : Cond.methodLink RX7 49 yX7_writeEnds ∈ gw := gw_in (t_in_7 (List.mem_of_getElem? (i := 72) rfl)) rfl
theorem q_1669 : Cond.instanceMethod yX7_writeEnds ∈ gw := gw_in (t_in_7 (List.mem_of_getElem? (i := 74) rfl)) rfl
theorem q_88 : Cond.selects RX7 yX7_writeEnds yX7_writeEnds ∈ gw := gw_in (lw_i (p_in_6 (List.mem_of_getElem? (i := 8) rfl))) rfl
theorem lX7_49 : LKV RX7 49 mX7_writeEnds 7 2 := ⟨cdX7_writeEnds, by decide, by decide +kernel, q_1669, q_88, Or.inl q_1667, _, _, _, kc_X7⟩
theorem q_238 : Cond.fieldLink RX8 9 "TypeTutor$TermReader" "open" "[I" ∈ gw := gw_in (t_in_1 (List.mem_of_getElem? (i := 83) rfl)) rfl
theorem fX8_9 : FL RX8 9 8 4 0 true (.array .int) := ⟨RX8, TX8, tyX8, kc_X8, by decide, rfl, rfl, Or.inl q_238⟩
theorem fX8_9F : FLF RX8 9 8 4 0 (.array .int) := ⟨RX8, TX8, tyX8, kc_X8, by decide, rfl, rfl, rfl, q_238⟩
theorem q_240 : Cond.fieldLink RX8 15 "TypeTutor$TermReader" "waiting" "[I" ∈ gw := gw_in (t_in_1 (List.mem_of_getElem? (i := 85) rfl)) rfl
theorem fX8_15 : FL RX8 15 8 4 2 true (.array .int) := ⟨RX8, TX8, tyX8, kc_X8, by decide, rfl, rfl, Or.inl q_240⟩
theorem fX8_15F : FLF RX8 15 8 4 2 (.array .int) := ⟨RX8, TX8, tyX8, kc_X8, by decide, rfl, rfl, rfl, q_240⟩
theorem q_239 : Cond.fieldLink RX8 18 "TypeTutor$TermReader" "openCount" "I" ∈ gw := gw_in (t_in_1 (List.mem_of_getElem? (i := 84) rfl)) rfl
theorem fX8_18 : FL RX8 18 8 4 1 false .int := ⟨RX8, TX8, tyX8, kc_X8, by decide, rfl, rfl, Or.inl q_239⟩
theorem q_776 : Cond.methodLink RX8 32 yX8_placeBehind ∈ gw := gw_in (t_in_3 (List.mem_of_getElem? (i := 141) rfl)) rfl
theorem q_778 : Cond.instanceMethod yX8_placeBehind ∈ gw := gw_in (t_in_3 (List.mem_of_getElem? (i := 143) rfl)) rfl
theorem q_47 : Cond.selects RX8 yX8_placeBehind yX8_placeBehind ∈ gw := gw_in (lw_i (p_in_3 (List.mem_of_getElem? (i := 15) rfl))) rfl
theorem lX8_32 : LKV RX8 32 mX8_placeBehind 8 2 := ⟨cdX8_placeBehind, by decide, by decide +kernel, q_778, q_47, Or.inl q_776, _, _, _, kc_X8⟩
theorem q_780 : Cond.methodLink RX8 36 yX8_placeBehindPart ∈ gw := gw_in (t_in_3 (List.mem_of_getElem? (i := 145) rfl)) rfl
theorem q_782 : Cond.instanceMethod yX8_placeBehindPart ∈ gw := gw_in (t_in_3 (List.mem_of_getElem? (i := 147) rfl)) rfl
theorem q_48 : Cond.selects RX8 yX8_placeBehindPart yX8_placeBehindPart ∈ gw := gw_in (lw_i (p_in_4 (List.mem_of_getElem? (i := 0) rfl))) rfl
theorem lX8_36 : LKV RX8 36 mX8_placeBehindPart 8 1 := ⟨cdX8_placeBehindPart, by decide, by decide +kernel, q_782, q_48, Or.inl q_780, _, _, _, kc_X8⟩
theorem q_792 : Cond.methodLinkNest RX8 40 yX10_isLetter RX10 ∈ lw_tbl := t_in_3 (List.mem_of_getElem? (i := 157) rfl)
theorem q_793 : Cond.static yX10_isLetter ∈ gw := gw_in (t_in_3 (List.mem_of_getElem? (i := 158) rfl)) rfl
theorem lX8_40 : LKS RX8 40 mX10_isLetter 1 := ⟨cdX10_isLetter, by decide, by decide +kernel, q_793, Or.inr ⟨_, q_792⟩⟩
theorem q_784 : Cond.methodLink RX8 44 yX8_placeInside ∈ gw := gw_in (t_in_3 (List.mem_of_getElem? (i := 149) rfl)) rfl
theorem q_786 : Cond.instanceMethod yX8_placeInside ∈ gw := gw_in (t_in_3 (List.mem_of_getElem? (i := 151) rfl)) rfl
theorem q_49 : Cond.selects RX8 yX8_placeInside yX8_placeInside ∈ gw := gw_in (lw_i (p_in_4 (List.mem_of_getElem? (i := 1) rfl))) rfl
theorem lX8_44 : LKV RX8 44 mX8_placeInside 8 1 := ⟨cdX8_placeInside, by decide, by decide +kernel, q_786, q_49, Or.inl q_784, _, _, _, kc_X8⟩
theorem q_801 : Cond.methodLink RX8 47 yX8_placeOutside ∈ gw := gw_in (t_in_3 (List.mem_of_getElem? (i := 166) rfl)) rfl
theorem q_803 : Cond.instanceMethod yX8_placeOutside ∈ gw := gw_in (t_in_3 (List.mem_of_getElem? (i := 168) rfl)) rfl
theorem q_50 : Cond.selects RX8 yX8_placeOutside yX8_placeOutside ∈ gw := gw_in (lw_i (p_in_4 (List.mem_of_getElem? (i := 2) rfl))) rfl
theorem lX8_47 : LKV RX8 47 mX8_placeOutside 8 2 := ⟨cdX8_placeOutside, by decide, by decide +kernel, q_803, q_50, Or.inl q_801, _, _, _, kc_X8⟩
theorem q_789 : Cond.methodLink RX8 51 yX8_kindOf ∈ gw := gw_in (t_in_3 (List.mem_of_getElem? (i := 154) rfl)) rfl
theorem q_790 : Cond.static yX8_kindOf ∈ gw := gw_in (t_in_3 (List.mem_of_getElem? (i := 155) rfl)) rfl
theorem lX8_51 : LKS RX8 51 mX8_kindOf 1 := ⟨cdX8_kindOf, by decide, by decide +kernel, q_790, Or.inl q_789⟩
theorem q_788 : Cond.methodLinkNest RX8 54 yX10_put RX10 ∈ lw_tbl := t_in_3 (List.mem_of_getElem? (i := 153) rfl)
theorem lX8_54 : LKS RX8 54 mX10_put 3 := ⟨cdX10_put, by decide, by decide +kernel, q_529, Or.inr ⟨_, q_788⟩⟩
theorem q_805 : Cond.methodLinkNest RX8 58 yX10_at RX10 ∈ lw_tbl := t_in_3 (List.mem_of_getElem? (i := 170) rfl)
theorem lX8_58 : LKS RX8 58 mX10_at 2 := ⟨cdX10_at, by decide, by decide +kernel, q_546, Or.inr ⟨_, q_805⟩⟩
theorem q_795 : Cond.methodLinkNest RX8 62 yX10_isCapitalSign RX10 ∈ lw_tbl := t_in_3 (List.mem_of_getElem? (i := 160) rfl)
theorem lX8_62 : LKS RX8 62 mX10_isCapitalSign 1 := ⟨cdX10_isCapitalSign, by decide, by decide +kernel, q_796, Or.inr ⟨_, q_795⟩⟩
theorem q_798 : Cond.methodLinkNest RX8 65 yX10_isDigit RX10 ∈ lw_tbl := t_in_3 (List.mem_of_getElem? (i := 163) rfl)
theorem lX8_65 : LKS RX8 65 mX10_isDigit 1 := ⟨cdX10_isDigit, by decide, by decide +kernel, q_799, Or.inr ⟨_, q_798⟩⟩
theorem q_1169 : Cond.classLink RX8 68 RX7 ∈ gw := gw_in (t_in_5 (List.mem_of_getElem? (i := 54) rfl)) rfl
theorem q_605 : Cond.instantiable RX7 2 ∈ gw := gw_in (t_in_2 (List.mem_of_getElem? (i := 210) rfl)) rfl
theorem nX8_68 : NL RX8 68 7 2 := ⟨RX7, TX7, tyX7, kc_X7, q_1169, q_605, q_186⟩
theorem q_1170 : Cond.methodLinkNest RX8 70 yX7_init RX10 ∈ lw_tbl := t_in_5 (List.mem_of_getElem? (i := 55) rfl)
theorem q_1171 : Cond.instanceMethod yX7_init ∈ gw := gw_in (t_in_5 (List.mem_of_getElem? (i := 56) rfl)) rfl
theorem lX8_70 : LKI RX8 70 mX7_init 1 := ⟨cdX7_init, by decide, by decide +kernel, q_1171, rfl, rfl, Or.inr ⟨_, q_1170⟩⟩
theorem q_241 : Cond.fieldLink RX8 73 "TypeTutor$TermReader" "waitingCount" "I" ∈ gw := gw_in (t_in_1 (List.mem_of_getElem? (i := 86) rfl)) rfl
theorem fX8_73 : FL RX8 73 8 4 3 false .int := ⟨RX8, TX8, tyX8, kc_X8, by decide, rfl, rfl, Or.inl q_241⟩
theorem q_1187 : Cond.methodLink RX8 76 yX8_partsFrom ∈ gw := gw_in (t_in_5 (List.mem_of_getElem? (i := 72) rfl)) rfl
theorem q_1188 : Cond.static yX8_partsFrom ∈ gw := gw_in (t_in_5 (List.mem_of_getElem? (i := 73) rfl)) rfl
theorem lX8_76 : LKS RX8 76 mX8_partsFrom 2 := ⟨cdX8_partsFrom, by decide, by decide +kernel, q_1188, Or.inl q_1187⟩
theorem q_1190 : Cond.methodLink RX8 80 yX8_addApplications ∈ gw := gw_in (t_in_5 (List.mem_of_getElem? (i := 75) rfl)) rfl
theorem q_1192 : Cond.instanceMethod yX8_addApplications ∈ gw := gw_in (t_in_5 (List.mem_of_getElem? (i := 77) rfl)) rfl
theorem q_54 : Cond.selects RX8 yX8_addApplications yX8_addApplications ∈ gw := gw_in (lw_i (p_in_4 (List.mem_of_getElem? (i := 6) rfl))) rfl
theorem lX8_80 : LKV RX8 80 mX8_addApplications 8 2 := ⟨cdX8_addApplications, by decide, by decide +kernel, q_1192, q_54, Or.inl q_1190, _, _, _, kc_X8⟩
theorem q_1204 : Cond.methodLinkNest RX8 84 yX10_signAt RX10 ∈ lw_tbl := t_in_5 (List.mem_of_getElem? (i := 89) rfl)
theorem lX8_84 : LKS RX8 84 mX10_signAt 2 := ⟨cdX10_signAt, by decide, by decide +kernel, q_1205, Or.inr ⟨_, q_1204⟩⟩
theorem q_1194 : Cond.methodLink RX8 88 yX8_addNode ∈ gw := gw_in (t_in_5 (List.mem_of_getElem? (i := 79) rfl)) rfl
theorem q_1196 : Cond.instanceMethod yX8_addNode ∈ gw := gw_in (t_in_5 (List.mem_of_getElem? (i := 81) rfl)) rfl
theorem q_55 : Cond.selects RX8 yX8_addNode yX8_addNode ∈ gw := gw_in (lw_i (p_in_4 (List.mem_of_getElem? (i := 7) rfl))) rfl
theorem lX8_88 : LKV RX8 88 mX8_addNode 8 4 := ⟨cdX8_addNode, by decide, by decide +kernel, q_1196, q_55, Or.inl q_1194, _, _, _, kc_X8⟩
theorem q_1209 : Cond.methodLink RX8 92 yX8_finish ∈ gw := gw_in (t_in_5 (List.mem_of_getElem? (i := 94) rfl)) rfl
theorem q_1210 : Cond.static yX8_finish ∈ gw := gw_in (t_in_5 (List.mem_of_getElem? (i := 95) rfl)) rfl
theorem lX8_92 : LKS RX8 92 mX8_finish 1 := ⟨cdX8_finish, by decide, by decide +kernel, q_1210, Or.inl q_1209⟩
theorem q_1181 : Cond.fieldLinkNest RX8 96 "TypeTutor$Term" "count" "I" RX10 ∈ lw_tbl := t_in_5 (List.mem_of_getElem? (i := 66) rfl)
theorem fX8_96 : FL RX8 96 7 2 1 false .int := ⟨RX7, TX7, tyX7, kc_X7, by decide, rfl, rfl, Or.inr ⟨_, q_1181⟩⟩
theorem q_1198 : Cond.methodLinkNest RX8 99 yX7_set RX10 ∈ lw_tbl := t_in_5 (List.mem_of_getElem? (i := 83) rfl)
theorem q_1200 : Cond.instanceMethod yX7_set ∈ gw := gw_in (t_in_5 (List.mem_of_getElem? (i := 85) rfl)) rfl
theorem q_56 : Cond.selects RX7 yX7_set yX7_set ∈ gw := gw_in (lw_i (p_in_4 (List.mem_of_getElem? (i := 8) rfl))) rfl
theorem lX8_99 : LKV RX8 99 mX7_set 7 3 := ⟨cdX7_set, by decide, by decide +kernel, q_1200, q_56, Or.inr ⟨_, q_1198⟩, _, _, _, kc_X7⟩
theorem q_1203 : Cond.methodLinkNest RX8 103 yX7_of RX10 ∈ lw_tbl := t_in_5 (List.mem_of_getElem? (i := 88) rfl)
theorem lX8_103 : LKV RX8 103 mX7_of 7 2 := ⟨cdX7_of, by decide, by decide +kernel, q_604, q_22, Or.inr ⟨_, q_1203⟩, _, _, _, kc_X7⟩
theorem q_1212 : Cond.methodLinkNest RX8 107 yX7_binderOf RX10 ∈ lw_tbl := t_in_5 (List.mem_of_getElem? (i := 97) rfl)
theorem q_1214 : Cond.instanceMethod yX7_binderOf ∈ gw := gw_in (t_in_5 (List.mem_of_getElem? (i := 99) rfl)) rfl
theorem q_57 : Cond.selects RX7 yX7_binderOf yX7_binderOf ∈ gw := gw_in (lw_i (p_in_4 (List.mem_of_getElem? (i := 9) rfl))) rfl
theorem lX8_107 : LKV RX8 107 mX7_binderOf 7 1 := ⟨cdX7_binderOf, by decide, by decide +kernel, q_1214, q_57, Or.inr ⟨_, q_1212⟩, _, _, _, kc_X7⟩
theorem q_264 : Cond.fieldLink RX9 9 "TypeTutor$Types" "from" "[I" ∈ gw := gw_in (t_in_1 (List.mem_of_getElem? (i := 109) rfl)) rfl
theorem fX9_9 : FL RX9 9 9 15 0 false (.array .int) := ⟨RX9, TX9, tyX9, kc_X9, by decide, rfl, rfl, Or.inl q_264⟩
theorem q_265 : Cond.fieldLink RX9 15 "TypeTutor$Types" "to" "[I" ∈ gw := gw_in (t_in_1 (List.mem_of_getElem? (i := 110) rfl)) rfl
theorem fX9_15 : FL RX9 15 9 15 1 false (.array .int) := ⟨RX9, TX9, tyX9, kc_X9, by decide, rfl, rfl, Or.inl q_265⟩
theorem q_266 : Cond.fieldLink RX9 18 "TypeTutor$Types" "link" "[I" ∈ gw := gw_in (t_in_1 (List.mem_of_getElem? (i := 111) rfl)) rfl
theorem fX9_18 : FL RX9 18 9 15 2 false (.array .int) := ⟨RX9, TX9, tyX9, kc_X9, by decide, rfl, rfl, Or.inl q_266⟩
theorem q_267 : Cond.fieldLink RX9 21 "TypeTutor$Types" "mark" "[I" ∈ gw := gw_in (t_in_1 (List.mem_of_getElem? (i := 112) rfl)) rfl
theorem fX9_21 : FL RX9 21 9 15 3 false (.array .int) := ⟨RX9, TX9, tyX9, kc_X9, by decide, rfl, rfl, Or.inl q_267⟩
theorem q_270 : Cond.fieldLink RX9 24 "TypeTutor$Types" "ones" "[I" ∈ gw := gw_in (t_in_1 (List.mem_of_getElem? (i := 115) rfl)) rfl
theorem fX9_24 : FL RX9 24 9 15 6 false (.array .int) := ⟨RX9, TX9, tyX9, kc_X9, by decide, rfl, rfl, Or.inl q_270⟩
theorem q_271 : Cond.fieldLink RX9 27 "TypeTutor$Types" "others" "[I" ∈ gw := gw_in (t_in_1 (List.mem_of_getElem? (i := 116) rfl)) rfl
theorem fX9_27 : FL RX9 27 9 15 7 false (.array .int) := ⟨RX9, TX9, tyX9, kc_X9, by decide, rfl, rfl, Or.inl q_271⟩
theorem q_272 : Cond.fieldLink RX9 30 "TypeTutor$Types" "joins" "[I" ∈ gw := gw_in (t_in_1 (List.mem_of_getElem? (i := 117) rfl)) rfl
theorem fX9_30 : FL RX9 30 9 15 8 false (.array .int) := ⟨RX9, TX9, tyX9, kc_X9, by decide, rfl, rfl, Or.inl q_272⟩
theorem q_275 : Cond.fieldLink RX9 33 "TypeTutor$Types" "trail" "[I" ∈ gw := gw_in (t_in_1 (List.mem_of_getElem? (i := 120) rfl)) rfl
theorem fX9_33 : FL RX9 33 9 15 10 false (.array .int) := ⟨RX9, TX9, tyX9, kc_X9, by decide, rfl, rfl, Or.inl q_275⟩
theorem q_277 : Cond.fieldLink RX9 36 "TypeTutor$Types" "numbered" "[I" ∈ gw := gw_in (t_in_1 (List.mem_of_getElem? (i := 122) rfl)) rfl
theorem fX9_36 : FL RX9 36 9 15 12 true (.array .int) := ⟨RX9, TX9, tyX9, kc_X9, by decide, rfl, rfl, Or.inl q_277⟩
theorem fX9_36F : FLF RX9 36 9 15 12 (.array .int) := ⟨RX9, TX9, tyX9, kc_X9, by decide, rfl, rfl, rfl, q_277⟩
theorem q_268 : Cond.fieldLink RX9 39 "TypeTutor$Types" "count" "I" ∈ gw := gw_in (t_in_1 (List.mem_of_getElem? (i := 113) rfl)) rfl
theorem fX9_39 : FL RX9 39 9 15 4 false .int := ⟨RX9, TX9, tyX9, kc_X9, by decide, rfl, rfl, Or.inl q_268⟩
theorem q_269 : Cond.fieldLink RX9 43 "TypeTutor$Types" "latestMark" "I" ∈ gw := gw_in (t_in_1 (List.mem_of_getElem? (i := 114) rfl)) rfl
theorem fX9_43 : FL RX9 43 9 15 5 false .int := ⟨RX9, TX9, tyX9, kc_X9, by decide, rfl, rfl, Or.inl q_269⟩
theorem q_273 : Cond.fieldLink RX9 46 "TypeTutor$Types" "pairs" "I" ∈ gw := gw_in (t_in_1 (List.mem_of_getElem? (i := 118) rfl)) rfl
theorem fX9_46 : FL RX9 46 9 15 9 false .int := ⟨RX9, TX9, tyX9, kc_X9, by decide, rfl, rfl, Or.inl q_273⟩
theorem q_508 : Cond.methodLink RX9 49 yX9_add ∈ gw := gw_in (t_in_2 (List.mem_of_getElem? (i := 113) rfl)) rfl
theorem lX9_49 : LKV RX9 49 mX9_add 9 2 := ⟨cdX9_add, by decide, by decide +kernel, q_510, q_5, Or.inl q_508, _, _, _, kc_X9⟩
theorem q_528 : Cond.methodLinkNest RX9 59 yX10_put RX10 ∈ lw_tbl := t_in_2 (List.mem_of_getElem? (i := 133) rfl)
theorem lX9_59 : LKS RX9 59 mX10_put 3 := ⟨cdX10_put, by decide, by decide +kernel, q_529, Or.inr ⟨_, q_528⟩⟩
theorem q_545 : Cond.methodLinkNest RX9 63 yX10_at RX10 ∈ lw_tbl := t_in_2 (List.mem_of_getElem? (i := 150) rfl)
theorem lX9_63 : LKS RX9 63 mX10_at 2 := ⟨cdX10_at, by decide, by decide +kernel, q_546, Or.inr ⟨_, q_545⟩⟩
theorem q_548 : Cond.methodLink RX9 67 yX9_known ∈ gw := gw_in (t_in_2 (List.mem_of_getElem? (i := 153) rfl)) rfl
theorem q_550 : Cond.instanceMethod yX9_known ∈ gw := gw_in (t_in_2 (List.mem_of_getElem? (i := 155) rfl)) rfl
theorem q_9 : Cond.selects RX9 yX9_known yX9_known ∈ gw := gw_in (lw_i (p_in_1 (List.mem_of_getElem? (i := 9) rfl))) rfl
theorem lX9_67 : LKV RX9 67 mX9_known 9 1 := ⟨cdX9_known, by decide, by decide +kernel, q_550, q_9, Or.inl q_548, _, _, _, kc_X9⟩
theorem q_552 : Cond.methodLink RX9 71 yX9_kindOf ∈ gw := gw_in (t_in_2 (List.mem_of_getElem? (i := 157) rfl)) rfl
theorem q_554 : Cond.instanceMethod yX9_kindOf ∈ gw := gw_in (t_in_2 (List.mem_of_getElem? (i := 159) rfl)) rfl
theorem q_10 : Cond.selects RX9 yX9_kindOf yX9_kindOf ∈ gw := gw_in (lw_i (p_in_1 (List.mem_of_getElem? (i := 10) rfl))) rfl
theorem lX9_71 : LKV RX9 71 mX9_kindOf 9 1 := ⟨cdX9_kindOf, by decide, by decide +kernel, q_554, q_10, Or.inl q_552, _, _, _, kc_X9⟩
theorem q_556 : Cond.methodLink RX9 74 yX9_become ∈ gw := gw_in (t_in_2 (List.mem_of_getElem? (i := 161) rfl)) rfl
theorem q_558 : Cond.instanceMethod yX9_become ∈ gw := gw_in (t_in_2 (List.mem_of_getElem? (i := 163) rfl)) rfl
theorem q_11 : Cond.selects RX9 yX9_become yX9_become ∈ gw := gw_in (lw_i (p_in_1 (List.mem_of_getElem? (i := 11) rfl))) rfl
theorem lX9_74 : LKV RX9 74 mX9_become 9 2 := ⟨cdX9_become, by decide, by decide +kernel, q_558, q_11, Or.inl q_556, _, _, _, kc_X9⟩
theorem q_577 : Cond.methodLink RX9 77 yX9_addPair ∈ gw := gw_in (t_in_2 (List.mem_of_getElem? (i := 182) rfl)) rfl
theorem lX9_77 : LKV RX9 77 mX9_addPair 9 3 := ⟨cdX9_addPair, by decide, by decide +kernel, q_579, q_16, Or.inl q_577, _, _, _, kc_X9⟩
theorem q_278 : Cond.fieldLink RX9 81 "TypeTutor$Types" "partOne" "I" ∈ gw := gw_in (t_in_1 (List.mem_of_getElem? (i := 123) rfl)) rfl
theorem fX9_81 : FL RX9 81 9 15 13 false .int := ⟨RX9, TX9, tyX9, kc_X9, by decide, rfl, rfl, Or.inl q_278⟩
theorem q_280 : Cond.fieldLink RX9 84 "TypeTutor$Types" "partTwo" "I" ∈ gw := gw_in (t_in_1 (List.mem_of_getElem? (i := 125) rfl)) rfl
theorem fX9_84 : FL RX9 84 9 15 14 false .int := ⟨RX9, TX9, tyX9, kc_X9, by decide, rfl, rfl, Or.inl q_280⟩
theorem q_560 : Cond.methodLink RX9 87 yX9_newMark ∈ gw := gw_in (t_in_2 (List.mem_of_getElem? (i := 165) rfl)) rfl
theorem lX9_87 : LKV RX9 87 mX9_newMark 9 0 := ⟨cdX9_newMark, by decide, by decide +kernel, q_562, q_12, Or.inl q_560, _, _, _, kc_X9⟩
theorem q_564 : Cond.methodLink RX9 91 yX9_markAll ∈ gw := gw_in (t_in_2 (List.mem_of_getElem? (i := 169) rfl)) rfl
theorem lX9_91 : LKV RX9 91 mX9_markAll 9 2 := ⟨cdX9_markAll, by decide, by decide +kernel, q_566, q_13, Or.inl q_564, _, _, _, kc_X9⟩
theorem q_276 : Cond.fieldLink RX9 95 "TypeTutor$Types" "trailCount" "I" ∈ gw := gw_in (t_in_1 (List.mem_of_getElem? (i := 121) rfl)) rfl
theorem fX9_95 : FL RX9 95 9 15 11 false .int := ⟨RX9, TX9, tyX9, kc_X9, by decide, rfl, rfl, Or.inl q_276⟩
theorem q_568 : Cond.methodLink RX9 98 yX9_addTrail ∈ gw := gw_in (t_in_2 (List.mem_of_getElem? (i := 173) rfl)) rfl
theorem q_570 : Cond.instanceMethod yX9_addTrail ∈ gw := gw_in (t_in_2 (List.mem_of_getElem? (i := 175) rfl)) rfl
theorem q_14 : Cond.selects RX9 yX9_addTrail yX9_addTrail ∈ gw := gw_in (lw_i (p_in_1 (List.mem_of_getElem? (i := 14) rfl))) rfl
theorem lX9_98 : LKV RX9 98 mX9_addTrail 9 1 := ⟨cdX9_addTrail, by decide, by decide +kernel, q_570, q_14, Or.inl q_568, _, _, _, kc_X9⟩
theorem q_573 : Cond.methodLink RX9 103 yX9_takeTrail ∈ gw := gw_in (t_in_2 (List.mem_of_getElem? (i := 178) rfl)) rfl
theorem q_575 : Cond.instanceMethod yX9_takeTrail ∈ gw := gw_in (t_in_2 (List.mem_of_getElem? (i := 180) rfl)) rfl
theorem q_15 : Cond.selects RX9 yX9_takeTrail yX9_takeTrail ∈ gw := gw_in (lw_i (p_in_1 (List.mem_of_getElem? (i := 15) rfl))) rfl
theorem lX9_103 : LKV RX9 103 mX9_takeTrail 9 0 := ⟨cdX9_takeTrail, by decide, by decide +kernel, q_575, q_15, Or.inl q_573, _, _, _, kc_X9⟩
theorem q_390 : Cond.fieldLinkNest RX9 106 "TypeTutor$Shape" "length" "I" RX10 ∈ lw_tbl := t_in_1 (List.mem_of_getElem? (i := 235) rfl)
theorem fX9_106 : FL RX9 106 5 2 1 false .int := ⟨RX5, TX5, tyX5, kc_X5, by decide, rfl, rfl, Or.inr ⟨_, q_390⟩⟩
theorem q_679 : Cond.methodLinkNest RX9 111 yX5_add RX10 ∈ lw_tbl := t_in_3 (List.mem_of_getElem? (i := 44) rfl)
theorem lX9_111 : LKV RX9 111 mX5_add 5 1 := ⟨cdX5_add, by decide, by decide +kernel, q_681, q_38, Or.inr ⟨_, q_679⟩, _, _, _, kc_X5⟩
theorem q_684 : Cond.methodLink RX9 113 yX9_numberOf ∈ gw := gw_in (t_in_3 (List.mem_of_getElem? (i := 49) rfl)) rfl
theorem q_686 : Cond.instanceMethod yX9_numberOf ∈ gw := gw_in (t_in_3 (List.mem_of_getElem? (i := 51) rfl)) rfl
theorem q_39 : Cond.selects RX9 yX9_numberOf yX9_numberOf ∈ gw := gw_in (lw_i (p_in_3 (List.mem_of_getElem? (i := 7) rfl))) rfl
theorem lX9_113 : LKV RX9 113 mX9_numberOf 9 2 := ⟨cdX9_numberOf, by decide, by decide +kernel, q_686, q_39, Or.inl q_684, _, _, _, kc_X9⟩
theorem q_638 : Cond.methodLinkNest RX9 125 yX5_sign RX10 ∈ lw_tbl := t_in_3 (List.mem_of_getElem? (i := 3) rfl)
theorem lX9_125 : LKV RX9 125 mX5_sign 5 1 := ⟨cdX5_sign, by decide, by decide +kernel, q_640, q_29, Or.inr ⟨_, q_638⟩, _, _, _, kc_X5⟩
theorem q_1773 : Cond.fieldLink RX11 7 "TypeTutorModel" "fault" "I" ∈ gw := gw_in (t_in_7 (List.mem_of_getElem? (i := 178) rfl)) rfl
theorem fX11_7 : FL RX11 7 11 82 9 false .int := ⟨RX11, TX11, tyX11, kc_X11, by decide, rfl, rfl, Or.inl q_1773⟩
theorem q_1775 : Cond.fieldLink RX11 13 "TypeTutorModel" "v" "[I" ∈ gw := gw_in (t_in_7 (List.mem_of_getElem? (i := 180) rfl)) rfl
theorem fX11_13 : FL RX11 13 11 82 11 true (.array .int) := ⟨RX11, TX11, tyX11, kc_X11, by decide, rfl, rfl, Or.inl q_1775⟩
theorem fX11_13F : FLF RX11 13 11 82 11 (.array .int) := ⟨RX11, TX11, tyX11, kc_X11, by decide, rfl, rfl, rfl, q_1775⟩
theorem q_1776 : Cond.fieldLink RX11 17 "TypeTutorModel" "before" "[I" ∈ gw := gw_in (t_in_7 (List.mem_of_getElem? (i := 181) rfl)) rfl
theorem fX11_17 : FL RX11 17 11 82 12 true (.array .int) := ⟨RX11, TX11, tyX11, kc_X11, by decide, rfl, rfl, Or.inl q_1776⟩
theorem fX11_17F : FLF RX11 17 11 82 12 (.array .int) := ⟨RX11, TX11, tyX11, kc_X11, by decide, rfl, rfl, rfl, q_1776⟩
theorem q_1777 : Cond.fieldLink RX11 20 "TypeTutorModel" "saved" "[I" ∈ gw := gw_in (t_in_7 (List.mem_of_getElem? (i := 182) rfl)) rfl
theorem fX11_20 : FL RX11 20 11 82 13 true (.array .int) := ⟨RX11, TX11, tyX11, kc_X11, by decide, rfl, rfl, Or.inl q_1777⟩
theorem fX11_20F : FLF RX11 20 11 82 13 (.array .int) := ⟨RX11, TX11, tyX11, kc_X11, by decide, rfl, rfl, rfl, q_1777⟩
theorem q_1778 : Cond.fieldLink RX11 23 "TypeTutorModel" "past" "[I" ∈ gw := gw_in (t_in_7 (List.mem_of_getElem? (i := 183) rfl)) rfl
theorem fX11_23 : FL RX11 23 11 82 14 true (.array .int) := ⟨RX11, TX11, tyX11, kc_X11, by decide, rfl, rfl, Or.inl q_1778⟩
theorem fX11_23F : FLF RX11 23 11 82 14 (.array .int) := ⟨RX11, TX11, tyX11, kc_X11, by decide, rfl, rfl, rfl, q_1778⟩
theorem q_1779 : Cond.fieldLink RX11 26 "TypeTutorModel" "frame" "[I" ∈ gw := gw_in (t_in_7 (List.mem_of_getElem? (i := 184) rfl)) rfl
theorem fX11_26 : FL RX11 26 11 82 15 true (.array .int) := ⟨RX11, TX11, tyX11, kc_X11, by decide, rfl, rfl, Or.inl q_1779⟩
theorem fX11_26F : FLF RX11 26 11 82 15 (.array .int) := ⟨RX11, TX11, tyX11, kc_X11, by decide, rfl, rfl, rfl, q_1779⟩
theorem q_1780 : Cond.fieldLink RX11 29 "TypeTutorModel" "done" "[I" ∈ gw := gw_in (t_in_7 (List.mem_of_getElem? (i := 185) rfl)) rfl
theorem fX11_29 : FL RX11 29 11 82 16 true (.array .int) := ⟨RX11, TX11, tyX11, kc_X11, by decide, rfl, rfl, Or.inl q_1780⟩
theorem fX11_29F : FLF RX11 29 11 82 16 (.array .int) := ⟨RX11, TX11, tyX11, kc_X11, by decide, rfl, rfl, rfl, q_1780⟩
theorem q_1781 : Cond.fieldLink RX11 32 "TypeTutorModel" "letter" "[I" ∈ gw := gw_in (t_in_7 (List.mem_of_getElem? (i := 186) rfl)) rfl
theorem fX11_32 : FL RX11 32 11 82 17 true (.array .int) := ⟨RX11, TX11, tyX11, kc_X11, by decide, rfl, rfl, Or.inl q_1781⟩
theorem fX11_32F : FLF RX11 32 11 82 17 (.array .int) := ⟨RX11, TX11, tyX11, kc_X11, by decide, rfl, rfl, rfl, q_1781⟩
theorem q_1782 : Cond.fieldLink RX11 35 "TypeTutorModel" "place" "[I" ∈ gw := gw_in (t_in_7 (List.mem_of_getElem? (i := 187) rfl)) rfl
theorem fX11_35 : FL RX11 35 11 82 18 true (.array .int) := ⟨RX11, TX11, tyX11, kc_X11, by decide, rfl, rfl, Or.inl q_1782⟩
theorem fX11_35F : FLF RX11 35 11 82 18 (.array .int) := ⟨RX11, TX11, tyX11, kc_X11, by decide, rfl, rfl, rfl, q_1782⟩
theorem q_1783 : Cond.fieldLink RX11 38 "TypeTutorModel" "bound" "[I" ∈ gw := gw_in (t_in_7 (List.mem_of_getElem? (i := 188) rfl)) rfl
theorem fX11_38 : FL RX11 38 11 82 19 true (.array .int) := ⟨RX11, TX11, tyX11, kc_X11, by decide, rfl, rfl, Or.inl q_1783⟩
theorem fX11_38F : FLF RX11 38 11 82 19 (.array .int) := ⟨RX11, TX11, tyX11, kc_X11, by decide, rfl, rfl, rfl, q_1783⟩
theorem q_1784 : Cond.fieldLink RX11 41 "TypeTutorModel" "rawKind" "[I" ∈ gw := gw_in (t_in_7 (List.mem_of_getElem? (i := 189) rfl)) rfl
theorem fX11_41 : FL RX11 41 11 82 20 true (.array .int) := ⟨RX11, TX11, tyX11, kc_X11, by decide, rfl, rfl, Or.inl q_1784⟩
theorem fX11_41F : FLF RX11 41 11 82 20 (.array .int) := ⟨RX11, TX11, tyX11, kc_X11, by decide, rfl, rfl, rfl, q_1784⟩
theorem q_1785 : Cond.fieldLink RX11 44 "TypeTutorModel" "rawSign" "[I" ∈ gw := gw_in (t_in_7 (List.mem_of_getElem? (i := 190) rfl)) rfl
theorem fX11_44 : FL RX11 44 11 82 21 true (.array .int) := ⟨RX11, TX11, tyX11, kc_X11, by decide, rfl, rfl, Or.inl q_1785⟩
theorem fX11_44F : FLF RX11 44 11 82 21 (.array .int) := ⟨RX11, TX11, tyX11, kc_X11, by decide, rfl, rfl, rfl, q_1785⟩
theorem q_1786 : Cond.fieldLink RX11 47 "TypeTutorModel" "rawFirst" "[I" ∈ gw := gw_in (t_in_7 (List.mem_of_getElem? (i := 191) rfl)) rfl
theorem fX11_47 : FL RX11 47 11 82 22 true (.array .int) := ⟨RX11, TX11, tyX11, kc_X11, by decide, rfl, rfl, Or.inl q_1786⟩
theorem fX11_47F : FLF RX11 47 11 82 22 (.array .int) := ⟨RX11, TX11, tyX11, kc_X11, by decide, rfl, rfl, rfl, q_1786⟩
theorem q_1787 : Cond.fieldLink RX11 50 "TypeTutorModel" "rawSecond" "[I" ∈ gw := gw_in (t_in_7 (List.mem_of_getElem? (i := 192) rfl)) rfl
theorem fX11_50 : FL RX11 50 11 82 23 true (.array .int) := ⟨RX11, TX11, tyX11, kc_X11, by decide, rfl, rfl, Or.inl q_1787⟩
theorem fX11_50F : FLF RX11 50 11 82 23 (.array .int) := ⟨RX11, TX11, tyX11, kc_X11, by decide, rfl, rfl, rfl, q_1787⟩
theorem q_1788 : Cond.fieldLink RX11 53 "TypeTutorModel" "rawAt" "[I" ∈ gw := gw_in (t_in_7 (List.mem_of_getElem? (i := 193) rfl)) rfl
theorem fX11_53 : FL RX11 53 11 82 24 true (.array .int) := ⟨RX11, TX11, tyX11, kc_X11, by decide, rfl, rfl, Or.inl q_1788⟩
theorem fX11_53F : FLF RX11 53 11 82 24 (.array .int) := ⟨RX11, TX11, tyX11, kc_X11, by decide, rfl, rfl, rfl, q_1788⟩
theorem q_1789 : Cond.fieldLink RX11 56 "TypeTutorModel" "kind" "[I" ∈ gw := gw_in (t_in_7 (List.mem_of_getElem? (i := 194) rfl)) rfl
theorem fX11_56 : FL RX11 56 11 82 25 true (.array .int) := ⟨RX11, TX11, tyX11, kc_X11, by decide, rfl, rfl, Or.inl q_1789⟩
theorem fX11_56F : FLF RX11 56 11 82 25 (.array .int) := ⟨RX11, TX11, tyX11, kc_X11, by decide, rfl, rfl, rfl, q_1789⟩
theorem q_1790 : Cond.fieldLink RX11 59 "TypeTutorModel" "sign" "[I" ∈ gw := gw_in (t_in_7 (List.mem_of_getElem? (i := 195) rfl)) rfl
theorem fX11_59 : FL RX11 59 11 82 26 true (.array .int) := ⟨RX11, TX11, tyX11, kc_X11, by decide, rfl, rfl, Or.inl q_1790⟩
theorem fX11_59F : FLF RX11 59 11 82 26 (.array .int) := ⟨RX11, TX11, tyX11, kc_X11, by decide, rfl, rfl, rfl, q_1790⟩
theorem q_1791 : Cond.fieldLink RX11 62 "TypeTutorModel" "first" "[I" ∈ gw := gw_in (t_in_7 (List.mem_of_getElem? (i := 196) rfl)) rfl
theorem fX11_62 : FL RX11 62 11 82 27 true (.array .int) := ⟨RX11, TX11, tyX11, kc_X11, by decide, rfl, rfl, Or.inl q_1791⟩
theorem fX11_62F : FLF RX11 62 11 82 27 (.array .int) := ⟨RX11, TX11, tyX11, kc_X11, by decide, rfl, rfl, rfl, q_1791⟩
theorem q_1792 : Cond.fieldLink RX11 65 "TypeTutorModel" "second" "[I" ∈ gw := gw_in (t_in_7 (List.mem_of_getElem? (i := 197) rfl)) rfl
theorem fX11_65 : FL RX11 65 11 82 28 true (.array .int) := ⟨RX11, TX11, tyX11, kc_X11, by decide, rfl, rfl, Or.inl q_1792⟩
theorem fX11_65F : FLF RX11 65 11 82 28 (.array .int) := ⟨RX11, TX11, tyX11, kc_X11, by decide, rfl, rfl, rfl, q_1792⟩
theorem q_1793 : Cond.fieldLink RX11 68 "TypeTutorModel" "up" "[I" ∈ gw := gw_in (t_in_7 (List.mem_of_getElem? (i := 198) rfl)) rfl
theorem fX11_68 : FL RX11 68 11 82 29 true (.array .int) := ⟨RX11, TX11, tyX11, kc_X11, by decide, rfl, rfl, Or.inl q_1793⟩
theorem fX11_68F : FLF RX11 68 11 82 29 (.array .int) := ⟨RX11, TX11, tyX11, kc_X11, by decide, rfl, rfl, rfl, q_1793⟩
theorem q_1794 : Cond.fieldLink RX11 71 "TypeTutorModel" "deep" "[I" ∈ gw := gw_in (t_in_7 (List.mem_of_getElem? (i := 199) rfl)) rfl
theorem fX11_71 : FL RX11 71 11 82 30 true (.array .int) := ⟨RX11, TX11, tyX11, kc_X11, by decide, rfl, rfl, Or.inl q_1794⟩
theorem fX11_71F : FLF RX11 71 11 82 30 (.array .int) := ⟨RX11, TX11, tyX11, kc_X11, by decide, rfl, rfl, rfl, q_1794⟩
theorem q_1795 : Cond.fieldLink RX11 74 "TypeTutorModel" "at" "[I" ∈ gw := gw_in (t_in_7 (List.mem_of_getElem? (i := 200) rfl)) rfl
theorem fX11_74 : FL RX11 74 11 82 31 true (.array .int) := ⟨RX11, TX11, tyX11, kc_X11, by decide, rfl, rfl, Or.inl q_1795⟩
theorem fX11_74F : FLF RX11 74 11 82 31 (.array .int) := ⟨RX11, TX11, tyX11, kc_X11, by decide, rfl, rfl, rfl, q_1795⟩
theorem q_1796 : Cond.fieldLink RX11 77 "TypeTutorModel" "row" "[I" ∈ gw := gw_in (t_in_7 (List.mem_of_getElem? (i := 201) rfl)) rfl
theorem fX11_77 : FL RX11 77 11 82 32 true (.array .int) := ⟨RX11, TX11, tyX11, kc_X11, by decide, rfl, rfl, Or.inl q_1796⟩
theorem fX11_77F : FLF RX11 77 11 82 32 (.array .int) := ⟨RX11, TX11, tyX11, kc_X11, by decide, rfl, rfl, rfl, q_1796⟩
theorem q_1797 : Cond.fieldLink RX11 80 "TypeTutorModel" "rowUp" "[I" ∈ gw := gw_in (t_in_7 (List.mem_of_getElem? (i := 202) rfl)) rfl
theorem fX11_80 : FL RX11 80 11 82 33 true (.array .int) := ⟨RX11, TX11, tyX11, kc_X11, by decide, rfl, rfl, Or.inl q_1797⟩
theorem fX11_80F : FLF RX11 80 11 82 33 (.array .int) := ⟨RX11, TX11, tyX11, kc_X11, by decide, rfl, rfl, rfl, q_1797⟩
theorem q_1801 : Cond.fieldLink RX11 83 "TypeTutorModel" "sort" "[I" ∈ gw := gw_in (t_in_7 (List.mem_of_getElem? (i := 206) rfl)) rfl
theorem fX11_83 : FL RX11 83 11 82 37 true (.array .int) := ⟨RX11, TX11, tyX11, kc_X11, by decide, rfl, rfl, Or.inl q_1801⟩
theorem fX11_83F : FLF RX11 83 11 82 37 (.array .int) := ⟨RX11, TX11, tyX11, kc_X11, by decide, rfl, rfl, rfl, q_1801⟩
theorem q_1802 : Cond.fieldLink RX11 86 "TypeTutorModel" "from" "[I" ∈ gw := gw_in (t_in_7 (List.mem_of_getElem? (i := 207) rfl)) rfl
theorem fX11_86 : FL RX11 86 11 82 38 true (.array .int) := ⟨RX11, TX11, tyX11, kc_X11, by decide, rfl, rfl, Or.inl q_1802⟩
theorem fX11_86F : FLF RX11 86 11 82 38 (.array .int) := ⟨RX11, TX11, tyX11, kc_X11, by decide, rfl, rfl, rfl, q_1802⟩
theorem q_1803 : Cond.fieldLink RX11 89 "TypeTutorModel" "to" "[I" ∈ gw := gw_in (t_in_7 (List.mem_of_getElem? (i := 208) rfl)) rfl
theorem fX11_89 : FL RX11 89 11 82 39 true (.array .int) := ⟨RX11, TX11, tyX11, kc_X11, by decide, rfl, rfl, Or.inl q_1803⟩
theorem fX11_89F : FLF RX11 89 11 82 39 (.array .int) := ⟨RX11, TX11, tyX11, kc_X11, by decide, rfl, rfl, rfl, q_1803⟩
theorem q_1804 : Cond.fieldLink RX11 92 "TypeTutorModel" "link" "[I" ∈ gw := gw_in (t_in_7 (List.mem_of_getElem? (i := 209) rfl)) rfl
theorem fX11_92 : FL RX11 92 11 82 40 true (.array .int) := ⟨RX11, TX11, tyX11, kc_X11, by decide, rfl, rfl, Or.inl q_1804⟩
theorem fX11_92F : FLF RX11 92 11 82 40 (.array .int) := ⟨RX11, TX11, tyX11, kc_X11, by decide, rfl, rfl, rfl, q_1804⟩
theorem q_1805 : Cond.fieldLink RX11 95 "TypeTutorModel" "isNew" "[I" ∈ gw := gw_in (t_in_7 (List.mem_of_getElem? (i := 210) rfl)) rfl
theorem fX11_95 : FL RX11 95 11 82 41 true (.array .int) := ⟨RX11, TX11, tyX11, kc_X11, by decide, rfl, rfl, Or.inl q_1805⟩
theorem fX11_95F : FLF RX11 95 11 82 41 (.array .int) := ⟨RX11, TX11, tyX11, kc_X11, by decide, rfl, rfl, rfl, q_1805⟩
theorem q_1806 : Cond.fieldLink RX11 98 "TypeTutorModel" "seen" "[I" ∈ gw := gw_in (t_in_7 (List.mem_of_getElem? (i := 211) rfl)) rfl
theorem fX11_98 : FL RX11 98 11 82 42 true (.array .int) := ⟨RX11, TX11, tyX11, kc_X11, by decide, rfl, rfl, Or.inl q_1806⟩
theorem fX11_98F : FLF RX11 98 11 82 42 (.array .int) := ⟨RX11, TX11, tyX11, kc_X11, by decide, rfl, rfl, rfl, q_1806⟩
theorem q_1807 : Cond.fieldLink RX11 101 "TypeTutorModel" "memo" "[I" ∈ gw := gw_in (t_in_7 (List.mem_of_getElem? (i := 212) rfl)) rfl
theorem fX11_101 : FL RX11 101 11 82 43 true (.array .int) := ⟨RX11, TX11, tyX11, kc_X11, by decide, rfl, rfl, Or.inl q_1807⟩
theorem fX11_101F : FLF RX11 101 11 82 43 (.array .int) := ⟨RX11, TX11, tyX11, kc_X11, by decide, rfl, rfl, rfl, q_1807⟩
theorem q_1808 : Cond.fieldLink RX11 104 "TypeTutorModel" "orders" "[I" ∈ gw := gw_in (t_in_7 (List.mem_of_getElem? (i := 213) rfl)) rfl
theorem fX11_104 : FL RX11 104 11 82 44 true (.array .int) := ⟨RX11, TX11, tyX11, kc_X11, by decide, rfl, rfl, Or.inl q_1808⟩
theorem fX11_104F : FLF RX11 104 11 82 44 (.array .int) := ⟨RX11, TX11, tyX11, kc_X11, by decide, rfl, rfl, rfl, q_1808⟩
theorem q_1809 : Cond.fieldLink RX11 107 "TypeTutorModel" "stack" "[I" ∈ gw := gw_in (t_in_7 (List.mem_of_getElem? (i := 214) rfl)) rfl
theorem fX11_107 : FL RX11 107 11 82 45 true (.array .int) := ⟨RX11, TX11, tyX11, kc_X11, by decide, rfl, rfl, Or.inl q_1809⟩
theorem fX11_107F : FLF RX11 107 11 82 45 (.array .int) := ⟨RX11, TX11, tyX11, kc_X11, by decide, rfl, rfl, rfl, q_1809⟩
theorem q_1810 : Cond.fieldLink RX11 110 "TypeTutorModel" "left" "[I" ∈ gw := gw_in (t_in_7 (List.mem_of_getElem? (i := 215) rfl)) rfl
theorem fX11_110 : FL RX11 110 11 82 46 true (.array .int) := ⟨RX11, TX11, tyX11, kc_X11, by decide, rfl, rfl, Or.inl q_1810⟩
theorem fX11_110F : FLF RX11 110 11 82 46 (.array .int) := ⟨RX11, TX11, tyX11, kc_X11, by decide, rfl, rfl, rfl, q_1810⟩
theorem q_1811 : Cond.fieldLink RX11 113 "TypeTutorModel" "right" "[I" ∈ gw := gw_in (t_in_7 (List.mem_of_getElem? (i := 216) rfl)) rfl
theorem fX11_113 : FL RX11 113 11 82 47 true (.array .int) := ⟨RX11, TX11, tyX11, kc_X11, by decide, rfl, rfl, Or.inl q_1811⟩
theorem fX11_113F : FLF RX11 113 11 82 47 (.array .int) := ⟨RX11, TX11, tyX11, kc_X11, by decide, rfl, rfl, rfl, q_1811⟩
theorem q_1812 : Cond.fieldLink RX11 116 "TypeTutorModel" "ends" "[I" ∈ gw := gw_in (t_in_7 (List.mem_of_getElem? (i := 217) rfl)) rfl
theorem fX11_116 : FL RX11 116 11 82 48 true (.array .int) := ⟨RX11, TX11, tyX11, kc_X11, by decide, rfl, rfl, Or.inl q_1812⟩
theorem fX11_116F : FLF RX11 116 11 82 48 (.array .int) := ⟨RX11, TX11, tyX11, kc_X11, by decide, rfl, rfl, rfl, q_1812⟩
theorem q_1820 : Cond.fieldLink RX11 119 "TypeTutorModel" "rowOfType" "[I" ∈ gw := gw_in (t_in_7 (List.mem_of_getElem? (i := 225) rfl)) rfl
theorem fX11_119 : FL RX11 119 11 82 56 true (.array .int) := ⟨RX11, TX11, tyX11, kc_X11, by decide, rfl, rfl, Or.inl q_1820⟩
theorem fX11_119F : FLF RX11 119 11 82 56 (.array .int) := ⟨RX11, TX11, tyX11, kc_X11, by decide, rfl, rfl, rfl, q_1820⟩
theorem q_1821 : Cond.fieldLink RX11 122 "TypeTutorModel" "one" "[I" ∈ gw := gw_in (t_in_7 (List.mem_of_getElem? (i := 226) rfl)) rfl
theorem fX11_122 : FL RX11 122 11 82 57 true (.array .int) := ⟨RX11, TX11, tyX11, kc_X11, by decide, rfl, rfl, Or.inl q_1821⟩
theorem fX11_122F : FLF RX11 122 11 82 57 (.array .int) := ⟨RX11, TX11, tyX11, kc_X11, by decide, rfl, rfl, rfl, q_1821⟩
theorem q_1822 : Cond.fieldLink RX11 125 "TypeTutorModel" "two" "[I" ∈ gw := gw_in (t_in_7 (List.mem_of_getElem? (i := 227) rfl)) rfl
theorem fX11_125 : FL RX11 125 11 82 58 true (.array .int) := ⟨RX11, TX11, tyX11, kc_X11, by decide, rfl, rfl, Or.inl q_1822⟩
theorem fX11_125F : FLF RX11 125 11 82 58 (.array .int) := ⟨RX11, TX11, tyX11, kc_X11, by decide, rfl, rfl, rfl, q_1822⟩
theorem q_1825 : Cond.fieldLink RX11 128 "TypeTutorModel" "named" "[I" ∈ gw := gw_in (t_in_7 (List.mem_of_getElem? (i := 230) rfl)) rfl
theorem fX11_128 : FL RX11 128 11 82 61 true (.array .int) := ⟨RX11, TX11, tyX11, kc_X11, by decide, rfl, rfl, Or.inl q_1825⟩
theorem fX11_128F : FLF RX11 128 11 82 61 (.array .int) := ⟨RX11, TX11, tyX11, kc_X11, by decide, rfl, rfl, rfl, q_1825⟩
theorem q_1826 : Cond.fieldLink RX11 131 "TypeTutorModel" "open" "[I" ∈ gw := gw_in (t_in_7 (List.mem_of_getElem? (i := 231) rfl)) rfl
theorem fX11_131 : FL RX11 131 11 82 62 true (.array .int) := ⟨RX11, TX11, tyX11, kc_X11, by decide, rfl, rfl, Or.inl q_1826⟩
theorem fX11_131F : FLF RX11 131 11 82 62 (.array .int) := ⟨RX11, TX11, tyX11, kc_X11, by decide, rfl, rfl, rfl, q_1826⟩
theorem q_1827 : Cond.fieldLink RX11 134 "TypeTutorModel" "got" "[I" ∈ gw := gw_in (t_in_7 (List.mem_of_getElem? (i := 232) rfl)) rfl
theorem fX11_134 : FL RX11 134 11 82 63 true (.array .int) := ⟨RX11, TX11, tyX11, kc_X11, by decide, rfl, rfl, Or.inl q_1827⟩
theorem fX11_134F : FLF RX11 134 11 82 63 (.array .int) := ⟨RX11, TX11, tyX11, kc_X11, by decide, rfl, rfl, rfl, q_1827⟩
theorem q_1828 : Cond.fieldLink RX11 137 "TypeTutorModel" "type" "[I" ∈ gw := gw_in (t_in_7 (List.mem_of_getElem? (i := 233) rfl)) rfl
theorem fX11_137 : FL RX11 137 11 82 64 true (.array .int) := ⟨RX11, TX11, tyX11, kc_X11, by decide, rfl, rfl, Or.inl q_1828⟩
theorem fX11_137F : FLF RX11 137 11 82 64 (.array .int) := ⟨RX11, TX11, tyX11, kc_X11, by decide, rfl, rfl, rfl, q_1828⟩
theorem q_1829 : Cond.fieldLink RX11 140 "TypeTutorModel" "own" "[I" ∈ gw := gw_in (t_in_7 (List.mem_of_getElem? (i := 234) rfl)) rfl
theorem fX11_140 : FL RX11 140 11 82 65 true (.array .int) := ⟨RX11, TX11, tyX11, kc_X11, by decide, rfl, rfl, Or.inl q_1829⟩
theorem fX11_140F : FLF RX11 140 11 82 65 (.array .int) := ⟨RX11, TX11, tyX11, kc_X11, by decide, rfl, rfl, rfl, q_1829⟩
theorem q_1830 : Cond.fieldLink RX11 143 "TypeTutorModel" "walk" "[I" ∈ gw := gw_in (t_in_7 (List.mem_of_getElem? (i := 235) rfl)) rfl
theorem fX11_143 : FL RX11 143 11 82 66 true (.array .int) := ⟨RX11, TX11, tyX11, kc_X11, by decide, rfl, rfl, Or.inl q_1830⟩
theorem fX11_143F : FLF RX11 143 11 82 66 (.array .int) := ⟨RX11, TX11, tyX11, kc_X11, by decide, rfl, rfl, rfl, q_1830⟩
theorem q_1831 : Cond.fieldLink RX11 146 "TypeTutorModel" "phase" "[I" ∈ gw := gw_in (t_in_7 (List.mem_of_getElem? (i := 236) rfl)) rfl
theorem fX11_146 : FL RX11 146 11 82 67 true (.array .int) := ⟨RX11, TX11, tyX11, kc_X11, by decide, rfl, rfl, Or.inl q_1831⟩
theorem fX11_146F : FLF RX11 146 11 82 67 (.array .int) := ⟨RX11, TX11, tyX11, kc_X11, by decide, rfl, rfl, rfl, q_1831⟩
theorem q_1834 : Cond.fieldLink RX11 149 "TypeTutorModel" "input" "[I" ∈ gw := gw_in (t_in_7 (List.mem_of_getElem? (i := 239) rfl)) rfl
theorem fX11_149 : FL RX11 149 11 82 70 true (.array .int) := ⟨RX11, TX11, tyX11, kc_X11, by decide, rfl, rfl, Or.inl q_1834⟩
theorem fX11_149F : FLF RX11 149 11 82 70 (.array .int) := ⟨RX11, TX11, tyX11, kc_X11, by decide, rfl, rfl, rfl, q_1834⟩
theorem q_1836 : Cond.fieldLink RX11 152 "TypeTutorModel" "cost" "[I" ∈ gw := gw_in (t_in_8 (List.mem_of_getElem? (i := 1) rfl)) rfl
theorem fX11_152 : FL RX11 152 11 82 72 true (.array .int) := ⟨RX11, TX11, tyX11, kc_X11, by decide, rfl, rfl, Or.inl q_1836⟩
theorem fX11_152F : FLF RX11 152 11 82 72 (.array .int) := ⟨RX11, TX11, tyX11, kc_X11, by decide, rfl, rfl, rfl, q_1836⟩
theorem q_1842 : Cond.fieldLink RX11 155 "TypeTutorModel" "line" "[I" ∈ gw := gw_in (t_in_8 (List.mem_of_getElem? (i := 7) rfl)) rfl
theorem fX11_155 : FL RX11 155 11 82 78 true (.array .int) := ⟨RX11, TX11, tyX11, kc_X11, by decide, rfl, rfl, Or.inl q_1842⟩
theorem fX11_155F : FLF RX11 155 11 82 78 (.array .int) := ⟨RX11, TX11, tyX11, kc_X11, by decide, rfl, rfl, rfl, q_1842⟩
theorem q_1843 : Cond.fieldLink RX11 158 "TypeTutorModel" "acts" "[I" ∈ gw := gw_in (t_in_8 (List.mem_of_getElem? (i := 8) rfl)) rfl
theorem fX11_158 : FL RX11 158 11 82 79 true (.array .int) := ⟨RX11, TX11, tyX11, kc_X11, by decide, rfl, rfl, Or.inl q_1843⟩
theorem fX11_158F : FLF RX11 158 11 82 79 (.array .int) := ⟨RX11, TX11, tyX11, kc_X11, by decide, rfl, rfl, rfl, q_1843⟩
theorem q_1765 : Cond.fieldLink RX11 161 "TypeTutorModel" "thrown" "I" ∈ gw := gw_in (t_in_7 (List.mem_of_getElem? (i := 170) rfl)) rfl
theorem fX11_161 : FL RX11 161 11 82 0 false .int := ⟨RX11, TX11, tyX11, kc_X11, by decide, rfl, rfl, Or.inl q_1765⟩
theorem q_2043 : Cond.methodLink RX11 164 yX11_isIn ∈ gw := gw_in (t_in_8 (List.mem_of_getElem? (i := 208) rfl)) rfl
theorem q_2044 : Cond.static yX11_isIn ∈ gw := gw_in (t_in_8 (List.mem_of_getElem? (i := 209) rfl)) rfl
theorem lX11_164 : LKS RX11 164 mX11_isIn 3 := ⟨cdX11_isIn, by decide, by decide +kernel, q_2044, Or.inl q_2043⟩
theorem q_1799 : Cond.fieldLink RX11 168 "TypeTutorModel" "rawN" "I" ∈ gw := gw_in (t_in_7 (List.mem_of_getElem? (i := 204) rfl)) rfl
theorem fX11_168 : FL RX11 168 11 82 35 false .int := ⟨RX11, TX11, tyX11, kc_X11, by decide, rfl, rfl, Or.inl q_1799⟩
theorem q_1798 : Cond.fieldLink RX11 171 "TypeTutorModel" "top" "I" ∈ gw := gw_in (t_in_7 (List.mem_of_getElem? (i := 203) rfl)) rfl
theorem fX11_171 : FL RX11 171 11 82 34 false .int := ⟨RX11, TX11, tyX11, kc_X11, by decide, rfl, rfl, Or.inl q_1798⟩
theorem q_2046 : Cond.methodLink RX11 174 yX11_raw ∈ gw := gw_in (t_in_8 (List.mem_of_getElem? (i := 211) rfl)) rfl
theorem q_2048 : Cond.instanceMethod yX11_raw ∈ gw := gw_in (t_in_8 (List.mem_of_getElem? (i := 213) rfl)) rfl
theorem q_98 : Cond.selects RX11 yX11_raw yX11_raw ∈ gw := gw_in (lw_i (p_in_7 (List.mem_of_getElem? (i := 2) rfl))) rfl
theorem lX11_174 : LKV RX11 174 mX11_raw 11 5 := ⟨cdX11_raw, by decide, by decide +kernel, q_2048, q_98, Or.inl q_2046, _, _, _, kc_X11⟩
theorem q_2034 : Cond.methodLink RX11 178 yX11_isSmall ∈ gw := gw_in (t_in_8 (List.mem_of_getElem? (i := 199) rfl)) rfl
theorem q_2035 : Cond.static yX11_isSmall ∈ gw := gw_in (t_in_8 (List.mem_of_getElem? (i := 200) rfl)) rfl
theorem lX11_178 : LKS RX11 178 mX11_isSmall 1 := ⟨cdX11_isSmall, by decide, by decide +kernel, q_2035, Or.inl q_2034⟩
theorem q_2040 : Cond.methodLink RX11 182 yX11_isCapital ∈ gw := gw_in (t_in_8 (List.mem_of_getElem? (i := 205) rfl)) rfl
theorem q_2041 : Cond.static yX11_isCapital ∈ gw := gw_in (t_in_8 (List.mem_of_getElem? (i := 206) rfl)) rfl
theorem lX11_182 : LKS RX11 182 mX11_isCapital 1 := ⟨cdX11_isCapital, by decide, by decide +kernel, q_2041, Or.inl q_2040⟩
theorem q_2030 : Cond.methodLink RX11 185 yX11_opens ∈ gw := gw_in (t_in_8 (List.mem_of_getElem? (i := 195) rfl)) rfl
theorem q_2032 : Cond.instanceMethod yX11_opens ∈ gw := gw_in (t_in_8 (List.mem_of_getElem? (i := 197) rfl)) rfl
theorem q_97 : Cond.selects RX11 yX11_opens yX11_opens ∈ gw := gw_in (lw_i (p_in_7 (List.mem_of_getElem? (i := 1) rfl))) rfl
theorem lX11_185 : LKV RX11 185 mX11_opens 11 3 := ⟨cdX11_opens, by decide, by decide +kernel, q_2032, q_97, Or.inl q_2030, _, _, _, kc_X11⟩
theorem q_2037 : Cond.methodLink RX11 189 yX11_leafKind ∈ gw := gw_in (t_in_8 (List.mem_of_getElem? (i := 202) rfl)) rfl
theorem q_2038 : Cond.static yX11_leafKind ∈ gw := gw_in (t_in_8 (List.mem_of_getElem? (i := 203) rfl)) rfl
theorem lX11_189 : LKS RX11 189 mX11_leafKind 1 := ⟨cdX11_leafKind, by decide, by decide +kernel, q_2038, Or.inl q_2037⟩
theorem q_2050 : Cond.methodLink RX11 193 yX11_adds ∈ gw := gw_in (t_in_8 (List.mem_of_getElem? (i := 215) rfl)) rfl
theorem q_2052 : Cond.instanceMethod yX11_adds ∈ gw := gw_in (t_in_8 (List.mem_of_getElem? (i := 217) rfl)) rfl
theorem q_99 : Cond.selects RX11 yX11_adds yX11_adds ∈ gw := gw_in (lw_i (p_in_7 (List.mem_of_getElem? (i := 3) rfl))) rfl
theorem lX11_193 : LKV RX11 193 mX11_adds 11 1 := ⟨cdX11_adds, by decide, by decide +kernel, q_2052, q_99, Or.inl q_2050, _, _, _, kc_X11⟩
theorem q_2054 : Cond.methodLink RX11 197 yX11_closes ∈ gw := gw_in (t_in_8 (List.mem_of_getElem? (i := 219) rfl)) rfl
theorem q_2056 : Cond.instanceMethod yX11_closes ∈ gw := gw_in (t_in_8 (List.mem_of_getElem? (i := 221) rfl)) rfl
theorem q_100 : Cond.selects RX11 yX11_closes yX11_closes ∈ gw := gw_in (lw_i (p_in_7 (List.mem_of_getElem? (i := 4) rfl))) rfl
theorem lX11_197 : LKV RX11 197 mX11_closes 11 0 := ⟨cdX11_closes, by decide, by decide +kernel, q_2056, q_100, Or.inl q_2054, _, _, _, kc_X11⟩
theorem q_2058 : Cond.methodLink RX11 200 yX11_numbers ∈ gw := gw_in (t_in_8 (List.mem_of_getElem? (i := 223) rfl)) rfl
theorem q_2060 : Cond.instanceMethod yX11_numbers ∈ gw := gw_in (t_in_8 (List.mem_of_getElem? (i := 225) rfl)) rfl
theorem q_101 : Cond.selects RX11 yX11_numbers yX11_numbers ∈ gw := gw_in (lw_i (p_in_7 (List.mem_of_getElem? (i := 5) rfl))) rfl
theorem lX11_200 : LKV RX11 200 mX11_numbers 11 1 := ⟨cdX11_numbers, by decide, by decide +kernel, q_2060, q_101, Or.inl q_2058, _, _, _, kc_X11⟩
theorem q_1800 : Cond.fieldLink RX11 203 "TypeTutorModel" "nodes" "I" ∈ gw := gw_in (t_in_7 (List.mem_of_getElem? (i := 205) rfl)) rfl
theorem fX11_203 : FL RX11 203 11 82 36 false .int := ⟨RX11, TX11, tyX11, kc_X11, by decide, rfl, rfl, Or.inl q_1800⟩
theorem q_2074 : Cond.methodLink RX11 206 yX11_lessonAt ∈ gw := gw_in (t_in_8 (List.mem_of_getElem? (i := 239) rfl)) rfl
theorem q_2075 : Cond.static yX11_lessonAt ∈ gw := gw_in (t_in_9 (List.mem_of_getElem? (i := 0) rfl)) rfl
theorem lX11_206 : LKS RX11 206 mX11_lessonAt 1 := ⟨cdX11_lessonAt, by decide, by decide +kernel, q_2075, Or.inl q_2074⟩
theorem q_2026 : Cond.methodLink RX11 209 yX11_reads ∈ gw := gw_in (t_in_8 (List.mem_of_getElem? (i := 191) rfl)) rfl
theorem q_2028 : Cond.instanceMethod yX11_reads ∈ gw := gw_in (t_in_8 (List.mem_of_getElem? (i := 193) rfl)) rfl
theorem q_96 : Cond.selects RX11 yX11_reads yX11_reads ∈ gw := gw_in (lw_i (p_in_7 (List.mem_of_getElem? (i := 0) rfl))) rfl
theorem lX11_209 : LKV RX11 209 mX11_reads 11 3 := ⟨cdX11_reads, by decide, by decide +kernel, q_2028, q_96, Or.inl q_2026, _, _, _, kc_X11⟩
theorem q_1813 : Cond.fieldLink RX11 213 "TypeTutorModel" "parts" "I" ∈ gw := gw_in (t_in_7 (List.mem_of_getElem? (i := 218) rfl)) rfl
theorem fX11_213 : FL RX11 213 11 82 49 false .int := ⟨RX11, TX11, tyX11, kc_X11, by decide, rfl, rfl, Or.inl q_1813⟩
theorem q_2136 : Cond.methodLink RX11 216 yX11_part ∈ gw := gw_in (t_in_9 (List.mem_of_getElem? (i := 61) rfl)) rfl
theorem q_2138 : Cond.instanceMethod yX11_part ∈ gw := gw_in (t_in_9 (List.mem_of_getElem? (i := 63) rfl)) rfl
theorem q_117 : Cond.selects RX11 yX11_part yX11_part ∈ gw := gw_in (lw_i (p_in_8 (List.mem_of_getElem? (i := 5) rfl))) rfl
theorem lX11_216 : LKV RX11 216 mX11_part 11 3 := ⟨cdX11_part, by decide, by decide +kernel, q_2138, q_117, Or.inl q_2136, _, _, _, kc_X11⟩
theorem q_1815 : Cond.fieldLink RX11 220 "TypeTutorModel" "n" "I" ∈ gw := gw_in (t_in_7 (List.mem_of_getElem? (i := 220) rfl)) rfl
theorem fX11_220 : FL RX11 220 11 82 51 false .int := ⟨RX11, TX11, tyX11, kc_X11, by decide, rfl, rfl, Or.inl q_1815⟩
theorem q_2160 : Cond.methodLink RX11 223 yX11_is ∈ gw := gw_in (t_in_9 (List.mem_of_getElem? (i := 85) rfl)) rfl
theorem q_2162 : Cond.instanceMethod yX11_is ∈ gw := gw_in (t_in_9 (List.mem_of_getElem? (i := 87) rfl)) rfl
theorem q_123 : Cond.selects RX11 yX11_is yX11_is ∈ gw := gw_in (lw_i (p_in_8 (List.mem_of_getElem? (i := 11) rfl))) rfl
theorem lX11_223 : LKV RX11 223 mX11_is 11 1 := ⟨cdX11_is, by decide, by decide +kernel, q_2162, q_123, Or.inl q_2160, _, _, _, kc_X11⟩
theorem q_1814 : Cond.fieldLink RX11 226 "TypeTutorModel" "stamp" "I" ∈ gw := gw_in (t_in_7 (List.mem_of_getElem? (i := 219) rfl)) rfl
theorem fX11_226 : FL RX11 226 11 82 50 false .int := ⟨RX11, TX11, tyX11, kc_X11, by decide, rfl, rfl, Or.inl q_1814⟩
theorem q_2156 : Cond.methodLink RX11 229 yX11_starts ∈ gw := gw_in (t_in_9 (List.mem_of_getElem? (i := 81) rfl)) rfl
theorem q_2158 : Cond.instanceMethod yX11_starts ∈ gw := gw_in (t_in_9 (List.mem_of_getElem? (i := 83) rfl)) rfl
theorem q_122 : Cond.selects RX11 yX11_starts yX11_starts ∈ gw := gw_in (lw_i (p_in_8 (List.mem_of_getElem? (i := 10) rfl))) rfl
theorem lX11_229 : LKV RX11 229 mX11_starts 11 1 := ⟨cdX11_starts, by decide, by decide +kernel, q_2158, q_122, Or.inl q_2156, _, _, _, kc_X11⟩
theorem q_2164 : Cond.methodLink RX11 232 yX11_turn ∈ gw := gw_in (t_in_9 (List.mem_of_getElem? (i := 89) rfl)) rfl
theorem q_2166 : Cond.instanceMethod yX11_turn ∈ gw := gw_in (t_in_9 (List.mem_of_getElem? (i := 91) rfl)) rfl
theorem q_124 : Cond.selects RX11 yX11_turn yX11_turn ∈ gw := gw_in (lw_i (p_in_8 (List.mem_of_getElem? (i := 12) rfl))) rfl
theorem lX11_232 : LKV RX11 232 mX11_turn 11 0 := ⟨cdX11_turn, by decide, by decide +kernel, q_2166, q_124, Or.inl q_2164, _, _, _, kc_X11⟩
theorem q_2188 : Cond.methodLink RX11 236 yX11_marks ∈ gw := gw_in (t_in_9 (List.mem_of_getElem? (i := 113) rfl)) rfl
theorem q_2190 : Cond.instanceMethod yX11_marks ∈ gw := gw_in (t_in_9 (List.mem_of_getElem? (i := 115) rfl)) rfl
theorem q_130 : Cond.selects RX11 yX11_marks yX11_marks ∈ gw := gw_in (lw_i (p_in_9 (List.mem_of_getElem? (i := 2) rfl))) rfl
theorem lX11_236 : LKV RX11 236 mX11_marks 11 1 := ⟨cdX11_marks, by decide, by decide +kernel, q_2190, q_130, Or.inl q_2188, _, _, _, kc_X11⟩
theorem q_2132 : Cond.methodLink RX11 239 yX11_fresh ∈ gw := gw_in (t_in_9 (List.mem_of_getElem? (i := 57) rfl)) rfl
theorem q_2134 : Cond.instanceMethod yX11_fresh ∈ gw := gw_in (t_in_9 (List.mem_of_getElem? (i := 59) rfl)) rfl
theorem q_116 : Cond.selects RX11 yX11_fresh yX11_fresh ∈ gw := gw_in (lw_i (p_in_8 (List.mem_of_getElem? (i := 4) rfl))) rfl
theorem lX11_239 : LKV RX11 239 mX11_fresh 11 0 := ⟨cdX11_fresh, by decide, by decide +kernel, q_2134, q_116, Or.inl q_2132, _, _, _, kc_X11⟩
theorem q_1816 : Cond.fieldLink RX11 242 "TypeTutorModel" "failed" "I" ∈ gw := gw_in (t_in_7 (List.mem_of_getElem? (i := 221) rfl)) rfl
theorem fX11_242 : FL RX11 242 11 82 52 false .int := ⟨RX11, TX11, tyX11, kc_X11, by decide, rfl, rfl, Or.inl q_1816⟩
theorem q_1818 : Cond.fieldLink RX11 245 "TypeTutorModel" "failedOne" "I" ∈ gw := gw_in (t_in_7 (List.mem_of_getElem? (i := 223) rfl)) rfl
theorem fX11_245 : FL RX11 245 11 82 54 false .int := ⟨RX11, TX11, tyX11, kc_X11, by decide, rfl, rfl, Or.inl q_1818⟩
theorem q_1819 : Cond.fieldLink RX11 248 "TypeTutorModel" "failedOther" "I" ∈ gw := gw_in (t_in_7 (List.mem_of_getElem? (i := 224) rfl)) rfl
theorem fX11_248 : FL RX11 248 11 82 55 false .int := ⟨RX11, TX11, tyX11, kc_X11, by decide, rfl, rfl, Or.inl q_1819⟩
theorem q_2180 : Cond.methodLink RX11 251 yX11_pairs ∈ gw := gw_in (t_in_9 (List.mem_of_getElem? (i := 105) rfl)) rfl
theorem q_2182 : Cond.instanceMethod yX11_pairs ∈ gw := gw_in (t_in_9 (List.mem_of_getElem? (i := 107) rfl)) rfl
theorem q_128 : Cond.selects RX11 yX11_pairs yX11_pairs ∈ gw := gw_in (lw_i (p_in_9 (List.mem_of_getElem? (i := 0) rfl))) rfl
theorem lX11_251 : LKV RX11 251 mX11_pairs 11 4 := ⟨cdX11_pairs, by decide, by decide +kernel, q_2182, q_128, Or.inl q_2180, _, _, _, kc_X11⟩
theorem q_2184 : Cond.methodLink RX11 255 yX11_has ∈ gw := gw_in (t_in_9 (List.mem_of_getElem? (i := 109) rfl)) rfl
theorem q_2186 : Cond.instanceMethod yX11_has ∈ gw := gw_in (t_in_9 (List.mem_of_getElem? (i := 111) rfl)) rfl
theorem q_129 : Cond.selects RX11 yX11_has yX11_has ∈ gw := gw_in (lw_i (p_in_9 (List.mem_of_getElem? (i := 1) rfl))) rfl
theorem lX11_255 : LKV RX11 255 mX11_has 11 2 := ⟨cdX11_has, by decide, by decide +kernel, q_2186, q_129, Or.inl q_2184, _, _, _, kc_X11⟩
theorem q_2124 : Cond.methodLink RX11 259 yX11_fails ∈ gw := gw_in (t_in_9 (List.mem_of_getElem? (i := 49) rfl)) rfl
theorem q_2126 : Cond.instanceMethod yX11_fails ∈ gw := gw_in (t_in_9 (List.mem_of_getElem? (i := 51) rfl)) rfl
theorem q_114 : Cond.selects RX11 yX11_fails yX11_fails ∈ gw := gw_in (lw_i (p_in_8 (List.mem_of_getElem? (i := 2) rfl))) rfl
theorem lX11_259 : LKV RX11 259 mX11_fails 11 3 := ⟨cdX11_fails, by decide, by decide +kernel, q_2126, q_114, Or.inl q_2124, _, _, _, kc_X11⟩
theorem q_1823 : Cond.fieldLink RX11 262 "TypeTutorModel" "rowN" "I" ∈ gw := gw_in (t_in_7 (List.mem_of_getElem? (i := 228) rfl)) rfl
theorem fX11_262 : FL RX11 262 11 82 59 false .int := ⟨RX11, TX11, tyX11, kc_X11, by decide, rfl, rfl, Or.inl q_1823⟩
theorem q_1824 : Cond.fieldLink RX11 265 "TypeTutorModel" "variables" "I" ∈ gw := gw_in (t_in_7 (List.mem_of_getElem? (i := 229) rfl)) rfl
theorem fX11_265 : FL RX11 265 11 82 60 false .int := ⟨RX11, TX11, tyX11, kc_X11, by decide, rfl, rfl, Or.inl q_1824⟩
theorem q_1832 : Cond.fieldLink RX11 268 "TypeTutorModel" "walking" "I" ∈ gw := gw_in (t_in_7 (List.mem_of_getElem? (i := 237) rfl)) rfl
theorem fX11_268 : FL RX11 268 11 82 68 false .int := ⟨RX11, TX11, tyX11, kc_X11, by decide, rfl, rfl, Or.inl q_1832⟩
theorem q_2144 : Cond.methodLink RX11 271 yX11_arrow ∈ gw := gw_in (t_in_9 (List.mem_of_getElem? (i := 69) rfl)) rfl
theorem q_2146 : Cond.instanceMethod yX11_arrow ∈ gw := gw_in (t_in_9 (List.mem_of_getElem? (i := 71) rfl)) rfl
theorem q_119 : Cond.selects RX11 yX11_arrow yX11_arrow ∈ gw := gw_in (lw_i (p_in_8 (List.mem_of_getElem? (i := 7) rfl))) rfl
theorem lX11_271 : LKV RX11 271 mX11_arrow 11 2 := ⟨cdX11_arrow, by decide, by decide +kernel, q_2146, q_119, Or.inl q_2144, _, _, _, kc_X11⟩
theorem q_1817 : Cond.fieldLink RX11 275 "TypeTutorModel" "failedAt" "I" ∈ gw := gw_in (t_in_7 (List.mem_of_getElem? (i := 222) rfl)) rfl
theorem fX11_275 : FL RX11 275 11 82 53 false .int := ⟨RX11, TX11, tyX11, kc_X11, by decide, rfl, rfl, Or.inl q_1817⟩
theorem q_2117 : Cond.methodLink RX11 278 yX11_keptAt ∈ gw := gw_in (t_in_9 (List.mem_of_getElem? (i := 42) rfl)) rfl
theorem q_2118 : Cond.static yX11_keptAt ∈ gw := gw_in (t_in_9 (List.mem_of_getElem? (i := 43) rfl)) rfl
theorem lX11_278 : LKS RX11 278 mX11_keptAt 1 := ⟨cdX11_keptAt, by decide, by decide +kernel, q_2118, Or.inl q_2117⟩
theorem q_2120 : Cond.methodLink RX11 281 yX11_failsAt ∈ gw := gw_in (t_in_9 (List.mem_of_getElem? (i := 45) rfl)) rfl
theorem q_2122 : Cond.instanceMethod yX11_failsAt ∈ gw := gw_in (t_in_9 (List.mem_of_getElem? (i := 47) rfl)) rfl
theorem q_113 : Cond.selects RX11 yX11_failsAt yX11_failsAt ∈ gw := gw_in (lw_i (p_in_8 (List.mem_of_getElem? (i := 1) rfl))) rfl
theorem lX11_281 : LKV RX11 281 mX11_failsAt 11 2 := ⟨cdX11_failsAt, by decide, by decide +kernel, q_2122, q_113, Or.inl q_2120, _, _, _, kc_X11⟩
theorem q_2128 : Cond.methodLink RX11 285 yX11_makes ∈ gw := gw_in (t_in_9 (List.mem_of_getElem? (i := 53) rfl)) rfl
theorem q_2130 : Cond.instanceMethod yX11_makes ∈ gw := gw_in (t_in_9 (List.mem_of_getElem? (i := 55) rfl)) rfl
theorem q_115 : Cond.selects RX11 yX11_makes yX11_makes ∈ gw := gw_in (lw_i (p_in_8 (List.mem_of_getElem? (i := 3) rfl))) rfl
theorem lX11_285 : LKV RX11 285 mX11_makes 11 3 := ⟨cdX11_makes, by decide, by decide +kernel, q_2130, q_115, Or.inl q_2128, _, _, _, kc_X11⟩
theorem q_2140 : Cond.methodLink RX11 288 yX11_signType ∈ gw := gw_in (t_in_9 (List.mem_of_getElem? (i := 65) rfl)) rfl
theorem q_2142 : Cond.instanceMethod yX11_signType ∈ gw := gw_in (t_in_9 (List.mem_of_getElem? (i := 67) rfl)) rfl
theorem q_118 : Cond.selects RX11 yX11_signType yX11_signType ∈ gw := gw_in (lw_i (p_in_8 (List.mem_of_getElem? (i := 6) rfl))) rfl
theorem lX11_288 : LKV RX11 288 mX11_signType 11 1 := ⟨cdX11_signType, by decide, by decide +kernel, q_2142, q_118, Or.inl q_2140, _, _, _, kc_X11⟩
theorem q_2148 : Cond.methodLink RX11 291 yX11_binderOf ∈ gw := gw_in (t_in_9 (List.mem_of_getElem? (i := 73) rfl)) rfl
theorem q_2150 : Cond.instanceMethod yX11_binderOf ∈ gw := gw_in (t_in_9 (List.mem_of_getElem? (i := 75) rfl)) rfl
theorem q_120 : Cond.selects RX11 yX11_binderOf yX11_binderOf ∈ gw := gw_in (lw_i (p_in_8 (List.mem_of_getElem? (i := 8) rfl))) rfl
theorem lX11_291 : LKV RX11 291 mX11_binderOf 11 1 := ⟨cdX11_binderOf, by decide, by decide +kernel, q_2150, q_120, Or.inl q_2148, _, _, _, kc_X11⟩
theorem q_2152 : Cond.methodLink RX11 294 yX11_copied ∈ gw := gw_in (t_in_9 (List.mem_of_getElem? (i := 77) rfl)) rfl
theorem q_2154 : Cond.instanceMethod yX11_copied ∈ gw := gw_in (t_in_9 (List.mem_of_getElem? (i := 79) rfl)) rfl
theorem q_121 : Cond.selects RX11 yX11_copied yX11_copied ∈ gw := gw_in (lw_i (p_in_8 (List.mem_of_getElem? (i := 9) rfl))) rfl
theorem lX11_294 : LKV RX11 294 mX11_copied 11 1 := ⟨cdX11_copied, by decide, by decide +kernel, q_2154, q_121, Or.inl q_2152, _, _, _, kc_X11⟩
theorem q_2172 : Cond.methodLink RX11 297 yX11_size ∈ gw := gw_in (t_in_9 (List.mem_of_getElem? (i := 97) rfl)) rfl
theorem q_2174 : Cond.instanceMethod yX11_size ∈ gw := gw_in (t_in_9 (List.mem_of_getElem? (i := 99) rfl)) rfl
theorem q_126 : Cond.selects RX11 yX11_size yX11_size ∈ gw := gw_in (lw_i (p_in_8 (List.mem_of_getElem? (i := 14) rfl))) rfl
theorem lX11_297 : LKV RX11 297 mX11_size 11 1 := ⟨cdX11_size, by decide, by decide +kernel, q_2174, q_126, Or.inl q_2172, _, _, _, kc_X11⟩
theorem q_2176 : Cond.methodLink RX11 300 yX11_fits ∈ gw := gw_in (t_in_9 (List.mem_of_getElem? (i := 101) rfl)) rfl
theorem q_2178 : Cond.instanceMethod yX11_fits ∈ gw := gw_in (t_in_9 (List.mem_of_getElem? (i := 103) rfl)) rfl
theorem q_127 : Cond.selects RX11 yX11_fits yX11_fits ∈ gw := gw_in (lw_i (p_in_8 (List.mem_of_getElem? (i := 15) rfl))) rfl
theorem lX11_300 : LKV RX11 300 mX11_fits 11 2 := ⟨cdX11_fits, by decide, by decide +kernel, q_2178, q_127, Or.inl q_2176, _, _, _, kc_X11⟩
theorem q_2113 : Cond.methodLink RX11 303 yX11_leaf ∈ gw := gw_in (t_in_9 (List.mem_of_getElem? (i := 38) rfl)) rfl
theorem q_2115 : Cond.instanceMethod yX11_leaf ∈ gw := gw_in (t_in_9 (List.mem_of_getElem? (i := 40) rfl)) rfl
theorem q_112 : Cond.selects RX11 yX11_leaf yX11_leaf ∈ gw := gw_in (lw_i (p_in_8 (List.mem_of_getElem? (i := 0) rfl))) rfl
theorem lX11_303 : LKV RX11 303 mX11_leaf 11 1 := ⟨cdX11_leaf, by decide, by decide +kernel, q_2115, q_112, Or.inl q_2113, _, _, _, kc_X11⟩
theorem q_2105 : Cond.methodLink RX11 306 yX11_goes ∈ gw := gw_in (t_in_9 (List.mem_of_getElem? (i := 30) rfl)) rfl
theorem q_2107 : Cond.instanceMethod yX11_goes ∈ gw := gw_in (t_in_9 (List.mem_of_getElem? (i := 32) rfl)) rfl
theorem q_110 : Cond.selects RX11 yX11_goes yX11_goes ∈ gw := gw_in (lw_i (p_in_7 (List.mem_of_getElem? (i := 14) rfl))) rfl
theorem lX11_306 : LKV RX11 306 mX11_goes 11 2 := ⟨cdX11_goes, by decide, by decide +kernel, q_2107, q_110, Or.inl q_2105, _, _, _, kc_X11⟩
theorem q_2168 : Cond.methodLink RX11 309 yX11_applies ∈ gw := gw_in (t_in_9 (List.mem_of_getElem? (i := 93) rfl)) rfl
theorem q_2170 : Cond.instanceMethod yX11_applies ∈ gw := gw_in (t_in_9 (List.mem_of_getElem? (i := 95) rfl)) rfl
theorem q_125 : Cond.selects RX11 yX11_applies yX11_applies ∈ gw := gw_in (lw_i (p_in_8 (List.mem_of_getElem? (i := 13) rfl))) rfl
theorem lX11_309 : LKV RX11 309 mX11_applies 11 1 := ⟨cdX11_applies, by decide, by decide +kernel, q_2170, q_125, Or.inl q_2168, _, _, _, kc_X11⟩
theorem q_2192 : Cond.methodLink RX11 312 yX11_generalises ∈ gw := gw_in (t_in_9 (List.mem_of_getElem? (i := 117) rfl)) rfl
theorem q_2194 : Cond.instanceMethod yX11_generalises ∈ gw := gw_in (t_in_9 (List.mem_of_getElem? (i := 119) rfl)) rfl
theorem q_131 : Cond.selects RX11 yX11_generalises yX11_generalises ∈ gw := gw_in (lw_i (p_in_9 (List.mem_of_getElem? (i := 3) rfl))) rfl
theorem lX11_312 : LKV RX11 312 mX11_generalises 11 1 := ⟨cdX11_generalises, by decide, by decide +kernel, q_2194, q_131, Or.inl q_2192, _, _, _, kc_X11⟩
theorem q_2089 : Cond.methodLink RX11 315 yX11_nodesOf ∈ gw := gw_in (t_in_9 (List.mem_of_getElem? (i := 14) rfl)) rfl
theorem q_2091 : Cond.instanceMethod yX11_nodesOf ∈ gw := gw_in (t_in_9 (List.mem_of_getElem? (i := 16) rfl)) rfl
theorem q_107 : Cond.selects RX11 yX11_nodesOf yX11_nodesOf ∈ gw := gw_in (lw_i (p_in_7 (List.mem_of_getElem? (i := 11) rfl))) rfl
theorem lX11_315 : LKV RX11 315 mX11_nodesOf 11 1 := ⟨cdX11_nodesOf, by decide, by decide +kernel, q_2091, q_107, Or.inl q_2089, _, _, _, kc_X11⟩
theorem q_2109 : Cond.methodLink RX11 318 yX11_steps ∈ gw := gw_in (t_in_9 (List.mem_of_getElem? (i := 34) rfl)) rfl
theorem q_2111 : Cond.instanceMethod yX11_steps ∈ gw := gw_in (t_in_9 (List.mem_of_getElem? (i := 36) rfl)) rfl
theorem q_111 : Cond.selects RX11 yX11_steps yX11_steps ∈ gw := gw_in (lw_i (p_in_7 (List.mem_of_getElem? (i := 15) rfl))) rfl
theorem lX11_318 : LKV RX11 318 mX11_steps 11 2 := ⟨cdX11_steps, by decide, by decide +kernel, q_2111, q_111, Or.inl q_2109, _, _, _, kc_X11⟩
theorem q_1833 : Cond.fieldLink RX11 321 "TypeTutorModel" "isRefused" "Z" ∈ gw := gw_in (t_in_7 (List.mem_of_getElem? (i := 238) rfl)) rfl
theorem fX11_321 : FL RX11 321 11 82 69 false .boolean := ⟨RX11, TX11, tyX11, kc_X11, by decide, rfl, rfl, Or.inl q_1833⟩
theorem q_1771 : Cond.fieldLink RX11 325 "TypeTutorModel" "lastWhy" "I" ∈ gw := gw_in (t_in_7 (List.mem_of_getElem? (i := 176) rfl)) rfl
theorem fX11_325 : FL RX11 325 11 82 7 false .int := ⟨RX11, TX11, tyX11, kc_X11, by decide, rfl, rfl, Or.inl q_1771⟩
theorem q_1772 : Cond.fieldLink RX11 328 "TypeTutorModel" "lastDetail" "I" ∈ gw := gw_in (t_in_7 (List.mem_of_getElem? (i := 177) rfl)) rfl
theorem fX11_328 : FL RX11 328 11 82 8 false .int := ⟨RX11, TX11, tyX11, kc_X11, by decide, rfl, rfl, Or.inl q_1772⟩
theorem q_2023 : Cond.methodLink RX11 331 yX11_lays ∈ gw := gw_in (t_in_8 (List.mem_of_getElem? (i := 188) rfl)) rfl
theorem q_2024 : Cond.static yX11_lays ∈ gw := gw_in (t_in_8 (List.mem_of_getElem? (i := 189) rfl)) rfl
theorem lX11_331 : LKS RX11 331 mX11_lays 2 := ⟨cdX11_lays, by decide, by decide +kernel, q_2024, Or.inl q_2023⟩
theorem q_1767 : Cond.fieldLink RX11 335 "TypeTutorModel" "why" "I" ∈ gw := gw_in (t_in_7 (List.mem_of_getElem? (i := 172) rfl)) rfl
theorem fX11_335 : FL RX11 335 11 82 3 false .int := ⟨RX11, TX11, tyX11, kc_X11, by decide, rfl, rfl, Or.inl q_1767⟩
theorem q_1768 : Cond.fieldLink RX11 338 "TypeTutorModel" "detail" "I" ∈ gw := gw_in (t_in_7 (List.mem_of_getElem? (i := 173) rfl)) rfl
theorem fX11_338 : FL RX11 338 11 82 4 false .int := ⟨RX11, TX11, tyX11, kc_X11, by decide, rfl, rfl, Or.inl q_1768⟩
theorem q_1769 : Cond.fieldLink RX11 341 "TypeTutorModel" "causeWhy" "I" ∈ gw := gw_in (t_in_7 (List.mem_of_getElem? (i := 174) rfl)) rfl
theorem fX11_341 : FL RX11 341 11 82 5 false .int := ⟨RX11, TX11, tyX11, kc_X11, by decide, rfl, rfl, Or.inl q_1769⟩
theorem q_2062 : Cond.methodLink RX11 344 yX11_no ∈ gw := gw_in (t_in_8 (List.mem_of_getElem? (i := 227) rfl)) rfl
theorem q_2064 : Cond.instanceMethod yX11_no ∈ gw := gw_in (t_in_8 (List.mem_of_getElem? (i := 229) rfl)) rfl
theorem q_102 : Cond.selects RX11 yX11_no yX11_no ∈ gw := gw_in (lw_i (p_in_7 (List.mem_of_getElem? (i := 6) rfl))) rfl
theorem lX11_344 : LKV RX11 344 mX11_no 11 1 := ⟨cdX11_no, by decide, by decide +kernel, q_2064, q_102, Or.inl q_2062, _, _, _, kc_X11⟩
theorem q_1766 : Cond.fieldLink RX11 347 "TypeTutorModel" "changes" "I" ∈ gw := gw_in (t_in_7 (List.mem_of_getElem? (i := 171) rfl)) rfl
theorem fX11_347 : FL RX11 347 11 82 2 false .int := ⟨RX11, TX11, tyX11, kc_X11, by decide, rfl, rfl, Or.inl q_1766⟩
theorem q_2019 : Cond.methodLink RX11 350 yX11_begins ∈ gw := gw_in (t_in_8 (List.mem_of_getElem? (i := 184) rfl)) rfl
theorem q_2021 : Cond.instanceMethod yX11_begins ∈ gw := gw_in (t_in_8 (List.mem_of_getElem? (i := 186) rfl)) rfl
theorem q_95 : Cond.selects RX11 yX11_begins yX11_begins ∈ gw := gw_in (lw_i (p_in_6 (List.mem_of_getElem? (i := 15) rfl))) rfl
theorem lX11_350 : LKV RX11 350 mX11_begins 11 0 := ⟨cdX11_begins, by decide, by decide +kernel, q_2021, q_95, Or.inl q_2019, _, _, _, kc_X11⟩
theorem q_1835 : Cond.fieldLink RX11 353 "TypeTutorModel" "inputN" "I" ∈ gw := gw_in (t_in_8 (List.mem_of_getElem? (i := 0) rfl)) rfl
theorem fX11_353 : FL RX11 353 11 82 71 false .int := ⟨RX11, TX11, tyX11, kc_X11, by decide, rfl, rfl, Or.inl q_1835⟩
theorem q_2066 : Cond.methodLink RX11 356 yX11_refuses ∈ gw := gw_in (t_in_8 (List.mem_of_getElem? (i := 231) rfl)) rfl
theorem q_2068 : Cond.instanceMethod yX11_refuses ∈ gw := gw_in (t_in_8 (List.mem_of_getElem? (i := 233) rfl)) rfl
theorem q_103 : Cond.selects RX11 yX11_refuses yX11_refuses ∈ gw := gw_in (lw_i (p_in_7 (List.mem_of_getElem? (i := 7) rfl))) rfl
theorem lX11_356 : LKV RX11 356 mX11_refuses 11 2 := ⟨cdX11_refuses, by decide, by decide +kernel, q_2068, q_103, Or.inl q_2066, _, _, _, kc_X11⟩
theorem q_2070 : Cond.methodLink RX11 359 yX11_ends ∈ gw := gw_in (t_in_8 (List.mem_of_getElem? (i := 235) rfl)) rfl
theorem q_2072 : Cond.instanceMethod yX11_ends ∈ gw := gw_in (t_in_8 (List.mem_of_getElem? (i := 237) rfl)) rfl
theorem q_104 : Cond.selects RX11 yX11_ends yX11_ends ∈ gw := gw_in (lw_i (p_in_7 (List.mem_of_getElem? (i := 8) rfl))) rfl
theorem lX11_359 : LKV RX11 359 mX11_ends 11 2 := ⟨cdX11_ends, by decide, by decide +kernel, q_2072, q_104, Or.inl q_2070, _, _, _, kc_X11⟩
theorem q_2085 : Cond.methodLink RX11 361 yX11_isLesson ∈ gw := gw_in (t_in_9 (List.mem_of_getElem? (i := 10) rfl)) rfl
theorem q_2087 : Cond.instanceMethod yX11_isLesson ∈ gw := gw_in (t_in_9 (List.mem_of_getElem? (i := 12) rfl)) rfl
theorem q_106 : Cond.selects RX11 yX11_isLesson yX11_isLesson ∈ gw := gw_in (lw_i (p_in_7 (List.mem_of_getElem? (i := 10) rfl))) rfl
theorem lX11_361 : LKV RX11 361 mX11_isLesson 11 1 := ⟨cdX11_isLesson, by decide, by decide +kernel, q_2087, q_106, Or.inl q_2085, _, _, _, kc_X11⟩
theorem q_2081 : Cond.methodLink RX11 364 yX11_drops ∈ gw := gw_in (t_in_9 (List.mem_of_getElem? (i := 6) rfl)) rfl
theorem q_2083 : Cond.instanceMethod yX11_drops ∈ gw := gw_in (t_in_9 (List.mem_of_getElem? (i := 8) rfl)) rfl
theorem q_105 : Cond.selects RX11 yX11_drops yX11_drops ∈ gw := gw_in (lw_i (p_in_7 (List.mem_of_getElem? (i := 9) rfl))) rfl
theorem lX11_364 : LKV RX11 364 mX11_drops 11 1 := ⟨cdX11_drops, by decide, by decide +kernel, q_2083, q_105, Or.inl q_2081, _, _, _, kc_X11⟩
theorem q_2101 : Cond.methodLink RX11 367 yX11_finds ∈ gw := gw_in (t_in_9 (List.mem_of_getElem? (i := 26) rfl)) rfl
theorem q_2103 : Cond.instanceMethod yX11_finds ∈ gw := gw_in (t_in_9 (List.mem_of_getElem? (i := 28) rfl)) rfl
theorem q_109 : Cond.selects RX11 yX11_finds yX11_finds ∈ gw := gw_in (lw_i (p_in_7 (List.mem_of_getElem? (i := 13) rfl))) rfl
theorem lX11_367 : LKV RX11 367 mX11_finds 11 1 := ⟨cdX11_finds, by decide, by decide +kernel, q_2103, q_109, Or.inl q_2101, _, _, _, kc_X11⟩
theorem q_2196 : Cond.methodLink RX11 370 yX11_writesRow ∈ gw := gw_in (t_in_9 (List.mem_of_getElem? (i := 121) rfl)) rfl
theorem q_2198 : Cond.instanceMethod yX11_writesRow ∈ gw := gw_in (t_in_9 (List.mem_of_getElem? (i := 123) rfl)) rfl
theorem q_132 : Cond.selects RX11 yX11_writesRow yX11_writesRow ∈ gw := gw_in (lw_i (p_in_9 (List.mem_of_getElem? (i := 4) rfl))) rfl
theorem lX11_370 : LKV RX11 370 mX11_writesRow 11 1 := ⟨cdX11_writesRow, by decide, by decide +kernel, q_2198, q_132, Or.inl q_2196, _, _, _, kc_X11⟩
theorem q_2097 : Cond.methodLink RX11 373 yX11_keeps ∈ gw := gw_in (t_in_9 (List.mem_of_getElem? (i := 22) rfl)) rfl
theorem q_2099 : Cond.instanceMethod yX11_keeps ∈ gw := gw_in (t_in_9 (List.mem_of_getElem? (i := 24) rfl)) rfl
theorem q_108 : Cond.selects RX11 yX11_keeps yX11_keeps ∈ gw := gw_in (lw_i (p_in_7 (List.mem_of_getElem? (i := 12) rfl))) rfl
theorem lX11_373 : LKV RX11 373 mX11_keeps 11 2 := ⟨cdX11_keeps, by decide, by decide +kernel, q_2099, q_108, Or.inl q_2097, _, _, _, kc_X11⟩
theorem q_2204 : Cond.methodLink RX11 376 yX11_unkeeps ∈ gw := gw_in (t_in_9 (List.mem_of_getElem? (i := 129) rfl)) rfl
theorem q_2206 : Cond.instanceMethod yX11_unkeeps ∈ gw := gw_in (t_in_9 (List.mem_of_getElem? (i := 131) rfl)) rfl
theorem q_133 : Cond.selects RX11 yX11_unkeeps yX11_unkeeps ∈ gw := gw_in (lw_i (p_in_9 (List.mem_of_getElem? (i := 5) rfl))) rfl
theorem lX11_376 : LKV RX11 376 mX11_unkeeps 11 1 := ⟨cdX11_unkeeps, by decide, by decide +kernel, q_2206, q_133, Or.inl q_2204, _, _, _, kc_X11⟩
theorem q_2216 : Cond.methodLink RX11 379 yX11_isNode ∈ gw := gw_in (t_in_9 (List.mem_of_getElem? (i := 141) rfl)) rfl
theorem q_2218 : Cond.instanceMethod yX11_isNode ∈ gw := gw_in (t_in_9 (List.mem_of_getElem? (i := 143) rfl)) rfl
theorem q_134 : Cond.selects RX11 yX11_isNode yX11_isNode ∈ gw := gw_in (lw_i (p_in_9 (List.mem_of_getElem? (i := 6) rfl))) rfl
theorem lX11_379 : LKV RX11 379 mX11_isNode 11 2 := ⟨cdX11_isNode, by decide, by decide +kernel, q_2218, q_134, Or.inl q_2216, _, _, _, kc_X11⟩
theorem q_2232 : Cond.methodLink RX11 382 yX11_boundBy ∈ gw := gw_in (t_in_9 (List.mem_of_getElem? (i := 157) rfl)) rfl
theorem q_2234 : Cond.instanceMethod yX11_boundBy ∈ gw := gw_in (t_in_9 (List.mem_of_getElem? (i := 159) rfl)) rfl
theorem q_135 : Cond.selects RX11 yX11_boundBy yX11_boundBy ∈ gw := gw_in (lw_i (p_in_9 (List.mem_of_getElem? (i := 7) rfl))) rfl
theorem lX11_382 : LKV RX11 382 mX11_boundBy 11 1 := ⟨cdX11_boundBy, by decide, by decide +kernel, q_2234, q_135, Or.inl q_2232, _, _, _, kc_X11⟩
theorem q_2256 : Cond.methodLink RX11 385 yX11_places ∈ gw := gw_in (t_in_9 (List.mem_of_getElem? (i := 181) rfl)) rfl
theorem q_2258 : Cond.instanceMethod yX11_places ∈ gw := gw_in (t_in_9 (List.mem_of_getElem? (i := 183) rfl)) rfl
theorem q_137 : Cond.selects RX11 yX11_places yX11_places ∈ gw := gw_in (lw_i (p_in_9 (List.mem_of_getElem? (i := 9) rfl))) rfl
theorem lX11_385 : LKV RX11 385 mX11_places 11 0 := ⟨cdX11_places, by decide, by decide +kernel, q_2258, q_137, Or.inl q_2256, _, _, _, kc_X11⟩
theorem q_2252 : Cond.methodLink RX11 388 yX11_number ∈ gw := gw_in (t_in_9 (List.mem_of_getElem? (i := 177) rfl)) rfl
theorem q_2254 : Cond.instanceMethod yX11_number ∈ gw := gw_in (t_in_9 (List.mem_of_getElem? (i := 179) rfl)) rfl
theorem q_136 : Cond.selects RX11 yX11_number yX11_number ∈ gw := gw_in (lw_i (p_in_9 (List.mem_of_getElem? (i := 8) rfl))) rfl
theorem lX11_388 : LKV RX11 388 mX11_number 11 2 := ⟨cdX11_number, by decide, by decide +kernel, q_2254, q_136, Or.inl q_2252, _, _, _, kc_X11⟩
theorem q_2264 : Cond.methodLink RX11 391 yX11_again ∈ gw := gw_in (t_in_9 (List.mem_of_getElem? (i := 189) rfl)) rfl
theorem q_2266 : Cond.instanceMethod yX11_again ∈ gw := gw_in (t_in_9 (List.mem_of_getElem? (i := 191) rfl)) rfl
theorem q_138 : Cond.selects RX11 yX11_again yX11_again ∈ gw := gw_in (lw_i (p_in_9 (List.mem_of_getElem? (i := 10) rfl))) rfl
theorem lX11_391 : LKV RX11 391 mX11_again 11 0 := ⟨cdX11_again, by decide, by decide +kernel, q_2266, q_138, Or.inl q_2264, _, _, _, kc_X11⟩
theorem q_1837 : Cond.fieldLink RX11 394 "TypeTutorModel" "oneN" "I" ∈ gw := gw_in (t_in_8 (List.mem_of_getElem? (i := 2) rfl)) rfl
theorem fX11_394 : FL RX11 394 11 82 73 false .int := ⟨RX11, TX11, tyX11, kc_X11, by decide, rfl, rfl, Or.inl q_1837⟩
theorem q_1838 : Cond.fieldLink RX11 397 "TypeTutorModel" "twoN" "I" ∈ gw := gw_in (t_in_8 (List.mem_of_getElem? (i := 3) rfl)) rfl
theorem fX11_397 : FL RX11 397 11 82 74 false .int := ⟨RX11, TX11, tyX11, kc_X11, by decide, rfl, rfl, Or.inl q_1838⟩
theorem q_2280 : Cond.methodLink RX11 400 yX11_both ∈ gw := gw_in (t_in_9 (List.mem_of_getElem? (i := 205) rfl)) rfl
theorem q_2282 : Cond.instanceMethod yX11_both ∈ gw := gw_in (t_in_9 (List.mem_of_getElem? (i := 207) rfl)) rfl
theorem q_140 : Cond.selects RX11 yX11_both yX11_both ∈ gw := gw_in (lw_i (p_in_9 (List.mem_of_getElem? (i := 12) rfl))) rfl
theorem lX11_400 : LKV RX11 400 mX11_both 11 2 := ⟨cdX11_both, by decide, by decide +kernel, q_2282, q_140, Or.inl q_2280, _, _, _, kc_X11⟩
theorem q_2276 : Cond.methodLink RX11 403 yX11_twoLessons ∈ gw := gw_in (t_in_9 (List.mem_of_getElem? (i := 201) rfl)) rfl
theorem q_2278 : Cond.instanceMethod yX11_twoLessons ∈ gw := gw_in (t_in_9 (List.mem_of_getElem? (i := 203) rfl)) rfl
theorem q_139 : Cond.selects RX11 yX11_twoLessons yX11_twoLessons ∈ gw := gw_in (lw_i (p_in_9 (List.mem_of_getElem? (i := 11) rfl))) rfl
theorem lX11_403 : LKV RX11 403 mX11_twoLessons 11 2 := ⟨cdX11_twoLessons, by decide, by decide +kernel, q_2278, q_139, Or.inl q_2276, _, _, _, kc_X11⟩
theorem q_2292 : Cond.methodLink RX11 406 yX11_endOf ∈ gw := gw_in (t_in_9 (List.mem_of_getElem? (i := 217) rfl)) rfl
theorem q_2294 : Cond.instanceMethod yX11_endOf ∈ gw := gw_in (t_in_9 (List.mem_of_getElem? (i := 219) rfl)) rfl
theorem q_142 : Cond.selects RX11 yX11_endOf yX11_endOf ∈ gw := gw_in (lw_i (p_in_9 (List.mem_of_getElem? (i := 14) rfl))) rfl
theorem lX11_406 : LKV RX11 406 mX11_endOf 11 1 := ⟨cdX11_endOf, by decide, by decide +kernel, q_2294, q_142, Or.inl q_2292, _, _, _, kc_X11⟩
theorem q_2288 : Cond.methodLink RX11 409 yX11_isSame ∈ gw := gw_in (t_in_9 (List.mem_of_getElem? (i := 213) rfl)) rfl
theorem q_2290 : Cond.instanceMethod yX11_isSame ∈ gw := gw_in (t_in_9 (List.mem_of_getElem? (i := 215) rfl)) rfl
theorem q_141 : Cond.selects RX11 yX11_isSame yX11_isSame ∈ gw := gw_in (lw_i (p_in_9 (List.mem_of_getElem? (i := 13) rfl))) rfl
theorem lX11_409 : LKV RX11 409 mX11_isSame 11 2 := ⟨cdX11_isSame, by decide, by decide +kernel, q_2290, q_141, Or.inl q_2288, _, _, _, kc_X11⟩
theorem q_2300 : Cond.methodLink RX11 412 yX11_fitted ∈ gw := gw_in (t_in_9 (List.mem_of_getElem? (i := 225) rfl)) rfl
theorem q_2302 : Cond.instanceMethod yX11_fitted ∈ gw := gw_in (t_in_9 (List.mem_of_getElem? (i := 227) rfl)) rfl
theorem q_143 : Cond.selects RX11 yX11_fitted yX11_fitted ∈ gw := gw_in (lw_i (p_in_9 (List.mem_of_getElem? (i := 15) rfl))) rfl
theorem lX11_412 : LKV RX11 412 mX11_fitted 11 0 := ⟨cdX11_fitted, by decide, by decide +kernel, q_2302, q_143, Or.inl q_2300, _, _, _, kc_X11⟩
theorem q_2320 : Cond.methodLink RX11 415 yX11_many ∈ gw := gw_in (t_in_10 (List.mem_of_getElem? (i := 5) rfl)) rfl
theorem q_2322 : Cond.instanceMethod yX11_many ∈ gw := gw_in (t_in_10 (List.mem_of_getElem? (i := 7) rfl)) rfl
theorem q_144 : Cond.selects RX11 yX11_many yX11_many ∈ gw := gw_in (lw_i (p_in_10 (List.mem_of_getElem? (i := 0) rfl))) rfl
theorem lX11_415 : LKV RX11 415 mX11_many 11 1 := ⟨cdX11_many, by decide, by decide +kernel, q_2322, q_144, Or.inl q_2320, _, _, _, kc_X11⟩
theorem q_1839 : Cond.fieldLink RX11 418 "TypeTutorModel" "here" "I" ∈ gw := gw_in (t_in_8 (List.mem_of_getElem? (i := 4) rfl)) rfl
theorem fX11_418 : FL RX11 418 11 82 75 false .int := ⟨RX11, TX11, tyX11, kc_X11, by decide, rfl, rfl, Or.inl q_1839⟩
theorem q_1840 : Cond.fieldLink RX11 421 "TypeTutorModel" "end" "I" ∈ gw := gw_in (t_in_8 (List.mem_of_getElem? (i := 5) rfl)) rfl
theorem fX11_421 : FL RX11 421 11 82 76 false .int := ⟨RX11, TX11, tyX11, kc_X11, by decide, rfl, rfl, Or.inl q_1840⟩
theorem q_2344 : Cond.methodLink RX11 424 yX11_next ∈ gw := gw_in (t_in_10 (List.mem_of_getElem? (i := 29) rfl)) rfl
theorem q_2346 : Cond.instanceMethod yX11_next ∈ gw := gw_in (t_in_10 (List.mem_of_getElem? (i := 31) rfl)) rfl
theorem q_147 : Cond.selects RX11 yX11_next yX11_next ∈ gw := gw_in (lw_i (p_in_10 (List.mem_of_getElem? (i := 3) rfl))) rfl
theorem lX11_424 : LKV RX11 424 mX11_next 11 0 := ⟨cdX11_next, by decide, by decide +kernel, q_2346, q_147, Or.inl q_2344, _, _, _, kc_X11⟩
theorem q_1841 : Cond.fieldLink RX11 427 "TypeTutorModel" "order" "I" ∈ gw := gw_in (t_in_8 (List.mem_of_getElem? (i := 6) rfl)) rfl
theorem fX11_427 : FL RX11 427 11 82 77 false .int := ⟨RX11, TX11, tyX11, kc_X11, by decide, rfl, rfl, Or.inl q_1841⟩
theorem q_2340 : Cond.methodLink RX11 430 yX11_isOrder ∈ gw := gw_in (t_in_10 (List.mem_of_getElem? (i := 25) rfl)) rfl
theorem q_2342 : Cond.instanceMethod yX11_isOrder ∈ gw := gw_in (t_in_10 (List.mem_of_getElem? (i := 27) rfl)) rfl
theorem q_146 : Cond.selects RX11 yX11_isOrder yX11_isOrder ∈ gw := gw_in (lw_i (p_in_10 (List.mem_of_getElem? (i := 2) rfl))) rfl
theorem lX11_430 : LKV RX11 430 mX11_isOrder 11 1 := ⟨cdX11_isOrder, by decide, by decide +kernel, q_2342, q_146, Or.inl q_2340, _, _, _, kc_X11⟩
theorem q_2336 : Cond.methodLink RX11 434 yX11_areOrders ∈ gw := gw_in (t_in_10 (List.mem_of_getElem? (i := 21) rfl)) rfl
theorem q_2338 : Cond.instanceMethod yX11_areOrders ∈ gw := gw_in (t_in_10 (List.mem_of_getElem? (i := 23) rfl)) rfl
theorem q_145 : Cond.selects RX11 yX11_areOrders yX11_areOrders ∈ gw := gw_in (lw_i (p_in_10 (List.mem_of_getElem? (i := 1) rfl))) rfl
theorem lX11_434 : LKV RX11 434 mX11_areOrders 11 1 := ⟨cdX11_areOrders, by decide, by decide +kernel, q_2338, q_145, Or.inl q_2336, _, _, _, kc_X11⟩
theorem q_1770 : Cond.fieldLink RX11 437 "TypeTutorModel" "causeDetail" "I" ∈ gw := gw_in (t_in_7 (List.mem_of_getElem? (i := 175) rfl)) rfl
theorem fX11_437 : FL RX11 437 11 82 6 false .int := ⟨RX11, TX11, tyX11, kc_X11, by decide, rfl, rfl, Or.inl q_1770⟩
theorem q_1844 : Cond.fieldLink RX11 440 "TypeTutorModel" "lineN" "I" ∈ gw := gw_in (t_in_8 (List.mem_of_getElem? (i := 9) rfl)) rfl
theorem fX11_440 : FL RX11 440 11 82 80 false .int := ⟨RX11, TX11, tyX11, kc_X11, by decide, rfl, rfl, Or.inl q_1844⟩
theorem q_1845 : Cond.fieldLink RX11 443 "TypeTutorModel" "actN" "I" ∈ gw := gw_in (t_in_8 (List.mem_of_getElem? (i := 10) rfl)) rfl
theorem fX11_443 : FL RX11 443 11 82 81 false .int := ⟨RX11, TX11, tyX11, kc_X11, by decide, rfl, rfl, Or.inl q_1845⟩
theorem q_2364 : Cond.methodLink RX11 446 yX11_later ∈ gw := gw_in (t_in_10 (List.mem_of_getElem? (i := 49) rfl)) rfl
theorem q_2366 : Cond.instanceMethod yX11_later ∈ gw := gw_in (t_in_10 (List.mem_of_getElem? (i := 51) rfl)) rfl
theorem q_149 : Cond.selects RX11 yX11_later yX11_later ∈ gw := gw_in (lw_i (p_in_10 (List.mem_of_getElem? (i := 5) rfl))) rfl
theorem lX11_446 : LKV RX11 446 mX11_later 11 1 := ⟨cdX11_later, by decide, by decide +kernel, q_2366, q_149, Or.inl q_2364, _, _, _, kc_X11⟩
theorem q_2368 : Cond.methodLink RX11 449 yX11_writes ∈ gw := gw_in (t_in_10 (List.mem_of_getElem? (i := 53) rfl)) rfl
theorem q_2370 : Cond.instanceMethod yX11_writes ∈ gw := gw_in (t_in_10 (List.mem_of_getElem? (i := 55) rfl)) rfl
theorem q_150 : Cond.selects RX11 yX11_writes yX11_writes ∈ gw := gw_in (lw_i (p_in_10 (List.mem_of_getElem? (i := 6) rfl))) rfl
theorem lX11_449 : LKV RX11 449 mX11_writes 11 1 := ⟨cdX11_writes, by decide, by decide +kernel, q_2370, q_150, Or.inl q_2368, _, _, _, kc_X11⟩
theorem q_2360 : Cond.methodLink RX11 452 yX11_writesType ∈ gw := gw_in (t_in_10 (List.mem_of_getElem? (i := 45) rfl)) rfl
theorem q_2362 : Cond.instanceMethod yX11_writesType ∈ gw := gw_in (t_in_10 (List.mem_of_getElem? (i := 47) rfl)) rfl
theorem q_148 : Cond.selects RX11 yX11_writesType yX11_writesType ∈ gw := gw_in (lw_i (p_in_10 (List.mem_of_getElem? (i := 4) rfl))) rfl
theorem lX11_452 : LKV RX11 452 mX11_writesType 11 0 := ⟨cdX11_writesType, by decide, by decide +kernel, q_2362, q_148, Or.inl q_2360, _, _, _, kc_X11⟩
theorem q_2384 : Cond.methodLink RX11 455 yX11_writesNode ∈ gw := gw_in (t_in_10 (List.mem_of_getElem? (i := 69) rfl)) rfl
theorem q_2386 : Cond.instanceMethod yX11_writesNode ∈ gw := gw_in (t_in_10 (List.mem_of_getElem? (i := 71) rfl)) rfl
theorem q_151 : Cond.selects RX11 yX11_writesNode yX11_writesNode ∈ gw := gw_in (lw_i (p_in_10 (List.mem_of_getElem? (i := 7) rfl))) rfl
theorem lX11_455 : LKV RX11 455 mX11_writesNode 11 1 := ⟨cdX11_writesNode, by decide, by decide +kernel, q_2386, q_151, Or.inl q_2384, _, _, _, kc_X11⟩
theorem q_2396 : Cond.methodLink RX11 458 yX11_ofLessons ∈ gw := gw_in (t_in_10 (List.mem_of_getElem? (i := 81) rfl)) rfl
theorem q_2398 : Cond.instanceMethod yX11_ofLessons ∈ gw := gw_in (t_in_10 (List.mem_of_getElem? (i := 83) rfl)) rfl
theorem q_152 : Cond.selects RX11 yX11_ofLessons yX11_ofLessons ∈ gw := gw_in (lw_i (p_in_10 (List.mem_of_getElem? (i := 8) rfl))) rfl
theorem lX11_458 : LKV RX11 458 mX11_ofLessons 11 1 := ⟨cdX11_ofLessons, by decide, by decide +kernel, q_2398, q_152, Or.inl q_2396, _, _, _, kc_X11⟩
theorem q_2400 : Cond.methodLink RX11 461 yX11_allNodes ∈ gw := gw_in (t_in_10 (List.mem_of_getElem? (i := 85) rfl)) rfl
theorem q_2402 : Cond.instanceMethod yX11_allNodes ∈ gw := gw_in (t_in_10 (List.mem_of_getElem? (i := 87) rfl)) rfl
theorem q_153 : Cond.selects RX11 yX11_allNodes yX11_allNodes ∈ gw := gw_in (lw_i (p_in_10 (List.mem_of_getElem? (i := 9) rfl))) rfl
theorem lX11_461 : LKV RX11 461 mX11_allNodes 11 0 := ⟨cdX11_allNodes, by decide, by decide +kernel, q_2402, q_153, Or.inl q_2400, _, _, _, kc_X11⟩
theorem q_2404 : Cond.methodLink RX11 464 yX11_keptNow ∈ gw := gw_in (t_in_10 (List.mem_of_getElem? (i := 89) rfl)) rfl
theorem q_2406 : Cond.instanceMethod yX11_keptNow ∈ gw := gw_in (t_in_10 (List.mem_of_getElem? (i := 91) rfl)) rfl
theorem q_154 : Cond.selects RX11 yX11_keptNow yX11_keptNow ∈ gw := gw_in (lw_i (p_in_10 (List.mem_of_getElem? (i := 10) rfl))) rfl
theorem lX11_464 : LKV RX11 464 mX11_keptNow 11 0 := ⟨cdX11_keptNow, by decide, by decide +kernel, q_2406, q_154, Or.inl q_2404, _, _, _, kc_X11⟩
theorem q_1774 : Cond.fieldLink RX11 467 "TypeTutorModel" "isSaved" "Z" ∈ gw := gw_in (t_in_7 (List.mem_of_getElem? (i := 179) rfl)) rfl
theorem fX11_467 : FL RX11 467 11 82 10 false .boolean := ⟨RX11, TX11, tyX11, kc_X11, by decide, rfl, rfl, Or.inl q_1774⟩
theorem q_ai : Cond.arrayClass .int ∈ gw := gw_in (t_in_1 (List.mem_of_getElem? (i := 96) rfl)) rfl
