/-! further links -/
theorem q_acl : Cond.methodLink RJ7 150 arraycopyName ∈ gw := gw_in (t_in_2 (List.mem_of_getElem? (i := 130) rfl)) rfl
theorem q_acn : Cond.native arraycopyName ∈ gw := gw_in (t_in_2 (List.mem_of_getElem? (i := 132) rfl)) rfl
theorem q_acs : Cond.static arraycopyName ∈ gw := gw_in (t_in_2 (List.mem_of_getElem? (i := 131) rfl)) rfl
theorem q_aci : Cond.initialized "java/lang/System" ∈ gw := gw_in (t_in_1 (List.mem_of_getElem? (i := 23) rfl)) rfl
