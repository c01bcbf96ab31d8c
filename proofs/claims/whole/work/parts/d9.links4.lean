section EvLd
variable {M : MD} {d pc : Nat} {L S : List AV} {h : AH} {Q : AV → AH → Prop}
theorem ev_ldci {idx : Nat} {x : Int} {v : Int32} (hd : decode M.cc pc = .ok (.ldc idx, 2)) (hc : Cond.constant M.y.cls idx v ∈ gw) (hv : v = Int32.ofInt x) (hx : ir x) (k : EV M d (pc + 2) L (iv x :: S) h Q) : EV M d pc L S h Q :=
  ev_pure k (fun _ hS _ => SR_c (VR_i hx) hS) (fun _ _ _ C _ _ k => lv_ldc C.1 C.2.1 C.2.2.2.2.1 (C.2.2.2.2.2.1 _ hc) hd (by rw [hv]; exact k))
end EvLd
/-! further links -/
theorem q_acl : Cond.methodLink RJ7 150 arraycopyName ∈ gw := gw_in (t_in_2 (List.mem_of_getElem? (i := 130) rfl)) rfl
theorem q_acn : Cond.native arraycopyName ∈ gw := gw_in (t_in_2 (List.mem_of_getElem? (i := 132) rfl)) rfl
theorem q_acs : Cond.static arraycopyName ∈ gw := gw_in (t_in_2 (List.mem_of_getElem? (i := 131) rfl)) rfl
theorem q_aci : Cond.initialized "java/lang/System" ∈ gw := gw_in (t_in_1 (List.mem_of_getElem? (i := 23) rfl)) rfl
theorem q_kst0 : Cond.constant RX9 102 1000000 ∈ gw := gw_in (t_in_2 (List.mem_of_getElem? (i := 177) rfl)) rfl
theorem q_kst1 : Cond.constant RX0 45 1000000 ∈ gw := gw_in (t_in_2 (List.mem_of_getElem? (i := 141) rfl)) rfl
theorem q_kst2 : Cond.constant RJ8 200 2147483639 ∈ gw := gw_in (t_in_3 (List.mem_of_getElem? (i := 209) rfl)) rfl
theorem q_kst3 : Cond.constant RJ5 39 2147483647 ∈ gw := gw_in (t_in_3 (List.mem_of_getElem? (i := 213) rfl)) rfl
theorem q_kst4 : Cond.constant RJ2 20 1073741823 ∈ gw := gw_in (t_in_1 (List.mem_of_getElem? (i := 61) rfl)) rfl
