/-! small questions to the class -/
set_option maxRecDepth 100000 in
theorem g_isKept {p : Int} {h : AH} (hC : CI h) : CV mX10_isKept 8 [rv 0, iv p] h (fun o h1 => (¬ (0 ≤ p ∧ p < 8) ∧ o = xv 2 ∧ h1 = h.thr) ∨ ((0 ≤ p ∧ p < 8) ∧ o = iv (if kpAt h 33 p < 0 then 0 else 1) ∧ h1 = h)) := by
  refine cv_of cdX10_isKept ?_
  show EV _ _ 0 [rv 0, iv p] [] h _
  refine ev_iload_n dX10_isKept_0 rfl ?_
  by_cases hp : 0 ≤ p ∧ p < 8
  · skip
    refine ev_csv dX10_isKept_1 lX10_217 (s_needCap1 hp) (by decide) rfl rfl (Nat.le_of_ble_eq_true rfl) rfl (fun h1 q => ?_)
    rw [q]
    refine ev_aload_n dX10_isKept_4 rfl ?_
    refine ev_getrv dX10_isKept_5 fX10_48 hC.k0 hC.n0 rfl hC.v0_6 ?_
    refine ev_iload_n dX10_isKept_8 rfl ?_
    refine ev_cvr dX10_isKept_9 lX10_220 (s_keptAtC hC.st31) (by decide) hC.k31 hC.n31 rfl rfl rfl (Nat.le_of_ble_eq_true rfl) rfl (fun r h1 q => ?_)
    obtain ⟨rfl, e⟩ := q
    rw [e]
    by_cases hk : kpAt h 33 p < 0
    · skip
      rw [if_pos hk]
      refine ev_ifnull 19 dX10_isKept_12 (fun hc => ?_) (fun h_no => (by exfalso; omega))
      refine ev_iconst dX10_isKept_19 ?_
      exact ev_zret dX10_isKept_20 (Or.inr ⟨hp, rfl, rfl⟩) (Or.inl rfl)
    · skip
      rw [if_neg hk]
      refine ev_ifnull 19 dX10_isKept_12 (fun h_no => (by exfalso; omega)) (fun hc => ?_)
      refine ev_iconst dX10_isKept_15 ?_
      refine ev_gt 20 dX10_isKept_16 ?_
      exact ev_zret dX10_isKept_20 (Or.inr ⟨hp, rfl, rfl⟩) (Or.inr rfl)
  · skip
    refine ev_calls dX10_isKept_1 lX10_217 (s_needCap0 hp) (by decide) rfl rfl (Nat.le_of_ble_eq_true rfl) rfl (fun o h1 q => by obtain ⟨rfl, rfl⟩ := q; exact ⟨fun _ => Or.inl ⟨hp, rfl, rfl⟩, fun e => absurd rfl e⟩) (Or.inr q_1529)
set_option maxRecDepth 100000 in
theorem g_faultPos {h : AH} (hC : CI h) : CV mX10_faultPosition 8 [rv 0] h (oi fun r h1 => r = h.vl 0 11 ∧ h1 = h) := by
  refine cv_of cdX10_faultPosition ?_
  show EV _ _ 0 [rv 0] [] h _
  refine ev_aload_n dX10_faultPosition_0 rfl ?_
  refine ev_geti dX10_faultPosition_1 fX10_65 hC.k0 hC.n0 rfl ?_
  exact ev_iret dX10_faultPosition_4 (⟨_, rfl, rfl, rfl⟩)
