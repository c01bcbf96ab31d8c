/-! the class is asked for lessons and their nodes -/
/-- the lessons of now: N of them, lesson l the term tc l, with the nodes LL l -/
def SNw (h : AH) (N : Nat) (tc : Nat → Nat) (LL : Nat → List Nd) : Prop := CI h ∧ h.vl 31 2 = (N : Int) ∧ N ≤ 6 ∧ ∀ l, l < N → h.vl 32 l = (tc l : Int) ∧ TmL h (tc l) (LL l)
theorem SNw.tm {h : AH} {N : Nat} {tc : Nat → Nat} {LL : Nat → List Nd} (hS : SNw h N tc LL) {p : Int} (hp : 0 ≤ p ∧ p < (N : Int)) : tmAt h 31 32 p = (tc p.toNat : Int) := by
  have h6 := hS.2.2.1
  unfold tmAt
  rw [hS.2.1, if_pos (by omega)]
  exact (hS.2.2.2 p.toNat (by omega)).1
set_option maxRecDepth 100000 in
theorem g_termOf1 {p : Int} {N : Nat} {tc : Nat → Nat} {LL : Nat → List Nd} {h : AH} (hS : SNw h N tc LL) (hp : 0 ≤ p ∧ p < (N : Int)) : CV mX10_termOf 6 [rv 0, iv p] h (oa fun r h1 => r = (tc p.toNat : Int) ∧ h1 = h) := by
  have hC := hS.1
  refine cv_of cdX10_termOf ?_
  show EV _ _ 0 [rv 0, iv p, uv] [] h _
  refine ev_aload_n dX10_termOf_0 rfl ?_
  refine ev_getrv dX10_termOf_1 fX10_48 hC.k0 hC.n0 rfl hC.v0_6 ?_
  refine ev_iload_n dX10_termOf_4 rfl ?_
  refine ev_cvr dX10_termOf_5 lX10_210 (s_termAt hC.st31) (by decide) hC.k31 hC.n31 rfl rfl rfl (Nat.le_of_ble_eq_true rfl) rfl (fun r h1 q => ?_)
  obtain ⟨rfl, e⟩ := q
  rw [e, hS.tm hp]
  refine ev_ast2 dX10_termOf_8 ?_
  refine ev_aload_n dX10_termOf_9 rfl ?_
  refine ev_ifnonnull 24 dX10_termOf_10 (fun hc => ?_) (fun h_no => (by exfalso; omega))
  refine ev_aload_n dX10_termOf_24 rfl ?_
  exact ev_aret dX10_termOf_25 (⟨_, rfl, rfl, rfl⟩) rfl (Or.inl ⟨_, rfl⟩)
set_option maxRecDepth 100000 in
theorem g_termOf0 {p : Int} {N : Nat} {tc : Nat → Nat} {LL : Nat → List Nd} {h : AH} (hS : SNw h N tc LL) (hp : ¬ (0 ≤ p ∧ p < (N : Int))) : CV mX10_termOf 6 [rv 0, iv p] h (fun o h1 => o = xv 2 ∧ h1 = h.thr) := by
  have hC := hS.1
  have e0 : tmAt h 31 32 p = -1 := by
    unfold tmAt
    rw [hS.2.1, if_neg (by omega)]
  refine cv_of cdX10_termOf ?_
  show EV _ _ 0 [rv 0, iv p, uv] [] h _
  refine ev_aload_n dX10_termOf_0 rfl ?_
  refine ev_getrv dX10_termOf_1 fX10_48 hC.k0 hC.n0 rfl hC.v0_6 ?_
  refine ev_iload_n dX10_termOf_4 rfl ?_
  refine ev_cvr dX10_termOf_5 lX10_210 (s_termAt hC.st31) (by decide) hC.k31 hC.n31 rfl rfl rfl (Nat.le_of_ble_eq_true rfl) rfl (fun r h1 q => ?_)
  obtain ⟨rfl, e⟩ := q
  rw [e, e0]
  refine ev_ast2 dX10_termOf_8 ?_
  refine ev_aload_n dX10_termOf_9 rfl ?_
  refine ev_ifnonnull 24 dX10_termOf_10 (fun h_no => (by exfalso; omega)) (fun hc => ?_)
  exact ev_throww _ tk_2 (List.mem_of_getElem? (i := 27) rfl) dX10_termOf_13 dX10_termOf_16 dX10_termOf_17 dX10_termOf_20 dX10_termOf_23 rfl (Nat.le_of_ble_eq_true rfl) (⟨rfl, rfl⟩)
set_option maxRecDepth 100000 in
theorem g_nodes {p : Int} {N : Nat} {tc : Nat → Nat} {LL : Nat → List Nd} {h : AH} (hS : SNw h N tc LL) : CV mX10_nodes 8 [rv 0, iv p] h (fun o h1 => ((0 ≤ p ∧ p < (N : Int)) ∧ o = iv ((LL p.toNat).length : Int) ∧ h1 = h) ∨ (¬ (0 ≤ p ∧ p < (N : Int)) ∧ o = xv 2 ∧ h1 = h.thr)) := by
  have hC := hS.1
  refine cv_of cdX10_nodes ?_
  show EV _ _ 0 [rv 0, iv p] [] h _
  by_cases hp : 0 ≤ p ∧ p < (N : Int)
  · skip
    obtain ⟨⟨ka, na⟩, hcnt⟩ := ((hS.2.2.2 p.toNat (by omega)).2).t.o
    refine ev_aload_n dX10_nodes_0 rfl ?_
    refine ev_iload_n dX10_nodes_1 rfl ?_
    refine ev_cvr dX10_nodes_2 lX10_126 (g_termOf1 hS hp) (by decide) hC.k0 hC.n0 rfl rfl rfl (Nat.le_of_ble_eq_true rfl) rfl (fun r h1 q => ?_)
    obtain ⟨rfl, e⟩ := q
    rw [e]
    refine ev_getiv dX10_nodes_5 fX10_130 ka na rfl hcnt ?_
    exact ev_iret dX10_nodes_8 (Or.inl ⟨hp, rfl, rfl⟩)
  · skip
    refine ev_aload_n dX10_nodes_0 rfl ?_
    refine ev_iload_n dX10_nodes_1 rfl ?_
    refine ev_callv dX10_nodes_2 lX10_126 (g_termOf0 hS hp) (by decide) (by decide) (by have := hC.n0; omega) hC.k0 rfl rfl (Nat.le_of_ble_eq_true rfl) rfl (fun o h1 q => by obtain ⟨rfl, rfl⟩ := q; exact ⟨fun _ => Or.inr ⟨hp, rfl, rfl⟩, fun e => absurd rfl e⟩) (Or.inr q_1326)
set_option maxRecDepth 100000 in
theorem g_unbound {p : Int} {N : Nat} {tc : Nat → Nat} {LL : Nat → List Nd} {h : AH} (hS : SNw h N tc LL) : CV mX10_unbound 8 [rv 0, iv p] h (fun o h1 => ((0 ≤ p ∧ p < (N : Int)) ∧ o = iv (bb (TBL (LL p.toNat)) (-1) (LL p.toNat).length) ∧ h1 = h) ∨ (¬ (0 ≤ p ∧ p < (N : Int)) ∧ o = xv 2 ∧ h1 = h.thr)) := by
  have hC := hS.1
  refine cv_of cdX10_unbound ?_
  show EV _ _ 0 [rv 0, iv p] [] h _
  by_cases hp : 0 ≤ p ∧ p < (N : Int)
  · skip
    have hT := (hS.2.2.2 p.toNat (by omega)).2
    obtain ⟨⟨ka, na⟩, hcnt⟩ := hT.t.o
    refine ev_aload_n dX10_unbound_0 rfl ?_
    refine ev_iload_n dX10_unbound_1 rfl ?_
    refine ev_cvr dX10_unbound_2 lX10_126 (g_termOf1 hS hp) (by decide) hC.k0 hC.n0 rfl rfl rfl (Nat.le_of_ble_eq_true rfl) rfl (fun r h1 q => ?_)
    obtain ⟨rfl, e⟩ := q
    rw [e]
    refine ev_iconst dX10_unbound_5 ?_
    refine ev_cvi dX10_unbound_6 lX10_151 (s_names hT) (by decide) ka na rfl rfl rfl (Nat.le_of_ble_eq_true rfl) rfl (fun r h2 q => ?_)
    obtain ⟨rfl, e⟩ := q
    rw [e]
    exact ev_iret dX10_unbound_9 (Or.inl ⟨hp, rfl, rfl⟩)
  · skip
    refine ev_aload_n dX10_unbound_0 rfl ?_
    refine ev_iload_n dX10_unbound_1 rfl ?_
    refine ev_callv dX10_unbound_2 lX10_126 (g_termOf0 hS hp) (by decide) (by decide) (by have := hC.n0; omega) hC.k0 rfl rfl (Nat.le_of_ble_eq_true rfl) rfl (fun o h1 q => by obtain ⟨rfl, rfl⟩ := q; exact ⟨fun _ => Or.inr ⟨hp, rfl, rfl⟩, fun e => absurd rfl e⟩) (Or.inr q_1326)
