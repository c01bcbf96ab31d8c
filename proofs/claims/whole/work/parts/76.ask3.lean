/-! the class is asked for nodes -/
theorem s_hasT {a : Nat} {L : List Nd} {j : Int} {h : AH} (hT : TmL h a L) : CV mX7_hasNode 1 [rv a, iv j] h (oi fun r h1 => r = (if 0 ≤ j ∧ j < (L.length : Int) then 1 else 0) ∧ h1 = h) := by
  obtain ⟨rr, ro, N, hI, -⟩ := hT
  exact s_hasNode hI
set_option maxRecDepth 100000 in
theorem g_with1 {p q : Int} {N : Nat} {tc : Nat → Nat} {LL : Nat → List Nd} {h : AH} (hS : SNw h N tc LL) (hp : (0 ≤ p ∧ p < (N : Int)) ∧ (0 ≤ q ∧ q < ((LL p.toNat).length : Int))) : CV mX10_termWith 7 [rv 0, iv p, iv q] h (oa fun r h1 => r = (tc p.toNat : Int) ∧ h1 = h) := by
  have hC := hS.1
  have hT := (hS.2.2.2 p.toNat (by omega)).2
  obtain ⟨⟨ka, na⟩, hcnt⟩ := hT.t.o
  refine cv_of cdX10_termWith ?_
  show EV _ _ 0 [rv 0, iv p, iv q, uv] [] h _
  refine ev_aload_n dX10_termWith_0 rfl ?_
  refine ev_iload_n dX10_termWith_1 rfl ?_
  refine ev_cvr dX10_termWith_2 lX10_126 (g_termOf1 hS hp.1) (by decide) hC.k0 hC.n0 rfl rfl rfl (Nat.le_of_ble_eq_true rfl) rfl (fun r h1 q9 => ?_)
  obtain ⟨rfl, e⟩ := q9
  rw [e]
  refine ev_ast3 dX10_termWith_5 ?_
  refine ev_aload_n dX10_termWith_6 rfl ?_
  refine ev_iload_n dX10_termWith_7 rfl ?_
  refine ev_cvi dX10_termWith_8 lX10_360 (s_hasT hT) (by decide) ka na rfl rfl rfl (Nat.le_of_ble_eq_true rfl) rfl (fun r h2 q9 => ?_)
  obtain ⟨rfl, e⟩ := q9
  rw [e, if_pos hp.2]
  refine ev_ifne 25 dX10_termWith_11 (fun hbr => ?_) (fun h_no => (by exfalso; omega))
  refine ev_aload_n dX10_termWith_25 rfl ?_
  exact ev_aret dX10_termWith_26 (⟨_, rfl, rfl, rfl⟩) rfl (Or.inl ⟨_, rfl⟩)
set_option maxRecDepth 100000 in
theorem g_with0 {p q : Int} {N : Nat} {tc : Nat → Nat} {LL : Nat → List Nd} {h : AH} (hS : SNw h N tc LL) (hp : ¬ ((0 ≤ p ∧ p < (N : Int)) ∧ (0 ≤ q ∧ q < ((LL p.toNat).length : Int)))) : CV mX10_termWith 7 [rv 0, iv p, iv q] h (fun o h1 => o = xv 2 ∧ h1 = h.thr) := by
  have hC := hS.1
  refine cv_of cdX10_termWith ?_
  show EV _ _ 0 [rv 0, iv p, iv q, uv] [] h _
  by_cases hpp : 0 ≤ p ∧ p < (N : Int)
  · skip
    have hT := (hS.2.2.2 p.toNat (by omega)).2
    obtain ⟨⟨ka, na⟩, hcnt⟩ := hT.t.o
    refine ev_aload_n dX10_termWith_0 rfl ?_
    refine ev_iload_n dX10_termWith_1 rfl ?_
    refine ev_cvr dX10_termWith_2 lX10_126 (g_termOf1 hS hpp) (by decide) hC.k0 hC.n0 rfl rfl rfl (Nat.le_of_ble_eq_true rfl) rfl (fun r h1 q9 => ?_)
    obtain ⟨rfl, e⟩ := q9
    rw [e]
    refine ev_ast3 dX10_termWith_5 ?_
    refine ev_aload_n dX10_termWith_6 rfl ?_
    refine ev_iload_n dX10_termWith_7 rfl ?_
    refine ev_cvi dX10_termWith_8 lX10_360 (s_hasT hT) (by decide) ka na rfl rfl rfl (Nat.le_of_ble_eq_true rfl) rfl (fun r h2 q9 => ?_)
    obtain ⟨rfl, e⟩ := q9
    rw [e, if_neg (fun z => hp ⟨hpp, z⟩)]
    refine ev_ifne 25 dX10_termWith_11 (fun h_no => (by exfalso; omega)) (fun hbr => ?_)
    exact ev_throww _ tk_2 (List.mem_of_getElem? (i := 28) rfl) dX10_termWith_14 dX10_termWith_17 dX10_termWith_18 dX10_termWith_21 dX10_termWith_24 rfl (Nat.le_of_ble_eq_true rfl) (⟨rfl, rfl⟩)
  · skip
    refine ev_aload_n dX10_termWith_0 rfl ?_
    refine ev_iload_n dX10_termWith_1 rfl ?_
    refine ev_callv dX10_termWith_2 lX10_126 (g_termOf0 hS hpp) (by decide) (by decide) (by have := hC.n0; omega) hC.k0 rfl rfl (Nat.le_of_ble_eq_true rfl) rfl (fun o h1 q => by obtain ⟨rfl, rfl⟩ := q; exact ⟨fun _ => ⟨rfl, rfl⟩, fun e => absurd rfl e⟩) (Or.inr q_1326)
set_option maxRecDepth 100000 in
theorem g_nodeOf {p q w : Int} {N : Nat} {tc : Nat → Nat} {LL : Nat → List Nd} {h : AH} (hS : SNw h N tc LL) : CV mX10_nodeOf 8 [rv 0, iv p, iv q, iv w] h (fun o h1 => (¬ ((0 ≤ p ∧ p < (N : Int)) ∧ (0 ≤ q ∧ q < ((LL p.toNat).length : Int))) ∧ o = xv 2 ∧ h1 = h.thr) ∨ (((0 ≤ p ∧ p < (N : Int)) ∧ (0 ≤ q ∧ q < ((LL p.toNat).length : Int))) ∧ ¬ (0 ≤ w ∧ w ≤ 5) ∧ o = xv 0 ∧ h1 = h.thr) ∨ (((0 ≤ p ∧ p < (N : Int)) ∧ (0 ≤ q ∧ q < ((LL p.toNat).length : Int))) ∧ (0 ≤ w ∧ w ≤ 5) ∧ o = iv (TBL (LL p.toNat) (colW w) q.toNat) ∧ h1 = h)) := by
  have hC := hS.1
  refine cv_of cdX10_nodeOf ?_
  show EV _ _ 0 [rv 0, iv p, iv q, iv w, uv] [] h _
  by_cases hp : (0 ≤ p ∧ p < (N : Int)) ∧ (0 ≤ q ∧ q < ((LL p.toNat).length : Int))
  · skip
    obtain ⟨j, rfl⟩ : ∃ j : Nat, q = (j : Int) := ⟨q.toNat, by omega⟩
    have hj : j < (LL p.toNat).length := by omega
    have hT := (hS.2.2.2 p.toNat (by omega)).2
    obtain ⟨⟨ka, na⟩, hcnt⟩ := hT.t.o
    refine ev_aload_n dX10_nodeOf_0 rfl ?_
    refine ev_iload_n dX10_nodeOf_1 rfl ?_
    refine ev_iload_n dX10_nodeOf_2 rfl ?_
    refine ev_cvr dX10_nodeOf_3 lX10_133 (g_with1 hS hp) (by decide) hC.k0 hC.n0 rfl rfl rfl (Nat.le_of_ble_eq_true rfl) rfl (fun r9 h1 q9 => ?_)
    obtain ⟨rfl, e⟩ := q9
    rw [e]
    refine ev_ast4 dX10_nodeOf_6 ?_
    refine ev_iload_n dX10_nodeOf_8 rfl ?_
    by_cases w0 : w < 0
    · skip
      refine ev_iflt 17 dX10_nodeOf_9 (fun hb => ?_) (fun h_no => (by exfalso; omega))
      exact ev_throw _ tk_0 (List.mem_of_getElem? (i := 5) rfl) dX10_nodeOf_17 dX10_nodeOf_20 dX10_nodeOf_21 dX10_nodeOf_23 dX10_nodeOf_26 rfl (Nat.le_of_ble_eq_true rfl) (Or.inr (Or.inl ⟨hp, by omega, rfl, rfl⟩))
    · skip
      refine ev_iflt 17 dX10_nodeOf_9 (fun h_no => (by exfalso; omega)) (fun hb => ?_)
      refine ev_iload_n dX10_nodeOf_12 rfl ?_
      refine ev_iconst dX10_nodeOf_13 ?_
      by_cases w5 : w ≤ 5
      · skip
        refine ev_icmple 27 dX10_nodeOf_14 (fun hb2 => ?_) (fun h_no => (by exfalso; omega))
        obtain ⟨k, rfl⟩ : ∃ k : Nat, w = (k : Int) := ⟨w.toNat, by omega⟩
        have ek : colC k = colW (k : Int) := by
          have : k = 0 ∨ k = 1 ∨ k = 2 ∨ k = 3 ∨ k = 4 ∨ k = 5 := by omega
          rcases this with rfl | rfl | rfl | rfl | rfl | rfl <;> rfl
        refine ev_aload dX10_nodeOf_27 rfl ?_
        refine ev_iload_n dX10_nodeOf_29 rfl ?_
        refine ev_iload_n dX10_nodeOf_30 rfl ?_
        refine ev_cvi dX10_nodeOf_31 lX10_139 (s_ofL hT (by omega) hj) (by decide) ka na rfl rfl rfl (Nat.le_of_ble_eq_true rfl) rfl (fun r9 h2 q9 => ?_)
        obtain ⟨rfl, e⟩ := q9
        rw [e]
        exact ev_iret dX10_nodeOf_34 (Or.inr (Or.inr ⟨hp, by omega, by rw [ek]; rfl, rfl⟩))
      · skip
        refine ev_icmple 27 dX10_nodeOf_14 (fun h_no => (by exfalso; omega)) (fun hb2 => ?_)
        exact ev_throw _ tk_0 (List.mem_of_getElem? (i := 5) rfl) dX10_nodeOf_17 dX10_nodeOf_20 dX10_nodeOf_21 dX10_nodeOf_23 dX10_nodeOf_26 rfl (Nat.le_of_ble_eq_true rfl) (Or.inr (Or.inl ⟨hp, by omega, rfl, rfl⟩))
  · skip
    refine ev_aload_n dX10_nodeOf_0 rfl ?_
    refine ev_iload_n dX10_nodeOf_1 rfl ?_
    refine ev_iload_n dX10_nodeOf_2 rfl ?_
    refine ev_callv dX10_nodeOf_3 lX10_133 (g_with0 hS hp) (by decide) (by decide) (by have := hC.n0; omega) hC.k0 rfl rfl (Nat.le_of_ble_eq_true rfl) rfl (fun o h1 q => by obtain ⟨rfl, rfl⟩ := q; exact ⟨fun _ => Or.inl ⟨hp, rfl, rfl⟩, fun e => absurd rfl e⟩) (Or.inr q_1350)
set_option maxRecDepth 100000 in
theorem g_signOf {p q : Int} {N : Nat} {tc : Nat → Nat} {LL : Nat → List Nd} {h : AH} (hS : SNw h N tc LL) (hok : ∀ l j, l < N → j < (LL l).length → 0 ≤ TBL (LL l) 58 j ∧ TBL (LL l) 58 j ≤ 126) : CV mX10_signOf 8 [rv 0, iv p, iv q] h (fun o h1 => (¬ ((0 ≤ p ∧ p < (N : Int)) ∧ (0 ≤ q ∧ q < ((LL p.toNat).length : Int))) ∧ o = xv 2 ∧ h1 = h.thr) ∨ (((0 ≤ p ∧ p < (N : Int)) ∧ (0 ≤ q ∧ q < ((LL p.toNat).length : Int))) ∧ TBL (LL p.toNat) 57 q.toNat = 6 ∧ o = xv 3 ∧ h1 = h.thr) ∨ (((0 ≤ p ∧ p < (N : Int)) ∧ (0 ≤ q ∧ q < ((LL p.toNat).length : Int))) ∧ ¬ TBL (LL p.toNat) 57 q.toNat = 6 ∧ o = iv (TBL (LL p.toNat) 58 q.toNat) ∧ h1 = h)) := by
  have hC := hS.1
  refine cv_of cdX10_signOf ?_
  show EV _ _ 0 [rv 0, iv p, iv q, uv] [] h _
  by_cases hp : (0 ≤ p ∧ p < (N : Int)) ∧ (0 ≤ q ∧ q < ((LL p.toNat).length : Int))
  · skip
    obtain ⟨j, rfl⟩ : ∃ j : Nat, q = (j : Int) := ⟨q.toNat, by omega⟩
    have hj : j < (LL p.toNat).length := by omega
    have hT := (hS.2.2.2 p.toNat (by omega)).2
    obtain ⟨⟨ka, na⟩, hcnt⟩ := hT.t.o
    refine ev_aload_n dX10_signOf_0 rfl ?_
    refine ev_iload_n dX10_signOf_1 rfl ?_
    refine ev_iload_n dX10_signOf_2 rfl ?_
    refine ev_cvr dX10_signOf_3 lX10_133 (g_with1 hS hp) (by decide) hC.k0 hC.n0 rfl rfl rfl (Nat.le_of_ble_eq_true rfl) rfl (fun r9 h1 q9 => ?_)
    obtain ⟨rfl, e⟩ := q9
    rw [e]
    refine ev_ast3 dX10_signOf_6 ?_
    refine ev_aload_n dX10_signOf_7 rfl ?_
    refine ev_iconst dX10_signOf_8 ?_
    refine ev_iload_n dX10_signOf_9 rfl ?_
    refine ev_cvi dX10_signOf_10 lX10_139 (s_ofL (k := 0) hT (by decide) hj) (by decide) ka na rfl rfl rfl (Nat.le_of_ble_eq_true rfl) rfl (fun r9 h2 q9 => ?_)
    obtain ⟨rfl, e⟩ := q9
    rw [e, show TBL (LL p.toNat) (colC 0) j = TBL (LL p.toNat) 57 j from rfl]
    refine ev_bipush dX10_signOf_13 ?_
    by_cases k6 : TBL (LL p.toNat) 57 j = 6
    · skip
      refine ev_icmpne 28 dX10_signOf_15 (fun h_no => (by exfalso; omega)) (fun hb => ?_)
      exact ev_throwx _ tk_3 (List.mem_of_getElem? (i := 6) rfl) dX10_signOf_18 dX10_signOf_21 dX10_signOf_22 dX10_signOf_24 dX10_signOf_27 rfl (Nat.le_of_ble_eq_true rfl) (Or.inr (Or.inl ⟨hp, k6, rfl, rfl⟩))
    · skip
      refine ev_icmpne 28 dX10_signOf_15 (fun hb => ?_) (fun h_no => (by exfalso; omega))
      refine ev_aload_n dX10_signOf_28 rfl ?_
      refine ev_bipush dX10_signOf_29 ?_
      refine ev_iload_n dX10_signOf_31 rfl ?_
      refine ev_cvi dX10_signOf_32 lX10_139 (s_ofL (k := 6) hT (by decide) hj) (by decide) ka na rfl rfl rfl (Nat.le_of_ble_eq_true rfl) rfl (fun r9 h3 q9 => ?_)
      obtain ⟨rfl, e⟩ := q9
      rw [e, show TBL (LL p.toNat) (colC 6) j = TBL (LL p.toNat) 58 j from rfl]
      have sr := hok p.toNat j (by omega) hj
      refine ev_i2c dX10_signOf_35 ?_
      rw [show TBL (LL p.toNat) 58 j % 65536 = TBL (LL p.toNat) 58 j from by omega]
      exact ev_cret dX10_signOf_36 (Or.inr (Or.inr ⟨hp, k6, rfl, rfl⟩)) (by omega) (by omega)
  · skip
    refine ev_aload_n dX10_signOf_0 rfl ?_
    refine ev_iload_n dX10_signOf_1 rfl ?_
    refine ev_iload_n dX10_signOf_2 rfl ?_
    refine ev_callv dX10_signOf_3 lX10_133 (g_with0 hS hp) (by decide) (by decide) (by have := hC.n0; omega) hC.k0 rfl rfl (Nat.le_of_ble_eq_true rfl) rfl (fun o h1 q => by obtain ⟨rfl, rfl⟩ := q; exact ⟨fun _ => Or.inl ⟨hp, rfl, rfl⟩, fun e => absurd rfl e⟩) (Or.inr q_1350)
set_option maxRecDepth 100000 in
theorem g_binder {p q : Int} {N : Nat} {tc : Nat → Nat} {LL : Nat → List Nd} {h : AH} (hS : SNw h N tc LL) : CV mX10_binder 8 [rv 0, iv p, iv q] h (fun o h1 => (¬ ((0 ≤ p ∧ p < (N : Int)) ∧ (0 ≤ q ∧ q < ((LL p.toNat).length : Int))) ∧ o = xv 2 ∧ h1 = h.thr) ∨ (((0 ≤ p ∧ p < (N : Int)) ∧ (0 ≤ q ∧ q < ((LL p.toNat).length : Int))) ∧ ¬ (TBL (LL p.toNat) 57 q.toNat = 0 ∧ 0 ≤ bd (TBL (LL p.toNat)) q.toNat) ∧ o = xv 3 ∧ h1 = h.thr) ∨ (((0 ≤ p ∧ p < (N : Int)) ∧ (0 ≤ q ∧ q < ((LL p.toNat).length : Int))) ∧ (TBL (LL p.toNat) 57 q.toNat = 0 ∧ 0 ≤ bd (TBL (LL p.toNat)) q.toNat) ∧ o = iv (bd (TBL (LL p.toNat)) q.toNat) ∧ h1 = h)) := by
  have hC := hS.1
  refine cv_of cdX10_binder ?_
  show EV _ _ 0 [rv 0, iv p, iv q, uv] [] h _
  by_cases hp : (0 ≤ p ∧ p < (N : Int)) ∧ (0 ≤ q ∧ q < ((LL p.toNat).length : Int))
  · skip
    obtain ⟨j, rfl⟩ : ∃ j : Nat, q = (j : Int) := ⟨q.toNat, by omega⟩
    have hj : j < (LL p.toNat).length := by omega
    have hT := (hS.2.2.2 p.toNat (by omega)).2
    obtain ⟨⟨ka, na⟩, hcnt⟩ := hT.t.o
    refine ev_aload_n dX10_binder_0 rfl ?_
    refine ev_iload_n dX10_binder_1 rfl ?_
    refine ev_iload_n dX10_binder_2 rfl ?_
    refine ev_cvr dX10_binder_3 lX10_133 (g_with1 hS hp) (by decide) hC.k0 hC.n0 rfl rfl rfl (Nat.le_of_ble_eq_true rfl) rfl (fun r9 h1 q9 => ?_)
    obtain ⟨rfl, e⟩ := q9
    rw [e]
    refine ev_ast3 dX10_binder_6 ?_
    refine ev_aload_n dX10_binder_7 rfl ?_
    refine ev_iconst dX10_binder_8 ?_
    refine ev_iload_n dX10_binder_9 rfl ?_
    refine ev_cvi dX10_binder_10 lX10_139 (s_ofL (k := 0) hT (by decide) hj) (by decide) ka na rfl rfl rfl (Nat.le_of_ble_eq_true rfl) rfl (fun r9 h2 q9 => ?_)
    obtain ⟨rfl, e⟩ := q9
    rw [e, show TBL (LL p.toNat) (colC 0) j = TBL (LL p.toNat) 57 j from rfl]
    by_cases k0 : TBL (LL p.toNat) 57 j = 0
    · skip
      refine ev_ifne 26 dX10_binder_13 (fun h_no => (by exfalso; omega)) (fun hb => ?_)
      refine ev_aload_n dX10_binder_16 rfl ?_
      refine ev_bipush dX10_binder_17 ?_
      refine ev_iload_n dX10_binder_19 rfl ?_
      refine ev_cvi dX10_binder_20 lX10_139 (s_ofB hT hj) (by decide) ka na rfl rfl rfl (Nat.le_of_ble_eq_true rfl) rfl (fun r9 h3 q9 => ?_)
      obtain ⟨rfl, e⟩ := q9
      rw [e, if_pos k0]
      by_cases hb0 : 0 ≤ bd (TBL (LL p.toNat)) j
      · skip
        refine ev_ifge 36 dX10_binder_23 (fun hb2 => ?_) (fun h_no => (by exfalso; omega))
        refine ev_aload_n dX10_binder_36 rfl ?_
        refine ev_bipush dX10_binder_37 ?_
        refine ev_iload_n dX10_binder_39 rfl ?_
        refine ev_cvi dX10_binder_40 lX10_139 (s_ofB hT hj) (by decide) ka na rfl rfl rfl (Nat.le_of_ble_eq_true rfl) rfl (fun r9 h4 q9 => ?_)
        obtain ⟨rfl, e⟩ := q9
        rw [e, if_pos k0]
        exact ev_iret dX10_binder_43 (Or.inr (Or.inr ⟨hp, ⟨k0, hb0⟩, rfl, rfl⟩))
      · skip
        refine ev_ifge 36 dX10_binder_23 (fun h_no => (by exfalso; omega)) (fun hb2 => ?_)
        exact ev_throwx _ tk_3 (List.mem_of_getElem? (i := 7) rfl) dX10_binder_26 dX10_binder_29 dX10_binder_30 dX10_binder_32 dX10_binder_35 rfl (Nat.le_of_ble_eq_true rfl) (Or.inr (Or.inl ⟨hp, fun z => hb0 z.2, rfl, rfl⟩))
    · skip
      refine ev_ifne 26 dX10_binder_13 (fun hb => ?_) (fun h_no => (by exfalso; omega))
      exact ev_throwx _ tk_3 (List.mem_of_getElem? (i := 7) rfl) dX10_binder_26 dX10_binder_29 dX10_binder_30 dX10_binder_32 dX10_binder_35 rfl (Nat.le_of_ble_eq_true rfl) (Or.inr (Or.inl ⟨hp, fun z => k0 z.1, rfl, rfl⟩))
  · skip
    refine ev_aload_n dX10_binder_0 rfl ?_
    refine ev_iload_n dX10_binder_1 rfl ?_
    refine ev_iload_n dX10_binder_2 rfl ?_
    refine ev_callv dX10_binder_3 lX10_133 (g_with0 hS hp) (by decide) (by decide) (by have := hC.n0; omega) hC.k0 rfl rfl (Nat.le_of_ble_eq_true rfl) rfl (fun o h1 q => by obtain ⟨rfl, rfl⟩ := q; exact ⟨fun _ => Or.inl ⟨hp, rfl, rfl⟩, fun e => absurd rfl e⟩) (Or.inr q_1350)
set_option maxRecDepth 100000 in
theorem g_uses {p q : Int} {N : Nat} {tc : Nat → Nat} {LL : Nat → List Nd} {h : AH} (hS : SNw h N tc LL) : CV mX10_uses 8 [rv 0, iv p, iv q] h (fun o h1 => (¬ ((0 ≤ p ∧ p < (N : Int)) ∧ (0 ≤ q ∧ q < ((LL p.toNat).length : Int))) ∧ o = xv 2 ∧ h1 = h.thr) ∨ (((0 ≤ p ∧ p < (N : Int)) ∧ (0 ≤ q ∧ q < ((LL p.toNat).length : Int))) ∧ ¬ (TBL (LL p.toNat) 57 q.toNat = 4 ∨ TBL (LL p.toNat) 57 q.toNat = 5) ∧ o = xv 0 ∧ h1 = h.thr) ∨ (((0 ≤ p ∧ p < (N : Int)) ∧ (0 ≤ q ∧ q < ((LL p.toNat).length : Int))) ∧ (TBL (LL p.toNat) 57 q.toNat = 4 ∨ TBL (LL p.toNat) 57 q.toNat = 5) ∧ o = iv (bb (TBL (LL p.toNat)) q (LL p.toNat).length) ∧ h1 = h)) := by
  have hC := hS.1
  refine cv_of cdX10_uses ?_
  show EV _ _ 0 [rv 0, iv p, iv q, uv, uv] [] h _
  by_cases hp : (0 ≤ p ∧ p < (N : Int)) ∧ (0 ≤ q ∧ q < ((LL p.toNat).length : Int))
  · skip
    obtain ⟨j, rfl⟩ : ∃ j : Nat, q = (j : Int) := ⟨q.toNat, by omega⟩
    have hj : j < (LL p.toNat).length := by omega
    have hT := (hS.2.2.2 p.toNat (by omega)).2
    obtain ⟨⟨ka, na⟩, hcnt⟩ := hT.t.o
    refine ev_aload_n dX10_uses_0 rfl ?_
    refine ev_iload_n dX10_uses_1 rfl ?_
    refine ev_iload_n dX10_uses_2 rfl ?_
    refine ev_cvr dX10_uses_3 lX10_133 (g_with1 hS hp) (by decide) hC.k0 hC.n0 rfl rfl rfl (Nat.le_of_ble_eq_true rfl) rfl (fun r9 h1 q9 => ?_)
    obtain ⟨rfl, e⟩ := q9
    rw [e]
    refine ev_ast3 dX10_uses_6 ?_
    refine ev_aload_n dX10_uses_7 rfl ?_
    refine ev_iconst dX10_uses_8 ?_
    refine ev_iload_n dX10_uses_9 rfl ?_
    refine ev_cvi dX10_uses_10 lX10_139 (s_ofL (k := 0) hT (by decide) hj) (by decide) ka na rfl rfl rfl (Nat.le_of_ble_eq_true rfl) rfl (fun r9 h2 q9 => ?_)
    obtain ⟨rfl, e⟩ := q9
    rw [e, show TBL (LL p.toNat) (colC 0) j = TBL (LL p.toNat) 57 j from rfl]
    refine ev_ist4 dX10_uses_13 ?_
    refine ev_iload dX10_uses_15 rfl ?_
    refine ev_iconst dX10_uses_17 ?_
    by_cases k4 : TBL (LL p.toNat) 57 j = 4
    · skip
      refine ev_icmpeq 37 dX10_uses_18 (fun hb => ?_) (fun h_no => (by exfalso; omega))
      refine ev_aload_n dX10_uses_37 rfl ?_
      refine ev_iload_n dX10_uses_38 rfl ?_
      refine ev_cvi dX10_uses_39 lX10_151 (s_names hT) (by decide) ka na rfl rfl rfl (Nat.le_of_ble_eq_true rfl) rfl (fun r9 h3 q9 => ?_)
      obtain ⟨rfl, e⟩ := q9
      rw [e]
      exact ev_iret dX10_uses_42 (Or.inr (Or.inr ⟨hp, Or.inl k4, rfl, rfl⟩))
    · skip
      refine ev_icmpeq 37 dX10_uses_18 (fun h_no => (by exfalso; omega)) (fun hb => ?_)
      refine ev_iload dX10_uses_21 rfl ?_
      refine ev_iconst dX10_uses_23 ?_
      by_cases k5 : TBL (LL p.toNat) 57 j = 5
      · skip
        refine ev_icmpeq 37 dX10_uses_24 (fun hb2 => ?_) (fun h_no => (by exfalso; omega))
        refine ev_aload_n dX10_uses_37 rfl ?_
        refine ev_iload_n dX10_uses_38 rfl ?_
        refine ev_cvi dX10_uses_39 lX10_151 (s_names hT) (by decide) ka na rfl rfl rfl (Nat.le_of_ble_eq_true rfl) rfl (fun r9 h3 q9 => ?_)
        obtain ⟨rfl, e⟩ := q9
        rw [e]
        exact ev_iret dX10_uses_42 (Or.inr (Or.inr ⟨hp, Or.inr k5, rfl, rfl⟩))
      · skip
        refine ev_icmpeq 37 dX10_uses_24 (fun h_no => (by exfalso; omega)) (fun hb2 => ?_)
        exact ev_throw _ tk_0 (List.mem_of_getElem? (i := 8) rfl) dX10_uses_27 dX10_uses_30 dX10_uses_31 dX10_uses_33 dX10_uses_36 rfl (Nat.le_of_ble_eq_true rfl) (Or.inr (Or.inl ⟨hp, fun z => z.elim k4 k5, rfl, rfl⟩))
  · skip
    refine ev_aload_n dX10_uses_0 rfl ?_
    refine ev_iload_n dX10_uses_1 rfl ?_
    refine ev_iload_n dX10_uses_2 rfl ?_
    refine ev_callv dX10_uses_3 lX10_133 (g_with0 hS hp) (by decide) (by decide) (by have := hC.n0; omega) hC.k0 rfl rfl (Nat.le_of_ble_eq_true rfl) rfl (fun o h1 q => by obtain ⟨rfl, rfl⟩ := q; exact ⟨fun _ => Or.inl ⟨hp, rfl, rfl⟩, fun e => absurd rfl e⟩) (Or.inr q_1350)
