/-! a term of the class: its rows -/
/-- the term at a: its rows at rr, row k at ro k, each of size N; cnt nodes -/
def TmI (h : AH) (a rr : Nat) (ro : Nat → Nat) (N cnt : Nat) : Prop := (h.kd a = (7, 2) ∧ a < h.n) ∧ (h.vl a 0 = (rr : Int) ∧ h.kd rr = (104, 8) ∧ rr < h.n) ∧ (∀ k, k < 8 → h.vl rr k = (ro k : Int) ∧ h.kd (ro k) = (100, N) ∧ ro k < h.n) ∧ h.vl a 1 = (cnt : Int) ∧ cnt ≤ 1000 ∧ N ≤ 100000
set_option maxRecDepth 100000 in
theorem s_hasNode {a rr N cnt : Nat} {ro : Nat → Nat} {j : Int} {h : AH} (hT : TmI h a rr ro N cnt) : CV mX7_hasNode 1 [rv a, iv j] h (oi fun r h1 => r = (if 0 ≤ j ∧ j < (cnt : Int) then 1 else 0) ∧ h1 = h) := by
  obtain ⟨⟨ka, na⟩, ⟨v0, kr, nr⟩, hro, hc, hc9, hN⟩ := id hT
  refine cv_of cdX7_hasNode ?_
  show EV _ _ 0 [rv a, iv j] [] h _
  refine ev_iload_n dX7_hasNode_0 rfl ?_
  refine ev_iflt 16 dX7_hasNode_1 (fun hb0 => ?_) (fun hb0 => ?_)
  · refine ev_iconst dX7_hasNode_16 ?_
    refine ev_zret dX7_hasNode_17 (by (refine ⟨_, rfl, ?_, rfl⟩; (first | rw [if_pos (by omega)] | rw [if_neg (by omega)]))) (by omega)
  · refine ev_iload_n dX7_hasNode_4 rfl ?_
    refine ev_aload_n dX7_hasNode_5 rfl ?_
    refine ev_getiv dX7_hasNode_6 fX7_16 ka na rfl hc ?_
    refine ev_icmpge 16 dX7_hasNode_9 (fun hb1 => ?_) (fun hb1 => ?_)
    · refine ev_iconst dX7_hasNode_16 ?_
      refine ev_zret dX7_hasNode_17 (by (refine ⟨_, rfl, ?_, rfl⟩; (first | rw [if_pos (by omega)] | rw [if_neg (by omega)]))) (by omega)
    · refine ev_iconst dX7_hasNode_12 ?_
      refine ev_gt 17 dX7_hasNode_13 ?_
      refine ev_zret dX7_hasNode_17 (by (refine ⟨_, rfl, ?_, rfl⟩; (first | rw [if_pos (by omega)] | rw [if_neg (by omega)]))) (by omega)
set_option maxRecDepth 100000 in
theorem s_of {a rr N cnt k : Nat} {ro : Nat → Nat} {j : Int} {h : AH} (hT : TmI h a rr ro N cnt) (hk : k < 8) : CV mX7_of 2 [rv a, iv (k : Int), iv j] h (oi fun r h1 => r = (if 0 ≤ j ∧ j < (cnt : Int) ∧ j < (N : Int) then h.vl (ro k) j.toNat else -1) ∧ h1 = h) := by
  obtain ⟨⟨ka, na⟩, ⟨v0, kr, nr⟩, hro, hc, hc9, hN⟩ := id hT
  obtain ⟨r1, r2, r3⟩ := hro k hk
  refine cv_of cdX7_of ?_
  show EV _ _ 0 [rv a, iv (k : Int), iv j] [] h _
  refine ev_iload_n dX7_of_0 rfl ?_
  refine ev_iflt 34 dX7_of_1 (fun h_no => (by exfalso; omega)) (fun hb => ?_)
  refine ev_iload_n dX7_of_4 rfl ?_
  refine ev_aload_n dX7_of_5 rfl ?_
  refine ev_getrv dX7_of_6 fX7_11 ka na rfl v0 ?_
  refine ev_al dX7_of_9 kr nr rfl (by decide) (by omega) ?_
  refine ev_icmpge 34 dX7_of_10 (fun h_no => (by exfalso; omega)) (fun hb2 => ?_)
  refine ev_aload_n dX7_of_13 rfl ?_
  refine ev_iload_n dX7_of_14 rfl ?_
  refine ev_cvi dX7_of_15 lX7_20 (s_hasNode hT) (by decide) ka na rfl rfl rfl (Nat.le_of_ble_eq_true rfl) rfl (fun r z1 q => ?_)
  obtain ⟨rfl, e⟩ := q
  rw [e]
  by_cases hj : 0 ≤ j ∧ j < (cnt : Int)
  · skip
    rw [if_pos hj]
    refine ev_ifeq 34 dX7_of_18 (fun h_no => (by exfalso; omega)) (fun hbr => ?_)
    refine ev_aload_n dX7_of_21 rfl ?_
    refine ev_getrv dX7_of_22 fX7_11 ka na rfl v0 ?_
    refine ev_iload_n dX7_of_25 rfl ?_
    refine ev_aal2 dX7_of_26 kr nr rfl (by omega) (by omega) ?_
    refine ev_iload_n dX7_of_27 rfl ?_
    rw [show ((k : Nat) : Int).toNat = k from rfl, r1]
    refine ev_csi dX7_of_28 lX7_24 (s_atI r2 r3 hN) (by decide) rfl rfl (Nat.le_of_ble_eq_true rfl) rfl (fun r z2 q => ?_)
    obtain ⟨rfl, e⟩ := q
    rw [e]
    refine ev_gt 35 dX7_of_31 ?_
    refine ev_iret dX7_of_35 (⟨_, rfl, ?_, rfl⟩)
    by_cases g : j < (N : Int)
    · rw [if_pos ⟨hj.1, g⟩, if_pos ⟨hj.1, hj.2, g⟩]
    · rw [if_neg (fun z => g z.2), if_neg (fun z => g z.2.2)]
  · skip
    rw [if_neg hj, if_neg (fun z => hj ⟨z.1, z.2.1⟩)]
    refine ev_ifeq 34 dX7_of_18 (fun hbr => ?_) (fun h_no => (by exfalso; omega))
    refine ev_iconst dX7_of_34 ?_
    exact ev_iret dX7_of_35 (⟨_, rfl, rfl, rfl⟩)
set_option maxRecDepth 100000 in
theorem s_set {a rr N cnt k : Nat} {ro : Nat → Nat} {j x : Int} {h : AH} (hT : TmI h a rr ro N cnt) (hk : k < 8) : CV mX7_set 2 [rv a, iv (k : Int), iv j, iv x] h (on fun h1 => h1 = (if 0 ≤ j ∧ j < (N : Int) then h.put (ro k) j.toNat x else h)) := by
  obtain ⟨⟨ka, na⟩, ⟨v0, kr, nr⟩, hro, hc, hc9, hN⟩ := id hT
  obtain ⟨r1, r2, r3⟩ := hro k hk
  refine cv_of cdX7_set ?_
  show EV _ _ 0 [rv a, iv (k : Int), iv j, iv x] [] h _
  refine ev_iload_n dX7_set_0 rfl ?_
  refine ev_iflt 24 dX7_set_1 (fun h_no => (by exfalso; omega)) (fun hb => ?_)
  refine ev_iload_n dX7_set_4 rfl ?_
  refine ev_aload_n dX7_set_5 rfl ?_
  refine ev_getrv dX7_set_6 fX7_11 ka na rfl v0 ?_
  refine ev_al dX7_set_9 kr nr rfl (by decide) (by omega) ?_
  refine ev_icmpge 24 dX7_set_10 (fun h_no => (by exfalso; omega)) (fun hb2 => ?_)
  refine ev_aload_n dX7_set_13 rfl ?_
  refine ev_getrv dX7_set_14 fX7_11 ka na rfl v0 ?_
  refine ev_iload_n dX7_set_17 rfl ?_
  refine ev_aal2 dX7_set_18 kr nr rfl (by omega) (by omega) ?_
  refine ev_iload_n dX7_set_19 rfl ?_
  refine ev_iload_n dX7_set_20 rfl ?_
  rw [show ((k : Nat) : Int).toNat = k from rfl, r1]
  refine ev_csv dX7_set_21 lX7_28 (s_putI r2 r3 hN) (by decide) rfl rfl (Nat.le_of_ble_eq_true rfl) rfl (fun h1 q => ?_)
  exact ev_vret dX7_set_24 (⟨rfl, q⟩)
set_option maxRecDepth 100000 in
theorem s_parentOf {a rr N cnt : Nat} {ro : Nat → Nat} {j : Int} {h : AH} (hT : TmI h a rr ro N cnt) : CV mX7_parentOf 3 [rv a, iv j] h (oi fun r h1 => r = (if (if 0 ≤ j ∧ j < (cnt : Int) ∧ j < (N : Int) then h.vl (ro 1) j.toNat else -1) < j then (if 0 ≤ j ∧ j < (cnt : Int) ∧ j < (N : Int) then h.vl (ro 1) j.toNat else -1) else -1) ∧ h1 = h) := by
  obtain ⟨⟨ka, na⟩, ⟨v0, kr, nr⟩, hro, hc, hc9, hN⟩ := id hT
  refine cv_of cdX7_parentOf ?_
  show EV _ _ 0 [rv a, iv j, uv] [] h _
  refine ev_aload_n dX7_parentOf_0 rfl ?_
  refine ev_iconst dX7_parentOf_1 ?_
  refine ev_iload_n dX7_parentOf_2 rfl ?_
  refine ev_cvi dX7_parentOf_3 lX7_32 (s_of (k := 1) hT (by decide)) (by decide) ka na rfl rfl rfl (Nat.le_of_ble_eq_true rfl) rfl (fun r z1 q => ?_)
  obtain ⟨hr, e⟩ := q
  rw [e, ← hr]
  refine ev_ist2 dX7_parentOf_6 ?_
  refine ev_iload_n dX7_parentOf_7 rfl ?_
  refine ev_iload_n dX7_parentOf_8 rfl ?_
  by_cases g : r < j
  · skip
    rw [if_pos g]
    refine ev_icmpge 16 dX7_parentOf_9 (fun h_no => (by exfalso; omega)) (fun hb => ?_)
    refine ev_iload_n dX7_parentOf_12 rfl ?_
    refine ev_gt 17 dX7_parentOf_13 ?_
    exact ev_iret dX7_parentOf_17 (⟨_, rfl, rfl, rfl⟩)
  · skip
    rw [if_neg g]
    refine ev_icmpge 16 dX7_parentOf_9 (fun hb => ?_) (fun h_no => (by exfalso; omega))
    refine ev_iconst dX7_parentOf_16 ?_
    exact ev_iret dX7_parentOf_17 (⟨_, rfl, rfl, rfl⟩)
