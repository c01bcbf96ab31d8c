/-! a term that holds the table of a text -/
def colC (k : Nat) : Nat := if k = 0 then 57 else if k = 1 then 61 else if k = 2 then 59 else if k = 3 then 60 else if k = 4 then 62 else if k = 5 then 63 else 58
def TmL (h : AH) (a : Nat) (L : List Nd) : Prop := ∃ (rr : Nat) (ro : Nat → Nat) (N : Nat), TmI h a rr ro N L.length ∧ L.length ≤ N ∧ (∀ k j, k < 7 → j < L.length → h.vl (ro k) j = TBL L (colC k) j) ∧ ∀ j, j < L.length → h.vl (ro 7) j = (if TBL L 57 j = 0 then bd (TBL L) j else -1)
set_option maxRecDepth 100000 in
theorem s_ofL {a k j : Nat} {L : List Nd} {h : AH} (hT : TmL h a L) (hk : k < 7) (hj : j < L.length) : CV mX7_of 2 [rv a, iv (k : Int), iv (j : Int)] h (oi fun r h1 => r = TBL L (colC k) j ∧ h1 = h) := by
  obtain ⟨rr, ro, N, hI, hN, hc, hb⟩ := hT
  refine cv_mono (s_of hI (by omega)) fun o h1 q => ?_
  obtain ⟨x, rfl, rfl, rfl⟩ := q
  exact ⟨_, rfl, by rw [if_pos (by omega)]; exact hc k j hk hj, rfl⟩
set_option maxRecDepth 100000 in
theorem s_ofB {a j : Nat} {L : List Nd} {h : AH} (hT : TmL h a L) (hj : j < L.length) : CV mX7_of 2 [rv a, iv 7, iv (j : Int)] h (oi fun r h1 => r = (if TBL L 57 j = 0 then bd (TBL L) j else -1) ∧ h1 = h) := by
  obtain ⟨rr, ro, N, hI, hN, hc, hb⟩ := hT
  refine cv_mono (s_of (k := 7) hI (by omega)) fun o h1 q => ?_
  obtain ⟨x, rfl, rfl, rfl⟩ := q
  exact ⟨_, rfl, by rw [if_pos (by omega)]; exact hb j hj, rfl⟩

set_option maxRecDepth 100000 in
theorem s_names {a : Nat} {nd : Int} {L : List Nd} {h : AH} (hT : TmL h a L) : CV mX7_namesBoundBy 3 [rv a, iv nd] h (oi fun r h1 => r = bb (TBL L) nd L.length ∧ h1 = h) := by
  obtain ⟨rr, ro, N, hI, -⟩ := id hT
  obtain ⟨⟨ka, na⟩, -, -, hc, hc9, -⟩ := id hI
  have Lp : ∀ (m k : Nat), k + m = L.length → EV mX7_namesBoundBy 3 4 [rv a, iv nd, iv (bb (TBL L) nd k), iv (k : Int)] [] h (oi fun r h1 => r = bb (TBL L) nd L.length ∧ h1 = h) := by
    intro m
    induction m with
    | zero =>
      intro k hk
      refine ev_iload_n dX7_namesBoundBy_4 rfl ?_
      refine ev_aload_n dX7_namesBoundBy_5 rfl ?_
      refine ev_getiv dX7_namesBoundBy_6 fX7_16 ka na rfl hc ?_
      refine ev_icmpge 41 dX7_namesBoundBy_9 (fun hb => ?_) (fun h_no => (by exfalso; omega))
      refine ev_iload_n dX7_namesBoundBy_41 rfl ?_
      exact ev_iret dX7_namesBoundBy_42 (⟨_, rfl, by rw [show k = L.length from by omega], rfl⟩)
    | succ m ih =>
      intro k hk
      have hkl : k < L.length := by omega
      have hbl := bb_le (s := TBL L) (node := nd) k
      refine ev_iload_n dX7_namesBoundBy_4 rfl ?_
      refine ev_aload_n dX7_namesBoundBy_5 rfl ?_
      refine ev_getiv dX7_namesBoundBy_6 fX7_16 ka na rfl hc ?_
      refine ev_icmpge 41 dX7_namesBoundBy_9 (fun h_no => (by exfalso; omega)) (fun hb => ?_)
      refine ev_aload_n dX7_namesBoundBy_12 rfl ?_
      refine ev_iconst dX7_namesBoundBy_13 ?_
      refine ev_iload_n dX7_namesBoundBy_14 rfl ?_
      refine ev_cvi dX7_namesBoundBy_15 lX7_32 (s_ofL (k := 0) hT (by decide) hkl) (by decide) ka na rfl rfl rfl (Nat.le_of_ble_eq_true rfl) rfl (fun r z1 q => ?_)
      obtain ⟨rfl, e⟩ := q
      rw [e, show TBL L (colC 0) k = TBL L 57 k from rfl]
      by_cases k0 : TBL L 57 k = 0
      · skip
        refine ev_ifne 35 dX7_namesBoundBy_18 (fun h_no => (by exfalso; omega)) (fun hb1 => ?_)
        refine ev_aload_n dX7_namesBoundBy_21 rfl ?_
        refine ev_bipush dX7_namesBoundBy_22 ?_
        refine ev_iload_n dX7_namesBoundBy_24 rfl ?_
        refine ev_cvi dX7_namesBoundBy_25 lX7_32 (s_ofB hT hkl) (by decide) ka na rfl rfl rfl (Nat.le_of_ble_eq_true rfl) rfl (fun r z2 q => ?_)
        obtain ⟨rfl, e⟩ := q
        rw [e, if_pos k0]
        refine ev_iload_n dX7_namesBoundBy_28 rfl ?_
        by_cases k1 : bd (TBL L) k = nd
        · skip
          refine ev_icmpne 35 dX7_namesBoundBy_29 (fun h_no => (by exfalso; omega)) (fun hb2 => ?_)
          refine ev_iin2 dX7_namesBoundBy_32 (by unfold ir; omega) ?_
          refine ev_iin3 dX7_namesBoundBy_35 (by unfold ir; omega) ?_
          refine ev_gt 4 dX7_namesBoundBy_38 ?_
          rw [show (k : Int) + 1 = ((k + 1 : Nat) : Int) from rfl, show bb (TBL L) nd k + 1 = bb (TBL L) nd (k + 1) from by rw [bb, if_pos ⟨k0, k1⟩]]
          exact ih (k + 1) (by omega)
        · skip
          refine ev_icmpne 35 dX7_namesBoundBy_29 (fun hb2 => ?_) (fun h_no => (by exfalso; omega))
          refine ev_iin3 dX7_namesBoundBy_35 (by unfold ir; omega) ?_
          refine ev_gt 4 dX7_namesBoundBy_38 ?_
          rw [show (k : Int) + 1 = ((k + 1 : Nat) : Int) from rfl]
          have z := ih (k + 1) (by omega)
          rw [show bb (TBL L) nd (k + 1) = bb (TBL L) nd k from by rw [bb, if_neg (fun z => k1 z.2)]; omega] at z
          exact z
      · skip
        refine ev_ifne 35 dX7_namesBoundBy_18 (fun hb1 => ?_) (fun h_no => (by exfalso; omega))
        refine ev_iin3 dX7_namesBoundBy_35 (by unfold ir; omega) ?_
        refine ev_gt 4 dX7_namesBoundBy_38 ?_
        rw [show (k : Int) + 1 = ((k + 1 : Nat) : Int) from rfl]
        have z := ih (k + 1) (by omega)
        rw [show bb (TBL L) nd (k + 1) = bb (TBL L) nd k from by rw [bb, if_neg (fun z => k0 z.1)]; omega] at z
        exact z
  refine cv_of cdX7_namesBoundBy ?_
  show EV _ _ 0 [rv a, iv nd, uv, uv] [] h _
  refine ev_iconst dX7_namesBoundBy_0 ?_
  refine ev_ist2 dX7_namesBoundBy_1 ?_
  refine ev_iconst dX7_namesBoundBy_2 ?_
  refine ev_ist3 dX7_namesBoundBy_3 ?_
  exact Lp L.length 0 (by omega)
