/-! the class finds what binds a name as the reference does -/
def TmT (h : AH) (a : Nat) (L : List Nd) : Prop := ∃ (rr : Nat) (ro : Nat → Nat) (N : Nat), TmI h a rr ro N L.length ∧ L.length ≤ N ∧ ∀ k j, k < 7 → j < L.length → h.vl (ro k) j = TBL L (colC k) j
theorem TmL.t {h : AH} {a : Nat} {L : List Nd} (hT : TmL h a L) : TmT h a L := by
  obtain ⟨rr, ro, N, h1, h2, h3, -⟩ := hT
  exact ⟨rr, ro, N, h1, h2, h3⟩
theorem TmT.o {h : AH} {a : Nat} {L : List Nd} (hT : TmT h a L) : (h.kd a = (7, 2) ∧ a < h.n) ∧ h.vl a 1 = (L.length : Int) := by
  obtain ⟨rr, ro, N, h1, -⟩ := hT
  exact ⟨h1.1, h1.2.2.2.1⟩
set_option maxRecDepth 100000 in
theorem s_ofT {a k j : Nat} {L : List Nd} {h : AH} (hT : TmT h a L) (hk : k < 7) (hj : j < L.length) : CV mX7_of 2 [rv a, iv (k : Int), iv (j : Int)] h (oi fun r h1 => r = TBL L (colC k) j ∧ h1 = h) := by
  obtain ⟨rr, ro, N, hI, hN, hc⟩ := hT
  refine cv_mono (s_of hI (by omega)) fun o h1 q => ?_
  obtain ⟨x, rfl, rfl, rfl⟩ := q
  exact ⟨_, rfl, by rw [if_pos (by omega)]; exact hc k j hk hj, rfl⟩
set_option maxRecDepth 100000 in
theorem s_parT {a j : Nat} {L : List Nd} {h : AH} (hT : TmT h a L) (hj : j < L.length) : CV mX7_parentOf 3 [rv a, iv (j : Int)] h (oi fun r h1 => r = TBL L 61 j ∧ h1 = h) := by
  obtain ⟨rr, ro, N, hI, hN, hc⟩ := hT
  have hg := (TBL_gd j hj).1
  refine cv_mono (s_parentOf hI) fun o h1 q => ?_
  obtain ⟨x, rfl, rfl, rfl⟩ := q
  have e : (if 0 ≤ (j : Int) ∧ (j : Int) < (L.length : Int) ∧ (j : Int) < (N : Int) then h1.vl (ro 1) (j : Int).toNat else -1) = TBL L 61 j := by
    rw [if_pos (by omega)]
    exact hc 1 j (by decide) hj
  exact ⟨_, rfl, by rw [e, if_pos hg.2], rfl⟩
set_option maxRecDepth 100000 in
theorem binderC_loop {a nd : Nat} {L : List Nd} {h : AH} (hT : TmT h a L) (hl : L.length ≤ 130) (hnd : nd < L.length) : ∀ (f : Nat) (below k : Int) (v4 v5 : AV), -1 ≤ k → k < (L.length : Int) → k < (f : Int) → EV mX7_binderOf 4 8 [rv a, iv (nd : Int), iv below, iv k, v4, v5] [] h (oi fun r h1 => r = bdW (TBL L) (TBL L 58 nd) (f + 1) below k ∧ h1 = h) := by
  obtain ⟨⟨ka, na⟩, hcnt⟩ := hT.o
  have hg : ∀ j : Nat, j < L.length → (-1 ≤ TBL L 61 j ∧ TBL L 61 j < (j : Int)) := fun j hj => (TBL_gd j hj).1
  have neg : ∀ (f : Nat) (below k : Int) (v4 v5 : AV), k < 0 → EV mX7_binderOf 4 8 [rv a, iv (nd : Int), iv below, iv k, v4, v5] [] h (oi fun r h1 => r = bdW (TBL L) (TBL L 58 nd) (f + 1) below k ∧ h1 = h) := by
    intro f below k v4 v5 hk
    refine ev_iload_n dX7_binderOf_8 rfl ?_
    refine ev_iflt 84 dX7_binderOf_9 (fun hc => ?_) (fun h_no => (by exfalso; omega))
    refine ev_iconst dX7_binderOf_84 ?_
    exact ev_iret dX7_binderOf_85 (⟨_, rfl, by rw [bdW, if_pos hk], rfl⟩)
  intro f
  induction f with
  | zero => intro below k v4 v5 h1 h2 h3; exact neg 0 below k v4 v5 (by omega)
  | succ f ih =>
    intro below k v4 v5 h1 h2 h3
    by_cases hk : k < 0
    · exact neg _ below k v4 v5 hk
    · obtain ⟨kk, rfl⟩ : ∃ kk : Nat, k = (kk : Int) := ⟨k.toNat, by omega⟩
      have hkl : kk < L.length := by omega
      rw [bdW, if_neg hk, show ((kk : Nat) : Int).toNat = kk from rfl]
      have p73 : ∀ (u v : AV), EV mX7_binderOf 4 73 [rv a, iv (nd : Int), iv below, iv (kk : Int), u, v] [] h (oi fun r h1 => r = bdW (TBL L) (TBL L 58 nd) (f + 1) kk (TBL L 61 kk) ∧ h1 = h) := by
        intro u v
        refine ev_iload_n dX7_binderOf_73 rfl ?_
        refine ev_ist2 dX7_binderOf_74 ?_
        refine ev_aload_n dX7_binderOf_75 rfl ?_
        refine ev_iload_n dX7_binderOf_76 rfl ?_
        refine ev_cvi dX7_binderOf_77 lX7_36 (s_parT hT hkl) (by decide) ka na rfl rfl rfl (Nat.le_of_ble_eq_true rfl) rfl (fun r z1 q => ?_)
        obtain ⟨rfl, e⟩ := q
        rw [e]
        refine ev_ist3 dX7_binderOf_80 ?_
        refine ev_gt 8 dX7_binderOf_81 ?_
        have := hg kk hkl
        exact ih kk (TBL L 61 kk) u v this.1 (by omega) (by omega)
      have p47 : ∀ (u b : Int), (b = 1 ∧ (TBL L 57 kk = 4 ∨ (TBL L 57 kk = 5 ∧ TBL L 60 kk = below))) ∨ (b = 0 ∧ ¬ (TBL L 57 kk = 4 ∨ (TBL L 57 kk = 5 ∧ TBL L 60 kk = below))) → EV mX7_binderOf 4 47 [rv a, iv (nd : Int), iv below, iv (kk : Int), iv u, v5] [iv b] h (oi fun r h1 => r = (if (TBL L 57 kk = 4 ∨ (TBL L 57 kk = 5 ∧ TBL L 60 kk = below)) ∧ TBL L 58 kk = TBL L 58 nd then (kk : Int) else bdW (TBL L) (TBL L 58 nd) (f + 1) kk (TBL L 61 kk)) ∧ h1 = h) := by
        intro u b hb
        refine ev_ist5 dX7_binderOf_47 ?_
        refine ev_iload dX7_binderOf_49 rfl ?_
        rcases hb with ⟨b1, b2⟩ | ⟨b1, b2⟩
        · skip
          refine ev_ifeq 73 dX7_binderOf_51 (fun h_no => (by exfalso; omega)) (fun hc => ?_)
          refine ev_aload_n dX7_binderOf_54 rfl ?_
          refine ev_bipush dX7_binderOf_55 ?_
          refine ev_iload_n dX7_binderOf_57 rfl ?_
          refine ev_cvi dX7_binderOf_58 lX7_32 (s_ofT (k := 6) hT (by decide) hkl) (by decide) ka na rfl rfl rfl (Nat.le_of_ble_eq_true rfl) rfl (fun r z1 q => ?_)
          obtain ⟨rfl, e⟩ := q
          rw [e, show TBL L (colC 6) kk = TBL L 58 kk from rfl]
          refine ev_aload_n dX7_binderOf_61 rfl ?_
          refine ev_bipush dX7_binderOf_62 ?_
          refine ev_iload_n dX7_binderOf_64 rfl ?_
          refine ev_cvi dX7_binderOf_65 lX7_32 (s_ofT (k := 6) hT (by decide) hnd) (by decide) ka na rfl rfl rfl (Nat.le_of_ble_eq_true rfl) rfl (fun r z2 q => ?_)
          obtain ⟨rfl, e⟩ := q
          rw [e, show TBL L (colC 6) nd = TBL L 58 nd from rfl]
          by_cases hs : TBL L 58 kk = TBL L 58 nd
          · skip
            rw [if_pos ⟨b2, hs⟩]
            refine ev_icmpne 73 dX7_binderOf_68 (fun h_no => (by exfalso; omega)) (fun hc2 => ?_)
            refine ev_iload_n dX7_binderOf_71 rfl ?_
            exact ev_iret dX7_binderOf_72 (⟨_, rfl, rfl, rfl⟩)
          · skip
            rw [if_neg (fun z => hs z.2)]
            refine ev_icmpne 73 dX7_binderOf_68 (fun hc2 => ?_) (fun h_no => (by exfalso; omega))
            exact p73 _ _
        · skip
          rw [if_neg (fun z => b2 z.1)]
          refine ev_ifeq 73 dX7_binderOf_51 (fun hc => ?_) (fun h_no => (by exfalso; omega))
          exact p73 _ _
      refine ev_iload_n dX7_binderOf_8 rfl ?_
      refine ev_iflt 84 dX7_binderOf_9 (fun h_no => (by exfalso; omega)) (fun hc => ?_)
      refine ev_aload_n dX7_binderOf_12 rfl ?_
      refine ev_iconst dX7_binderOf_13 ?_
      refine ev_iload_n dX7_binderOf_14 rfl ?_
      refine ev_cvi dX7_binderOf_15 lX7_32 (s_ofT (k := 0) hT (by decide) hkl) (by decide) ka na rfl rfl rfl (Nat.le_of_ble_eq_true rfl) rfl (fun r z1 q => ?_)
      obtain ⟨rfl, e⟩ := q
      rw [e, show TBL L (colC 0) kk = TBL L 57 kk from rfl]
      refine ev_ist4 dX7_binderOf_18 ?_
      refine ev_iload dX7_binderOf_20 rfl ?_
      refine ev_iconst dX7_binderOf_22 ?_
      by_cases k4 : TBL L 57 kk = 4
      · skip
        refine ev_icmpeq 42 dX7_binderOf_23 (fun hc1 => ?_) (fun h_no => (by exfalso; omega))
        refine ev_iconst dX7_binderOf_42 ?_
        refine ev_gt 47 dX7_binderOf_43 ?_
        exact p47 _ 1 (Or.inl ⟨rfl, Or.inl k4⟩)
      · skip
        refine ev_icmpeq 42 dX7_binderOf_23 (fun h_no => (by exfalso; omega)) (fun hc1 => ?_)
        refine ev_iload dX7_binderOf_26 rfl ?_
        refine ev_iconst dX7_binderOf_28 ?_
        by_cases k5 : TBL L 57 kk = 5
        · skip
          refine ev_icmpne 46 dX7_binderOf_29 (fun h_no => (by exfalso; omega)) (fun hc2 => ?_)
          refine ev_aload_n dX7_binderOf_32 rfl ?_
          refine ev_iconst dX7_binderOf_33 ?_
          refine ev_iload_n dX7_binderOf_34 rfl ?_
          refine ev_cvi dX7_binderOf_35 lX7_32 (s_ofT (k := 3) hT (by decide) hkl) (by decide) ka na rfl rfl rfl (Nat.le_of_ble_eq_true rfl) rfl (fun r z3 q => ?_)
          obtain ⟨rfl, e⟩ := q
          rw [e, show TBL L (colC 3) kk = TBL L 60 kk from rfl]
          refine ev_iload_n dX7_binderOf_38 rfl ?_
          by_cases k6 : TBL L 60 kk = below
          · skip
            refine ev_icmpne 46 dX7_binderOf_39 (fun h_no => (by exfalso; omega)) (fun hc3 => ?_)
            refine ev_iconst dX7_binderOf_42 ?_
            refine ev_gt 47 dX7_binderOf_43 ?_
            exact p47 _ 1 (Or.inl ⟨rfl, Or.inr ⟨k5, k6⟩⟩)
          · skip
            refine ev_icmpne 46 dX7_binderOf_39 (fun hc3 => ?_) (fun h_no => (by exfalso; omega))
            refine ev_iconst dX7_binderOf_46 ?_
            exact p47 _ 0 (Or.inr ⟨rfl, fun z => z.elim k4 (fun z => k6 z.2)⟩)
        · skip
          refine ev_icmpne 46 dX7_binderOf_29 (fun hc2 => ?_) (fun h_no => (by exfalso; omega))
          refine ev_iconst dX7_binderOf_46 ?_
          exact p47 _ 0 (Or.inr ⟨rfl, fun z => z.elim k4 (fun z => k5 z.1)⟩)
set_option maxRecDepth 100000 in
theorem s_binderC {a nd : Nat} {L : List Nd} {h : AH} (hT : TmT h a L) (hl : L.length ≤ 125) (hnd : nd < L.length) : CV mX7_binderOf 4 [rv a, iv (nd : Int)] h (oi fun r h1 => r = bd (TBL L) nd ∧ h1 = h) := by
  obtain ⟨⟨ka, na⟩, hcnt⟩ := hT.o
  refine cv_of cdX7_binderOf ?_
  show EV _ _ 0 [rv a, iv (nd : Int), uv, uv, uv, uv] [] h _
  have hg := (TBL_gd nd hnd).1
  refine ev_iload_n dX7_binderOf_0 rfl ?_
  refine ev_ist2 dX7_binderOf_1 ?_
  refine ev_aload_n dX7_binderOf_2 rfl ?_
  refine ev_iload_n dX7_binderOf_3 rfl ?_
  refine ev_cvi dX7_binderOf_4 lX7_36 (s_parT hT hnd) (by decide) ka na rfl rfl rfl (Nat.le_of_ble_eq_true rfl) rfl (fun r z1 q => ?_)
  obtain ⟨rfl, e⟩ := q
  rw [e]
  refine ev_ist3 dX7_binderOf_7 ?_
  exact binderC_loop hT (by omega) hnd 129 (nd : Int) (TBL L 61 nd) uv uv hg.1 (by omega) (by omega)
