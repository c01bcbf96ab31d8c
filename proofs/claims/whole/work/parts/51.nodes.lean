/-! what is asked of nodes -/
def bdW (s : Nat → Nat → Int) (a : Int) : Nat → Int → Int → Int
  | 0, _, _ => -1
  | f + 1, below, k => if k < 0 then -1 else if (s 57 k.toNat = 4 ∨ (s 57 k.toNat = 5 ∧ s 60 k.toNat = below)) ∧ s 58 k.toNat = a then k else bdW s a f k (s 61 k.toNat)
/-- what binds a name, -1 for nothing -/
def bd (s : Nat → Nat → Int) (j : Nat) : Int := bdW s (s 58 j) 130 (j : Int) (s 61 j)
set_option maxRecDepth 100000 in
theorem binder_loop {L : List Nd} {h : AH} {nd : Nat} (hI : RI h) (hT : NT h L) (hnd : nd < L.length) : ∀ (f : Nat) (below k : Int) (v4 : AV), -1 ≤ k → k < (L.length : Int) → k < (f : Int) → EV mX11_binderOf 1 9 [rv 42, iv (nd : Int), iv below, iv k, v4] [] h (oi fun r h1 => r = bdW (TBL L) (TBL L 58 nd) (f + 1) below k ∧ h1 = h) := by
  have hl := hT.2.2.2
  have hg : ∀ j : Nat, j < L.length → (-1 ≤ TBL L 61 j ∧ TBL L 61 j < (j : Int)) := fun j hj => (TBL_gd j hj).1
  have neg : ∀ (f : Nat) (below k : Int) (v4 : AV), k < 0 → EV mX11_binderOf 1 9 [rv 42, iv (nd : Int), iv below, iv k, v4] [] h (oi fun r h1 => r = bdW (TBL L) (TBL L 58 nd) (f + 1) below k ∧ h1 = h) := by
    intro f below k v4 hk
    refine ev_iload_n dX11_binderOf_9 rfl ?_
    refine ev_iflt 84 dX11_binderOf_10 (fun hc => ?_) (fun h_no => (by exfalso; omega))
    refine ev_iconst dX11_binderOf_84 ?_
    exact ev_iret dX11_binderOf_85 (⟨_, rfl, by rw [bdW, if_pos hk], rfl⟩)
  intro f
  induction f with
  | zero => intro below k v4 h1 h2 h3; exact neg 0 below k v4 (by omega)
  | succ f ih =>
    intro below k v4 h1 h2 h3
    by_cases hk : k < 0
    · exact neg _ below k v4 hk
    · obtain ⟨kk, rfl⟩ : ∃ kk : Nat, k = (kk : Int) := ⟨k.toNat, by omega⟩
      have hkl : kk < L.length := by omega
      have e57 : h.vl 57 kk = TBL L 57 kk := hT.1 57 kk (by decide) (by decide) (Or.inl hkl)
      have e58 : h.vl 58 kk = TBL L 58 kk := hT.1 58 kk (by decide) (by decide) (Or.inl hkl)
      have e60 : h.vl 60 kk = TBL L 60 kk := hT.1 60 kk (by decide) (by decide) (Or.inl hkl)
      have e61 : h.vl 61 kk = TBL L 61 kk := hT.1 61 kk (by decide) (by decide) (Or.inl hkl)
      have n58 : h.vl 58 nd = TBL L 58 nd := hT.1 58 nd (by decide) (by decide) (Or.inl hnd)
      rw [bdW, if_neg hk, show ((kk : Nat) : Int).toNat = kk from rfl]
      have p72 : ∀ v : AV, EV mX11_binderOf 1 72 [rv 42, iv (nd : Int), iv below, iv (kk : Int), v] [] h (oi fun r h1 => r = bdW (TBL L) (TBL L 58 nd) (f + 1) kk (TBL L 61 kk) ∧ h1 = h) := by
        intro v
        refine ev_iload_n dX11_binderOf_72 rfl ?_
        refine ev_ist2 dX11_binderOf_73 ?_
        refine ev_aload_n dX11_binderOf_74 rfl ?_
        refine ev_getrv dX11_binderOf_75 fX11_68 hI.o hI.n rfl hI.v_up ?_
        refine ev_iload_n dX11_binderOf_78 rfl ?_
        refine ev_ildv dX11_binderOf_79 hI.k_up hI.n_up rfl (by omega) (by omega) e61 ?_
        refine ev_ist3 dX11_binderOf_80 ?_
        refine ev_gt 9 dX11_binderOf_81 ?_
        have := hg kk hkl
        exact ih kk (TBL L 61 kk) v this.1 (by omega) (by omega)
      have p48 : ∀ b : Int, (b = 1 ∧ (TBL L 57 kk = 4 ∨ (TBL L 57 kk = 5 ∧ TBL L 60 kk = below))) ∨ (b = 0 ∧ ¬ (TBL L 57 kk = 4 ∨ (TBL L 57 kk = 5 ∧ TBL L 60 kk = below))) → EV mX11_binderOf 1 48 [rv 42, iv (nd : Int), iv below, iv (kk : Int), v4] [iv b] h (oi fun r h1 => r = (if (TBL L 57 kk = 4 ∨ (TBL L 57 kk = 5 ∧ TBL L 60 kk = below)) ∧ TBL L 58 kk = TBL L 58 nd then (kk : Int) else bdW (TBL L) (TBL L 58 nd) (f + 1) kk (TBL L 61 kk)) ∧ h1 = h) := by
        intro b hb
        refine ev_ist4 dX11_binderOf_48 ?_
        refine ev_iload dX11_binderOf_50 rfl ?_
        rcases hb with ⟨b1, b2⟩ | ⟨b1, b2⟩
        · skip
          refine ev_ifeq 72 dX11_binderOf_52 (fun h_no => (by exfalso; omega)) (fun hc => ?_)
          refine ev_aload_n dX11_binderOf_55 rfl ?_
          refine ev_getrv dX11_binderOf_56 fX11_59 hI.o hI.n rfl hI.v_sign ?_
          refine ev_iload_n dX11_binderOf_59 rfl ?_
          refine ev_ildv dX11_binderOf_60 hI.k_sign hI.n_sign rfl (by omega) (by omega) e58 ?_
          refine ev_aload_n dX11_binderOf_61 rfl ?_
          refine ev_getrv dX11_binderOf_62 fX11_59 hI.o hI.n rfl hI.v_sign ?_
          refine ev_iload_n dX11_binderOf_65 rfl ?_
          refine ev_ildv dX11_binderOf_66 hI.k_sign hI.n_sign rfl (by omega) (by omega) n58 ?_
          by_cases hs : TBL L 58 kk = TBL L 58 nd
          · skip
            rw [if_pos ⟨b2, hs⟩]
            refine ev_icmpne 72 dX11_binderOf_67 (fun h_no => (by exfalso; omega)) (fun hc2 => ?_)
            refine ev_iload_n dX11_binderOf_70 rfl ?_
            exact ev_iret dX11_binderOf_71 (⟨_, rfl, rfl, rfl⟩)
          · skip
            rw [if_neg (fun z => hs z.2)]
            refine ev_icmpne 72 dX11_binderOf_67 (fun hc2 => ?_) (fun h_no => (by exfalso; omega))
            exact p72 _
        · skip
          rw [if_neg (fun z => b2 z.1)]
          refine ev_ifeq 72 dX11_binderOf_52 (fun hc => ?_) (fun h_no => (by exfalso; omega))
          exact p72 _
      refine ev_iload_n dX11_binderOf_9 rfl ?_
      refine ev_iflt 84 dX11_binderOf_10 (fun h_no => (by exfalso; omega)) (fun hc => ?_)
      refine ev_aload_n dX11_binderOf_13 rfl ?_
      refine ev_getrv dX11_binderOf_14 fX11_56 hI.o hI.n rfl hI.v_kind ?_
      refine ev_iload_n dX11_binderOf_17 rfl ?_
      refine ev_ildv dX11_binderOf_18 hI.k_kind hI.n_kind rfl (by omega) (by omega) e57 ?_
      refine ev_iconst dX11_binderOf_19 ?_
      by_cases k4 : TBL L 57 kk = 4
      · skip
        refine ev_icmpeq 43 dX11_binderOf_20 (fun hc1 => ?_) (fun h_no => (by exfalso; omega))
        refine ev_iconst dX11_binderOf_43 ?_
        refine ev_gt 48 dX11_binderOf_44 ?_
        exact p48 1 (Or.inl ⟨rfl, Or.inl k4⟩)
      · skip
        refine ev_icmpeq 43 dX11_binderOf_20 (fun h_no => (by exfalso; omega)) (fun hc1 => ?_)
        refine ev_aload_n dX11_binderOf_23 rfl ?_
        refine ev_getrv dX11_binderOf_24 fX11_56 hI.o hI.n rfl hI.v_kind ?_
        refine ev_iload_n dX11_binderOf_27 rfl ?_
        refine ev_ildv dX11_binderOf_28 hI.k_kind hI.n_kind rfl (by omega) (by omega) e57 ?_
        refine ev_iconst dX11_binderOf_29 ?_
        by_cases k5 : TBL L 57 kk = 5
        · skip
          refine ev_icmpne 47 dX11_binderOf_30 (fun h_no => (by exfalso; omega)) (fun hc2 => ?_)
          refine ev_aload_n dX11_binderOf_33 rfl ?_
          refine ev_getrv dX11_binderOf_34 fX11_65 hI.o hI.n rfl hI.v_second ?_
          refine ev_iload_n dX11_binderOf_37 rfl ?_
          refine ev_ildv dX11_binderOf_38 hI.k_second hI.n_second rfl (by omega) (by omega) e60 ?_
          refine ev_iload_n dX11_binderOf_39 rfl ?_
          by_cases k6 : TBL L 60 kk = below
          · skip
            refine ev_icmpne 47 dX11_binderOf_40 (fun h_no => (by exfalso; omega)) (fun hc3 => ?_)
            refine ev_iconst dX11_binderOf_43 ?_
            refine ev_gt 48 dX11_binderOf_44 ?_
            exact p48 1 (Or.inl ⟨rfl, Or.inr ⟨k5, k6⟩⟩)
          · skip
            refine ev_icmpne 47 dX11_binderOf_40 (fun hc3 => ?_) (fun h_no => (by exfalso; omega))
            refine ev_iconst dX11_binderOf_47 ?_
            exact p48 0 (Or.inr ⟨rfl, fun z => z.elim k4 (fun z => k6 z.2)⟩)
        · skip
          refine ev_icmpne 47 dX11_binderOf_30 (fun hc2 => ?_) (fun h_no => (by exfalso; omega))
          refine ev_iconst dX11_binderOf_47 ?_
          exact p48 0 (Or.inr ⟨rfl, fun z => z.elim k4 (fun z => k5 z.1)⟩)
set_option maxRecDepth 100000 in
theorem s_binderOf {L : List Nd} {h : AH} {nd : Nat} (hI : RI h) (hT : NT h L) (hnd : nd < L.length) : CV mX11_binderOf 1 [rv 42, iv (nd : Int)] h (oi fun r h1 => r = bd (TBL L) nd ∧ h1 = h) := by
  refine cv_of cdX11_binderOf ?_
  show EV _ _ 0 [rv 42, iv (nd : Int), uv, uv, uv] [] h _
  have hl := hT.2.2.2
  have e61 : h.vl 61 nd = TBL L 61 nd := hT.1 61 nd (by decide) (by decide) (Or.inl hnd)
  have hg := (TBL_gd nd hnd).1
  refine ev_iload_n dX11_binderOf_0 rfl ?_
  refine ev_ist2 dX11_binderOf_1 ?_
  refine ev_aload_n dX11_binderOf_2 rfl ?_
  refine ev_getrv dX11_binderOf_3 fX11_68 hI.o hI.n rfl hI.v_up ?_
  refine ev_iload_n dX11_binderOf_6 rfl ?_
  refine ev_ildv dX11_binderOf_7 hI.k_up hI.n_up rfl (by omega) (by omega) e61 ?_
  refine ev_ist3 dX11_binderOf_8 ?_
  exact binder_loop hI hT hnd 129 (nd : Int) (TBL L 61 nd) uv hg.1 (by omega) (by omega)
theorem bd_rng {L : List Nd} {nd : Nat} (hnd : nd < L.length) : ∀ (f : Nat) (below k : Int), -1 ≤ k → k < (nd : Int) → -1 ≤ bdW (TBL L) (TBL L 58 nd) f below k ∧ bdW (TBL L) (TBL L 58 nd) f below k < (nd : Int)
  | 0, _, _, _, _ => ⟨by show (-1 : Int) ≤ -1; decide, by show (-1 : Int) < _; omega⟩
  | f + 1, below, k, h1, h2 => by
    rw [bdW]
    by_cases hk : k < 0
    · rw [if_pos hk]; omega
    · rw [if_neg hk]
      by_cases hc : (TBL L 57 k.toNat = 4 ∨ (TBL L 57 k.toNat = 5 ∧ TBL L 60 k.toNat = below)) ∧ TBL L 58 k.toNat = TBL L 58 nd
      · rw [if_pos hc]; omega
      · rw [if_neg hc]
        have := (TBL_gd (L := L) k.toNat (by omega)).1
        exact bd_rng hnd f k _ this.1 (by omega)
theorem bd_ok {L : List Nd} {nd : Nat} (hnd : nd < L.length) : -1 ≤ bd (TBL L) nd ∧ bd (TBL L) nd < (nd : Int) := by
  have hg := (TBL_gd nd hnd).1
  exact bd_rng hnd _ _ _ hg.1 hg.2
/-- how many names a node binds -/
def bb (s : Nat → Nat → Int) (node : Int) : Nat → Int
  | 0 => 0
  | k + 1 => bb s node k + (if s 57 k = 0 ∧ bd s k = node then 1 else 0)
theorem bb_le {s : Nat → Nat → Int} {node : Int} : ∀ k : Nat, 0 ≤ bb s node k ∧ bb s node k ≤ (k : Int)
  | 0 => ⟨Int.le_refl 0, Int.le_refl 0⟩
  | k + 1 => by
    have := bb_le (s := s) (node := node) k
    rw [bb]
    by_cases h : s 57 k = 0 ∧ bd s k = node
    · rw [if_pos h]; omega
    · rw [if_neg h]; omega
set_option maxRecDepth 100000 in
theorem s_boundBy {L : List Nd} {h : AH} {nd : Int} (hI : RI h) (hT : NT h L) : CV mX11_boundBy 2 [rv 42, iv nd] h (oi fun r h1 => r = bb (TBL L) nd L.length ∧ h1 = h) := by
  refine cv_of cdX11_boundBy ?_
  show EV _ _ 0 [rv 42, iv nd, uv, uv] [] h _
  have hl := hT.2.2.2
  have hn := hT.2.1
  have Lp : ∀ (m k : Nat), k + m = L.length → EV mX11_boundBy 2 4 [rv 42, iv nd, iv (bb (TBL L) nd k), iv (k : Int)] [] h (oi fun r h1 => r = bb (TBL L) nd L.length ∧ h1 = h) := by
    intro m
    induction m with
    | zero =>
      intro k hk
      refine ev_iload_n dX11_boundBy_4 rfl ?_
      refine ev_aload_n dX11_boundBy_5 rfl ?_
      refine ev_getiv dX11_boundBy_6 fX11_203 hI.o hI.n rfl hn ?_
      refine ev_icmpge 44 dX11_boundBy_9 (fun hc => ?_) (fun h_no => (by exfalso; omega))
      refine ev_iload_n dX11_boundBy_44 rfl ?_
      exact ev_iret dX11_boundBy_45 (⟨_, rfl, by rw [← hk]; rfl, rfl⟩)
    | succ m ih =>
      intro k hk
      have hkl : k < L.length := by omega
      have hb := bb_le (s := TBL L) (node := nd) k
      have e57 : h.vl 57 k = TBL L 57 k := hT.1 57 k (by decide) (by decide) (Or.inl hkl)
      have nx : ∀ b : Int, b = (if TBL L 57 k = 0 ∧ bd (TBL L) k = nd then 1 else 0) → EV mX11_boundBy 2 36 [rv 42, iv nd, iv (bb (TBL L) nd k), iv (k : Int)] [iv b, iv (bb (TBL L) nd k)] h (oi fun r h1 => r = bb (TBL L) nd L.length ∧ h1 = h) := by
        intro b hb2
        have hb3 : 0 ≤ b ∧ b ≤ 1 := by
          rw [hb2]
          by_cases z : TBL L 57 k = 0 ∧ bd (TBL L) k = nd
          · rw [if_pos z]; decide
          · rw [if_neg z]; decide
        refine ev_iadd dX11_boundBy_36 (by unfold ir; omega) ?_
        refine ev_ist2 dX11_boundBy_37 ?_
        refine ev_iin3 dX11_boundBy_38 (by unfold ir; omega) ?_
        refine ev_gt 4 dX11_boundBy_41 ?_
        rw [hb2]
        exact ih (k + 1) (by omega)
      refine ev_iload_n dX11_boundBy_4 rfl ?_
      refine ev_aload_n dX11_boundBy_5 rfl ?_
      refine ev_getiv dX11_boundBy_6 fX11_203 hI.o hI.n rfl hn ?_
      refine ev_icmpge 44 dX11_boundBy_9 (fun h_no => (by exfalso; omega)) (fun hc => ?_)
      refine ev_iload_n dX11_boundBy_12 rfl ?_
      refine ev_aload_n dX11_boundBy_13 rfl ?_
      refine ev_getrv dX11_boundBy_14 fX11_56 hI.o hI.n rfl hI.v_kind ?_
      refine ev_iload_n dX11_boundBy_17 rfl ?_
      refine ev_ildv dX11_boundBy_18 hI.k_kind hI.n_kind rfl (by omega) (by omega) e57 ?_
      by_cases k0 : TBL L 57 k = 0
      · skip
        refine ev_ifne 35 dX11_boundBy_19 (fun h_no => (by exfalso; omega)) (fun hc1 => ?_)
        refine ev_aload_n dX11_boundBy_22 rfl ?_
        refine ev_iload_n dX11_boundBy_23 rfl ?_
        refine ev_cvi dX11_boundBy_24 lX11_291 (s_binderOf hI hT hkl) (by decide) hI.o hI.n rfl rfl rfl (Nat.le_of_ble_eq_true rfl) rfl (fun r h1 q => ?_)
        obtain ⟨rfl, e⟩ := q
        rw [e]
        refine ev_iload_n dX11_boundBy_27 rfl ?_
        by_cases k1 : bd (TBL L) k = nd
        · skip
          refine ev_icmpne 35 dX11_boundBy_28 (fun h_no => (by exfalso; omega)) (fun hc2 => ?_)
          refine ev_iconst dX11_boundBy_31 ?_
          refine ev_gt 36 dX11_boundBy_32 ?_
          exact nx 1 (by rw [if_pos ⟨k0, k1⟩])
        · skip
          refine ev_icmpne 35 dX11_boundBy_28 (fun hc2 => ?_) (fun h_no => (by exfalso; omega))
          refine ev_iconst dX11_boundBy_35 ?_
          exact nx 0 (by rw [if_neg (fun z => k1 z.2)])
      · skip
        refine ev_ifne 35 dX11_boundBy_19 (fun hc1 => ?_) (fun h_no => (by exfalso; omega))
        refine ev_iconst dX11_boundBy_35 ?_
        exact nx 0 (by rw [if_neg (fun z => k0 z.1)])
  refine ev_iconst dX11_boundBy_0 ?_
  refine ev_ist2 dX11_boundBy_1 ?_
  refine ev_iconst dX11_boundBy_2 ?_
  refine ev_ist3 dX11_boundBy_3 ?_
  exact Lp L.length 0 (by omega)
