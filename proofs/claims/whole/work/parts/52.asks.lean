/-! questions about nodes -/
def ANn : List Nat := [47, 48, 49, 50, 51, 52, 53, 54, 55, 56, 57, 58, 59, 60, 61, 62, 63, 64, 65]
def FNn : List Nat := [0, 34, 35, 36]
/-- the lessons: N of them, each with its nodes -/
def NV (h : AH) (N : Nat) (LL : Nat → List Nd) : Prop := h.vl 43 0 = (N : Int) ∧ N ≤ 6 ∧ ∀ l, l < N → LSn h l (LL l)
theorem NV.kp {h h1 : AH} {N : Nat} {LL : Nat → List Nd} {A F : List Nat} (hN : NV h N LL) (k : KP h h1 A F) (hA : 43 ∉ A := by decide) : NV h1 N LL := by
  have e : h1.vl 43 = h.vl 43 := k.vl (by decide) hA
  refine ⟨by rw [e]; exact hN.1, hN.2.1, fun l hl => ?_⟩
  obtain ⟨n, a, b, c⟩ := hN.2.2 l hl
  exact ⟨n, by rw [e]; exact a, b, by rw [e]; exact c⟩
theorem i_les1 {p : Int} {N : Nat} {LL : Nat → List Nd} {h : AH} (hI : RI h) (hN : NV h N LL) (hp : 0 ≤ p ∧ p < (N : Int)) : CV mX11_isLesson 2 [rv 42, iv p] h (oi fun r h1 => r = 1 ∧ h1 = h) := by
  have h1 := hN.1
  have h2 := hN.2.1
  refine cv_mono (s_isLesson hI (by omega)) fun o h2 q => ?_
  obtain ⟨x, rfl, rfl, rfl⟩ := q
  exact ⟨_, rfl, by rw [h1, if_pos hp], rfl⟩
theorem i_les0 {p : Int} {N : Nat} {LL : Nat → List Nd} {h : AH} (hI : RI h) (hN : NV h N LL) (hp : ¬ (0 ≤ p ∧ p < (N : Int))) : CV mX11_isLesson 2 [rv 42, iv p] h (oi fun r h1 => r = 0 ∧ h1 = h) := by
  have h1 := hN.1
  have h2 := hN.2.1
  refine cv_mono (s_isLesson hI (by omega)) fun o h2 q => ?_
  obtain ⟨x, rfl, rfl, rfl⟩ := q
  exact ⟨_, rfl, by rw [h1, if_neg hp], rfl⟩
theorem i_nodesOf {p : Int} {N : Nat} {LL : Nat → List Nd} {h : AH} (hI : RI h) (hN : NV h N LL) (hp : 0 ≤ p ∧ p < (N : Int)) : CV mX11_nodesOf 7 [rv 42, iv p] h (on fun h1 => (KP h h1 ANn FNn ∧ NT h1 (LL p.toNat)) ∧ h1.vl 42 0 = h.vl 42 0) := by
  obtain ⟨l, rfl⟩ : ∃ l : Nat, p = (l : Int) := ⟨p.toNat, by omega⟩
  have h2 := hN.2.1
  refine cv_mono (s_nodesOf hI (by omega) (hN.2.2 l (by omega))) fun o h1 q => ?_
  obtain ⟨q1, q2, q3⟩ := q
  exact ⟨q1, ⟨q2.wk (fun _ z => z) (fun x hx => List.mem_cons_of_mem _ hx), q3⟩, q2.fl⟩
set_option maxRecDepth 100000 in
theorem s_isNode {p q : Int} {N : Nat} {LL : Nat → List Nd} {h : AH} (hI : RI h) (hN : NV h N LL) : CV mX11_isNode 8 [rv 42, iv p, iv q] h (oi fun r h1 => KP h h1 ANn FNn ∧ ((r = 0 ∧ ¬ ((0 ≤ p ∧ p < (N : Int)) ∧ (0 ≤ q ∧ q < ((LL p.toNat).length : Int)))) ∨ (r = 1 ∧ ((0 ≤ p ∧ p < (N : Int)) ∧ (0 ≤ q ∧ q < ((LL p.toNat).length : Int))) ∧ NT h1 (LL p.toNat)))) := by
  refine cv_of cdX11_isNode ?_
  show EV _ _ 0 [rv 42, iv p, iv q] [] h _
  by_cases hp : 0 ≤ p ∧ p < (N : Int)
  · skip
    refine ev_aload_n dX11_isNode_0 rfl ?_
    refine ev_iload_n dX11_isNode_1 rfl ?_
    refine ev_cvi dX11_isNode_2 lX11_361 (i_les1 hI hN hp) (by decide) hI.o hI.n rfl rfl rfl (Nat.le_of_ble_eq_true rfl) rfl (fun r z1 q => ?_)
    obtain ⟨rfl, e⟩ := q
    rw [e]
    refine ev_ifne 10 dX11_isNode_5 (fun hbr => ?_) (fun h_no => (by exfalso; omega))
    refine ev_aload_n dX11_isNode_10 rfl ?_
    refine ev_iload_n dX11_isNode_11 rfl ?_
    refine ev_cvv dX11_isNode_12 lX11_315 (i_nodesOf hI hN hp) (by decide) hI.o hI.n rfl rfl rfl (Nat.le_of_ble_eq_true rfl) rfl (fun h1 q => ?_)
    obtain ⟨⟨k1, t1⟩, t0⟩ := q
    have hI1 : RI h1 := k1.ri hI
    have n1 := t1.2.1
    have hl := t1.2.2.2
    refine ev_iload_n dX11_isNode_15 rfl ?_
    refine ev_iconst dX11_isNode_16 ?_
    refine ev_aload_n dX11_isNode_17 rfl ?_
    refine ev_getiv dX11_isNode_18 fX11_203 hI1.o hI1.n rfl n1 ?_
    refine ev_iconst dX11_isNode_21 ?_
    refine ev_isub dX11_isNode_22 (by unfold ir; omega) ?_
    by_cases hq : 0 ≤ q ∧ q < ((LL p.toNat).length : Int)
    · skip
      refine ev_csi dX11_isNode_23 lX11_164 (f_isIn1 (by omega)) (by decide) rfl rfl (Nat.le_of_ble_eq_true rfl) rfl (fun r z2 q => ?_)
      obtain ⟨rfl, e⟩ := q
      rw [e]
      exact ev_zret dX11_isNode_26 (⟨_, rfl, k1, Or.inr ⟨rfl, ⟨hp, hq⟩, t1⟩⟩) (Or.inr rfl)
    · skip
      refine ev_csi dX11_isNode_23 lX11_164 (f_isIn0 (by omega)) (by decide) rfl rfl (Nat.le_of_ble_eq_true rfl) rfl (fun r z2 q => ?_)
      obtain ⟨rfl, e⟩ := q
      rw [e]
      exact ev_zret dX11_isNode_26 (⟨_, rfl, k1, Or.inl ⟨rfl, fun z => hq z.2⟩⟩) (Or.inl rfl)
  · skip
    refine ev_aload_n dX11_isNode_0 rfl ?_
    refine ev_iload_n dX11_isNode_1 rfl ?_
    refine ev_cvi dX11_isNode_2 lX11_361 (i_les0 hI hN hp) (by decide) hI.o hI.n rfl rfl rfl (Nat.le_of_ble_eq_true rfl) rfl (fun r z1 q => ?_)
    obtain ⟨rfl, e⟩ := q
    rw [e]
    refine ev_ifne 10 dX11_isNode_5 (fun h_no => (by exfalso; omega)) (fun hbr => ?_)
    refine ev_iconst dX11_isNode_8 ?_
    exact ev_zret dX11_isNode_9 (⟨_, rfl, KP.rf, Or.inl ⟨rfl, fun z => hp z.1⟩⟩) (Or.inl rfl)
set_option maxRecDepth 100000 in
theorem r_nodes {p : Int} {N : Nat} {LL : Nat → List Nd} {h : AH} (hI : RI h) (hN : NV h N LL) : CV mX11_nodes 9 [rv 42, iv p] h (oi fun r h1 => KP h h1 ANn FNn ∧ ((0 ≤ p ∧ p < (N : Int)) ∧ h1.vl 42 0 = 0 ∧ r = ((LL p.toNat).length : Int) ∨ ¬ (0 ≤ p ∧ p < (N : Int)) ∧ h1.vl 42 0 = 1)) := by
  refine cv_of cdX11_nodes ?_
  show EV _ _ 0 [rv 42, iv p] [] h _
  by_cases hp : 0 ≤ p ∧ p < (N : Int)
  · skip
    refine ev_aload_n dX11_nodes_0 rfl ?_
    refine ev_aload_n dX11_nodes_1 rfl ?_
    refine ev_iload_n dX11_nodes_2 rfl ?_
    refine ev_cvi dX11_nodes_3 lX11_361 (i_les1 hI hN hp) (by decide) hI.o hI.n rfl rfl rfl (Nat.le_of_ble_eq_true rfl) rfl (fun r z1 q => ?_)
    obtain ⟨rfl, e⟩ := q
    rw [e]
    refine ev_ifeq 13 dX11_nodes_6 (fun h_no => (by exfalso; omega)) (fun hbr => ?_)
    refine ev_iconst dX11_nodes_9 ?_
    refine ev_gt 14 dX11_nodes_10 ?_
    refine ev_pt dX11_nodes_14 fX11_161 hI.o hI.n rfl ?_
    refine ev_aload_n dX11_nodes_17 rfl ?_
    refine ev_getiv dX11_nodes_18 fX11_161 hI.o hI.n rfl (show _ = 0 from rfl) ?_
    refine ev_ifeq 26 dX11_nodes_21 (fun hbr => ?_) (fun h_no => (by exfalso; omega))
    refine ev_aload_n dX11_nodes_26 rfl ?_
    refine ev_iload_n dX11_nodes_27 rfl ?_
    have k0 : KP h (h.put 42 0 0) ANn FNn := KP.rf.pf (by decide)
    refine ev_cvv dX11_nodes_28 lX11_315 (i_nodesOf (k0.ri hI) (hN.kp k0) hp) (by decide) hI.o hI.n rfl rfl rfl (Nat.le_of_ble_eq_true rfl) rfl (fun h1 q => ?_)
    obtain ⟨⟨k1, t1⟩, t0⟩ := q
    have k2 := k0.tr k1
    have hI1 : RI h1 := k2.ri hI
    have n1 := t1.2.1
    refine ev_aload_n dX11_nodes_31 rfl ?_
    refine ev_getiv dX11_nodes_32 fX11_203 hI1.o hI1.n rfl n1 ?_
    exact ev_iret dX11_nodes_35 (⟨_, rfl, k2, Or.inl ⟨hp, t0, rfl⟩⟩)
  · skip
    refine ev_aload_n dX11_nodes_0 rfl ?_
    refine ev_aload_n dX11_nodes_1 rfl ?_
    refine ev_iload_n dX11_nodes_2 rfl ?_
    refine ev_cvi dX11_nodes_3 lX11_361 (i_les0 hI hN hp) (by decide) hI.o hI.n rfl rfl rfl (Nat.le_of_ble_eq_true rfl) rfl (fun r z1 q => ?_)
    obtain ⟨rfl, e⟩ := q
    rw [e]
    refine ev_ifeq 13 dX11_nodes_6 (fun hbr => ?_) (fun h_no => (by exfalso; omega))
    refine ev_iconst dX11_nodes_13 ?_
    refine ev_pt dX11_nodes_14 fX11_161 hI.o hI.n rfl ?_
    refine ev_aload_n dX11_nodes_17 rfl ?_
    refine ev_getiv dX11_nodes_18 fX11_161 hI.o hI.n rfl (show _ = 1 from rfl) ?_
    refine ev_ifeq 26 dX11_nodes_21 (fun h_no => (by exfalso; omega)) (fun hbr => ?_)
    refine ev_iconst dX11_nodes_24 ?_
    exact ev_iret dX11_nodes_25 (⟨_, rfl, KP.rf.pf (by decide), Or.inr ⟨hp, rfl⟩⟩)
set_option maxRecDepth 100000 in
theorem r_unbound {p : Int} {N : Nat} {LL : Nat → List Nd} {h : AH} (hI : RI h) (hN : NV h N LL) : CV mX11_unbound 9 [rv 42, iv p] h (oi fun r h1 => KP h h1 ANn FNn ∧ ((0 ≤ p ∧ p < (N : Int)) ∧ h1.vl 42 0 = 0 ∧ r = bb (TBL (LL p.toNat)) (-1) (LL p.toNat).length ∨ ¬ (0 ≤ p ∧ p < (N : Int)) ∧ h1.vl 42 0 = 1)) := by
  refine cv_of cdX11_unbound ?_
  show EV _ _ 0 [rv 42, iv p] [] h _
  by_cases hp : 0 ≤ p ∧ p < (N : Int)
  · skip
    refine ev_aload_n dX11_unbound_0 rfl ?_
    refine ev_aload_n dX11_unbound_1 rfl ?_
    refine ev_iload_n dX11_unbound_2 rfl ?_
    refine ev_cvi dX11_unbound_3 lX11_361 (i_les1 hI hN hp) (by decide) hI.o hI.n rfl rfl rfl (Nat.le_of_ble_eq_true rfl) rfl (fun r z1 q => ?_)
    obtain ⟨rfl, e⟩ := q
    rw [e]
    refine ev_ifeq 13 dX11_unbound_6 (fun h_no => (by exfalso; omega)) (fun hbr => ?_)
    refine ev_iconst dX11_unbound_9 ?_
    refine ev_gt 14 dX11_unbound_10 ?_
    refine ev_pt dX11_unbound_14 fX11_161 hI.o hI.n rfl ?_
    refine ev_aload_n dX11_unbound_17 rfl ?_
    refine ev_getiv dX11_unbound_18 fX11_161 hI.o hI.n rfl (show _ = 0 from rfl) ?_
    refine ev_ifeq 26 dX11_unbound_21 (fun hbr => ?_) (fun h_no => (by exfalso; omega))
    refine ev_aload_n dX11_unbound_26 rfl ?_
    refine ev_iload_n dX11_unbound_27 rfl ?_
    have k0 : KP h (h.put 42 0 0) ANn FNn := KP.rf.pf (by decide)
    refine ev_cvv dX11_unbound_28 lX11_315 (i_nodesOf (k0.ri hI) (hN.kp k0) hp) (by decide) hI.o hI.n rfl rfl rfl (Nat.le_of_ble_eq_true rfl) rfl (fun h1 q => ?_)
    obtain ⟨⟨k1, t1⟩, t0⟩ := q
    have k2 := k0.tr k1
    have hI1 : RI h1 := k2.ri hI
    have n1 := t1.2.1
    refine ev_aload_n dX11_unbound_31 rfl ?_
    refine ev_iconst dX11_unbound_32 ?_
    refine ev_cvi dX11_unbound_33 lX11_382 (s_boundBy hI1 t1) (by decide) hI1.o hI1.n rfl rfl rfl (Nat.le_of_ble_eq_true rfl) rfl (fun r z3 q => ?_)
    obtain ⟨rfl, e⟩ := q
    rw [e]
    exact ev_iret dX11_unbound_36 (⟨_, rfl, k2, Or.inl ⟨hp, t0, rfl⟩⟩)
  · skip
    refine ev_aload_n dX11_unbound_0 rfl ?_
    refine ev_aload_n dX11_unbound_1 rfl ?_
    refine ev_iload_n dX11_unbound_2 rfl ?_
    refine ev_cvi dX11_unbound_3 lX11_361 (i_les0 hI hN hp) (by decide) hI.o hI.n rfl rfl rfl (Nat.le_of_ble_eq_true rfl) rfl (fun r z1 q => ?_)
    obtain ⟨rfl, e⟩ := q
    rw [e]
    refine ev_ifeq 13 dX11_unbound_6 (fun hbr => ?_) (fun h_no => (by exfalso; omega))
    refine ev_iconst dX11_unbound_13 ?_
    refine ev_pt dX11_unbound_14 fX11_161 hI.o hI.n rfl ?_
    refine ev_aload_n dX11_unbound_17 rfl ?_
    refine ev_getiv dX11_unbound_18 fX11_161 hI.o hI.n rfl (show _ = 1 from rfl) ?_
    refine ev_ifeq 26 dX11_unbound_21 (fun h_no => (by exfalso; omega)) (fun hbr => ?_)
    refine ev_iconst dX11_unbound_24 ?_
    exact ev_iret dX11_unbound_25 (⟨_, rfl, KP.rf.pf (by decide), Or.inr ⟨hp, rfl⟩⟩)
