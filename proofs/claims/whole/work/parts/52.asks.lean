/-! questions about nodes -/
def ANn : List Nat := [47, 48, 49, 50, 51, 52, 53, 54, 55, 56, 57, 58, 59, 60, 61, 62, 63, 64, 65]
def FNn : List Nat := [0, 34, 35, 36]
/-- the lessons: N of them, each with its nodes -/
def NV (h : AH) (N : Nat) (LL : Nat → List Nd) : Prop := h.vl 43 0 = (N : Int) ∧ N ≤ 6 ∧ ∀ l, l < N → LSn h l (LL l)
theorem NV.kp {h h1 : AH} {N : Nat} {LL : Nat → List Nd} {A F : List Nat} (hN : NV h N LL) (k : KP h h1 A F) (hA : 43 ∉ A := by decide) : NV h1 N LL := by
  have e : h1.vl 43 = h.vl 43 := k.vl (by decide) hA
  refine ⟨by rw [e]; exact hN.1, hN.2.1, fun l hl => ?_⟩
  obtain ⟨n, a, b, c⟩ := hN.2.2 l hl
  exact ⟨n, by rw [e]; exact a, b, by rw [e]; exact c⟩
theorem i_les1 {p : Int} {N : Nat} {LL : Nat → List Nd} {h : AH} (hI : RI h) (hN : NV h N LL) (hp : 0 ≤ p ∧ p < (N : Int)) : CV mX11_isLesson 2 [rv 42, iv p] h (oi fun r h1 => r = 1 ∧ h1 = h) := by
  have h1 := hN.1
  have h2 := hN.2.1
  refine cv_mono (s_isLesson hI (by omega)) fun o h2 q => ?_
  obtain ⟨x, rfl, rfl, rfl⟩ := q
  exact ⟨_, rfl, by rw [h1, if_pos hp], rfl⟩
theorem i_les0 {p : Int} {N : Nat} {LL : Nat → List Nd} {h : AH} (hI : RI h) (hN : NV h N LL) (hp : ¬ (0 ≤ p ∧ p < (N : Int))) : CV mX11_isLesson 2 [rv 42, iv p] h (oi fun r h1 => r = 0 ∧ h1 = h) := by
  have h1 := hN.1
  have h2 := hN.2.1
  refine cv_mono (s_isLesson hI (by omega)) fun o h2 q => ?_
  obtain ⟨x, rfl, rfl, rfl⟩ := q
  exact ⟨_, rfl, by rw [h1, if_neg hp], rfl⟩
theorem i_nodesOf {p : Int} {N : Nat} {LL : Nat → List Nd} {h : AH} (hI : RI h) (hN : NV h N LL) (hp : 0 ≤ p ∧ p < (N : Int)) : CV mX11_nodesOf 7 [rv 42, iv p] h (on fun h1 => (KP h h1 ANn FNn ∧ NT h1 (LL p.toNat)) ∧ h1.vl 42 0 = h.vl 42 0) := by
  obtain ⟨l, rfl⟩ : ∃ l : Nat, p = (l : Int) := ⟨p.toNat, by omega⟩
  have h2 := hN.2.1
  refine cv_mono (s_nodesOf hI (by omega) (hN.2.2 l (by omega))) fun o h1 q => ?_
  obtain ⟨q1, q2, q3⟩ := q
  exact ⟨q1, ⟨q2.wk (fun _ z => z) (fun x hx => List.mem_cons_of_mem _ hx), q3⟩, q2.fl⟩
set_option maxRecDepth 100000 in
theorem s_isNode {p q : Int} {N : Nat} {LL : Nat → List Nd} {h : AH} (hI : RI h) (hN : NV h N LL) : CV mX11_isNode 8 [rv 42, iv p, iv q] h (oi fun r h1 => KP h h1 ANn FNn ∧ ((r = 0 ∧ ¬ ((0 ≤ p ∧ p < (N : Int)) ∧ (0 ≤ q ∧ q < ((LL p.toNat).length : Int)))) ∨ (r = 1 ∧ ((0 ≤ p ∧ p < (N : Int)) ∧ (0 ≤ q ∧ q < ((LL p.toNat).length : Int))) ∧ NT h1 (LL p.toNat)))) := by
  refine cv_of cdX11_isNode ?_
  show EV _ _ 0 [rv 42, iv p, iv q] [] h _
  by_cases hp : 0 ≤ p ∧ p < (N : Int)
  · skip
    refine ev_aload_n dX11_isNode_0 rfl ?_
    refine ev_iload_n dX11_isNode_1 rfl ?_
    refine ev_cvi dX11_isNode_2 lX11_361 (i_les1 hI hN hp) (by decide) hI.o hI.n rfl rfl rfl (Nat.le_of_ble_eq_true rfl) rfl (fun r z1 q => ?_)
    obtain ⟨rfl, e⟩ := q
    rw [e]
    refine ev_ifne 10 dX11_isNode_5 (fun hbr => ?_) (fun h_no => (by exfalso; omega))
    refine ev_aload_n dX11_isNode_10 rfl ?_
    refine ev_iload_n dX11_isNode_11 rfl ?_
    refine ev_cvv dX11_isNode_12 lX11_315 (i_nodesOf hI hN hp) (by decide) hI.o hI.n rfl rfl rfl (Nat.le_of_ble_eq_true rfl) rfl (fun h1 q => ?_)
    obtain ⟨⟨k1, t1⟩, t0⟩ := q
    have hI1 : RI h1 := k1.ri hI
    have n1 := t1.2.1
    have hl := t1.2.2.2
    refine ev_iload_n dX11_isNode_15 rfl ?_
    refine ev_iconst dX11_isNode_16 ?_
    refine ev_aload_n dX11_isNode_17 rfl ?_
    refine ev_getiv dX11_isNode_18 fX11_203 hI1.o hI1.n rfl n1 ?_
    refine ev_iconst dX11_isNode_21 ?_
    refine ev_isub dX11_isNode_22 (by unfold ir; omega) ?_
    by_cases hq : 0 ≤ q ∧ q < ((LL p.toNat).length : Int)
    · skip
      refine ev_csi dX11_isNode_23 lX11_164 (f_isIn1 (by omega)) (by decide) rfl rfl (Nat.le_of_ble_eq_true rfl) rfl (fun r z2 q => ?_)
      obtain ⟨rfl, e⟩ := q
      rw [e]
      exact ev_zret dX11_isNode_26 (⟨_, rfl, k1, Or.inr ⟨rfl, ⟨hp, hq⟩, t1⟩⟩) (Or.inr rfl)
    · skip
      refine ev_csi dX11_isNode_23 lX11_164 (f_isIn0 (by omega)) (by decide) rfl rfl (Nat.le_of_ble_eq_true rfl) rfl (fun r z2 q => ?_)
      obtain ⟨rfl, e⟩ := q
      rw [e]
      exact ev_zret dX11_isNode_26 (⟨_, rfl, k1, Or.inl ⟨rfl, fun z => hq z.2⟩⟩) (Or.inl rfl)
  · skip
    refine ev_aload_n dX11_isNode_0 rfl ?_
    refine ev_iload_n dX11_isNode_1 rfl ?_
    refine ev_cvi dX11_isNode_2 lX11_361 (i_les0 hI hN hp) (by decide) hI.o hI.n rfl rfl rfl (Nat.le_of_ble_eq_true rfl) rfl (fun r z1 q => ?_)
    obtain ⟨rfl, e⟩ := q
    rw [e]
    refine ev_ifne 10 dX11_isNode_5 (fun h_no => (by exfalso; omega)) (fun hbr => ?_)
    refine ev_iconst dX11_isNode_8 ?_
    exact ev_zret dX11_isNode_9 (⟨_, rfl, KP.rf, Or.inl ⟨rfl, fun z => hp z.1⟩⟩) (Or.inl rfl)
set_option maxRecDepth 100000 in
theorem r_nodes {p : Int} {N : Nat} {LL : Nat → List Nd} {h : AH} (hI : RI h) (hN : NV h N LL) : CV mX11_nodes 9 [rv 42, iv p] h (oi fun r h1 => KP h h1 ANn FNn ∧ ((0 ≤ p ∧ p < (N : Int)) ∧ h1.vl 42 0 = 0 ∧ r = ((LL p.toNat).length : Int) ∨ ¬ (0 ≤ p ∧ p < (N : Int)) ∧ h1.vl 42 0 = 1)) := by
  refine cv_of cdX11_nodes ?_
  show EV _ _ 0 [rv 42, iv p] [] h _
  by_cases hp : 0 ≤ p ∧ p < (N : Int)
  · skip
    refine ev_aload_n dX11_nodes_0 rfl ?_
    refine ev_aload_n dX11_nodes_1 rfl ?_
    refine ev_iload_n dX11_nodes_2 rfl ?_
    refine ev_cvi dX11_nodes_3 lX11_361 (i_les1 hI hN hp) (by decide) hI.o hI.n rfl rfl rfl (Nat.le_of_ble_eq_true rfl) rfl (fun r z1 q => ?_)
    obtain ⟨rfl, e⟩ := q
    rw [e]
    refine ev_ifeq 13 dX11_nodes_6 (fun h_no => (by exfalso; omega)) (fun hbr => ?_)
    refine ev_iconst dX11_nodes_9 ?_
    refine ev_gt 14 dX11_nodes_10 ?_
    refine ev_pt dX11_nodes_14 fX11_161 hI.o hI.n rfl ?_
    refine ev_aload_n dX11_nodes_17 rfl ?_
    refine ev_getiv dX11_nodes_18 fX11_161 hI.o hI.n rfl (show _ = 0 from rfl) ?_
    refine ev_ifeq 26 dX11_nodes_21 (fun hbr => ?_) (fun h_no => (by exfalso; omega))
    refine ev_aload_n dX11_nodes_26 rfl ?_
    refine ev_iload_n dX11_nodes_27 rfl ?_
    have k0 : KP h (h.put 42 0 0) ANn FNn := KP.rf.pf (by decide)
    refine ev_cvv dX11_nodes_28 lX11_315 (i_nodesOf (k0.ri hI) (hN.kp k0) hp) (by decide) hI.o hI.n rfl rfl rfl (Nat.le_of_ble_eq_true rfl) rfl (fun h1 q => ?_)
    obtain ⟨⟨k1, t1⟩, t0⟩ := q
    have k2 := k0.tr k1
    have hI1 : RI h1 := k2.ri hI
    have n1 := t1.2.1
    refine ev_aload_n dX11_nodes_31 rfl ?_
    refine ev_getiv dX11_nodes_32 fX11_203 hI1.o hI1.n rfl n1 ?_
    exact ev_iret dX11_nodes_35 (⟨_, rfl, k2, Or.inl ⟨hp, t0, rfl⟩⟩)
  · skip
    refine ev_aload_n dX11_nodes_0 rfl ?_
    refine ev_aload_n dX11_nodes_1 rfl ?_
    refine ev_iload_n dX11_nodes_2 rfl ?_
    refine ev_cvi dX11_nodes_3 lX11_361 (i_les0 hI hN hp) (by decide) hI.o hI.n rfl rfl rfl (Nat.le_of_ble_eq_true rfl) rfl (fun r z1 q => ?_)
    obtain ⟨rfl, e⟩ := q
    rw [e]
    refine ev_ifeq 13 dX11_nodes_6 (fun hbr => ?_) (fun h_no => (by exfalso; omega))
    refine ev_iconst dX11_nodes_13 ?_
    refine ev_pt dX11_nodes_14 fX11_161 hI.o hI.n rfl ?_
    refine ev_aload_n dX11_nodes_17 rfl ?_
    refine ev_getiv dX11_nodes_18 fX11_161 hI.o hI.n rfl (show _ = 1 from rfl) ?_
    refine ev_ifeq 26 dX11_nodes_21 (fun h_no => (by exfalso; omega)) (fun hbr => ?_)
    refine ev_iconst dX11_nodes_24 ?_
    exact ev_iret dX11_nodes_25 (⟨_, rfl, KP.rf.pf (by decide), Or.inr ⟨hp, rfl⟩⟩)
set_option maxRecDepth 100000 in
theorem r_unbound {p : Int} {N : Nat} {LL : Nat → List Nd} {h : AH} (hI : RI h) (hN : NV h N LL) : CV mX11_unbound 9 [rv 42, iv p] h (oi fun r h1 => KP h h1 ANn FNn ∧ ((0 ≤ p ∧ p < (N : Int)) ∧ h1.vl 42 0 = 0 ∧ r = bb (TBL (LL p.toNat)) (-1) (LL p.toNat).length ∨ ¬ (0 ≤ p ∧ p < (N : Int)) ∧ h1.vl 42 0 = 1)) := by
  refine cv_of cdX11_unbound ?_
  show EV _ _ 0 [rv 42, iv p] [] h _
  by_cases hp : 0 ≤ p ∧ p < (N : Int)
  · skip
    refine ev_aload_n dX11_unbound_0 rfl ?_
    refine ev_aload_n dX11_unbound_1 rfl ?_
    refine ev_iload_n dX11_unbound_2 rfl ?_
    refine ev_cvi dX11_unbound_3 lX11_361 (i_les1 hI hN hp) (by decide) hI.o hI.n rfl rfl rfl (Nat.le_of_ble_eq_true rfl) rfl (fun r z1 q => ?_)
    obtain ⟨rfl, e⟩ := q
    rw [e]
    refine ev_ifeq 13 dX11_unbound_6 (fun h_no => (by exfalso; omega)) (fun hbr => ?_)
    refine ev_iconst dX11_unbound_9 ?_
    refine ev_gt 14 dX11_unbound_10 ?_
    refine ev_pt dX11_unbound_14 fX11_161 hI.o hI.n rfl ?_
    refine ev_aload_n dX11_unbound_17 rfl ?_
    refine ev_getiv dX11_unbound_18 fX11_161 hI.o hI.n rfl (show _ = 0 from rfl) ?_
    refine ev_ifeq 26 dX11_unbound_21 (fun hbr => ?_) (fun h_no => (by exfalso; omega))
    refine ev_aload_n dX11_unbound_26 rfl ?_
    refine ev_iload_n dX11_unbound_27 rfl ?_
    have k0 : KP h (h.put 42 0 0) ANn FNn := KP.rf.pf (by decide)
    refine ev_cvv dX11_unbound_28 lX11_315 (i_nodesOf (k0.ri hI) (hN.kp k0) hp) (by decide) hI.o hI.n rfl rfl rfl (Nat.le_of_ble_eq_true rfl) rfl (fun h1 q => ?_)
    obtain ⟨⟨k1, t1⟩, t0⟩ := q
    have k2 := k0.tr k1
    have hI1 : RI h1 := k2.ri hI
    have n1 := t1.2.1
    refine ev_aload_n dX11_unbound_31 rfl ?_
    refine ev_iconst dX11_unbound_32 ?_
    refine ev_cvi dX11_unbound_33 lX11_382 (s_boundBy hI1 t1) (by decide) hI1.o hI1.n rfl rfl rfl (Nat.le_of_ble_eq_true rfl) rfl (fun r z3 q => ?_)
    obtain ⟨rfl, e⟩ := q
    rw [e]
    exact ev_iret dX11_unbound_36 (⟨_, rfl, k2, Or.inl ⟨hp, t0, rfl⟩⟩)
  · skip
    refine ev_aload_n dX11_unbound_0 rfl ?_
    refine ev_aload_n dX11_unbound_1 rfl ?_
    refine ev_iload_n dX11_unbound_2 rfl ?_
    refine ev_cvi dX11_unbound_3 lX11_361 (i_les0 hI hN hp) (by decide) hI.o hI.n rfl rfl rfl (Nat.le_of_ble_eq_true rfl) rfl (fun r z1 q => ?_)
    obtain ⟨rfl, e⟩ := q
    rw [e]
    refine ev_ifeq 13 dX11_unbound_6 (fun hbr => ?_) (fun h_no => (by exfalso; omega))
    refine ev_iconst dX11_unbound_13 ?_
    refine ev_pt dX11_unbound_14 fX11_161 hI.o hI.n rfl ?_
    refine ev_aload_n dX11_unbound_17 rfl ?_
    refine ev_getiv dX11_unbound_18 fX11_161 hI.o hI.n rfl (show _ = 1 from rfl) ?_
    refine ev_ifeq 26 dX11_unbound_21 (fun h_no => (by exfalso; omega)) (fun hbr => ?_)
    refine ev_iconst dX11_unbound_24 ?_
    exact ev_iret dX11_unbound_25 (⟨_, rfl, KP.rf.pf (by decide), Or.inr ⟨hp, rfl⟩⟩)
theorem NV.ok {h : AH} {N : Nat} {LL : Nat → List Nd} {l : Nat} (hN : NV h N LL) (hl : l < N) : ∀ x ∈ LL l, ndOK x := by
  obtain ⟨n, a, b, c⟩ := hN.2.2 l hl
  have := rd_ok (c := fun j => h.vl 43 (3 + 61 * l + 1 + j)) b
  rw [c] at this
  exact this
theorem NV.nd {h : AH} {N : Nat} {LL : Nat → List Nd} {l j : Nat} (hN : NV h N LL) (hl : l < N) (hj : j < (LL l).length) : ndOK (TBL (LL l) 57 j, TBL (LL l) 58 j, TBL (LL l) 63 j) := by
  obtain ⟨a, b, c⟩ := TBL_own hj
  rw [a, b, c]
  have e : (LL l).getD j (0, 0, 0) = (LL l)[j] := by rw [List.getD_eq_getElem?_getD, List.getElem?_eq_getElem hj]; rfl
  rw [e]
  exact hN.ok hl _ (List.getElem_mem hj)
/-- the numbers of a node that are told -/
def colW (w : Int) : Nat := if w = 0 then 57 else if w = 1 then 61 else if w = 2 then 59 else if w = 3 then 60 else if w = 4 then 62 else 63
set_option maxRecDepth 100000 in
theorem r_nodeOf {p q w : Int} {N : Nat} {LL : Nat → List Nd} {h : AH} (hI : RI h) (hN : NV h N LL) : CV mX11_nodeOf 9 [rv 42, iv p, iv q, iv w] h (oi fun r h1 => KP h h1 ANn FNn ∧ (¬ ((0 ≤ p ∧ p < (N : Int)) ∧ (0 ≤ q ∧ q < ((LL p.toNat).length : Int))) ∧ h1.vl 42 0 = 1 ∨ ((0 ≤ p ∧ p < (N : Int)) ∧ (0 ≤ q ∧ q < ((LL p.toNat).length : Int))) ∧ ¬ (0 ≤ w ∧ w ≤ 5) ∧ h1.vl 42 0 = 2 ∨ ((0 ≤ p ∧ p < (N : Int)) ∧ (0 ≤ q ∧ q < ((LL p.toNat).length : Int))) ∧ (0 ≤ w ∧ w ≤ 5) ∧ h1.vl 42 0 = 0 ∧ r = TBL (LL p.toNat) (colW w) q.toNat)) := by
  refine cv_of cdX11_nodeOf ?_
  show EV _ _ 0 [rv 42, iv p, iv q, iv w] [] h _
  refine ev_aload_n dX11_nodeOf_0 rfl ?_
  refine ev_aload_n dX11_nodeOf_1 rfl ?_
  refine ev_iload_n dX11_nodeOf_2 rfl ?_
  refine ev_iload_n dX11_nodeOf_3 rfl ?_
  refine ev_cvi dX11_nodeOf_4 lX11_379 (s_isNode hI hN) (by decide) hI.o hI.n rfl rfl rfl (Nat.le_of_ble_eq_true rfl) rfl (fun r h1 q => ?_)
  obtain ⟨k1, q⟩ := q
  have hI1 : RI h1 := k1.ri hI
  rcases q with ⟨rfl, hq⟩ | ⟨rfl, hq, t1⟩
  · skip
    refine ev_ifne 14 dX11_nodeOf_7 (fun h_no => (by exfalso; omega)) (fun hbr => ?_)
    refine ev_iconst dX11_nodeOf_10 ?_
    refine ev_gt 28 dX11_nodeOf_11 ?_
    refine ev_pt dX11_nodeOf_28 fX11_161 hI1.o hI1.n rfl ?_
    refine ev_aload_n dX11_nodeOf_31 rfl ?_
    refine ev_getiv dX11_nodeOf_32 fX11_161 hI1.o hI1.n rfl (show _ = 1 from rfl) ?_
    refine ev_ifeq 40 dX11_nodeOf_35 (fun h_no => (by exfalso; omega)) (fun hbr => ?_)
    refine ev_iconst dX11_nodeOf_38 ?_
    exact ev_iret dX11_nodeOf_39 (⟨_, rfl, k1.pf (by decide), Or.inl ⟨hq, rfl⟩⟩)
  · skip
    obtain ⟨j, rfl⟩ : ∃ j : Nat, q = (j : Int) := ⟨q.toNat, by omega⟩
    have hj : j < (LL p.toNat).length := by omega
    have hl := t1.2.2.2
    have hpN : p.toNat < N := by omega
    have nd := hN.nd hpN hj
    have kp : KP h (h1.put 42 0 0) ANn FNn := k1.pf (by decide)
    have e57 : h1.vl 57 j = TBL (LL p.toNat) 57 j := t1.1 57 j (by decide) (by decide) (Or.inl hj)
    have e58 : h1.vl 58 j = TBL (LL p.toNat) 58 j := t1.1 58 j (by decide) (by decide) (Or.inl hj)
    have e59 : h1.vl 59 j = TBL (LL p.toNat) 59 j := t1.1 59 j (by decide) (by decide) (Or.inl hj)
    have e60 : h1.vl 60 j = TBL (LL p.toNat) 60 j := t1.1 60 j (by decide) (by decide) (Or.inl hj)
    have e61 : h1.vl 61 j = TBL (LL p.toNat) 61 j := t1.1 61 j (by decide) (by decide) (Or.inl hj)
    have e62 : h1.vl 62 j = TBL (LL p.toNat) 62 j := t1.1 62 j (by decide) (by decide) (Or.inl hj)
    have e63 : h1.vl 63 j = TBL (LL p.toNat) 63 j := t1.1 63 j (by decide) (by decide) (Or.inl hj)
    refine ev_ifne 14 dX11_nodeOf_7 (fun hbr => ?_) (fun h_no => (by exfalso; omega))
    refine ev_iload_n dX11_nodeOf_14 rfl ?_
    refine ev_iconst dX11_nodeOf_15 ?_
    refine ev_iconst dX11_nodeOf_16 ?_
    by_cases hw : 0 ≤ w ∧ w ≤ 5
    · skip
      refine ev_csi dX11_nodeOf_17 lX11_164 (f_isIn1 hw) (by decide) rfl rfl (Nat.le_of_ble_eq_true rfl) rfl (fun r z2 q => ?_)
      obtain ⟨rfl, e⟩ := q
      rw [e]
      refine ev_ifeq 27 dX11_nodeOf_20 (fun h_no => (by exfalso; omega)) (fun hbr => ?_)
      refine ev_iconst dX11_nodeOf_23 ?_
      refine ev_gt 28 dX11_nodeOf_24 ?_
      refine ev_pt dX11_nodeOf_28 fX11_161 hI1.o hI1.n rfl ?_
      refine ev_aload_n dX11_nodeOf_31 rfl ?_
      refine ev_getiv dX11_nodeOf_32 fX11_161 hI1.o hI1.n rfl (show _ = 0 from rfl) ?_
      refine ev_ifeq 40 dX11_nodeOf_35 (fun hbr => ?_) (fun h_no => (by exfalso; omega))
      refine ev_iload_n dX11_nodeOf_40 rfl ?_
      by_cases w0 : w = 0
      · skip
        refine ev_ifne 53 dX11_nodeOf_41 (fun h_no => (by exfalso; omega)) (fun hw0 => ?_)
        refine ev_aload_n dX11_nodeOf_44 rfl ?_
        refine ev_getrv dX11_nodeOf_45 fX11_56 hI1.o hI1.n rfl hI1.v_kind ?_
        refine ev_iload_n dX11_nodeOf_48 rfl ?_
        refine ev_ildv dX11_nodeOf_49 hI1.k_kind hI1.n_kind rfl (by omega) (by omega) e57 ?_
        refine ev_gt 115 dX11_nodeOf_50 ?_
        exact ev_iret dX11_nodeOf_115 (⟨_, rfl, kp, Or.inr (Or.inr ⟨hq, hw, rfl, by rw [colW, if_pos w0]; rfl⟩)⟩)
      · skip
        refine ev_ifne 53 dX11_nodeOf_41 (fun hw0 => ?_) (fun h_no => (by exfalso; omega))
        refine ev_iload_n dX11_nodeOf_53 rfl ?_
        refine ev_iconst dX11_nodeOf_54 ?_
        by_cases w1 : w = 1
        · skip
          refine ev_icmpne 67 dX11_nodeOf_55 (fun h_no => (by exfalso; omega)) (fun hw1 => ?_)
          refine ev_aload_n dX11_nodeOf_58 rfl ?_
          refine ev_getrv dX11_nodeOf_59 fX11_68 hI1.o hI1.n rfl hI1.v_up ?_
          refine ev_iload_n dX11_nodeOf_62 rfl ?_
          refine ev_ildv dX11_nodeOf_63 hI1.k_up hI1.n_up rfl (by omega) (by omega) e61 ?_
          refine ev_gt 115 dX11_nodeOf_64 ?_
          exact ev_iret dX11_nodeOf_115 (⟨_, rfl, kp, Or.inr (Or.inr ⟨hq, hw, rfl, by rw [colW, if_neg w0, if_pos w1]; rfl⟩)⟩)
        · skip
          refine ev_icmpne 67 dX11_nodeOf_55 (fun hw1 => ?_) (fun h_no => (by exfalso; omega))
          refine ev_iload_n dX11_nodeOf_67 rfl ?_
          refine ev_iconst dX11_nodeOf_68 ?_
          by_cases w2 : w = 2
          · skip
            refine ev_icmpne 81 dX11_nodeOf_69 (fun h_no => (by exfalso; omega)) (fun hw2 => ?_)
            refine ev_aload_n dX11_nodeOf_72 rfl ?_
            refine ev_getrv dX11_nodeOf_73 fX11_62 hI1.o hI1.n rfl hI1.v_first ?_
            refine ev_iload_n dX11_nodeOf_76 rfl ?_
            refine ev_ildv dX11_nodeOf_77 hI1.k_first hI1.n_first rfl (by omega) (by omega) e59 ?_
            refine ev_gt 115 dX11_nodeOf_78 ?_
            exact ev_iret dX11_nodeOf_115 (⟨_, rfl, kp, Or.inr (Or.inr ⟨hq, hw, rfl, by rw [colW, if_neg w0, if_neg w1, if_pos w2]; rfl⟩)⟩)
          · skip
            refine ev_icmpne 81 dX11_nodeOf_69 (fun hw2 => ?_) (fun h_no => (by exfalso; omega))
            refine ev_iload_n dX11_nodeOf_81 rfl ?_
            refine ev_iconst dX11_nodeOf_82 ?_
            by_cases w3 : w = 3
            · skip
              refine ev_icmpne 95 dX11_nodeOf_83 (fun h_no => (by exfalso; omega)) (fun hw3 => ?_)
              refine ev_aload_n dX11_nodeOf_86 rfl ?_
              refine ev_getrv dX11_nodeOf_87 fX11_65 hI1.o hI1.n rfl hI1.v_second ?_
              refine ev_iload_n dX11_nodeOf_90 rfl ?_
              refine ev_ildv dX11_nodeOf_91 hI1.k_second hI1.n_second rfl (by omega) (by omega) e60 ?_
              refine ev_gt 115 dX11_nodeOf_92 ?_
              exact ev_iret dX11_nodeOf_115 (⟨_, rfl, kp, Or.inr (Or.inr ⟨hq, hw, rfl, by rw [colW, if_neg w0, if_neg w1, if_neg w2, if_pos w3]; rfl⟩)⟩)
            · skip
              refine ev_icmpne 95 dX11_nodeOf_83 (fun hw3 => ?_) (fun h_no => (by exfalso; omega))
              refine ev_iload_n dX11_nodeOf_95 rfl ?_
              refine ev_iconst dX11_nodeOf_96 ?_
              by_cases w4 : w = 4
              · skip
                refine ev_icmpne 109 dX11_nodeOf_97 (fun h_no => (by exfalso; omega)) (fun hw4 => ?_)
                refine ev_aload_n dX11_nodeOf_100 rfl ?_
                refine ev_getrv dX11_nodeOf_101 fX11_71 hI1.o hI1.n rfl hI1.v_deep ?_
                refine ev_iload_n dX11_nodeOf_104 rfl ?_
                refine ev_ildv dX11_nodeOf_105 hI1.k_deep hI1.n_deep rfl (by omega) (by omega) e62 ?_
                refine ev_gt 115 dX11_nodeOf_106 ?_
                exact ev_iret dX11_nodeOf_115 (⟨_, rfl, kp, Or.inr (Or.inr ⟨hq, hw, rfl, by rw [colW, if_neg w0, if_neg w1, if_neg w2, if_neg w3, if_pos w4]; rfl⟩)⟩)
              · skip
                refine ev_icmpne 109 dX11_nodeOf_97 (fun hw4 => ?_) (fun h_no => (by exfalso; omega))
                refine ev_aload_n dX11_nodeOf_109 rfl ?_
                refine ev_getrv dX11_nodeOf_110 fX11_74 hI1.o hI1.n rfl hI1.v_at ?_
                refine ev_iload_n dX11_nodeOf_113 rfl ?_
                refine ev_ildv dX11_nodeOf_114 hI1.k_at hI1.n_at rfl (by omega) (by omega) e63 ?_
                exact ev_iret dX11_nodeOf_115 (⟨_, rfl, kp, Or.inr (Or.inr ⟨hq, hw, rfl, by rw [colW, if_neg w0, if_neg w1, if_neg w2, if_neg w3, if_neg w4]; rfl⟩)⟩)
    · skip
      refine ev_csi dX11_nodeOf_17 lX11_164 (f_isIn0 hw) (by decide) rfl rfl (Nat.le_of_ble_eq_true rfl) rfl (fun r z2 q => ?_)
      obtain ⟨rfl, e⟩ := q
      rw [e]
      refine ev_ifeq 27 dX11_nodeOf_20 (fun hbr => ?_) (fun h_no => (by exfalso; omega))
      refine ev_iconst dX11_nodeOf_27 ?_
      refine ev_pt dX11_nodeOf_28 fX11_161 hI1.o hI1.n rfl ?_
      refine ev_aload_n dX11_nodeOf_31 rfl ?_
      refine ev_getiv dX11_nodeOf_32 fX11_161 hI1.o hI1.n rfl (show _ = 2 from rfl) ?_
      refine ev_ifeq 40 dX11_nodeOf_35 (fun h_no => (by exfalso; omega)) (fun hbr => ?_)
      refine ev_iconst dX11_nodeOf_38 ?_
      exact ev_iret dX11_nodeOf_39 (⟨_, rfl, k1.pf (by decide), Or.inr (Or.inl ⟨hq, hw, rfl⟩)⟩)
set_option maxRecDepth 100000 in
theorem r_signOf {p q : Int} {N : Nat} {LL : Nat → List Nd} {h : AH} (hI : RI h) (hN : NV h N LL) : CV mX11_signOf 9 [rv 42, iv p, iv q] h (oi fun r h1 => KP h h1 ANn FNn ∧ (¬ ((0 ≤ p ∧ p < (N : Int)) ∧ (0 ≤ q ∧ q < ((LL p.toNat).length : Int))) ∧ h1.vl 42 0 = 1 ∨ ((0 ≤ p ∧ p < (N : Int)) ∧ (0 ≤ q ∧ q < ((LL p.toNat).length : Int))) ∧ TBL (LL p.toNat) 57 q.toNat = 6 ∧ h1.vl 42 0 = 2 ∨ ((0 ≤ p ∧ p < (N : Int)) ∧ (0 ≤ q ∧ q < ((LL p.toNat).length : Int))) ∧ ¬ TBL (LL p.toNat) 57 q.toNat = 6 ∧ h1.vl 42 0 = 0 ∧ r = TBL (LL p.toNat) 58 q.toNat)) := by
  refine cv_of cdX11_signOf ?_
  show EV _ _ 0 [rv 42, iv p, iv q] [] h _
  refine ev_aload_n dX11_signOf_0 rfl ?_
  refine ev_aload_n dX11_signOf_1 rfl ?_
  refine ev_iload_n dX11_signOf_2 rfl ?_
  refine ev_iload_n dX11_signOf_3 rfl ?_
  refine ev_cvi dX11_signOf_4 lX11_379 (s_isNode hI hN) (by decide) hI.o hI.n rfl rfl rfl (Nat.le_of_ble_eq_true rfl) rfl (fun r h1 q => ?_)
  obtain ⟨k1, q⟩ := q
  have hI1 : RI h1 := k1.ri hI
  rcases q with ⟨rfl, hq⟩ | ⟨rfl, hq, t1⟩
  · skip
    refine ev_ifne 14 dX11_signOf_7 (fun h_no => (by exfalso; omega)) (fun hbr => ?_)
    refine ev_iconst dX11_signOf_10 ?_
    refine ev_gt 30 dX11_signOf_11 ?_
    refine ev_pt dX11_signOf_30 fX11_161 hI1.o hI1.n rfl ?_
    refine ev_aload_n dX11_signOf_33 rfl ?_
    refine ev_getiv dX11_signOf_34 fX11_161 hI1.o hI1.n rfl (show _ = 1 from rfl) ?_
    refine ev_ifne 50 dX11_signOf_37 (fun hbr => ?_) (fun h_no => (by exfalso; omega))
    refine ev_iconst dX11_signOf_50 ?_
    exact ev_cret dX11_signOf_51 (⟨_, rfl, k1.pf (by decide), Or.inl ⟨hq, rfl⟩⟩) (by omega) (by omega)
  · skip
    obtain ⟨j, rfl⟩ : ∃ j : Nat, q = (j : Int) := ⟨q.toNat, by omega⟩
    have hj : j < (LL p.toNat).length := by omega
    have hl := t1.2.2.2
    have hpN : p.toNat < N := by omega
    have nd := hN.nd hpN hj
    have kp : KP h (h1.put 42 0 0) ANn FNn := k1.pf (by decide)
    have e57 : h1.vl 57 j = TBL (LL p.toNat) 57 j := t1.1 57 j (by decide) (by decide) (Or.inl hj)
    have e58 : h1.vl 58 j = TBL (LL p.toNat) 58 j := t1.1 58 j (by decide) (by decide) (Or.inl hj)
    have e59 : h1.vl 59 j = TBL (LL p.toNat) 59 j := t1.1 59 j (by decide) (by decide) (Or.inl hj)
    have e60 : h1.vl 60 j = TBL (LL p.toNat) 60 j := t1.1 60 j (by decide) (by decide) (Or.inl hj)
    have e61 : h1.vl 61 j = TBL (LL p.toNat) 61 j := t1.1 61 j (by decide) (by decide) (Or.inl hj)
    have e62 : h1.vl 62 j = TBL (LL p.toNat) 62 j := t1.1 62 j (by decide) (by decide) (Or.inl hj)
    have e63 : h1.vl 63 j = TBL (LL p.toNat) 63 j := t1.1 63 j (by decide) (by decide) (Or.inl hj)
    refine ev_ifne 14 dX11_signOf_7 (fun hbr => ?_) (fun h_no => (by exfalso; omega))
    refine ev_aload_n dX11_signOf_14 rfl ?_
    refine ev_getrv dX11_signOf_15 fX11_56 hI1.o hI1.n rfl hI1.v_kind ?_
    refine ev_iload_n dX11_signOf_18 rfl ?_
    refine ev_ildv dX11_signOf_19 hI1.k_kind hI1.n_kind rfl (by omega) (by omega) e57 ?_
    refine ev_bipush dX11_signOf_20 ?_
    by_cases h6 : TBL (LL p.toNat) 57 j = 6
    · skip
      refine ev_icmpne 29 dX11_signOf_22 (fun h_no => (by exfalso; omega)) (fun hb => ?_)
      refine ev_iconst dX11_signOf_25 ?_
      refine ev_gt 30 dX11_signOf_26 ?_
      refine ev_pt dX11_signOf_30 fX11_161 hI1.o hI1.n rfl ?_
      refine ev_aload_n dX11_signOf_33 rfl ?_
      refine ev_getiv dX11_signOf_34 fX11_161 hI1.o hI1.n rfl (show _ = 2 from rfl) ?_
      refine ev_ifne 50 dX11_signOf_37 (fun hbr => ?_) (fun h_no => (by exfalso; omega))
      refine ev_iconst dX11_signOf_50 ?_
      exact ev_cret dX11_signOf_51 (⟨_, rfl, k1.pf (by decide), Or.inr (Or.inl ⟨hq, h6, rfl⟩)⟩) (by omega) (by omega)
    · skip
      refine ev_icmpne 29 dX11_signOf_22 (fun hb => ?_) (fun h_no => (by exfalso; omega))
      refine ev_iconst dX11_signOf_29 ?_
      refine ev_pt dX11_signOf_30 fX11_161 hI1.o hI1.n rfl ?_
      refine ev_aload_n dX11_signOf_33 rfl ?_
      refine ev_getiv dX11_signOf_34 fX11_161 hI1.o hI1.n rfl (show _ = 0 from rfl) ?_
      refine ev_ifne 50 dX11_signOf_37 (fun h_no => (by exfalso; omega)) (fun hbr => ?_)
      refine ev_aload_n dX11_signOf_40 rfl ?_
      refine ev_getrv dX11_signOf_41 fX11_59 hI1.o hI1.n rfl hI1.v_sign ?_
      refine ev_iload_n dX11_signOf_44 rfl ?_
      refine ev_ildv dX11_signOf_45 hI1.k_sign hI1.n_sign rfl (by omega) (by omega) e58 ?_
      refine ev_i2c dX11_signOf_46 ?_
      refine ev_gt 51 dX11_signOf_47 ?_
      have sr : 0 ≤ TBL (LL p.toNat) 58 j ∧ TBL (LL p.toNat) 58 j ≤ 126 := by
        have n1 := nd.1
        simp only at n1
        omega
      rw [show TBL (LL p.toNat) 58 j % 65536 = TBL (LL p.toNat) 58 j from by omega]
      exact ev_cret dX11_signOf_51 (⟨_, rfl, kp, Or.inr (Or.inr ⟨hq, h6, rfl, rfl⟩)⟩) (by omega) (by omega)
set_option maxRecDepth 100000 in
theorem r_binder {p q : Int} {N : Nat} {LL : Nat → List Nd} {h : AH} (hI : RI h) (hN : NV h N LL) : CV mX11_binder 9 [rv 42, iv p, iv q] h (oi fun r h1 => KP h h1 ANn FNn ∧ (¬ ((0 ≤ p ∧ p < (N : Int)) ∧ (0 ≤ q ∧ q < ((LL p.toNat).length : Int))) ∧ h1.vl 42 0 = 1 ∨ ((0 ≤ p ∧ p < (N : Int)) ∧ (0 ≤ q ∧ q < ((LL p.toNat).length : Int))) ∧ ¬ (TBL (LL p.toNat) 57 q.toNat = 0 ∧ 0 ≤ bd (TBL (LL p.toNat)) q.toNat) ∧ h1.vl 42 0 = 2 ∨ ((0 ≤ p ∧ p < (N : Int)) ∧ (0 ≤ q ∧ q < ((LL p.toNat).length : Int))) ∧ (TBL (LL p.toNat) 57 q.toNat = 0 ∧ 0 ≤ bd (TBL (LL p.toNat)) q.toNat) ∧ h1.vl 42 0 = 0 ∧ r = bd (TBL (LL p.toNat)) q.toNat)) := by
  refine cv_of cdX11_binder ?_
  show EV _ _ 0 [rv 42, iv p, iv q] [] h _
  refine ev_aload_n dX11_binder_0 rfl ?_
  refine ev_aload_n dX11_binder_1 rfl ?_
  refine ev_iload_n dX11_binder_2 rfl ?_
  refine ev_iload_n dX11_binder_3 rfl ?_
  refine ev_cvi dX11_binder_4 lX11_379 (s_isNode hI hN) (by decide) hI.o hI.n rfl rfl rfl (Nat.le_of_ble_eq_true rfl) rfl (fun r h1 q => ?_)
  obtain ⟨k1, q⟩ := q
  have hI1 : RI h1 := k1.ri hI
  rcases q with ⟨rfl, hq⟩ | ⟨rfl, hq, t1⟩
  · skip
    refine ev_ifne 14 dX11_binder_7 (fun h_no => (by exfalso; omega)) (fun hbr => ?_)
    refine ev_iconst dX11_binder_10 ?_
    refine ev_gt 36 dX11_binder_11 ?_
    refine ev_pt dX11_binder_36 fX11_161 hI1.o hI1.n rfl ?_
    refine ev_aload_n dX11_binder_39 rfl ?_
    refine ev_getiv dX11_binder_40 fX11_161 hI1.o hI1.n rfl (show _ = 1 from rfl) ?_
    refine ev_ifne 54 dX11_binder_43 (fun hbr => ?_) (fun h_no => (by exfalso; omega))
    refine ev_iconst dX11_binder_54 ?_
    exact ev_iret dX11_binder_55 (⟨_, rfl, k1.pf (by decide), Or.inl ⟨hq, rfl⟩⟩)
  · skip
    obtain ⟨j, rfl⟩ : ∃ j : Nat, q = (j : Int) := ⟨q.toNat, by omega⟩
    have hj : j < (LL p.toNat).length := by omega
    have hl := t1.2.2.2
    have hpN : p.toNat < N := by omega
    have nd := hN.nd hpN hj
    have kp : KP h (h1.put 42 0 0) ANn FNn := k1.pf (by decide)
    have e57 : h1.vl 57 j = TBL (LL p.toNat) 57 j := t1.1 57 j (by decide) (by decide) (Or.inl hj)
    have e58 : h1.vl 58 j = TBL (LL p.toNat) 58 j := t1.1 58 j (by decide) (by decide) (Or.inl hj)
    have e59 : h1.vl 59 j = TBL (LL p.toNat) 59 j := t1.1 59 j (by decide) (by decide) (Or.inl hj)
    have e60 : h1.vl 60 j = TBL (LL p.toNat) 60 j := t1.1 60 j (by decide) (by decide) (Or.inl hj)
    have e61 : h1.vl 61 j = TBL (LL p.toNat) 61 j := t1.1 61 j (by decide) (by decide) (Or.inl hj)
    have e62 : h1.vl 62 j = TBL (LL p.toNat) 62 j := t1.1 62 j (by decide) (by decide) (Or.inl hj)
    have e63 : h1.vl 63 j = TBL (LL p.toNat) 63 j := t1.1 63 j (by decide) (by decide) (Or.inl hj)
    refine ev_ifne 14 dX11_binder_7 (fun hbr => ?_) (fun h_no => (by exfalso; omega))
    refine ev_aload_n dX11_binder_14 rfl ?_
    refine ev_getrv dX11_binder_15 fX11_56 hI1.o hI1.n rfl hI1.v_kind ?_
    refine ev_iload_n dX11_binder_18 rfl ?_
    refine ev_ildv dX11_binder_19 hI1.k_kind hI1.n_kind rfl (by omega) (by omega) e57 ?_
    by_cases h0 : TBL (LL p.toNat) 57 j = 0
    · skip
      refine ev_ifne 31 dX11_binder_20 (fun h_no => (by exfalso; omega)) (fun hb => ?_)
      refine ev_aload_n dX11_binder_23 rfl ?_
      refine ev_iload_n dX11_binder_24 rfl ?_
      refine ev_cvi dX11_binder_25 lX11_291 (s_binderOf hI1 t1 hj) (by decide) hI1.o hI1.n rfl rfl rfl (Nat.le_of_ble_eq_true rfl) rfl (fun r z2 q => ?_)
      obtain ⟨rfl, e⟩ := q
      rw [e]
      by_cases hb0 : 0 ≤ bd (TBL (LL p.toNat)) j
      · skip
        refine ev_ifge 35 dX11_binder_28 (fun hb2 => ?_) (fun h_no => (by exfalso; omega))
        refine ev_iconst dX11_binder_35 ?_
        refine ev_pt dX11_binder_36 fX11_161 hI1.o hI1.n rfl ?_
        refine ev_aload_n dX11_binder_39 rfl ?_
        refine ev_getiv dX11_binder_40 fX11_161 hI1.o hI1.n rfl (show _ = 0 from rfl) ?_
        refine ev_ifne 54 dX11_binder_43 (fun h_no => (by exfalso; omega)) (fun hbr => ?_)
        refine ev_aload_n dX11_binder_46 rfl ?_
        refine ev_iload_n dX11_binder_47 rfl ?_
        have t2 : NT (h1.put 42 0 0) (LL p.toNat) := ⟨t1.1.ot (Or.inl (by decide)), t1.2.1, t1.2.2⟩
        have hI2 : RI (h1.put 42 0 0) := (KP.rf.pf (A := []) (F := [0]) (by decide)).ri hI1
        refine ev_cvi dX11_binder_48 lX11_291 (s_binderOf hI2 t2 hj) (by decide) hI1.o hI1.n rfl rfl rfl (Nat.le_of_ble_eq_true rfl) rfl (fun r z3 q => ?_)
        obtain ⟨rfl, e3⟩ := q
        rw [e3]
        refine ev_gt 55 dX11_binder_51 ?_
        exact ev_iret dX11_binder_55 (⟨_, rfl, kp, Or.inr (Or.inr ⟨hq, ⟨h0, hb0⟩, rfl, rfl⟩)⟩)
      · skip
        refine ev_ifge 35 dX11_binder_28 (fun h_no => (by exfalso; omega)) (fun hb2 => ?_)
        refine ev_iconst dX11_binder_31 ?_
        refine ev_gt 36 dX11_binder_32 ?_
        refine ev_pt dX11_binder_36 fX11_161 hI1.o hI1.n rfl ?_
        refine ev_aload_n dX11_binder_39 rfl ?_
        refine ev_getiv dX11_binder_40 fX11_161 hI1.o hI1.n rfl (show _ = 2 from rfl) ?_
        refine ev_ifne 54 dX11_binder_43 (fun hbr => ?_) (fun h_no => (by exfalso; omega))
        refine ev_iconst dX11_binder_54 ?_
        exact ev_iret dX11_binder_55 (⟨_, rfl, k1.pf (by decide), Or.inr (Or.inl ⟨hq, fun z => hb0 z.2, rfl⟩)⟩)
    · skip
      refine ev_ifne 31 dX11_binder_20 (fun hb => ?_) (fun h_no => (by exfalso; omega))
      refine ev_iconst dX11_binder_31 ?_
      refine ev_gt 36 dX11_binder_32 ?_
      refine ev_pt dX11_binder_36 fX11_161 hI1.o hI1.n rfl ?_
      refine ev_aload_n dX11_binder_39 rfl ?_
      refine ev_getiv dX11_binder_40 fX11_161 hI1.o hI1.n rfl (show _ = 2 from rfl) ?_
      refine ev_ifne 54 dX11_binder_43 (fun hbr => ?_) (fun h_no => (by exfalso; omega))
      refine ev_iconst dX11_binder_54 ?_
      exact ev_iret dX11_binder_55 (⟨_, rfl, k1.pf (by decide), Or.inr (Or.inl ⟨hq, fun z => h0 z.1, rfl⟩)⟩)
set_option maxRecDepth 100000 in
theorem r_uses {p q : Int} {N : Nat} {LL : Nat → List Nd} {h : AH} (hI : RI h) (hN : NV h N LL) : CV mX11_uses 9 [rv 42, iv p, iv q] h (oi fun r h1 => KP h h1 ANn FNn ∧ (¬ ((0 ≤ p ∧ p < (N : Int)) ∧ (0 ≤ q ∧ q < ((LL p.toNat).length : Int))) ∧ h1.vl 42 0 = 1 ∨ ((0 ≤ p ∧ p < (N : Int)) ∧ (0 ≤ q ∧ q < ((LL p.toNat).length : Int))) ∧ ¬ (TBL (LL p.toNat) 57 q.toNat = 4 ∨ TBL (LL p.toNat) 57 q.toNat = 5) ∧ h1.vl 42 0 = 2 ∨ ((0 ≤ p ∧ p < (N : Int)) ∧ (0 ≤ q ∧ q < ((LL p.toNat).length : Int))) ∧ (TBL (LL p.toNat) 57 q.toNat = 4 ∨ TBL (LL p.toNat) 57 q.toNat = 5) ∧ h1.vl 42 0 = 0 ∧ r = bb (TBL (LL p.toNat)) q (LL p.toNat).length)) := by
  refine cv_of cdX11_uses ?_
  show EV _ _ 0 [rv 42, iv p, iv q] [] h _
  refine ev_aload_n dX11_uses_0 rfl ?_
  refine ev_aload_n dX11_uses_1 rfl ?_
  refine ev_iload_n dX11_uses_2 rfl ?_
  refine ev_iload_n dX11_uses_3 rfl ?_
  refine ev_cvi dX11_uses_4 lX11_379 (s_isNode hI hN) (by decide) hI.o hI.n rfl rfl rfl (Nat.le_of_ble_eq_true rfl) rfl (fun r h1 q => ?_)
  obtain ⟨k1, q⟩ := q
  have hI1 : RI h1 := k1.ri hI
  rcases q with ⟨rfl, hq⟩ | ⟨rfl, hq, t1⟩
  · skip
    refine ev_ifne 14 dX11_uses_7 (fun h_no => (by exfalso; omega)) (fun hbr => ?_)
    refine ev_iconst dX11_uses_10 ?_
    refine ev_gt 39 dX11_uses_11 ?_
    refine ev_pt dX11_uses_39 fX11_161 hI1.o hI1.n rfl ?_
    refine ev_aload_n dX11_uses_42 rfl ?_
    refine ev_getiv dX11_uses_43 fX11_161 hI1.o hI1.n rfl (show _ = 1 from rfl) ?_
    refine ev_ifne 57 dX11_uses_46 (fun hbr => ?_) (fun h_no => (by exfalso; omega))
    refine ev_iconst dX11_uses_57 ?_
    exact ev_iret dX11_uses_58 (⟨_, rfl, k1.pf (by decide), Or.inl ⟨hq, rfl⟩⟩)
  · skip
    obtain ⟨j, rfl⟩ : ∃ j : Nat, q = (j : Int) := ⟨q.toNat, by omega⟩
    have hj : j < (LL p.toNat).length := by omega
    have hl := t1.2.2.2
    have hpN : p.toNat < N := by omega
    have nd := hN.nd hpN hj
    have kp : KP h (h1.put 42 0 0) ANn FNn := k1.pf (by decide)
    have e57 : h1.vl 57 j = TBL (LL p.toNat) 57 j := t1.1 57 j (by decide) (by decide) (Or.inl hj)
    have e58 : h1.vl 58 j = TBL (LL p.toNat) 58 j := t1.1 58 j (by decide) (by decide) (Or.inl hj)
    have e59 : h1.vl 59 j = TBL (LL p.toNat) 59 j := t1.1 59 j (by decide) (by decide) (Or.inl hj)
    have e60 : h1.vl 60 j = TBL (LL p.toNat) 60 j := t1.1 60 j (by decide) (by decide) (Or.inl hj)
    have e61 : h1.vl 61 j = TBL (LL p.toNat) 61 j := t1.1 61 j (by decide) (by decide) (Or.inl hj)
    have e62 : h1.vl 62 j = TBL (LL p.toNat) 62 j := t1.1 62 j (by decide) (by decide) (Or.inl hj)
    have e63 : h1.vl 63 j = TBL (LL p.toNat) 63 j := t1.1 63 j (by decide) (by decide) (Or.inl hj)
    refine ev_ifne 14 dX11_uses_7 (fun hbr => ?_) (fun h_no => (by exfalso; omega))
    refine ev_aload_n dX11_uses_14 rfl ?_
    refine ev_getrv dX11_uses_15 fX11_56 hI1.o hI1.n rfl hI1.v_kind ?_
    refine ev_iload_n dX11_uses_18 rfl ?_
    refine ev_ildv dX11_uses_19 hI1.k_kind hI1.n_kind rfl (by omega) (by omega) e57 ?_
    refine ev_iconst dX11_uses_20 ?_
    by_cases h4 : TBL (LL p.toNat) 57 j = 4
    · skip
      refine ev_icmpeq 34 dX11_uses_21 (fun hb => ?_) (fun h_no => (by exfalso; omega))
      refine ev_iconst dX11_uses_34 ?_
      refine ev_gt 39 dX11_uses_35 ?_
      refine ev_pt dX11_uses_39 fX11_161 hI1.o hI1.n rfl ?_
      refine ev_aload_n dX11_uses_42 rfl ?_
      refine ev_getiv dX11_uses_43 fX11_161 hI1.o hI1.n rfl (show _ = 0 from rfl) ?_
      refine ev_ifne 57 dX11_uses_46 (fun h_no => (by exfalso; omega)) (fun hbr => ?_)
      refine ev_aload_n dX11_uses_49 rfl ?_
      refine ev_iload_n dX11_uses_50 rfl ?_
      have t2 : NT (h1.put 42 0 0) (LL p.toNat) := ⟨t1.1.ot (Or.inl (by decide)), t1.2.1, t1.2.2⟩
      have hI2 : RI (h1.put 42 0 0) := (KP.rf.pf (A := []) (F := [0]) (by decide)).ri hI1
      refine ev_cvi dX11_uses_51 lX11_382 (s_boundBy hI2 t2) (by decide) hI1.o hI1.n rfl rfl rfl (Nat.le_of_ble_eq_true rfl) rfl (fun r z3 q => ?_)
      obtain ⟨rfl, e3⟩ := q
      rw [e3]
      refine ev_gt 58 dX11_uses_54 ?_
      exact ev_iret dX11_uses_58 (⟨_, rfl, kp, Or.inr (Or.inr ⟨hq, Or.inl h4, rfl, rfl⟩)⟩)
    · skip
      refine ev_icmpeq 34 dX11_uses_21 (fun h_no => (by exfalso; omega)) (fun hb => ?_)
      refine ev_aload_n dX11_uses_24 rfl ?_
      refine ev_getrv dX11_uses_25 fX11_56 hI1.o hI1.n rfl hI1.v_kind ?_
      refine ev_iload_n dX11_uses_28 rfl ?_
      refine ev_ildv dX11_uses_29 hI1.k_kind hI1.n_kind rfl (by omega) (by omega) e57 ?_
      refine ev_iconst dX11_uses_30 ?_
      by_cases h5 : TBL (LL p.toNat) 57 j = 5
      · skip
        refine ev_icmpne 38 dX11_uses_31 (fun h_no => (by exfalso; omega)) (fun hb2 => ?_)
        refine ev_iconst dX11_uses_34 ?_
        refine ev_gt 39 dX11_uses_35 ?_
        refine ev_pt dX11_uses_39 fX11_161 hI1.o hI1.n rfl ?_
        refine ev_aload_n dX11_uses_42 rfl ?_
        refine ev_getiv dX11_uses_43 fX11_161 hI1.o hI1.n rfl (show _ = 0 from rfl) ?_
        refine ev_ifne 57 dX11_uses_46 (fun h_no => (by exfalso; omega)) (fun hbr => ?_)
        refine ev_aload_n dX11_uses_49 rfl ?_
        refine ev_iload_n dX11_uses_50 rfl ?_
        have t2 : NT (h1.put 42 0 0) (LL p.toNat) := ⟨t1.1.ot (Or.inl (by decide)), t1.2.1, t1.2.2⟩
        have hI2 : RI (h1.put 42 0 0) := (KP.rf.pf (A := []) (F := [0]) (by decide)).ri hI1
        refine ev_cvi dX11_uses_51 lX11_382 (s_boundBy hI2 t2) (by decide) hI1.o hI1.n rfl rfl rfl (Nat.le_of_ble_eq_true rfl) rfl (fun r z3 q => ?_)
        obtain ⟨rfl, e3⟩ := q
        rw [e3]
        refine ev_gt 58 dX11_uses_54 ?_
        exact ev_iret dX11_uses_58 (⟨_, rfl, kp, Or.inr (Or.inr ⟨hq, Or.inr h5, rfl, rfl⟩)⟩)
      · skip
        refine ev_icmpne 38 dX11_uses_31 (fun hb2 => ?_) (fun h_no => (by exfalso; omega))
        refine ev_iconst dX11_uses_38 ?_
        refine ev_pt dX11_uses_39 fX11_161 hI1.o hI1.n rfl ?_
        refine ev_aload_n dX11_uses_42 rfl ?_
        refine ev_getiv dX11_uses_43 fX11_161 hI1.o hI1.n rfl (show _ = 2 from rfl) ?_
        refine ev_ifne 57 dX11_uses_46 (fun hbr => ?_) (fun h_no => (by exfalso; omega))
        refine ev_iconst dX11_uses_57 ?_
        exact ev_iret dX11_uses_58 (⟨_, rfl, k1.pf (by decide), Or.inr (Or.inl ⟨hq, fun z => z.elim h4 h5, rfl⟩)⟩)
