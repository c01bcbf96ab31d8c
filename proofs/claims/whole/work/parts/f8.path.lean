/-! the path of the class's finder -/
theorem YA.no {h : AH} {a K : Nat → Nat} (g : YA h a K) {c : Nat} (hc : c < 9 ∨ (18 < c ∧ c < 94)) : YNo h a c := by
  have n94 := g.1.1
  exact ⟨by omega, by omega, fun k hk e => by have := (g.2.1 k hk).2.2.2.1; omega⟩
def PtS (h : AH) : List (Nat × Int × Int) → Prop
  | [] => True
  | e :: st => (h.vl 20 st.length = (e.1 : Int) ∧ h.vl 21 st.length = e.2.1 ∧ h.vl 22 st.length = e.2.2) ∧ PtS h st
theorem PtS.lo {h h1 : AH} : ∀ {st : List (Nat × Int × Int)}, (∀ i, i < st.length → h1.vl 20 i = h.vl 20 i ∧ h1.vl 21 i = h.vl 21 i ∧ h1.vl 22 i = h.vl 22 i) → PtS h st → PtS h1 st
  | [], _, _ => trivial
  | e :: st, hi, p => by
    obtain ⟨⟨p1, p2, p3⟩, p4⟩ := p
    obtain ⟨q1, q2, q3⟩ := hi st.length (Nat.lt_succ_self _)
    exact ⟨⟨q1.trans p1, q2.trans p2, q3.trans p3⟩, PtS.lo (fun i h => hi i (Nat.lt_succ_of_lt h)) p4⟩
/-- the nodes that are being gone through, the innermost first: node, stage, what is held -/
def PtH (h : AH) (st : List (Nat × Int × Int)) : Prop := h.vl 19 3 = (st.length : Int) ∧ PtS h st ∧ st.length ≤ 120
abbrev PtX : Nat → Prop := fun c => c = 19 ∨ c = 20 ∨ c = 21 ∨ c = 22
theorem PtH.x {h h1 : AH} {a K a1 K1 : Nat → Nat} {D F : List Nat} {X : Nat → Prop} {e : Nat} {st : List (Nat × Int × Int)} (g : YA h a K) (p : PtH h st) (c : YX h a K h1 a1 K1 D F X e) (hX : ¬ X 19 ∧ ¬ X 20 ∧ ¬ X 21 ∧ ¬ X 22) : PtH h1 st := by
  have e1 := c.v (g.no (c := 19) (by decide)) hX.1
  have e2 := c.v (g.no (c := 20) (by decide)) hX.2.1
  have e3 := c.v (g.no (c := 21) (by decide)) hX.2.2.1
  have e4 := c.v (g.no (c := 22) (by decide)) hX.2.2.2
  exact ⟨by rw [e1]; exact p.1, PtS.lo (fun i _ => by rw [e2, e3, e4]; exact ⟨rfl, rfl, rfl⟩) p.2.1, p.2.2⟩
section Pth
variable {h : AH} {a K : Nat → Nat} {st : List (Nat × Int × Int)} {n : Nat} {s x : Int}
theorem YA.pp (g : YA h a K) {c i : Nat} {x : Int} (hc : (c < 9 ∨ (18 < c ∧ c < 94)) ∧ (c, i) ∉ CIs) : YX h a K (h.put c i x) a K [] [] (fun y => y = c) 0 := g.px (g.no hc.1) hc.2
theorem cis_c {c i : Nat} (h : CIs.all (fun q => decide (q.1 ≠ c)) = true) : (c, i) ∉ CIs := fun z => of_decide_eq_true (List.all_eq_true.mp h _ z) rfl
set_option maxRecDepth 100000 in
theorem s_enter (g : YA h a K) (p : PtH h st) (hl : st.length < 120) : CV mX3_enter 2 [rv 19, iv (n : Int)] h (on fun h1 => YX h a K h1 a K [] [] PtX 0 ∧ PtH h1 ((n, 0, -1) :: st)) := by
  obtain ⟨p1, p2, p3⟩ := p
  have l9 : (st.length : Int) < 120 := by omega
  refine cv_of cdX3_enter ?_
  show EV _ _ 0 [rv 19, iv (n : Int)] [] h _
  have v0 := g.1.v19_0
  have v1 := g.1.v19_1
  have v2 := g.1.v19_2
  refine ev_aload_n dX3_enter_0 rfl ?_
  refine ev_getrv dX3_enter_1 fX3_9 g.1.k19 g.1.n19 rfl v0 ?_
  refine ev_aload_n dX3_enter_4 rfl ?_
  refine ev_getiv dX3_enter_5 fX3_21 g.1.k19 g.1.n19 rfl p1 ?_
  refine ev_iload_n dX3_enter_8 rfl ?_
  refine ev_csv dX3_enter_9 lX3_25 (s_putI g.1.k20 g.1.n20 (by omega)) (by decide) rfl rfl (Nat.le_of_ble_eq_true rfl) rfl (fun h1 q => ?_)
  rw [if_pos (by omega), show ((st.length : Nat) : Int).toNat = st.length from rfl] at q
  have c1 : YX h a K h1 a K [] [] PtX 0 := by rw [q]; exact (g.pp ⟨by decide, cis_c (by decide)⟩).wk (by decide) (by decide) (fun y z => Or.inr (Or.inl z)) (Nat.le_refl _)
  have g1 := c1.1
  have f1 : h1.vl 19 = h.vl 19 := by rw [q]; exact put_ne _ (by decide)
  have w1 : h1.vl 19 1 = 21 := g1.1.v19_1
  have w2 : h1.vl 19 2 = 22 := g1.1.v19_2
  have w3 : h1.vl 19 3 = (st.length : Int) := by rw [f1]; exact p1
  refine ev_aload_n dX3_enter_12 rfl ?_
  refine ev_getrv dX3_enter_13 fX3_15 g1.1.k19 g1.1.n19 rfl w1 ?_
  refine ev_aload_n dX3_enter_16 rfl ?_
  refine ev_getiv dX3_enter_17 fX3_21 g1.1.k19 g1.1.n19 rfl w3 ?_
  refine ev_iconst dX3_enter_20 ?_
  refine ev_csv dX3_enter_21 lX3_25 (s_putI g1.1.k21 g1.1.n21 (by omega)) (by decide) rfl rfl (Nat.le_of_ble_eq_true rfl) rfl (fun h2 q2 => ?_)
  rw [if_pos (by omega), show ((st.length : Nat) : Int).toNat = st.length from rfl] at q2
  have c2 : YX h1 a K h2 a K [] [] PtX 0 := by rw [q2]; exact (g1.pp ⟨by decide, cis_c (by decide)⟩).wk (by decide) (by decide) (fun y z => Or.inr (Or.inr (Or.inl z))) (Nat.le_refl _)
  have g2 := c2.1
  have f2 : h2.vl 19 = h1.vl 19 := by rw [q2]; exact put_ne _ (by decide)
  have x2 : h2.vl 19 2 = 22 := g2.1.v19_2
  have x3 : h2.vl 19 3 = (st.length : Int) := by rw [f2]; exact w3
  refine ev_aload_n dX3_enter_24 rfl ?_
  refine ev_getrv dX3_enter_25 fX3_18 g2.1.k19 g2.1.n19 rfl x2 ?_
  refine ev_aload_n dX3_enter_28 rfl ?_
  refine ev_getiv dX3_enter_29 fX3_21 g2.1.k19 g2.1.n19 rfl x3 ?_
  refine ev_iconst dX3_enter_32 ?_
  refine ev_csv dX3_enter_33 lX3_25 (s_putI g2.1.k22 g2.1.n22 (by omega)) (by decide) rfl rfl (Nat.le_of_ble_eq_true rfl) rfl (fun h3 q3 => ?_)
  rw [if_pos (by omega), show ((st.length : Nat) : Int).toNat = st.length from rfl] at q3
  have c3 : YX h2 a K h3 a K [] [] PtX 0 := by rw [q3]; exact (g2.pp ⟨by decide, cis_c (by decide)⟩).wk (by decide) (by decide) (fun y z => Or.inr (Or.inr (Or.inr z))) (Nat.le_refl _)
  have g3 := c3.1
  have f3 : h3.vl 19 = h2.vl 19 := by rw [q3]; exact put_ne _ (by decide)
  have y3 : h3.vl 19 3 = (st.length : Int) := by rw [f3]; exact x3
  refine ev_aload_n dX3_enter_36 rfl ?_
  refine ev_dup dX3_enter_37 ?_
  refine ev_getiv dX3_enter_38 fX3_21 g3.1.k19 g3.1.n19 rfl y3 ?_
  refine ev_iconst dX3_enter_41 ?_
  refine ev_iadd dX3_enter_42 (by unfold ir; omega) ?_
  refine ev_pt dX3_enter_43 fX3_21 g3.1.k19 g3.1.n19 rfl ?_
  have c4 : YX h3 a K (h3.put 19 3 ((st.length : Int) + 1)) a K [] [] PtX 0 := (g3.pp ⟨by decide, by decide⟩).wk (by decide) (by decide) (fun y z => Or.inl z) (Nat.le_refl _)
  refine ev_vret dX3_enter_46 (⟨rfl, ((c1.tr c2).tr c3).tr c4, ?_, ⟨⟨?_, ?_, ?_⟩, PtS.lo (fun i hi => ?_) p2⟩, by rw [List.length_cons]; omega⟩)
  all_goals have e20 : (h3.put 19 3 ((st.length : Int) + 1)).vl 20 = (h.put 20 st.length (n : Int)).vl 20 := by rw [put_ne _ (by decide), q3, put_ne _ (by decide), q2, put_ne _ (by decide), q]
  all_goals have e21 : (h3.put 19 3 ((st.length : Int) + 1)).vl 21 = (h1.put 21 st.length 0).vl 21 := by rw [put_ne _ (by decide), q3, put_ne _ (by decide), q2]
  all_goals have e22 : (h3.put 19 3 ((st.length : Int) + 1)).vl 22 = (h2.put 22 st.length (-1)).vl 22 := by rw [put_ne _ (by decide), q3]
  · rw [AH.put_vl, if_pos ⟨rfl, rfl⟩, List.length_cons]; rfl
  · rw [e20, AH.put_vl, if_pos ⟨rfl, rfl⟩]
  · rw [e21, AH.put_vl, if_pos ⟨rfl, rfl⟩]
  · rw [e22, AH.put_vl, if_pos ⟨rfl, rfl⟩]
  · have f21 : h1.vl 21 = h.vl 21 := by rw [q]; exact put_ne _ (by decide)
    have f22 : h2.vl 22 = h.vl 22 := by rw [q2, put_ne _ (by decide), q]; exact put_ne _ (by decide)
    rw [e20, e21, e22, AH.put_vl, AH.put_vl, AH.put_vl, if_neg (by omega), if_neg (by omega), if_neg (by omega), f21, f22]
    exact ⟨rfl, rfl, rfl⟩
set_option maxRecDepth 100000 in
theorem s_node (g : YA h a K) (p : PtH h ((n, s, x) :: st)) : CV mX3_node 2 [rv 19] h (oi fun r h1 => r = (n : Int) ∧ h1 = h) := by
  obtain ⟨p1, ⟨⟨p2, p3, p4⟩, p5⟩, p6⟩ := p
  rw [List.length_cons] at p6
  have p1 : h.vl 19 3 = (st.length : Int) + 1 := p1
  refine cv_of cdX3_node ?_
  show EV _ _ 0 [rv 19] [] h _
  have v0 := g.1.v19_0
  refine ev_aload_n dX3_node_0 rfl ?_
  refine ev_getrv dX3_node_1 fX3_9 g.1.k19 g.1.n19 rfl v0 ?_
  refine ev_aload_n dX3_node_4 rfl ?_
  refine ev_getiv dX3_node_5 fX3_21 g.1.k19 g.1.n19 rfl p1 ?_
  refine ev_iconst dX3_node_8 ?_
  refine ev_isub dX3_node_9 (by unfold ir; omega) ?_
  rw [show (st.length : Int) + 1 - 1 = (st.length : Int) by omega]
  refine ev_csi dX3_node_10 lX3_29 (s_atI g.1.k20 g.1.n20 (by omega)) (by decide) rfl rfl (Nat.le_of_ble_eq_true rfl) rfl (fun q z q9 => ?_)
  obtain ⟨rfl, eq⟩ := q9
  rw [eq, if_pos (by omega), show ((st.length : Nat) : Int).toNat = st.length from rfl, p2]
  exact ev_iret dX3_node_13 (⟨_, rfl, rfl, rfl⟩)
set_option maxRecDepth 100000 in
theorem s_holding (g : YA h a K) (p : PtH h ((n, s, x) :: st)) : CV mX3_holding 2 [rv 19] h (oi fun r h1 => r = x ∧ h1 = h) := by
  obtain ⟨p1, ⟨⟨p2, p3, p4⟩, p5⟩, p6⟩ := p
  rw [List.length_cons] at p6
  have p1 : h.vl 19 3 = (st.length : Int) + 1 := p1
  refine cv_of cdX3_holding ?_
  show EV _ _ 0 [rv 19] [] h _
  have v0 := g.1.v19_2
  refine ev_aload_n dX3_holding_0 rfl ?_
  refine ev_getrv dX3_holding_1 fX3_18 g.1.k19 g.1.n19 rfl v0 ?_
  refine ev_aload_n dX3_holding_4 rfl ?_
  refine ev_getiv dX3_holding_5 fX3_21 g.1.k19 g.1.n19 rfl p1 ?_
  refine ev_iconst dX3_holding_8 ?_
  refine ev_isub dX3_holding_9 (by unfold ir; omega) ?_
  rw [show (st.length : Int) + 1 - 1 = (st.length : Int) by omega]
  refine ev_csi dX3_holding_10 lX3_29 (s_atI g.1.k22 g.1.n22 (by omega)) (by decide) rfl rfl (Nat.le_of_ble_eq_true rfl) rfl (fun q z q9 => ?_)
  obtain ⟨q1, eq⟩ := q9
  rw [q1, eq, if_pos (by omega), show ((st.length : Nat) : Int).toNat = st.length from rfl, p4]
  exact ev_iret dX3_holding_13 (⟨_, rfl, rfl, rfl⟩)
set_option maxRecDepth 100000 in
theorem s_leave (g : YA h a K) (p : PtH h ((n, s, x) :: st)) : CV mX3_leave 2 [rv 19] h (on fun h1 => YX h a K h1 a K [] [] PtX 0 ∧ PtH h1 st) := by
  obtain ⟨p1, ⟨⟨p2, p3, p4⟩, p5⟩, p6⟩ := p
  rw [List.length_cons] at p6
  have p1 : h.vl 19 3 = (st.length : Int) + 1 := p1
  refine cv_of cdX3_leave ?_
  show EV _ _ 0 [rv 19] [] h _
  refine ev_aload_n dX3_leave_0 rfl ?_
  refine ev_dup dX3_leave_1 ?_
  refine ev_getiv dX3_leave_2 fX3_21 g.1.k19 g.1.n19 rfl p1 ?_
  refine ev_iconst dX3_leave_5 ?_
  refine ev_isub dX3_leave_6 (by unfold ir; omega) ?_
  refine ev_pt dX3_leave_7 fX3_21 g.1.k19 g.1.n19 rfl ?_
  rw [show (st.length : Int) + 1 - 1 = (st.length : Int) by omega]
  have c4 : YX h a K (h.put 19 3 (st.length : Int)) a K [] [] PtX 0 := (g.pp ⟨by decide, by decide⟩).wk (by decide) (by decide) (fun y z => Or.inl z) (Nat.le_refl _)
  exact ev_vret dX3_leave_10 (⟨rfl, c4, by rw [AH.put_vl, if_pos ⟨rfl, rfl⟩], PtS.lo (fun i hi => ⟨by rw [put_ne _ (by decide)], by rw [put_ne _ (by decide)], by rw [put_ne _ (by decide)]⟩) p5, by omega⟩)
set_option maxRecDepth 100000 in
theorem s_hold {y : Int} (g : YA h a K) (p : PtH h ((n, s, x) :: st)) : CV mX3_hold 2 [rv 19, iv y] h (on fun h1 => YX h a K h1 a K [] [] PtX 0 ∧ PtH h1 ((n, s, y) :: st)) := by
  obtain ⟨p1, ⟨⟨p2, p3, p4⟩, p5⟩, p6⟩ := p
  rw [List.length_cons] at p6
  have p1' : h.vl 19 3 = (st.length : Int) + 1 := p1
  refine cv_of cdX3_hold ?_
  show EV _ _ 0 [rv 19, iv y] [] h _
  have v0 := g.1.v19_2
  refine ev_aload_n dX3_hold_0 rfl ?_
  refine ev_getrv dX3_hold_1 fX3_18 g.1.k19 g.1.n19 rfl v0 ?_
  refine ev_aload_n dX3_hold_4 rfl ?_
  refine ev_getiv dX3_hold_5 fX3_21 g.1.k19 g.1.n19 rfl p1' ?_
  refine ev_iconst dX3_hold_8 ?_
  refine ev_isub dX3_hold_9 (by unfold ir; omega) ?_
  refine ev_iload_n dX3_hold_10 rfl ?_
  rw [show (st.length : Int) + 1 - 1 = (st.length : Int) by omega]
  refine ev_csv dX3_hold_11 lX3_25 (s_putI g.1.k22 g.1.n22 (by omega)) (by decide) rfl rfl (Nat.le_of_ble_eq_true rfl) rfl (fun h1 q => ?_)
  rw [if_pos (by omega), show ((st.length : Nat) : Int).toNat = st.length from rfl] at q
  have c1 : YX h a K h1 a K [] [] PtX 0 := by rw [q]; exact (g.pp ⟨by decide, cis_c (by decide)⟩).wk (by decide) (by decide) (fun y z => Or.inr (Or.inr (Or.inr z))) (Nat.le_refl _)
  refine ev_vret dX3_hold_14 (⟨rfl, c1, by rw [q, put_ne _ (by decide)]; exact p1, ⟨⟨by rw [q, put_ne _ (by decide)]; exact p2, by rw [q, put_ne _ (by decide)]; exact p3, by rw [q, AH.put_vl, if_pos ⟨rfl, rfl⟩]⟩, PtS.lo (fun i hi => ?_) p5⟩, by rw [List.length_cons]; omega⟩)
  rw [q, put_ne _ (by decide), put_ne _ (by decide), AH.put_vl, if_neg (by omega)]
  exact ⟨rfl, rfl, rfl⟩
set_option maxRecDepth 100000 in
theorem s_takeStage (g : YA h a K) (p : PtH h ((n, s, x) :: st)) (hs : 0 ≤ s ∧ s ≤ 1000) : CV mX3_takeStage 2 [rv 19] h (oi fun r h1 => r = s ∧ YX h a K h1 a K [] [] PtX 0 ∧ PtH h1 ((n, s + 1, x) :: st)) := by
  obtain ⟨p1, ⟨⟨p2, p3, p4⟩, p5⟩, p6⟩ := p
  rw [List.length_cons] at p6
  have p3 : h.vl 21 st.length = s := p3
  have p1' : h.vl 19 3 = (st.length : Int) + 1 := p1
  refine cv_of cdX3_takeStage ?_
  show EV _ _ 0 [rv 19, uv] [] h _
  have v0 := g.1.v19_1
  refine ev_aload_n dX3_takeStage_0 rfl ?_
  refine ev_getrv dX3_takeStage_1 fX3_15 g.1.k19 g.1.n19 rfl v0 ?_
  refine ev_aload_n dX3_takeStage_4 rfl ?_
  refine ev_getiv dX3_takeStage_5 fX3_21 g.1.k19 g.1.n19 rfl p1' ?_
  refine ev_iconst dX3_takeStage_8 ?_
  refine ev_isub dX3_takeStage_9 (by unfold ir; omega) ?_
  rw [show (st.length : Int) + 1 - 1 = (st.length : Int) by omega]
  refine ev_csi dX3_takeStage_10 lX3_29 (s_atI g.1.k21 g.1.n21 (by omega)) (by decide) rfl rfl (Nat.le_of_ble_eq_true rfl) rfl (fun q z q9 => ?_)
  obtain ⟨q1, eq⟩ := q9
  rw [q1, eq, if_pos (by omega), show ((st.length : Nat) : Int).toNat = st.length from rfl, p3]
  refine ev_ist1 dX3_takeStage_13 ?_
  refine ev_aload_n dX3_takeStage_14 rfl ?_
  refine ev_getrv dX3_takeStage_15 fX3_15 g.1.k19 g.1.n19 rfl v0 ?_
  refine ev_aload_n dX3_takeStage_18 rfl ?_
  refine ev_getiv dX3_takeStage_19 fX3_21 g.1.k19 g.1.n19 rfl p1' ?_
  refine ev_iconst dX3_takeStage_22 ?_
  refine ev_isub dX3_takeStage_23 (by unfold ir; omega) ?_
  refine ev_iload_n dX3_takeStage_24 rfl ?_
  refine ev_iconst dX3_takeStage_25 ?_
  refine ev_iadd dX3_takeStage_26 (by unfold ir; omega) ?_
  rw [show (st.length : Int) + 1 - 1 = (st.length : Int) by omega]
  refine ev_csv dX3_takeStage_27 lX3_25 (s_putI g.1.k21 g.1.n21 (by omega)) (by decide) rfl rfl (Nat.le_of_ble_eq_true rfl) rfl (fun h1 q => ?_)
  rw [if_pos (by omega), show ((st.length : Nat) : Int).toNat = st.length from rfl] at q
  have c1 : YX h a K h1 a K [] [] PtX 0 := by rw [q]; exact (g.pp ⟨by decide, cis_c (by decide)⟩).wk (by decide) (by decide) (fun y z => Or.inr (Or.inr (Or.inl z))) (Nat.le_refl _)
  refine ev_iload_n dX3_takeStage_30 rfl ?_
  refine ev_iret dX3_takeStage_31 (⟨_, rfl, rfl, c1, by rw [q, put_ne _ (by decide)]; exact p1, ⟨⟨by rw [q, put_ne _ (by decide)]; exact p2, by rw [q, AH.put_vl, if_pos ⟨rfl, rfl⟩], by rw [q, put_ne _ (by decide)]; exact p4⟩, PtS.lo (fun i hi => ?_) p5⟩, by rw [List.length_cons]; omega⟩)
  rw [q, put_ne _ (by decide), AH.put_vl, if_neg (by omega), put_ne _ (by decide)]
  exact ⟨rfl, rfl, rfl⟩
end Pth
