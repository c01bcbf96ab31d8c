/-! what stays when types and other cells change; a sign more in a shape -/
def YX (h : AH) (a K : Nat → Nat) (h1 : AH) (a1 K1 : Nat → Nat) (D F : List Nat) (X : Nat → Prop) (e : Nat) : Prop := YA h1 a1 K1 ∧ (h.n ≤ h1.n ∧ (∀ c, c < h.n → h1.kd c = h.kd c) ∧ (∀ c, c < h.n → c ≠ 9 → (∀ k, k ∈ tks → a k ≠ c) → (∀ k, k ∈ tks → a1 k ≠ c) ∧ (¬ X c → h1.vl c = h.vl c)) ∧ (64 * h1.cs + capK K ≤ 64 * h.cs + capK K1 + 128 * e ∧ h1.ss + 2 * capK K ≤ h.ss + 2 * capK K1 + 300 * e ∧ capK K ≤ capK K1)) ∧ YE h a h1 a1 D F
theorem YC.x {h h1 : AH} {a K a1 K1 : Nat → Nat} {D F : List Nat} {X : Nat → Prop} (c : YC h a K h1 a1 K1 D F) : YX h a K h1 a1 K1 D F X 0 :=
  ⟨c.1, ⟨c.2.1.1, c.2.1.2.1, fun x hx h9 hk => ⟨(c.2.1.2.2.1 x hx h9 hk).2, fun _ => (c.2.1.2.2.1 x hx h9 hk).1⟩, c.2.1.2.2.2⟩, c.2.2⟩
theorem YX.tr {h h1 h2 : AH} {a K a1 K1 a2 K2 : Nat → Nat} {D F : List Nat} {X : Nat → Prop} {e1 e2 : Nat} (p : YX h a K h1 a1 K1 D F X e1) (q : YX h1 a1 K1 h2 a2 K2 D F X e2) : YX h a K h2 a2 K2 D F X (e1 + e2) := by
  obtain ⟨p1, ⟨p2, p3, p4, p5, p6, p7⟩, p8, p9⟩ := p
  obtain ⟨q1, ⟨q2, q3, q4, q5, q6, q7⟩, q8, q9⟩ := q
  refine ⟨q1, ⟨by omega, fun c hc => (q3 c (by omega)).trans (p3 c hc), fun c hc h9 hk => ?_, by omega, by omega, by omega⟩, fun k hk hD => ?_, fun j hj hF => (q9 j hj hF).trans (p9 j hj hF)⟩
  · obtain ⟨e1, e2⟩ := p4 c hc h9 hk
    obtain ⟨e3, e4⟩ := q4 c (by omega) h9 e1
    exact ⟨e3, fun z => (e4 z).trans (e2 z)⟩
  · obtain ⟨e1, e2⟩ := p8 k hk hD
    obtain ⟨e3, e4⟩ := q8 k hk hD
    rw [e1] at e3 e4
    exact ⟨e3, e4.trans e2⟩
theorem YX.wk {h h1 : AH} {a K a1 K1 : Nat → Nat} {D F D' F' : List Nat} {X X' : Nat → Prop} {e e' : Nat} (p : YX h a K h1 a1 K1 D F X e) (hD : ∀ x ∈ D, x ∈ D') (hF : ∀ x ∈ F, x ∈ F') (hX : ∀ x, X x → X' x) (he : e ≤ e') : YX h a K h1 a1 K1 D' F' X' e' :=
  ⟨p.1, ⟨p.2.1.1, p.2.1.2.1, fun c hc h9 hk => ⟨(p.2.1.2.2.1 c hc h9 hk).1, fun z => (p.2.1.2.2.1 c hc h9 hk).2 (fun y => z (hX c y))⟩, by have := p.2.1.2.2.2.1; omega, by have := p.2.1.2.2.2.2.1; omega, p.2.1.2.2.2.2.2⟩, fun k hk hn => p.2.2.1 k hk (fun z => hn (hD k z)), fun j hj hn => p.2.2.2 j hj (fun z => hn (hF j z))⟩
theorem YX.rf {h : AH} {a K : Nat → Nat} {D F : List Nat} {X : Nat → Prop} (g : YA h a K) : YX h a K h a K D F X 0 := (YC.rf g).x
theorem YX.fl {h h1 : AH} {a K a1 K1 : Nat → Nat} {D F : List Nat} {X : Nat → Prop} {e : Nat} (p : YX h a K h1 a1 K1 D F X e) (j : Nat) (hj : j ∉ tks := by decide) (hF : j ∉ F := by decide) : h1.vl 9 j = h.vl 9 j := p.2.2.2 j hj hF
theorem YX.rw' {h h1 : AH} {a K a1 K1 : Nat → Nat} {D F : List Nat} {X : Nat → Prop} {e : Nat} (p : YX h a K h1 a1 K1 D F X e) (k : Nat) (hk : k ∈ tks := by decide) (hD : k ∉ D := by decide) : a1 k = a k ∧ h1.vl (a k) = h.vl (a k) := p.2.2.1 k hk hD
/-- a cell that is none of the types' -/
def YNo (h : AH) (a : Nat → Nat) (c : Nat) : Prop := c < h.n ∧ c ≠ 9 ∧ ∀ k, k ∈ tks → a k ≠ c
theorem YNo.x {h h1 : AH} {a K a1 K1 : Nat → Nat} {D F : List Nat} {X : Nat → Prop} {e c : Nat} (n : YNo h a c) (p : YX h a K h1 a1 K1 D F X e) : YNo h1 a1 c := ⟨Nat.lt_of_lt_of_le n.1 p.2.1.1, n.2.1, (p.2.1.2.2.1 c n.1 n.2.1 n.2.2).1⟩
theorem YX.v {h h1 : AH} {a K a1 K1 : Nat → Nat} {D F : List Nat} {X : Nat → Prop} {e c : Nat} (p : YX h a K h1 a1 K1 D F X e) (n : YNo h a c) (hX : ¬ X c) : h1.vl c = h.vl c := (p.2.1.2.2.1 c n.1 n.2.1 n.2.2).2 hX
theorem YX.k {h h1 : AH} {a K a1 K1 : Nat → Nat} {D F : List Nat} {X : Nat → Prop} {e c : Nat} (p : YX h a K h1 a1 K1 D F X e) (n : YNo h a c) : h1.kd c = h.kd c := p.2.1.2.1 c n.1
/-- a cell elsewhere is written -/
theorem YA.px {h : AH} {a K : Nat → Nat} (g : YA h a K) {c i : Nat} {x : Int} (n : YNo h a c) (hci : (c, i) ∉ CIs) : YX h a K (h.put c i x) a K [] [] (fun y => y = c) 0 := by
  obtain ⟨g1, g2, g3⟩ := g
  have ne : ∀ y, y ≠ c → (h.put c i x).vl y = h.vl y := fun y hy => put_ne _ hy
  have e9 := ne 9 (fun z => n.2.1 z.symm)
  refine ⟨⟨g1.gen (Nat.le_refl _) (fun _ _ => rfl) (fun d j hm => ?_), fun k hk => ?_, g3⟩, ⟨Nat.le_refl _, fun _ _ => rfl, fun y hy h9 hk => ⟨hk, fun z => ne y z⟩, Nat.le_refl _, Nat.le_refl _, Nat.le_refl _⟩, fun k hk _ => ⟨rfl, ne _ (n.2.2 k hk)⟩, fun j _ _ => by rw [e9]⟩
  · rw [AH.put_vl, if_neg]
    rintro ⟨e1, e2⟩
    rw [e1, e2] at hm
    exact hci hm
  · rw [e9]
    exact g2 k hk
theorem YB.x {h h1 : AH} {a K a1 K1 : Nat → Nat} {D F : List Nat} {X : Nat → Prop} {N e : Nat} (s : YB h K N) (c : YX h a K h1 a1 K1 D F X e) (eK : ∀ k, k < 4 → K1 k = K k) (hF : 4 ∉ F := by decide) : YB h1 K1 N := by
  have e0 := eK 0 (by decide)
  have e1 := eK 1 (by decide)
  have e2 := eK 2 (by decide)
  have e3 := eK 3 (by decide)
  have s2 := s.2
  exact ⟨(c.2.2.2 4 (by decide) hF).trans s.1, by omega, by omega⟩
theorem YW.x {h h1 : AH} {a K a1 K1 : Nat → Nat} {D F : List Nat} {X : Nat → Prop} {N e : Nat} {rr : Nat → Nat} {tr : Nat → TE} (w : YW h a N rr tr) (c : YX h a K h1 a1 K1 D F X e) (hD : 0 ∉ D ∧ 1 ∉ D ∧ 2 ∉ D := by decide) : YW h1 a1 N rr tr := by
  obtain ⟨e1, e2⟩ := c.2.2.1 0 (by decide) hD.1
  obtain ⟨e3, e4⟩ := c.2.2.1 1 (by decide) hD.2.1
  obtain ⟨e5, e6⟩ := c.2.2.1 2 (by decide) hD.2.2
  unfold YW
  rw [e1, e3, e5, e2, e4, e6]
  exact w
theorem YTr.x {h h1 : AH} {a K a1 K1 : Nat → Nat} {D F : List Nat} {X : Nat → Prop} {e : Nat} {st : List Nat} (s : YTr h a K st) (c : YX h a K h1 a1 K1 D F X e) (eK : K1 10 = K 10) (hD : 10 ∉ D := by decide) (hF : 11 ∉ F := by decide) : YTr h1 a1 K1 st := by
  obtain ⟨e1, e2⟩ := c.2.2.1 10 (by decide) hD
  exact ⟨(c.2.2.2 11 (by decide) hF).trans s.1, by rw [e1, e2]; exact s.2.1, by rw [eK]; exact s.2.2⟩
theorem YMk.x {h h1 : AH} {a K a1 K1 : Nat → Nat} {D F : List Nat} {X : Nat → Prop} {N e : Nat} (s : YMk h a N) (c : YX h a K h1 a1 K1 D F X e) (hD : 3 ∉ D := by decide) (hF : 5 ∉ F := by decide) : YMk h1 a1 N := by
  obtain ⟨e1, e2⟩ := c.2.2.1 3 (by decide) hD
  have e3 := c.2.2.2 5 (by decide) hF
  unfold YMk
  rw [e1, e2, e3]
  exact s
/-- a shape on its way: its cells are none of the types' -/
def ShW (h : AH) (a : Nat → Nat) (s b R : Nat) (r : List Int) : Prop := ShI h s b R r.length ∧ (YNo h a s ∧ YNo h a b ∧ s ≠ b) ∧ ((s, 1) ∉ CIs ∧ ∀ i, (b, i) ∉ CIs) ∧ ∀ i (hi : i < r.length), h.vl b i = r[i]
theorem ShW.x {h h1 : AH} {a K a1 K1 : Nat → Nat} {D F : List Nat} {X : Nat → Prop} {e s b R : Nat} {r : List Int} (w : ShW h a s b R r) (c : YX h a K h1 a1 K1 D F X e) (hX : ¬ X s ∧ ¬ X b) : ShW h1 a1 s b R r := by
  obtain ⟨⟨⟨g1, g2⟩, ⟨g3, g4, g5⟩, g6, g7, g8⟩, ⟨n1, n2, n3⟩, n4, n5⟩ := w
  have v1 := c.v n1 hX.1
  have v2 := c.v n2 hX.2
  have k1 := c.k n1
  have k2 := c.k n2
  exact ⟨⟨⟨by rw [k1]; exact g1, (n1.x c).1⟩, ⟨by rw [v1]; exact g3, by rw [k2]; exact g4, (n2.x c).1⟩, by rw [v1]; exact g6, g7, g8⟩, ⟨n1.x c, n2.x c, n3⟩, n4, by rw [v2]; exact n5⟩
set_option maxRecDepth 100000 in
theorem s_shAdd {h : AH} {a K : Nat → Nat} {s b R : Nat} {r : List Int} {x : Int} (g : YA h a K) (w : ShW h a s b R r) (hl : r.length < R) : CV mX5_add 2 [rv s, iv x] h (on fun h1 => YX h a K h1 a K [] [] (fun y => y = s ∨ y = b) 0 ∧ ShW h1 a s b R (r ++ [x])) := by
  obtain ⟨⟨⟨g1, g2⟩, ⟨g3, g4, g5⟩, g6, g7, g8⟩, ⟨n1, n2, n3⟩, ⟨n4, n4'⟩, n5⟩ := id w
  refine cv_of cdX5_add ?_
  show EV _ _ 0 [rv s, iv x] [] h _
  refine ev_aload_n dX5_add_0 rfl ?_
  refine ev_getiv dX5_add_1 fX5_15 g1 g2 rfl g6 ?_
  refine ev_aload_n dX5_add_4 rfl ?_
  refine ev_getrv dX5_add_5 fX5_9 g1 g2 rfl g3 ?_
  refine ev_al dX5_add_8 g4 g5 rfl (by decide) (by omega) ?_
  refine ev_icmpge 34 dX5_add_9 (fun h_no => (by exfalso; omega)) (fun hb => ?_)
  refine ev_aload_n dX5_add_12 rfl ?_
  refine ev_getrv dX5_add_13 fX5_9 g1 g2 rfl g3 ?_
  refine ev_aload_n dX5_add_16 rfl ?_
  refine ev_getiv dX5_add_17 fX5_15 g1 g2 rfl g6 ?_
  refine ev_iload_n dX5_add_20 rfl ?_
  refine ev_csv dX5_add_21 lX5_19 (s_putI g4 g5 g8) (by decide) rfl rfl (Nat.le_of_ble_eq_true rfl) rfl (fun h1 q => ?_)
  rw [if_pos (by omega), show ((r.length : Nat) : Int).toNat = r.length from rfl] at q
  have c1 : YX h a K h1 a K [] [] (fun y => y = b) 0 := by rw [q]; exact g.px n2 (n4' _)
  have e1 : h1.vl s = h.vl s := c1.v n1 n3
  have k1 : h1.kd s = (5, 2) := by rw [c1.k n1]; exact g1
  have m1 := n1.x c1
  have u6 : h1.vl s 1 = (r.length : Int) := by rw [e1]; exact g6
  refine ev_aload_n dX5_add_24 rfl ?_
  refine ev_dup dX5_add_25 ?_
  refine ev_getiv dX5_add_26 fX5_15 k1 m1.1 rfl u6 ?_
  refine ev_iconst dX5_add_29 ?_
  refine ev_iadd dX5_add_30 (by unfold ir; omega) ?_
  refine ev_pt dX5_add_31 fX5_15 k1 m1.1 rfl ?_
  have m2 : YNo h1 a b := n2.x c1
  have c2 : YX h1 a K (h1.put s 1 ((r.length : Int) + 1)) a K [] [] (fun y => y = s) 0 := c1.1.px m1 n4
  have e2 : (h1.put s 1 ((r.length : Int) + 1)).vl b = h1.vl b := put_ne _ (fun z => n3 z.symm)
  refine ev_vret dX5_add_34 (⟨rfl, (c1.wk (fun _ z => z) (fun _ z => z) (fun y z => Or.inr z) (Nat.le_refl _)).tr (c2.wk (fun _ z => z) (fun _ z => z) (fun y z => Or.inl z) (Nat.le_refl _)), ⟨⟨⟨k1, m1.1⟩, ⟨?_, by show h1.kd b = _; rw [c1.k n2]; exact g4, m2.1⟩, ?_, by rw [List.length_append]; show r.length + 1 ≤ R; omega, g8⟩, ⟨m1, m2, n3⟩, ⟨n4, n4'⟩, fun i hi => ?_⟩⟩)
  · rw [AH.put_vl, if_neg (fun z => absurd z.2 (by decide)), e1]; exact g3
  · rw [AH.put_vl, if_pos ⟨rfl, rfl⟩, List.length_append]; rfl
  · rw [e2, q, AH.put_vl]
    rw [List.length_append] at hi
    have hi : i < r.length + 1 := hi
    by_cases z : i = r.length
    · subst z
      rw [if_pos ⟨rfl, rfl⟩, List.getElem_append_right (Nat.le_refl _)]
      simp
    · rw [if_neg (fun y => z y.2), List.getElem_append_left (by omega)]
      exact n5 i (by omega)
