/-! what stands in the class between two calls -/
/-- now v, before bv, saved sv, c changes and their past, why it was refused, the two texts -/
def JC (h : AH) (a K : Nat → Nat) (v bv : Nat → Int) (isS : Int) (sv : Nat → Int) (c : Nat) (pv : Nat → Nat → Int) (w d cw cd : Int) (X1 X3 : List Int) (b1 N1 b3 N3 : Nat) : Prop := (YA h a K ∧ KEq K ∧ FSc h a) ∧ (SvR h a 31 v ∧ SvR h a 34 bv ∧ h.vl 0 10 = isS ∧ (isS = 0 ∨ isS = 1) ∧ (isS = 1 → SvR h a 37 sv)) ∧ RgI h a c pv ∧ RfI h w d cw cd ∧ (TbI h 1 b1 N1 X1 ∧ (b1 = 2 ∨ 94 ≤ b1) ∧ X1.length ≤ 60) ∧ (TbI h 3 b3 N3 X3 ∧ (b3 = 4 ∨ 94 ≤ b3)) ∧ b1 ≠ b3
/-- what a call of the class leaves of the rest, and what it costs -/
def FrJ (h : AH) (K : Nat → Nat) (N1 N3 : Nat) (h1 : AH) (K1 : Nat → Nat) (M1 M3 dc ds : Nat) : Prop := h.n ≤ h1.n ∧ (∀ c, c < h.n → h1.kd c = h.kd c) ∧ (∀ c, 42 ≤ c → c ≤ 93 → h1.vl c = h.vl c) ∧ 64 * h1.cs + capK K + 128 * snn h + 4 * N1 + 4 * N3 ≤ 64 * h.cs + capK K1 + 128 * snn h1 + 4 * M1 + 4 * M3 + 64 * dc ∧ h1.ss + 2 * capK K + 300 * snn h + 2 * N1 + 2 * N3 ≤ h.ss + 2 * capK K1 + 300 * snn h1 + 2 * M1 + 2 * M3 + ds ∧ h1.vl 0 11 = h.vl 0 11
section Jcs
variable {h h1 h2 : AH} {a K a1 K1 K2 : Nat → Nat} {v bv sv : Nat → Int} {isS : Int} {c : Nat} {pv : Nat → Nat → Int} {w d cw cd : Int} {X1 X3 : List Int} {b1 N1 b3 N3 M1 M3 O1 O3 dc ds dc' ds' : Nat}
theorem FrJ.rf : FrJ h K N1 N3 h K N1 N3 0 0 := ⟨Nat.le_refl _, fun _ _ => rfl, fun _ _ _ => rfl, Nat.le_refl _, Nat.le_refl _, rfl⟩
theorem FrJ.tr (p : FrJ h K N1 N3 h1 K1 M1 M3 dc ds) (q : FrJ h1 K1 M1 M3 h2 K2 O1 O3 dc' ds') : FrJ h K N1 N3 h2 K2 O1 O3 (dc + dc') (ds + ds') := by
  obtain ⟨p1, p2, p3, p4, p5, p6⟩ := p
  obtain ⟨q1, q2, q3, q4, q5, q6⟩ := q
  exact ⟨Nat.le_trans p1 q1, fun x hx => (q2 x (Nat.lt_of_lt_of_le hx p1)).trans (p2 x hx), fun x h1 h2 => (q3 x h1 h2).trans (p3 x h1 h2), by omega, by omega, q6.trans p6⟩
theorem FrJ.wk (p : FrJ h K N1 N3 h1 K1 M1 M3 dc ds) (h1' : dc ≤ dc') (h2' : ds ≤ ds') : FrJ h K N1 N3 h1 K1 M1 M3 dc' ds' := by
  obtain ⟨p1, p2, p3, p4, p5, p6⟩ := p
  exact ⟨p1, p2, p3, by omega, by omega, p6⟩
theorem FrJ.th (p : FrJ h K N1 N3 h1 K1 M1 M3 dc ds) : FrJ h K N1 N3 h1.thr K1 M1 M3 (dc + 1) (ds + 6) := by
  obtain ⟨p1, p2, p3, p4, p5, p6⟩ := p
  refine ⟨p1, p2, p3, ?_, ?_, p6⟩
  · show 64 * (h1.cs + 1) + _ + 128 * snn h + _ + _ ≤ _ + 128 * snn h1 + _ + _ + _
    omega
  · show h1.ss + 6 + _ + 300 * snn h + _ + _ ≤ _ + 300 * snn h1 + _ + _ + _
    omega
theorem QF.fj {Y : Nat → Prop} (q : QF h a K h1 a1 K1 Y) (f : FSc h a) (g : YA h a K) (hY : ∀ c, Y c → QY c) : FrJ h K N1 N3 h1 K1 N1 N3 0 0 := by
  obtain ⟨⟨e, x, x1⟩, -⟩ := id q
  have x2 := x.2.1.2.2.2
  refine ⟨x.2.1.1, x.2.1.2.1, fun c c1 c2 => q.v f g ⟨Or.inr ⟨by omega, by omega⟩, by omega, by omega⟩ (fun z => by have z : 27 ≤ c ∧ c ≤ 30 := hY c z; omega), by omega, by omega, by rw [q.v f g (c := 0) ⟨Or.inl (by decide), by decide, by decide⟩ (fun z => by have z : 27 ≤ 0 ∧ (0 : Nat) ≤ 30 := hY 0 z; omega)]⟩
theorem GC.fj {C : Nat → Nat → Prop} (q : GC h h1 C dc ds) (g : YA h a K) (hC : ∀ c j, C c j → c ≠ 26 ∧ ¬ (42 ≤ c ∧ c ≤ 93) ∧ ¬ (c = 0 ∧ j = 11)) : FrJ h K N1 N3 h1 K N1 N3 dc ds := by
  obtain ⟨⟨q1, q2, q3⟩, q4, q5⟩ := q
  have n94 := g.1.1
  have e26 : snn h1 = snn h := by
    unfold snn
    rw [show h1.vl 26 = h.vl 26 from funext fun j => q3 26 j (by omega) (fun z => (hC 26 j z).1 rfl)]
  refine ⟨q1, q2, fun c c1 c2 => funext fun j => q3 c j (by omega) (fun z => (hC c j z).2.1 ⟨c1, c2⟩), ?_, ?_, q3 0 11 (by omega) (fun z => (hC 0 11 z).2.2 ⟨rfl, rfl⟩)⟩
  · rw [e26]; omega
  · rw [e26]; omega
theorem SbQ.fj3 (q : SbQ h 3 b3 N3 h1 b1 M3) (hb : b3 = 4 ∨ 94 ≤ b3) (h94 : 94 ≤ h.n) : FrJ h K N1 N3 h1 K N1 M3 0 0 := by
  obtain ⟨q1, q2, q3, q4, q5, q6⟩ := q
  have e26 : snn h1 = snn h := by
    unfold snn
    rw [q3 26 (by omega) (by decide) (by omega)]
  refine ⟨q1, q2, fun c c1 c2 => q3 c (by omega) (by omega) (by omega), ?_, ?_, by rw [q3 0 (by omega) (by decide) (by omega)]⟩
  · rw [e26]; omega
  · rw [e26]; omega
theorem SbQ.fj1 (q : SbQ h 1 b3 N1 h1 b1 M1) (hb : b3 = 2 ∨ 94 ≤ b3) (h94 : 94 ≤ h.n) : FrJ h K N1 N3 h1 K M1 N3 0 0 := by
  obtain ⟨q1, q2, q3, q4, q5, q6⟩ := q
  have e26 : snn h1 = snn h := by
    unfold snn
    rw [q3 26 (by omega) (by decide) (by omega)]
  refine ⟨q1, q2, fun c c1 c2 => q3 c (by omega) (by omega) (by omega), ?_, ?_, by rw [q3 0 (by omega) (by decide) (by omega)]⟩
  · rw [e26]; omega
  · rw [e26]; omega
theorem TbI.eq {X : List Int} {c b N : Nat} (t : TbI h c b N X) (hn : h.n ≤ h1.n) (hk : ∀ c, c < h.n → h1.kd c = h.kd c) (e1 : ∀ j, j < 4 → h1.vl c j = h.vl c j) (e2 : h1.vl b = h.vl b) : TbI h1 c b N X := by
  obtain ⟨⟨⟨ka, an⟩, ⟨va, kb, bn⟩, hco, hk2, h0, hN', h9⟩, t2, t3, t4, t5, t6⟩ := t
  exact ⟨⟨⟨(hk c an).trans ka, by omega⟩, ⟨(e1 0 (by decide)).trans va, (hk b bn).trans kb, by omega⟩, (e1 1 (by decide)).trans hco, (e1 3 (by decide)).trans hk2, h0, hN', h9⟩, t2, fun i hi => by rw [e2]; exact t3 i hi, fun j hj => by rw [e2]; exact t4 j hj, t5, t6⟩
/-- a question was asked -/
theorem JC.qf (j : JC h a K v bv isS sv c pv w d cw cd X1 X3 b1 N1 b3 N3) (q : QF h a K h1 a1 K1 QY) : JC h1 a1 K1 v bv isS sv c pv w d cw cd X1 X3 b1 N1 b3 N3 := by
  obtain ⟨⟨g, k, f⟩, ⟨j1, j2, j3, j4, j5⟩, r, rf, ⟨t1, t2, t3⟩, ⟨t4, t5⟩, t6⟩ := j
  have q94 : ∀ c, QY c → c < 94 := fun c z => by have z : 27 ≤ c ∧ c ≤ 30 := z; omega
  have p := q.pr q94
  have sm := q.sm f g q94
  have lo : ∀ x, 31 ≤ x → x < 94 → h1.vl x = h.vl x := fun x h1 h2 => q.v f g ⟨Or.inr ⟨by omega, h2⟩, by omega, by omega⟩ (fun z => by have z : 27 ≤ x ∧ x ≤ 30 := z; omega)
  have l0 : h1.vl 0 = h.vl 0 := q.v f g ⟨Or.inl (by decide), by decide, by decide⟩ (fun z => by have z : 27 ≤ 0 ∧ (0 : Nat) ≤ 30 := z; omega)
  refine ⟨⟨q.g, q.2.2.2, q.2.1⟩, ⟨j1.pr p (lo _ (by decide) (by decide)) (lo _ (by decide) (by decide)) (lo _ (by decide) (by decide)), j2.pr p (lo _ (by decide) (by decide)) (lo _ (by decide) (by decide)) (lo _ (by decide) (by decide)), by rw [l0]; exact j3, j4, fun z => (j5 z).pr p (lo _ (by decide) (by decide)) (lo _ (by decide) (by decide)) (lo _ (by decide) (by decide))⟩, r.pr p sm (fun j => by rw [lo 40 (by decide) (by decide)]) (fun j => by rw [lo 41 (by decide) (by decide)]), rf.pr p sm (by rw [l0]), ⟨t1.q q f g (fun _ z => z) (Or.inl rfl) (t2.imp id Or.inr), t2, t3⟩, ⟨t4.q q f g (fun _ z => z) (Or.inr rfl) (Or.inr t5), t5⟩, t6⟩
/-- cells that tell nothing of a state change -/
def OkJ (c j : Nat) : Prop := (c = 0 ∧ j = 11) ∨ (c = 5 ∧ (j = 1 ∨ j = 3)) ∨ c = 6 ∨ c = 7 ∨ (42 ≤ c ∧ c ≤ 93)
theorem OkJ.okc {c j : Nat} (z : OkJ c j) : OkC h c j := by
  refine ⟨fun m => ?_, Or.inl (by rcases z with z | z | z | z | z <;> omega)⟩
  have : CIs.all (fun q => decide (¬ ((q.1 = 0 ∧ q.2 = 11) ∨ (q.1 = 5 ∧ (q.2 = 1 ∨ q.2 = 3)) ∨ q.1 = 6 ∨ q.1 = 7 ∨ (42 ≤ q.1 ∧ q.1 ≤ 93)))) = true := by decide
  exact of_decide_eq_true (List.all_eq_true.mp this _ m) z
theorem JC.gf {C : Nat → Nat → Prop} (j : JC h a K v bv isS sv c pv w d cw cd X1 X3 b1 N1 b3 N3) (q : GF h h1 C) (hC : ∀ c j, C c j → OkJ c j) : JC h1 a K v bv isS sv c pv w d cw cd X1 X3 b1 N1 b3 N3 := by
  obtain ⟨⟨g, k, f⟩, ⟨j1, j2, j3, j4, j5⟩, r, rf, ⟨t1, t2, t3⟩, ⟨t4, t5⟩, t6⟩ := j
  have ok : ∀ c j, C c j → OkC h c j := fun c j z => (hC c j z).okc
  have n94 := g.1.1
  have p := q.pr ok g f
  have sm : SmS h h1 := q.sm (fun c j z z1 => by rcases hC c j z with z | z | z | z | z <;> omega)
  have ee : ∀ x j, x < h.n → ¬ OkJ x j → h1.vl x j = h.vl x j := fun x j hx hn => q.2.2 x j hx (fun z => hn (hC x j z))
  have lo : ∀ x, 31 ≤ x → x < 42 → h1.vl x = h.vl x := fun x h1 h2 => funext fun j => ee x j (by omega) (fun z => by rcases z with z | z | z | z | z <;> omega)
  have tb : ∀ {x b N : Nat} {X : List Int}, TbI h x b N X → (x = 1 ∨ x = 3) → (b = 2 ∨ b = 4 ∨ 94 ≤ b) → TbI h1 x b N X := fun {x b N X} t hx hb => t.eq q.1 q.2.1 (fun j _ => ee x j (by omega) (fun z => by rcases z with z | z | z | z | z <;> omega)) (funext fun j => ee b j t.1.2.1.2.2 (fun z => by rcases z with z | z | z | z | z <;> omega))
  refine ⟨⟨g.gf q ok, k, (f.gf g q ok).1⟩, ⟨j1.pr p (lo _ (by decide) (by decide)) (lo _ (by decide) (by decide)) (lo _ (by decide) (by decide)), j2.pr p (lo _ (by decide) (by decide)) (lo _ (by decide) (by decide)) (lo _ (by decide) (by decide)), ?_, j4, fun z => (j5 z).pr p (lo _ (by decide) (by decide)) (lo _ (by decide) (by decide)) (lo _ (by decide) (by decide))⟩, r.pr p sm (fun j => by rw [lo 40 (by decide) (by decide)]) (fun j => by rw [lo 41 (by decide) (by decide)]), rf.pr p sm ?_, ⟨tb t1 (Or.inl rfl) (t2.imp id Or.inr), t2, t3⟩, ⟨tb t4 (Or.inr rfl) (Or.inr t5), t5⟩, t6⟩
  · rw [ee 0 10 (by omega) (fun z => by rcases z with z | z | z | z | z <;> omega)]
    exact j3
  · exact ee 0 12 (by omega) (fun z => by rcases z with z | z | z | z | z <;> omega)
theorem JC.eq {v' bv' sv' : Nat → Int} {pv' : Nat → Nat → Int} (j : JC h a K v bv isS sv c pv w d cw cd X1 X3 b1 N1 b3 N3) (ev : ∀ k, k < 569 → v' k = v k) (eb : ∀ k, k < 569 → bv' k = bv k) (es : isS = 1 → ∀ k, k < 569 → sv' k = sv k) (ep : ∀ i k, i < c → k < 569 → pv' i k = pv i k) : JC h a K v' bv' isS sv' c pv' w d cw cd X1 X3 b1 N1 b3 N3 := by
  obtain ⟨g, ⟨j1, j2, j3, j4, j5⟩, r, rf⟩ := j
  exact ⟨g, ⟨j1.eq ev, j2.eq eb, j3, j4, fun z => (j5 z).eq (es z)⟩, r.eq ep, rf⟩
end Jcs
