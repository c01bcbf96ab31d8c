/-! the class: changes of now -/
/-- what a call of the class leaves: cost, and what stands then -/
def JQ (h : AH) (K : Nat → Nat) (N1 N3 dc ds : Nat) (v bv : Nat → Int) (isS : Int) (sv : Nat → Int) (c : Nat) (pv : Nat → Nat → Int) (w d cw cd : Int) (X1 X3 : List Int) (h1 : AH) : Prop := ∃ a1 K1 b1 M1 b3 M3, FrJ h K N1 N3 h1 K1 M1 M3 dc ds ∧ JC h1 a1 K1 v bv isS sv c pv w d cw cd X1 X3 b1 M1 b3 M3
section Jqs
variable {h h1 h2 : AH} {a K a1 K1 : Nat → Nat} {v bv sv v' bv' sv' : Nat → Int} {isS isS' : Int} {c : Nat} {pv : Nat → Nat → Int} {w d cw cd : Int} {X1 X3 : List Int} {b1 N1 b3 N3 dc ds dc' ds' M1 M3 : Nat} {N : Nat} {LL : Nat → List Nd} {kp : Nat → Option TE} {g e : Int}
theorem JQ.wk (q : JQ h K N1 N3 dc ds v bv isS sv c pv w d cw cd X1 X3 h1) (h1' : dc ≤ dc') (h2' : ds ≤ ds') : JQ h K N1 N3 dc' ds' v bv isS sv c pv w d cw cd X1 X3 h1 := by
  obtain ⟨a1, K1, b1, M1, b3, M3, f, j⟩ := q
  exact ⟨a1, K1, b1, M1, b3, M3, f.wk h1' h2', j⟩
theorem JQ.th (q : JQ h K N1 N3 dc ds v bv isS sv c pv w d cw cd X1 X3 h1) : JQ h K N1 N3 (dc + 1) (ds + 6) v bv isS sv c pv w d cw cd X1 X3 h1.thr := by
  obtain ⟨a1, K1, b1, M1, b3, M3, f, j⟩ := q
  exact ⟨a1, K1, b1, M1, b3, M3, f.th, j⟩
theorem FrJ.jq (f : FrJ h K N1 N3 h1 K1 M1 M3 dc ds) (q : JQ h1 K1 M1 M3 dc' ds' v bv isS sv c pv w d cw cd X1 X3 h2) : JQ h K N1 N3 (dc + dc') (ds + ds') v bv isS sv c pv w d cw cd X1 X3 h2 := by
  obtain ⟨a1, K1, b1, M1, b3, M3, f', j⟩ := q
  exact ⟨a1, K1, b1, M1, b3, M3, f.tr f', j⟩
theorem VS.lko (s : VS v N LL kp) : LkO N LL kp := by
  have nv : NV ((0, fun _ => (0, 0), fun _ j => v j, 0, 0) : AH) N LL := s.1
  exact ⟨fun l hl => nv.lok hl, s.2.2.1⟩
theorem JC.qn (j : JC h a K v bv isS sv c pv w d cw cd X1 X3 b1 N1 b3 N3) (s : StI h a 31 N LL kp g e) : QN h a K N (fun l => (h.vl 32 l).toNat) LL kp := by
  obtain ⟨⟨ga, k, f⟩, -⟩ := j
  obtain ⟨-, ⟨c1, c2, -⟩, t3, t4, t5⟩ := s
  refine ⟨ga, k, f, ⟨c1, c2, fun l hl => ?_⟩, t5⟩
  obtain ⟨t, u1, u2⟩ := t3 l hl
  have u1 : h.vl 32 l = (t : Int) := u1
  show h.vl 32 l = (((h.vl 32 l).toNat : Nat) : Int) ∧ TmX h a (PX h) (h.vl 32 l).toNat (LL l)
  rw [u1]
  exact ⟨rfl, u2⟩
/-- cells of the three states -/
def OkT (x j : Nat) : Prop := 31 ≤ x ∧ x ≤ 39 ∧ ((x = 31 ∨ x = 34 ∨ x = 37) → 2 ≤ j)
theorem OkT.okc {x j : Nat} (z : OkT x j) : OkC h x j := by
  obtain ⟨z1, z2, z3⟩ := z
  refine ⟨fun m => ?_, Or.inl (by omega)⟩
  have : CIs.all (fun q => decide (¬ (31 ≤ q.1 ∧ q.1 ≤ 39 ∧ ((q.1 = 31 ∨ q.1 = 34 ∨ q.1 = 37) → 2 ≤ q.2)))) = true := by decide
  exact of_decide_eq_true (List.all_eq_true.mp this _ m) ⟨z1, z2, z3⟩
/-- a state of the three stays -/
theorem SvR.st {C : Nat → Nat → Prop} {s : Nat} (r : SvR h a s v) (j : YA h a K) (f : FSc h a) (q : GF h h1 C) (hC : ∀ x j, C x j → OkT x j) (hs : s + 2 < 94) (hn : ∀ x j, C x j → x < s ∨ s + 2 < x) : SvR h1 a s v := by
  have ok : ∀ x j, C x j → OkC h x j := fun x j z => (hC x j z).okc
  have n94 := j.1.1
  have e : ∀ x, s ≤ x → x ≤ s + 2 → h1.vl x = h.vl x := fun x h1 h2 => funext fun i => q.2.2 x i (by omega) (fun z => by have := hn x i z; omega)
  exact r.pr (q.pr ok j f) (e s (Nat.le_refl _) (by omega)) (e _ (by omega) (by omega)) (e _ (by omega) (Nat.le_refl _))
theorem JC.st {C : Nat → Nat → Prop} (j : JC h a K v bv isS sv c pv w d cw cd X1 X3 b1 N1 b3 N3) (q : GF h h1 C) (hC : ∀ x j, C x j → OkT x j) (s1 : SvR h1 a 31 v') (s2 : SvR h1 a 34 bv') (s3 : isS = 1 → SvR h1 a 37 sv') : JC h1 a K v' bv' isS sv' c pv w d cw cd X1 X3 b1 N1 b3 N3 := by
  obtain ⟨⟨g, k, f⟩, ⟨j1, j2, j3, j4, j5⟩, r, rf, ⟨t1, t2, t3⟩, ⟨t4, t5⟩, t6⟩ := j
  have ok : ∀ x j, C x j → OkC h x j := fun x j z => (hC x j z).okc
  have n94 := g.1.1
  have p := q.pr ok g f
  have sm : SmS h h1 := q.sm (fun x j z z1 => by have := (hC x j z).2.1; omega)
  have ee : ∀ x, x < h.n → ¬ (31 ≤ x ∧ x ≤ 39) → h1.vl x = h.vl x := fun x hx hn => funext fun j => q.2.2 x j hx (fun z => hn ⟨(hC x j z).1, (hC x j z).2.1⟩)
  have tb : ∀ {x b N : Nat} {X : List Int}, TbI h x b N X → (x = 1 ∨ x = 3) → (b = 2 ∨ b = 4 ∨ 94 ≤ b) → TbI h1 x b N X := fun {x b N X} t hx hb => t.eq q.1 q.2.1 (fun j _ => by rw [ee x (by omega) (by omega)]) (ee b t.1.2.1.2.2 (by omega))
  refine ⟨⟨g.gf q ok, k, (f.gf g q ok).1⟩, ⟨s1, s2, by rw [ee 0 (by omega) (by omega)]; exact j3, j4, s3⟩, r.pr p sm (fun j => by rw [ee 40 (by omega) (by omega)]) (fun j => by rw [ee 41 (by omega) (by omega)]), rf.pr p sm (by rw [ee 0 (by omega) (by omega)]), ⟨tb t1 (Or.inl rfl) (t2.imp id Or.inr), t2, t3⟩, ⟨tb t4 (Or.inr rfl) (Or.inr t5), t5⟩, t6⟩
theorem OkT.fj {C : Nat → Nat → Prop} (q : GC h h1 C dc ds) (g : YA h a K) (hC : ∀ x j, C x j → OkT x j) : FrJ h K N1 N3 h1 K N1 N3 dc ds := q.fj g (fun c j z => by have := (hC c j z).1; have := (hC c j z).2.1; omega)
/-- only now changes -/
theorem JC.nw {C : Nat → Nat → Prop} (j : JC h a K v bv isS sv c pv w d cw cd X1 X3 b1 N1 b3 N3) (q : GC h h1 C dc ds) (hC : ∀ x j, C x j → x = 32 ∨ x = 33 ∨ (x = 31 ∧ 2 ≤ j)) (s1 : SvR h1 a 31 v') : JQ h K N1 N3 dc ds v' bv isS sv c pv w d cw cd X1 X3 h1 := by
  have ok : ∀ x j, C x j → OkT x j := fun x j z => by have := hC x j z; exact ⟨by omega, by omega, fun _ => by omega⟩
  obtain ⟨g, k, f⟩ := j.1
  exact ⟨a, K, b1, N1, b3, N3, OkT.fj q g ok, j.st q.1 ok s1 (j.2.1.2.1.st g f q.1 ok (by decide) (fun x j z => by have := hC x j z; omega)) (fun z => (j.2.1.2.2.2.2 z).st g f q.1 ok (by decide) (fun x j z => by have := hC x j z; omega))⟩
/-- a refusal is noted -/
theorem JC.rf {C : Nat → Nat → Prop} {x y u z : Int} (j : JC h a K v bv isS sv c pv w d cw cd X1 X3 b1 N1 b3 N3) (q : GC h h1 C dc ds) (hC : ∀ x j, C x j → x = 0 ∧ j = 12) (r1 : RfI h1 x y u z) : JQ h K N1 N3 dc ds v bv isS sv c pv x y u z X1 X3 h1 := by
  obtain ⟨⟨g, k, f⟩, ⟨j1, j2, j3, j4, j5⟩, r, rf, ⟨t1, t2, t3⟩, ⟨t4, t5⟩, t6⟩ := id j
  have ok : ∀ x j, C x j → OkC h x j := fun x j z => by
    obtain ⟨rfl, rfl⟩ := hC x j z
    exact ⟨by decide, Or.inl (by decide)⟩
  have n94 := g.1.1
  have p := q.1.pr ok g f
  have sm : SmS h h1 := q.1.sm (fun x j z z1 => by have := hC x j z; omega)
  have ee : ∀ x, x < h.n → x ≠ 0 → h1.vl x = h.vl x := fun x hx hn => funext fun j => q.1.2.2 x j hx (fun z => hn (hC x j z).1)
  have lo : ∀ x, 31 ≤ x → x ≤ 39 → h1.vl x = h.vl x := fun x h1 h2 => ee x (by omega) (by omega)
  have tb : ∀ {x b N : Nat} {X : List Int}, TbI h x b N X → (x = 1 ∨ x = 3) → (b = 2 ∨ b = 4 ∨ 94 ≤ b) → TbI h1 x b N X := fun {x b N X} t hx hb => t.eq q.1.1 q.1.2.1 (fun j _ => by rw [ee x (by omega) (by omega)]) (ee b t.1.2.1.2.2 (by omega))
  refine ⟨a, K, b1, N1, b3, N3, q.fj g (fun c j z => by have := hC c j z; omega), ⟨g.gf q.1 ok, k, (f.gf g q.1 ok).1⟩, ⟨j1.pr p (lo _ (by decide) (by decide)) (lo _ (by decide) (by decide)) (lo _ (by decide) (by decide)), j2.pr p (lo _ (by decide) (by decide)) (lo _ (by decide) (by decide)) (lo _ (by decide) (by decide)), ?_, j4, fun z => (j5 z).pr p (lo _ (by decide) (by decide)) (lo _ (by decide) (by decide)) (lo _ (by decide) (by decide))⟩, r.pr p sm (fun j => by rw [ee 40 (by omega) (by decide)]) (fun j => by rw [ee 41 (by omega) (by decide)]), r1, ⟨tb t1 (Or.inl rfl) (t2.imp id Or.inr), t2, t3⟩, ⟨tb t4 (Or.inr rfl) (Or.inr t5), t5⟩, t6⟩
  rw [q.1.2.2 0 10 (by omega) (fun z => absurd (hC 0 10 z).2 (by decide))]
  exact j3
theorem s_refuseJ {x y : Int} (j : JC h a K v bv isS sv c pv w d cw cd X1 X3 b1 N1 b3 N3) (hx : x ≠ 0) : CV mX10_refuse 3 [rv 0, iv x, iv y] h (oi fun r h1 => r = -1 ∧ JQ h K N1 N3 1 3 v bv isS sv c pv x y 0 0 X1 X3 h1) := by
  refine cv_mono (s_refuse j.1.1.1) fun o h1 q => ?_
  obtain ⟨r, rfl, q1, q2⟩ := q
  rw [q2]
  exact ⟨r, rfl, q1, j.rf eRef_gc (fun _ _ z => z) (eRef_rf j.1.1.1.1 hx)⟩
set_option maxRecDepth 100000 in
theorem s_dropL {p : Int} (j : JC h a K v bv isS sv c pv w d cw cd X1 X3 b1 N1 b3 N3) (hv : VS v N LL kp) (hs : StI h a 31 N LL kp (v 1) (v 2)) : CV mX10_dropLesson 5 [rv 0, iv p] h (oi fun r h1 => (¬ (0 ≤ p ∧ p < (N : Int)) ∧ r = -1 ∧ JQ h K N1 N3 1 3 v bv isS sv c pv 2 p 0 0 X1 X3 h1) ∨ ((0 ≤ p ∧ p < (N : Int)) ∧ r = ((LL p.toNat).length : Int) ∧ JQ h K N1 N3 0 0 (drV v p.toNat N) bv isS sv c pv w d cw cd X1 X3 h1)) := by
  have g := j.1.1
  have f := j.1.2.2
  have hC := g.1
  have n94 := hC.1
  obtain ⟨st, ⟨c1, c2, c3, c4⟩, t3, t4, t5⟩ := id hs
  refine cv_of cdX10_dropLesson ?_
  show EV _ _ 0 [rv 0, iv p, uv] [] h _
  refine ev_aload_n dX10_dropLesson_0 rfl ?_
  refine ev_getrv dX10_dropLesson_1 fX10_48 hC.k0 hC.n0 rfl hC.v0_6 ?_
  refine ev_iload_n dX10_dropLesson_4 rfl ?_
  refine ev_cvr dX10_dropLesson_5 lX10_210 (s_termAt hC.st31) (by decide) hC.k31 hC.n31 rfl rfl rfl (Nat.le_of_ble_eq_true rfl) rfl (fun r h1 q => ?_)
  obtain ⟨er, e1⟩ := q
  rw [er, e1]
  by_cases hp : 0 ≤ p ∧ p < (N : Int)
  · skip
    obtain ⟨l, rfl⟩ : ∃ l : Nat, p = (l : Int) := ⟨p.toNat, by omega⟩
    have hl : l < N := by omega
    obtain ⟨t, u1, u2⟩ := t3 l hl
    have et : tmAt h 31 32 (l : Int) = (t : Int) := by
      unfold tmAt
      rw [c1, if_pos (by omega)]
      exact u1
    rw [et, show ((l : Nat) : Int).toNat = l from rfl]
    have kt := u2.l.t.o.1
    refine ev_ast2 dX10_dropLesson_8 ?_
    refine ev_aload_n dX10_dropLesson_9 rfl ?_
    refine ev_ifnonnull 20 dX10_dropLesson_10 (fun hb => ?_) (fun h_no => (by exfalso; omega))
    refine ev_aload_n dX10_dropLesson_20 rfl ?_
    refine ev_getrv dX10_dropLesson_21 fX10_48 hC.k0 hC.n0 rfl hC.v0_6 ?_
    refine ev_iload_n dX10_dropLesson_24 rfl ?_
    refine ev_cvv dX10_dropLesson_25 lX10_341 (s_remove (l := l) hC.st31 c1 c2 hl (by decide) hs.ok.1) (by decide) hC.k31 hC.n31 rfl rfl rfl (Nat.le_of_ble_eq_true rfl) rfl (fun h2 q => ?_)
    obtain ⟨q1, q2, q3⟩ := q
    have gc : GC h h2 (fun x j => x = 32 ∨ (x = 31 ∧ j = 2)) 0 0 := q1.gc.wk (fun x j z => by simp at z; exact z) (Nat.le_refl _) (Nat.le_refl _)
    have hc' : ∀ x j, (x = 32 ∨ (x = 31 ∧ j = 2)) → x = 32 ∨ x = 33 ∨ (x = 31 ∧ 2 ≤ j) := fun x j z => by omega
    have ok : ∀ x j, (x = 32 ∨ (x = 31 ∧ j = 2)) → OkC h x j := fun x j z => OkT.okc (h := h) ⟨by omega, by omega, fun _ => by omega⟩
    have g2 := g.gf gc.1 ok
    have p2 := gc.1.pr ok g f
    have ct : h2.vl t 1 = ((LL l).length : Int) := by
      have := (u2.pr p2).l.t.o.2
      exact this
    have kt2 := (u2.pr p2).l.t.o.1
    have lab := (u2.pr p2).l
    refine ev_aload_n dX10_dropLesson_28 rfl ?_
    refine ev_getiv dX10_dropLesson_29 fX10_130 kt2.1 kt2.2 rfl ct ?_
    refine ev_iret dX10_dropLesson_32 (⟨_, rfl, Or.inr ⟨⟨hp.1, hp.2⟩, rfl, j.nw gc hc' ⟨N - 1, _, kp, vs_dr hv hl, ?_⟩⟩⟩)
    have v12 : drV v l N 1 = v 1 ∧ drV v l N 2 = v 2 := by
      unfold drV
      refine ⟨?_, ?_⟩
      · rw [if_neg (by decide), if_neg (by omega), if_neg (by omega)]
      · rw [if_neg (by decide), if_neg (by omega), if_neg (by omega)]
    have vl : ∀ x j, ¬ (x = 32 ∨ (x = 31 ∧ j = 2)) → x < h.n → h2.vl x j = h.vl x j := fun x j hn hx => gc.1.2.2 x j hx hn
    refine ⟨hC.st31.ks q1 (by decide) (by decide) (by decide), ⟨by rw [q2]; omega, by omega, by rw [v12.1, vl 31 3 (by omega) (by omega)]; exact c3, by rw [v12.2, vl 31 4 (by omega) (by omega)]; exact c4⟩, fun k hk => ?_, fun k h1 h2' => ?_, t5.pr p2 (fun c _ => vl 33 c (by omega) (by omega))⟩
    · show ∃ t : Nat, h2.vl 32 k = _ ∧ _
      rw [q3 k]
      by_cases z : k < l
      · obtain ⟨t', y1, y2⟩ := t3 k (by omega)
        simp only [if_pos z]
        exact ⟨t', by rw [if_neg (by omega)]; exact y1, y2.pr p2⟩
      · obtain ⟨t', y1, y2⟩ := t3 (k + 1) (by omega)
        simp only [if_neg z]
        exact ⟨t', by rw [if_pos (by omega), if_pos (by omega)]; exact y1, y2.pr p2⟩
    · show h2.vl 32 k = -1
      rw [q3 k]
      by_cases z : k < N
      · rw [if_pos (by omega), if_neg (by omega)]
      · rw [if_neg (by omega)]
        exact t4 k (by omega) h2'
  have et : tmAt h 31 32 p = -1 := by
    unfold tmAt
    rw [c1, if_neg (by omega)]
  rw [et]
  refine ev_ast2 dX10_dropLesson_8 ?_
  refine ev_aload_n dX10_dropLesson_9 rfl ?_
  refine ev_ifnonnull 20 dX10_dropLesson_10 (fun h_no => (by exfalso; omega)) (fun hb => ?_)
  refine ev_aload_n dX10_dropLesson_13 rfl ?_
  refine ev_iconst dX10_dropLesson_14 ?_
  refine ev_iload_n dX10_dropLesson_15 rfl ?_
  refine ev_cvi dX10_dropLesson_16 lX10_86 (s_refuseJ (x := 2) (y := p) j (by decide)) (by decide) hC.k0 hC.n0 rfl rfl rfl (Nat.le_of_ble_eq_true rfl) rfl (fun r h2 q => ?_)
  obtain ⟨q1, q2⟩ := q
  exact ev_iret dX10_dropLesson_19 (⟨_, rfl, Or.inl ⟨hp, q1, q2⟩⟩)
end Jqs
