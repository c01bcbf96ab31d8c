/-! the past: push, pop, clear -/
theorem PsC.ok {h : AH} {c j : Nat} (z : PsC h c j) : OkC h c j ∧ ¬ (31 ≤ c ∧ c ≤ 39) ∧ (94 ≤ c → (h.kd c).1 ≠ 4) := by
  rcases z with rfl | ⟨rfl, z⟩ | ⟨h1, h2⟩
  · refine ⟨⟨fun m => ?_, Or.inl (by omega)⟩, by omega, fun z => by omega⟩
    have : CIs.all (fun q => decide (q.1 ≠ 41)) = true := by decide
    exact of_decide_eq_true (List.all_eq_true.mp this _ m) rfl
  · refine ⟨⟨fun m => ?_, Or.inl (by omega)⟩, by omega, fun z => by omega⟩
    have : CIs.all (fun q => decide (¬ (q.1 = 40 ∧ (q.2 = 1 ∨ q.2 = 2)))) = true := by decide
    exact of_decide_eq_true (List.all_eq_true.mp this _ m) ⟨rfl, z⟩
  · refine ⟨⟨ci94 h1, Or.inr ⟨h1, ?_⟩⟩, by omega, fun _ => by omega⟩
    rintro (w | w | w | w) <;> omega
section Pst
variable {h : AH} {a K : Nat → Nat} {c : Nat} {pv : Nat → Nat → Int}
theorem st_ne {s t : Nat} (p : ST h s (s + 1) (s + 2)) (q : ST h t (t + 1) (t + 2)) (ne : s ≠ t) : s ≠ t + 1 ∧ s ≠ t + 2 ∧ s + 1 ≠ t ∧ s + 1 ≠ t + 1 ∧ s + 1 ≠ t + 2 ∧ s + 2 ≠ t ∧ s + 2 ≠ t + 1 ∧ s + 2 ≠ t + 2 := by
  obtain ⟨k0, -, -, k1, -, -, k2, -⟩ := p
  obtain ⟨l0, -, -, l1, -, -, l2, -⟩ := q
  refine ⟨fun e => ?_, fun e => ?_, fun e => ?_, by omega, fun e => ?_, fun e => ?_, fun e => ?_, by omega⟩
  · rw [e, l1] at k0; exact absurd k0 (by decide)
  · rw [e, l2] at k0; exact absurd k0 (by decide)
  · rw [e, l0] at k1; exact absurd k1 (by decide)
  · rw [e, l2] at k1; exact absurd k1 (by decide)
  · rw [e, l0] at k2; exact absurd k2 (by decide)
  · rw [e, l1] at k2; exact absurd k2 (by decide)
theorem ST.pe {h1 : AH} {a1 : Nat → Nat} {s : Nat} (t : ST h s (s + 1) (s + 2)) (p : PrS h a h1 a1) (e : h1.vl s = h.vl s) : ST h1 s (s + 1) (s + 2) := by
  obtain ⟨k0, n0, v0, k1, n1, v1, k2, n2⟩ := t
  exact ⟨(p.2.1 _ n0).trans k0, Nat.lt_of_lt_of_le n0 p.1, by rw [e]; exact v0, (p.2.1 _ n1).trans k1, Nat.lt_of_lt_of_le n1 p.1, by rw [e]; exact v1, (p.2.1 _ n2).trans k2, Nat.lt_of_lt_of_le n2 p.1⟩
/-- what the past is behind a change -/
def pvN (c : Nat) (pv : Nat → Nat → Int) (v : Nat → Int) : Nat → Nat → Int := fun k => if c = 8 then (if k < 7 then pv (k + 1) else v) else if k < c then pv k else v
set_option maxRecDepth 100000 in
theorem s_push {v : Nat → Int} (g : YA h a K) (f : FSc h a) (r : RgI h a c pv) (b : SvR h a 34 v) : CV mX1_push 5 [rv 40, rv 34] h (on fun h1 => GC h h1 (PsC h) 3 19 ∧ RgI h1 a (if c = 8 then 8 else c + 1) (pvN c pv v)) := by
  have hC := g.1
  have n94 := hC.1
  obtain ⟨c8, r1, nx, r2, r3, r4, r5, r6⟩ := id r
  refine cv_of cdX1_push ?_
  show EV _ _ 0 [rv 40, rv 34] [] h _
  refine ev_aload_n dX1_push_0 rfl ?_
  refine ev_aload_n dX1_push_1 rfl ?_
  refine ev_getiv dX1_push_2 fX1_17 hC.k40 hC.n40 rfl r2 ?_
  refine ev_cvr dX1_push_5 lX1_21 (s_stateAt hC r r3) (by decide) hC.k40 hC.n40 rfl rfl rfl (Nat.le_of_ble_eq_true rfl) rfl (fun x h1 q => ?_)
  obtain ⟨s, ex, q1, q2, q3, q4, q5⟩ := q
  have ok1 : ∀ c j, (c = 41 ∧ j = nx) → OkC h c j := fun c j z => (PsC.ok (h := h) (Or.inl z.1)).1
  have g1 : YA h1 a K := g.gf q1.1 ok1
  have hC1 := g1.1
  have f1 := (f.gf g q1.1 ok1).1
  have p1 := q1.1.pr ok1 g f
  have sm1 : SmS h h1 := q1.1.sm (fun c j z => by omega)
  have lo1 : ∀ d, d ≠ 41 → d < 94 → h1.vl d = h.vl d := fun d d1 d2 => funext fun j => q1.1.2.2 d j (by omega) (fun z => d1 z.1)
  have b1 : SvR h1 a 34 v := b.pr p1 (lo1 34 (by decide) (by decide)) (lo1 35 (by decide) (by decide)) (lo1 36 (by decide) (by decide))
  obtain ⟨N, LL, kp, b2, b3⟩ := id b1
  rw [ex]
  refine ev_aload_n dX1_push_8 rfl ?_
  refine ev_cvv dX1_push_9 lX1_25 (s_take q4 b3.1 (by omega) b3.ok.1 b3.ok.2) (by decide) q4.1 q4.2.1 rfl rfl rfl (Nat.le_of_ble_eq_true rfl) rfl (fun h2 q => ?_)
  obtain ⟨k2, -⟩ := id q
  -- what changes from h1 on
  have cc : ∀ d j, (d ∈ [s + 1, s + 2] ∨ (d, j) ∈ [(s, 2), (s, 3), (s, 4)]) → (d = s ∧ 2 ≤ j) ∨ d = s + 1 ∨ d = s + 2 := fun d j z => by
    rcases z with z | z
    · simp at z; omega
    · simp at z; omega
  have gc2 : GC h1 h2 (fun d j => (d = s ∧ 2 ≤ j) ∨ d = s + 1 ∨ d = s + 2) 0 0 := k2.gc.wk cc (Nat.le_refl _) (Nat.le_refl _)
  have ok2 : ∀ d j, ((d = s ∧ 2 ≤ j) ∨ d = s + 1 ∨ d = s + 2) → OkC h1 d j := fun d j z => by
    refine (PsC.ok (h := h1) (Or.inr (Or.inr ⟨by omega, ?_⟩))).1
    rcases z with ⟨rfl, -⟩ | rfl | rfl
    · rw [q4.1]; exact Or.inl rfl
    · rw [q4.2.2.2.1]; exact Or.inr (Or.inr rfl)
    · rw [q4.2.2.2.2.2.2.1]; exact Or.inr (Or.inl rfl)
  have g2 : YA h2 a K := g1.gf gc2.1 ok2
  have hC2 := g2.1
  have p2 := gc2.1.pr ok2 g1 f1
  have lo2 : ∀ d, d < 94 → h2.vl d = h1.vl d := fun d d2 => funext fun j => gc2.1.2.2 d j (by have := hC1.1; omega) (fun z => by omega)
  have nx2 : h2.vl 40 1 = (nx : Int) := by rw [lo2 40 (by decide), lo1 40 (by decide) (by decide)]; exact r2
  have c2 : h2.vl 40 2 = (c : Int) := by rw [lo2 40 (by decide), lo1 40 (by decide) (by decide)]; exact r1
  have b4 : SvR h2 a s v := ⟨N, LL, kp, b2, b3.tk (N' := N) (LL' := LL) (kp' := kp) (g' := 0) (e' := 0) (tb := 0) (kb := 0) q4 q p2⟩
  refine ev_aload_n dX1_push_12 rfl ?_
  refine ev_aload_n dX1_push_13 rfl ?_
  refine ev_getiv dX1_push_14 fX1_17 hC2.k40 hC2.n40 rfl nx2 ?_
  refine ev_iconst dX1_push_17 ?_
  refine ev_iadd dX1_push_18 (by unfold ir; omega) ?_
  refine ev_bipush dX1_push_19 ?_
  refine ev_mfm dX1_push_21 q_1231 (by decide) rfl rfl (by omega) (by omega) ?_
  refine ev_pt dX1_push_24 fX1_17 hC2.k40 hC2.n40 rfl ?_
  obtain ⟨h3, e3⟩ : ∃ h3, h3 = h2.put 40 1 (((nx : Int) + 1) % 8) := ⟨_, rfl⟩
  rw [← e3]
  have k403 : h3.kd 40 = (2, 3) := by rw [e3]; exact hC2.k40
  have n403 : 40 < h3.n := by rw [e3]; exact hC2.n40
  have c3 : h3.vl 40 2 = (c : Int) := by rw [e3, AH.put_vl, if_neg (fun z => absurd z.2 (by decide))]; exact c2
  refine ev_aload_n dX1_push_27 rfl ?_
  refine ev_aload_n dX1_push_28 rfl ?_
  refine ev_getiv dX1_push_29 fX1_35 k403 n403 rfl c3 ?_
  refine ev_iconst dX1_push_32 ?_
  refine ev_iadd dX1_push_33 (by unfold ir; omega) ?_
  refine ev_bipush dX1_push_34 ?_
  refine ev_mmin dX1_push_36 q_1234 q_523 q_169 q_524 rfl ?_
  refine ev_pt dX1_push_39 fX1_35 k403 n403 rfl ?_
  obtain ⟨h4, e4⟩ : ∃ h4, h4 = h3.put 40 2 (if (8 : Int) < (c : Int) + 1 then 8 else (c : Int) + 1) := ⟨_, rfl⟩
  rw [← e4]
  have v4 : ∀ d j, ¬ (d = 40 ∧ (j = 1 ∨ j = 2)) → h4.vl d j = h2.vl d j := fun d j hn => by
    rw [e4, AH.put_vl, if_neg (fun z => hn ⟨z.1, Or.inr z.2⟩), e3, AH.put_vl, if_neg (fun z => hn ⟨z.1, Or.inl z.2⟩)]
  have gc3 : GC h2 h4 (fun d j => d = 40 ∧ (j = 1 ∨ j = 2)) 0 0 := by
    refine ⟨⟨?_, fun d _ => ?_, fun d j _ hn => v4 d j hn⟩, ?_, ?_⟩
    · rw [e4, e3]; exact Nat.le_refl _
    · rw [e4, e3]; rfl
    · rw [e4, e3]; exact Nat.le_refl _
    · rw [e4, e3]; exact Nat.le_refl _
  have ok3 : ∀ d j, (d = 40 ∧ (j = 1 ∨ j = 2)) → OkC h2 d j := fun d j z => (PsC.ok (h := h2) (Or.inr (Or.inl z))).1
  have f2 := (f1.gf g1 gc2.1 ok2).1
  have p3 := gc3.1.pr ok3 g2 f2
  have p14 := p2.tr p3
  have n1 := hC1.1
  have nxv : h4.vl 40 1 = (((nx + 1) % 8 : Nat) : Int) := by
    rw [e4, AH.put_vl, if_neg (fun z => absurd z.2 (by decide)), e3, AH.put_vl, if_pos ⟨rfl, rfl⟩]
    omega
  have cv4 : h4.vl 40 2 = (((if c = 8 then 8 else c + 1) : Nat) : Int) := by
    rw [e4, AH.put_vl, if_pos ⟨rfl, rfl⟩]
    by_cases z : c = 8
    · rw [if_pos z, if_pos (by omega)]; rfl
    · rw [if_neg z, if_neg (by omega)]; rfl
  have rw41 : ∀ p, h4.vl 41 p = h1.vl 41 p := fun p => by
    rw [v4 41 p (fun z => by omega), lo2 41 (by decide)]
  have old41 : ∀ p, p ≠ nx → h1.vl 41 p = h.vl 41 p := fun p hp => q1.1.2.2 41 p (by omega) (fun z => hp z.2)
  have far : ∀ d, 94 ≤ d → d ≠ s → d ≠ s + 1 → d ≠ s + 2 → d < h1.n → h4.vl d = h1.vl d := fun d d1 d2 d3 d4 d5 => funext fun j => by
    rw [v4 d j (fun z => by omega)]
    exact gc2.1.2.2 d j d5 (fun z => by omega)
  have b5 : SvR h4 a s v := b4.pr p3 (funext fun j => v4 s j (fun z => by omega)) (funext fun j => v4 _ j (fun z => by omega)) (funext fun j => v4 _ j (fun z => by omega))
  have st4 : ST h4 s (s + 1) (s + 2) := by
    obtain ⟨_, _, _, _, w⟩ := b5
    exact w.1
  -- the other places of the past
  have oth : ∀ p t : Nat, p < 8 → p ≠ nx → h.vl 41 p = (t : Int) → (94 ≤ t ∧ ST h t (t + 1) (t + 2)) ∧ t ≠ s := fun p t hp hne ht => by
    rcases r4 p hp with w | ⟨t', w1, w2, w3⟩
    · omega
    · have et : t = t' := by omega
      subst et
      refine ⟨⟨w2, w3⟩, fun z => ?_⟩
      rcases q5 with w | ⟨-, w⟩
      · exact r5 p nx hp r3 hne (by omega) (by rw [ht, w, z])
      · have := w3.2.1; omega
  have oth4 : ∀ p t : Nat, p < 8 → p ≠ nx → h.vl 41 p = (t : Int) → h4.vl 41 p = (t : Int) ∧ 94 ≤ t ∧ ST h4 t (t + 1) (t + 2) ∧ (∀ v', SvR h a t v' → SvR h4 a t v') := fun p t hp hne ht => by
    obtain ⟨⟨w2, w3⟩, w4⟩ := oth p t hp hne ht
    obtain ⟨x1, x2, x3, x4⟩ := w3.sm sm1 p1 w2
    obtain ⟨y1, y2, y3, y4, y5, y6, y7, y8⟩ := st_ne x1 q4 w4
    have m0 := far t w2 w4 y1 y2 x1.2.1
    have m1 := far (t + 1) (by omega) y3 y4 y5 x1.2.2.2.2.1
    have m2 := far (t + 2) (by omega) y6 y7 y8 x1.2.2.2.2.2.2.2
    exact ⟨by rw [rw41, old41 p hne]; exact ht, w2, x1.pe p14 m0, fun v' z => (z.pr p1 x2 x3 x4).pr p14 m0 m1 m2⟩
  have PG : GC h h4 (PsC h) 3 19 := by
    refine ((q1.wk (fun d j z => Or.inl z.1) (Nat.le_refl _) (Nat.le_refl _)).tr' gc2 (fun d j hd z => ?_)).tr' gc3 (fun d j hd z => Or.inr (Or.inl z))
    have kk := q1.1.2.1 d hd
    refine Or.inr (Or.inr ⟨by omega, ?_⟩)
    rw [← kk]
    rcases z with ⟨rfl, -⟩ | rfl | rfl
    · rw [q4.1]; exact Or.inl rfl
    · rw [q4.2.2.2.1]; exact Or.inr (Or.inr rfl)
    · rw [q4.2.2.2.2.2.2.1]; exact Or.inr (Or.inl rfl)
  refine ev_vret dX1_push_42 (⟨rfl, PG, by split <;> omega, cv4, (nx + 1) % 8, nxv, Nat.mod_lt _ (by decide), fun p hp => ?_, fun p q hp hq hne h0 => ?_, fun k hk => ?_⟩)
  · by_cases e : p = nx
    · rw [rw41, e]
      exact Or.inr ⟨s, q2, q3, st4⟩
    · rcases r4 p hp with w | ⟨t, w1, -⟩
      · exact Or.inl (by rw [rw41, old41 p e]; exact w)
      · obtain ⟨x1, x2, x3, -⟩ := oth4 p t hp e w1
        exact Or.inr ⟨t, x1, x2, x3⟩
  · have val : ∀ p, p < 8 → p ≠ nx → 0 ≤ h.vl 41 p → ∃ t : Nat, h.vl 41 p = (t : Int) ∧ t ≠ s := fun p hp e z => by
      rcases r4 p hp with w | ⟨t, w1, -⟩
      · omega
      · exact ⟨t, w1, (oth p t hp e w1).2⟩
    rw [rw41] at h0 ⊢
    rw [rw41]
    by_cases e : p = nx
    · have e' : q ≠ nx := fun z => hne (by omega)
      rw [e, q2, old41 q e']
      intro z
      obtain ⟨t, t1, t2⟩ := val q hq e' (by omega)
      omega
    · rw [old41 p e] at h0 ⊢
      by_cases e' : q = nx
      · rw [e', q2]
        intro z
        obtain ⟨t, t1, t2⟩ := val p hp e h0
        omega
      · rw [old41 q e']
        exact r5 p q hp hq hne h0
  · have last : (((nx + 1) % 8 + 8 - (if c = 8 then 8 else c + 1) + k) % 8 = nx) → pvN c pv v k = v → ∃ t : Nat, h4.vl 41 (((nx + 1) % 8 + 8 - (if c = 8 then 8 else c + 1) + k) % 8) = (t : Int) ∧ SvR h4 a t (pvN c pv v k) := fun e1 e2 => by
      rw [e1, e2]
      exact ⟨s, by rw [rw41]; exact q2, b5⟩
    have other : ∀ k0, k0 < c → (((nx + 1) % 8 + 8 - (if c = 8 then 8 else c + 1) + k) % 8 = (nx + 8 - c + k0) % 8) → (nx + 8 - c + k0) % 8 ≠ nx → pvN c pv v k = pv k0 → ∃ t : Nat, h4.vl 41 (((nx + 1) % 8 + 8 - (if c = 8 then 8 else c + 1) + k) % 8) = (t : Int) ∧ SvR h4 a t (pvN c pv v k) := fun k0 hk0 e1 e2 e3 => by
      obtain ⟨t, t1, t2⟩ := r6 k0 hk0
      obtain ⟨x1, -, -, x4⟩ := oth4 _ t (Nat.mod_lt _ (by decide)) e2 t1
      rw [e1, e3]
      exact ⟨t, x1, x4 _ t2⟩
    by_cases z : c = 8
    · rw [if_pos z] at hk
      by_cases y : k < 7
      · refine other (k + 1) (by omega) (by rw [if_pos z]; omega) (by omega) ?_
        unfold pvN
        rw [if_pos z, if_pos y]
      · refine last (by rw [if_pos z]; omega) ?_
        unfold pvN
        rw [if_pos z, if_neg y]
    · rw [if_neg z] at hk
      by_cases y : k < c
      · refine other k y (by rw [if_neg z]; omega) (by omega) ?_
        unfold pvN
        rw [if_neg z, if_pos y]
      · refine last (by rw [if_neg z]; omega) ?_
        unfold pvN
        rw [if_neg z, if_neg y]
set_option maxRecDepth 100000 in
theorem s_pop (g : YA h a K) (f : FSc h a) (r : RgI h a c pv) (hc : 0 < c) : CV mX1_pop 5 [rv 40, rv 31] h (on fun h1 => GC h h1 (fun d j => (d = 40 ∧ (j = 1 ∨ j = 2)) ∨ d = 32 ∨ d = 33 ∨ (d = 31 ∧ 2 ≤ j)) 0 0 ∧ RgI h1 a (c - 1) pv ∧ SvR h1 a 31 (pv (c - 1))) := by
  have hC := g.1
  have n94 := hC.1
  obtain ⟨c8, r1, nx, r2, r3, r4, r5, r6⟩ := id r
  obtain ⟨m, hm⟩ : ∃ m, m = (nx + 7) % 8 := ⟨_, rfl⟩
  obtain ⟨s, s1, s2⟩ := r6 (c - 1) (by omega)
  rw [show (nx + 8 - c + (c - 1)) % 8 = m by omega] at s1
  have m8 : m < 8 := by omega
  refine cv_of cdX1_pop ?_
  show EV _ _ 0 [rv 40, rv 31] [] h _
  refine ev_aload_n dX1_pop_0 rfl ?_
  refine ev_aload_n dX1_pop_1 rfl ?_
  refine ev_getiv dX1_pop_2 fX1_17 hC.k40 hC.n40 rfl r2 ?_
  refine ev_iconst dX1_pop_5 ?_
  refine ev_isub dX1_pop_6 (by unfold ir; omega) ?_
  refine ev_bipush dX1_pop_7 ?_
  refine ev_mfm dX1_pop_9 q_1231 (by decide) rfl rfl (by omega) (by omega) ?_
  refine ev_pt dX1_pop_12 fX1_17 hC.k40 hC.n40 rfl ?_
  obtain ⟨h1, e1⟩ : ∃ h1, h1 = h.put 40 1 (((nx : Int) - 1) % 8) := ⟨_, rfl⟩
  rw [← e1]
  have v1 : ∀ d j, ¬ (d = 40 ∧ j = 1) → h1.vl d j = h.vl d j := fun d j hn => by rw [e1, AH.put_vl, if_neg hn]
  have gc1 : GC h h1 (fun d j => d = 40 ∧ (j = 1 ∨ j = 2)) 0 0 := ⟨⟨by rw [e1]; exact Nat.le_refl _, fun d _ => by rw [e1]; rfl, fun d j _ hn => v1 d j (fun z => hn ⟨z.1, Or.inl z.2⟩)⟩, by rw [e1]; exact Nat.le_refl _, by rw [e1]; exact Nat.le_refl _⟩
  have ok1 : ∀ d j, (d = 40 ∧ (j = 1 ∨ j = 2)) → OkC h d j := fun d j z => (PsC.ok (h := h) (Or.inr (Or.inl z))).1
  have g1 := g.gf gc1.1 ok1
  have f1 := (f.gf g gc1.1 ok1).1
  have p1 := gc1.1.pr ok1 g f
  have hC1 := g1.1
  have nxv : h1.vl 40 1 = (m : Int) := by rw [e1, AH.put_vl, if_pos ⟨rfl, rfl⟩]; omega
  have c1 : h1.vl 40 2 = (c : Int) := by rw [v1 40 2 (fun z => absurd z.2 (by decide))]; exact r1
  have b1 : SvR h1 a s (pv (c - 1)) := s2.pr p1 (funext fun j => v1 s j (fun z => by
    obtain ⟨_, _, _, _, w⟩ := s2
    have := w.1.1
    rw [z.1, hC.k40] at this
    exact absurd this (by decide))) (funext fun j => v1 _ j (fun z => by
    obtain ⟨_, _, _, _, w⟩ := s2
    have := w.1.2.2.2.1
    rw [z.1, hC.k40] at this
    exact absurd this (by decide))) (funext fun j => v1 _ j (fun z => by
    obtain ⟨_, _, _, _, w⟩ := s2
    have := w.1.2.2.2.2.2.2.1
    rw [z.1, hC.k40] at this
    exact absurd this (by decide)))
  have s94 : 94 ≤ s := by
    rcases r4 m m8 with w | ⟨t, w1, w2, -⟩
    · omega
    · omega
  have s1' : h1.vl 41 m = (s : Int) := by rw [v1 41 m (fun z => absurd z.1 (by decide))]; exact s1
  refine ev_aload_n dX1_pop_15 rfl ?_
  refine ev_aload_n dX1_pop_16 rfl ?_
  refine ev_aload_n dX1_pop_17 rfl ?_
  refine ev_getiv dX1_pop_18 fX1_17 hC1.k40 hC1.n40 rfl nxv ?_
  refine ev_cvr dX1_pop_21 lX1_21 (s_stateAt1 hC1 m8 s1') (by decide) hC1.k40 hC1.n40 rfl rfl rfl (Nat.le_of_ble_eq_true rfl) rfl (fun x h1' q => ?_)
  obtain ⟨ex, eh⟩ := q
  rw [ex, eh]
  obtain ⟨N, LL, kp, b2, b3⟩ := id b1
  refine ev_cvv dX1_pop_24 lX1_25 (s_take hC1.st31 b3.1 (by omega) b3.ok.1 b3.ok.2) (by decide) hC1.k31 hC1.n31 rfl rfl rfl (Nat.le_of_ble_eq_true rfl) rfl (fun h2 q => ?_)
  obtain ⟨k2, -⟩ := id q
  have cc : ∀ d j, (d ∈ [32, 33] ∨ (d, j) ∈ [(31, 2), (31, 3), (31, 4)]) → d = 32 ∨ d = 33 ∨ (d = 31 ∧ 2 ≤ j) := fun d j z => by
    rcases z with z | z
    · simp at z; omega
    · simp at z; omega
  have gc2 : GC h1 h2 (fun d j => d = 32 ∨ d = 33 ∨ (d = 31 ∧ 2 ≤ j)) 0 0 := k2.gc.wk cc (Nat.le_refl _) (Nat.le_refl _)
  have ok2 : ∀ d j, (d = 32 ∨ d = 33 ∨ (d = 31 ∧ 2 ≤ j)) → OkC h1 d j := fun d j z => by
    refine ⟨fun m => ?_, Or.inl (by omega)⟩
    have : CIs.all (fun q => decide (¬ (q.1 = 32 ∨ q.1 = 33 ∨ (q.1 = 31 ∧ 2 ≤ q.2)))) = true := by decide
    exact of_decide_eq_true (List.all_eq_true.mp this _ m) z
  have g2 := g1.gf gc2.1 ok2
  have hC2 := g2.1
  have f2 := (f1.gf g1 gc2.1 ok2).1
  have p2 := gc2.1.pr ok2 g1 f1
  have b4 : SvR h2 a 31 (pv (c - 1)) := ⟨N, LL, kp, b2, b3.tk (N' := N) (LL' := LL) (kp' := kp) (g' := 0) (e' := 0) (tb := 0) (kb := 0) hC1.st31 q p2⟩
  have lo2 : ∀ d j, d ≠ 31 → d ≠ 32 → d ≠ 33 → d < h1.n → h2.vl d j = h1.vl d j := fun d j d1 d2 d3 d4 => gc2.1.2.2 d j d4 (fun z => by omega)
  have n1 := hC1.1
  have c2 : h2.vl 40 2 = (c : Int) := by rw [lo2 40 2 (by decide) (by decide) (by decide) (by omega)]; exact c1
  refine ev_aload_n dX1_pop_27 rfl ?_
  refine ev_aload_n dX1_pop_28 rfl ?_
  refine ev_getiv dX1_pop_29 fX1_35 hC2.k40 hC2.n40 rfl c2 ?_
  refine ev_iconst dX1_pop_32 ?_
  refine ev_isub dX1_pop_33 (by unfold ir; omega) ?_
  refine ev_iconst dX1_pop_34 ?_
  refine ev_mmax dX1_pop_35 q_1746 q_689 q_169 q_690 rfl ?_
  refine ev_pt dX1_pop_38 fX1_35 hC2.k40 hC2.n40 rfl ?_
  obtain ⟨h3, e3⟩ : ∃ h3, h3 = h2.put 40 2 (if (c : Int) - 1 < 0 then 0 else (c : Int) - 1) := ⟨_, rfl⟩
  rw [← e3]
  have v3 : ∀ d j, ¬ (d = 40 ∧ j = 2) → h3.vl d j = h2.vl d j := fun d j hn => by rw [e3, AH.put_vl, if_neg hn]
  have gc3 : GC h2 h3 (fun d j => d = 40 ∧ (j = 1 ∨ j = 2)) 0 0 := ⟨⟨by rw [e3]; exact Nat.le_refl _, fun d _ => by rw [e3]; rfl, fun d j _ hn => v3 d j (fun z => hn ⟨z.1, Or.inr z.2⟩)⟩, by rw [e3]; exact Nat.le_refl _, by rw [e3]; exact Nat.le_refl _⟩
  have ok3 : ∀ d j, (d = 40 ∧ (j = 1 ∨ j = 2)) → OkC h2 d j := fun d j z => (PsC.ok (h := h2) (Or.inr (Or.inl z))).1
  have p3 := gc3.1.pr ok3 g2 f2
  have p13 := (p1.tr p2).tr p3
  have b5 : SvR h3 a 31 (pv (c - 1)) := b4.pr p3 (funext fun j => v3 31 j (fun z => by omega)) (funext fun j => v3 32 j (fun z => by omega)) (funext fun j => v3 33 j (fun z => by omega))
  have far : ∀ d, 41 ≤ d → d < h.n → h3.vl d = h.vl d := fun d d1 d2 => funext fun j => by
    rw [v3 d j (fun z => by omega), lo2 d j (by omega) (by omega) (by omega) (by have := gc1.1.1; omega), v1 d j (fun z => by omega)]
  refine ev_vret dX1_pop_41 (⟨rfl, ((gc1.wk (fun _ _ z => Or.inl z) (Nat.le_refl _) (Nat.le_refl _)).tr' gc2 (fun d j _ z => Or.inr z)).tr' gc3 (fun d j _ z => Or.inl z), ⟨by omega, ?_, m, ?_, m8, fun p hp => ?_, fun p q hp hq hne h0 => ?_, fun k hk => ?_⟩, b5⟩)
  · rw [e3, AH.put_vl, if_pos ⟨rfl, rfl⟩, if_neg (by omega)]
    omega
  · rw [v3 40 1 (fun z => absurd z.2 (by decide)), lo2 40 1 (by decide) (by decide) (by decide) (by omega)]
    exact nxv
  · rw [far 41 (by decide) (by omega)]
    rcases r4 p hp with w | ⟨t, w1, w2, w3⟩
    · exact Or.inl w
    · exact Or.inr ⟨t, w1, w2, w3.pe p13 (far t (by omega) w3.2.1)⟩
  · rw [far 41 (by decide) (by omega)] at h0 ⊢
    exact r5 p q hp hq hne h0
  · obtain ⟨t, t1, t2⟩ := r6 k (by omega)
    have em : (m + 8 - (c - 1) + k) % 8 = (nx + 8 - c + k) % 8 := by omega
    rw [em, far 41 (by decide) (by omega)]
    have t94 : 94 ≤ t := by
      rcases r4 _ (Nat.mod_lt (nx + 8 - c + k) (by decide)) with w | ⟨t', w1, w2, -⟩
      · omega
      · omega
    obtain ⟨_, _, _, _, w⟩ := id t2
    exact ⟨t, t1, t2.pr p13 (far t (by omega) w.1.2.1) (far _ (by omega) w.1.2.2.2.2.1) (far _ (by omega) w.1.2.2.2.2.2.2.2)⟩
set_option maxRecDepth 100000 in
theorem s_clearH (hC : CI h) : CV mX1_clear 1 [rv 40] h (on fun h1 => h1 = h.put 40 2 0) := by
  refine cv_of cdX1_clear ?_
  show EV _ _ 0 [rv 40] [] h _
  refine ev_aload_n dX1_clear_0 rfl ?_
  refine ev_iconst dX1_clear_1 ?_
  refine ev_pt dX1_clear_2 fX1_35 hC.k40 hC.n40 rfl ?_
  exact ev_vret dX1_clear_5 (⟨rfl, rfl⟩)
end Pst
