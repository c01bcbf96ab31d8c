/-! lets in the class: what is bound is spelled -/
section Lt1
variable {h0 : AH} {a0 K0 : Nat → Nat} {L : List Nd} {kp : Nat → Option TE} {tc : Nat} {h : AH} {a K : Nat → Nat} {S : IS} {Dn Gn Sn : Nat → Prop} {N sc e yl : Nat} {T : Nat → TE} {τ : Nat → Nat} {st : List (Nat × Int × Int)} {s x gz lz res : Int} {fv : Nat → Int}
/-- a shape for a let is written -/
theorem AtC.sch {h4 h5 : AH} {a5 K5 : Nat → Nat} {sh b e1 : Nat} {r : List Int} (q : AtC h0 a0 K0 L kp tc S Dn Gn Sn N T τ sc st gz lz fv yl res h a K) (hsc : sc < 12) (c4 : YX h a K h4 a K [] [] (fun y => y = 26) e1) (n4 : e1 + snn h = snn h4 ∧ 94 ≤ sh ∧ 94 ≤ b) (w4 : ShC h4 a sh b 200) (f4 : FSc h4 a) (v4 : h4.vl 26 sc = (sh : Int)) (b4 : h4.vl sh 0 = (b : Int)) (o4 : ∀ k, FO h4 k → FO h k ∨ h.n ≤ k) (j4 : ∀ j, j ≠ sc → h4.vl 26 j = h.vl 26 j) (c5 : YX h4 a K h5 a5 K5 [10, 12] [11] (SpX sh b) 0) (k5 : ∀ k, k ≠ 10 → K5 k = K k) (w5 : ShW h5 a5 sh b 200 r) : AtC h0 a0 K0 L kp tc S Dn Gn Sn N T τ sc st gz lz fv yl res h5 a5 K5 ∧ h5.vl 26 sc = (sh : Int) ∧ FSc h5 a5 := by
  obtain ⟨f, hs, hp, hf, ⟨h9, h5'⟩, hv, hy, hr⟩ := q
  have g := f.g
  have g4 := c4.1
  have n94 := g.1.1
  obtain ⟨⟨e0, f1, f2⟩, f3, f4', f5, f6, f7⟩ := id f
  have hn0 : h0.n ≤ h.n := f1.2.1.1
  have no : ∀ y, 18 < y → y < 94 → ¬ SpX sh b y := fun y _ h2 z => by have z : y = sh ∨ y = b := z; omega
  have no8 : ¬ SpX sh b 8 := fun z => by have z : 8 = sh ∨ 8 = b := z; omega
  have v : ∀ y, 18 < y → y < 94 → y ≠ 26 → h5.vl y = h.vl y := fun y h1 h2 h3 => (c5.v (g4.no (Or.inr ⟨h1, h2⟩)) (no y h1 h2)).trans (c4.v (g.no (Or.inr ⟨h1, h2⟩)) h3)
  have v26 : h5.vl 26 = h4.vl 26 := c5.v (g4.no (by decide)) (no 26 (by decide) (by decide))
  have v8 : h5.vl 8 = h.vl 8 := (c5.v (g4.no (by decide)) no8).trans (c4.v (g.no (by decide)) (by decide))
  have ksh := w4.1.1
  have kb := w4.1.2.2.1
  -- the shapes for lets
  have ev : ∀ i t : Nat, i < 12 → h4.vl 26 i = (t : Int) → h5.vl t 0 = h4.vl t 0 := fun i t hi ht0 => by
    by_cases z : t = sh
    · rw [z, b4]; exact w5.1.2.1.1
    · rcases f4.1 i hi with w | ⟨t', d, z1, z2, w⟩
      · omega
      · obtain rfl : t = t' := by omega
        have kt := w.1.1
        rw [c5.v w.2.1.1 (fun y => by
          have y : t = sh ∨ t = b := y
          rcases y with y | y
          · exact z y
          · rw [y, kb] at kt; exact absurd (congrArg Prod.fst kt) (by decide))]
  obtain ⟨F5, o5⟩ := f4.xt g4 c5 (no 26 (by decide) (by decide)) ev
  have x26 : ∀ y, y = 26 → FX h0 y := fun y z => Or.inr (Or.inl (by omega))
  have o4' : ∀ k, FO h4 k → FX h0 k := fun k z => by
    rcases o4 k z with w | w
    · exact f4' k w
    · exact Or.inr (Or.inr (Or.inr (by omega)))
  have xsp : ∀ y, SpX sh b y → FX h0 y := fun y z => by
    have z : y = sh ∨ y = b := z
    refine o4' y ⟨sc, sh, hsc, v4, ?_⟩
    rcases z with z | z
    · exact Or.inl z
    · exact Or.inr (by rw [b4, z])
  have FR : FrW h0 a0 K0 L kp tc h5 a5 K5 := by
    refine ⟨⟨e0 + e1, ?_, ?_⟩, F5, fun k z => o4' k ((o5 k).mp z), (f5.xt c4 x26).xt c5 xsp, (f6.xt g c4 x26).xt g4 c5 xsp, by rw [v8]; exact f7⟩
    · exact (f1.tr (c4.wk (by decide) (by decide) x26 (Nat.le_refl _))).tr (c5.wk (by decide) (by decide) xsp (Nat.le_refl 0))
    · have : snn h5 = snn h4 := by unfold snn; rw [v26]
      omega
  have CS : CSt L S Dn Gn Sn h5 a5 K5 N T τ sc := by
    obtain ⟨s1, s2, s3, s4, s5, s6⟩ := hs
    refine ⟨(s1.xt c4 (fun _ _ => rfl)).xt c5 (fun k hk => k5 k (by omega)), ?_, fun k hk => ?_, fun k hk => ?_, fun d hd => ?_, by rw [v8]; exact s6⟩
    · obtain ⟨t1, t2, t3, t4⟩ := s2
      exact ⟨((c5.fl 9).trans (c4.fl 9)).trans t1, trivial, by rw [k5 7 (by decide), k5 8 (by decide), k5 6 (by decide)]; exact t3, Nat.zero_le _⟩
    · rw [v 23 (by decide) (by decide) (by decide)]; exact s3 k hk
    · rw [v 24 (by decide) (by decide) (by decide)]; exact s4 k hk
    · obtain ⟨b9, i, t, bb, P, xs, d1, d2, d3, d4, d5⟩ := s5 d hd
      have e26 : h4.vl 26 i = (t : Int) := (j4 i (by omega)).trans d3
      have t94 : 94 ≤ t ∧ 94 ≤ bb := by
        rcases f3.1 i (by omega) with w | ⟨t', d', z1, z2, w⟩
        · omega
        · obtain rfl : t = t' := by omega
          have q1 := d4.1.2.1.1
          have q2 := w.1.2.1
          omega
      have d4' := d4.x c4 ⟨fun z => by have z : t = 26 := z; omega, fun z => by have z : bb = 26 := z; omega⟩
      have kt := d4'.1.1.1
      have kbb := d4'.1.2.1.2.1
      have inj := f4.2 i sc t sh bb b (by omega) hsc e26 v4 d4'.1.2.1.1 b4
      refine ⟨b9, i, t, bb, P, xs, d1, by rw [v 25 (by decide) (by decide) (by decide)]; exact d2, by rw [v26]; exact e26, d4'.x c5 ⟨fun z => ?_, fun z => ?_⟩, d5⟩
      · have z : t = sh ∨ t = b := z
        rcases z with z | z
        · have := inj (Or.inl z); omega
        · rw [z, kb] at kt; exact absurd (congrArg Prod.fst kt) (by decide)
      · have z : bb = sh ∨ bb = b := z
        rcases z with z | z
        · rw [z, ksh] at kbb; exact absurd (congrArg Prod.fst kbb) (by decide)
        · have := inj (Or.inr z); omega
  have pp : PtH h5 st := by
    refine (hp.x g c4 (by decide)).x g4 c5 ⟨no 19 (by decide) (by decide), no 20 (by decide) (by decide), no 21 (by decide) (by decide), no 22 (by decide) (by decide)⟩
  exact ⟨⟨FR, CS, pp, hf.xt (fun j _ _ => by rw [v8]), ⟨by rw [v8]; exact h9, ((c5.fl 5).trans (c4.fl 5)).trans h5'⟩, (v 23 (by decide) (by decide) (by decide)).trans hv, ((YL.x c5 N).trans (YL.x c4 N)).trans hy, by rw [v8]; exact hr⟩, by rw [v26]; exact v4, F5⟩
end Lt1
