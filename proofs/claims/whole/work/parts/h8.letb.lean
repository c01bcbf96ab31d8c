/-! lets in the class: behind what is bound -/
section Lt2
variable {h0 : AH} {a0 K0 : Nat → Nat} {L : List Nd} {kp : Nat → Option TE} {tc : Nat} {h : AH} {a K : Nat → Nat} {S : IS} {Dn Gn Sn : Nat → Prop} {N sc e yl : Nat} {T : Nat → TE} {τ : Nat → Nat} {st : List (Nat × Int × Int)} {s x gz lz res : Int} {fv : Nat → Int}
/-- the let's shape is noted -/
theorem AtC.sno {h1 h2 : AH} {sh b : Nat} {P : TE} {xs : List Nat} (q : AtC h0 a0 K0 L kp tc S Dn Gn Sn N T τ sc st gz lz fv yl res h a K) (hsc : sc < 12) (he : e < 120) (hSne : ¬ Sn e) (e1 : h1 = h.put 25 e (sc : Int)) (e2 : h2 = h1.put 8 6 ((sc : Int) + 1)) (v26 : h.vl 26 sc = (sh : Int)) (w : ShW h a sh b 200 (rowT P)) (hb : 94 ≤ sh ∧ 94 ≤ b) (hP : SchP L (isGn L S e) N T e P xs) : AtC h0 a0 K0 L kp tc (isGn L S e) Dn Gn (fun d => Sn d ∨ d = e) N T τ (sc + 1) st gz lz fv yl res h2 a K := by
  obtain ⟨f, hs, hp, hf, ⟨h9, h5⟩, hv, hy, hr⟩ := q
  have g := f.g
  have c1 : YX h a K h1 a K [] [] (fun y => y = 25) 0 := by rw [e1]; exact g.pp ⟨by decide, cis_c (by decide)⟩
  have g1 := c1.1
  have c2 : YX h1 a K h2 a K [] [] (fun y => y = 8) 0 := by rw [e2]; exact g1.pp ⟨by decide, by decide⟩
  have f1 := f.st c1 (by rw [c1.v (g.no (by decide)) (by decide)]) (by decide) (fun s hs z => by have z : s = 25 := z; omega) (fun y z => Or.inr (by omega))
  have v8 : ∀ j, j ≠ 6 → h2.vl 8 j = h.vl 8 j := fun j hj => by
    rw [e2, AH.put_vl, if_neg (fun z => hj z.2), c1.v (g.no (by decide)) (by decide)]
  have v86 : h2.vl 8 6 = (sc : Int) + 1 := by rw [e2, AH.put_vl, if_pos ⟨rfl, rfl⟩]
  have f2 := f1.st c2 (by rw [v8 7 (by decide), c1.v (g.no (by decide)) (by decide)]) (by decide) (fun s hs z => by have z : s = 8 := z; omega) (fun y z => Or.inl z)
  have v : ∀ y, 18 < y → y < 94 → y ≠ 25 → h2.vl y = h.vl y := fun y h1 h2 h3 => (c2.v (g1.no (Or.inr ⟨h1, h2⟩)) (by show ¬ y = 8; omega)).trans (c1.v (g.no (Or.inr ⟨h1, h2⟩)) h3)
  have v25 : ∀ k, h2.vl 25 k = if k = e then (sc : Int) else h.vl 25 k := fun k => by
    rw [c2.v (g1.no (by decide)) (by decide), e1, AH.put_vl]
    by_cases z : k = e
    · rw [if_pos ⟨rfl, z⟩, if_pos z]
    · rw [if_neg (fun w => z w.2), if_neg z]
  have sx : ∀ (t bb : Nat) (r : List Int), 94 ≤ t → 94 ≤ bb → ShW h a t bb 200 r → ShW h2 a t bb 200 r := fun t bb r h1 h2 w => (w.x c1 ⟨fun z => by have z : t = 25 := z; omega, fun z => by have z : bb = 25 := z; omega⟩).x c2 ⟨fun z => by have z : t = 8 := z; omega, fun z => by have z : bb = 8 := z; omega⟩
  obtain ⟨s1, s2, s3, s4, s5, s6⟩ := hs
  refine ⟨f2, ⟨(s1.xt c1 (fun _ _ => rfl)).xt c2 (fun _ _ => rfl), ?_, fun k hk => ?_, fun k hk => ?_, fun d hd => ?_, by rw [v86]; rfl⟩, (hp.x g c1 (by decide)).x g1 c2 (by decide), ⟨(v8 10 (by decide)).trans hf.1, (v8 11 (by decide)).trans hf.2.1, (v8 12 (by decide)).trans hf.2.2.1, (v8 13 (by decide)).trans hf.2.2.2⟩, ⟨(v8 9 (by decide)).trans h9, ((c2.fl 5).trans (c1.fl 5)).trans h5⟩, (v 23 (by decide) (by decide) (by decide)).trans hv, ((YL.x c2 N).trans (YL.x c1 N)).trans hy, (v8 8 (by decide)).trans hr⟩
  · obtain ⟨t1, t2, t3, t4⟩ := s2
    exact ⟨((c2.fl 9).trans (c1.fl 9)).trans t1, trivial, t3, t4⟩
  · rw [v 23 (by decide) (by decide) (by decide)]; exact s3 k hk
  · rw [v 24 (by decide) (by decide) (by decide)]; exact s4 k hk
  · rcases hd with hd | rfl
    · obtain ⟨b9, i, t, bb, P', xs', d1, d2, d3, d4, d5⟩ := s5 d hd
      have t94 : 94 ≤ t ∧ 94 ≤ bb := by
        rcases f.2.1.1 i (by omega) with w | ⟨t', d', z1, z2, w⟩
        · omega
        · obtain rfl : t = t' := by omega
          have q1 := d4.1.2.1.1
          have q2 := w.1.2.1
          omega
      refine ⟨b9, i, t, bb, P', xs', by omega, ?_, ?_, sx _ _ _ t94.1 t94.2 d4, ?_⟩
      · rw [v25, if_neg (fun z => hSne (by rw [← z]; exact hd))]; exact d2
      · rw [v 26 (by decide) (by decide) (by decide)]; exact d3
      · exact d5.st (S' := isGn L S e) (σ := []) (Nat.le_refl _) (fun x hx => by show (S.2.2.2 x || _) = true; rw [hx]; rfl) (fun _ _ => rfl) rfl (fun _ _ => rfl) (Nat.le_refl _) (fun _ _ => rfl)
    · exact ⟨he, sc, sh, b, P, xs, Nat.lt_succ_self _, by rw [v25, if_pos rfl], by rw [v 26 (by decide) (by decide) (by decide)]; exact v26, sx _ _ _ hb.1 hb.2 w, hP⟩
end Lt2
