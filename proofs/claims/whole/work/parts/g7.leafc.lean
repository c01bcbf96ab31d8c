/-! the class goes through a leaf -/
theorem CSt.wk {L : List Nd} {S : IS} {Dn Gn Sn Dn' Gn' Sn' : Nat → Prop} {h : AH} {a K : Nat → Nat} {N sc : Nat} {T : Nat → TE} {τ : Nat → Nat} (s : CSt L S Dn Gn Sn h a K N T τ sc) (hD : ∀ k, Dn' k → Dn k) (hG : ∀ k, Gn' k → Gn k) (hS : ∀ k, Sn' k → Sn k) : CSt L S Dn' Gn' Sn' h a K N T τ sc :=
  ⟨s.1, s.2.1, fun k z => s.2.2.1 k (hD k z), fun k z => s.2.2.2.1 k (hG k z), fun k z => s.2.2.2.2.1 k (hS k z), s.2.2.2.2.2⟩
section GLf
variable {h0 : AH} {a0 K0 : Nat → Nat} {L : List Nd} {kp : Nat → Option TE} {tc : Nat} {h h1 : AH} {a K a1 K1 : Nat → Nat} {S : IS} {Dn Gn Sn : Nat → Prop} {N N1 sc e : Nat} {T T1 : Nat → TE} {τ τ1 : Nat → Nat} {st : List (Nat × Int × Int)} {s x gz : Int}
theorem fdx_ok : (¬ FdX 25 ∧ ¬ FdX 26) ∧ ∀ s, 94 ≤ s → ¬ FdX s := ⟨by decide, fun s hs z => by have z : s = 8 ∨ (19 ≤ s ∧ s ≤ 23) := z; omega⟩
/-- the types stay, the path moves -/
theorem CSt.fr (s : CSt L S Dn Gn Sn h a K N T τ sc) (f : FrW h0 a0 K0 L kp tc h a K) (hsc : sc ≤ 12) (c : YX h a K h1 a K [] [] FdX 0) (h23 : h1.vl 23 = h.vl 23) (h6 : h1.vl 8 6 = h.vl 8 6) (h7 : h1.vl 8 7 = h.vl 8 7) : CSt L S Dn Gn Sn h1 a K N T τ sc ∧ FrW h0 a0 K0 L kp tc h1 a K := by
  have g := f.g
  have h24 : h1.vl 24 = h.vl 24 := c.v (g.no (by decide)) (by decide)
  refine ⟨s.go (S1 := S) (σ := []) c fdx_ok (s.1.xt c (fun _ _ => rfl)) ?_ (Nat.le_refl _) (fun _ _ => rfl) ⟨Nat.le_refl _, fun _ z => z⟩ (fun _ _ => rfl) (fun k _ => ⟨by rw [h23], rfl⟩) (fun k _ => ⟨by rw [h24], rfl⟩) (fun b _ => ⟨rfl, fun _ _ => rfl⟩) h6 f.2.1 hsc, f.st c h7 (by decide) fdx_ok.2 (fun y z => z.imp id (fun w => by omega))⟩
  obtain ⟨t1, t2, t3, t4⟩ := s.2.1
  exact ⟨(c.fl 9).trans t1, trivial, t3, t4⟩
/-- the types grow -/
theorem CSt.gr (s : CSt L S Dn Gn Sn h a K N T τ sc) (f : FrW h0 a0 K0 L kp tc h a K) (hsc : sc ≤ 12) {nv' : Nat} (hnv : S.1 ≤ nv') (u : YU h a K N T h1 N1 T1 τ1 nv') : ∃ a1 K1, CSt L (nv', S.2) Dn Gn Sn h1 a1 K1 N1 T1 τ1 sc ∧ FrW h0 a0 K0 L kp tc h1 a1 K1 ∧ (N ≤ N1 ∧ YL h1 a1 N1 + N ≤ YL h a N + N1) ∧ (∀ c, c < N → T1 c = T c) ∧ YX h a K h1 a1 K1 [0, 1, 2, 3, 10, 12] [4, 11] (fun _ => False) 0 := by
  obtain ⟨a1, K1, c, k, ys, n, t⟩ := u
  have g := f.g
  have v : ∀ y, 18 < y → y < 94 → h1.vl y = h.vl y := fun y h1 h2 => c.v (g.no (Or.inr ⟨h1, h2⟩)) (fun z => z)
  have v8 : h1.vl 8 = h.vl 8 := c.v (g.no (Or.inl (by decide))) (fun z => z)
  refine ⟨a1, K1, s.go (S1 := (nv', S.2)) (σ := []) c ⟨⟨fun z => z, fun z => z⟩, fun _ _ z => z⟩ ys ?_ n.1 t ⟨hnv, fun _ z => z⟩ (fun _ _ => rfl) (fun k _ => ⟨by rw [v 23 (by decide) (by decide)], rfl⟩) (fun k _ => ⟨by rw [v 24 (by decide) (by decide)], rfl⟩) (fun b _ => ⟨rfl, fun _ _ => rfl⟩) (by rw [v8]) f.2.1 hsc, f.st c (by rw [v8]) (fun z => z) (fun _ _ z => z) (fun _ z => z.elim), n, t, c⟩
  obtain ⟨t1, t2, t3, t4⟩ := s.2.1
  exact ⟨(c.fl 9).trans t1, trivial, by rw [k 7 (by decide) (by decide), k 8 (by decide) (by decide), k 6 (by decide) (by decide)]; exact t3, Nat.zero_le _⟩
theorem FlC.xt (r : FlC h (0, -1, -1, -1)) (hv : ∀ j, j ≠ 8 → j ≠ 9 → h1.vl 8 j = h.vl 8 j) : FlC h1 (0, -1, -1, -1) := by
  obtain ⟨r1, r2, r3, r4⟩ := r
  exact ⟨(hv 10 (by decide) (by decide)).trans r1, (hv 11 (by decide) (by decide)).trans r2, (hv 12 (by decide) (by decide)).trans r3, (hv 13 (by decide) (by decide)).trans r4⟩
/-- a node's end -/
theorem s_endC {c : Nat} {X : TE} {nv' : Nat} (f : FrW h0 a0 K0 L kp tc h a K) (hs : CSt L (nv', S.2) Dn Gn Sn h a K N T τ sc) (hsc : sc ≤ 12) (p : PtH h ((e, s, x) :: st)) (he : e < 120) (hc : c < N) (hX : T c = X) (hSe : ∀ b, Sn b → fstN L b ≠ e) : CV mX0_end 3 [rv 8, iv (e : Int), iv (c : Int)] h (on fun h1 => FrW h0 a0 K0 L kp tc h1 a K ∧ CSt L (isF S e X nv') (fun k => Dn k ∨ k = e) Gn Sn h1 a K N T τ sc ∧ PtH h1 st ∧ h1.vl 8 8 = (c : Int) ∧ (∀ j, j ≠ 8 → h1.vl 8 j = h.vl 8 j) ∧ YX h a K h1 a K [] [] FdX 0 ∧ h1.vl 23 e = (c : Int) ∧ ∀ k, k ≠ e → h1.vl 23 k = h.vl 23 k) := by
  refine cv_mono (s_endF f.g p he) fun o h1 q => ?_
  obtain ⟨e0, c1, p1, v23, v88, v8⟩ := q
  have g := f.g
  have h24 : h1.vl 24 = h.vl 24 := c1.v (g.no (by decide)) (by decide)
  refine ⟨e0, f.st c1 (v8 7 (by decide)) (by decide) fdx_ok.2 (fun y z => z.imp id (fun w => by omega)), ?_, p1, v88, v8, c1, by rw [v23, if_pos rfl], fun k hk => by rw [v23, if_neg hk]⟩
  have s1 : CSt L (isF S e X nv') (fun k => Dn k ∧ k ≠ e) Gn Sn h1 a K N T τ sc := by
    refine (hs.wk (Dn' := fun k => Dn k ∧ k ≠ e) (fun k z => z.1) (fun _ z => z) (fun _ z => z)).go (S1 := isF S e X nv') (σ := []) c1 fdx_ok (hs.1.xt c1 (fun _ _ => rfl)) ?_ (Nat.le_refl _) (fun _ _ => rfl) ⟨Nat.le_refl _, fun _ z => z⟩ (fun _ _ => rfl) (fun k z => ⟨by rw [v23, if_neg z.2], upT_n z.2⟩) (fun k _ => ⟨by rw [h24], rfl⟩) (fun b z => ⟨upT_n (hSe b z), fun _ _ => rfl⟩) (v8 6 (by decide)) f.2.1 hsc
    obtain ⟨t1, t2, t3, t4⟩ := hs.2.1
    exact ⟨(c1.fl 9).trans t1, trivial, t3, t4⟩
  obtain ⟨q1, q2, q3, q4⟩ := s1
  refine ⟨q1, q2, fun k z => ?_, q4⟩
  by_cases hk : k = e
  · subst hk
    exact ⟨he, c, hc, by rw [v23, if_pos rfl], by rw [hX]; exact (upT_s (f := S.2.1)).symm⟩
  · exact q3 k ⟨z.resolve_right hk, hk⟩
end GLf
