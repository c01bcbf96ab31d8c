/-! the class's graph told by names: one cell more -/
def YG (h : AH) (a : Nat → Nat) (N : Nat) (rr : Nat → Nat) (tr : Nat → TE) (τ : Nat → Nat) (nv : Nat) : Prop := NG (soY (h.vl (a 0))) (h.vl (a 0)) (h.vl (a 1)) (h.vl (a 2)) N rr tr τ nv
theorem YG.w {h : AH} {a : Nat → Nat} {N nv : Nat} {rr : Nat → Nat} {tr : Nat → TE} {τ : Nat → Nat} (g : YG h a N rr tr τ nv) : YW h a N rr tr := ⟨g.1, g.2.1⟩
theorem YG.x {h h1 : AH} {a K a1 K1 : Nat → Nat} {D F : List Nat} {X : Nat → Prop} {N nv e : Nat} {rr : Nat → Nat} {tr : Nat → TE} {τ : Nat → Nat} (g : YG h a N rr tr τ nv) (c : YX h a K h1 a1 K1 D F X e) (hD : 0 ∉ D ∧ 1 ∉ D ∧ 2 ∉ D := by decide) : YG h1 a1 N rr tr τ nv := by
  obtain ⟨e1, e2⟩ := c.2.2.1 0 (by decide) hD.1
  obtain ⟨e3, e4⟩ := c.2.2.1 1 (by decide) hD.2.1
  obtain ⟨e5, e6⟩ := c.2.2.1 2 (by decide) hD.2.2
  unfold YG
  rw [e1, e3, e5, e2, e4, e6]
  exact g
theorem soY_ag {f f' : Nat → Int} {t : Nat} (h : f' t = f t) : soY f' t = soY f t := by unfold soY; rw [h]
/-- a variable or an arrow more -/
theorem YG.add {h h1 : AH} {a a1 : Nat → Nat} {N nv nv' nm x y : Nat} {rr : Nat → Nat} {tr : Nat → TE} {τ : Nat → Nat} {p q : Int} (g : YG h a N rr tr τ nv) (hN : 2 ≤ N) (ad : YAd h a h1 a1 N p q) (hv : (p = -1 ∧ q = -1 ∧ (∀ t, t < N → soY (h.vl (a 0)) t = 3 → τ t ≠ nm) ∧ 2 ≤ nm ∧ nm < nv') ∨ (p = (x : Int) ∧ q = (y : Int) ∧ x < N ∧ y < N)) (hnv : nv ≤ nv') :
    ∃ tr', YG h1 a1 (N + 1) (upN rr N N) tr' (upN τ N nm) nv' ∧ (∀ c, c < N → nmC (upN τ N nm) (tr' c) = nmC τ (tr c)) ∧ nmC (upN τ N nm) (tr' N) = (if p = -1 then .var nm else .op (nmC τ (tr x)) (nmC τ (tr y))) ∧ (p = -1 ↔ soY (h1.vl (a1 0)) N = 3) ∧ ∀ t, t < N → soY (h1.vl (a1 0)) t = soY (h.vl (a 0)) t := by
  obtain ⟨ad0, ad1, ad2, ad3, ad4⟩ := ad
  have es : ∀ t, t < N → soY (h1.vl (a1 0)) t = soY (h.vl (a 0)) t := fun t ht0 => soY_ag (ad0 0 (by decide) t ht0)
  have sN : soY (h1.vl (a1 0)) N = if 0 ≤ p then 2 else 3 := by
    unfold soY
    rw [if_neg (by omega), if_neg (by omega), ad1]
  rcases hv with ⟨rfl, rfl, v1, v2, v3⟩ | ⟨rfl, rfl, v1, v2⟩
  · have := NG.add g (k := 3) (a := 0) (b := 0) (nm := nm) (nv' := nv') (by decide) (fun z => absurd z (by decide)) es (fun t ht0 => ad0 0 (by decide) t ht0) (fun t ht0 => ad0 1 (by decide) t ht0) (fun t ht0 => ad0 2 (by decide) t ht0) (sN.trans (if_neg (by decide))) (fun z => absurd z (by decide)) (fun z => absurd z (by decide)) (by rw [ad3]; decide) (fun _ => ⟨v1, v2, v3⟩) hnv
    obtain ⟨a1', a2', a3'⟩ := this
    exact ⟨_, a1', a2', by rw [a3', if_neg (by decide), if_neg (by decide), if_neg (by decide), if_pos rfl], ⟨fun _ => sN.trans (if_neg (by decide)), fun _ => rfl⟩, es⟩
  · have := NG.add g (k := 2) (a := x) (b := y) (nm := nm) (nv' := nv') (by decide) (fun _ => ⟨v1, v2⟩) es (fun t ht0 => ad0 0 (by decide) t ht0) (fun t ht0 => ad0 1 (by decide) t ht0) (fun t ht0 => ad0 2 (by decide) t ht0) (sN.trans (if_pos (by omega))) (fun _ => ad1) (fun _ => ad2) (by rw [ad3]; decide) (fun z => absurd z (by decide)) hnv
    obtain ⟨a1', a2', a3'⟩ := this
    exact ⟨_, a1', a2', by rw [a3', if_pos rfl, if_neg (by omega)], ⟨fun z => by omega, fun z => by rw [sN, if_pos (by omega)] at z; omega⟩, es⟩
theorem YMk.ad {h h1 : AH} {a K a1 K1 : Nat → Nat} {N : Nat} {p q : Int} (s : YMk h a N) (c : YC h a K h1 a1 K1 [0, 1, 2, 3] [4]) (ad : YAd h a h1 a1 N p q) : YMk h1 a1 (N + 1) := by
  obtain ⟨s1, s2⟩ := s
  have e5 := c.fl 5
  refine ⟨by omega, fun t ht0 => ?_⟩
  by_cases e : t = N
  · rw [e, ad.2.2.2.2]; omega
  · rw [ad.1 3 (by decide) t (by omega), e5]
    exact s2 t (by omega)
