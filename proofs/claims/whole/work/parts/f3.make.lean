/-! a type is made of a shape: the class -/
/-- the trees of the cells, their variables named by τ -/
def YT (h : AH) (a : Nat → Nat) (N : Nat) (T : Nat → TE) (τ : Nat → Nat) (nv : Nat) : Prop := ∃ rr tr, YG h a N rr tr τ nv ∧ ∀ c, c < N → nmC τ (tr c) = T c
theorem YT.x {h h1 : AH} {a K a1 K1 : Nat → Nat} {D F : List Nat} {X : Nat → Prop} {N nv e : Nat} {T : Nat → TE} {τ : Nat → Nat} (g : YT h a N T τ nv) (c : YX h a K h1 a1 K1 D F X e) (hD : 0 ∉ D ∧ 1 ∉ D ∧ 2 ∉ D := by decide) : YT h1 a1 N T τ nv := by
  obtain ⟨rr, tr, g1, g2⟩ := g
  exact ⟨rr, tr, g1.x c hD, g2⟩
theorem YT.add {h h1 : AH} {a a1 : Nat → Nat} {N nv nv' nm x y : Nat} {T : Nat → TE} {τ : Nat → Nat} {p q : Int} (g : YT h a N T τ nv) (hN : 2 ≤ N) (ad : YAd h a h1 a1 N p q) (hv : (p = -1 ∧ q = -1 ∧ (∀ t, t < N → soY (h.vl (a 0)) t = 3 → τ t ≠ nm) ∧ 2 ≤ nm ∧ nm < nv') ∨ (p = (x : Int) ∧ q = (y : Int) ∧ x < N ∧ y < N)) (hnv : nv ≤ nv') :
    YT h1 a1 (N + 1) (upT T N (if p = -1 then .var nm else .op (T x) (T y))) (upN τ N nm) nv' ∧ (p = -1 ↔ soY (h1.vl (a1 0)) N = 3) ∧ ∀ t, t < N → soY (h1.vl (a1 0)) t = soY (h.vl (a 0)) t := by
  obtain ⟨rr, tr, g1, g2⟩ := g
  obtain ⟨tr', q1, q2, q3, q4, q5⟩ := g1.add hN ad hv hnv
  refine ⟨⟨_, tr', q1, fun c hc => ?_⟩, q4, q5⟩
  by_cases e : c = N
  · rw [e, q3, upT_s]
    rcases hv with ⟨rfl, rfl, v1, v2, v3⟩ | ⟨rfl, rfl, v1, v2⟩
    · rw [if_pos rfl, if_pos rfl]
    · rw [if_neg (by omega), if_neg (by omega), g2 x v1, g2 y v2]
  · rw [q2 c (by omega), upT_n e]
    exact g2 c (by omega)
/-- how many cells stand for themselves -/
def YL (h : AH) (a : Nat → Nat) (N : Nat) : Nat := cU (h.vl (a 2)) [] N
theorem YL.x {h h1 : AH} {a K a1 K1 : Nat → Nat} {D F : List Nat} {X : Nat → Prop} {e : Nat} (c : YX h a K h1 a1 K1 D F X e) (N : Nat) (hD : 2 ∉ D := by decide) : YL h1 a1 N = YL h a N := by
  obtain ⟨e1, e2⟩ := c.2.2.1 2 (by decide) hD
  unfold YL
  rw [e1, e2]
theorem YL.ad {h h1 : AH} {a a1 : Nat → Nat} {N : Nat} {p q : Int} (ad : YAd h a h1 a1 N p q) : YL h1 a1 (N + 1) ≤ YL h a N + 1 := by
  unfold YL
  rw [cU]
  have := cU_le (li := h.vl (a 2)) (li' := h1.vl (a1 2)) (S := []) (S' := []) N (fun c hc h1 h2 => ⟨by rw [← ad.1 2 (by decide) c hc]; exact h1, h2⟩)
  split <;> omega
/-- what stands while a shape is made: the class's invariant -/
def MkY (h0 : AH) (a0 K0 : Nat → Nat) (N0 : Nat) (T0 : Nat → TE) (nv nv' : Nat) (nm : Nat → Nat) (h : AH) (a K : Nat → Nat) (M : Nat) (T : Nat → TE) (τ : Nat → Nat) (st : List Nat) : Prop :=
  YX h0 a0 K0 h a K [0, 1, 2, 3, 10, 12] [4, 11] (fun _ => False) 0 ∧ (∀ k, 4 ≤ k → k ≠ 10 → K k = K0 k) ∧ YB h K M ∧ YT h a M T τ nv' ∧ YMk h a M ∧ YTr h a K st ∧ (N0 ≤ M ∧ 2 ≤ N0 ∧ (∀ c, c < N0 → T c = T0 c) ∧ YL h a M + N0 ≤ YL h0 a0 N0 + M) ∧
  (∀ t, t < M → soY (h.vl (a 0)) t = 3 → τ t < nv ∨ ∃ x, 2 ≤ x ∧ x < 202 ∧ τ t = nm x ∧ h.vl (a 12) (x - 2) = (t : Int)) ∧ ∀ j, j < 200 → h.vl (a 12) j = -1 ∨ ∃ c : Nat, c < M ∧ h.vl (a 12) j = (c : Int) ∧ T c = .var (nm (j + 2))
section MkYs
variable {h0 : AH} {a0 K0 : Nat → Nat} {N0 : Nat} {T0 : Nat → TE} {nv nv' : Nat} {nm : Nat → Nat} {h : AH} {a K : Nat → Nat} {M : Nat} {T : Nat → TE} {τ : Nat → Nat} {st : List Nat}
theorem MkY.mv (c : MkY h0 a0 K0 N0 T0 nv nv' nm h a K M T τ st) {h1 : AH} {a1 K1 : Nat → Nat} {st1 : List Nat} (d : YC h a K h1 a1 K1 [10] [11]) (hK : ∀ k, k ≠ 10 → K1 k = K k) (t : YTr h1 a1 K1 st1) : MkY h0 a0 K0 N0 T0 nv nv' nm h1 a1 K1 M T τ st1 := by
  obtain ⟨c1, c2, c3, c4, c5, c6, c7, c8, c9⟩ := c
  have dx := d.x (X := fun _ => False)
  obtain ⟨e0, f0⟩ := d.rw' 0
  obtain ⟨e1, f1⟩ := d.rw' 12
  refine ⟨c1.tr (dx.wk (by decide) (by decide) (fun _ z => z) (Nat.le_refl _)), fun k k4 k10 => (hK k k10).trans (c2 k k4 k10), c3.x dx (fun k hk => hK k (by omega)), c4.x dx, c5.x dx, t, ⟨c7.1, c7.2.1, c7.2.2.1, by rw [YL.x dx]; exact c7.2.2.2⟩, ?_, ?_⟩
  · rw [e0, f0, e1, f1]; exact c8
  · rw [e1, f1]; exact c9
theorem MkY.arr (c : MkY h0 a0 K0 N0 T0 nv nv' nm h a K M T τ st) {h1 : AH} {x y : Nat} (hx : x < M) (hy : y < M) (q : YAQ h a K M (x : Int) (y : Int) h1) : ∃ a1 K1 τ1, MkY h0 a0 K0 N0 T0 nv nv' nm h1 a1 K1 (M + 1) (upT T M (.op (T x) (T y))) τ1 st := by
  obtain ⟨c1, c2, c3, c4, c5, c6, ⟨c7, c7', c7'', c7l⟩, c8, c9⟩ := c
  obtain ⟨a1, K1, d, q2, q3, q4⟩ := q
  have dx := d.x (X := fun _ => False)
  obtain ⟨e1, f1⟩ := d.rw' 12
  obtain ⟨u1, u2, u3⟩ := c4.add (nm := 0) (by omega) q3 (Or.inr ⟨rfl, rfl, hx, hy⟩) (Nat.le_refl _)
  rw [if_neg (by omega)] at u1
  refine ⟨a1, K1, _, c1.tr (dx.wk (by decide) (by decide) (fun _ z => z) (Nat.le_refl _)), fun k k4 k10 => (q4 k k4).trans (c2 k k4 k10), q2, u1, c5.ad d q3, c6.x dx (q4 10 (by decide)), ⟨by omega, c7', fun c hc => by rw [upT_n (by omega)]; exact c7'' c hc, by have := YL.ad q3; omega⟩, ?_, ?_⟩
  · intro t ht0 h3
    have n : t ≠ M := fun z => by
      rw [z] at h3
      have := u2.mpr h3
      omega
    rw [u3 t (by omega)] at h3
    rw [upN_n n, e1, f1]
    exact c8 t (by omega) h3
  · intro j hj
    rw [e1, f1]
    rcases c9 j hj with z | ⟨k, k1, k2, k3⟩
    · exact Or.inl z
    · exact Or.inr ⟨k, by omega, k2, by rw [upT_n (by omega)]; exact k3⟩
theorem MkY.vr (c : MkY h0 a0 K0 N0 T0 nv nv' nm h a K M T τ st) {h1 h2 : AH} {x : Nat} (hx : 2 ≤ x ∧ x < 202) (hn : nv ≤ nm x ∧ 2 ≤ nm x ∧ nm x < nv') (hi : ∀ y, 2 ≤ y → y < 202 → nm y = nm x → y = x) (h12 : h.vl (a 12) (x - 2) = -1) (q : YAQ h a K M (-1) (-1) h1) (h2e : ∀ a1 : Nat → Nat, a1 12 = a 12 → h2 = h1.put (a1 12) (x - 2) (M : Int)) : ∃ a1 K1 τ1, MkY h0 a0 K0 N0 T0 nv nv' nm h2 a1 K1 (M + 1) (upT T M (.var (nm x))) τ1 st ∧ h2.vl (a1 12) (x - 2) = (M : Int) := by
  obtain ⟨c1, c2, c3, c4, c5, c6, ⟨c7, c7', c7'', c7l⟩, c8, c9⟩ := c
  obtain ⟨a1, K1, d, q2, q3, q4⟩ := q
  obtain ⟨e1, f1⟩ := d.rw' 12
  have d2 : YC h1 a1 K1 h2 a1 K1 [12] [] := by rw [h2e a1 e1]; exact d.1.pw (by decide)
  have dx := d.x (X := fun _ => False)
  have dx2 := d2.x (X := fun _ => False)
  have hf : ∀ t, t < M → soY (h.vl (a 0)) t = 3 → τ t ≠ nm x := fun t ht0 h3 z => by
    rcases c8 t ht0 h3 with w | ⟨y, y1, y2, y3, y4⟩
    · omega
    · rw [hi y y1 y2 (y3.symm.trans z), h12] at y4
      omega
  obtain ⟨u1, u2, u3⟩ := c4.add (nm := nm x) (nv' := nv') (x := 0) (y := 0) (by omega) q3 (Or.inl ⟨rfl, rfl, hf, hn.2.1, hn.2.2⟩) (Nat.le_refl _)
  · rw [if_pos rfl] at u1
    have v12 : ∀ j, h2.vl (a1 12) j = if j = x - 2 then (M : Int) else h.vl (a 12) j := fun j => by
      rw [h2e a1 e1, AH.put_vl, ← f1, ← e1]
      by_cases z : j = x - 2
      · rw [if_pos ⟨rfl, z⟩, if_pos z]
      · rw [if_neg (fun w => z w.2), if_neg z]
    obtain ⟨f0, g0⟩ := d2.rw' 0
    refine ⟨a1, K1, _, ⟨(c1.tr (dx.wk (by decide) (by decide) (fun _ z => z) (Nat.le_refl _))).tr (dx2.wk (by decide) (by decide) (fun _ z => z) (Nat.le_refl _)), fun k k4 k10 => (q4 k k4).trans (c2 k k4 k10), q2.x dx2 (fun _ _ => rfl), u1.x dx2, (c5.ad d q3).x dx2, (c6.x dx (q4 10 (by decide))).x dx2 rfl, ⟨by omega, c7', fun c hc => by rw [upT_n (by omega)]; exact c7'' c hc, by have := YL.ad q3; have := YL.x dx2 (M + 1); omega⟩, ?_, ?_⟩, by rw [v12, if_pos rfl]⟩
    · intro t ht0 h3
      by_cases n : t = M
      · rw [n, upN_s]
        exact Or.inr ⟨x, hx.1, hx.2, rfl, by rw [v12, if_pos rfl]⟩
      · rw [g0, u3 t (by omega)] at h3
        rw [upN_n n]
        rcases c8 t (by omega) h3 with z | ⟨y, y1, y2, y3, y4⟩
        · exact Or.inl z
        · refine Or.inr ⟨y, y1, y2, y3, ?_⟩
          rw [v12, if_neg (fun z => ?_)]
          · exact y4
          · rw [z, h12] at y4; omega
    · intro j hj
      rw [v12]
      by_cases z : j = x - 2
      · rw [if_pos z]
        exact Or.inr ⟨M, by omega, rfl, by rw [upT_s, z, show x - 2 + 2 = x by omega]⟩
      · rw [if_neg z]
        rcases c9 j hj with z | ⟨k, k1, k2, k3⟩
        · exact Or.inl z
        · exact Or.inr ⟨k, by omega, k2, by rw [upT_n (by omega)]; exact k3⟩
end MkYs
