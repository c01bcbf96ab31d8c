/-! what stands in a table of nodes -/
def ndOK (x : Nd) : Prop := ((x.1 = 0 ∧ 97 ≤ x.2.1 ∧ x.2.1 ≤ 122) ∨ (x.1 = 1 ∧ 65 ≤ x.2.1 ∧ x.2.1 ≤ 72) ∨ (x.1 = 2 ∧ 48 ≤ x.2.1 ∧ x.2.1 ≤ 57) ∨ (x.1 = 3 ∧ (x.2.1 = 43 ∨ x.2.1 = 60 ∨ x.2.1 = 63)) ∨ ((x.1 = 4 ∨ x.1 = 5) ∧ 97 ≤ x.2.1 ∧ x.2.1 ≤ 122) ∨ (x.1 = 6 ∧ x.2.1 = 0)) ∧ (0 ≤ x.2.2 ∧ x.2.2 < 60)
theorem lk_ok {c i : Int} (h : 0 ≤ lk c) (hi : 0 ≤ i ∧ i < 60) : ndOK (lk c, c, i) := by
  refine ⟨?_, hi⟩
  show ((lk c = 0 ∧ 97 ≤ c ∧ c ≤ 122) ∨ (lk c = 1 ∧ 65 ≤ c ∧ c ≤ 72) ∨ (lk c = 2 ∧ 48 ≤ c ∧ c ≤ 57) ∨ (lk c = 3 ∧ (c = 43 ∨ c = 60 ∨ c = 63)) ∨ ((lk c = 4 ∨ lk c = 5) ∧ 97 ≤ c ∧ c ≤ 122) ∨ (lk c = 6 ∧ c = 0))
  unfold lk at h ⊢
  by_cases h1 : 97 ≤ c ∧ c ≤ 122
  · rw [if_pos h1]; exact Or.inl ⟨rfl, h1⟩
  · rw [if_neg h1] at h ⊢
    by_cases h2 : 65 ≤ c ∧ c ≤ 72
    · rw [if_pos h2]; exact Or.inr (Or.inl ⟨rfl, h2⟩)
    · rw [if_neg h2] at h ⊢
      by_cases h3 : 48 ≤ c ∧ c ≤ 57
      · rw [if_pos h3]; exact Or.inr (Or.inr (Or.inl ⟨rfl, h3⟩))
      · rw [if_neg h3] at h ⊢
        by_cases h4 : c = 43 ∨ c = 60 ∨ c = 63
        · rw [if_pos h4]; exact Or.inr (Or.inr (Or.inr (Or.inl ⟨rfl, h4⟩)))
        · rw [if_neg h4] at h; exact absurd h (by decide)
theorem nil_ok : ∀ x ∈ ([] : List Nd), ndOK x := fun x hx => nomatch hx
def frOK (f : Fr) : Prop := (∀ x ∈ f.2.2.2.2, ndOK x) ∧ (∀ x ∈ f.2.2.2.1, ndOK x) ∧ (2 ≤ f.1 → (97 ≤ f.2.1 ∧ f.2.1 ≤ 122) ∧ (0 ≤ f.2.2.1 ∧ f.2.2.1 < 60))
def stOK (s : List Fr) : Prop := ∀ f ∈ s, frOK f
theorem atL_ok {L : List Nd} (h : ∀ x ∈ L, ndOK x) : 0 ≤ atL L ∧ atL L < 60 := by
  cases L with
  | nil => exact ⟨by decide, by decide⟩
  | cons x L => exact (h x List.mem_cons_self).2
theorem adF_ok {f : Fr} {L : List Nd} (hf : frOK f) (hL : ∀ x ∈ L, ndOK x) : frOK (adF f L) := by
  refine ⟨?_, hf.2.1, hf.2.2⟩
  show ∀ x ∈ (if f.2.2.2.2 = [] then L else (6, 0, atL f.2.2.2.2) :: (f.2.2.2.2 ++ L)), ndOK x
  by_cases h : f.2.2.2.2 = []
  · rw [if_pos h]; exact hL
  · rw [if_neg h]
    intro x hx
    rcases List.mem_cons.mp hx with rfl | hx
    · exact ⟨Or.inr (Or.inr (Or.inr (Or.inr (Or.inr ⟨rfl, rfl⟩)))), atL_ok hf.1⟩
    · rcases List.mem_append.mp hx with hx | hx
      · exact hf.1 x hx
      · exact hL x hx
theorem cl1_ok {f g : Fr} (hf : frOK f) (hg : frOK g) (h2 : f.1 = 2 ∨ f.1 = 4) : frOK (cl1 f g) := by
  obtain ⟨a1, a2⟩ := hf.2.2 (by omega)
  refine ⟨?_, hg.2.1, hg.2.2⟩
  show ∀ x ∈ (if f.1 = 2 then (4, f.2.1, f.2.2.1) :: f.2.2.2.2 else (5, f.2.1, f.2.2.1) :: (f.2.2.2.1 ++ f.2.2.2.2)), ndOK x
  by_cases h : f.1 = 2
  · rw [if_pos h]
    intro x hx
    rcases List.mem_cons.mp hx with rfl | hx
    · exact ⟨Or.inr (Or.inr (Or.inr (Or.inr (Or.inl ⟨Or.inl rfl, a1⟩)))), a2⟩
    · exact hf.1 x hx
  · rw [if_neg h]
    intro x hx
    rcases List.mem_cons.mp hx with rfl | hx
    · exact ⟨Or.inr (Or.inr (Or.inr (Or.inr (Or.inl ⟨Or.inr rfl, a1⟩)))), a2⟩
    · rcases List.mem_append.mp hx with hx | hx
      · exact hf.2.1 x hx
      · exact hf.1 x hx
theorem clH_ok : ∀ (r : List Fr) (f : Fr), stOK (f :: r) → frOK (clH f r).1 ∧ stOK (clH f r).2
  | [], f, h => ⟨h f List.mem_cons_self, fun _ z => nomatch z⟩
  | g :: r, f, h => by
    unfold clH
    by_cases hf : f.1 = 2 ∨ f.1 = 4
    · rw [if_pos hf]
      refine clH_ok r (cl1 f g) fun q hq => ?_
      rcases List.mem_cons.mp hq with rfl | hq
      · exact cl1_ok (h f List.mem_cons_self) (h g (List.mem_cons_of_mem _ List.mem_cons_self)) hf
      · exact h q (List.mem_cons_of_mem _ (List.mem_cons_of_mem _ hq))
    · rw [if_neg hf]
      exact ⟨h f List.mem_cons_self, fun q hq => h q (List.mem_cons_of_mem _ hq)⟩
theorem rdF_ok {c : Nat → Int} {n : Nat} (hn : n ≤ 60) : ∀ (t : Nat) (f : Fr) (r : List Fr) (i : Nat), stOK (f :: r) → ∀ x ∈ (rdF c n t f r i).2, ndOK x := by
  intro t
  induction t with
  | zero => intro f r i _ x hx; exact nomatch hx
  | succ t ih =>
    intro f r i hs
    have hf := hs f List.mem_cons_self
    have hr : stOK r := fun q hq => hs q (List.mem_cons_of_mem _ hq)
    have hcons : ∀ {g : Fr} {s : List Fr}, frOK g → stOK s → stOK (g :: s) := fun hg hs' q hq => by
      rcases List.mem_cons.mp hq with rfl | hq
      · exact hg
      · exact hs' q hq
    obtain ⟨k1, k2⟩ := clH_ok r f hs
    obtain ⟨ch, hch⟩ : ∃ ch, ch = (if i < n then c i else -1) := ⟨_, rfl⟩
    rw [rdF, ← hch]
    by_cases c1 : f.2.2.2.2 = [] ∧ (ch = 94 ∨ ch = 33)
    · rw [if_pos c1]
      by_cases c2 : ¬ (i + 1 < n ∧ 97 ≤ c (i + 1) ∧ c (i + 1) ≤ 122)
      · rw [if_pos c2]; exact fun x hx => nomatch hx
      · rw [if_neg c2]
        by_cases c3 : ¬ (i + 2 < n ∧ c (i + 2) = (if ch = 94 then 46 else 61))
        · rw [if_pos c3]; exact fun x hx => nomatch hx
        · rw [if_neg c3]
          have c2' := Decidable.not_not.mp c2
          exact ih _ _ _ (hcons ⟨nil_ok, nil_ok, fun _ => ⟨c2'.2, by show (0 : Int) ≤ (i : Int) ∧ (i : Int) < 60; omega⟩⟩ hs)
    · rw [if_neg c1]
      by_cases c2 : ch = 40
      · rw [if_pos c2]
        exact ih _ _ _ (hcons ⟨nil_ok, nil_ok, fun z => absurd (show (2 : Int) ≤ 1 from z) (by decide)⟩ hs)
      · rw [if_neg c2]
        by_cases c3 : 0 ≤ lk ch
        · rw [if_pos c3]
          have hin : i < n := by
            by_cases hin : i < n
            · exact hin
            · rw [if_neg hin] at hch
              rw [hch] at c3
              exact absurd c3 (by decide)
          refine ih _ _ _ (hcons (adF_ok hf fun x hx => ?_) hr)
          rw [List.mem_singleton.mp hx]
          exact lk_ok c3 (by omega)
        · rw [if_neg c3]
          by_cases c4 : f.2.2.2.2 = [] ∨ ¬ (ch = 41 ∨ ch = 59 ∨ ch = -1)
          · rw [if_pos c4]; exact fun x hx => nomatch hx
          · rw [if_neg c4]
            by_cases c5 : ch = -1 ∧ (clH f r).1.1 = 0
            · rw [if_pos c5]; exact k1.1
            · rw [if_neg c5]
              by_cases c6 : ch = 41 ∧ (clH f r).1.1 = 1
              · rw [if_pos c6]
                cases hq : (clH f r).2 with
                | nil => exact fun x hx => nomatch hx
                | cons g s =>
                  rw [hq] at k2
                  exact ih _ _ _ (hcons (adF_ok (k2 g List.mem_cons_self) k1.1) fun q hq => k2 q (List.mem_cons_of_mem _ hq))
              · rw [if_neg c6]
                by_cases c7 : ch = 59 ∧ (clH f r).1.1 = 3
                · rw [if_pos c7]
                  exact ih _ _ _ (hcons ⟨nil_ok, k1.1, fun _ => k1.2.2 (by omega)⟩ k2)
                · rw [if_neg c7]; exact fun x hx => nomatch hx
theorem rd_ok {c : Nat → Int} {n : Nat} (hn : n ≤ 60) : ∀ x ∈ (rd c n).2, ndOK x := rdF_ok hn _ _ _ _ fun q hq => by
  rw [List.mem_singleton.mp hq]
  exact ⟨nil_ok, nil_ok, fun z => absurd (show (2 : Int) ≤ 0 from z) (by decide)⟩
/-- parents come ahead, parts behind -/
def GdT (k : Nat) (s : Nat → Nat → Int) : Prop := ∀ j, j < k → (-1 ≤ s 61 j ∧ s 61 j < (j : Int)) ∧ (0 ≤ s 62 j ∧ s 62 j ≤ (j : Int)) ∧ (-1 ≤ s 59 j ∧ s 59 j < (k : Int)) ∧ (-1 ≤ s 60 j ∧ s 60 j < (k : Int))
theorem tb1_o {x : Nd} {k c : Nat} {p : Int} {s : Nat → Nat → Int} {j : Nat} (h1 : c ≠ 59) (h2 : c ≠ 60) : tb1 x k p s c j = tb3 x k p s c j := by
  unfold tb1
  by_cases g1 : p < 0
  · rw [if_pos g1]
  · rw [if_neg g1]
    by_cases g2 : s 59 p.toNat < 0
    · rw [if_pos g2]; exact if_neg (by omega)
    · rw [if_neg g2]; exact if_neg (by omega)
theorem tb1_61 {x : Nd} {k : Nat} {p : Int} {s : Nat → Nat → Int} {j : Nat} : tb1 x k p s 61 j = if j = k then p else s 61 j := by
  rw [tb1_o (by decide) (by decide)]
  unfold tb3
  by_cases hj : j = k <;> simp [pt7, hj]
theorem tb1_57 {x : Nd} {k : Nat} {p : Int} {s : Nat → Nat → Int} {j : Nat} : tb1 x k p s 57 j = if j = k then x.1 else s 57 j := by
  rw [tb1_o (by decide) (by decide)]
  unfold tb3
  by_cases hj : j = k <;> simp [pt7, hj]
theorem tb1_58 {x : Nd} {k : Nat} {p : Int} {s : Nat → Nat → Int} {j : Nat} : tb1 x k p s 58 j = if j = k then x.2.1 else s 58 j := by
  rw [tb1_o (by decide) (by decide)]
  unfold tb3
  by_cases hj : j = k <;> simp [pt7, hj]
theorem tb1_63 {x : Nd} {k : Nat} {p : Int} {s : Nat → Nat → Int} {j : Nat} : tb1 x k p s 63 j = if j = k then x.2.2 else s 63 j := by
  rw [tb1_o (by decide) (by decide)]
  unfold tb3
  by_cases hj : j = k <;> simp [pt7, hj]
theorem tb1_59 {x : Nd} {k : Nat} {p : Int} {s : Nat → Nat → Int} {j : Nat} : tb1 x k p s 59 j = if 0 ≤ p ∧ s 59 p.toNat < 0 ∧ j = p.toNat then (k : Int) else if j = k then -1 else s 59 j := by
  have e3 : tb3 x k p s 59 j = if j = k then -1 else s 59 j := by
    unfold tb3
    by_cases hj : j = k <;> simp [pt7, hj]
  unfold tb1
  by_cases g1 : p < 0
  · rw [if_pos g1, if_neg (by omega), e3]
  · rw [if_neg g1]
    by_cases g2 : s 59 p.toNat < 0
    · rw [if_pos g2]
      show (if (59 : Nat) = 59 ∧ j = p.toNat then (k : Int) else tb3 x k p s 59 j) = _
      by_cases g3 : j = p.toNat
      · rw [if_pos ⟨rfl, g3⟩, if_pos ⟨by omega, g2, g3⟩]
      · rw [if_neg (fun z => g3 z.2), if_neg (fun z => g3 z.2.2), e3]
    · rw [if_neg g2, if_neg (fun z => g2 z.2.1)]
      show (if (59 : Nat) = 60 ∧ j = p.toNat then (k : Int) else tb3 x k p s 59 j) = _
      rw [if_neg (by omega), e3]
theorem tb1_60 {x : Nd} {k : Nat} {p : Int} {s : Nat → Nat → Int} {j : Nat} : tb1 x k p s 60 j = if 0 ≤ p ∧ ¬ s 59 p.toNat < 0 ∧ j = p.toNat then (k : Int) else if j = k then -1 else s 60 j := by
  have e3 : tb3 x k p s 60 j = if j = k then -1 else s 60 j := by
    unfold tb3
    by_cases hj : j = k <;> simp [pt7, hj]
  unfold tb1
  by_cases g1 : p < 0
  · rw [if_pos g1, if_neg (by omega), e3]
  · rw [if_neg g1]
    by_cases g2 : s 59 p.toNat < 0
    · rw [if_pos g2, if_neg (fun z => z.2.1 g2)]
      show (if (60 : Nat) = 59 ∧ j = p.toNat then (k : Int) else tb3 x k p s 60 j) = _
      rw [if_neg (by omega), e3]
    · rw [if_neg g2]
      show (if (60 : Nat) = 60 ∧ j = p.toNat then (k : Int) else tb3 x k p s 60 j) = _
      by_cases g3 : j = p.toNat
      · rw [if_pos ⟨rfl, g3⟩, if_pos ⟨by omega, g2, g3⟩]
      · rw [if_neg (fun z => g3 z.2), if_neg (fun z => g3 z.2.2), e3]
theorem GdT.st {x : Nd} {k : Nat} {p : Int} {s : Nat → Nat → Int} (h : GdT k s) (hp : -1 ≤ p ∧ p < (k : Int)) : GdT (k + 1) (tb1 x k p s) := fun j hj => by
  rw [tb1_61, tb1_62, tb1_59, tb1_60]
  by_cases e : j = k
  · have g1 : ¬ (0 ≤ p ∧ s 59 p.toNat < 0 ∧ j = p.toNat) := by omega
    have g2 : ¬ (0 ≤ p ∧ ¬ s 59 p.toNat < 0 ∧ j = p.toNat) := by omega
    rw [if_neg g1, if_neg g2]
    simp only [if_pos e]
    refine ⟨by omega, ?_, by omega, by omega⟩
    by_cases hp0 : p < 0
    · rw [if_pos hp0]; omega
    · rw [if_neg hp0]
      have := (h p.toNat (by omega)).2.1
      omega
  · simp only [if_neg e]
    obtain ⟨a1, a2, a3, a4⟩ := h j (by omega)
    refine ⟨a1, a2, ?_, ?_⟩
    · by_cases g : 0 ≤ p ∧ s 59 p.toNat < 0 ∧ j = p.toNat
      · rw [if_pos g]; omega
      · rw [if_neg g]; omega
    · by_cases g : 0 ≤ p ∧ ¬ s 59 p.toNat < 0 ∧ j = p.toNat
      · rw [if_pos g]; omega
      · rw [if_neg g]; omega
theorem tbF_gd : ∀ (L : List Nd) (k : Nat) (P : List Int) (s : Nat → Nat → Int), GdT k s → (∀ p ∈ P, -1 ≤ p ∧ p < (k : Int)) → GdT (k + L.length) (tbF L k P s)
  | [], k, P, s, h, _ => h
  | x :: L, k, P, s, h, hP => by
    have e : k + (x :: L).length = k + 1 + L.length := by simp only [List.length_cons]; omega
    rw [e]
    refine tbF_gd L (k + 1) _ _ (h.st ?_) (fun p hp => ?_)
    · cases P with
      | nil => exact ⟨by show (-1 : Int) ≤ -1; decide, by show (-1 : Int) < _; omega⟩
      | cons p P => exact hP p List.mem_cons_self
    · rcases List.mem_append.mp hp with hp | hp
      · have := (List.mem_replicate.mp hp).2
        omega
      · have := hP p (List.mem_of_mem_tail hp)
        omega
theorem TBL_gd {L : List Nd} : GdT L.length (TBL L) := by
  have := tbF_gd L 0 [-1] (fun _ _ => 0) (fun j hj => absurd hj (Nat.not_lt_zero j)) (fun p hp => by
    rw [List.mem_singleton.mp hp]
    exact ⟨by decide, by decide⟩)
  rw [Nat.zero_add] at this
  exact this
/-- a node's own numbers -/
theorem tbF_own {c : Nat} {sel : Nd → Int} (h1 : ∀ (x : Nd) (k : Nat) (p : Int) (s : Nat → Nat → Int) (j : Nat), tb1 x k p s c j = if j = k then sel x else s c j) : ∀ (L : List Nd) (k : Nat) (P : List Int) (s : Nat → Nat → Int) (j : Nat), tbF L k P s c j = if k ≤ j ∧ j < k + L.length then sel (L.getD (j - k) (0, 0, 0)) else s c j
  | [], k, P, s, j => by
    rw [if_neg (by simp only [List.length_nil]; omega)]; rfl
  | x :: L, k, P, s, j => by
    show tbF L (k + 1) _ _ c j = _
    rw [tbF_own h1 L (k + 1), h1]
    have e : (x :: L).length = L.length + 1 := rfl
    by_cases g1 : j = k
    · rw [if_neg (by omega), if_pos g1, if_pos (by omega), g1, Nat.sub_self]; rfl
    · rw [if_neg g1]
      by_cases g2 : k + 1 ≤ j ∧ j < k + 1 + L.length
      · rw [if_pos g2, if_pos (by omega), show j - k = (j - (k + 1)) + 1 from by omega]; rfl
      · rw [if_neg g2, if_neg (by omega)]
theorem TBL_own {L : List Nd} {j : Nat} (hj : j < L.length) : TBL L 57 j = (L.getD j (0, 0, 0)).1 ∧ TBL L 58 j = (L.getD j (0, 0, 0)).2.1 ∧ TBL L 63 j = (L.getD j (0, 0, 0)).2.2 := by
  refine ⟨?_, ?_, ?_⟩
  · rw [TBL, tbF_own (c := 57) (sel := fun x => x.1) (fun _ _ _ _ _ => tb1_57), if_pos (by omega)]; rfl
  · rw [TBL, tbF_own (c := 58) (sel := fun x => x.2.1) (fun _ _ _ _ _ => tb1_58), if_pos (by omega)]; rfl
  · rw [TBL, tbF_own (c := 63) (sel := fun x => x.2.2) (fun _ _ _ _ _ => tb1_63), if_pos (by omega)]; rfl
