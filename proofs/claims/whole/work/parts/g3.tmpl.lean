/-! what a let keeps: a shape with numbered variables and variables left alone -/
def tpA (am : Nat → Bool) : TE → List Nat → TE × List Nat
  | .var x, s => if x < 2 then (.var x, s) else if am x = true then (.var (999 + (x - 2)), s) else if x ∈ s then (.var (2 + ixN x s), s) else (.var (2 + s.length), s ++ [x])
  | .op a b, s => (.op (tpA am a s).1 (tpA am b (tpA am a s).2).1, (tpA am b (tpA am a s).2).2)
theorem tpA_row {am : Nat → Bool} : ∀ (t : TE) (s : List Nat), rowT (tpA am t s).1 = (cnA am t s).1 ∧ (tpA am t s).2 = (cnA am t s).2
  | .var x, s => by
    rw [tpA, cnA]
    by_cases c : x < 2
    · rw [if_pos c, if_pos c]
      refine ⟨?_, rfl⟩
      show rowT (.var x) = _
      rw [rowT, if_pos c]
    · rw [if_neg c, if_neg c]
      by_cases c2 : am x = true
      · rw [if_pos c2, if_pos c2]
        refine ⟨?_, rfl⟩
        show rowT (.var (999 + (x - 2))) = [1000 + ((x - 2 : Nat) : Int)]
        rw [rowT, if_neg (by omega)]
        congr 1
        omega
      · rw [if_neg c2, if_neg c2]
        by_cases c3 : x ∈ s
        · rw [if_pos c3, if_pos c3]
          refine ⟨?_, rfl⟩
          show rowT (.var (2 + ixN x s)) = [3 + (ixN x s : Int)]
          rw [rowT, if_neg (by omega)]
          congr 1
          omega
        · rw [if_neg c3, if_neg c3]
          refine ⟨?_, rfl⟩
          show rowT (.var (2 + s.length)) = [3 + (s.length : Int)]
          rw [rowT, if_neg (by omega)]
          congr 1
          omega
  | .op a b, s => by
    obtain ⟨a1, a2⟩ := tpA_row (am := am) a s
    obtain ⟨b1, b2⟩ := tpA_row (am := am) b (tpA am a s).2
    rw [a2] at b1 b2
    rw [tpA, cnA, rowT]
    exact ⟨by rw [a1, a2, b1], by rw [a2]; exact b2⟩
theorem tpA_sz {am : Nat → Bool} (t : TE) (s : List Nat) : sz (tpA am t s).1 = sz t := by
  rw [← row_len, (tpA_row t s).1, cnA_len]
/-- what is numbered: each once, and none that is left alone -/
theorem tpA_in {am : Nat → Bool} : ∀ (t : TE) (s : List Nat), s.Nodup → (tpA am t s).2.Nodup ∧ (∃ u, (tpA am t s).2 = s ++ u) ∧ ∀ x ∈ (tpA am t s).2, x ∈ s ∨ (2 ≤ x ∧ oc x t = true ∧ am x = false)
  | .var x, s, hs => by
    rw [tpA]
    by_cases c : x < 2
    · rw [if_pos c]
      exact ⟨hs, ⟨[], (List.append_nil _).symm⟩, fun x h => Or.inl h⟩
    · rw [if_neg c]
      by_cases c2 : am x = true
      · rw [if_pos c2]
        exact ⟨hs, ⟨[], (List.append_nil _).symm⟩, fun x h => Or.inl h⟩
      · rw [if_neg c2]
        by_cases c3 : x ∈ s
        · rw [if_pos c3]
          exact ⟨hs, ⟨[], (List.append_nil _).symm⟩, fun x h => Or.inl h⟩
        · rw [if_neg c3]
          refine ⟨?_, ⟨[x], rfl⟩, fun y h => ?_⟩
          · show (s ++ [x]).Nodup
            exact List.nodup_append.mpr ⟨hs, List.nodup_cons.mpr ⟨List.not_mem_nil, List.nodup_nil⟩, fun y hy z hz e => c3 (by rw [List.mem_singleton.mp hz] at e; rw [← e]; exact hy)⟩
          · rcases List.mem_append.mp (show y ∈ s ++ [x] from h) with h | h
            · exact Or.inl h
            · rw [List.mem_singleton.mp h]
              exact Or.inr ⟨by omega, by simp [oc], by simpa using c2⟩
  | .op a b, s, hs => by
    obtain ⟨a1, ⟨u, a2⟩, a3⟩ := tpA_in (am := am) a s hs
    obtain ⟨b1, ⟨w, b2⟩, b3⟩ := tpA_in (am := am) b (tpA am a s).2 a1
    rw [tpA]
    refine ⟨b1, ⟨u ++ w, by show (tpA am b (tpA am a s).2).2 = _; rw [b2, a2, List.append_assoc]⟩, fun x hx => ?_⟩
    rcases b3 x hx with h | ⟨h1, h2, h3⟩
    · rcases a3 x h with h | ⟨h1, h2, h3⟩
      · exact Or.inl h
      · exact Or.inr ⟨h1, by simp [oc, h2], h3⟩
    · exact Or.inr ⟨h1, by simp [oc, h2], h3⟩
theorem ixN_lt {x : Nat} : ∀ {s : List Nat}, x ∈ s → ixN x s < s.length ∧ s.getD (ixN x s) 0 = x
  | y :: s, h => by
    rw [ixN]
    by_cases c : x = y
    · rw [if_pos c, List.length_cons]
      exact ⟨by omega, c.symm⟩
    · rw [if_neg c, List.length_cons]
      have := ixN_lt (x := x) (s := s) ((List.mem_cons.mp h).resolve_left c)
      exact ⟨by omega, by rw [show ixN x s + 1 = (ixN x s).succ from rfl, List.getD_cons_succ]; exact this.2⟩
theorem cnA_mono {am : Nat → Bool} : ∀ (t : TE) (s : List Nat), s.length ≤ (cnA am t s).2.length
  | .var x, s => by
    rw [cnA]
    split
    · exact Nat.le_refl _
    · split
      · exact Nat.le_refl _
      · split
        · exact Nat.le_refl _
        · show s.length ≤ (s ++ [x]).length; rw [List.length_append]; exact Nat.le_add_right _ _
  | .op a b, s => by
    rw [cnA]
    exact Nat.le_trans (cnA_mono a s) (cnA_mono b _)
/-- which variables there are -/
theorem tpA_oc {am : Nat → Bool} {v : Nat} : ∀ (t : TE) (s : List Nat), oc v (tpA am t s).1 = true → 2 ≤ v → v < 2 + (tpA am t s).2.length ∨ (999 ≤ v ∧ am (v - 999 + 2) = true ∧ oc (v - 999 + 2) t = true)
  | .var x, s, h, h2 => by
    rw [tpA] at h ⊢
    by_cases c : x < 2
    · rw [if_pos c] at h
      have : x = v := by simpa [oc] using h
      omega
    · rw [if_neg c] at h ⊢
      by_cases c2 : am x = true
      · rw [if_pos c2] at h
        have : 999 + (x - 2) = v := by simpa [oc] using h
        rw [show v - 999 + 2 = x by omega]
        exact Or.inr ⟨by omega, c2, by simp [oc]⟩
      · rw [if_neg c2] at h ⊢
        by_cases c3 : x ∈ s
        · rw [if_pos c3] at h ⊢
          have : 2 + ixN x s = v := by simpa [oc] using h
          have := (ixN_lt c3).1
          exact Or.inl (by show v < 2 + s.length; omega)
        · rw [if_neg c3] at h ⊢
          have : 2 + s.length = v := by simpa [oc] using h
          exact Or.inl (by show v < 2 + (s ++ [x]).length; rw [List.length_append]; show v < 2 + (s.length + 1); omega)
  | .op a b, s, h, h2 => by
    rw [tpA] at h ⊢
    have h : oc v (tpA am a s).1 = true ∨ oc v (tpA am b (tpA am a s).2).1 = true := by simpa [oc] using h
    show v < 2 + (tpA am b (tpA am a s).2).2.length ∨ _
    rcases h with h | h
    · rcases tpA_oc a s h h2 with g | ⟨g1, g2, g3⟩
      · have : (tpA am a s).2.length ≤ (tpA am b (tpA am a s).2).2.length := by
          rw [(tpA_row b _).2]
          exact cnA_mono b _
        exact Or.inl (by omega)
      · exact Or.inr ⟨g1, g2, by simp [oc, g3]⟩
    · rcases tpA_oc b _ h h2 with g | ⟨g1, g2, g3⟩
      · exact Or.inl g
      · exact Or.inr ⟨g1, g2, by simp [oc, g3]⟩
