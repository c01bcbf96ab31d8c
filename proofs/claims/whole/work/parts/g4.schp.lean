/-! what a let keeps says its type at each use -/
def scF (xs : List Nat) (T : Nat → TE) : Nat → TE := fun v => if v < 999 then .var (xs.getD (v - 2) 0) else T (v - 999)
theorem gdD {l : List Nat} {i : Nat} (h : i < l.length) : l.getD i 0 = l[i] := by simp [List.getD, h]
theorem mapD {f : Nat → Nat} {s w : List Nat} {i : Nat} (hi : i < s.length) : ((s ++ w).map f).getD i 0 = f (s.getD i 0) := by
  rw [gdD (by rw [List.length_map, List.length_append]; omega), gdD hi, List.getElem_map, List.getElem_append_left hi]
theorem tpA_pre {am : Nat → Bool} : ∀ (t : TE) (s : List Nat), ∃ u, (tpA am t s).2 = s ++ u
  | .var x, s => by
    rw [tpA]
    split
    · exact ⟨[], (List.append_nil _).symm⟩
    · split
      · exact ⟨[], (List.append_nil _).symm⟩
      · split
        · exact ⟨[], (List.append_nil _).symm⟩
        · exact ⟨[x], rfl⟩
  | .op a b, s => by
    obtain ⟨u, hu⟩ := tpA_pre (am := am) a s
    obtain ⟨w, hw⟩ := tpA_pre (am := am) b (tpA am a s).2
    rw [tpA]
    exact ⟨u ++ w, by show (tpA am b (tpA am a s).2).2 = _; rw [hw, hu, List.append_assoc]⟩
theorem tpA_nm {am : Nat → Bool} {τ : Nat → Nat} {W : Nat → TE} : ∀ (t : TE) (s w s2 : List Nat), s2 = (tpA am t s).2 ++ w → s2.length ≤ 900 → (∀ x, 2 ≤ x → oc x t = true → am x = true → W (x - 2) = .var (τ (x - 2))) → sbs (scF (s2.map (fun x => τ (x - 2))) W) (tpA am t s).1 = nmC τ t
  | .var x, s, w, s2, hs, hl, hW => by
    rw [tpA] at hs ⊢
    show _ = nmT _ (.var x)
    rw [nm_var]
    by_cases c : x < 2
    · rw [if_pos c, if_pos c]
      show sbs _ (.var x) = _
      rw [sbs, if_pos c]
    · rw [if_neg c] at hs ⊢
      rw [if_neg c]
      by_cases c2 : am x = true
      · rw [if_pos c2]
        show sbs _ (.var (999 + (x - 2))) = _
        rw [sbs, if_neg (by omega), scF, if_neg (by omega), show 999 + (x - 2) - 999 = x - 2 by omega]
        exact hW x (by omega) (by simp [oc]) c2
      · rw [if_neg c2] at hs ⊢
        by_cases c3 : x ∈ s
        · rw [if_pos c3] at hs ⊢
          have hs : s2 = s ++ w := hs
          obtain ⟨i1, i2⟩ := ixN_lt c3
          have : s2.length = s.length + w.length := by rw [hs, List.length_append]
          show sbs _ (.var (2 + ixN x s)) = _
          rw [sbs, if_neg (by omega), scF, if_pos (by omega), show 2 + ixN x s - 2 = ixN x s by omega, hs, mapD i1, i2]
        · rw [if_neg c3] at hs ⊢
          have hs : s2 = s ++ [x] ++ w := hs
          have : s2.length = s.length + 1 + w.length := by rw [hs, List.length_append, List.length_append]; rfl
          show sbs _ (.var (2 + s.length)) = _
          rw [sbs, if_neg (by omega), scF, if_pos (by omega), show 2 + s.length - 2 = s.length by omega, hs, mapD (by rw [List.length_append]; exact Nat.lt_succ_self _)]
          rw [gdD (by rw [List.length_append]; exact Nat.lt_succ_self _), List.getElem_append_right (Nat.le_refl _)]
          simp
  | .op a b, s, w, s2, hs, hl, hW => by
    rw [tpA] at hs ⊢
    have hs : s2 = (tpA am b (tpA am a s).2).2 ++ w := hs
    obtain ⟨w1, hw1⟩ : ∃ w1, (tpA am b (tpA am a s).2).2 = (tpA am a s).2 ++ w1 := tpA_pre b _
    show sbs _ (.op (tpA am a s).1 (tpA am b (tpA am a s).2).1) = nmT _ (.op a b)
    rw [nm_op, sbs]
    have ha := tpA_nm (am := am) (τ := τ) (W := W) a s (w1 ++ w) s2 (by rw [hs, hw1, List.append_assoc]) hl (fun x h1 h2 h3 => hW x h1 (by simp [oc, h2]) h3)
    have hb := tpA_nm (am := am) (τ := τ) (W := W) b (tpA am a s).2 w s2 hs hl (fun x h1 h2 h3 => hW x h1 (by simp [oc, h2]) h3)
    rw [ha, hb]
    rfl
/-- for the let at b: a template P; the names xs of its numbered variables -/
def SchP (L : List Nd) (S : IS) (N : Nat) (T : Nat → TE) (b : Nat) (P : TE) (xs : List Nat) : Prop :=
  (sz P ≤ 200 ∧ xs.length ≤ 200) ∧ xs.Nodup ∧ (∀ x ∈ xs, 2 ≤ x ∧ x < S.1 ∧ S.2.2.2 x = true) ∧ (∀ v, 2 ≤ v → oc v P = true → v < 2 + xs.length ∨ (999 ≤ v ∧ v - 999 < N ∧ ∀ y, 2 ≤ y → oc y (T (v - 999)) = true → evV S (envN L b) y)) ∧ S.2.1 (fstN L b) = sbs (scF xs T) P
theorem ap_sbs {σ : List (Nat × TE)} {f : Nat → TE} : ∀ t : TE, ap σ (sbs f t) = sbs (fun x => ap σ (f x)) t
  | .var x => by
    rw [sbs, sbs]
    by_cases c : x < 2
    · rw [if_pos c, if_pos c]; exact ap_lf σ x c
    · rw [if_neg c, if_neg c]
  | .op a b => by
    rw [sbs, sbs, ap_op, ap_sbs a, ap_sbs b]
theorem getD_mem {xs : List Nat} {i : Nat} (h : i < xs.length) : xs.getD i 0 ∈ xs := by
  rw [gdD h]; exact List.getElem_mem h
theorem SchP.st {L : List Nd} {S S' : IS} {N N' : Nat} {T T' : Nat → TE} {b : Nat} {P : TE} {xs : List Nat} {σ : List (Nat × TE)} (h : SchP L S N T b P xs) (h1 : S.1 ≤ S'.1) (hg : ∀ x, S.2.2.2 x = true → S'.2.2.2 x = true) (hfx : ∀ x ∈ xs, fxS σ x) (hF : S'.2.1 (fstN L b) = ap σ (S.2.1 (fstN L b))) (hG : ∀ k ∈ envN L b, S'.2.2.1 k = ap σ (S.2.2.1 k)) (hN : N ≤ N') (hT : ∀ c, c < N → T' c = ap σ (T c)) : SchP L S' N' T' b P xs := by
  obtain ⟨p1, p2, p3, p4, p5⟩ := h
  refine ⟨p1, p2, fun x hx => ⟨(p3 x hx).1, by have := (p3 x hx).2.1; omega, hg x (p3 x hx).2.2⟩, fun v h2 ho => ?_, ?_⟩
  · rcases p4 v h2 ho with c | ⟨c1, c2, c3⟩
    · exact Or.inl c
    · refine Or.inr ⟨c1, by omega, fun y y2 yo => ?_⟩
      rw [hT _ c2] at yo
      obtain ⟨x, x1, x2, x3⟩ := oc_ap y2 yo
      obtain ⟨k, k1, k2⟩ := c3 x x1 x2
      exact ⟨k, k1, by rw [hG k k1]; exact ap_oc k2 x3⟩
  · rw [hF, p5, ap_sbs]
    refine sbs_cg P (fun v h2 ho => ?_)
    show ap σ (scF xs T v) = scF xs T' v
    unfold scF
    rcases p4 v h2 ho with c | ⟨c1, c2, c3⟩
    · rw [if_pos (by omega), if_pos (by omega)]
      exact hfx _ (getD_mem (by omega))
    · rw [if_neg (by omega), if_neg (by omega), hT _ c2]
/-- names for the variables of a template -/
def scN (S : IS) (xs : List Nat) (v : Nat) : Nat := if v - 2 < xs.length then S.1 + xs.getD (v - 2) 0 else S.1 + S.1 + v
theorem SchP.ins {L : List Nd} {S : IS} {N : Nat} {T : Nat → TE} {b : Nat} {P : TE} {xs : List Nat} (h : SchP L S N T b P xs) (hv : ∀ y, 2 ≤ y → evV S (envN L b) y → S.2.2.2 y = false) : insT S (S.2.1 (fstN L b)) = sbs (mkF (scN S xs) T) P ∧ (∀ v, 2 ≤ v → oc v P = true → MkX (scN S xs) S.1 (S.1 + S.1) N v) ∧ ∀ x y, 2 ≤ x → x < 202 → 2 ≤ y → y < 202 → scN S xs y = scN S xs x → y = x := by
  obtain ⟨p1, p2, p3, p4, p5⟩ := h
  refine ⟨?_, fun v h2 ho => ?_, fun x y x2 x9 y2 y9 e => ?_⟩
  · rw [p5]
    unfold insT
    rw [sbs_comp]
    refine sbs_cg P (fun v h2 ho => ?_)
    show sbs _ (scF xs T v) = mkF (scN S xs) T v
    unfold scF mkF scN
    rcases p4 v h2 ho with c | ⟨c1, c2, c3⟩
    · obtain ⟨q1, q2, q3⟩ := p3 _ (getD_mem (xs := xs) (i := v - 2) (by omega))
      rw [if_pos (by omega), if_pos (by omega), if_pos (by omega), sbs, if_neg (by omega), if_pos q3]
    · rw [if_neg (by omega), if_neg (by omega)]
      refine (sbs_cg (T (v - 999)) (fun y y2 yo => ?_)).trans (sbs_id _)
      rw [if_neg]
      rw [hv y y2 (c3 y y2 yo)]
      exact Bool.noConfusion
  · rcases p4 v h2 ho with c | ⟨c1, c2, c3⟩
    · obtain ⟨q1, q2, q3⟩ := p3 _ (getD_mem (xs := xs) (i := v - 2) (by omega))
      have e : scN S xs v = S.1 + xs.getD (v - 2) 0 := if_pos (by omega)
      exact Or.inl (by omega)
    · exact Or.inr ⟨c1, c2⟩
  · unfold scN at e
    by_cases cx : x - 2 < xs.length
    · obtain ⟨q1, q2, q3⟩ := p3 _ (getD_mem cx)
      rw [if_pos cx] at e
      by_cases cy : y - 2 < xs.length
      · rw [if_pos cy] at e
        have e2 : xs.getD (y - 2) 0 = xs.getD (x - 2) 0 := by omega
        rw [gdD cx, gdD cy] at e2
        have := (List.getElem_inj p2).mp e2
        omega
      · rw [if_neg cy] at e; omega
    · rw [if_neg cx] at e
      by_cases cy : y - 2 < xs.length
      · obtain ⟨q1, q2, q3⟩ := p3 _ (getD_mem cy)
        rw [if_pos cy] at e; omega
      · rw [if_neg cy] at e; omega
