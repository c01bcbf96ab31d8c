/-! the reference makes a type of a row -/
def rowT : TE → List Int
  | .var x => [if x < 2 then (x : Int) else (x : Int) + 1]
  | .op a b => 2 :: (rowT a ++ rowT b)
theorem row_len : ∀ R : TE, (rowT R).length = sz R
  | .var _ => rfl
  | .op a b => by
    rw [rowT, List.length_cons, List.length_append, row_len a, row_len b]
    simp only [sz]
    omega
/-- names from nv on for the variables of a row -/
def insR (nv : Nat) (R : TE) : TE := sbs (fun x => .var (nv + x)) R
def GSt (g : AH) (T : Nat → TE) (M : Nat) : List TE → Prop
  | [] => True
  | X :: r => (∃ c : Nat, c < M ∧ g.vl 83 r.length = (c : Int) ∧ T c = X) ∧ GSt g T M r
theorem GSt.mv {g g1 : AH} {T T1 : Nat → TE} {M M1 : Nat} : ∀ {st : List TE}, GSt g T M st → M ≤ M1 → (∀ c, c < M → T1 c = T c) → (∀ i, i < st.length → g1.vl 83 i = g.vl 83 i) → GSt g1 T1 M1 st
  | [], _, _, _, _ => trivial
  | X :: r, h, hM, hT, hg => by
    obtain ⟨⟨c, c1, c2, c3⟩, h2⟩ := h
    exact ⟨⟨c, by omega, (hg _ (Nat.lt_succ_self _)).trans c2, (hT c c1).trans c3⟩, GSt.mv h2 hM hT (fun i hi => hg i (Nat.lt_succ_of_lt hi))⟩
theorem RT.kp {h h1 : AH} {N aB nv : Nat} {gn : Nat → Bool} {rr : Nat → Nat} {tr : Nat → TE} {τ : Nat → Nat} {A F : List Nat} (g : RT h N aB rr tr τ nv gn) (k : KP h h1 A F) (hA : A.all (fun a => decide (a ∉ [66, 67, 68, 69, 70, 71])) = true := by decide) (hF : [49, 50].all (fun a => decide (a ∉ F)) = true := by decide) : RT h1 N aB rr tr τ nv gn := by
  obtain ⟨g1, g2, g3, g4, g5, g6⟩ := g
  have hn : ∀ r, r ∈ [66, 67, 68, 69, 70, 71] → h1.vl r = h.vl r := fun r hr => k.vl (by intro e; subst e; exact absurd hr (by decide)) (fun hm => of_decide_eq_true (List.all_eq_true.mp hA r hm) hr)
  have h50 : h1.vl 42 50 = h.vl 42 50 := k.fl (of_decide_eq_true (List.all_eq_true.mp hF 50 (by decide)))
  refine ⟨?_, (k.fl (of_decide_eq_true (List.all_eq_true.mp hF 49 (by decide)))).trans g2, ?_, fun c => ?_, ?_, g6⟩
  · rw [hn 66 (by decide), hn 67 (by decide), hn 68 (by decide), hn 69 (by decide)]; exact g1
  · rw [hn 66 (by decide), hn 70 (by decide)]; exact g3
  · rw [hn 71 (by decide), h50]; exact g4 c
  · rw [hn 66 (by decide)]; exact g5
abbrev MkA : List Nat := [66, 67, 68, 69, 70, 81, 83]
def MkO (h : AH) (N aB nv : Nat) (gn : Nat → Bool) (T : Nat → TE) (g : AH) (y M : Nat) (T1 : Nat → TE) : Prop :=
  KP h g MkA [49] ∧ (N ≤ M ∧ M ≤ N + y) ∧ (∃ rr tr τ, RT g M (aB + y) rr tr τ (nv + 210) gn ∧ (∀ c, c < M → nmC τ (tr c) = T1 c) ∧ ∀ c, c < M → g.vl 66 c = 3 → τ c < nv ∨ ∃ j : Nat, j < 208 ∧ 0 ≤ g.vl 81 j ∧ τ c = nv + 2 + j) ∧ (∀ c, c < N → T1 c = T c) ∧
    ∀ j : Nat, j < 208 → g.vl 81 j = -1 ∨ ∃ c : Nat, c < M ∧ g.vl 81 j = (c : Int) ∧ T1 c = .var (nv + 2 + j)
section MkS
variable {h : AH} {N aB nv : Nat} {gn : Nat → Bool} {T : Nat → TE} {g : AH} {y M : Nat} {T1 : Nat → TE}
theorem addH_81 {k a b : Int} : (addH g M k a b).vl 81 = g.vl 81 := addH_kp.vl
theorem addH_83 {k a b : Int} : (addH g M k a b).vl 83 = g.vl 83 := addH_kp.vl
theorem addH_66 {k a b : Int} : (addH g M k a b).vl 66 = upI (g.vl 66) M k := (put_ne _ (by decide)).trans ((put_ne _ (by decide)).trans ((put_ne _ (by decide)).trans ((put_ne _ (by decide)).trans ((put_ne _ (by decide)).trans (put_row _ _ _ _)))))
theorem MkO.got (c : MkO h N aB nv gn T g y M T1) {i : Nat} {x : Int} : MkO h N aB nv gn T (g.put 83 i x) y M T1 := by
  obtain ⟨c1, c2, ⟨rr, tr, τ, t1, t2, t3⟩, c4, c5⟩ := c
  have k : KP g (g.put 83 i x) [83] [] := KP.rf.pr (by decide) (by decide)
  have e81 : (g.put 83 i x).vl 81 = g.vl 81 := put_ne _ (by decide)
  have e66 : (g.put 83 i x).vl 66 = g.vl 66 := put_ne _ (by decide)
  exact ⟨c1.pr (by decide) (by decide), c2, ⟨rr, tr, τ, t1.kp k, t2, by rw [e66, e81]; exact t3⟩, c4, by rw [e81]; exact c5⟩
theorem MkO.add (c : MkO h N aB nv gn T g y M T1) {k a b : Int} (hM : M < 20000) (hx : aB + y + 1 ≤ 9800) (hk : k = 0 ∨ k = 1 ∨ k = 2) (hab : k = 2 → (0 ≤ a ∧ a < (M : Int)) ∧ 0 ≤ b ∧ b < (M : Int)) : MkO h N aB nv gn T (addH g M k a b) (y + 1) (M + 1) (upT T1 M (if k = 2 then .op (T1 a.toNat) (T1 b.toNat) else .var k.toNat)) := by
  obtain ⟨c1, c2, ⟨rr, tr, τ, t1, t2, t3⟩, c4, c5⟩ := c
  obtain ⟨n1, n2, n3⟩ := t1.add (k := k) (a := a) (b := b) (nm := 0) (nv' := nv + 210) (aB' := aB + y + 1) hM (by omega) hab (fun z => absurd z (by omega)) (Nat.le_refl _) ⟨by omega, by omega, fun _ => by omega⟩
  refine ⟨c1.tr (addH_kp.wk (by decide) (by decide)), by omega, ⟨_, _, _, n1, fun c hc => ?_, fun c hc h3 => ?_⟩, fun c hc => ?_, fun j hj => ?_⟩
  · by_cases e : c = M
    · rw [e, n3, upT_s]
      by_cases z : k = 2
      · have := hab z
        rw [if_pos z, if_pos z, t2 _ (by omega), t2 _ (by omega)]
      · rw [if_neg z, if_neg z]
        by_cases z0 : k = 0
        · rw [if_pos z0, z0]; rfl
        · rw [if_neg z0, if_pos (by omega), show k = 1 by omega]; rfl
    · rw [n2 c (by omega), upT_n e]
      exact t2 c (by omega)
  · rw [addH_66] at h3
    by_cases e : c = M
    · rw [e, upI_s] at h3; omega
    · rw [upI_n e] at h3
      rw [upN_n e, addH_81]
      exact t3 c (by omega) h3
  · rw [upT_n (by omega)]
    exact c4 c hc
  · rw [addH_81]
    rcases c5 j hj with h1 | ⟨x, x1, x2, x3⟩
    · exact Or.inl h1
    · exact Or.inr ⟨x, by omega, x2, by rw [upT_n (by omega)]; exact x3⟩
theorem MkO.fresh (c : MkO h N aB nv gn T g y M T1) {j : Nat} (hM : M < 20000) (hx : aB + y + 1 ≤ 9800) (hj : j < 208) (hn : g.vl 81 j < 0) (hgn : ∀ x, gn x = true → x < nv) : MkO h N aB nv gn T ((addH g M 3 (-1) (-1)).put 81 j (M : Int)) (y + 1) (M + 1) (upT T1 M (.var (nv + 2 + j))) := by
  obtain ⟨c1, c2, ⟨rr, tr, τ, t1, t2, t3⟩, c4, c5⟩ := c
  have f1 : ∀ u, u < M → g.vl 66 u = 3 → τ u ≠ nv + 2 + j := fun u hu h3 e => by
    rcases t3 u hu h3 with h4 | ⟨i, i1, i2, i3⟩
    · omega
    · have : i = j := by omega
      rw [this] at i2
      omega
  have f2 : gn (nv + 2 + j) = false := by
    cases hz : gn (nv + 2 + j) with
    | false => rfl
    | true => have := hgn _ hz; omega
  obtain ⟨n1, n2, n3⟩ := t1.add (k := 3) (a := -1) (b := -1) (nm := nv + 2 + j) (nv' := nv + 210) (aB' := aB + y + 1) hM (by omega) (fun z => absurd z (by decide)) (fun _ => ⟨⟨f1, by omega, by omega⟩, f2⟩) (Nat.le_refl _) ⟨by omega, by omega, fun _ => by omega⟩
  · have v81 : ∀ i, ((addH g M 3 (-1) (-1)).put 81 j (M : Int)).vl 81 i = if i = j then (M : Int) else g.vl 81 i := fun i => by
      rw [AH.put_vl, addH_81]
      by_cases z : i = j
      · rw [if_pos ⟨rfl, z⟩, if_pos z]
      · rw [if_neg (fun w => z w.2), if_neg z]
    have v66 : ((addH g M 3 (-1) (-1)).put 81 j (M : Int)).vl 66 = upI (g.vl 66) M 3 := (put_ne _ (by decide)).trans addH_66
    have kk : KP (addH g M 3 (-1) (-1)) ((addH g M 3 (-1) (-1)).put 81 j (M : Int)) [81] [] := KP.rf.pr (by decide) (by decide)
    refine ⟨(c1.tr (addH_kp.wk (by decide) (by decide))).pr (by decide) (by decide), by omega, ⟨_, _, _, n1.kp kk, fun c hc => ?_, fun c hc h3 => ?_⟩, fun c hc => ?_, fun i hi => ?_⟩
    · by_cases e : c = M
      · rw [e, n3, upT_s, if_neg (by decide), if_neg (by decide), if_neg (by decide)]
      · rw [n2 c (by omega), upT_n e]
        exact t2 c (by omega)
    · rw [v66] at h3
      by_cases e : c = M
      · exact Or.inr ⟨j, hj, by rw [v81, if_pos rfl]; omega, by rw [e, upN_s]⟩
      · rw [upI_n e] at h3
        rw [upN_n e]
        rcases t3 c (by omega) h3 with h4 | ⟨i, i1, i2, i3⟩
        · exact Or.inl h4
        · refine Or.inr ⟨i, i1, ?_, i3⟩
          rw [v81]
          split
          · omega
          · exact i2
    · rw [upT_n (by omega)]
      exact c4 c hc
    · rw [v81]
      by_cases e : i = j
      · rw [if_pos e, e]
        exact Or.inr ⟨M, by omega, rfl, upT_s⟩
      · rw [if_neg e]
        rcases c5 i hi with h1 | ⟨x, x1, x2, x3⟩
        · exact Or.inl h1
        · exact Or.inr ⟨x, by omega, x2, by rw [upT_n (by omega)]; exact x3⟩
end MkS
