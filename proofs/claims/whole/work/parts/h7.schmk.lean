/-! what a let keeps is right where it is spelled (pure) -/
theorem oc_rep {so fr to li : Nat → Int} {N : Nat} {rr : Nat → Nat} {tr : Nat → TE} (hg : GW so fr to li N rr) (hT : GT so fr to rr N tr) (hs : ∀ t, t < N → 0 ≤ so t ∧ so t ≤ 3) : ∀ (U : TE) (t : Nat), t < N → tr t = U → ∀ x, 2 ≤ x → oc x U = true → x - 2 < N ∧ so (x - 2) = 3 ∧ rr (x - 2) = x - 2 ∧ tr (x - 2) = .var x
  | .var v, t, h, e, x, x2, ho => by
    obtain ⟨a1, a2, a3⟩ := hT t h
    rw [if_neg (GT_va hT h e), e] at a3
    have h4 := hs _ a1
    have k := GT_va hT h e
    have ev : v = x := by simpa [oc] using ho
    subst ev
    unfold lfc at a3
    by_cases k0 : so (rr t) = 0
    · rw [if_pos k0] at a3; have := Lean.Data.AC.Expr.var.inj a3; omega
    · rw [if_neg k0] at a3
      by_cases k1 : so (rr t) = 1
      · rw [if_pos k1] at a3; have := Lean.Data.AC.Expr.var.inj a3; omega
      · rw [if_neg k1] at a3
        have a3 := Lean.Data.AC.Expr.var.inj a3
        rw [show v - 2 = rr t by omega]
        exact ⟨a1, by omega, a2, (hT.rr h).trans e⟩
  | .op a b, t, h, e, x, x2, ho => by
    obtain ⟨a1, a2, -⟩ := hT t h
    obtain ⟨k, ea, eb⟩ := GT_op hT h e
    obtain ⟨f1', f2'⟩ := hg.2.2 (rr t) a1 k
    have ho : oc x a = true ∨ oc x b = true := by simpa [oc] using ho
    rcases ho with ho | ho
    · exact oc_rep hg hT hs a _ (by omega) ea.symm x x2 ho
    · exact oc_rep hg hT hs b _ (by omega) eb.symm x x2 ho
theorem SchP.mk {so fr to li : Nat → Int} {L : List Nd} {S : IS} {N c1 e : Nat} {rr : Nat → Nat} {tr : Nat → TE} {τ : Nat → Nat} {T : Nat → TE} {am : Nat → Bool} (G : NG so fr to li N rr tr τ S.1) (hT : ∀ c, c < N → nmC τ (tr c) = T c) (hc1 : c1 < N) (hX : T c1 = S.2.1 (fstN L e)) (hsz : sz (T c1) ≤ 200) (ham : ∀ c, c < N → so c = 3 → rr c = c → (am (c + 2) = true ↔ evV S (envN L e) (τ c))) :
    SchP L (isGn L S e) N T e (tpA am (tr c1) []).1 ((tpA am (tr c1) []).2.map (fun x => τ (x - 2))) := by
  obtain ⟨n1, n2, n3, n4, n5⟩ := id G
  have rep := oc_rep n1 n2 n3 (tr c1) c1 hc1 rfl
  have szt : sz (tr c1) ≤ 200 := by
    rw [← hT c1 hc1] at hsz
    rw [show sz (nmC τ (tr c1)) = sz (tr c1) from nm_sz _] at hsz
    exact hsz
  obtain ⟨i1, i2, i3⟩ := tpA_in (am := am) (tr c1) [] List.nodup_nil
  have len : (tpA am (tr c1) []).2.length ≤ 200 := by
    rw [(tpA_row (am := am) (tr c1) []).2]
    have := cnA_le (al := am) (tr c1) []
    rw [List.length_nil] at this
    omega
  have mem : ∀ x ∈ (tpA am (tr c1) []).2, 2 ≤ x ∧ oc x (tr c1) = true ∧ am x = false := fun x hx => (i3 x hx).resolve_left (fun z => nomatch z)
  have ocτ : ∀ x, 2 ≤ x → oc x (tr c1) = true → oc (τ (x - 2)) (S.2.1 (fstN L e)) = true := fun x x2 ho => by
    obtain ⟨r1, r2, r3, r4⟩ := rep x x2 ho
    rw [← hX, ← hT c1 hc1]
    exact (oc_nmC (P := VP so N) G.inj ⟨x2, r1, r2⟩ (tr c1) (G.vs hc1)).mpr ho
  refine ⟨⟨by rw [tpA_sz]; exact szt, by rw [List.length_map]; exact len⟩, ?_, fun y hy => ?_, fun v v2 vo => ?_, ?_⟩
  · unfold List.Nodup
    rw [List.pairwise_map]
    refine List.Pairwise.imp_of_mem (fun {x y} hx hy hne he => hne ?_) i1
    obtain ⟨x2, x3, -⟩ := mem x hx
    obtain ⟨y2, y3, -⟩ := mem y hy
    obtain ⟨r1, r2, -⟩ := rep x x2 x3
    obtain ⟨q1, q2, -⟩ := rep y y2 y3
    have := n4 (x - 2) (y - 2) r1 q1 r2 q2 he
    omega
  · obtain ⟨x, hx, rfl⟩ := List.mem_map.mp hy
    obtain ⟨x2, x3, x4⟩ := mem x hx
    obtain ⟨r1, r2, r3, r4⟩ := rep x x2 x3
    obtain ⟨p1, p2⟩ := n5 (x - 2) r1 r2
    refine ⟨p1, p2, ?_⟩
    show (S.2.2.2 (τ (x - 2)) || (oc (τ (x - 2)) (S.2.1 (fstN L e)) && !((envN L e).any (fun k => oc (τ (x - 2)) (S.2.2.1 k))))) = true
    rw [ocτ x x2 x3, Bool.true_and, Bool.or_eq_true]
    refine Or.inr ?_
    rw [Bool.not_eq_true']
    refine List.any_eq_false.mpr (fun k k1 k2 => ?_)
    have := (ham (x - 2) r1 r2 r3).mpr ⟨k, k1, k2⟩
    rw [show x - 2 + 2 = x by omega, x4] at this
    exact Bool.noConfusion this
  · rw [List.length_map]
    rcases tpA_oc (tr c1) [] vo v2 with z | ⟨z1, z2, z3⟩
    · exact Or.inl z
    · obtain ⟨r1, r2, r3, r4⟩ := rep _ (by omega) z3
      rw [show v - 999 + 2 - 2 = v - 999 by omega] at r1 r2 r3 r4
      refine Or.inr ⟨z1, r1, fun y y2 yo => ?_⟩
      rw [← hT _ r1, r4] at yo
      have yo : oc y (nmT (fun x => τ (x - 2)) (.var (v - 999 + 2))) = true := yo
      rw [nm_var, if_neg (by omega)] at yo
      have e1 : τ (v - 999 + 2 - 2) = y := by simpa [oc] using yo
      rw [show v - 999 + 2 - 2 = v - 999 by omega] at e1
      rw [← e1]
      exact (ham _ r1 r2 r3).mp z2
  · show S.2.1 (fstN L e) = _
    rw [← hX, ← hT c1 hc1]
    refine (tpA_nm (am := am) (τ := τ) (W := T) (tr c1) [] [] _ (List.append_nil _).symm (by omega) (fun x x2 x3 _ => ?_)).symm
    obtain ⟨r1, r2, r3, r4⟩ := rep x x2 x3
    rw [← hT _ r1, r4]
    show nmT _ (.var x) = _
    rw [nm_var, if_neg (by omega)]
