/-! a term of 60 letters has at most eleven lets -/
/-- how many letters a node takes at least -/
def wtC (x : Nd) : Nat := if x.1 < 4 then 1 else if x.1 = 5 then 4 else if x.1 = 4 then 3 else 0
def wtL : List Nd → Nat
  | [] => 0
  | x :: L => wtC x + wtL L
theorem wtL_app : ∀ (L M : List Nd), wtL (L ++ M) = wtL L + wtL M
  | [], M => by rw [List.nil_append, wtL, Nat.zero_add]
  | x :: L, M => by
    show wtC x + wtL (L ++ M) = wtC x + wtL L + wtL M
    rw [wtL_app L M]; omega
def opW (f : Fr) : Nat := if f.1 = 4 then 4 else if 2 ≤ f.1 then 3 else 0
def toW : List Fr → Nat
  | [] => 0
  | f :: r => wtL f.2.2.2.2 + wtL f.2.2.2.1 + opW f + toW r
theorem toW_cl : ∀ (r : List Fr) (f : Fr), toW ((clH f r).1 :: (clH f r).2) ≤ toW (f :: r)
  | [], f => Nat.le_refl _
  | g :: r, f => by
    unfold clH
    by_cases hf : f.1 = 2 ∨ f.1 = 4
    · rw [if_pos hf]
      refine Nat.le_trans (toW_cl r (cl1 f g)) ?_
      have e1 : toW (cl1 f g :: r) = wtL (cl1 f g).2.2.2.2 + wtL g.2.2.2.1 + opW g + toW r := rfl
      have e2 : toW (f :: g :: r) = wtL f.2.2.2.2 + wtL f.2.2.2.1 + opW f + (wtL g.2.2.2.2 + wtL g.2.2.2.1 + opW g + toW r) := rfl
      have e3 : wtL (cl1 f g).2.2.2.2 ≤ wtL f.2.2.2.2 + wtL f.2.2.2.1 + opW f := by
        show wtL (if f.1 = 2 then (4, f.2.1, f.2.2.1) :: f.2.2.2.2 else (5, f.2.1, f.2.2.1) :: (f.2.2.2.1 ++ f.2.2.2.2)) ≤ _
        by_cases h2 : f.1 = 2
        · rw [if_pos h2]
          have : opW f = 3 := by unfold opW; rw [if_neg (by omega), if_pos (by omega)]
          have w : wtL ((4, f.2.1, f.2.2.1) :: f.2.2.2.2) = 3 + wtL f.2.2.2.2 := rfl
          omega
        · rw [if_neg h2]
          have : opW f = 4 := by unfold opW; rw [if_pos (by omega)]
          have w : wtL ((5, f.2.1, f.2.2.1) :: (f.2.2.2.1 ++ f.2.2.2.2)) = 4 + wtL (f.2.2.2.1 ++ f.2.2.2.2) := rfl
          rw [wtL_app] at w
          omega
      omega
    · rw [if_neg hf]
      exact Nat.le_refl _
theorem toW_ad {f : Fr} {r : List Fr} {L : List Nd} : toW (adF f L :: r) ≤ toW (f :: r) + wtL L := by
  have e1 : toW (adF f L :: r) = wtL (adF f L).2.2.2.2 + wtL f.2.2.2.1 + opW f + toW r := rfl
  have e2 : toW (f :: r) = wtL f.2.2.2.2 + wtL f.2.2.2.1 + opW f + toW r := rfl
  have e3 : wtL (adF f L).2.2.2.2 ≤ wtL f.2.2.2.2 + wtL L := by
    show wtL (if f.2.2.2.2 = [] then L else (6, 0, atL f.2.2.2.2) :: (f.2.2.2.2 ++ L)) ≤ _
    by_cases h2 : f.2.2.2.2 = []
    · rw [if_pos h2]; omega
    · rw [if_neg h2]
      have w : wtL ((6, 0, atL f.2.2.2.2) :: (f.2.2.2.2 ++ L)) = 0 + wtL (f.2.2.2.2 ++ L) := rfl
      rw [wtL_app] at w
      omega
  omega
theorem rdF_wt {c : Nat → Int} {n : Nat} : ∀ (t : Nat) (f : Fr) (r : List Fr) (i : Nat), i ≤ n → toW (f :: r) ≤ i → wtL (rdF c n t f r i).2 ≤ n := by
  intro t
  induction t with
  | zero => intro f r i _ _; exact Nat.zero_le _
  | succ t ih =>
    intro f r i hi hto
    have tc := toW_cl r f
    obtain ⟨ch, hch⟩ : ∃ ch, ch = (if i < n then c i else -1) := ⟨_, rfl⟩
    have hin : ch ≠ -1 → i < n := fun z => by
      by_cases h : i < n
      · exact h
      · rw [if_neg h] at hch; exact absurd hch z
    rw [rdF, ← hch]
    by_cases c1 : f.2.2.2.2 = [] ∧ (ch = 94 ∨ ch = 33)
    · rw [if_pos c1]
      by_cases c2 : ¬ (i + 1 < n ∧ 97 ≤ c (i + 1) ∧ c (i + 1) ≤ 122)
      · rw [if_pos c2]; exact Nat.zero_le _
      · rw [if_neg c2]
        by_cases c3 : ¬ (i + 2 < n ∧ c (i + 2) = (if ch = 94 then 46 else 61))
        · rw [if_pos c3]; exact Nat.zero_le _
        · rw [if_neg c3]
          have c3' := Decidable.not_not.mp c3
          have e3 : toW ((if ch = 94 then 2 else 3, c (i + 1), (i : Int), [], []) :: f :: r) = 0 + 0 + opW (if ch = 94 then 2 else 3, c (i + 1), (i : Int), [], []) + toW (f :: r) := rfl
          have e4 : opW (if ch = 94 then 2 else 3, c (i + 1), (i : Int), [], []) ≤ 3 := by
            unfold opW
            show (if (if ch = 94 then (2 : Int) else 3) = 4 then 4 else if 2 ≤ (if ch = 94 then (2 : Int) else 3) then 3 else 0) ≤ 3
            by_cases z : ch = 94
            · rw [if_pos z]; decide
            · rw [if_neg z]; decide
          exact ih _ _ _ (by omega) (by omega)
    · rw [if_neg c1]
      by_cases c2 : ch = 40
      · rw [if_pos c2]
        have := hin (by omega)
        have e2 : toW ((1, 0, (i : Int), [], []) :: f :: r) = 0 + toW (f :: r) := rfl
        exact ih _ _ _ (by omega) (by omega)
      · rw [if_neg c2]
        by_cases c3 : 0 ≤ lk ch
        · rw [if_pos c3]
          have := hin (fun z => by rw [z] at c3; exact absurd c3 (by decide))
          have ta := toW_ad (f := f) (r := r) (L := [(lk ch, ch, (i : Int))])
          have w1 : wtL [(lk ch, ch, (i : Int))] = 1 := by
            show wtC (lk ch, ch, (i : Int)) + 0 = 1
            unfold wtC
            rw [if_pos lk_lt]
          exact ih _ _ _ (by omega) (by omega)
        · rw [if_neg c3]
          by_cases c4 : f.2.2.2.2 = [] ∨ ¬ (ch = 41 ∨ ch = 59 ∨ ch = -1)
          · rw [if_pos c4]; exact Nat.zero_le _
          · rw [if_neg c4]
            have tq : toW ((clH f r).1 :: (clH f r).2) = wtL (clH f r).1.2.2.2.2 + wtL (clH f r).1.2.2.2.1 + opW (clH f r).1 + toW (clH f r).2 := rfl
            by_cases c5 : ch = -1 ∧ (clH f r).1.1 = 0
            · rw [if_pos c5]
              show wtL (clH f r).1.2.2.2.2 ≤ n
              omega
            · rw [if_neg c5]
              by_cases c6 : ch = 41 ∧ (clH f r).1.1 = 1
              · rw [if_pos c6]
                have := hin (by omega)
                cases hq : (clH f r).2 with
                | nil => exact Nat.zero_le _
                | cons g s =>
                  rw [hq] at tq
                  have ta := toW_ad (f := g) (r := s) (L := (clH f r).1.2.2.2.2)
                  rw [hq] at tc
                  exact ih _ _ _ (by omega) (by omega)
              · rw [if_neg c6]
                by_cases c7 : ch = 59 ∧ (clH f r).1.1 = 3
                · rw [if_pos c7]
                  have := hin (by omega)
                  have e4 : opW (clH f r).1 = 3 := by unfold opW; rw [if_neg (by omega), if_pos (by omega)]
                  have e5 : toW ((4, (clH f r).1.2.1, (clH f r).1.2.2.1, (clH f r).1.2.2.2.2, []) :: (clH f r).2) = 0 + wtL (clH f r).1.2.2.2.2 + 4 + toW (clH f r).2 := rfl
                  exact ih _ _ _ (by omega) (by omega)
                · rw [if_neg c7]; exact Nat.zero_le _
theorem rd_wt {c : Nat → Int} {n : Nat} : wtL (rd c n).2 ≤ n := rdF_wt _ _ _ _ (Nat.zero_le _) (Nat.le_refl _)
/-- how many lets -/
def nle : List Nd → Nat
  | [] => 0
  | x :: L => (if x.1 = 5 then 1 else 0) + nle L
theorem nle_app : ∀ (L M : List Nd), nle (L ++ M) = nle L + nle M
  | [], M => by rw [List.nil_append, nle, Nat.zero_add]
  | x :: L, M => by
    show (if x.1 = 5 then 1 else 0) + nle (L ++ M) = (if x.1 = 5 then 1 else 0) + nle L + nle M
    rw [nle_app L M]; omega
theorem nle_sh : ∀ {T : TE} {D : List Nd}, shT T D → 5 * nle D + 1 ≤ wtL D
  | .var _, D, ⟨x, e, hx⟩ => by
    rw [e]
    show 5 * ((if x.1 = 5 then 1 else 0) + 0) + 1 ≤ wtC x + 0
    unfold wtC
    rw [if_neg (by omega), if_pos hx]
    decide
  | .op a b, D, h => by
    rcases h with ⟨x, D1, e, hx, h1⟩ | ⟨x, D1, D2, e, hx, h1, h2⟩
    · have := nle_sh h1
      rw [e]
      show 5 * ((if x.1 = 5 then 1 else 0) + nle D1) + 1 ≤ wtC x + wtL D1
      rw [if_neg (by omega)]
      omega
    · have := nle_sh h1
      have := nle_sh h2
      rw [e]
      show 5 * ((if x.1 = 5 then 1 else 0) + nle (D1 ++ D2)) + 1 ≤ wtC x + wtL (D1 ++ D2)
      rw [nle_app, wtL_app]
      unfold wtC
      by_cases z : x.1 = 5
      · rw [if_pos z, if_neg (by omega), if_pos z]
        omega
      · rw [if_neg z]
        omega
theorem NV.nle {h : AH} {N : Nat} {LL : Nat → List Nd} {l : Nat} (hN : NV h N LL) (hl : l < N) : nle (LL l) ≤ 11 := by
  obtain ⟨T, hT⟩ := hN.sh hl
  obtain ⟨n, a, b, c⟩ := hN.2.2 l hl
  have := rd_wt (c := fun j => h.vl 43 (3 + 61 * l + 1 + j)) (n := n)
  rw [c] at this
  have w : wtL (LL l) ≤ n := this
  have := nle_sh hT
  omega
