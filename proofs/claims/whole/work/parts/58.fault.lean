/-! the class's way of looking for a fault, and the reference's: the same -/
def opl : List Fr → List Int
  | [] => []
  | f :: r => if f.1 = 1 then 40 :: opl r else if f.1 = 3 then 61 :: opl r else opl r
def pP (o : List Int) (c : Int) : Int × List Int := if c = 40 then (0, 40 :: o) else if 0 ≤ lk c then (5, o) else (6, o)
def pO (o : List Int) (x pl : Int) : Int × List Int := match o with | [] => (6, []) | y :: s => if y = x then (pl, s) else (6, y :: s)
def pB (pl : Int) (o : List Int) (c : Int) : Int × List Int :=
  if pl = 0 then (if c = 94 then (1, o) else if c = 33 then (3, o) else pP o c)
  else if pl = 1 then (if 97 ≤ c ∧ c ≤ 122 then (2, o) else (6, o))
  else if pl = 2 then (if c = 46 then (0, o) else (6, o))
  else if pl = 3 then (if 97 ≤ c ∧ c ≤ 122 then (4, o) else (6, o))
  else if pl = 4 then (if c = 61 then (0, 61 :: o) else (6, o))
  else (if c = 41 then pO o 40 5 else if c = 59 then pO o 61 0 else pP o c)
def fiF (c : Nat → Int) (n : Nat) : Nat → Nat → Int → List Int → Int
  | 0, _, pl, o => if pl = 5 ∧ o = [] then -1 else (n : Int)
  | t + 1, i, pl, o => if (pB pl o (c i)).1 = 6 then (i : Int) else fiF c n t (i + 1) (pB pl o (c i)).1 (pB pl o (c i)).2
theorem opl_o {f : Fr} {r : List Fr} (h1 : f.1 ≠ 1) (h3 : f.1 ≠ 3) : opl (f :: r) = opl r := by rw [opl, if_neg h1, if_neg h3]
theorem opl_1 {f : Fr} {r : List Fr} (h1 : f.1 = 1) : opl (f :: r) = 40 :: opl r := by rw [opl, if_pos h1]
theorem opl_3 {f : Fr} {r : List Fr} (h3 : f.1 = 3) : opl (f :: r) = 61 :: opl r := by rw [opl, if_neg (by omega), if_pos h3]
theorem clH_inv : ∀ (r : List Fr) (f : Fr), WFs f r → f.2.2.2.2 ≠ [] → WFs (clH f r).1 (clH f r).2 ∧ opl ((clH f r).1 :: (clH f r).2) = opl (f :: r) ∧ (clH f r).1.2.2.2.2 ≠ [] ∧ (((clH f r).1.1 = 0 ∧ (clH f r).2 = []) ∨ (clH f r).1.1 = 1 ∨ (clH f r).1.1 = 3)
  | [], f, hW, hd => ⟨hW, rfl, hd, Or.inl ⟨hW, rfl⟩⟩
  | g :: r, f, hW, hd => by
    unfold clH
    by_cases hf : f.1 = 2 ∨ f.1 = 4
    · rw [if_pos hf]
      have hd2 : (cl1 f g).2.2.2.2 ≠ [] := by
        show (if f.1 = 2 then (4, f.2.1, f.2.2.1) :: f.2.2.2.2 else (5, f.2.1, f.2.2.1) :: (f.2.2.2.1 ++ f.2.2.2.2)) ≠ []
        by_cases h2 : f.1 = 2
        · rw [if_pos h2]; exact List.cons_ne_nil _ _
        · rw [if_neg h2]; exact List.cons_ne_nil _ _
      have hW2 : WFs (cl1 f g) r := by
        cases r with
        | nil => exact hW.2
        | cons q s => exact hW.2
      obtain ⟨a1, a2, a3, a4⟩ := clH_inv r (cl1 f g) hW2 hd2
      refine ⟨a1, a2.trans ?_, a3, a4⟩
      have e1 : opl (cl1 f g :: r) = opl (g :: r) := rfl
      have e2 : opl (f :: g :: r) = opl (g :: r) := by
        exact opl_o (by omega) (by omega)
      rw [e1, e2]
    · rw [if_neg hf]
      obtain ⟨⟨w1, w2⟩, w3⟩ := hW
      exact ⟨⟨⟨w1, w2⟩, w3⟩, rfl, hd, Or.inr (by show f.1 = 1 ∨ f.1 = 3; omega)⟩
theorem lk_no {c : Int} (h : c = 94 ∨ c = 33 ∨ c = 40 ∨ c = 41 ∨ c = 59 ∨ c = -1) : ¬ 0 ≤ lk c := by
  rcases h with rfl | rfl | rfl | rfl | rfl | rfl <;> decide
theorem adF_ne {f : Fr} {L : List Nd} (h : L ≠ []) : (adF f L).2.2.2.2 ≠ [] := by
  show (if f.2.2.2.2 = [] then L else (6, 0, atL f.2.2.2.2) :: (f.2.2.2.2 ++ L)) ≠ []
  by_cases g : f.2.2.2.2 = []
  · rw [if_pos g]; exact h
  · rw [if_neg g]; exact List.cons_ne_nil _ _
theorem WFs_ad {f : Fr} {r : List Fr} {L : List Nd} (h : WFs f r) : WFs (adF f L) r := by
  cases r with
  | nil => exact h
  | cons g s => exact h
theorem fi_rd {c : Nat → Int} {n : Nat} (hc : ∀ j, j < n → 0 ≤ c j) : ∀ (t t' : Nat) (f : Fr) (r : List Fr) (i : Nat), n = i + t' → n < i + t → WFs f r → fiF c n t' i (if f.2.2.2.2 = [] then 0 else 5) (opl (f :: r)) = (rdF c n t f r i).1 := by
  intro t
  induction t with
  | zero => intro t' f r i h1 h2; exact absurd h2 (by omega)
  | succ t ih =>
    intro t' f r i h1 h2 hW
    obtain ⟨ch, hch⟩ : ∃ ch, ch = (if i < n then c i else -1) := ⟨_, rfl⟩
    rw [rdF, ← hch]
    cases t' with
    | zero =>
      have e : ch = -1 := by rw [hch, if_neg (by omega)]
      have n1 : ¬ (f.2.2.2.2 = [] ∧ (ch = 94 ∨ ch = 33)) := fun z => by rcases z.2 with z | z <;> omega
      have n2 : ¬ ch = 40 := by omega
      have n3 : ¬ 0 ≤ lk ch := lk_no (by omega)
      have n4 : ¬ ch = 41 := by omega
      have n5 : ¬ ch = 59 := by omega
      rw [if_neg n1, if_neg n2, if_neg n3]
      by_cases hd : f.2.2.2.2 = []
      · rw [if_pos (Or.inl hd), if_pos hd, fiF, if_neg (fun z => absurd z.1 (by decide))]
        show (n : Int) = (i : Int)
        omega
      · rw [if_neg (show ¬ (f.2.2.2.2 = [] ∨ ¬ (ch = 41 ∨ ch = 59 ∨ ch = -1)) from fun z => z.elim hd (fun z => z (Or.inr (Or.inr e)))), if_neg hd, fiF]
        obtain ⟨a1, a2, a3, a4⟩ := clH_inv r f hW hd
        rcases a4 with ⟨a4, a5⟩ | a4 | a4
        · rw [if_pos (show ch = -1 ∧ _ from ⟨e, a4⟩)]
          have : opl (f :: r) = [] := by
            rw [← a2, a5, opl_o (by omega) (by omega)]; rfl
          rw [if_pos ⟨rfl, this⟩]
        · have : opl (f :: r) ≠ [] := by
            rw [← a2, opl_1 a4]; exact List.cons_ne_nil _ _
          rw [if_neg (fun z => this z.2), if_neg (show ¬ (ch = -1 ∧ (clH f r).1.1 = 0) from by omega), if_neg (fun z => n4 z.1), if_neg (fun z => n5 z.1)]
          show (n : Int) = (i : Int)
          omega
        · have : opl (f :: r) ≠ [] := by
            rw [← a2, opl_3 a4]; exact List.cons_ne_nil _ _
          rw [if_neg (fun z => this z.2), if_neg (show ¬ (ch = -1 ∧ (clH f r).1.1 = 0) from by omega), if_neg (fun z => n4 z.1), if_neg (fun z => n5 z.1)]
          show (n : Int) = (i : Int)
          omega
    | succ s =>
      have hin : i < n := by omega
      have ech : ch = c i := by rw [hch, if_pos hin]
      have ch0 : 0 ≤ ch := by rw [ech]; exact hc i hin
      rw [fiF, ← ech]
      have fr : ∀ q : Int × List Int, pB (if f.2.2.2.2 = [] then 0 else 5) (opl (f :: r)) ch = q → q.1 = 6 → ∀ x, x = (i : Int) → (if (pB (if f.2.2.2.2 = [] then 0 else 5) (opl (f :: r)) ch).1 = 6 then (i : Int) else fiF c n s (i + 1) (pB (if f.2.2.2.2 = [] then 0 else 5) (opl (f :: r)) ch).1 (pB (if f.2.2.2.2 = [] then 0 else 5) (opl (f :: r)) ch).2) = x := fun q e1 e2 x hx => by
        rw [e1, if_pos e2, hx]
      have gr : ∀ (pl : Int) (o : List Int), pB (if f.2.2.2.2 = [] then 0 else 5) (opl (f :: r)) ch = (pl, o) → pl ≠ 6 → ∀ x, fiF c n s (i + 1) pl o = x → (if (pB (if f.2.2.2.2 = [] then 0 else 5) (opl (f :: r)) ch).1 = 6 then (i : Int) else fiF c n s (i + 1) (pB (if f.2.2.2.2 = [] then 0 else 5) (opl (f :: r)) ch).1 (pB (if f.2.2.2.2 = [] then 0 else 5) (opl (f :: r)) ch).2) = x := fun pl o e1 e2 x hx => by
        rw [e1]
        show (if pl = 6 then (i : Int) else fiF c n s (i + 1) pl o) = x
        rw [if_neg e2, hx]
      by_cases c1 : f.2.2.2.2 = [] ∧ (ch = 94 ∨ ch = 33)
      · rw [if_pos c1]
        have hd := c1.1
        have pb : pB (if f.2.2.2.2 = [] then 0 else 5) (opl (f :: r)) ch = (if ch = 94 then 1 else 3, opl (f :: r)) := by
          rw [if_pos hd, pB, if_pos rfl]
          by_cases g : ch = 94
          · rw [if_pos g, if_pos g]
          · rw [if_neg g, if_neg g, if_pos (by omega)]
        refine gr _ _ pb (by by_cases g : ch = 94 <;> simp [g]) _ ?_
        have st1 : ∀ s2, s = s2 + 1 → fiF c n s (i + 1) (if ch = 94 then 1 else 3) (opl (f :: r)) = (if 97 ≤ c (i + 1) ∧ c (i + 1) ≤ 122 then fiF c n s2 (i + 2) (if ch = 94 then 2 else 4) (opl (f :: r)) else ((i + 1 : Nat) : Int)) := by
          intro s2 hs
          rw [hs, fiF]
          have pb2 : pB (if ch = 94 then 1 else 3) (opl (f :: r)) (c (i + 1)) = (if 97 ≤ c (i + 1) ∧ c (i + 1) ≤ 122 then (if ch = 94 then 2 else 4, opl (f :: r)) else (6, opl (f :: r))) := by
            by_cases g : ch = 94
            · rw [if_pos g, if_pos g, pB, if_neg (by decide), if_pos rfl]
            · rw [if_neg g, if_neg g, pB, if_neg (by decide), if_neg (by decide), if_neg (by decide), if_pos rfl]
          rw [pb2]
          by_cases g2 : 97 ≤ c (i + 1) ∧ c (i + 1) ≤ 122
          · rw [if_pos g2, if_pos g2, if_neg (by by_cases g : ch = 94 <;> simp [g])]
          · rw [if_neg g2, if_neg g2, if_pos rfl]
        have st2 : ∀ s3, fiF c n (s3 + 1) (i + 2) (if ch = 94 then 2 else 4) (opl (f :: r)) = (if c (i + 2) = (if ch = 94 then 46 else 61) then fiF c n s3 (i + 3) 0 (opl ((if ch = 94 then 2 else 3, c (i + 1), (i : Int), [], []) :: f :: r)) else ((i + 2 : Nat) : Int)) := by
          intro s3
          rw [fiF]
          have pb2 : pB (if ch = 94 then 2 else 4) (opl (f :: r)) (c (i + 2)) = (if c (i + 2) = (if ch = 94 then 46 else 61) then (0, opl ((if ch = 94 then 2 else 3, c (i + 1), (i : Int), [], []) :: f :: r)) else (6, opl (f :: r))) := by
            by_cases g : ch = 94
            · simp only [if_pos g]
              rw [pB, if_neg (by decide), if_neg (by decide), if_pos rfl, opl_o (f := (2, c (i + 1), (i : Int), [], [])) (by show (2 : Int) ≠ 1; decide) (by show (2 : Int) ≠ 3; decide)]
            · simp only [if_neg g]
              rw [pB, if_neg (by decide), if_neg (by decide), if_neg (by decide), if_neg (by decide), if_pos rfl, opl_3 (f := (3, c (i + 1), (i : Int), [], [])) rfl]
          rw [pb2]
          by_cases g2 : c (i + 2) = (if ch = 94 then 46 else 61)
          · rw [if_pos g2, if_pos g2, if_neg (by show ¬ (0 : Int) = 6; decide)]
          · rw [if_neg g2, if_neg g2, if_pos rfl]
        by_cases c2 : i + 1 < n ∧ 97 ≤ c (i + 1) ∧ c (i + 1) ≤ 122
        · have nc2 : ¬ ¬ (i + 1 < n ∧ 97 ≤ c (i + 1) ∧ c (i + 1) ≤ 122) := fun z => z c2
          rw [if_neg nc2]
          obtain ⟨s2, hs2⟩ : ∃ s2, s = s2 + 1 := ⟨s - 1, by omega⟩
          rw [st1 s2 hs2, if_pos c2.2]
          by_cases c3 : i + 2 < n ∧ c (i + 2) = (if ch = 94 then 46 else 61)
          · have nc3 : ¬ ¬ (i + 2 < n ∧ c (i + 2) = (if ch = 94 then 46 else 61)) := fun z => z c3
            rw [if_neg nc3]
            obtain ⟨s3, hs3⟩ : ∃ s3, s2 = s3 + 1 := ⟨s2 - 1, by omega⟩
            rw [hs3, st2 s3, if_pos c3.2]
            have := ih s3 (if ch = 94 then 2 else 3, c (i + 1), (i : Int), [], []) (f :: r) (i + 3) (by omega) (by omega) ⟨by by_cases g : ch = 94 <;> simp [g], hW⟩
            rw [if_pos rfl] at this
            exact this
          · rw [if_pos c3]
            by_cases h3 : i + 2 < n
            · obtain ⟨s3, hs3⟩ : ∃ s3, s2 = s3 + 1 := ⟨s2 - 1, by omega⟩
              rw [hs3, st2 s3, if_neg (fun z => c3 ⟨h3, z⟩)]
            · have e0 : s2 = 0 := by omega
              rw [e0, fiF, if_neg (fun z => by have := z.1; by_cases g : ch = 94 <;> simp [g] at this)]
              show (n : Int) = ((i + 2 : Nat) : Int)
              omega
        · rw [if_pos c2]
          by_cases h3 : i + 1 < n
          · obtain ⟨s2, hs2⟩ : ∃ s2, s = s2 + 1 := ⟨s - 1, by omega⟩
            rw [st1 s2 hs2, if_neg (fun z => c2 ⟨h3, z⟩)]
          · have e0 : s = 0 := by omega
            rw [e0, fiF, if_neg (fun z => by have := z.1; by_cases g : ch = 94 <;> simp [g] at this)]
            show (n : Int) = ((i + 1 : Nat) : Int)
            omega
      · rw [if_neg c1]
        have plP : ¬ (ch = 41 ∨ ch = 59) ∨ f.2.2.2.2 = [] → pB (if f.2.2.2.2 = [] then 0 else 5) (opl (f :: r)) ch = pP (opl (f :: r)) ch := by
          intro hz
          by_cases hd : f.2.2.2.2 = []
          · rw [if_pos hd, pB, if_pos rfl, if_neg (fun z => c1 ⟨hd, Or.inl z⟩), if_neg (fun z => c1 ⟨hd, Or.inr z⟩)]
          · rw [if_neg hd, pB, if_neg (by decide), if_neg (by decide), if_neg (by decide), if_neg (by decide), if_neg (by decide)]
            have := hz.resolve_right hd
            rw [if_neg (fun z => this (Or.inl z)), if_neg (fun z => this (Or.inr z))]
        by_cases c2 : ch = 40
        · rw [if_pos c2]
          have pb := plP (Or.inl (by omega))
          rw [pP, if_pos c2] at pb
          refine gr 0 (40 :: opl (f :: r)) pb (by decide) _ ?_
          have := ih s (1, 0, (i : Int), [], []) (f :: r) (i + 1) (by omega) (by omega) ⟨⟨by show (1 : Int) ≤ 1; decide, by show (1 : Int) ≤ 4; decide⟩, hW⟩
          rw [if_pos rfl] at this
          exact this
        · rw [if_neg c2]
          by_cases c3 : 0 ≤ lk ch
          · rw [if_pos c3]
            have pb := plP (Or.inl (fun z => lk_no (by omega) c3))
            rw [pP, if_neg c2, if_pos c3] at pb
            refine gr 5 (opl (f :: r)) pb (by decide) _ ?_
            have := ih s (adF f [(lk ch, ch, (i : Int))]) r (i + 1) (by omega) (by omega) (WFs_ad hW)
            rw [if_neg (adF_ne (List.cons_ne_nil _ _))] at this
            exact this
          · rw [if_neg c3]
            by_cases hd : f.2.2.2.2 = []
            · rw [if_pos (show f.2.2.2.2 = [] ∨ ¬ (ch = 41 ∨ ch = 59 ∨ ch = -1) from Or.inl hd)]
              have pb := plP (Or.inr hd)
              rw [pP, if_neg c2, if_neg c3] at pb
              exact fr _ pb rfl _ rfl
            · by_cases c4 : ch = 41 ∨ ch = 59
              · rw [if_neg (show ¬ (f.2.2.2.2 = [] ∨ ¬ (ch = 41 ∨ ch = 59 ∨ ch = -1)) from fun z => z.elim hd (fun z => z (by omega))), if_neg (show ¬ (ch = -1 ∧ (clH f r).1.1 = 0) from by omega)]
                obtain ⟨a1, a2, a3, a4⟩ := clH_inv r f hW hd
                have pb : pB (if f.2.2.2.2 = [] then 0 else 5) (opl (f :: r)) ch = (if ch = 41 then pO (opl (f :: r)) 40 5 else pO (opl (f :: r)) 61 0) := by
                  rw [if_neg hd, pB, if_neg (by decide), if_neg (by decide), if_neg (by decide), if_neg (by decide), if_neg (by decide)]
                  by_cases g : ch = 41
                  · rw [if_pos g, if_pos g]
                  · rw [if_neg g, if_neg g, if_pos (by omega)]
                rw [← a2] at pb
                rcases c4 with c4 | c4
                · rw [if_pos c4] at pb
                  by_cases c5 : (clH f r).1.1 = 1
                  · rw [if_pos (show ch = 41 ∧ _ from ⟨c4, c5⟩)]
                    rw [opl_1 c5, pO, if_pos rfl] at pb
                    rw [opl_1 c5] at a2
                    cases hq : (clH f r).2 with
                    | nil =>
                      rw [hq] at a1
                      exact absurd (show (clH f r).1.1 = 0 from a1) (by omega)
                    | cons g q =>
                      rw [hq] at pb a1 a2
                      rw [a2] at pb
                      refine gr 5 (opl (g :: q)) pb (by decide) _ ?_
                      have hW2 : WFs g q := a1.2
                      have := ih s (adF g (clH f r).1.2.2.2.2) q (i + 1) (by omega) (by omega) (WFs_ad hW2)
                      rw [if_neg (adF_ne a3)] at this
                      exact this
                  · have nc5 : ¬ (ch = 41 ∧ (clH f r).1.1 = 1) := fun z => c5 z.2
                    rw [if_neg nc5, if_neg (show ¬ (ch = 59 ∧ (clH f r).1.1 = 3) from by omega)]
                    have e6 : (pO (opl ((clH f r).1 :: (clH f r).2)) 40 5).1 = 6 := by
                      rcases a4 with ⟨a4, a5⟩ | a4 | a4
                      · rw [a5, opl_o (by omega) (by omega)]; rfl
                      · exact absurd a4 c5
                      · rw [opl_3 a4]; rfl
                    rw [a2] at pb e6
                    exact fr _ pb e6 _ rfl
                · rw [if_neg (show ¬ ch = 41 from by omega)] at pb
                  rw [if_neg (show ¬ (ch = 41 ∧ (clH f r).1.1 = 1) from by omega)]
                  by_cases c5 : (clH f r).1.1 = 3
                  · rw [if_pos (show ch = 59 ∧ _ from ⟨c4, c5⟩)]
                    rw [opl_3 c5, pO, if_pos rfl] at pb
                    rw [opl_3 c5] at a2
                    rw [a2] at pb
                    refine gr 0 (opl (clH f r).2) pb (by decide) _ ?_
                    have hW2 : WFs (4, (clH f r).1.2.1, (clH f r).1.2.2.1, (clH f r).1.2.2.2.2, []) (clH f r).2 := by
                      cases hq : (clH f r).2 with
                      | nil =>
                        rw [hq] at a1
                        exact absurd (show (clH f r).1.1 = 0 from a1) (by omega)
                      | cons g q =>
                        rw [hq] at a1
                        exact ⟨⟨by show (1 : Int) ≤ 4; decide, by show (4 : Int) ≤ 4; decide⟩, a1.2⟩
                    have := ih s (4, (clH f r).1.2.1, (clH f r).1.2.2.1, (clH f r).1.2.2.2.2, []) (clH f r).2 (i + 1) (by omega) (by omega) hW2
                    rw [if_pos rfl] at this
                    exact this
                  · have nc5 : ¬ (ch = 59 ∧ (clH f r).1.1 = 3) := fun z => c5 z.2
                    rw [if_neg nc5]
                    have e6 : (pO (opl ((clH f r).1 :: (clH f r).2)) 61 0).1 = 6 := by
                      rcases a4 with ⟨a4, a5⟩ | a4 | a4
                      · rw [a5, opl_o (by omega) (by omega)]; rfl
                      · rw [opl_1 a4]; rfl
                      · exact absurd a4 c5
                    rw [a2] at pb e6
                    exact fr _ pb e6 _ rfl
              · rw [if_pos (show f.2.2.2.2 = [] ∨ ¬ (ch = 41 ∨ ch = 59 ∨ ch = -1) from Or.inr (by omega))]
                have pb := plP (Or.inl c4)
                rw [pP, if_neg c2, if_neg c3] at pb
                exact fr _ pb rfl _ rfl
theorem fi_eq {c : Nat → Int} {n : Nat} (hc : ∀ j, j < n → 0 ≤ c j) : fiF c n n 0 0 [] = (rd c n).1 := by
  have := fi_rd hc (n + 1) n (0, 0, 0, [], []) [] 0 (by omega) (by omega) rfl
  rw [if_pos rfl] at this
  exact this
