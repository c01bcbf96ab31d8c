/-! the reference's way through orders that aren't done yet -/
def nxt2 (c : Nat → Int) (n i : Nat) : Int := if i < n then c i else -1
def io1 (c : Nat → Int) (n i : Nat) : Nat := if nxt2 c n i = 117 then i + 1 else i + 2
def io (c : Nat → Int) (n i : Nat) : Bool × Nat :=
  if ¬ (nxt2 c n i = 107 ∨ nxt2 c n i = 117 ∨ nxt2 c n i = 120) then (false, i)
  else if nxt2 c n i ≠ 117 ∧ ¬ (48 ≤ nxt2 c n (i + 1) ∧ nxt2 c n (i + 1) ≤ 57) then (false, i + 1)
  else if nxt2 c n i ≠ 120 ∧ ¬ (65 ≤ nxt2 c n (io1 c n i) ∧ nxt2 c n (io1 c n i) ≤ 72) then (false, io1 c n i)
  else (true, if nxt2 c n i = 120 then io1 c n i else io1 c n i + 1)
def ao (c : Nat → Int) (n : Nat) : Nat → Nat → Nat → Bool × Nat × Nat
  | 0, i, k => (true, i, k)
  | t + 1, i, k => if i < n then (if c i = 59 then (if (io c n (i + 1)).1 then ao c n t (io c n (i + 1)).2 (k + 1) else (false, (io c n (i + 1)).2, k + 1)) else (false, i, k)) else (true, i, k)
/-- whether the orders are right, how far the reading came, how many were read behind the first -/
def aos (c : Nat → Int) (n : Nat) : Bool × Nat × Nat := if (io c n 0).1 then ao c n n (io c n 0).2 0 else (false, (io c n 0).2, 0)
theorem nxt2_lt {c : Nat → Int} {n i : Nat} (h : i < n) : nxt2 c n i = c i := if_pos h
theorem nxt2_ge {c : Nat → Int} {n i : Nat} (h : ¬ i < n) : nxt2 c n i = -1 := if_neg h
theorem io_oF {c : Nat → Int} {n : Nat} : ∀ (t i : Nat), i + t = n → (oF c n t i 0 = if (io c n i).1 then oF c n (n - (io c n i).2) (io c n i).2 4 else ((io c n i).2 : Int)) ∧ ((io c n i).1 = true → i < (io c n i).2 ∧ (io c n i).2 ≤ n) := by
  -- one letter of an order
  have stp : ∀ (t i : Nat) (pl : Int), i + (t + 1) = n → oF c n (t + 1) i pl = if oB pl (nxt2 c n i) = 5 then (i : Int) else oF c n t (i + 1) (oB pl (nxt2 c n i)) := fun t i pl h => by
    rw [oF, nxt2_lt (by omega)]
  have fin : ∀ (i : Nat) (pl : Int), i = n → pl ≠ 4 → oF c n 0 i pl = (i : Int) := fun i pl h h4 => by
    rw [oF, if_neg h4, h]
  -- a capital is due
  have cap : ∀ (t i : Nat), i + t = n → oF c n t i 3 = (if 65 ≤ nxt2 c n i ∧ nxt2 c n i ≤ 72 then oF c n (n - (i + 1)) (i + 1) 4 else (i : Int)) := by
    intro t i h
    cases t with
    | zero => rw [fin i 3 (by omega) (by decide), nxt2_ge (by omega), if_neg (by decide)]
    | succ t =>
      rw [stp t i 3 h]
      by_cases g : 65 ≤ nxt2 c n i ∧ nxt2 c n i ≤ 72
      · have e : oB 3 (nxt2 c n i) = 4 := by rw [oB, if_neg (by decide), if_neg (by decide), if_neg (by decide), if_pos rfl, if_pos g]
        rw [e, if_neg (by decide), if_pos g, show n - (i + 1) = t from by omega]
      · have e : oB 3 (nxt2 c n i) = 5 := by rw [oB, if_neg (by decide), if_neg (by decide), if_neg (by decide), if_pos rfl, if_neg g]
        rw [e, if_pos rfl, if_neg g]
  intro t i h
  obtain ⟨w, hw⟩ : ∃ w, w = nxt2 c n i := ⟨_, rfl⟩
  cases t with
  | zero =>
    have e : w = -1 := by rw [hw, nxt2_ge (by omega)]
    have ei : io c n i = (false, i) := by rw [io, ← hw, if_pos (by omega)]
    rw [ei]
    refine ⟨?_, fun z => Bool.noConfusion z⟩
    rw [fin i 0 (by omega) (by decide)]
    rfl
  | succ t =>
    have hin : i < n := by omega
    rw [stp t i 0 h, ← hw]
    by_cases k1 : w = 107
    · have eb : oB 0 w = 2 := by rw [oB, if_pos rfl, if_pos k1]
      rw [eb, if_neg (by decide)]
      have i1 : io1 c n i = i + 2 := by rw [io1, ← hw, if_neg (by omega)]
      by_cases g : 48 ≤ nxt2 c n (i + 1) ∧ nxt2 c n (i + 1) ≤ 57
      · have hlt : i + 1 < n := by
          by_cases z : i + 1 < n
          · exact z
          · rw [nxt2_ge z] at g; omega
        obtain ⟨t2, ht2⟩ : ∃ t2, t = t2 + 1 := ⟨t - 1, by omega⟩
        have e2 : oB 2 (nxt2 c n (i + 1)) = 3 := by rw [oB, if_neg (by decide), if_neg (by decide), if_pos rfl, if_pos g]
        rw [ht2, stp t2 (i + 1) 2 (by omega), e2, if_neg (by decide), cap t2 (i + 1 + 1) (by omega)]
        by_cases g2 : 65 ≤ nxt2 c n (i + 2) ∧ nxt2 c n (i + 2) ≤ 72
        · have hlt2 : i + 2 < n := by
            by_cases z : i + 2 < n
            · exact z
            · rw [nxt2_ge z] at g2; omega
          have ei : io c n i = (true, i + 3) := by
            rw [io, ← hw, i1, if_neg (by omega), if_neg (fun z => z.2 g), if_neg (fun z => z.2 g2), if_neg (by omega)]
          rw [ei]
          refine ⟨?_, fun _ => ⟨by show i < i + 3; omega, by show i + 3 ≤ n; omega⟩⟩
          rw [if_pos (show 65 ≤ nxt2 c n (i + 1 + 1) ∧ nxt2 c n (i + 1 + 1) ≤ 72 from g2)]
          rfl
        · have ei : io c n i = (false, i + 2) := by
            rw [io, ← hw, i1, if_neg (by omega), if_neg (fun z => z.2 g), if_pos ⟨by omega, g2⟩]
          rw [ei]
          refine ⟨?_, fun z => Bool.noConfusion z⟩
          rw [if_neg (show ¬ (65 ≤ nxt2 c n (i + 1 + 1) ∧ nxt2 c n (i + 1 + 1) ≤ 72) from g2)]
          rfl
      · have ei : io c n i = (false, i + 1) := by
          rw [io, ← hw, if_neg (by omega), if_pos ⟨by omega, g⟩]
        rw [ei]
        refine ⟨?_, fun z => Bool.noConfusion z⟩
        show oF c n t (i + 1) 2 = ((i + 1 : Nat) : Int)
        cases t with
        | zero => exact fin _ 2 (by omega) (by decide)
        | succ t2 =>
          have e2 : oB 2 (nxt2 c n (i + 1)) = 5 := by rw [oB, if_neg (by decide), if_neg (by decide), if_pos rfl, if_neg g]
          rw [stp t2 (i + 1) 2 (by omega), e2, if_pos rfl]
    · by_cases k2 : w = 117
      · have eb : oB 0 w = 3 := by rw [oB, if_pos rfl, if_neg k1, if_pos k2]
        rw [eb, if_neg (by decide), cap t (i + 1) (by omega)]
        have i1 : io1 c n i = i + 1 := by rw [io1, ← hw, if_pos k2]
        by_cases g2 : 65 ≤ nxt2 c n (i + 1) ∧ nxt2 c n (i + 1) ≤ 72
        · have hlt2 : i + 1 < n := by
            by_cases z : i + 1 < n
            · exact z
            · rw [nxt2_ge z] at g2; omega
          have ei : io c n i = (true, i + 2) := by
            rw [io, ← hw, i1, if_neg (by omega), if_neg (fun z => z.1 k2), if_neg (fun z => z.2 g2), if_neg (by omega)]
          rw [ei, if_pos g2]
          exact ⟨rfl, fun _ => ⟨by show i < i + 2; omega, by show i + 2 ≤ n; omega⟩⟩
        · have ei : io c n i = (false, i + 1) := by
            rw [io, ← hw, i1, if_neg (by omega), if_neg (fun z => z.1 k2), if_pos ⟨by omega, g2⟩]
          rw [ei, if_neg g2]
          exact ⟨rfl, fun z => Bool.noConfusion z⟩
      · by_cases k3 : w = 120
        · have eb : oB 0 w = 1 := by rw [oB, if_pos rfl, if_neg k1, if_neg k2, if_pos k3]
          rw [eb, if_neg (by decide)]
          have i1 : io1 c n i = i + 2 := by rw [io1, ← hw, if_neg (by omega)]
          by_cases g : 48 ≤ nxt2 c n (i + 1) ∧ nxt2 c n (i + 1) ≤ 57
          · have hlt : i + 1 < n := by
              by_cases z : i + 1 < n
              · exact z
              · rw [nxt2_ge z] at g; omega
            obtain ⟨t2, ht2⟩ : ∃ t2, t = t2 + 1 := ⟨t - 1, by omega⟩
            have e2 : oB 1 (nxt2 c n (i + 1)) = 4 := by rw [oB, if_neg (by decide), if_pos rfl, if_pos g]
            have ei : io c n i = (true, i + 2) := by
              rw [io, ← hw, i1, if_neg (by omega), if_neg (fun z => z.2 g), if_neg (fun z => z.1 k3), if_pos k3]
            rw [ei, ht2, stp t2 (i + 1) 1 (by omega), e2, if_neg (by decide)]
            refine ⟨?_, fun _ => ⟨by show i < i + 2; omega, by show i + 2 ≤ n; omega⟩⟩
            show oF c n t2 (i + 1 + 1) 4 = oF c n (n - (i + 2)) (i + 2) 4
            rw [show n - (i + 2) = t2 from by omega]
          · have ei : io c n i = (false, i + 1) := by
              rw [io, ← hw, if_neg (by omega), if_pos ⟨by omega, g⟩]
            rw [ei]
            refine ⟨?_, fun z => Bool.noConfusion z⟩
            show oF c n t (i + 1) 1 = ((i + 1 : Nat) : Int)
            cases t with
            | zero => exact fin _ 1 (by omega) (by decide)
            | succ t2 =>
              have e2 : oB 1 (nxt2 c n (i + 1)) = 5 := by rw [oB, if_neg (by decide), if_pos rfl, if_neg g]
              rw [stp t2 (i + 1) 1 (by omega), e2, if_pos rfl]
        · have eb : oB 0 w = 5 := by rw [oB, if_pos rfl, if_neg k1, if_neg k2, if_neg k3]
          have ei : io c n i = (false, i) := by rw [io, ← hw, if_pos (by omega)]
          rw [eb, if_pos rfl, ei]
          exact ⟨rfl, fun z => Bool.noConfusion z⟩
theorem ao_oF {c : Nat → Int} {n : Nat} : ∀ (t i k : Nat), i ≤ n → n ≤ i + t → oF c n (n - i) i 4 = if (ao c n t i k).1 then -1 else ((ao c n t i k).2.1 : Int) := by
  intro t
  induction t with
  | zero =>
    intro i k h1 h2
    have e : n - i = 0 := by omega
    rw [e, oF, if_pos rfl, ao]
    rfl
  | succ t ih =>
    intro i k h1 h2
    rw [ao]
    by_cases hin : i < n
    · rw [if_pos hin]
      obtain ⟨s, hs⟩ : ∃ s, n - i = s + 1 := ⟨n - i - 1, by omega⟩
      rw [hs, oF]
      by_cases g : c i = 59
      · rw [if_pos g]
        have e : oB 4 (c i) = 0 := by rw [oB, if_neg (by decide), if_neg (by decide), if_neg (by decide), if_neg (by decide), if_pos g]
        rw [e, if_neg (by decide)]
        obtain ⟨a, b⟩ := io_oF (c := c) (n := n) s (i + 1) (by omega)
        rw [a]
        by_cases q : (io c n (i + 1)).1 = true
        · rw [if_pos q, if_pos q]
          have := b q
          exact ih _ _ (by omega) (by omega)
        · rw [if_neg q, if_neg q]
          rfl
      · rw [if_neg g]
        have e : oB 4 (c i) = 5 := by rw [oB, if_neg (by decide), if_neg (by decide), if_neg (by decide), if_neg (by decide), if_neg g]
        rw [e, if_pos rfl]
        rfl
    · rw [if_neg hin]
      have e : n - i = 0 := by omega
      rw [e, oF, if_pos rfl]
      rfl
/-- both find the same fault in a text of orders -/
theorem ord_eq {c : Nat → Int} {n : Nat} : oF c n n 0 0 = if (aos c n).1 then -1 else ((aos c n).2.1 : Int) := by
  obtain ⟨a, b⟩ := io_oF (c := c) (n := n) n 0 (by omega)
  rw [a, aos]
  by_cases q : (io c n 0).1 = true
  · rw [if_pos q, if_pos q]
    have := b q
    exact ao_oF n _ 0 (by omega) (by omega)
  · rw [if_neg q, if_neg q]
    rfl
