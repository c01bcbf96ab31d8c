/-! every node of a term: what it is, and where its parts stand -/
theorem tbF_59n : ∀ (L : List Nd) (k : Nat) (P : List Int) (s : Nat → Nat → Int) (j : Nat), j < k → (∀ p ∈ P, p ≠ (j : Int)) → tbF L k P s 59 j = s 59 j
  | [], _, _, _, _, _, _ => rfl
  | x :: L, k, P, s, j, hj, h0 => by
    have hp : P.headD (-1) ≠ (j : Int) := by
      cases P with
      | nil => show (-1 : Int) ≠ j; omega
      | cons p P => exact h0 p List.mem_cons_self
    have e : tb1 x k (P.headD (-1)) s 59 j = s 59 j := by
      rw [tb1_59, if_neg (by omega), if_neg (by omega)]
    rw [tbF, tbF_59n L (k + 1) _ _ j (by omega) (fun p hp => ?_), e]
    rcases List.mem_append.mp hp with hp | hp
    · obtain ⟨-, rfl⟩ := List.mem_replicate.mp hp
      omega
    · exact h0 p (List.mem_of_mem_tail hp)
theorem awF_pre (pre : List Nd) : ∀ p ∈ awF pre 0 [-1], p < (pre.length : Int) := fun p hp => by
  have := awF_lt pre 0 [-1] (fun q hq => by rw [List.mem_singleton.mp hq]; decide) p hp
  rw [Nat.zero_add] at this
  exact this
theorem TBL_lf {pre D post : List Nd} {x : Nd} (hD : D = [x]) (hx : x.1 < 4) : TBL (pre ++ (D ++ post)) 59 pre.length = -1 ∧ TBL (pre ++ (D ++ post)) 60 pre.length = -1 := by
  have lt0 := awF_pre pre
  have hP : (awF pre 0 [-1]).headD (-1) < (pre.length : Int) := by
    cases h : awF pre 0 [-1] with
    | nil => show (-1 : Int) < _; omega
    | cons p P => exact lt0 p (by rw [h]; exact List.mem_cons_self)
  have aw : ∀ p ∈ List.replicate (arN x.1) ((0 + pre.length : Nat) : Int) ++ (awF pre 0 [-1]).tail, p ≠ (pre.length : Int) := fun p hp => by
    rcases List.mem_append.mp hp with hp | hp
    · rw [show arN x.1 = 0 from if_pos hx] at hp
      exact absurd hp List.not_mem_nil
    · have := lt0 p (List.mem_of_mem_tail hp)
      omega
  have e : pre ++ (D ++ post) = pre ++ (x :: post) := by rw [hD]; rfl
  rw [TBL, e, tbF_app]
  constructor
  · rw [tbF, tbF_59n _ _ _ _ _ (by omega) aw, tb1_59, if_neg (by omega), if_pos (by omega)]
  · rw [tbF, tbF_60k _ _ _ _ _ (by omega) aw, tb1_60, if_neg (by omega), if_pos (by omega)]
theorem TBL_f60 {pre D post : List Nd} {x : Nd} {D1 : List Nd} {T : TE} (hD : D = x :: D1) (hx : x.1 = 4) (h1 : shT T D1) : TBL (pre ++ (D ++ post)) 60 pre.length = -1 := by
  have lt0 := awF_pre pre
  have hP : (awF pre 0 [-1]).headD (-1) < (pre.length : Int) := by
    cases h : awF pre 0 [-1] with
    | nil => show (-1 : Int) < _; omega
    | cons p P => exact lt0 p (by rw [h]; exact List.mem_cons_self)
  have a1 : arN x.1 = 1 := by rw [hx]; rfl
  cases D1 with
  | nil => exact absurd rfl (sh_ne h1)
  | cons y D2 =>
    have aw : ∀ p ∈ List.replicate (arN y.1) ((0 + pre.length + 1 : Nat) : Int) ++ (List.replicate (arN x.1) ((0 + pre.length : Nat) : Int) ++ (awF pre 0 [-1]).tail).tail, p ≠ (pre.length : Int) := fun p hp => by
      rcases List.mem_append.mp hp with hp | hp
      · obtain ⟨-, rfl⟩ := List.mem_replicate.mp hp
        omega
      · rw [a1] at hp
        have := lt0 p (List.mem_of_mem_tail hp)
        omega
    have e : pre ++ (D ++ post) = pre ++ (x :: y :: (D2 ++ post)) := by rw [hD]; rfl
    rw [TBL, e, tbF_app, tbF, tbF, tbF_60k _ _ _ _ _ (by omega) aw, tb1_60, if_neg ?_, if_neg (by omega), tb1_60, if_neg (by omega), if_pos (by omega)]
    rintro ⟨z1, z2, z3⟩
    rw [a1] at z2 z3
    refine z2 ?_
    show tb1 _ _ _ _ 59 (((0 + pre.length : Nat) : Int).toNat) < 0
    rw [tb1_59, if_neg (by omega), if_pos (by omega)]
    decide
/-- a node of a part is the top of a part of its own -/
theorem sh_at {L : List Nd} : ∀ (T : TE) (pre D post : List Nd), L = pre ++ (D ++ post) → shT T D → ∀ e, pre.length ≤ e → e < pre.length + D.length → ∃ (T' : TE) (pre' D' post' : List Nd), L = pre' ++ (D' ++ post') ∧ pre'.length = e ∧ shT T' D' ∧ e + D'.length ≤ pre.length + D.length
  | .var v, pre, D, post, hL, h, e, h1, h2 => by
    obtain ⟨x, hD, hx⟩ := id h
    have : D.length = 1 := by rw [hD]; rfl
    exact ⟨.var v, pre, D, post, hL, by omega, h, by omega⟩
  | .op T1 T2, pre, D, post, hL, h, e, h1, h2 => by
    by_cases e0 : e = pre.length
    · exact ⟨.op T1 T2, pre, D, post, hL, e0.symm, h, by omega⟩
    rcases h with ⟨x, D1, hD, hx, s1⟩ | ⟨x, D1, D2, hD, hx, s1, s2⟩
    · have hlD : D.length = D1.length + 1 := by rw [hD, List.length_cons]
      have hL1 : L = (pre ++ [x]) ++ (D1 ++ post) := by rw [hL, hD]; simp
      have el : (pre ++ [x]).length = pre.length + 1 := by simp
      obtain ⟨T', pre', D', post', a1, a2, a3, a4⟩ := sh_at T1 (pre ++ [x]) D1 post hL1 s1 e (by omega) (by omega)
      exact ⟨T', pre', D', post', a1, a2, a3, by omega⟩
    · have hlD : D.length = D1.length + D2.length + 1 := by rw [hD, List.length_cons, List.length_append]
      by_cases c : e < pre.length + 1 + D1.length
      · have hL1 : L = (pre ++ [x]) ++ (D1 ++ (D2 ++ post)) := by rw [hL, hD]; simp
        have el : (pre ++ [x]).length = pre.length + 1 := by simp
        obtain ⟨T', pre', D', post', a1, a2, a3, a4⟩ := sh_at T1 (pre ++ [x]) D1 (D2 ++ post) hL1 s1 e (by omega) (by omega)
        exact ⟨T', pre', D', post', a1, a2, a3, by omega⟩
      · have hL2 : L = (pre ++ (x :: D1)) ++ (D2 ++ post) := by rw [hL, hD]; simp
        have el : (pre ++ (x :: D1)).length = pre.length + 1 + D1.length := by simp; omega
        obtain ⟨T', pre', D', post', a1, a2, a3, a4⟩ := sh_at T2 (pre ++ (x :: D1)) D2 post hL2 s2 e (by omega) (by omega)
        exact ⟨T', pre', D', post', a1, a2, a3, by omega⟩
/-- a node's kind and where its parts stand -/
def NdR (L : List Nd) (e : Nat) : Prop := (TBL L 57 e < 4 ∧ TBL L 59 e = -1 ∧ TBL L 60 e = -1) ∨ (TBL L 57 e = 4 ∧ TBL L 59 e = ((e + 1 : Nat) : Int) ∧ TBL L 60 e = -1 ∧ e + 1 < L.length) ∨ ((TBL L 57 e = 5 ∨ TBL L 57 e = 6) ∧ TBL L 59 e = ((e + 1 : Nat) : Int) ∧ ∃ s : Nat, TBL L 60 e = (s : Int) ∧ e + 1 < s ∧ s < L.length)
theorem ndR {L : List Nd} {T : TE} (hs : shT T L) {e : Nat} (he : e < L.length) : NdR L e := by
  obtain ⟨T', pre, D, post, hL, hp, hsh, hle⟩ := sh_at (L := L) T [] L [] (by simp) hs e (Nat.zero_le _) (by rw [List.length_nil]; omega)
  rw [List.length_nil, Nat.zero_add] at hle
  cases T' with
  | var v =>
    obtain ⟨x, hD, hx⟩ := hsh
    have k57 : TBL L 57 pre.length = x.1 := by rw [hL]; exact (TBL_nd hD).1
    obtain ⟨k1, k2⟩ := TBL_lf (pre := pre) (post := post) hD hx
    rw [← hL, hp] at k1 k2
    rw [hp] at k57
    exact Or.inl ⟨by omega, k1, k2⟩
  | op a b =>
    rcases hsh with ⟨x, D1, hD, hx, s1⟩ | ⟨x, D1, D2, hD, hx, s1, s2⟩
    · have hlD : D.length = D1.length + 1 := by rw [hD, List.length_cons]
      have hp1 := List.length_pos_iff.mpr (sh_ne s1)
      have k57 : TBL L 57 pre.length = x.1 := by rw [hL]; exact (TBL_nd hD).1
      have k59 : TBL L 59 pre.length = ((pre.length + 1 : Nat) : Int) := by rw [hL]; exact TBL_f hD (sh_ne s1) (by rw [hx]; decide)
      have k60 : TBL L 60 pre.length = -1 := by rw [hL]; exact TBL_f60 hD hx s1
      rw [hp] at k57 k59 k60
      exact Or.inr (Or.inl ⟨k57.trans hx, k59, k60, by omega⟩)
    · have hlD : D.length = D1.length + D2.length + 1 := by rw [hD, List.length_cons, List.length_append]
      have hp1 := List.length_pos_iff.mpr (sh_ne s1)
      have hp2 := List.length_pos_iff.mpr (sh_ne s2)
      have hx2 : arN x.1 = 2 := by rw [arN, if_neg (by omega), if_neg (by omega)]
      have k57 : TBL L 57 pre.length = x.1 := by rw [hL]; exact (TBL_nd hD).1
      have k59 : TBL L 59 pre.length = ((pre.length + 1 : Nat) : Int) := by rw [hL]; exact TBL_f hD (by simp; exact fun z => absurd z (sh_ne s1)) (by omega)
      have k60 : TBL L 60 pre.length = ((pre.length + 1 + D1.length : Nat) : Int) := by rw [hL, hD]; exact TBL_60 hx2 s1 s2
      rw [hp] at k57 k59 k60
      exact Or.inr (Or.inr ⟨by rw [k57]; exact hx, k59, _, k60, by omega, by omega⟩)
theorem NV.sh {h : AH} {N : Nat} {LL : Nat → List Nd} (hN : NV h N LL) {l : Nat} (hl : l < N) : ∃ T, shT T (LL l) := by
  obtain ⟨nn, l1, l2, l3⟩ := hN.2.2 l hl
  have := rd_sh (c := fun j => h.vl 43 (3 + 61 * l + 1 + j)) (n := nn) (by rw [l3])
  rw [l3] at this
  exact this
theorem NV.ne {h : AH} {N : Nat} {LL : Nat → List Nd} (hN : NV h N LL) {l : Nat} (hl : l < N) : LL l ≠ [] := by
  obtain ⟨T, hT⟩ := hN.sh hl
  exact sh_ne hT
