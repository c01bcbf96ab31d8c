/-! how a term's nodes lie in their list: a node, then its first part, then its second one -/
def shT : TE → List Nd → Prop
  | .var _, D => ∃ x, D = [x] ∧ x.1 < 4
  | .op a b, D => (∃ x D1, D = x :: D1 ∧ x.1 = 4 ∧ shT a D1) ∨ ∃ x D1 D2, D = x :: (D1 ++ D2) ∧ (x.1 = 5 ∨ x.1 = 6) ∧ shT a D1 ∧ shT b D2
theorem rd_sh {c : Nat → Int} {n : Nat} (h : (rd c n).1 = -1) : ∃ T, shT T (rd c n).2 := by
  refine rd_q (Q := fun D => ∃ T, shT T D) (fun x i hx => ⟨.var 0, _, rfl, lk_lt⟩) ?_ ?_ ?_ h
  · rintro a b L ⟨T, hT⟩
    exact ⟨.op T (.var 0), Or.inl ⟨_, L, rfl, rfl, hT⟩⟩
  · rintro a b L M ⟨T, hT⟩ ⟨U, hU⟩
    exact ⟨.op T U, Or.inr ⟨_, L, M, rfl, Or.inl rfl, hT, hU⟩⟩
  · rintro L M _ ⟨T, hT⟩ ⟨U, hU⟩
    exact ⟨.op T U, Or.inr ⟨_, L, M, rfl, Or.inr rfl, hT, hU⟩⟩
theorem sh_ne : ∀ {T : TE} {D : List Nd}, shT T D → D ≠ []
  | .var _, D, ⟨x, e, _⟩ => by rw [e]; exact List.cons_ne_nil _ _
  | .op a b, D, h => by
    rcases h with ⟨x, D1, e, _⟩ | ⟨x, D1, D2, e, _⟩ <;> (rw [e]; exact List.cons_ne_nil _ _)
theorem awF_sh : ∀ {T : TE} {D : List Nd}, shT T D → ∀ (k : Nat) (p : Int) (P : List Int), awF D k (p :: P) = P
  | .var _, D, ⟨x, e, hx⟩, k, p, P => by
    rw [e]
    show List.replicate (arN x.1) (k : Int) ++ P = P
    rw [show arN x.1 = 0 from if_pos hx]
    rfl
  | .op a b, D, h, k, p, P => by
    rcases h with ⟨x, D1, e, hx, h1⟩ | ⟨x, D1, D2, e, hx, h1, h2⟩
    · rw [e]
      show awF D1 (k + 1) (List.replicate (arN x.1) (k : Int) ++ P) = P
      rw [hx]
      exact awF_sh h1 _ _ _
    · rw [e]
      show awF (D1 ++ D2) (k + 1) (List.replicate (arN x.1) (k : Int) ++ P) = P
      have e2 : arN x.1 = 2 := by rw [arN, if_neg (by omega), if_neg (by omega)]
      rw [e2, awF_app]
      show awF D2 _ (awF D1 (k + 1) ((k : Int) :: (k : Int) :: P)) = P
      rw [awF_sh h1, awF_sh h2]
theorem awF_lt : ∀ (E : List Nd) (k : Nat) (P : List Int), (∀ p ∈ P, p < (k : Int)) → ∀ p ∈ awF E k P, p < ((k + E.length : Nat) : Int)
  | [], k, P, h, p, hp => h p hp
  | x :: E, k, P, h, p, hp => by
    have := awF_lt E (k + 1) _ (fun q hq => by
      rcases List.mem_append.mp hq with hq | hq
      · obtain ⟨-, rfl⟩ := List.mem_replicate.mp hq
        omega
      · have := h q (List.mem_of_mem_tail hq)
        omega) p hp
    rw [List.length_cons]
    omega
theorem tbF_60k : ∀ (L : List Nd) (k : Nat) (P : List Int) (s : Nat → Nat → Int) (j : Nat), j < k → (∀ p ∈ P, p ≠ (j : Int)) → tbF L k P s 60 j = s 60 j
  | [], _, _, _, _, _, _ => rfl
  | x :: L, k, P, s, j, hj, h0 => by
    have hp : P.headD (-1) ≠ (j : Int) := by
      cases P with
      | nil => show (-1 : Int) ≠ j; omega
      | cons p P => exact h0 p List.mem_cons_self
    have e : tb1 x k (P.headD (-1)) s 60 j = s 60 j := by
      rw [tb1_60, if_neg (by omega), if_neg (by omega)]
    rw [tbF, tbF_60k L (k + 1) _ _ j (by omega) (fun p hp => ?_), e]
    rcases List.mem_append.mp hp with hp | hp
    · obtain ⟨-, rfl⟩ := List.mem_replicate.mp hp
      omega
    · exact h0 p (List.mem_of_mem_tail hp)
theorem getD_mid {pre D post : List Nd} {x : Nd} (hD : D = x :: post) : (pre ++ D).getD pre.length (0, 0, 0) = x := by
  rw [hD, List.getD_eq_getElem?_getD, List.getElem?_append_right (Nat.le_refl _), Nat.sub_self]
  rfl
/-- where the second part stands -/
theorem TBL_60 {pre D1 D2 post : List Nd} {x : Nd} {T1 T2 : TE} (hx : arN x.1 = 2) (h1 : shT T1 D1) (h2 : shT T2 D2) : TBL (pre ++ (x :: (D1 ++ D2) ++ post)) 60 pre.length = ((pre.length + 1 + D1.length : Nat) : Int) := by
  have e0 : pre ++ (x :: (D1 ++ D2) ++ post) = (pre ++ (x :: D1)) ++ (D2 ++ post) := by simp
  have eP : awF (x :: D1) pre.length (awF pre 0 [-1]) = (pre.length : Int) :: (awF pre 0 [-1]).tail := by
    show awF D1 (pre.length + 1) (List.replicate (arN x.1) (pre.length : Int) ++ (awF pre 0 [-1]).tail) = _
    rw [hx]
    exact awF_sh h1 _ _ _
  have lt0 : ∀ p ∈ awF pre 0 [-1], p < (pre.length : Int) := fun p hp => by
    have := awF_lt pre 0 [-1] (fun q hq => by rw [List.mem_singleton.mp hq]; decide) p hp
    rw [Nat.zero_add] at this
    exact this
  have s59 : tbF (x :: D1) pre.length (awF pre 0 [-1]) (tbF pre 0 [-1] (fun _ _ => 0)) 59 pre.length = ((pre.length + 1 : Nat) : Int) := by
    refine tbF_59 (x :: D1) pre.length _ _ pre.length lt0 (Nat.le_refl _) ?_ ?_
    · have := List.length_pos_iff.mpr (sh_ne h1)
      rw [List.length_cons]; omega
    · rw [Nat.sub_self]
      show 0 < arN x.1
      omega
  rw [TBL, e0, tbF_app (pre ++ (x :: D1)) (D2 ++ post), awF_app pre (x :: D1), tbF_app pre (x :: D1), Nat.zero_add, Nat.zero_add, eP]
  cases D2 with
  | nil => exact absurd rfl (sh_ne h2)
  | cons y D2 =>
    have el : (pre ++ (x :: D1)).length = pre.length + 1 + D1.length := by simp; omega
    rw [el]
    show tbF (D2 ++ post) (pre.length + 1 + D1.length + 1) (List.replicate (arN y.1) ((pre.length + 1 + D1.length : Nat) : Int) ++ (awF pre 0 [-1]).tail) (tb1 y (pre.length + 1 + D1.length) (pre.length : Int) _) 60 pre.length = _
    rw [tbF_60k _ _ _ _ _ (by omega) (fun p hp => ?_), tb1_60, if_pos ⟨by omega, by rw [show ((pre.length : Nat) : Int).toNat = pre.length from rfl, s59]; omega, rfl⟩]
    rcases List.mem_append.mp hp with hp | hp
    · obtain ⟨-, rfl⟩ := List.mem_replicate.mp hp
      omega
    · have := lt0 p (List.mem_of_mem_tail hp)
      omega
/-- a part of a list that is a term: what its table says -/
theorem TBL_nd {pre D post : List Nd} {x : Nd} {D' : List Nd} (hD : D = x :: D') : TBL (pre ++ (D ++ post)) 57 pre.length = x.1 ∧ TBL (pre ++ (D ++ post)) 58 pre.length = x.2.1 := by
  have hl : pre.length < (pre ++ (D ++ post)).length := by rw [hD]; simp
  have e := getD_mid (pre := pre) (D := D ++ post) (post := D' ++ post) (x := x) (by rw [hD]; rfl)
  obtain ⟨h1, h2, -⟩ := TBL_own hl
  rw [h1, h2, e]
  exact ⟨rfl, rfl⟩
theorem TBL_f {pre D post : List Nd} {x : Nd} {D1 : List Nd} (hD : D = x :: D1) (h1 : D1 ≠ []) (ha : 0 < arN x.1) : TBL (pre ++ (D ++ post)) 59 pre.length = ((pre.length + 1 : Nat) : Int) := by
  have hp := List.length_pos_iff.mpr h1
  refine TBL_59 (by rw [hD]; simp; omega) ?_
  rw [getD_mid (pre := pre) (D := D ++ post) (post := D1 ++ post) (x := x) (by rw [hD]; rfl)]
  exact ha
/-- how many leaves -/
def nlv : List Nd → Nat
  | [] => 0
  | x :: L => (if x.1 < 4 then 1 else 0) + nlv L
theorem nlv_app : ∀ (L M : List Nd), nlv (L ++ M) = nlv L + nlv M
  | [], M => by rw [List.nil_append, nlv, Nat.zero_add]
  | x :: L, M => by
    show (if x.1 < 4 then 1 else 0) + nlv (L ++ M) = (if x.1 < 4 then 1 else 0) + nlv L + nlv M
    rw [nlv_app L M]; omega
theorem nlv_sh : ∀ {T : TE} {D : List Nd}, shT T D → 2 * nlv D ≤ D.length + 1
  | .var _, D, ⟨x, e, hx⟩ => by
    rw [e, nlv, if_pos hx]
    simp [nlv]
  | .op a b, D, h => by
    rcases h with ⟨x, D1, e, hx, h1⟩ | ⟨x, D1, D2, e, hx, h1, h2⟩
    · have := nlv_sh h1
      rw [e, nlv, if_neg (by omega), List.length_cons]
      omega
    · have := nlv_sh h1
      have := nlv_sh h2
      rw [e, nlv, if_neg (by omega), nlv_app, List.length_cons, List.length_append]
      omega
theorem sh_ht : ∀ {T : TE} {D : List Nd}, shT T D → ∃ T', shT T' D ∧ ht T' ≤ D.length
  | .var v, D, h => ⟨.var v, h, by
    obtain ⟨x, e, hx⟩ := h
    rw [e]; exact Nat.le_refl _⟩
  | .op a b, D, h => by
    rcases h with ⟨x, D1, e, hx, h1⟩ | ⟨x, D1, D2, e, hx, h1, h2⟩
    · obtain ⟨T, t1, t2⟩ := sh_ht h1
      have := List.length_pos_iff.mpr (sh_ne h1)
      refine ⟨.op T (.var 0), Or.inl ⟨x, D1, e, hx, t1⟩, ?_⟩
      rw [e, List.length_cons]
      simp only [ht]
      omega
    · obtain ⟨T, t1, t2⟩ := sh_ht h1
      obtain ⟨U, u1, u2⟩ := sh_ht h2
      have := List.length_pos_iff.mpr (sh_ne h1)
      have := List.length_pos_iff.mpr (sh_ne h2)
      refine ⟨.op T U, Or.inr ⟨x, D1, D2, e, hx, t1, u1⟩, ?_⟩
      rw [e, List.length_cons, List.length_append]
      simp only [ht]
      omega
