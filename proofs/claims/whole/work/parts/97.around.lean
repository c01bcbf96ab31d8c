/-! what stands around a node -/
theorem ar_fuel {L : List Nd} : ∀ (f f' : Nat) (k : Int), k < (L.length : Int) → k < (f : Int) → k < (f' : Int) → arN' L (f + 1) k = arN' L (f' + 1) k
  | f, f', k, hl, h1, h2 => by
    rw [arN', arN']
    by_cases c : k < 0
    · rw [if_pos c, if_pos c]
    · rw [if_neg c, if_neg c]
      have g := (TBL_gd (L := L) k.toNat (by omega)).1
      cases f with
      | zero => omega
      | succ f =>
        cases f' with
        | zero => omega
        | succ f' =>
          congr 1
          exact ar_fuel f f' _ (by omega) (by omega) (by omega)
/-- the nodes around a node -/
def ancN (L : List Nd) (e : Nat) : List Nat := arN' L 130 (TBL L 61 e)
theorem anc_st {L : List Nd} {e p : Nat} (hl : L.length ≤ 120) (he : e < L.length) (h : TBL L 61 e = (p : Int)) : ancN L e = p :: ancN L p := by
  have g := (TBL_gd (L := L) e he).1
  have g2 := (TBL_gd (L := L) p (by omega)).1
  rw [ancN, h, arN', if_neg (by omega)]
  congr 1
  show arN' L (128 + 1) (TBL L 61 p) = arN' L (129 + 1) (TBL L 61 p)
  exact ar_fuel 128 129 _ (by omega) (by omega) (by omega)
theorem tbF_61k : ∀ (L : List Nd) (k : Nat) (P : List Int) (s : Nat → Nat → Int) (j : Nat), j < k → tbF L k P s 61 j = s 61 j
  | [], _, _, _, _, _ => rfl
  | x :: L, k, P, s, j, hj => by
    rw [tbF, tbF_61k L (k + 1) _ _ j (by omega), tb1_61, if_neg (by omega)]
theorem TBL_61f {pre D post : List Nd} {x : Nd} {D1 : List Nd} (hD : D = x :: D1) (h1 : D1 ≠ []) (ha : 0 < arN x.1) : TBL (pre ++ (D ++ post)) 61 (pre.length + 1) = (pre.length : Int) := by
  cases D1 with
  | nil => exact absurd rfl h1
  | cons y D1 =>
    have e0 : pre ++ (D ++ post) = (pre ++ [x]) ++ (y :: (D1 ++ post)) := by rw [hD]; simp
    have el : (pre ++ [x]).length = pre.length + 1 := by simp
    have eP : awF (pre ++ [x]) 0 [-1] = List.replicate (arN x.1) (pre.length : Int) ++ (awF pre 0 [-1]).tail := by
      rw [awF_app, Nat.zero_add]; rfl
    rw [TBL, e0, tbF_app (pre ++ [x]) (y :: (D1 ++ post)), el, Nat.zero_add, eP, tbF, tbF_61k _ _ _ _ _ (by omega), tb1_61, if_pos rfl]
    cases h : arN x.1 with
    | zero => omega
    | succ n => rfl
theorem TBL_61s {pre D1 D2 post : List Nd} {x : Nd} {T1 T2 : TE} (hx : arN x.1 = 2) (h1 : shT T1 D1) (h2 : shT T2 D2) : TBL (pre ++ (x :: (D1 ++ D2) ++ post)) 61 (pre.length + 1 + D1.length) = (pre.length : Int) := by
  have e0 : pre ++ (x :: (D1 ++ D2) ++ post) = (pre ++ (x :: D1)) ++ (D2 ++ post) := by simp
  have eP : awF (x :: D1) pre.length (awF pre 0 [-1]) = (pre.length : Int) :: (awF pre 0 [-1]).tail := by
    show awF D1 (pre.length + 1) (List.replicate (arN x.1) (pre.length : Int) ++ (awF pre 0 [-1]).tail) = _
    rw [hx]
    exact awF_sh h1 _ _ _
  have el : (pre ++ (x :: D1)).length = pre.length + 1 + D1.length := by simp; omega
  rw [TBL, e0, tbF_app (pre ++ (x :: D1)) (D2 ++ post), awF_app pre (x :: D1), Nat.zero_add, Nat.zero_add, eP, el]
  cases D2 with
  | nil => exact absurd rfl (sh_ne h2)
  | cons y D2 =>
    show tbF (y :: (D2 ++ post)) _ _ _ 61 _ = _
    rw [tbF, tbF_61k _ _ _ _ _ (by omega), tb1_61, if_pos rfl]
    rfl
theorem TBL_610 {L : List Nd} (h : L ≠ []) : TBL L 61 0 = -1 := by
  cases L with
  | nil => exact absurd rfl h
  | cons x L =>
    rw [TBL, tbF, tbF_61k _ _ _ _ _ (by omega), tb1_61, if_pos rfl]
    rfl
/-- what stands around a node of a part: nodes of the part, or what stands around it -/
theorem anc_sub {L : List Nd} (hl : L.length ≤ 120) : ∀ (T : TE) (pre D post : List Nd), L = pre ++ (D ++ post) → shT T D → ∀ e, pre.length ≤ e → e < pre.length + D.length → ∀ b ∈ ancN L e, pre.length ≤ b ∨ b ∈ ancN L pre.length
  | .var v, pre, D, post, hL, ⟨x, hD, hx⟩, e, h1, h2, b, hb => by
    rw [hD] at h2
    have : e = pre.length := by simp at h2; omega
    rw [this] at hb
    exact Or.inr hb
  | .op T1 T2, pre, D, post, hL, h, e, h1, h2, b, hb => by
    by_cases e0 : e = pre.length
    · rw [e0] at hb; exact Or.inr hb
    have hlen : pre.length + D.length ≤ L.length := by rw [hL]; simp
    have fromc : ∀ c, TBL L 61 c = (pre.length : Int) → c < L.length → (c ≤ b ∨ b ∈ ancN L c) → pre.length ≤ c → pre.length ≤ b ∨ b ∈ ancN L pre.length := by
      intro c hc hcl hb hpc
      rcases hb with hb | hb
      · exact Or.inl (by omega)
      · rw [anc_st hl hcl hc] at hb
        rcases List.mem_cons.mp hb with rfl | hb
        · exact Or.inl (Nat.le_refl _)
        · exact Or.inr hb
    rcases h with ⟨x, D1, hD, hx, s1⟩ | ⟨x, D1, D2, hD, hx, s1, s2⟩
    · have hlD : D.length = D1.length + 1 := by rw [hD, List.length_cons]
      have hp1 := List.length_pos_iff.mpr (sh_ne s1)
      have hL1 : L = (pre ++ [x]) ++ (D1 ++ post) := by rw [hL, hD]; simp
      have el : (pre ++ [x]).length = pre.length + 1 := by simp
      have := anc_sub hl T1 (pre ++ [x]) D1 post hL1 s1 e (by rw [el]; omega) (by rw [el]; omega) b hb
      rw [el] at this
      exact fromc (pre.length + 1) (by rw [hL]; exact TBL_61f hD (sh_ne s1) (by rw [hx]; decide)) (by omega) this (by omega)
    · have hlD : D.length = D1.length + D2.length + 1 := by rw [hD, List.length_cons, List.length_append]
      have hp1 := List.length_pos_iff.mpr (sh_ne s1)
      have hp2 := List.length_pos_iff.mpr (sh_ne s2)
      have hx2 : arN x.1 = 2 := by rw [arN, if_neg (by omega), if_neg (by omega)]
      by_cases c : e < pre.length + 1 + D1.length
      · have hL1 : L = (pre ++ [x]) ++ (D1 ++ (D2 ++ post)) := by rw [hL, hD]; simp
        have el : (pre ++ [x]).length = pre.length + 1 := by simp
        have := anc_sub hl T1 (pre ++ [x]) D1 (D2 ++ post) hL1 s1 e (by rw [el]; omega) (by rw [el]; omega) b hb
        rw [el] at this
        exact fromc (pre.length + 1) (by rw [hL]; exact TBL_61f hD (by simp; exact fun z => absurd z (sh_ne s1)) (by omega)) (by omega) this (by omega)
      · have hL2 : L = (pre ++ (x :: D1)) ++ (D2 ++ post) := by rw [hL, hD]; simp
        have el : (pre ++ (x :: D1)).length = pre.length + 1 + D1.length := by simp; omega
        have := anc_sub hl T2 (pre ++ (x :: D1)) D2 post hL2 s2 e (by rw [el]; omega) (by rw [el]; omega) b hb
        rw [el] at this
        exact fromc (pre.length + 1 + D1.length) (by rw [hL, hD]; exact TBL_61s hx2 s1 s2) (by omega) this (by omega)
theorem anc_lt {L : List Nd} : ∀ (f : Nat) (k : Int), k < (L.length : Int) → ∀ b ∈ arN' L f k, (b : Int) ≤ k
  | 0, k, _, b, hb => nomatch hb
  | f + 1, k, hk, b, hb => by
    rw [arN'] at hb
    by_cases c : k < 0
    · rw [if_pos c] at hb; exact nomatch hb
    · rw [if_neg c] at hb
      rcases List.mem_cons.mp hb with rfl | hb
      · omega
      · have g := (TBL_gd (L := L) k.toNat (by omega)).1
        have := anc_lt f _ (by omega) b hb
        omega
/-- what binds a name stands around it -/
theorem bd_anc {L : List Nd} {nd : Nat} : ∀ (f : Nat) (below k : Int), below ≤ (nd : Int) → k < below → k < (L.length : Int) → 0 ≤ bdW (TBL L) (TBL L 58 nd) f below k → (bdW (TBL L) (TBL L 58 nd) f below k).toNat ∈ arN' L f k ∧ (TBL L 57 (bdW (TBL L) (TBL L 58 nd) f below k).toNat = 4 ∨ (TBL L 57 (bdW (TBL L) (TBL L 58 nd) f below k).toNat = 5 ∧ TBL L 60 (bdW (TBL L) (TBL L 58 nd) f below k).toNat ≤ (nd : Int)))
  | 0, below, k, _, _, _, h => absurd h (by show ¬ (0 : Int) ≤ -1; decide)
  | f + 1, below, k, h1, h2, h3, h => by
    rw [bdW] at h ⊢
    by_cases c : k < 0
    · rw [if_pos c] at h; exact absurd h (by decide)
    rw [if_neg c] at h ⊢
    rw [arN', if_neg c]
    by_cases c2 : (TBL L 57 k.toNat = 4 ∨ (TBL L 57 k.toNat = 5 ∧ TBL L 60 k.toNat = below)) ∧ TBL L 58 k.toNat = TBL L 58 nd
    · rw [if_pos c2] at h ⊢
      refine ⟨List.mem_cons_self, ?_⟩
      rcases c2.1 with d | d
      · exact Or.inl d
      · exact Or.inr ⟨d.1, by rw [d.2]; exact h1⟩
    · rw [if_neg c2] at h ⊢
      have g := (TBL_gd (L := L) k.toNat (by omega)).1
      obtain ⟨i1, i2⟩ := bd_anc f k _ (by omega) (by omega) (by omega) h
      exact ⟨List.mem_cons_of_mem _ i1, i2⟩
/-- what is known where a part is gone through: what is around it -/
def ScN (L : List Nd) (pre len : Nat) (Dn Gn : Nat → Prop) : Prop := ∀ b ∈ ancN L pre, (TBL L 57 b = 4 → Gn b) ∧ (TBL L 57 b = 5 → Dn (fstN L b) ∨ pre + len ≤ sndN L b)
theorem ScN.nm {L : List Nd} {e : Nat} {Dn Gn : Nat → Prop} (he : e < L.length) (h : ScN L e 1 Dn Gn) (hb : 0 ≤ bd (TBL L) e) : (TBL L 57 (bd (TBL L) e).toNat = 4 → Gn (bd (TBL L) e).toNat) ∧ (TBL L 57 (bd (TBL L) e).toNat ≠ 4 → Dn (fstN L (bd (TBL L) e).toNat)) := by
  have g := (TBL_gd (L := L) e he).1
  obtain ⟨a1, a2⟩ := bd_anc (L := L) (nd := e) 130 (e : Int) (TBL L 61 e) (Int.le_refl _) (by omega) (by omega) hb
  obtain ⟨s1, s2⟩ := h _ a1
  refine ⟨s1, fun h4 => ?_⟩
  rcases a2 with a2 | ⟨a2, a3⟩
  · exact absurd a2 h4
  · rcases s2 a2 with s3 | s3
    · exact s3
    · exfalso
      have : TBL L 60 (bd (TBL L) e).toNat ≤ (e : Int) := a3
      unfold sndN at s3
      omega
theorem ScN.ch {L : List Nd} (hl : L.length ≤ 120) {e c len len' : Nat} {Dn Gn Dn' Gn' : Nat → Prop} (h : ScN L e len Dn Gn) (hc : c < L.length) (h61 : TBL L 61 c = (e : Int)) (hle : c + len' ≤ e + len) (hD : ∀ k, Dn k → Dn' k) (hG : ∀ k, Gn k → Gn' k) (h4 : TBL L 57 e = 4 → Gn' e) (h5 : TBL L 57 e = 5 → Dn' (fstN L e) ∨ c + len' ≤ sndN L e) : ScN L c len' Dn' Gn' := by
  intro b hb
  rw [anc_st hl hc h61] at hb
  rcases List.mem_cons.mp hb with rfl | hb
  · exact ⟨h4, h5⟩
  · obtain ⟨s1, s2⟩ := h b hb
    refine ⟨fun z => hG _ (s1 z), fun z => ?_⟩
    rcases s2 z with s3 | s3
    · exact Or.inl (hD _ s3)
    · exact Or.inr (by omega)
