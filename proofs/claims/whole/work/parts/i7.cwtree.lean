/-! the class goes through a part, as the spec says -/
theorem lv_of {L : List Nd} {kp : Nat → Option TE} (hl : L.length ≤ 120) (hkp : ∀ c R, kp c = some R → ∀ x, 2 ≤ x → oc x R = true → x < 210) {T : TE} {f e : Nat} {pre D post : List Nd} (hL : L = pre ++ (D ++ post)) (hs : shT T D) (he : pre.length = e) : LvP L kp f e D.length := fun S S' r i z p => by
  subst he
  exact inf_lv hl hkp T f pre D post S S' r hL hs i z p
theorem cw_tree {h0 : AH} {a0 K0 : Nat → Nat} {L : List Nd} {kp : Nat → Option TE} {tc : Nat} {Q : AV → AH → Prop} (hl : L.length ≤ 120) (hnd : ∀ x ∈ L, ndOK x) (hkp : ∀ c R, kp c = some R → ∀ x, 2 ≤ x → oc x R = true → x < 210) :
    ∀ (T : TE) (f : Nat) (pre D post : List Nd), ht T ≤ f → L = pre ++ (D ++ post) → shT T D → CwP h0 a0 K0 L kp tc Q f pre.length D.length (nlv D) (nle D)
  | T, 0, pre, D, post, hf => by cases T <;> exact absurd hf (by simp [ht])
  | .var v, f + 1, pre, D, post, hfu => by
    intro hL hsh
    obtain ⟨x, hD, hx⟩ := hsh
    have k57 : TBL L 57 pre.length = x.1 := by rw [hL]; exact (TBL_nd hD).1
    have k58 : TBL L 58 pre.length = x.2.1 := by rw [hL]; exact (TBL_nd hD).2
    have he : pre.length < L.length := by rw [hL, hD]; simp
    have nd := hnd x (by rw [hL, hD]; simp)
    have nd1 := nd.1
    have n1 : nlv D = 1 := by rw [hD, nlv, if_pos hx]; rfl
    have n2 : nle D = 0 := by rw [hD]; show (if x.1 = 5 then 1 else 0) + 0 = 0; rw [if_neg (by omega)]
    rw [n1, n2, show D.length = 1 by rw [hD]; rfl]
    exact cw_leaf hl he (by omega) (fun z => by omega)
  | .op T1 T2, f + 1, pre, D, post, hfu => by
    intro hL hsh
    obtain ⟨e, he⟩ : ∃ e, e = pre.length := ⟨_, rfl⟩
    have hlen : pre.length + D.length ≤ L.length := by rw [hL]; simp
    have ht12 : ht T1 ≤ f ∧ ht T2 ≤ f := by simp only [ht] at hfu; omega
    rw [← he] at hlen ⊢
    have heL : e < L.length := by
      have := List.length_pos_iff.mpr (sh_ne hsh)
      omega
    rcases hsh with ⟨x, D1, hD, hx, s1⟩ | ⟨x, D1, D2, hD, hx, s1, s2⟩
    · have hlD : D.length = D1.length + 1 := by rw [hD, List.length_cons]
      have hp1 := List.length_pos_iff.mpr (sh_ne s1)
      have k57 : TBL L 57 e = 4 := by rw [he, hL, ← hx]; exact (TBL_nd hD).1
      have k59 : TBL L 59 e = ((e + 1 : Nat) : Int) := by rw [he, hL]; exact TBL_f hD (sh_ne s1) (by rw [hx]; decide)
      have k61 : TBL L 61 (e + 1) = (e : Int) := by rw [he, hL]; exact TBL_61f hD (sh_ne s1) (by rw [hx]; decide)
      have hL1 : L = (pre ++ [x]) ++ (D1 ++ post) := by rw [hL, hD]; simp
      have el : (pre ++ [x]).length = e + 1 := by simp [he]
      have n1 : nlv D = nlv D1 := by rw [hD, nlv, if_neg (by omega)]; omega
      have n2 : nle D = nle D1 := by rw [hD]; show (if x.1 = 5 then 1 else 0) + nle D1 = _; rw [if_neg (by omega)]; omega
      have w := cw_tree hl hnd hkp (h0 := h0) (a0 := a0) (K0 := K0) (tc := tc) (Q := Q) T1 f (pre ++ [x]) D1 post ht12.1 hL1 s1
      rw [el] at w
      rw [hlD, n1, n2]
      exact cw_fun hl heL k57 k59 k61 (by omega) w
    · have hlD : D.length = D1.length + D2.length + 1 := by rw [hD, List.length_cons, List.length_append]
      have hp1 := List.length_pos_iff.mpr (sh_ne s1)
      have hp2 := List.length_pos_iff.mpr (sh_ne s2)
      have hx2 : arN x.1 = 2 := by rw [arN, if_neg (by omega), if_neg (by omega)]
      have k57 : TBL L 57 e = x.1 := by rw [he, hL]; exact (TBL_nd hD).1
      have k59 : TBL L 59 e = ((e + 1 : Nat) : Int) := by rw [he, hL]; exact TBL_f hD (by simp; exact fun z => absurd z (sh_ne s1)) (by omega)
      have k60 : TBL L 60 e = ((e + 1 + D1.length : Nat) : Int) := by rw [he, hL, hD]; exact TBL_60 hx2 s1 s2
      have k61 : TBL L 61 (e + 1) = (e : Int) := by rw [he, hL]; exact TBL_61f hD (by simp; exact fun z => absurd z (sh_ne s1)) (by omega)
      have k62 : TBL L 61 (e + 1 + D1.length) = (e : Int) := by rw [he, hL, hD]; exact TBL_61s hx2 s1 s2
      have hL1 : L = (pre ++ [x]) ++ (D1 ++ (D2 ++ post)) := by rw [hL, hD]; simp
      have el1 : (pre ++ [x]).length = e + 1 := by simp [he]
      have hL2 : L = (pre ++ (x :: D1)) ++ (D2 ++ post) := by rw [hL, hD]; simp
      have el2 : (pre ++ (x :: D1)).length = e + 1 + D1.length := by simp [he]; omega
      have n1 : nlv D = nlv D1 + nlv D2 := by rw [hD, nlv, if_neg (by omega), nlv_app]; omega
      have w1 := cw_tree hl hnd hkp (h0 := h0) (a0 := a0) (K0 := K0) (tc := tc) (Q := Q) T1 f (pre ++ [x]) D1 (D2 ++ post) ht12.1 hL1 s1
      have w2 := cw_tree hl hnd hkp (h0 := h0) (a0 := a0) (K0 := K0) (tc := tc) (Q := Q) T2 f (pre ++ (x :: D1)) D2 post ht12.2 hL2 s2
      rw [el1] at w1
      rw [el2] at w2
      have v1 := lv_of hl hkp (f := f) hL1 s1 el1
      have v2 := lv_of hl hkp (f := f) hL2 s2 el2
      rw [hlD, n1]
      by_cases c6 : x.1 = 6
      · have n2 : nle D = nle D1 + nle D2 := by rw [hD]; show (if x.1 = 5 then 1 else 0) + nle (D1 ++ D2) = _; rw [if_neg (by omega), nle_app]; omega
        rw [n2]
        exact cw_app hl heL (k57.trans c6) k59 k60 k61 k62 (by omega) (by omega) hp1 hp2 v1 v2 w1 w2
      · have n2 : nle D = nle D1 + nle D2 + 1 := by rw [hD]; show (if x.1 = 5 then 1 else 0) + nle (D1 ++ D2) = _; rw [if_pos (by omega), nle_app]; omega
        rw [n2]
        exact cw_let hl heL (k57.trans (by omega)) k59 k60 k61 k62 (by omega) (by omega) hp1 hp2 v1 w1 w2
