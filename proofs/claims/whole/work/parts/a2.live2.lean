/-! what is gone through changes what is around it alone -/
def ResL (L : List Nd) (nv : Nat) (S' : IS) (e : Nat) (σ : List (Nat × TE)) : Prop := ∀ x, 2 ≤ x → oc x (S'.2.1 e) = true → S'.2.2.2 x = false ∧ x < S'.1 ∧ (nv ≤ x ∨ evV S' (envN L e) x) ∧ fxS σ x
theorem StpL.nil {E : List Nat} {nv lo hi : Nat} {S S' : IS} (hF : ∀ k, (k < lo ∨ hi ≤ k) → S'.2.1 k = S.2.1 k ∧ S'.2.2.1 k = S.2.2.1 k) (hnv : S.1 ≤ S'.1) (hgn : S'.2.2.2 = S.2.2.2) (hg : ∀ x, S.2.2.2 x = true → x < S.1) (h6 : ∀ k ∈ E, ∀ x, 2 ≤ x → oc x (S'.2.2.1 k) = true → S'.2.2.2 x = false ∧ x < S'.1) : StpL E nv lo hi S S' [] :=
  ⟨hF, ⟨hnv, fun x hx => by rw [hgn]; exact hx, fun x _ hx => by rw [hgn] at hx; exact Or.inl hx, fun x hx => by rw [hgn] at hx; have := hg x hx; omega⟩, fun _ _ => Or.inl rfl, fun _ _ _ _ => rfl, fun _ _ => rfl, h6⟩
theorem StpL.cgE {E E' : List Nat} {nv lo hi : Nat} {S S' : IS} {σ : List (Nat × TE)} (h : StpL E nv lo hi S S' σ) (he : ∀ k, k ∈ E ↔ k ∈ E') : StpL E' nv lo hi S S' σ := by
  have ev : ∀ (U : IS) x, evV U E x → evV U E' x := fun U x ⟨k, k1, k2⟩ => ⟨k, (he k).mp k1, k2⟩
  obtain ⟨h1, h2, h3, h4, h5, h6⟩ := h
  refine ⟨h1, h2, fun x hx => ?_, h4, h5, fun k hk => h6 k ((he k).mpr hk)⟩
  rcases h3 x hx with a | ⟨a, b⟩
  · exact Or.inl a
  · exact Or.inr ⟨a.imp (ev S x) id, fun y hy ho => (b y hy ho).imp (ev S y) id⟩
/-- a node of the part gets its type -/
theorem StpL.setF {E : List Nat} {nv lo hi e : Nat} {S S' : IS} {σ : List (Nat × TE)} (h : StpL E nv lo hi S S' σ) (he : lo ≤ e ∧ e < hi) (t : TE) : StpL E nv lo hi S (isF S' e t S'.1) σ := by
  obtain ⟨h1, h2, h3, h4, h5, h6⟩ := h
  exact ⟨fun k hk => ⟨(upT_n (by omega)).trans (h1 k hk).1, (h1 k hk).2⟩, h2, h3, h4, h5, h6⟩
theorem oc_sbs {f : Nat → TE} {x : Nat} (hx : 2 ≤ x) : ∀ {t : TE}, oc x (sbs f t) = true → ∃ y, 2 ≤ y ∧ oc y t = true ∧ oc x (f y) = true
  | .var y, h => by
    by_cases c : y < 2
    · rw [sbs, if_pos c] at h
      have : y = x := by simpa [oc] using h
      omega
    · rw [sbs, if_neg c] at h
      exact ⟨y, by omega, by simp [oc], h⟩
  | .op a b, h => by
    rw [sbs] at h
    simp only [oc, Bool.or_eq_true] at h
    rcases h with h | h
    · obtain ⟨y, h1, h2, h3⟩ := oc_sbs hx h
      exact ⟨y, h1, by simp [oc, h2], h3⟩
    · obtain ⟨y, h1, h2, h3⟩ := oc_sbs hx h
      exact ⟨y, h1, by simp [oc, h2], h3⟩
theorem oc_v {x y : Nat} (h : oc x (.var y) = true) : y = x := by simpa [oc] using h
theorem inf_leaf {L : List Nd} {kp : Nat → Option TE} (hl : L.length ≤ 120) (hkp : ∀ c R, kp c = some R → ∀ x, 2 ≤ x → oc x R = true → x < 210) {e : Nat} {S S' : IS} {r : IR} (he : e < L.length) (hi : lfR L kp e S r S') (hr : r.1 = 0) (hP : PreL L S e 1) : StpL (envN L e) S.1 e (e + 1) S S' [] ∧ ResL L S.1 S' e [] := by
  obtain ⟨p1, p2, p3, p4⟩ := hP
  have mk : ∀ (t : TE) (nv' : Nat), S.1 ≤ nv' → (∀ x, 2 ≤ x → oc x t = true → S.2.2.2 x = false ∧ x < nv' ∧ (S.1 ≤ x ∨ evV S (envN L e) x)) → StpL (envN L e) S.1 e (e + 1) S (isF S e t nv') [] ∧ ResL L S.1 (isF S e t nv') e [] := by
    intro t nv' h1 h2
    refine ⟨StpL.nil (fun k hk => ⟨upT_n (by omega), rfl⟩) h1 rfl p3 (fun k hk x hx ho => ?_), fun x hx ho => ?_⟩
    · obtain ⟨a, b⟩ := p1 k hk x hx ho
      exact ⟨a, Nat.lt_of_lt_of_le b h1⟩
    · have ho : oc x (upT S.2.1 e t e) = true := ho
      rw [upT_s] at ho
      obtain ⟨a, b, c⟩ := h2 x hx ho
      exact ⟨a, b, c, rfl⟩
  unfold lfR at hi
  by_cases c0 : TBL L 57 e = 0
  · rw [if_pos c0] at hi
    by_cases c1 : bd (TBL L) e < 0
    · rw [if_pos c1] at hi
      rw [hi] at hr
      exact absurd (show (3 : Int) = 0 from hr) (by decide)
    · rw [if_neg c1] at hi
      obtain ⟨-, hi⟩ := hi
      have g := (TBL_gd (L := L) e he).1
      obtain ⟨a1, a2⟩ := bd_anc (L := L) (nd := e) 130 (e : Int) (TBL L 61 e) (Int.le_refl _) (by omega) (by omega) (by show 0 ≤ bd (TBL L) e; omega)
      have a1 : (bd (TBL L) e).toNat ∈ ancN L e := a1
      have a2 : TBL L 57 (bd (TBL L) e).toNat = 4 ∨ (TBL L 57 (bd (TBL L) e).toNat = 5 ∧ TBL L 60 (bd (TBL L) e).toNat ≤ (e : Int)) := a2
      generalize (bd (TBL L) e).toNat = b at *
      by_cases c4 : TBL L 57 b = 4
      · rw [if_pos c4] at hi
        rw [hi]
        refine mk _ _ (Nat.le_refl _) (fun x hx ho => ?_)
        have hb := env_mem.mpr ⟨a1, c4⟩
        obtain ⟨q1, q2⟩ := p1 b hb x hx ho
        exact ⟨q1, q2, Or.inr ⟨b, hb, ho⟩⟩
      · rw [if_neg c4] at hi
        obtain ⟨c5, c6⟩ := a2.resolve_left c4
        rw [hi]
        rcases p2 b a1 c5 with q | ⟨q1, q2, -⟩
        · unfold sndN at q; omega
        · refine mk _ _ (by omega) (fun x hx ho => ?_)
          obtain ⟨y, y2, y3, y4⟩ := oc_sbs hx ho
          obtain ⟨z1, z2⟩ := q2 y y2 y3
          by_cases gy : S.2.2.2 y = true
          · rw [if_pos gy] at y4
            have := oc_v y4
            refine ⟨?_, by omega, Or.inl (by omega)⟩
            cases h : S.2.2.2 x with
            | false => rfl
            | true => have := p3 x h; omega
          · rw [if_neg gy] at y4
            have ey := oc_v y4
            subst ey
            have gy : S.2.2.2 y = false := by simpa using gy
            refine ⟨gy, by omega, Or.inr ?_⟩
            rcases z2 with z2 | ⟨k, k1, k2⟩
            · rw [gy] at z2; exact Bool.noConfusion z2
            · exact ⟨k, env_sub hl he a1 k1, k2⟩
  · rw [if_neg c0] at hi
    by_cases c1 : TBL L 57 e = 1
    · rw [if_pos c1] at hi
      cases hk : kp (TBL L 58 e - 65).toNat with
      | none =>
        rw [hk] at hi
        rw [hi] at hr
        exact absurd (show (3 : Int) = 0 from hr) (by decide)
      | some R =>
        rw [hk] at hi
        rw [hi.2]
        refine mk _ _ (by omega) (fun x hx ho => ?_)
        obtain ⟨y, y2, y3, y4⟩ := oc_sbs hx ho
        have := oc_v y4
        have := hkp _ _ hk y y2 y3
        refine ⟨?_, by omega, Or.inl (by omega)⟩
        cases h : S.2.2.2 x with
        | false => rfl
        | true => have := p3 x h; omega
    · rw [if_neg c1] at hi
      rw [hi.2]
      by_cases c2 : TBL L 57 e = 2
      · rw [if_pos c2]
        refine mk _ _ (Nat.le_refl _) (fun x hx ho => ?_)
        have := oc_v ho
        omega
      · rw [if_neg c2]
        refine mk _ _ (by omega) (fun x hx ho => ?_)
        have hx1 : x = S.1 := by
          unfold sgT at ho
          split at ho
          · simp only [oc, Bool.or_eq_true, beq_iff_eq] at ho
            omega
          · simp only [oc, Bool.or_eq_true, beq_iff_eq] at ho
            split at ho <;> omega
        refine ⟨?_, by omega, Or.inl (by omega)⟩
        cases h : S.2.2.2 x with
        | false => rfl
        | true => have := p3 x h; omega
theorem th_ok {p : IR → IS → Prop} {q : IS → IR → IS → Prop} {r : IR} {S' : IS} (h : thR p q r S') (hr : r.1 = 0) : ∃ r1 S1, p r1 S1 ∧ r1.1 = 0 ∧ q S1 r S' := by
  obtain ⟨r1, S1, h1, h2, h3⟩ := h
  by_cases c : r1.1 = 0
  · exact ⟨r1, S1, h1, c, h3 c⟩
  · have := h2 c
    rw [this] at hr
    exact absurd hr c
theorem inf_lv {L : List Nd} {kp : Nat → Option TE} (hl : L.length ≤ 120) (hkp : ∀ c R, kp c = some R → ∀ x, 2 ≤ x → oc x R = true → x < 210) : ∀ (T : TE) (f : Nat) (pre D post : List Nd) (S S' : IS) (r : IR), L = pre ++ (D ++ post) → shT T D → infR L kp f pre.length S r S' → r.1 = 0 → PreL L S pre.length D.length → ∃ σ, StpL (envN L pre.length) S.1 pre.length (pre.length + D.length) S S' σ ∧ ResL L S.1 S' pre.length σ
  | T, 0, pre, D, post, S, S', r, hL, h, hi, hr, hP => False.elim hi
  | .var v, f + 1, pre, D, post, S, S', r, hL, h, hi, hr, hP => by
    obtain ⟨x, hD, hx⟩ := h
    have k57 : TBL L 57 pre.length = x.1 := by rw [hL]; exact (TBL_nd hD).1
    rw [infR, if_pos (by rw [k57]; exact hx)] at hi
    have hlen : D.length = 1 := by rw [hD]; rfl
    rw [hlen] at hP ⊢
    exact ⟨[], inf_leaf hl hkp (by rw [hL, hD]; simp) hi hr hP⟩
  | .op T1 T2, f + 1, pre, D, post, S, S', r, hL, h, hi, hr, hP => by
    obtain ⟨e, he⟩ : ∃ e, e = pre.length := ⟨_, rfl⟩
    have hlen : pre.length + D.length ≤ L.length := by rw [hL]; simp
    obtain ⟨p1, p2, p3, p4⟩ := id hP
    rcases h with ⟨x, D1, hD, hx, s1⟩ | ⟨x, D1, D2, hD, hx, s1, s2⟩
    · -- a function
      have hlD : D.length = D1.length + 1 := by rw [hD, List.length_cons]
      have hp1 := List.length_pos_iff.mpr (sh_ne s1)
      have k57 : TBL L 57 e = 4 := by rw [he, hL, ← hx]; exact (TBL_nd hD).1
      have k59 : fstN L e = e + 1 := by rw [fstN, he, hL, TBL_f hD (sh_ne s1) (by rw [hx]; decide)]; rfl
      have k61 : TBL L 61 (e + 1) = (e : Int) := by rw [he, hL]; exact TBL_61f hD (sh_ne s1) (by rw [hx]; decide)
      have hc : e + 1 < L.length := by omega
      have heL : e < L.length := by omega
      rw [← he] at hi hP hlen p1 p2 ⊢
      rw [infR, if_neg (by omega), if_pos k57, k59] at hi
      obtain ⟨r1, S1, i1, i2, -, i4⟩ := th_ok hi hr
      have hL1 : L = (pre ++ [x]) ++ (D1 ++ post) := by rw [hL, hD]; simp
      have el : (pre ++ [x]).length = e + 1 := by simp [he]
      have ec4 : ∀ k, k ∈ envN L (e + 1) ↔ k = e ∨ k ∈ envN L e := fun k => by
        rw [env_c4 hl hc k61]
        constructor
        · rintro (⟨a, -⟩ | a)
          · exact Or.inl a
          · exact Or.inr a
        · rintro (a | a)
          · exact Or.inl ⟨a, k57⟩
          · exact Or.inr a
      have lte : ∀ k, k ∈ envN L e → k < e := fun k hk => anc_lt' heL (env_mem.mp hk).1
      have g0e : ∀ x, oc x (upT S.2.2.1 e (.var S.1) e) = true → x = S.1 := fun x ho => by
        rw [upT_s] at ho; exact (oc_v ho).symm
      have hP0 : PreL L (S.1 + 1, S.2.1, upT S.2.2.1 e (.var S.1), S.2.2.2) (e + 1) D1.length := by
        refine ⟨fun k hk y y2 yo => ?_, fun b hb hb5 => ?_, fun y hy => by have := p3 y hy; show y < S.1 + 1; omega, by show 2 ≤ S.1 + 1; omega⟩
        · rcases (ec4 k).mp hk with rfl | hk
          · have ey := g0e y yo
            refine ⟨?_, by show y < S.1 + 1; omega⟩
            show S.2.2.2 y = false
            cases hz : S.2.2.2 y with
            | false => rfl
            | true => have := p3 y hz; omega
          · have yo : oc y (upT S.2.2.1 e (.var S.1) k) = true := yo
            rw [upT_n (by have := lte k hk; omega)] at yo
            obtain ⟨a, b⟩ := p1 k hk y y2 yo
            exact ⟨a, by show y < S.1 + 1; omega⟩
        · rw [anc_st hl hc k61] at hb
          rcases List.mem_cons.mp hb with rfl | hb
          · omega
          · rcases p2 b hb hb5 with a | ⟨a, b1, b2⟩
            · exact Or.inl (by omega)
            · refine Or.inr ⟨by omega, fun y y2 yo => ?_, b2⟩
              obtain ⟨c1, c2⟩ := b1 y y2 yo
              refine ⟨by show y < S.1 + 1; omega, c2.imp id (fun ⟨k, k1, k2⟩ => ⟨k, k1, ?_⟩)⟩
              show oc y (upT S.2.2.1 e (.var S.1) k) = true
              rw [upT_n (by have := lte k (env_sub hl heL hb k1); omega)]
              exact k2
      obtain ⟨σ, hs, hres⟩ := inf_lv hl hkp T1 f (pre ++ [x]) D1 post _ S1 r1 hL1 s1 (by rw [el]; exact i1) i2 (by rw [el]; exact hP0)
      rw [el] at hs hres
      have hE1 : ∀ k ∈ envN L (e + 1), k < e + 1 := fun k hk => by
        rcases (ec4 k).mp hk with rfl | hk
        · omega
        · have := lte k hk; omega
      have cv0 : ∀ y, 2 ≤ y → (evV (S.1 + 1, S.2.1, upT S.2.2.1 e (.var S.1), S.2.2.2) (envN L (e + 1)) y ∨ S.1 + 1 ≤ y) → evV S (envN L e) y ∨ S.1 ≤ y := by
        intro y y2 h
        rcases h with ⟨k, k1, k2⟩ | h
        · rcases (ec4 k).mp k1 with rfl | k1
          · have := g0e y k2; exact Or.inr (by omega)
          · have k2 : oc y (upT S.2.2.1 e (.var S.1) k) = true := k2
            rw [upT_n (by have := lte k k1; omega)] at k2
            exact Or.inl ⟨k, k1, k2⟩
        · exact Or.inr (by omega)
      obtain ⟨h1, h2, h3, h4, h5, h6⟩ := id hs
      have hst : StpL (envN L e) S.1 e (e + D.length) S S' σ := by
        rw [i4]
        refine ⟨fun k hk => ?_, ⟨by have h21 : S.1 + 1 ≤ S1.1 := h2.1; show S.1 ≤ S1.1; omega, h2.2.1, fun y y2 hy => ?_, h2.2.2.2⟩, fun y y2 => ?_, h4, h5, fun k hk => h6 k ((ec4 k).mpr (Or.inr hk))⟩
        · obtain ⟨a, b⟩ := h1 k (by omega)
          refine ⟨(upT_n (by omega)).trans a, b.trans ?_⟩
          show ap σ (upT S.2.2.1 e (.var S.1) k) = _
          rw [upT_n (by omega)]
        · rcases h2.2.2.1 y y2 hy with a | a
          · exact Or.inl a
          · exact Or.inr (by omega)
        · rcases h3 y y2 with a | ⟨a, b⟩
          · exact Or.inl a
          · exact Or.inr ⟨cv0 y y2 a, fun z z2 zo => cv0 z z2 (b z z2 zo)⟩
      refine ⟨σ, hst, fun y y2 yo => ?_⟩
      -- a variable of what is around the part, afterwards
      have fin : evV S1 (envN L (e + 1)) y → S1.2.2.2 y = false ∧ y < S1.1 ∧ (S.1 ≤ y ∨ evV S' (envN L e) y) ∧ fxS σ y := by
        intro hy
        obtain ⟨f1, f2⟩ := hs.ev hE1 y2 hy
        obtain ⟨k, k1, k2⟩ := hy
        obtain ⟨a, b⟩ := h6 k k1 y y2 k2
        refine ⟨a, b, ?_, f1⟩
        rcases cv0 y y2 f2 with ⟨j, j1, j2⟩ | c
        · refine Or.inr ⟨j, j1, ?_⟩
          rw [(hst.1 j (Or.inl (lte j j1))).2]
          exact fx_oc f1 j2
        · exact Or.inl c
      rw [i4] at yo ⊢
      have yo : oc y (upT S1.2.1 e (.op (S1.2.2.1 e) (S1.2.1 (e + 1))) e) = true := yo
      rw [upT_s] at yo
      simp only [oc, Bool.or_eq_true] at yo
      rw [i4] at fin
      rcases yo with yo | yo
      · exact fin ⟨e, (ec4 e).mpr (Or.inl rfl), yo⟩
      · obtain ⟨a, b, c, d⟩ := hres y y2 yo
        rcases c with c | c
        · exact ⟨a, b, Or.inl (by have c : S.1 + 1 ≤ y := c; omega), d⟩
        · exact fin c
    · -- two parts
      have hlD : D.length = D1.length + D2.length + 1 := by rw [hD, List.length_cons, List.length_append]
      have hp1 := List.length_pos_iff.mpr (sh_ne s1)
      have hp2 := List.length_pos_iff.mpr (sh_ne s2)
      have hx2 : arN x.1 = 2 := by rw [arN, if_neg (by omega), if_neg (by omega)]
      have k57 : TBL L 57 e = x.1 := by rw [he, hL]; exact (TBL_nd hD).1
      have k59 : fstN L e = e + 1 := by rw [fstN, he, hL, TBL_f hD (by simp; exact fun z => absurd z (sh_ne s1)) (by omega)]; rfl
      have k60 : sndN L e = e + 1 + D1.length := by rw [sndN, he, hL, hD, TBL_60 hx2 s1 s2]; rfl
      have k61 : TBL L 61 (e + 1) = (e : Int) := by rw [he, hL]; exact TBL_61f hD (by simp; exact fun z => absurd z (sh_ne s1)) (by omega)
      have k62 : TBL L 61 (e + 1 + D1.length) = (e : Int) := by rw [he, hL, hD]; exact TBL_61s hx2 s1 s2
      have hc : e + 1 < L.length := by omega
      have hd : e + 1 + D1.length < L.length := by omega
      have heL : e < L.length := by omega
      have k4 : ¬ TBL L 57 e = 4 := by omega
      rw [← he] at hi hP hlen p1 p2 ⊢
      have hL1 : L = (pre ++ [x]) ++ (D1 ++ (D2 ++ post)) := by rw [hL, hD]; simp
      have el1 : (pre ++ [x]).length = e + 1 := by simp [he]
      have hL2 : L = (pre ++ (x :: D1)) ++ (D2 ++ post) := by rw [hL, hD]; simp
      have el2 : (pre ++ (x :: D1)).length = e + 1 + D1.length := by simp [he]; omega
      have ec1 : ∀ k, k ∈ envN L (e + 1) ↔ k ∈ envN L e := fun k => by
        rw [env_c4 hl hc k61]
        exact ⟨fun z => z.elim (fun z => absurd z.2 k4) id, Or.inr⟩
      have ec2 : ∀ k, k ∈ envN L (e + 1 + D1.length) ↔ k ∈ envN L e := fun k => by
        rw [env_c4 hl hd k62]
        exact ⟨fun z => z.elim (fun z => absurd z.2 k4) id, Or.inr⟩
      have lte : ∀ k ∈ envN L e, k < e := fun k hk => anc_lt' heL (env_mem.mp hk).1
      have evc : ∀ (U : IS) (c : Nat), (∀ k, k ∈ envN L c ↔ k ∈ envN L e) → ∀ y, evV U (envN L c) y → evV U (envN L e) y := fun U c hh y ⟨k, k1, k2⟩ => ⟨k, (hh k).mp k1, k2⟩
      have hP1 : PreL L S (e + 1) D1.length := by
        refine ⟨fun k hk => p1 k ((ec1 k).mp hk), fun b hb hb5 => ?_, p3, p4⟩
        rw [anc_st hl hc k61] at hb
        rcases List.mem_cons.mp hb with rfl | hb
        · exact Or.inl (by omega)
        · rcases p2 b hb hb5 with a | ⟨a, b1⟩
          · exact Or.inl (by omega)
          · exact Or.inr ⟨by omega, b1⟩
      -- what comes behind the first part, its state having been told its new variables or not
      have snd : ∀ (σ1 : List (Nat × TE)) (S1 S1' : IS), StpL (envN L e) S.1 e (e + D.length) S S1' σ1 → S1'.1 = S1.1 → S1'.2.1 = S1.2.1 → (TBL L 57 e = 5 → (∀ y, 2 ≤ y → oc y (S1'.2.1 (e + 1)) = true → y < S1'.1 ∧ (S1'.2.2.2 y = true ∨ evV S1' (envN L e) y)) ∧ gsz S1'.2.2.2 (S1'.2.1 (e + 1)) ≤ 200 ∧ gop S1'.2.2.2 (S1'.2.1 (e + 1)) ≤ 99) →
          ∀ r2 S2, infR L kp f (e + 1 + D1.length) S1' r2 S2 → r2.1 = 0 → ∃ σ2, StpL (envN L e) S1'.1 (e + 1 + D1.length) (e + 1 + D1.length + D2.length) S1' S2 σ2 ∧ StpL (envN L e) S.1 e (e + D.length) S S2 (σ1 ++ σ2) ∧ (∀ y, 2 ≤ y → oc y (S2.2.1 (e + 1 + D1.length)) = true → S2.2.2.2 y = false ∧ y < S2.1 ∧ (S.1 ≤ y ∨ evV S2 (envN L e) y) ∧ fxS (σ1 ++ σ2) y) := by
        intro σ1 S1 S1' hs1 e1 e2 h5 r2 S2 j1 j2
        have hP2 : PreL L S1' (e + 1 + D1.length) D2.length := by
          refine ⟨fun k hk => hs1.2.2.2.2.2 k ((ec2 k).mp hk), fun b hb hb5 => ?_, hs1.2.1.2.2.2, by have := hs1.2.1.1; omega⟩
          rw [anc_st hl hd k62] at hb
          rcases List.mem_cons.mp hb with rfl | hb
          · rw [k59]
            exact Or.inr ⟨by omega, h5 hb5⟩
          · rcases hP.st hl heL hs1 (Nat.le_refl _) b hb hb5 with a | ⟨a, b1⟩
            · exact Or.inl (by omega)
            · exact Or.inr ⟨by omega, b1⟩
        obtain ⟨σ2, hs2, hres2⟩ := inf_lv hl hkp T2 f (pre ++ (x :: D1)) D2 post S1' S2 r2 hL2 s2 (by rw [el2]; exact j1) j2 (by rw [el2]; exact hP2)
        rw [el2] at hs2 hres2
        have hs2' := hs2.cgE ec2
        have ht := hs1.tr hs2' lte ⟨Nat.le_refl _, by omega, Nat.le_refl _, by omega⟩ hs1.2.1.1 (fun y _ hy _ => hs1.2.2.2.2.1 y hy)
        refine ⟨σ2, hs2', ht, fun y y2 yo => ?_⟩
        obtain ⟨a, b, c, d⟩ := hres2 y y2 yo
        rcases c with c | c
        · exact ⟨a, b, Or.inl (by have := hs1.2.1.1; omega), fx_app (hs1.2.2.2.2.1 y c) d⟩
        · have c := evc S2 _ ec2 y c
          exact ⟨a, b, Or.inr c, (ht.ev lte y2 c).1⟩
      rw [infR, if_neg (by omega), if_neg k4] at hi
      by_cases c5 : TBL L 57 e = 5
      · -- a let
        rw [if_pos c5, k59, k60] at hi
        obtain ⟨r1, S1, i1, i2, i4⟩ := th_ok hi hr
        obtain ⟨σ1, hs1, hres1⟩ := inf_lv hl hkp T1 f (pre ++ [x]) D1 (D2 ++ post) S S1 r1 hL1 s1 (by rw [el1]; exact i1) i2 (by rw [el1]; exact hP1)
        rw [el1] at hs1 hres1
        have hs1 := hs1.cgE ec1
        by_cases c9 : 201 ≤ sz (S1.2.1 (e + 1))
        · rw [if_pos c9] at i4
          rw [i4] at hr
          exact absurd (show (10 : Int) = 0 from hr) (by decide)
        rw [if_neg c9] at i4
        obtain ⟨r2, S2, j1, j2, -, j4⟩ := th_ok i4 hr
        have hgn : ∀ y, (isGn L S1 e).2.2.2 y = true ↔ S1.2.2.2 y = true ∨ (oc y (S1.2.1 (e + 1)) = true ∧ ¬ evV S1 (envN L e) y) := fun y => by
          show (S1.2.2.2 y || (oc y (S1.2.1 (fstN L e)) && !((envN L e).any (fun k => oc y (S1.2.2.1 k))))) = true ↔ _
          rw [k59, Bool.or_eq_true, Bool.and_eq_true, Bool.not_eq_true']
          constructor
          · rintro (h | ⟨h1, h2⟩)
            · exact Or.inl h
            · refine Or.inr ⟨h1, fun ⟨k, k1, k2⟩ => ?_⟩
              have := List.any_eq_false.mp h2 k k1
              exact this k2
          · rintro (h | ⟨h1, h2⟩)
            · exact Or.inl h
            · exact Or.inr ⟨h1, List.any_eq_false.mpr (fun k k1 k2 => h2 ⟨k, k1, k2⟩)⟩
        have hsg : StpL (envN L e) S.1 e (e + D.length) S1 (isGn L S1 e) [] := by
          refine ⟨fun _ _ => ⟨rfl, rfl⟩, ⟨Nat.le_refl _, fun y hy => (hgn y).mpr (Or.inl hy), fun y y2 hy => ?_, fun y hy => ?_⟩, fun _ _ => Or.inl rfl, fun _ _ _ _ => rfl, fun _ _ => rfl, fun k hk y y2 yo => ?_⟩
          · rcases (hgn y).mp hy with h | ⟨h1, h2⟩
            · exact Or.inl h
            · rcases (hres1 y y2 h1).2.2.1 with c | c
              · exact Or.inr c
              · exact absurd (evc S1 _ ec1 y c) h2
          · rcases (hgn y).mp hy with h | ⟨h1, h2⟩
            · exact hs1.2.1.2.2.2 y h
            · show y < S1.1
              by_cases y2 : 2 ≤ y
              · exact (hres1 y y2 h1).2.1
              · have := hs1.2.1.1; omega
          · have yo : oc y (S1.2.2.1 k) = true := yo
            obtain ⟨a, b⟩ := hs1.2.2.2.2.2 k hk y y2 yo
            refine ⟨?_, b⟩
            cases hz : (isGn L S1 e).2.2.2 y with
            | false => rfl
            | true =>
              rcases (hgn y).mp hz with h | ⟨-, h2⟩
              · rw [a] at h; exact Bool.noConfusion h
              · exact absurd ⟨k, hk, yo⟩ h2
        have ht1 := hs1.tr hsg lte ⟨by omega, Nat.le_refl _, by omega, Nat.le_refl _⟩ (Nat.le_refl _) (fun y _ _ ⟨w, w1, _⟩ => absurd rfl w1)
        have h5 : (∀ y, 2 ≤ y → oc y ((isGn L S1 e).2.1 (e + 1)) = true → y < (isGn L S1 e).1 ∧ ((isGn L S1 e).2.2.2 y = true ∨ evV (isGn L S1 e) (envN L e) y)) ∧ gsz (isGn L S1 e).2.2.2 ((isGn L S1 e).2.1 (e + 1)) ≤ 200 ∧ gop (isGn L S1 e).2.2.2 ((isGn L S1 e).2.1 (e + 1)) ≤ 99 := by
          refine ⟨fun y y2 yo => ⟨(hres1 y y2 yo).2.1, ?_⟩, ?_, ?_⟩
          · by_cases c : evV S1 (envN L e) y
            · exact Or.inr c
            · exact Or.inl ((hgn y).mpr (Or.inr ⟨yo, c⟩))
          · have c9 : ¬ 201 ≤ sz ((isGn L S1 e).2.1 (e + 1)) := c9
            exact Nat.le_trans (gsz_le _).1 (by omega)
          · have := (gsz_le (gn := (isGn L S1 e).2.2.2) (S1.2.1 (e + 1))).2
            have := ops_sz (S1.2.1 (e + 1))
            show gop (isGn L S1 e).2.2.2 (S1.2.1 (e + 1)) ≤ 99
            omega
        obtain ⟨σ2, hs2, ht, hres⟩ := snd (σ1 ++ []) S1 (isGn L S1 e) ht1 rfl rfl (fun _ => h5) r2 S2 j1 j2
        refine ⟨(σ1 ++ []) ++ σ2, ?_, ?_⟩
        · rw [j4]
          exact ht.setF ⟨Nat.le_refl _, by omega⟩ _
        · rw [j4]
          intro y y2 yo
          have yo : oc y (upT S2.2.1 e (S2.2.1 (e + 1 + D1.length)) e) = true := yo
          rw [upT_s] at yo
          exact hres y y2 yo
      · -- an application
        rw [if_neg c5, k59, k60] at hi
        obtain ⟨r1, S1, i1, i2, i4⟩ := th_ok hi hr
        obtain ⟨σ1, hs1, hres1⟩ := inf_lv hl hkp T1 f (pre ++ [x]) D1 (D2 ++ post) S S1 r1 hL1 s1 (by rw [el1]; exact i1) i2 (by rw [el1]; exact hP1)
        rw [el1] at hs1 hres1
        have hs1 := hs1.cgE ec1
        have hs1w : StpL (envN L e) S.1 e (e + D.length) S S1 σ1 := ⟨fun k hk => hs1.1 k (by omega), hs1.2⟩
        obtain ⟨r2, S2, j1, j2, j4⟩ := th_ok i4 hr
        obtain ⟨σ2, hs2, ht, hres⟩ := snd σ1 S1 S1 hs1w rfl rfl (fun z => absurd z c5) r2 S2 j1 j2
        unfold apR at j4
        rw [k59, k60] at j4
        by_cases c9 : 201 ≤ sz (S2.2.1 (e + 1)) ∨ 201 ≤ sz (S2.2.1 (e + 1 + D1.length))
        · rw [if_pos c9] at j4
          rw [j4] at hr
          exact absurd (show (10 : Int) = 0 from hr) (by decide)
        rw [if_neg c9] at j4
        obtain ⟨F, R, σ3, u1, u2, u3⟩ := j4
        by_cases h0 : R.1 = 0
        · by_cases c8 : 201 ≤ sz (ap σ3 (S2.2.1 (e + 1)))
          · rw [(u3 h0).1 c8] at hr
            exact absurd (show (10 : Int) = 0 from hr) (by decide)
          obtain ⟨-, eS⟩ := (u3 h0).2 c8
          obtain ⟨S3, hS3⟩ : ∃ S3, S3 = isF S2 e (.var S2.1) (S2.1 + 1) := ⟨_, rfl⟩
          rw [← hS3] at eS
          have n2 : S.1 ≤ S2.1 := ht.2.1.1
          have hs3 : StpL (envN L e) S.1 e (e + D.length) S2 S3 [] := by
            rw [hS3]
            refine StpL.nil (fun k hk => ⟨upT_n (by omega), rfl⟩) (Nat.le_succ _) rfl ht.2.1.2.2.2 (fun k hk y y2 yo => ?_)
            obtain ⟨a, b⟩ := ht.2.2.2.2.2 k hk y y2 yo
            exact ⟨a, by show y < S2.1 + 1; omega⟩
          have ht3 := ht.tr hs3 lte ⟨Nat.le_refl _, Nat.le_refl _, Nat.le_refl _, Nat.le_refl _⟩ (Nat.le_refl _) (fun y _ _ ⟨w, w1, _⟩ => absurd rfl w1)
          -- the variables of what is to fit
          obtain ⟨P, hPd⟩ : ∃ P : Nat → Prop, P = fun y => (evV S2 (envN L e) y ∨ S.1 ≤ y) ∧ S2.2.2.2 y = false ∧ y < S2.1 + 1 ∧ fxS (σ1 ++ σ2) y := ⟨_, rfl⟩
          have vp : vsP P [(S2.2.1 (e + 1), .op (S2.2.1 (e + 1 + D1.length)) (.var S2.1))] := by
            intro p hp
            rw [List.mem_singleton.mp hp, hPd]
            refine ⟨fun y y2 yo => ?_, vsT_op.mpr ⟨fun y y2 yo => ?_, vsT_var (fun _ => ?_)⟩⟩
            · rw [(hs2.1 (e + 1) (Or.inl (by omega))).1] at yo
              rcases hs2.old (fun k hk => by have := lte k hk; omega) y2 yo with ⟨a, b⟩ | ⟨w, w2, wo, wc, wy, wv⟩
              · obtain ⟨q1, q2, q3, q4⟩ := hres1 y y2 a
                refine ⟨?_, ?_, by have := hs2.2.1.1; omega, fx_app q4 b⟩
                · rcases q3 with q3 | q3
                  · exact Or.inr q3
                  · obtain ⟨k, k1, k2⟩ := evc S1 _ ec1 y q3
                    refine Or.inl ⟨k, k1, ?_⟩
                    rw [(hs2.1 k (Or.inl (by have := lte k k1; omega))).2]
                    exact fx_oc b k2
                · cases hz : S2.2.2.2 y with
                  | false => rfl
                  | true =>
                    rcases hs2.2.1.2.2.1 y y2 hz with z | z
                    · rw [q1] at z; exact Bool.noConfusion z
                    · omega
              · have wl := (hres1 w w2 wo).2.1
                have ev := wv (wc.resolve_right (by omega))
                obtain ⟨k, k1, k2⟩ := id ev
                obtain ⟨a, b⟩ := ht.2.2.2.2.2 k k1 y y2 k2
                exact ⟨Or.inl ev, a, by omega, (ht.ev lte y2 ev).1⟩
            · obtain ⟨q1, q2, q3, q4⟩ := hres y y2 yo
              exact ⟨q3.symm, q1, by omega, q4⟩
            · refine ⟨Or.inr n2, ?_, by omega, ht.2.2.2.2.1 _ (Nat.le_refl _)⟩
              cases hz : S2.2.2.2 S2.1 with
              | false => rfl
              | true => have := ht.2.1.2.2.2 _ hz; omega
          have vs3 := un_vs F _ R σ3 vp u1
          have id3 := un_id F _ R σ3 vp u1
          have g32 : S3.2.2.1 = S2.2.2.1 := by rw [hS3]; rfl
          have g33 : S3.2.2.2 = S2.2.2.2 := by rw [hS3]; rfl
          have g31 : S3.1 = S2.1 + 1 := by rw [hS3]; rfl
          have evS : ∀ y, evV S2 (envN L e) y → evV S3 (envN L e) y := fun y ⟨k, k1, k2⟩ => ⟨k, k1, by rw [g32]; exact k2⟩
          have nfx : ∀ w, ¬ fxS σ3 w → P w := fun w hw => Classical.byContradiction fun z => hw (vs_fx vs3 z)
          have rng : ∀ w, P w → vsT P (ap σ3 (.var w)) := fun w hw => vs_ap (fun _ h => h) vs3 (vsT_var (fun _ => hw))
          have hs4 : StpL (envN L e) S.1 e (e + D.length) S3 S' σ3 := by
            rw [eS]
            refine ⟨fun _ _ => ⟨rfl, rfl⟩, ⟨Nat.le_refl _, fun _ h => h, fun _ _ h => Or.inl h, ?_⟩, fun y y2 => ?_, id3, fun y hy => ?_, fun k hk y y2 yo => ?_⟩
            · intro y hy
              have hy : S3.2.2.2 y = true := hy
              rw [g33] at hy
              have := ht.2.1.2.2.2 y hy
              show y < S3.1
              omega
            · by_cases c : fxS σ3 y
              · exact Or.inl c
              · have hp := nfx y c
                refine Or.inr ⟨?_, fun z z2 zo => ?_⟩
                · rw [hPd] at hp
                  exact hp.1.imp (evS y) id
                · have := rng y hp z z2 zo
                  rw [hPd] at this
                  exact this.1.imp (evS z) id
            · refine vs_fx vs3 (fun z => ?_)
              have hy : S3.1 ≤ y := hy
              rw [hPd] at z
              have := z.2.2.1
              omega
            · have yo : oc y (ap σ3 (S3.2.2.1 k)) = true := yo
              rw [g32] at yo
              have := vs_ap (Q := fun y => S2.2.2.2 y = false ∧ y < S2.1 + 1) (fun w hw => by rw [hPd] at hw; exact ⟨hw.2.1, hw.2.2.1⟩) vs3 (t := S2.2.2.1 k) (fun w w2 wo => by
                obtain ⟨a, b⟩ := ht.2.2.2.2.2 k hk w w2 wo
                exact ⟨a, by omega⟩) y y2 yo
              refine ⟨?_, by show y < S3.1; rw [g31]; exact this.2⟩
              show S3.2.2.2 y = false
              rw [g33]; exact this.1
          have ht4 := ht3.tr hs4 lte ⟨Nat.le_refl _, Nat.le_refl _, Nat.le_refl _, Nat.le_refl _⟩ (Nat.le_refl _) (fun y y2 _ ⟨w, w1, wo⟩ => by
            have := rng w (nfx w w1) y y2 wo
            rw [hPd] at this
            exact fx_app this.2.2.2 rfl)
          refine ⟨_, ht4, fun y y2 yo => ?_⟩
          rw [eS] at yo
          have yo : oc y (ap σ3 (S3.2.1 e)) = true := yo
          have e31 : S3.2.1 e = .var S2.1 := by rw [hS3]; exact upT_s
          rw [e31] at yo
          have hv : P S2.1 := (vp _ List.mem_cons_self).2 S2.1 (by omega) (by simp [oc])
          have hy := rng S2.1 hv y y2 yo
          have fy : fxS σ3 y := id3 S2.1 y y2 yo
          rw [hPd] at hy
          obtain ⟨a, b, c, d⟩ := hy
          refine ⟨?_, ?_, ?_, fx_app (fx_app d rfl) fy⟩
          · rw [eS]; show S3.2.2.2 y = false; rw [g33]; exact b
          · rw [eS]; show y < S3.1; rw [g31]; exact c
          · rcases a with ⟨k, k1, k2⟩ | a
            · refine Or.inr ⟨k, k1, ?_⟩
              rw [eS]
              show oc y (ap σ3 (S3.2.2.1 k)) = true
              rw [g32]
              exact fx_oc fy k2
            · exact Or.inl a
        · have := u2 h0
          rw [this] at hr
          exact absurd hr h0
