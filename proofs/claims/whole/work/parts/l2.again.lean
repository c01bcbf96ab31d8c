/-! the second way, told by trees (pure) -/
abbrev WO : Type := Option (Nat × Nat × (Nat → TE) × List (Nat × TE) × TE)
def seqW (p : WO → Prop) (q : Nat → Nat → (Nat → TE) → List (Nat × TE) → TE → WO → Prop) (o : WO) : Prop := ∃ o1, p o1 ∧ (o1 = none → o = none) ∧ ∀ g1 nv1 G1 σ1 t1, o1 = some (g1, nv1, G1, σ1, t1) → q g1 nv1 G1 σ1 t1 o
theorem seqW_s {p : WO → Prop} {q : Nat → Nat → (Nat → TE) → List (Nat × TE) → TE → WO → Prop} {x : Nat × Nat × (Nat → TE) × List (Nat × TE) × TE} (h : seqW p q (some x)) : ∃ g1 nv1 G1 σ1 t1, p (some (g1, nv1, G1, σ1, t1)) ∧ q g1 nv1 G1 σ1 t1 (some x) := by
  obtain ⟨o1, h1, h2, h3⟩ := h
  cases o1 with
  | none => exact nomatch h2 rfl
  | some w =>
    obtain ⟨g1, nv1, G1, σ1, t1⟩ := w
    exact ⟨g1, nv1, G1, σ1, t1, h1, h3 _ _ _ _ _ rfl⟩
/-- going through a node the second way: how many nodes are left, the next name, the types of functions' names, what was put for variables, the type -/
def wyR (L : List Nd) (kp : Nat → Option TE) : Nat → Nat → Nat → Nat → (Nat → TE) → WO → Prop
  | 0, _, _, _, _, o => o = none
  | f + 1, e, g, nv, G, o =>
    if g = 0 then o = none
    else if TBL L 57 e = 0 then
      if bd (TBL L) e < 0 then o = none
      else if TBL L 57 (bd (TBL L) e).toNat = 4 then o = some (g - 1, nv, G, [], G (bd (TBL L) e).toNat)
      else wyR L kp f (fstN L (bd (TBL L) e).toNat) (g - 1) nv G o
    else if TBL L 57 e = 1 then
      match kp (TBL L 58 e - 65).toNat with
      | none => o = none
      | some R => o = some (g - 1, nv + 210, G, [], sbs (fun x => .var (nv + x)) R)
    else if TBL L 57 e = 2 then o = some (g - 1, nv, G, [], .var 0)
    else if TBL L 57 e = 3 then o = some (g - 1, nv + 1, G, [], sgT (TBL L 58 e) nv)
    else if TBL L 57 e = 4 then seqW (wyR L kp f (fstN L e) (g - 1) (nv + 1) (upT G e (.var nv))) (fun g1 nv1 G1 σ1 t1 o => o = some (g1, nv1, G1, σ1, .op (G1 e) t1)) o
    else if TBL L 57 e = 5 then seqW (wyR L kp f (fstN L e) (g - 1) nv G) (fun g1 nv1 G1 σ1 _ o => seqW (wyR L kp f (sndN L e) g1 nv1 G1) (fun g2 nv2 G2 σ2 t2 o => o = some (g2, nv2, G2, σ1 ++ σ2, t2)) o) o
    else seqW (wyR L kp f (fstN L e) (g - 1) nv G) (fun g1 nv1 G1 σ1 t1 o => seqW (wyR L kp f (sndN L e) g1 nv1 G1) (fun g2 nv2 G2 σ2 t2 o => ∃ F R σ, un F [(ap σ2 t1, .op t2 (.var nv2))] = some (R, σ) ∧ (R.1 ≠ 0 → o = none) ∧ (R.1 = 0 → o = some (g2, nv2 + 1, (fun k => ap σ (G2 k)), σ1 ++ (σ2 ++ σ), ap σ (.var nv2)))) o) o
/-- names stay below -/
def VBS (nv nv' : Nat) (σ : List (Nat × TE)) : Prop := ∀ x, 2 ≤ x → x < nv → vsT (fun y => y < nv') (ap σ (.var x))
abbrev LtT (nv : Nat) (t : TE) : Prop := vsT (fun y => y < nv) t
theorem LtT.up {nv nv' : Nat} {t : TE} (h : LtT nv t) (hn : nv ≤ nv') : LtT nv' t := fun x h2 ho => Nat.lt_of_lt_of_le (h x h2 ho) hn
theorem VBS.ap {nv nv' : Nat} {σ : List (Nat × TE)} {t : TE} (h : VBS nv nv' σ) (ht : LtT nv t) : LtT nv' (ap σ t) := fun y h2 ho => by
  obtain ⟨x, x2, xo, yo⟩ := oc_ap h2 ho
  exact h x x2 (ht x x2 xo) y h2 yo
theorem VBS.nil {nv nv' : Nat} (h : nv ≤ nv') : VBS nv nv' [] := fun x _ hx => vsT_var (fun _ => Nat.lt_of_lt_of_le hx h)
theorem VBS.app {nv nv1 nv2 : Nat} {σ ρ : List (Nat × TE)} (h1 : VBS nv nv1 σ) (h2 : VBS nv1 nv2 ρ) : VBS nv nv2 (σ ++ ρ) := fun x x2 hx => by
  rw [ap_app]
  exact h2.ap (h1 x x2 hx)
theorem VBS.un {nv F : Nat} {ps : List (TE × TE)} {R : UR} {σ : List (Nat × TE)} (hp : vsP (fun y => y < nv) ps) (h : un F ps = some (R, σ)) : VBS nv nv σ := fun x _ hx => vs_ap (fun _ z => z) (un_vs F ps R σ hp h) (vsT_var (fun _ => hx))
theorem lt_ins {nv : Nat} {R : TE} (hR : ∀ x, 2 ≤ x → oc x R = true → x < 210) : LtT (nv + 210) (sbs (fun x => .var (nv + x)) R) := fun y h2 ho => by
  obtain ⟨x, x2, xo, yo⟩ := oc_sbs h2 ho
  have := oc_v yo
  have := hR x x2 xo
  show y < nv + 210
  omega
theorem lt_sg {nv : Nat} {c : Int} : LtT (nv + 1) (sgT c nv) := by
  have v : LtT (nv + 1) (.var nv) := vsT_var (fun _ => Nat.lt_succ_self _)
  have v0 : ∀ x, x < 2 → LtT (nv + 1) (.var x) := fun x hx => vsT_var (fun z => by omega)
  unfold sgT
  by_cases h : c = 63
  · rw [if_pos h]
    exact vsT_op.mpr ⟨v0 1 (by decide), vsT_op.mpr ⟨v, vsT_op.mpr ⟨v, v⟩⟩⟩
  · rw [if_neg h]
    refine vsT_op.mpr ⟨v0 0 (by decide), vsT_op.mpr ⟨v0 0 (by decide), v0 _ ?_⟩⟩
    split <;> decide
/-- the cost of a node, not cut -/
def cosS (L : List Nd) (c : Nat → Int) (k : Nat) : Int := 1 + (if TBL L 59 k < 0 then 0 else c (fstN L k)) + (if TBL L 60 k < 0 then 0 else c (sndN L k)) + (if TBL L 57 k = 0 ∧ 0 ≤ bd (TBL L) k ∧ TBL L 57 (bd (TBL L) k).toNat = 5 then c (fstN L (bd (TBL L) k).toNat) else 0)
def CoS (L : List Nd) (c : Nat → Int) : Prop := ∀ k, k < L.length → 0 ≤ c k ∧ c k = (if 300 < cosS L c k then 301 else cosS L c k)
theorem cos_S {L : List Nd} {c : Nat → Int} (h : ∀ k, k < L.length → 0 ≤ c k ∧ c k = cosF L c k) : CoS L c := fun k hk => h k hk
/-- what is known of a term -/
def TmA (L : List Nd) : Prop := L.length ≤ 120 ∧ (∀ x, x < L.length → NdP L x) ∧ ∀ x, x < L.length → (TBL L 57 x < 4 → TBL L 59 x = -1 ∧ TBL L 60 x = -1) ∧ (TBL L 57 x = 4 → TBL L 60 x = -1)
theorem tmAok {L : List Nd} {T : TE} (hs : shT T L) (hnd : ∀ x ∈ L, ndOK x) (hl : L.length ≤ 120) : TmA L := ⟨hl, fun x hx => ndP hs hnd hx, fun x hx => by
  rcases ndR hs hx with w | w | w
  · exact ⟨fun _ => w.2, fun z => by omega⟩
  · exact ⟨fun z => by omega, fun _ => w.2.2.1⟩
  · exact ⟨fun z => by omega, fun z => by omega⟩⟩
section WyS
variable {L : List Nd} {kp : Nat → Option TE} {c : Nat → Int}
theorem co_lf (hA : TmA L) {e : Nat} (he : e < L.length) (h4 : TBL L 57 e < 4) (hn : ¬ (TBL L 57 e = 0 ∧ 0 ≤ bd (TBL L) e ∧ TBL L 57 (bd (TBL L) e).toNat = 5)) : cosS L c e = 1 := by
  obtain ⟨a, b⟩ := (hA.2.2 e he).1 h4
  rw [cosS, a, b, if_pos (by decide), if_neg hn]; rfl
theorem co_nm (hA : TmA L) {e : Nat} (he : e < L.length) (hn : TBL L 57 e = 0 ∧ 0 ≤ bd (TBL L) e ∧ TBL L 57 (bd (TBL L) e).toNat = 5) : cosS L c e = 1 + c (fstN L (bd (TBL L) e).toNat) := by
  obtain ⟨a, b⟩ := (hA.2.2 e he).1 (by omega)
  rw [cosS, a, b, if_pos (by decide), if_pos hn]; omega
theorem co_fn (hA : TmA L) {e : Nat} (he : e < L.length) (h4 : TBL L 57 e = 4) : cosS L c e = 1 + c (fstN L e) := by
  have b := (hA.2.2 e he).2 h4
  rcases hA.2.1 e he with w | w | w
  · omega
  · have n59 : ¬ TBL L 59 e < 0 := by omega
    have n0 : ¬ (TBL L 57 e = 0 ∧ 0 ≤ bd (TBL L) e ∧ TBL L 57 (bd (TBL L) e).toNat = 5) := fun z => by omega
    rw [cosS, if_neg n59, b, if_pos (by decide), if_neg n0]; omega
  · omega
theorem co_tw (hA : TmA L) {e : Nat} (he : e < L.length) (h4 : 5 ≤ TBL L 57 e) : cosS L c e = 1 + c (fstN L e) + c (sndN L e) := by
  rcases hA.2.1 e he with w | w | ⟨-, w1, w2, -⟩
  · omega
  · omega
  · have n59 : ¬ TBL L 59 e < 0 := by omega
    have n60 : ¬ TBL L 60 e < 0 := by omega
    have n0 : ¬ (TBL L 57 e = 0 ∧ 0 ≤ bd (TBL L) e ∧ TBL L 57 (bd (TBL L) e).toNat = 5) := fun z => by omega
    rw [cosS, if_neg n59, if_neg n60, if_neg n0]; omega
theorem co_c (hc : CoS L c) {e : Nat} (he : e < L.length) (h : cosS L c e ≤ 300) : c e = cosS L c e := by
  have := (hc e he).2
  rw [if_neg (by omega)] at this
  exact this
/-- the let that binds a name, its first part -/
theorem bd_fst (hA : TmA L) {e : Nat} (he : e < L.length) (h0 : 0 ≤ bd (TBL L) e) (h4 : TBL L 57 (bd (TBL L) e).toNat ≠ 4) : BdL L e (bd (TBL L) e).toNat ∧ fstN L (bd (TBL L) e).toNat < L.length ∧ (bd (TBL L) e).toNat < L.length := by
  have hb := bdL hA.1 hA.2.1 he h0 h4
  have hbl : (bd (TBL L) e).toNat < L.length := by have := anc_lt' he hb.1; omega
  rcases hA.2.1 _ hbl with w | w | ⟨-, -, -, w1, w2, w3, -⟩
  · have := hb.2.1; omega
  · omega
  · exact ⟨hb, by omega, hbl⟩
/-- what going through a node the second way keeps -/
theorem wy_ok (hA : TmA L) (hkp : ∀ c R, kp c = some R → ∀ x, 2 ≤ x → oc x R = true → x < 210) : ∀ (f e g nv : Nat) (G : Nat → TE) (g' nv' : Nat) (G' : Nat → TE) (σ : List (Nat × TE)) (t : TE), wyR L kp f e g nv G (some (g', nv', G', σ, t)) → e < L.length → 2 ≤ nv → (∀ k, LtT nv (G k)) → g ≤ 300 →
    nv ≤ nv' ∧ (∀ k, LtT nv' (G' k)) ∧ LtT nv' t ∧ VBS nv nv' σ ∧ (∀ k, k < L.length → KpN L e k → G' k = ap σ (G k)) ∧ ((CoS L c → c e = (g : Int) - (g' : Int)) ∧ g' ≤ g)
  | 0, _, _, _, _, _, _, _, _, _, h, _, _, _, _ => nomatch h
  | f + 1, e, g, nv, G, g', nv', G', σ, t, h, he, hnv, hG, hg => by
    have hl := hA.1
    have nd := hA.2.1 e he
    rw [wyR] at h
    by_cases g0 : g = 0
    · rw [if_pos g0] at h; exact nomatch h
    rw [if_neg g0] at h
    have leaf : ∀ (n1 : Nat) (t1 : TE), nv ≤ n1 → LtT n1 t1 → cosS L c e = 1 → some (g', nv', G', σ, t) = some (g - 1, n1, G, ([] : List (Nat × TE)), t1) → nv ≤ nv' ∧ (∀ k, LtT nv' (G' k)) ∧ LtT nv' t ∧ VBS nv nv' σ ∧ (∀ k, k < L.length → KpN L e k → G' k = ap σ (G k)) ∧ ((CoS L c → c e = (g : Int) - (g' : Int)) ∧ g' ≤ g) := by
      intro n1 t1 hn ht hco hh
      have hh := Option.some.inj hh
      have e1 : g' = g - 1 := congrArg Prod.fst hh
      have e2 : nv' = n1 := congrArg (fun z => z.2.1) hh
      have e3 : G' = G := congrArg (fun z => z.2.2.1) hh
      have e4 : σ = [] := congrArg (fun z => z.2.2.2.1) hh
      have e5 : t = t1 := congrArg (fun z => z.2.2.2.2) hh
      subst e1 e2 e3 e4 e5
      exact ⟨hn, fun k => (hG k).up hn, ht, VBS.nil hn, fun _ _ _ => rfl, fun hc => by rw [co_c hc he (by omega)]; omega, by omega⟩
    by_cases k0 : TBL L 57 e = 0
    · rw [if_pos k0] at h
      by_cases b0 : bd (TBL L) e < 0
      · rw [if_pos b0] at h; exact nomatch h
      rw [if_neg b0] at h
      by_cases b4 : TBL L 57 (bd (TBL L) e).toNat = 4
      · rw [if_pos b4] at h
        exact leaf nv _ (Nat.le_refl _) (hG _) (co_lf hA he (by omega) (fun z => by omega)) h
      rw [if_neg b4] at h
      obtain ⟨hb, hfl, hbl⟩ := bd_fst hA he (by omega) b4
      obtain ⟨q1, q2, q3, q4, q5, q6, q7⟩ := wy_ok hA hkp f _ (g - 1) nv G g' nv' G' σ t h hfl hnv hG (by omega)
      have co := co_nm (c := c) hA he ⟨k0, by omega, hb.2.1⟩
      exact ⟨q1, q2, q3, q4, fun k hk hK => q5 k hk (hK.nm hl hA.2.1 he hb), fun hc => by have q6 := q6 hc; rw [co_c hc he (by omega)]; omega, by omega⟩
    rw [if_neg k0] at h
    by_cases k1 : TBL L 57 e = 1
    · rw [if_pos k1] at h
      cases hk : kp (TBL L 58 e - 65).toNat with
      | none => rw [hk] at h; exact nomatch h
      | some R =>
        rw [hk] at h
        exact leaf (nv + 210) _ (by omega) (lt_ins (hkp _ _ hk)) (co_lf hA he (by omega) (fun z => k0 z.1)) h
    rw [if_neg k1] at h
    by_cases k2 : TBL L 57 e = 2
    · rw [if_pos k2] at h
      exact leaf nv _ (Nat.le_refl _) (vsT_var (fun z => by omega)) (co_lf hA he (by omega) (fun z => k0 z.1)) h
    rw [if_neg k2] at h
    by_cases k3 : TBL L 57 e = 3
    · rw [if_pos k3] at h
      exact leaf (nv + 1) _ (by omega) lt_sg (co_lf hA he (by omega) (fun z => k0 z.1)) h
    rw [if_neg k3] at h
    by_cases k4 : TBL L 57 e = 4
    · rw [if_pos k4] at h
      rcases nd with w | ⟨-, -, w1, w2, w3⟩ | w
      · omega
      · obtain ⟨g1, nv1, G1, σ1, t1, h1, h2⟩ := seqW_s h
        have h2 := Option.some.inj h2
        have e1 : g' = g1 := congrArg Prod.fst h2
        have e2 : nv' = nv1 := congrArg (fun z => z.2.1) h2
        have e3 : G' = G1 := congrArg (fun z => z.2.2.1) h2
        have e4 : σ = σ1 := congrArg (fun z => z.2.2.2.1) h2
        have e5 : t = .op (G1 e) t1 := congrArg (fun z => z.2.2.2.2) h2
        subst e1 e2 e3 e4 e5
        have hG1 : ∀ k, LtT (nv + 1) (upT G e (.var nv) k) := fun k => by
          by_cases z : k = e
          · rw [z, upT_s]; exact vsT_var (fun _ => Nat.lt_succ_self _)
          · rw [upT_n z]; exact (hG k).up (Nat.le_succ _)
        have hfl : fstN L e < L.length := by omega
        obtain ⟨q1, q2, q3, q4, q5, q6, q7⟩ := wy_ok hA hkp f _ (g - 1) (nv + 1) _ g' nv' G' σ t1 h1 hfl (by omega) hG1 (by omega)
        have co := co_fn (c := c) hA he k4
        refine ⟨by omega, q2, vsT_op.mpr ⟨q2 e, q3⟩, fun x x2 hx => q4 x x2 (by omega), fun k hk hK => ?_, fun hc => by have q6 := q6 hc; rw [co_c hc he (by omega)]; omega, by omega⟩
        have ke : k ≠ e := fun z => hK.1 (Or.inl z)
        have := q5 k hk (by rw [w1]; exact hK.ch hl hA.2.1 he w2 hk w3)
        rw [upT_n ke] at this
        exact this
      · omega
    rw [if_neg k4] at h
    rcases nd with w | w | ⟨w0, -, -, w1, w2, w3, w4, w5⟩
    · omega
    · omega
    have co := co_tw (c := c) hA he (by omega)
    have hfl : fstN L e < L.length := by omega
    have kch : ∀ k, k < L.length → KpN L e k → KpN L (fstN L e) k ∧ KpN L (sndN L e) k := fun k hk hK => ⟨by rw [w1]; exact hK.ch hl hA.2.1 he (by omega) hk w4, hK.ch hl hA.2.1 he w3 hk w5⟩
    by_cases k5 : TBL L 57 e = 5
    · rw [if_pos k5] at h
      obtain ⟨g1, nv1, G1, σ1, t1, h1, h2⟩ := seqW_s h
      obtain ⟨g2, nv2, G2, σ2, t2, h3, h4⟩ := seqW_s h2
      have h4 := Option.some.inj h4
      have e1 : g' = g2 := congrArg Prod.fst h4
      have e2 : nv' = nv2 := congrArg (fun z => z.2.1) h4
      have e3 : G' = G2 := congrArg (fun z => z.2.2.1) h4
      have e4 : σ = σ1 ++ σ2 := congrArg (fun z => z.2.2.2.1) h4
      have e5 : t = t2 := congrArg (fun z => z.2.2.2.2) h4
      subst e1 e2 e3 e4 e5
      obtain ⟨q1, q2, q3, q4, q5, q6, q7⟩ := wy_ok hA hkp f _ (g - 1) nv G g1 nv1 G1 σ1 t1 h1 hfl hnv hG (by omega)
      obtain ⟨r1, r2, r3, r4, r5, r6, r7⟩ := wy_ok hA hkp f _ g1 nv1 G1 g' nv' G' σ2 t h3 w3 (by omega) q2 (by omega)
      refine ⟨by omega, r2, r3, q4.app r4, fun k hk hK => ?_, fun hc => by have q6 := q6 hc; have r6 := r6 hc; rw [co_c hc he (by omega)]; omega, by omega⟩
      obtain ⟨z1, z2⟩ := kch k hk hK
      rw [ap_app, r5 k hk z2, q5 k hk z1]
    rw [if_neg k5] at h
    obtain ⟨g1, nv1, G1, σ1, t1, h1, h2⟩ := seqW_s h
    obtain ⟨g2, nv2, G2, σ2, t2, h3, h4⟩ := seqW_s h2
    obtain ⟨F, R, ρ, u1, u2, u3⟩ := h4
    by_cases u0 : R.1 = 0
    · have h4 := Option.some.inj (u3 u0)
      have e1 : g' = g2 := congrArg Prod.fst h4
      have e2 : nv' = nv2 + 1 := congrArg (fun z => z.2.1) h4
      have e3 : G' = (fun k => ap ρ (G2 k)) := congrArg (fun z => z.2.2.1) h4
      have e4 : σ = σ1 ++ (σ2 ++ ρ) := congrArg (fun z => z.2.2.2.1) h4
      have e5 : t = ap ρ (.var nv2) := congrArg (fun z => z.2.2.2.2) h4
      subst e1 e2 e3 e4 e5
      obtain ⟨q1, q2, q3, q4, q5, q6, q7⟩ := wy_ok hA hkp f _ (g - 1) nv G g1 nv1 G1 σ1 t1 h1 hfl hnv hG (by omega)
      obtain ⟨r1, r2, r3, r4, r5, r6, r7⟩ := wy_ok hA hkp f _ g1 nv1 G1 g' nv2 G2 σ2 t2 h3 w3 (by omega) q2 (by omega)
      have vp : vsP (fun y => y < nv2 + 1) [(ap σ2 t1, .op t2 (.var nv2))] := fun p hp => by
        rw [List.mem_singleton.mp hp]
        exact ⟨(r4.ap q3).up (Nat.le_succ _), vsT_op.mpr ⟨r3.up (Nat.le_succ _), vsT_var (fun _ => Nat.lt_succ_self _)⟩⟩
      have vu := VBS.un vp u1
      refine ⟨by omega, fun k => vu.ap ((r2 k).up (Nat.le_succ _)), vu.ap (vsT_var (fun _ => Nat.lt_succ_self _)), q4.app (r4.app (fun x x2 hx => vu x x2 (by omega))), fun k hk hK => ?_, fun hc => by have q6 := q6 hc; have r6 := r6 hc; rw [co_c hc he (by omega)]; omega, by omega⟩
      obtain ⟨z1, z2⟩ := kch k hk hK
      rw [ap_app, ap_app, ← q5 k hk z1, ← r5 k hk z2]
    · exact nomatch u2 u0
end WyS
