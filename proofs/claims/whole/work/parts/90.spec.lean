/-! graphs whose variables have names: a cell more, and what fits -/
def nmC (τ : Nat → Nat) (t : TE) : TE := nmT (fun x => τ (x - 2)) t
def VP (so : Nat → Int) (N x : Nat) : Prop := 2 ≤ x ∧ x - 2 < N ∧ so (x - 2) = 3
def NG (so fr to li : Nat → Int) (N : Nat) (rr : Nat → Nat) (tr : Nat → TE) (τ : Nat → Nat) (nv : Nat) : Prop :=
  GW so fr to li N rr ∧ GT so fr to rr N tr ∧ (∀ t, t < N → 0 ≤ so t ∧ so t ≤ 3) ∧ (∀ t u, t < N → u < N → so t = 3 → so u = 3 → τ t = τ u → t = u) ∧ ∀ t, t < N → so t = 3 → 2 ≤ τ t ∧ τ t < nv
theorem NG.inj {so fr to li : Nat → Int} {N : Nat} {rr : Nat → Nat} {tr : Nat → TE} {τ : Nat → Nat} {nv : Nat} (h : NG so fr to li N rr tr τ nv) : InjP (VP so N) (fun x => τ (x - 2)) := by
  refine ⟨fun x y hx hy e => ?_, fun x hx => ⟨hx.1, (h.2.2.2.2 (x - 2) hx.2.1 hx.2.2).1⟩⟩
  have := h.2.2.2.1 (x - 2) (y - 2) hx.2.1 hy.2.1 hx.2.2 hy.2.2 e
  have := hx.1
  have := hy.1
  omega
theorem tr_vs {so fr to li : Nat → Int} {N : Nat} {rr : Nat → Nat} {tr : Nat → TE} (hg : GW so fr to li N rr) (hT : GT so fr to rr N tr) (hs : ∀ t, t < N → 0 ≤ so t ∧ so t ≤ 3) : ∀ (T : TE) (t : Nat), t < N → tr t = T → vsT (VP so N) T
  | .var v, t, h, e => by
    obtain ⟨a1, a2, a3⟩ := hT t h
    rw [if_neg (GT_va hT h e), e] at a3
    have h4 := hs _ a1
    have k := GT_va hT h e
    unfold lfc at a3
    refine vsT_var (fun hv => ?_)
    by_cases k0 : so (rr t) = 0
    · rw [if_pos k0] at a3; have := Lean.Data.AC.Expr.var.inj a3; omega
    · rw [if_neg k0] at a3
      by_cases k1 : so (rr t) = 1
      · rw [if_pos k1] at a3; have := Lean.Data.AC.Expr.var.inj a3; omega
      · rw [if_neg k1] at a3
        have := Lean.Data.AC.Expr.var.inj a3
        subst this
        exact ⟨hv, by show rr t < N; exact a1, by show so (rr t) = 3; omega⟩
  | .op a b, t, h, e => by
    obtain ⟨a1, a2, -⟩ := hT t h
    obtain ⟨k, ea, eb⟩ := GT_op hT h e
    obtain ⟨f1', f2'⟩ := hg.2.2 (rr t) a1 k
    exact vsT_op.mpr ⟨tr_vs hg hT hs a _ (by omega) ea.symm, tr_vs hg hT hs b _ (by omega) eb.symm⟩
theorem NG.vs {so fr to li : Nat → Int} {N : Nat} {rr : Nat → Nat} {tr : Nat → TE} {τ : Nat → Nat} {nv : Nat} (h : NG so fr to li N rr tr τ nv) {t : Nat} (ht0 : t < N) : vsT (VP so N) (tr t) := tr_vs h.1 h.2.1 h.2.2.1 _ t ht0 rfl
theorem nm_sz {ρ : Nat → Nat} : ∀ t : TE, sz (nmT ρ t) = sz t
  | .var x => by
    rw [nm_var]
    split <;> rfl
  | .op a b => by
    rw [nm_op]
    simp only [sz, nm_sz a, nm_sz b]
theorem nm_od {ρ : Nat → Nat} : ∀ t : TE, od (nmT ρ t) = od t
  | .var x => by
    rw [nm_var]
    split <;> rfl
  | .op a b => by
    rw [nm_op]
    simp only [od, nm_od a, nm_od b]
def upN (f : Nat → Nat) (k x : Nat) : Nat → Nat := fun j => if j = k then x else f j
def upT (f : Nat → TE) (k : Nat) (x : TE) : Nat → TE := fun j => if j = k then x else f j
theorem upN_s {f : Nat → Nat} {k x : Nat} : upN f k x k = x := if_pos rfl
theorem upN_n {f : Nat → Nat} {k j x : Nat} (h : j ≠ k) : upN f k x j = f j := if_neg h
theorem upT_s {f : Nat → TE} {k : Nat} {x : TE} : upT f k x k = x := if_pos rfl
theorem upT_n {f : Nat → TE} {k j : Nat} {x : TE} (h : j ≠ k) : upT f k x j = f j := if_neg h
theorem rt_ag {li li' : Nat → Int} {N : Nat} (hl : ∀ t, t < N → li t < (N : Int)) (h : ∀ t, t < N → li' t = li t) : ∀ (k t : Nat), t < N → rt li' k t = rt li k t
  | 0, _, _ => rfl
  | k + 1, t, ht0 => by
    rw [rt, rt, h t ht0]
    by_cases e : li t < 0
    · rw [if_pos e, if_pos e]
    · rw [if_neg e, if_neg e]
      exact rt_ag hl h k _ (by have := hl t ht0; omega)
/-- a cell more -/
theorem NG.add {so fr to li so' fr' to' li' : Nat → Int} {N : Nat} {rr : Nat → Nat} {tr : Nat → TE} {τ : Nat → Nat} {nv : Nat} (h : NG so fr to li N rr tr τ nv) {k : Int} {a b nm nv' : Nat} (hk : 0 ≤ k ∧ k ≤ 3) (hab : k = 2 → a < N ∧ b < N)
    (es : ∀ t, t < N → so' t = so t) (ef : ∀ t, t < N → fr' t = fr t) (et : ∀ t, t < N → to' t = to t) (el : ∀ t, t < N → li' t = li t) (ns : so' N = k) (nf : k = 2 → fr' N = (a : Int)) (nt : k = 2 → to' N = (b : Int)) (nl : li' N < 0) (hnm : k = 3 → (∀ t, t < N → so t = 3 → τ t ≠ nm) ∧ 2 ≤ nm ∧ nm < nv') (hnv : nv ≤ nv') :
    NG so' fr' to' li' (N + 1) (upN rr N N) (upT tr N (if k = 2 then .op (tr a) (tr b) else lfc k N)) (upN τ N nm) nv' ∧ (∀ c, c < N → nmC (upN τ N nm) (upT tr N (if k = 2 then .op (tr a) (tr b) else lfc k N) c) = nmC τ (tr c)) ∧
    nmC (upN τ N nm) (upT tr N (if k = 2 then .op (tr a) (tr b) else lfc k N) N) = (if k = 2 then .op (nmC τ (tr a)) (nmC τ (tr b)) else if k = 0 then .var 0 else if k = 1 then .var 1 else .var nm) := by
  obtain ⟨hg, hT, hs, hi, hn⟩ := id h
  have old : ∀ c, c < N → nmC (upN τ N nm) (tr c) = nmC τ (tr c) := fun c hc => nm_cg (vsT_mono (h.vs hc) (fun x hx hp => by
    show upN τ N nm (x - 2) = τ (x - 2)
    exact upN_n (by have := hp.2.1; omega)))
  refine ⟨⟨⟨fun t ht0 => ?_, fun t ht0 => ?_, fun t ht0 h2 => ?_⟩, fun t ht0 => ?_, fun t ht0 => ?_, fun t u ht0 hu h1 h2 e => ?_, fun t ht0 h1 => ?_⟩, fun c hc => ?_, ?_⟩
  · by_cases e : t = N
    · subst e; omega
    · have := hg.1 t (by omega)
      rw [el t (by omega)]; omega
  · by_cases e : t = N
    · subst e
      rw [upN_s]
      exact ⟨0, rfl, nl, by omega⟩
    · rw [upN_n e]
      obtain ⟨q, q1, q2, q3⟩ := hg.2.1 t (by omega)
      exact ⟨q, (rt_ag hg.1 el q t (by omega)).trans q1, by rw [el _ q3]; exact q2, by omega⟩
  · by_cases e : t = N
    · subst e
      rw [ns] at h2
      rw [nf h2, nt h2]
      have := hab h2
      omega
    · rw [es t (by omega)] at h2
      rw [ef t (by omega), et t (by omega)]
      have := hg.2.2 t (by omega) h2
      omega
  · by_cases e : t = N
    · subst e
      rw [upN_s, upT_s, upN_s, ns]
      refine ⟨by omega, rfl, ?_⟩
      by_cases k2 : k = 2
      · rw [if_pos k2, if_pos k2, nf k2, nt k2]
        have := hab k2
        show _ = Lean.Data.AC.Expr.op (upT tr t _ a) (upT tr t _ b)
        rw [upT_n (by omega), upT_n (by omega)]
      · rw [if_neg k2, if_neg k2]
    · obtain ⟨a1, a2, a3⟩ := hT t (by omega)
      rw [upN_n e, upT_n e, upN_n (by omega), es _ a1, ef _ a1, et _ a1]
      refine ⟨by omega, a2, ?_⟩
      rw [a3]
      by_cases k2 : so (rr t) = 2
      · rw [if_pos k2, if_pos k2]
        have := hg.2.2 _ a1 k2
        rw [upT_n (by omega), upT_n (by omega)]
      · rw [if_neg k2, if_neg k2]
  · by_cases e : t = N
    · subst e; rw [ns]; exact hk
    · rw [es t (by omega)]; exact hs t (by omega)
  · by_cases e1 : t = N
    · by_cases e2 : u = N
      · omega
      · rw [e1, upN_s, upN_n e2] at e
        rw [e1, ns] at h1
        rw [es u (by omega)] at h2
        exact absurd e.symm ((hnm h1).1 u (by omega) h2)
    · by_cases e2 : u = N
      · rw [e2, upN_s, upN_n e1] at e
        rw [e2, ns] at h2
        rw [es t (by omega)] at h1
        exact absurd e ((hnm h2).1 t (by omega) h1)
      · rw [upN_n e1, upN_n e2] at e
        rw [es t (by omega)] at h1
        rw [es u (by omega)] at h2
        exact hi t u (by omega) (by omega) h1 h2 e
  · by_cases e : t = N
    · subst e
      rw [upN_s]
      rw [ns] at h1
      have := hnm h1
      omega
    · rw [upN_n e]
      rw [es t (by omega)] at h1
      have := hn t (by omega) h1
      omega
  · rw [upT_n (by omega)]
    exact old c hc
  · rw [upT_s]
    by_cases k2 : k = 2
    · rw [if_pos k2, if_pos k2]
      have := hab k2
      show Lean.Data.AC.Expr.op (nmC (upN τ N nm) (tr a)) (nmC (upN τ N nm) (tr b)) = _
      rw [old a (by omega), old b (by omega)]
    · rw [if_neg k2, if_neg k2]
      unfold lfc
      by_cases k0 : k = 0
      · rw [if_pos k0, if_pos k0]; rfl
      · by_cases k1 : k = 1
        · rw [if_neg k0, if_neg k0, if_pos k1, if_pos k1]; rfl
        · rw [if_neg k0, if_neg k0, if_neg k1, if_neg k1]
          show nmT _ (.var (N + 2)) = _
          rw [nm_var, if_neg (by omega)]
          show Lean.Data.AC.Expr.var (upN τ N nm (N + 2 - 2)) = _
          rw [show N + 2 - 2 = N by omega, upN_s]
/-- what fits: the names' trees fit as the names say -/
theorem NG.fit {so fr to li li' : Nat → Int} {N : Nat} {rr rr' : Nat → Nat} {tr tr' : Nat → TE} {τ : Nat → Nat} {nv : Nat} (h : NG so fr to li N rr tr τ nv) {t u F : Nat} {R : UR} {σ : List (Nat × TE)} (ht0 : t < N) (hu : u < N) (hun : un F [(tr t, tr u)] = some (R, σ)) :
    un F [(nmC τ (tr t), nmC τ (tr u))] = some (R, nmS (fun x => τ (x - 2)) σ) ∧ (GW so fr to li' N rr' → GT so fr to rr' N tr' → (∀ c, tr' c = ap σ (tr c)) → NG so fr to li' N rr' tr' τ nv ∧ ∀ c, c < N → nmC τ (tr' c) = ap (nmS (fun x => τ (x - 2)) σ) (nmC τ (tr c))) := by
  have vp : vsP (VP so N) [(tr t, tr u)] := fun p hp => by
    rw [List.mem_singleton.mp hp]
    exact ⟨h.vs ht0, h.vs hu⟩
  refine ⟨?_, fun hg hT he => ⟨⟨hg, hT, h.2.2⟩, fun c hc => ?_⟩⟩
  · have := un_nm h.inj F _ vp
    rw [hun] at this
    exact this
  · rw [he]
    exact (ap_nm h.inj σ (tr c) (un_vs F _ R σ vp hun) (h.vs hc)).symm
/-! what the types of a term are, told by names -/
def fstN (L : List Nd) (e : Nat) : Nat := (TBL L 59 e).toNat
def sndN (L : List Nd) (e : Nat) : Nat := (TBL L 60 e).toNat
/-- the nodes around a node, the innermost first -/
def arN' (L : List Nd) : Nat → Int → List Nat
  | 0, _ => []
  | f + 1, k => if k < 0 then [] else k.toNat :: arN' L f (TBL L 61 k.toNat)
def envN (L : List Nd) (e : Nat) : List Nat := (arN' L 130 (TBL L 61 e)).filter (fun k => TBL L 57 k == 4)
/-- names in use are below nv; F the types of nodes, G those of functions' names, gn the names that are new at each use -/
abbrev IS : Type := Nat × (Nat → TE) × (Nat → TE) × (Nat → Bool)
abbrev IR : Type := Int × Int × Int × Int
def isF (S : IS) (e : Nat) (t : TE) (nv : Nat) : IS := (nv, upT S.2.1 e t, S.2.2.1, S.2.2.2)
def isA (S : IS) (σ : List (Nat × TE)) : IS := (S.1, (fun k => ap σ (S.2.1 k)), (fun k => ap σ (S.2.2.1 k)), S.2.2.2)
def insT (S : IS) (t : TE) : TE := sbs (fun x => if S.2.2.2 x = true then .var (S.1 + x) else .var x) t
def sgT (c : Int) (nv : Nat) : TE := if c = 63 then .op (.var 1) (.op (.var nv) (.op (.var nv) (.var nv))) else .op (.var 0) (.op (.var 0) (.var (if c = 43 then 0 else 1)))
def isGn (L : List Nd) (S : IS) (e : Nat) : IS := (S.1, S.2.1, S.2.2.1, fun x => S.2.2.2 x || (oc x (S.2.1 (fstN L e)) && !((envN L e).any (fun k => oc x (S.2.2.1 k)))))
def apR (S : IS) (L : List Nd) (e : Nat) (r : IR) (S' : IS) : Prop :=
  if 201 ≤ sz (S.2.1 (fstN L e)) ∨ 201 ≤ sz (S.2.1 (sndN L e)) then r = (10, (e : Int), -1, -1)
  else ∃ F R σ, un F [(S.2.1 (fstN L e), .op (S.2.1 (sndN L e)) (.var S.1))] = some (R, σ) ∧ (R.1 ≠ 0 → r = (R.1, (e : Int), R.2.1, R.2.2)) ∧
    (R.1 = 0 → (201 ≤ sz (ap σ (S.2.1 (fstN L e))) → r = (10, (e : Int), -1, -1)) ∧ (¬ 201 ≤ sz (ap σ (S.2.1 (fstN L e))) → r = (0, -1, -1, -1) ∧ S' = isA (isF S e (.var S.1) (S.1 + 1)) σ))
def lfR (L : List Nd) (kp : Nat → Option TE) (e : Nat) (S : IS) (r : IR) (S' : IS) : Prop :=
  if TBL L 57 e = 0 then
    if bd (TBL L) e < 0 then r = (3, (e : Int), -1, -1)
    else r = (0, -1, -1, -1) ∧ S' = (if TBL L 57 (bd (TBL L) e).toNat = 4 then isF S e (S.2.2.1 (bd (TBL L) e).toNat) S.1 else isF S e (insT S (S.2.1 (fstN L (bd (TBL L) e).toNat))) (S.1 + S.1))
  else if TBL L 57 e = 1 then
    match kp (TBL L 58 e - 65).toNat with
    | none => r = (3, (e : Int), -1, -1)
    | some T => r = (0, -1, -1, -1) ∧ S' = isF S e (sbs (fun x => .var (S.1 + x)) T) (S.1 + 210)
  else r = (0, -1, -1, -1) ∧ S' = (if TBL L 57 e = 2 then isF S e (.var 0) S.1 else isF S e (sgT (TBL L 58 e) S.1) (S.1 + 1))
/-- two steps one after the other: the first that fails tells -/
def thR (p : IR → IS → Prop) (q : IS → IR → IS → Prop) (r : IR) (S' : IS) : Prop := ∃ r1 S1, p r1 S1 ∧ (r1.1 ≠ 0 → r = r1) ∧ (r1.1 = 0 → q S1 r S')
def infR (L : List Nd) (kp : Nat → Option TE) : Nat → Nat → IS → IR → IS → Prop
  | 0, _, _, _, _ => False
  | f + 1, e, S, r, S' =>
    if TBL L 57 e < 4 then lfR L kp e S r S'
    else if TBL L 57 e = 4 then
      thR (infR L kp f (fstN L e) (S.1 + 1, S.2.1, upT S.2.2.1 e (.var S.1), S.2.2.2)) (fun S1 r S' => r = (0, -1, -1, -1) ∧ S' = isF S1 e (.op (S1.2.2.1 e) (S1.2.1 (fstN L e))) S1.1) r S'
    else if TBL L 57 e = 5 then
      thR (infR L kp f (fstN L e) S) (fun S1 r S' => if 201 ≤ sz (S1.2.1 (fstN L e)) then r = (10, (e : Int), -1, -1) else
        thR (infR L kp f (sndN L e) (isGn L S1 e)) (fun S2 r S' => r = (0, -1, -1, -1) ∧ S' = isF S2 e (S2.2.1 (sndN L e)) S2.1) r S') r S'
    else thR (infR L kp f (fstN L e) S) (fun S1 r S' => thR (infR L kp f (sndN L e) S1) (fun S2 r S' => apR S2 L e r S') r S') r S'
/-- one result -/
def detR (p : IR → IS → Prop) : Prop := ∀ r1 S1 r2 S2, p r1 S1 → p r2 S2 → r1 = r2 ∧ (r1.1 = 0 → S1 = S2)
theorem th_det {p : IR → IS → Prop} {q : IS → IR → IS → Prop} (hp : detR p) (hq : ∀ S, detR (q S)) : detR (thR p q) := by
  rintro r1 S1 r2 S2 ⟨a1, A1, x1, x2, x3⟩ ⟨b1, B1, y1, y2, y3⟩
  obtain ⟨e1, e2⟩ := hp _ _ _ _ x1 y1
  by_cases h : a1.1 = 0
  · have e3 := e2 h
    subst e3
    exact hq A1 _ _ _ _ (x3 h) (y3 (by rw [← e1]; exact h))
  · have h2 : b1.1 ≠ 0 := by rw [← e1]; exact h
    rw [x2 h, y2 h2]
    exact ⟨e1, fun z => absurd z h⟩
theorem ap_det {S : IS} {L : List Nd} {e : Nat} : detR (fun r S' => apR S L e r S') := by
  intro r1 S1 r2 S2 h1 h2
  unfold apR at h1 h2
  by_cases c : 201 ≤ sz (S.2.1 (fstN L e)) ∨ 201 ≤ sz (S.2.1 (sndN L e))
  · rw [if_pos c] at h1 h2
    rw [h1, h2]
    exact ⟨rfl, fun z => absurd (show (10 : Int) = 0 from z) (by decide)⟩
  · rw [if_neg c] at h1 h2
    obtain ⟨F1, R1, σ1, a1, a2, a3⟩ := h1
    obtain ⟨F2, R2, σ2, b1, b2, b3⟩ := h2
    have e9 := (un_mono _ _ _ a1 (max F1 F2) (by omega)).symm.trans (un_mono _ _ _ b1 (max F1 F2) (by omega))
    have e9 := Option.some.inj e9
    have eR : R1 = R2 := congrArg Prod.fst e9
    have eσ : σ1 = σ2 := congrArg Prod.snd e9
    subst eR eσ
    by_cases h0 : R1.1 = 0
    · by_cases h9 : 201 ≤ sz (ap σ1 (S.2.1 (fstN L e)))
      · rw [(a3 h0).1 h9, (b3 h0).1 h9]
        exact ⟨rfl, fun z => absurd (show (10 : Int) = 0 from z) (by decide)⟩
      · obtain ⟨c1, c2⟩ := (a3 h0).2 h9
        obtain ⟨d1, d2⟩ := (b3 h0).2 h9
        rw [c1, d1, c2, d2]
        exact ⟨rfl, fun _ => rfl⟩
    · rw [a2 h0, b2 h0]
      exact ⟨rfl, fun z => absurd z h0⟩
theorem ok_det {A : IS} : detR (fun r S' => r = (0, -1, -1, -1) ∧ S' = A) := by
  rintro r1 S1 r2 S2 ⟨a, b⟩ ⟨c, d⟩
  rw [a, b, c, d]
  exact ⟨rfl, fun _ => rfl⟩
theorem no_det {k e : Int} (hk : k ≠ 0) : detR (fun r _ => r = (k, e, -1, -1)) := by
  intro r1 S1 r2 S2 a b
  rw [a, b]
  exact ⟨rfl, fun z => absurd z hk⟩
theorem lf_det {L : List Nd} {kp : Nat → Option TE} {e : Nat} {S : IS} : detR (lfR L kp e S) := by
  intro r1 S1 r2 S2 h1 h2
  unfold lfR at h1 h2
  by_cases c0 : TBL L 57 e = 0
  · rw [if_pos c0] at h1 h2
    by_cases c1 : bd (TBL L) e < 0
    · rw [if_pos c1] at h1 h2
      exact no_det (by decide) _ S1 _ S2 h1 h2
    · rw [if_neg c1] at h1 h2
      exact ok_det _ _ _ _ h1 h2
  · rw [if_neg c0] at h1 h2
    by_cases c1 : TBL L 57 e = 1
    · rw [if_pos c1] at h1 h2
      cases hk : kp (TBL L 58 e - 65).toNat with
      | none =>
        rw [hk] at h1 h2
        exact no_det (by decide) _ S1 _ S2 h1 h2
      | some T =>
        rw [hk] at h1 h2
        exact ok_det _ _ _ _ h1 h2
    · rw [if_neg c1] at h1 h2
      exact ok_det _ _ _ _ h1 h2
theorem inf_det {L : List Nd} {kp : Nat → Option TE} : ∀ (f e : Nat) (S : IS), detR (infR L kp f e S)
  | 0, _, _ => fun _ _ _ _ h _ => False.elim h
  | f + 1, e, S => by
    intro r1 S1 r2 S2 h1 h2
    rw [infR] at h1 h2
    by_cases c0 : TBL L 57 e < 4
    · rw [if_pos c0] at h1 h2
      exact lf_det _ _ _ _ h1 h2
    rw [if_neg c0] at h1 h2
    by_cases c1 : TBL L 57 e = 4
    · rw [if_pos c1] at h1 h2
      exact th_det (inf_det f _ _) (fun S => ok_det) _ _ _ _ h1 h2
    rw [if_neg c1] at h1 h2
    by_cases c2 : TBL L 57 e = 5
    · rw [if_pos c2] at h1 h2
      refine th_det (inf_det f _ _) (fun S => ?_) _ _ _ _ h1 h2
      intro r1 S1 r2 S2 h1 h2
      by_cases c3 : 201 ≤ sz (S.2.1 (fstN L e))
      · rw [if_pos c3] at h1 h2
        exact no_det (by decide) _ S1 _ S2 h1 h2
      · rw [if_neg c3] at h1 h2
        exact th_det (inf_det f _ _) (fun S => ok_det) _ _ _ _ h1 h2
    · rw [if_neg c2] at h1 h2
      exact th_det (inf_det f _ _) (fun S => th_det (inf_det f _ _) (fun S => ap_det)) _ _ _ _ h1 h2
