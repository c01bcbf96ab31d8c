/-! the reference copies a type, with new variables for those that are new at each use -/
theorem turn_cg {so fr to li so2 fr2 to2 : Nat → Int} {rr rr2 : Nat → Nat} {N : Nat} {tr : Nat → TE} {st : Int} (hg : GW so fr to li N rr) (hT : GT so fr to rr N tr) (es : ∀ t, t < N → so2 t = so t) (ef : ∀ t, t < N → fr2 t = fr t) (et : ∀ t, t < N → to2 t = to t) (er : ∀ t, t < N → rr2 t = rr t) :
    ∀ (f n : Nat) (stk seen seen2 : Nat → Int) (r : Int) (n' : Nat) (stk' seen' : Nat → Int), turnP so fr to rr st f n stk seen = some (r, n', stk', seen') → 1 ≤ n → (∀ i, i < n → 0 ≤ stk i ∧ stk i < (N : Int)) → (∀ k, k < N → seen2 k = seen k) →
    ∃ s2, turnP so2 fr2 to2 rr2 st f n stk seen2 = some (r, n', stk', s2) ∧ ((r = -1 ∧ s2 = seen2) ∨ ∃ k : Nat, r = (k : Int) ∧ s2 = upI seen2 k st)
  | 0, n, stk, seen, seen2, r, n', stk', seen', h, _, _, _ => by simp [turnP] at h
  | f + 1, n, stk, seen, seen2, r, n', stk', seen', h, h1, hs, hse => by
    have hm := hs (n - 1) (by omega)
    obtain ⟨p1, p2, -⟩ := hT (stk (n - 1)).toNat (by omega)
    have e1 : rr2 (stk (n - 1)).toNat = rr (stk (n - 1)).toNat := er _ (by omega)
    unfold turnP at h ⊢
    rw [e1]
    obtain ⟨t, ht0⟩ : ∃ t, t = rr (stk (n - 1)).toNat := ⟨_, rfl⟩
    rw [← ht0] at h p1 ⊢
    rw [hse t p1, es t p1]
    by_cases c1 : seen t = st
    · rw [if_pos c1] at h ⊢
      simp only [Option.some.injEq, Prod.mk.injEq] at h
      obtain ⟨q1, q2, q3, q4⟩ := h
      exact ⟨seen2, by rw [← q1, ← q2, ← q3], Or.inl ⟨q1.symm, rfl⟩⟩
    · rw [if_neg c1] at h ⊢
      have key : so t = 2 → (rr2 (fr2 t).toNat = rr (fr t).toNat ∧ rr2 (to2 t).toNat = rr (to t).toNat) ∧ rr (fr t).toNat < N ∧ rr (to t).toNat < N := fun k => by
        obtain ⟨g1, g2⟩ := hg.2.2 t p1 k
        rw [ef t p1, et t p1]
        exact ⟨⟨er _ (by omega), er _ (by omega)⟩, (hT _ (by omega)).1, (hT _ (by omega)).1⟩
      have push : ∀ x : Nat, x < N → turnP so fr to rr st f (n + 1) (upI stk n (x : Int)) seen = some (r, n', stk', seen') → ∃ s2, turnP so2 fr2 to2 rr2 st f (n + 1) (upI stk n (x : Int)) seen2 = some (r, n', stk', s2) ∧ ((r = -1 ∧ s2 = seen2) ∨ ∃ k : Nat, r = (k : Int) ∧ s2 = upI seen2 k st) := fun x hx hh =>
        turn_cg hg hT es ef et er f (n + 1) _ seen seen2 r n' stk' seen' hh (by omega) (fun i hi => by
          by_cases q : i = n
          · rw [q, upI_s]; omega
          · rw [upI_n q]; exact hs i (by omega)) hse
      by_cases k2 : so t = 2
      · obtain ⟨⟨a1, a2⟩, a3, a4⟩ := key k2
        rw [a1, a2, hse _ a3, hse _ a4]
        by_cases c2 : so t = 2 ∧ seen (rr (fr t).toNat) ≠ st
        · rw [if_pos c2] at h ⊢
          exact push _ a3 h
        · rw [if_neg c2] at h ⊢
          by_cases c3 : so t = 2 ∧ seen (rr (to t).toNat) ≠ st
          · rw [if_pos c3] at h ⊢
            exact push _ a4 h
          · rw [if_neg c3] at h ⊢
            simp only [Option.some.injEq, Prod.mk.injEq] at h
            obtain ⟨q1, q2, q3, q4⟩ := h
            exact ⟨_, by rw [← q1, ← q2, ← q3], Or.inr ⟨t, q1.symm, rfl⟩⟩
      · rw [if_neg (fun z => k2 z.1), if_neg (fun z => k2 z.1)] at h ⊢
        simp only [Option.some.injEq, Prod.mk.injEq] at h
        obtain ⟨q1, q2, q3, q4⟩ := h
        exact ⟨_, by rw [← q1, ← q2, ← q3], Or.inr ⟨t, q1.symm, rfl⟩⟩
/-- variables that are new at each use, in a tree; how much of it is copied -/
def gnO (gn : Nat → Bool) : TE → Bool
  | .var x => decide (2 ≤ x) && gn x
  | .op a b => gnO gn a || gnO gn b
def gsz (gn : Nat → Bool) : TE → Nat
  | .var x => if gnO gn (.var x) = true then 1 else 0
  | .op a b => if gnO gn (.op a b) = true then 1 + gsz gn a + gsz gn b else 0
def gop (gn : Nat → Bool) : TE → Nat
  | .var _ => 0
  | .op a b => if gnO gn (.op a b) = true then 1 + gop gn a + gop gn b else 0
def bdC (so : Nat → Int) (G : Nat → Bool) (k : Nat) (x : Nat × Nat) : Nat × Nat := if G k = true then (x.1 + 1, if so k = 2 then x.2 + 1 else x.2) else x
theorem dfs_cnt {so fr to li : Nat → Int} {rr : Nat → Nat} {st : Int} {N : Nat} {tr : Nat → TE} {τ : Nat → Nat} {gn : Nat → Bool} (hT : GT so fr to rr N tr) (hg : GW so fr to li N rr) : ∀ (T : TE) (t : Nat) (seen : Nat → Int) (x : Nat × Nat), t < N → rr t = t → tr t = T → (dfsP so fr to rr st (bdC so (fun k => gnO gn (nmC τ (tr k)))) T t seen x).2.1 ≤ x.1 + gsz gn (nmC τ T) ∧ (dfsP so fr to rr st (bdC so (fun k => gnO gn (nmC τ (tr k)))) T t seen x).2.2 ≤ x.2 + gop gn (nmC τ T)
  | .var v, t, seen, x, h, hr, e => by
    rw [dfsP]
    by_cases c : seen t = st
    · rw [if_pos c]; exact ⟨Nat.le_add_right _ _, Nat.le_add_right _ _⟩
    · rw [if_neg c]
      have k := GT_va hT h e
      rw [hr] at k
      show (bdC so (fun k => gnO gn (nmC τ (tr k))) t x).1 ≤ _ ∧ (bdC so (fun k => gnO gn (nmC τ (tr k))) t x).2 ≤ _
      have ev : ∃ w, nmC τ (.var v) = .var w := by
        show ∃ w, nmT _ (.var v) = .var w
        rw [nm_var]
        split
        · exact ⟨_, rfl⟩
        · exact ⟨_, rfl⟩
      obtain ⟨w, hw⟩ := ev
      unfold bdC
      simp only [e, hw]
      by_cases g : gnO gn (.var w) = true
      · rw [if_pos g, gsz, if_pos g]
        show x.1 + 1 ≤ x.1 + 1 ∧ (if so t = 2 then x.2 + 1 else x.2) ≤ x.2 + 0
        rw [if_neg k]
        exact ⟨Nat.le_refl _, Nat.le_refl _⟩
      · rw [if_neg g]
        exact ⟨Nat.le_add_right _ _, Nat.le_add_right _ _⟩
  | .op a b, t, seen, x, h, hr, e => by
    rw [dfsP]
    by_cases c : seen t = st
    · rw [if_pos c]; exact ⟨Nat.le_add_right _ _, Nat.le_add_right _ _⟩
    · rw [if_neg c]
      obtain ⟨k, ea, eb⟩ := GT_op hT h e
      rw [hr] at k ea eb
      obtain ⟨f1', f2'⟩ := hg.2.2 t h k
      obtain ⟨p1, p2, -⟩ := hT (fr t).toNat (by omega)
      obtain ⟨p3, p4, -⟩ := hT (to t).toNat (by omega)
      have h1 := dfs_cnt hT hg a (rr (fr t).toNat) seen x p1 p2 ((hT.rr (by omega)).trans ea.symm) (st := st) (τ := τ) (gn := gn)
      have h2 := dfs_cnt hT hg b (rr (to t).toNat) (dfsP so fr to rr st (bdC so (fun k => gnO gn (nmC τ (tr k)))) a (rr (fr t).toNat) seen x).1 (dfsP so fr to rr st (bdC so (fun k => gnO gn (nmC τ (tr k)))) a (rr (fr t).toNat) seen x).2 p3 p4 ((hT.rr (by omega)).trans eb.symm) (st := st) (τ := τ) (gn := gn)
      show (bdC so (fun k => gnO gn (nmC τ (tr k))) t (dfsP so fr to rr st (bdC so (fun k => gnO gn (nmC τ (tr k)))) b (rr (to t).toNat) (dfsP so fr to rr st (bdC so (fun k => gnO gn (nmC τ (tr k)))) a (rr (fr t).toNat) seen x).1 (dfsP so fr to rr st (bdC so (fun k => gnO gn (nmC τ (tr k)))) a (rr (fr t).toNat) seen x).2).2).1 ≤ _ ∧ (bdC so (fun k => gnO gn (nmC τ (tr k))) t (dfsP so fr to rr st (bdC so (fun k => gnO gn (nmC τ (tr k)))) b (rr (to t).toNat) (dfsP so fr to rr st (bdC so (fun k => gnO gn (nmC τ (tr k)))) a (rr (fr t).toNat) seen x).1 (dfsP so fr to rr st (bdC so (fun k => gnO gn (nmC τ (tr k)))) a (rr (fr t).toNat) seen x).2).2).2 ≤ _
      generalize dfsP so fr to rr st (bdC so (fun k => gnO gn (nmC τ (tr k)))) a (rr (fr t).toNat) seen x = p1 at *
      generalize dfsP so fr to rr st (bdC so (fun k => gnO gn (nmC τ (tr k)))) b (rr (to t).toNat) p1.1 p1.2 = p2 at *
      have eo : nmC τ (.op a b) = .op (nmC τ a) (nmC τ b) := rfl
      have z1 : ∀ T, gnO gn T = false → gsz gn T = 0 ∧ gop gn T = 0 := fun T hT => by
        cases T with
        | var y => rw [gsz, if_neg (by rw [hT]; decide)]; exact ⟨rfl, rfl⟩
        | op y z => rw [gsz, gop, if_neg (by rw [hT]; decide), if_neg (by rw [hT]; decide)]; exact ⟨rfl, rfl⟩
      unfold bdC
      simp only [e]
      by_cases g : gnO gn (nmC τ (.op a b)) = true
      · rw [if_pos g, eo, gsz, gop, ← eo, if_pos g, if_pos g, if_pos k]
        show p2.2.1 + 1 ≤ _ ∧ p2.2.2 + 1 ≤ _
        omega
      · rw [if_neg g]
        have g0 : gnO gn (nmC τ (.op a b)) = false := by simpa using g
        rw [eo] at g0
        have g1 := g0
        simp only [gnO, Bool.or_eq_false_iff] at g1
        rw [eo, (z1 _ g0).1, (z1 _ g0).2]
        rw [(z1 _ g1.1).1, (z1 _ g1.1).2] at h1
        rw [(z1 _ g1.2).1, (z1 _ g1.2).2] at h2
        omega
theorem loop_cnt {so fr to : Nat → Int} {G : Nat → Bool} {rr : Nat → Nat} {st : Int} {FT : Nat} : ∀ (F n : Nat) (stk seen : Nat → Int) (x : Nat × Nat) (K : (Nat → Int) × (Nat → Int) × (Nat × Nat)), loopP so fr to rr st (bdC so G) FT F n stk seen x = some K → x.1 ≤ K.2.2.1 ∧ x.2 ≤ K.2.2.2
  | 0, _, _, _, _, _, h => by simp [loopP] at h
  | F + 1, 0, stk, seen, x, K, h => by
    have := loop_done h
    rw [this]
    exact ⟨Nat.le_refl _, Nat.le_refl _⟩
  | F + 1, n + 1, stk, seen, x, K, h => by
    obtain ⟨_, r, n', stk', seen', F', hF, hq, hp⟩ := loop_some h
    have e : F' = F := by omega
    subst e
    have := loop_cnt F' n' stk' seen' _ K hp
    by_cases c : r < 0
    · rw [if_pos c] at this; exact this
    · rw [if_neg c] at this
      have e1 : x.1 ≤ (bdC so G r.toNat x).1 ∧ x.2 ≤ (bdC so G r.toNat x).2 := by
        unfold bdC
        split
        · show x.1 ≤ x.1 + 1 ∧ x.2 ≤ (if so r.toNat = 2 then x.2 + 1 else x.2)
          split <;> omega
        · exact ⟨Nat.le_refl _, Nat.le_refl _⟩
      omega
def insG (nv : Nat) (gn : Nat → Bool) (t : TE) : TE := sbs (fun x => if gn x = true then .var (nv + x) else .var x) t
abbrev CpA : List Nat := [66, 67, 68, 69, 70, 71, 72, 74]
abbrev CpF : List Nat := [49, 50, 51]
/-- between two parts of a copy: M cells, x parts gone through; the part ex has no copy yet -/
def CpO (h : AH) (N aB : Nat) (rr : Nat → Nat) (tr : Nat → TE) (τ : Nat → Nat) (nv : Nat) (gn : Nat → Bool) (se : Nat → Int) (ex : Nat) (g : AH) (x z M : Nat) (rr' : Nat → Nat) (tr' : Nat → TE) (τ' : Nat → Nat) : Prop :=
  (KP h g CpA CpF ∧ g.vl 42 50 = h.vl 42 50 + 1) ∧ (∀ c, c < N → g.vl 66 c = h.vl 66 c ∧ g.vl 67 c = h.vl 67 c ∧ g.vl 68 c = h.vl 68 c) ∧ (N ≤ M ∧ M ≤ N + x) ∧
  RT g M (aB + z) rr' tr' τ' (nv + nv) gn ∧ (∀ c, c < N → rr' c = rr c ∧ tr' c = tr c ∧ τ' c = τ c) ∧
    (∀ c, N ≤ c → c < M → g.vl 66 c = 3 → ∃ j, j < N ∧ h.vl 66 j = 3 ∧ se j = h.vl 42 50 + 1 ∧ τ' c = nv + τ j) ∧
    ∀ k, k < N → rr k = k → se k = h.vl 42 50 + 1 → k ≠ ex → ∃ m : Nat, m < M ∧ g.vl 72 k = (m : Int) ∧ nmC τ' (tr' m) = insG nv gn (nmC τ (tr k)) ∧ (gnO gn (nmC τ (tr k)) = false → m = k)
section CpS
variable {h : AH} {N aB : Nat} {rr : Nat → Nat} {tr : Nat → TE} {τ : Nat → Nat} {nv : Nat} {gn : Nat → Bool} {se : Nat → Int} {ex : Nat} {g : AH} {x z M : Nat} {rr' : Nat → Nat} {tr' : Nat → TE} {τ' : Nat → Nat}
theorem CpO.mv {se1 : Nat → Int} {ex1 x1 z1 : Nat} {g1 : AH} (c : CpO h N aB rr tr τ nv gn se ex g x z M rr' tr' τ') (hx : x ≤ x1 ∧ z ≤ z1 ∧ aB + z1 ≤ 9800) (k : KP g g1 [71, 72, 74] [51]) (hs : ∀ k, g1.vl 71 k ≤ h.vl 42 50 + 1) (hse : ∀ j, se j = h.vl 42 50 + 1 → se1 j = h.vl 42 50 + 1)
    (hm : ∀ k, k < N → rr k = k → se1 k = h.vl 42 50 + 1 → k ≠ ex1 → (se k = h.vl 42 50 + 1 ∧ k ≠ ex ∧ g1.vl 72 k = g.vl 72 k) ∨ ∃ m : Nat, m < M ∧ g1.vl 72 k = (m : Int) ∧ nmC τ' (tr' m) = insG nv gn (nmC τ (tr k)) ∧ (gnO gn (nmC τ (tr k)) = false → m = k)) : CpO h N aB rr tr τ nv gn se1 ex1 g1 x1 z1 M rr' tr' τ' := by
  obtain ⟨⟨c1, c2⟩, c3, c4, ⟨t1, t2, t3, t4, t5, t6⟩, c6, c7, c8⟩ := c
  have e66 : g1.vl 66 = g.vl 66 := k.vl
  have e67 : g1.vl 67 = g.vl 67 := k.vl
  have e68 : g1.vl 68 = g.vl 68 := k.vl
  have e69 : g1.vl 69 = g.vl 69 := k.vl
  have e70 : g1.vl 70 = g.vl 70 := k.vl
  have e50 : g1.vl 42 50 = h.vl 42 50 + 1 := (k.fl).trans c2
  refine ⟨⟨c1.tr (k.wk (by decide) (by decide)), e50⟩, by rw [e66, e67, e68]; exact c3, by omega, ⟨by rw [e66, e67, e68, e69]; exact t1, (k.fl).trans t2, by rw [e66, e70]; exact t3, fun j => by rw [e50]; exact hs j, by rw [e66]; omega, t6⟩, c6, fun j j1 j2 j3 => ?_, fun j j1 j2 j3 j4 => ?_⟩
  · rw [e66] at j3
    obtain ⟨i, i1, i2, i3, i4⟩ := c7 j j1 j2 j3
    exact ⟨i, i1, i2, hse i i3, i4⟩
  · rcases hm j j1 j2 j3 j4 with ⟨m1, m2, m3⟩ | m1
    · rw [m3]; exact c8 j j1 j2 m1 m2
    · exact m1
theorem CpO.add {kk a b : Int} {nm : Nat} (c : CpO h N aB rr tr τ nv gn se ex g x z M rr' tr' τ') (hM : M < 20000) (hx : aB + z + 1 ≤ 9800) (hk : 0 ≤ kk ∧ kk ≤ 3) (hab : kk = 2 → (0 ≤ a ∧ a < (M : Int)) ∧ 0 ≤ b ∧ b < (M : Int)) (hnm : kk = 3 → (∀ t, t < M → g.vl 66 t = 3 → τ' t ≠ nm) ∧ gn nm = false ∧ (2 ≤ nm ∧ nm < nv + nv) ∧ ∃ j, j < N ∧ h.vl 66 j = 3 ∧ se j = h.vl 42 50 + 1 ∧ nm = nv + τ j) (hN : NG (h.vl 66) (h.vl 67) (h.vl 68) (h.vl 69) N rr tr τ nv) :
    ∃ rr2 tr2 τ2, CpO h N aB rr tr τ nv gn se ex (addH g M kk a b) (x + 1) (z + (if kk = 2 then 1 else 0)) (M + 1) rr2 tr2 τ2 ∧ nmC τ2 (tr2 M) = (if kk = 2 then .op (nmC τ' (tr' a.toNat)) (nmC τ' (tr' b.toNat)) else if kk = 0 then .var 0 else if kk = 1 then .var 1 else .var nm) := by
  obtain ⟨⟨c1, c2⟩, c3, c4, c5, c6, c7, c8⟩ := c
  obtain ⟨n1, n2, n3⟩ := c5.add (k := kk) (a := a) (b := b) (nm := nm) (nv' := nv + nv) (aB' := aB + (z + (if kk = 2 then 1 else 0))) hM hk hab (fun z => ⟨⟨(hnm z).1, (hnm z).2.2.1⟩, (hnm z).2.1⟩) (Nat.le_refl _) ⟨by split <;> omega, by omega, fun w => by rw [if_pos w]; omega⟩
  have hp := addH_kp (h := g) (N := M) (k := kk) (a := a) (b := b)
  have e66 : ∀ c, c ≠ M → (addH g M kk a b).vl 66 c = g.vl 66 c := fun c hc => by
    have : (addH g M kk a b).vl 66 = upI (g.vl 66) M kk := (put_ne _ (by decide)).trans ((put_ne _ (by decide)).trans ((put_ne _ (by decide)).trans ((put_ne _ (by decide)).trans ((put_ne _ (by decide)).trans (put_row _ _ _ _)))))
    rw [this, upI_n hc]
  have e66M : (addH g M kk a b).vl 66 M = kk := by
    have : (addH g M kk a b).vl 66 = upI (g.vl 66) M kk := (put_ne _ (by decide)).trans ((put_ne _ (by decide)).trans ((put_ne _ (by decide)).trans ((put_ne _ (by decide)).trans ((put_ne _ (by decide)).trans (put_row _ _ _ _)))))
    rw [this, upI_s]
  have e67 : ∀ c, c ≠ M → (addH g M kk a b).vl 67 c = g.vl 67 c := fun c hc => by
    have : (addH g M kk a b).vl 67 = upI (g.vl 67) M a := (put_ne _ (by decide)).trans ((put_ne _ (by decide)).trans ((put_ne _ (by decide)).trans ((put_ne _ (by decide)).trans (put_row _ _ _ _))))
    rw [this, upI_n hc]
  have e68 : ∀ c, c ≠ M → (addH g M kk a b).vl 68 c = g.vl 68 c := fun c hc => by
    have : (addH g M kk a b).vl 68 = upI (g.vl 68) M b := (put_ne _ (by decide)).trans ((put_ne _ (by decide)).trans ((put_ne _ (by decide)).trans (put_row _ _ _ _)))
    rw [this, upI_n hc]
  have e72 : (addH g M kk a b).vl 72 = g.vl 72 := hp.vl
  refine ⟨_, _, _, ⟨⟨c1.tr (hp.wk (by decide) (by decide)), (hp.fl).trans c2⟩, fun c hc => by rw [e66 c (by omega), e67 c (by omega), e68 c (by omega)]; exact c3 c hc, by omega, n1, fun c hc => ?_, fun c h1 h2 h3 => ?_, fun k k1 k2 k3 k4 => ?_⟩, n3⟩
  · rw [upN_n (by omega), upT_n (by omega), upN_n (by omega)]
    exact c6 c hc
  · by_cases e : c = M
    · subst e
      rw [e66M] at h3
      obtain ⟨-, -, -, j, j1, j2, j3, j4⟩ := hnm h3
      exact ⟨j, j1, j2, j3, by rw [upN_s]; exact j4⟩
    · rw [e66 c e] at h3
      obtain ⟨j, j1, j2, j3, j4⟩ := c7 c h1 (by omega) h3
      exact ⟨j, j1, j2, j3, by rw [upN_n e]; exact j4⟩
  · obtain ⟨m, m1, m2, m3, m4⟩ := c8 k k1 k2 k3 k4
    exact ⟨m, by omega, by rw [e72]; exact m2, (n2 m m1).trans m3, m4⟩
theorem CpO.tk (c : CpO h N aB rr tr τ nv gn se ex g x z M rr' tr' τ') (hN : NG (h.vl 66) (h.vl 67) (h.vl 68) (h.vl 69) N rr tr τ nv) {k : Nat} (hk : k < N) : nmC τ' (tr' k) = nmC τ (tr k) := by
  have h6 := c.2.2.2.2.1
  rw [(h6 k hk).2.1]
  exact nm_cg (vsT_mono (hN.vs hk) (fun y hy hp => (h6 (y - 2) hp.2.1).2.2))
theorem CpO.gh (c : CpO h N aB rr tr τ nv gn se ex g x z M rr' tr' τ') : GH g M rr' tr' := c.2.2.2.1.gh
end CpS
