/-! the reference copies a type, with new variables for those that are new at each use -/
theorem turn_cg {so fr to li so2 fr2 to2 : Nat → Int} {rr rr2 : Nat → Nat} {N : Nat} {tr : Nat → TE} {st : Int} (hg : GW so fr to li N rr) (hT : GT so fr to rr N tr) (es : ∀ t, t < N → so2 t = so t) (ef : ∀ t, t < N → fr2 t = fr t) (et : ∀ t, t < N → to2 t = to t) (er : ∀ t, t < N → rr2 t = rr t) :
    ∀ (f n : Nat) (stk seen seen2 : Nat → Int) (r : Int) (n' : Nat) (stk' seen' : Nat → Int), turnP so fr to rr st f n stk seen = some (r, n', stk', seen') → 1 ≤ n → (∀ i, i < n → 0 ≤ stk i ∧ stk i < (N : Int)) → (∀ k, k < N → seen2 k = seen k) →
    ∃ s2, turnP so2 fr2 to2 rr2 st f n stk seen2 = some (r, n', stk', s2) ∧ ((r = -1 ∧ s2 = seen2) ∨ ∃ k : Nat, r = (k : Int) ∧ s2 = upI seen2 k st)
  | 0, n, stk, seen, seen2, r, n', stk', seen', h, _, _, _ => by simp [turnP] at h
  | f + 1, n, stk, seen, seen2, r, n', stk', seen', h, h1, hs, hse => by
    have hm := hs (n - 1) (by omega)
    obtain ⟨p1, p2, -⟩ := hT (stk (n - 1)).toNat (by omega)
    have e1 : rr2 (stk (n - 1)).toNat = rr (stk (n - 1)).toNat := er _ (by omega)
    unfold turnP at h ⊢
    rw [e1]
    obtain ⟨t, ht0⟩ : ∃ t, t = rr (stk (n - 1)).toNat := ⟨_, rfl⟩
    rw [← ht0] at h p1 ⊢
    rw [hse t p1, es t p1]
    by_cases c1 : seen t = st
    · rw [if_pos c1] at h ⊢
      simp only [Option.some.injEq, Prod.mk.injEq] at h
      obtain ⟨q1, q2, q3, q4⟩ := h
      exact ⟨seen2, by rw [← q1, ← q2, ← q3], Or.inl ⟨q1.symm, rfl⟩⟩
    · rw [if_neg c1] at h ⊢
      have key : so t = 2 → (rr2 (fr2 t).toNat = rr (fr t).toNat ∧ rr2 (to2 t).toNat = rr (to t).toNat) ∧ rr (fr t).toNat < N ∧ rr (to t).toNat < N := fun k => by
        obtain ⟨g1, g2⟩ := hg.2.2 t p1 k
        rw [ef t p1, et t p1]
        exact ⟨⟨er _ (by omega), er _ (by omega)⟩, (hT _ (by omega)).1, (hT _ (by omega)).1⟩
      have push : ∀ x : Nat, x < N → turnP so fr to rr st f (n + 1) (upI stk n (x : Int)) seen = some (r, n', stk', seen') → ∃ s2, turnP so2 fr2 to2 rr2 st f (n + 1) (upI stk n (x : Int)) seen2 = some (r, n', stk', s2) ∧ ((r = -1 ∧ s2 = seen2) ∨ ∃ k : Nat, r = (k : Int) ∧ s2 = upI seen2 k st) := fun x hx hh =>
        turn_cg hg hT es ef et er f (n + 1) _ seen seen2 r n' stk' seen' hh (by omega) (fun i hi => by
          by_cases q : i = n
          · rw [q, upI_s]; omega
          · rw [upI_n q]; exact hs i (by omega)) hse
      by_cases k2 : so t = 2
      · obtain ⟨⟨a1, a2⟩, a3, a4⟩ := key k2
        rw [a1, a2, hse _ a3, hse _ a4]
        by_cases c2 : so t = 2 ∧ seen (rr (fr t).toNat) ≠ st
        · rw [if_pos c2] at h ⊢
          exact push _ a3 h
        · rw [if_neg c2] at h ⊢
          by_cases c3 : so t = 2 ∧ seen (rr (to t).toNat) ≠ st
          · rw [if_pos c3] at h ⊢
            exact push _ a4 h
          · rw [if_neg c3] at h ⊢
            simp only [Option.some.injEq, Prod.mk.injEq] at h
            obtain ⟨q1, q2, q3, q4⟩ := h
            exact ⟨_, by rw [← q1, ← q2, ← q3], Or.inr ⟨t, q1.symm, rfl⟩⟩
      · rw [if_neg (fun z => k2 z.1), if_neg (fun z => k2 z.1)] at h ⊢
        simp only [Option.some.injEq, Prod.mk.injEq] at h
        obtain ⟨q1, q2, q3, q4⟩ := h
        exact ⟨_, by rw [← q1, ← q2, ← q3], Or.inr ⟨t, q1.symm, rfl⟩⟩
theorem dfs_cnt {so fr to : Nat → Int} {rr : Nat → Nat} {st : Int} : ∀ (T : TE) (t : Nat) (seen : Nat → Int) (x : Nat), (dfsP so fr to rr st (fun _ x => x + 1) T t seen x).2 ≤ x + sz T
  | .var v, t, seen, x => by
    rw [dfsP]
    by_cases h : seen t = st
    · rw [if_pos h]; exact Nat.le_add_right _ _
    · rw [if_neg h]; exact Nat.le_refl _
  | .op a b, t, seen, x => by
    rw [dfsP]
    by_cases h : seen t = st
    · rw [if_pos h]; exact Nat.le_add_right _ _
    · rw [if_neg h]
      have h1 := dfs_cnt (so := so) (fr := fr) (to := to) (rr := rr) (st := st) a (rr (fr t).toNat) seen x
      have h2 := dfs_cnt (so := so) (fr := fr) (to := to) (rr := rr) (st := st) b (rr (to t).toNat) (dfsP so fr to rr st (fun _ x => x + 1) a (rr (fr t).toNat) seen x).1 (dfsP so fr to rr st (fun _ x => x + 1) a (rr (fr t).toNat) seen x).2
      simp only [sz]
      show _ + 1 ≤ _
      omega
theorem loop_cnt {so fr to : Nat → Int} {rr : Nat → Nat} {st : Int} {FT : Nat} : ∀ (F n : Nat) (stk seen : Nat → Int) (x : Nat) (K : (Nat → Int) × (Nat → Int) × Nat), loopP so fr to rr st (fun _ x => x + 1) FT F n stk seen x = some K → x ≤ K.2.2
  | 0, _, _, _, _, _, h => by simp [loopP] at h
  | F + 1, 0, stk, seen, x, K, h => by
    have := loop_done h
    rw [this]
    exact Nat.le_refl _
  | F + 1, n + 1, stk, seen, x, K, h => by
    obtain ⟨_, r, n', stk', seen', F', hF, hq, hp⟩ := loop_some h
    have e : F' = F := by omega
    subst e
    have := loop_cnt F' n' stk' seen' _ K hp
    by_cases c : r < 0
    · rw [if_pos c] at this; exact this
    · rw [if_neg c] at this; omega
def insG (nv : Nat) (gn : Nat → Bool) (t : TE) : TE := sbs (fun x => if gn x = true then .var (nv + x) else .var x) t
abbrev CpA : List Nat := [66, 67, 68, 69, 70, 71, 72, 74]
abbrev CpF : List Nat := [49, 50, 51]
/-- between two parts of a copy: M cells, x parts gone through -/
def CpI (h : AH) (N aB : Nat) (rr : Nat → Nat) (tr : Nat → TE) (τ : Nat → Nat) (nv : Nat) (gn : Nat → Bool) (se : Nat → Int) (g : AH) (x M : Nat) : Prop :=
  (KP h g CpA CpF ∧ g.vl 42 50 = h.vl 42 50 + 1) ∧ (∀ c, c < N → g.vl 66 c = h.vl 66 c ∧ g.vl 67 c = h.vl 67 c ∧ g.vl 68 c = h.vl 68 c) ∧ (N ≤ M ∧ M ≤ N + x) ∧
  ∃ rr' tr' τ', RT g M (aB + x) rr' tr' τ' (nv + nv) gn ∧ (∀ c, c < N → rr' c = rr c ∧ tr' c = tr c ∧ τ' c = τ c) ∧
    (∀ c, N ≤ c → c < M → g.vl 66 c = 3 → ∃ j, j < N ∧ h.vl 66 j = 3 ∧ se j = h.vl 42 50 + 1 ∧ τ' c = nv + τ j) ∧
    ∀ k, k < N → rr k = k → se k = h.vl 42 50 + 1 → ∃ m : Nat, m < M ∧ g.vl 72 k = (m : Int) ∧ nmC τ' (tr' m) = insG nv gn (nmC τ (tr k))
