/-! going through parts, those ahead that are in them: the order is that of the tree -/
abbrev TE : Type := Lean.Data.AC.Expr
/-- the tree that a part stands for: leaves 0 and 1 are N and B, from 2 on variables by their part -/
def lfc (so : Int) (r : Nat) : TE := if so = 0 then .var 0 else if so = 1 then .var 1 else .var (r + 2)
/-- tr reads the parts below N as trees -/
def GT (so fr to : Nat → Int) (rr : Nat → Nat) (N : Nat) (tr : Nat → TE) : Prop := ∀ t, t < N → rr t < N ∧ rr (rr t) = rr t ∧ tr t = if so (rr t) = 2 then .op (tr (fr (rr t)).toNat) (tr (to (rr t)).toNat) else lfc (so (rr t)) (rr t)
theorem GT.rr {so fr to : Nat → Int} {rr : Nat → Nat} {N : Nat} {tr : Nat → TE} (h : GT so fr to rr N tr) {t : Nat} (ht : t < N) : tr (rr t) = tr t := by
  obtain ⟨h1, h2, h3⟩ := h t ht
  obtain ⟨-, -, h4⟩ := h (rr t) h1
  rw [h4, h3, h2]
def ht : TE → Nat
  | .var _ => 1
  | .op a b => max (ht a) (ht b) + 1
/-- what a whole walk does: body at each part newly come to, parts ahead of what has them -/
def dfsP {σ : Type} (so fr to : Nat → Int) (rr : Nat → Nat) (st : Int) (body : Nat → σ → σ) : TE → Nat → (Nat → Int) → σ → (Nat → Int) × σ
  | .var _, t, seen, x => if seen t = st then (seen, x) else (upI seen t st, body t x)
  | .op a b, t, seen, x => if seen t = st then (seen, x) else
    let s1 := dfsP so fr to rr st body a (rr (fr t).toNat) seen x
    let s2 := dfsP so fr to rr st body b (rr (to t).toNat) s1.1 s1.2
    (upI s2.1 t st, body t s2.2)
/-- the loop: turn, then body for a part -/
def loopP {σ : Type} (so fr to : Nat → Int) (rr : Nat → Nat) (st : Int) (body : Nat → σ → σ) (FT : Nat) : Nat → Nat → (Nat → Int) → (Nat → Int) → σ → Option ((Nat → Int) × (Nat → Int) × σ)
  | 0, _, _, _, _ => none
  | _ + 1, 0, stk, seen, x => some (stk, seen, x)
  | F + 1, n + 1, stk, seen, x =>
    if 20000 < n + 1 + FT then none else match turnP so fr to rr st FT (n + 1) stk seen with
    | none => none
    | some (r, n', stk', seen') => loopP so fr to rr st body FT F n' stk' seen' (if r < 0 then x else body r.toNat x)
theorem turn_mono {so fr to : Nat → Int} {rr : Nat → Nat} {st : Int} : ∀ {f n : Nat} {stk seen : Nat → Int} {q : Int × Nat × (Nat → Int) × (Nat → Int)}, turnP so fr to rr st f n stk seen = some q → ∀ g, f ≤ g → turnP so fr to rr st g n stk seen = some q
  | 0, _, _, _, _, h, _, _ => by simp [turnP] at h
  | f + 1, n, stk, seen, q, h, g, hg => by
    obtain ⟨g, rfl⟩ : ∃ k, g = k + 1 := ⟨g - 1, by omega⟩
    unfold turnP at h ⊢
    split at h
    · rename_i e; rw [if_pos e]; exact h
    · rename_i e
      rw [if_neg e]
      split at h
      · rename_i e2; rw [if_pos e2]; exact turn_mono h g (by omega)
      · rename_i e2
        rw [if_neg e2]
        split at h
        · rename_i e3; rw [if_pos e3]; exact turn_mono h g (by omega)
        · rename_i e3; rw [if_neg e3]; exact h
/-- only what stands below n matters of a stack -/
def agr (n : Nat) (a b : Nat → Int) : Prop := ∀ i, i < n → a i = b i
section Dfs
variable {so fr to li : Nat → Int} {rr : Nat → Nat} {N : Nat} {tr : Nat → TE} {st : Int}
theorem lfc_var {k : Int} {r : Nat} : ∃ v, lfc k r = .var v := by
  unfold lfc
  split
  · exact ⟨_, rfl⟩
  · split <;> exact ⟨_, rfl⟩
theorem GT.op (hT : GT so fr to rr N tr) (hg : GW so fr to li N rr) {t : Nat} (h : t < N) (hr : rr t = t) {a b : TE} (e : tr t = .op a b) :
    so t = 2 ∧ (rr (fr t).toNat < N ∧ rr (rr (fr t).toNat) = rr (fr t).toNat ∧ tr (rr (fr t).toNat) = a) ∧ rr (to t).toNat < N ∧ rr (rr (to t).toNat) = rr (to t).toNat ∧ tr (rr (to t).toNat) = b := by
  obtain ⟨-, -, h3⟩ := hT t h
  rw [hr, e] at h3
  by_cases q : so t = 2
  · rw [if_pos q] at h3
    injection h3 with e1 e2
    have g := hg.2.2 t h q
    have f1 : (fr t).toNat < N := by omega
    have f2 : (to t).toNat < N := by omega
    exact ⟨q, ⟨(hT _ f1).1, (hT _ f1).2.1, (hT.rr f1).trans e1.symm⟩, (hT _ f2).1, (hT _ f2).2.1, (hT.rr f2).trans e2.symm⟩
  · rw [if_neg q] at h3
    obtain ⟨v, hv⟩ := lfc_var (k := so t) (r := t)
    rw [hv] at h3
    cases h3
theorem GT.va (hT : GT so fr to rr N tr) {t : Nat} (h : t < N) (hr : rr t = t) {v : Nat} (e : tr t = .var v) : so t ≠ 2 ∧ lfc (so t) t = .var v := by
  obtain ⟨-, -, h3⟩ := hT t h
  rw [hr, e] at h3
  by_cases q : so t = 2
  · rw [if_pos q] at h3; cases h3
  · rw [if_neg q] at h3; exact ⟨q, h3.symm⟩
theorem turn_seen {f m : Nat} {stk seen : Nat → Int} (h : seen (rr (stk m).toNat) = st) : turnP so fr to rr st (f + 1) (m + 1) stk seen = some (-1, m, stk, seen) := by
  unfold turnP
  rw [Nat.add_sub_cancel, if_pos h]
theorem turn_l {f m t : Nat} {stk seen : Nat → Int} (ht : rr (stk m).toNat = t) (h : seen t ≠ st) (hs : so t = 2) (hl : seen (rr (fr t).toNat) ≠ st) : turnP so fr to rr st (f + 1) (m + 1) stk seen = turnP so fr to rr st f (m + 2) (upI stk (m + 1) (rr (fr t).toNat)) seen := by
  subst ht
  rw [turnP, Nat.add_sub_cancel, if_neg h, if_pos ⟨hs, hl⟩]
theorem turn_r {f m t : Nat} {stk seen : Nat → Int} (ht : rr (stk m).toNat = t) (h : seen t ≠ st) (hs : so t = 2) (hl : seen (rr (fr t).toNat) = st) (hr : seen (rr (to t).toNat) ≠ st) : turnP so fr to rr st (f + 1) (m + 1) stk seen = turnP so fr to rr st f (m + 2) (upI stk (m + 1) (rr (to t).toNat)) seen := by
  subst ht
  rw [turnP, Nat.add_sub_cancel, if_neg h, if_neg (fun z => z.2 hl), if_pos ⟨hs, hr⟩]
theorem turn_me {f m t : Nat} {stk seen : Nat → Int} (ht : rr (stk m).toNat = t) (h : seen t ≠ st) (hl : so t = 2 → seen (rr (fr t).toNat) = st ∧ seen (rr (to t).toNat) = st) : turnP so fr to rr st (f + 1) (m + 1) stk seen = some ((t : Int), m, stk, upI seen t st) := by
  subst ht
  rw [turnP, Nat.add_sub_cancel, if_neg h, if_neg (fun z => z.2 (hl z.1).1), if_neg (fun z => z.2 (hl z.1).2)]
theorem cast_root {t : Nat} (h : rr t = t) : rr ((t : Nat) : Int).toNat = t := h
/-- a turn ends within the tree's height -/
theorem turn_ends (hT : GT so fr to rr N tr) (hg : GW so fr to li N rr) : ∀ (T : TE) (t m : Nat) (stk seen : Nat → Int) (f : Nat), t < N → rr t = t → tr t = T → rr (stk m).toNat = t → ht T ≤ f → ∃ q, turnP so fr to rr st f (m + 1) stk seen = some q
  | .var v, t, m, stk, seen, f, h, hr, e, hs, hf => by
    obtain ⟨f, rfl⟩ : ∃ k, f = k + 1 := ⟨f - 1, by simp only [ht] at hf; omega⟩
    by_cases q : seen t = st
    · exact ⟨_, turn_seen (by rw [hs]; exact q)⟩
    · exact ⟨_, turn_me hs q (fun z => absurd z (hT.va h hr e).1)⟩
  | .op a b, t, m, stk, seen, f, h, hr, e, hs, hf => by
    obtain ⟨f, rfl⟩ : ∃ k, f = k + 1 := ⟨f - 1, by simp only [ht] at hf; omega⟩
    simp only [ht] at hf
    obtain ⟨h2, ⟨a1, a2, a3⟩, b1, b2, b3⟩ := hT.op hg h hr e
    by_cases q : seen t = st
    · exact ⟨_, turn_seen (by rw [hs]; exact q)⟩
    · by_cases ql : seen (rr (fr t).toNat) = st
      · by_cases qr : seen (rr (to t).toNat) = st
        · exact ⟨_, turn_me hs q (fun _ => ⟨ql, qr⟩)⟩
        · rw [turn_r hs q h2 ql qr]
          exact turn_ends hT hg b _ (m + 1) _ _ f b1 b2 b3 (by rw [upI_s]; exact cast_root b2) (by omega)
      · rw [turn_l hs q h2 ql]
        exact turn_ends hT hg a _ (m + 1) _ _ f a1 a2 a3 (by rw [upI_s]; exact cast_root a2) (by omega)
section Loop
variable {σ : Type} {body : Nat → σ → σ} {FT : Nat}
theorem loop_c {F m : Nat} (hB : m + 1 + FT ≤ 20000) {stk seen stk' seen' : Nat → Int} {x : σ} {t : Nat} {K : (Nat → Int) × (Nat → Int) × σ} (h : turnP so fr to rr st FT (m + 1) stk seen = some ((t : Int), m, stk', seen')) (hk : loopP so fr to rr st body FT F m stk' seen' (body t x) = some K) : loopP so fr to rr st body FT (F + 1) (m + 1) stk seen x = some K := by
  rw [loopP, if_neg (by omega), h]
  show loopP so fr to rr st body FT F m stk' seen' (if (t : Int) < 0 then x else body (t : Int).toNat x) = some K
  rw [if_neg (by omega)]
  exact hk
theorem loop_s {F m : Nat} (hB : m + 1 + FT ≤ 20000) {stk seen stk' seen' : Nat → Int} {x : σ} {K : (Nat → Int) × (Nat → Int) × σ} (h : turnP so fr to rr st FT (m + 1) stk seen = some (-1, m, stk', seen')) (hk : loopP so fr to rr st body FT F m stk' seen' x = some K) : loopP so fr to rr st body FT (F + 1) (m + 1) stk seen x = some K := by
  rw [loopP, if_neg (by omega), h]
  exact hk
/-- two stacks with one turn -/
theorem loop_eq {F m m2 : Nat} (hB : m + 1 + FT ≤ 20000) {stk stk2 seen : Nat → Int} {x : σ} {q : Int × Nat × (Nat → Int) × (Nat → Int)} {K : (Nat → Int) × (Nat → Int) × σ} (h : turnP so fr to rr st FT (m + 1) stk seen = some q) (h2 : turnP so fr to rr st FT (m2 + 1) stk2 seen = some q) (hk : loopP so fr to rr st body FT F (m2 + 1) stk2 seen x = some K) : loopP so fr to rr st body FT F (m + 1) stk seen x = some K := by
  cases F with
  | zero => simp [loopP] at hk
  | succ F =>
    rw [loopP] at hk
    split at hk
    · cases hk
    · rw [h2] at hk
      rw [loopP, if_neg (by omega), h]
      exact hk
/-- what a walk marks stands within the tree -/
theorem dfs_in (hT : GT so fr to rr N tr) (hg : GW so fr to li N rr) : ∀ (T : TE) (t : Nat) (seen : Nat → Int) (x : σ), t < N → rr t = t → tr t = T →
    ∀ k, (dfsP so fr to rr st body T t seen x).1 k = seen k ∨ ((dfsP so fr to rr st body T t seen x).1 k = st ∧ k < N ∧ rr k = k ∧ ht (tr k) ≤ ht T)
  | .var v, t, seen, x, h, hr, e, k => by
    unfold dfsP
    split
    · exact Or.inl rfl
    · by_cases q : k = t
      · subst q; exact Or.inr ⟨upI_s, h, hr, by rw [e]; exact Nat.le_refl _⟩
      · exact Or.inl (upI_n q)
  | .op a b, t, seen, x, h, hr, e, k => by
    obtain ⟨h2, ⟨a1, a2, a3⟩, b1, b2, b3⟩ := hT.op hg h hr e
    unfold dfsP
    split
    · exact Or.inl rfl
    · by_cases q : k = t
      · subst q; exact Or.inr ⟨upI_s, h, hr, by rw [e]; exact Nat.le_refl _⟩
      · show upI _ t st k = seen k ∨ (upI _ t st k = st ∧ _)
        rw [upI_n q]
        rcases dfs_in hT hg b (rr (to t).toNat) (dfsP so fr to rr st body a (rr (fr t).toNat) seen x).1 (dfsP so fr to rr st body a (rr (fr t).toNat) seen x).2 b1 b2 b3 k with g | ⟨g, g1, g2, g3⟩
        · rcases dfs_in hT hg a (rr (fr t).toNat) seen x a1 a2 a3 k with f | ⟨f, f1, f2, f3⟩
          · exact Or.inl (g.trans f)
          · exact Or.inr ⟨g.trans f, f1, f2, by simp only [ht]; omega⟩
        · exact Or.inr ⟨g, g1, g2, by simp only [ht]; omega⟩
theorem dfs_top (hT : GT so fr to rr N tr) : ∀ (T : TE) (t : Nat) (seen : Nat → Int) (x : σ), (dfsP so fr to rr st body T t seen x).1 t = st
  | .var v, t, seen, x => by
    unfold dfsP
    split
    · assumption
    · exact upI_s
  | .op a b, t, seen, x => by
    unfold dfsP
    split
    · assumption
    · exact upI_s
theorem dfs_loop {f : Nat} (hT : GT so fr to rr N tr) (hg : GW so fr to li N rr) : ∀ (T : TE) (t m : Nat) (stk seen : Nat → Int) (x : σ), t < N → rr t = t → tr t = T → rr (stk m).toNat = t → ht T < f + 1 → m + ht T + (f + 1) ≤ 20000 →
    ∃ stk', agr m stk' stk ∧ ∀ F K, loopP so fr to rr st body (f + 1) F m stk' (dfsP so fr to rr st body T t seen x).1 (dfsP so fr to rr st body T t seen x).2 = some K → ∃ F', loopP so fr to rr st body (f + 1) F' (m + 1) stk seen x = some K
  | .var v, t, m, stk, seen, x, h, hr, e, hs, hf, hB => by
    refine ⟨stk, fun _ _ => rfl, fun F K hk => ?_⟩
    unfold dfsP at hk
    by_cases q : seen t = st
    · rw [if_pos q] at hk
      exact ⟨_, loop_s (by simp only [ht] at hB; omega) (turn_seen (by rw [hs]; exact q)) hk⟩
    · rw [if_neg q] at hk
      exact ⟨_, loop_c (by simp only [ht] at hB; omega) (turn_me hs q (fun z => absurd z (hT.va h hr e).1)) hk⟩
  | .op a b, t, m, stk, seen, x, h, hr, e, hs, hf, hB => by
    obtain ⟨h2, ⟨a1, a2, a3⟩, b1, b2, b3⟩ := hT.op hg h hr e
    have hfa : ht a < f ∧ ht b < f := by simp only [ht] at hf; omega
    by_cases q : seen t = st
    · refine ⟨stk, fun _ _ => rfl, fun F K hk => ?_⟩
      unfold dfsP at hk
      rw [if_pos q] at hk
      exact ⟨_, loop_s (by simp only [ht] at hB; omega) (turn_seen (by rw [hs]; exact q)) hk⟩
    · obtain ⟨s1, hs1⟩ : ∃ s1, s1 = dfsP so fr to rr st body a (rr (fr t).toNat) seen x := ⟨_, rfl⟩
      obtain ⟨s2, hs2⟩ : ∃ s2, s2 = dfsP so fr to rr st body b (rr (to t).toNat) s1.1 s1.2 := ⟨_, rfl⟩
      have e0 : dfsP so fr to rr st body (.op a b) t seen x = (upI s2.1 t st, body t s2.2) := by
        rw [dfsP, if_neg q, hs2, hs1]
      -- the left part
      obtain ⟨k1, hk1, L1⟩ : ∃ k1, agr (m + 1) k1 stk ∧ ∀ F K, loopP so fr to rr st body (f + 1) F (m + 1) k1 s1.1 s1.2 = some K → ∃ F', loopP so fr to rr st body (f + 1) F' (m + 1) stk seen x = some K := by
        by_cases ql : seen (rr (fr t).toNat) = st
        · refine ⟨stk, fun _ _ => rfl, fun F K hk => ⟨F, ?_⟩⟩
          have : s1 = (seen, x) := by
            rw [hs1]
            cases a <;> (unfold dfsP; rw [if_pos ql])
          rw [this] at hk
          exact hk
        · obtain ⟨k1, g1, g2⟩ := dfs_loop (f := f) hT hg a _ (m + 1) (upI stk (m + 1) (rr (fr t).toNat)) seen x a1 a2 a3 (by rw [upI_s]; exact cast_root a2) (by omega) (by simp only [ht] at hB; omega)
          refine ⟨k1, fun i hi => (g1 i hi).trans (upI_n (by omega)), fun F K hk => ?_⟩
          rw [← hs1] at g2
          obtain ⟨F', hF'⟩ := g2 F K hk
          obtain ⟨q1, hq1⟩ := turn_ends (st := st) hT hg a _ (m + 1) (upI stk (m + 1) (rr (fr t).toNat)) seen f a1 a2 a3 (by rw [upI_s]; exact cast_root a2) (by omega)
          exact ⟨F', loop_eq (by simp only [ht] at hB; omega) (q := q1) (by rw [turn_l hs q h2 ql]; exact hq1) (turn_mono hq1 _ (by omega)) hF'⟩
      have hs' : rr (k1 m).toNat = t := by rw [hk1 m (by omega)]; exact hs
      have q1 : s1.1 t ≠ st := by
        rw [hs1]
        rcases dfs_in (st := st) (body := body) hT hg a (rr (fr t).toNat) seen x a1 a2 a3 t with g | ⟨-, -, -, g⟩
        · rw [g]; exact q
        · rw [e] at g; simp only [ht] at g; omega
      have l1 : s1.1 (rr (fr t).toNat) = st := by rw [hs1]; exact dfs_top hT a _ _ _
      obtain ⟨k2, hk2, L2⟩ : ∃ k2, agr (m + 1) k2 k1 ∧ ∀ F K, loopP so fr to rr st body (f + 1) F (m + 1) k2 s2.1 s2.2 = some K → ∃ F', loopP so fr to rr st body (f + 1) F' (m + 1) k1 s1.1 s1.2 = some K := by
        by_cases qr : s1.1 (rr (to t).toNat) = st
        · refine ⟨k1, fun _ _ => rfl, fun F K hk => ⟨F, ?_⟩⟩
          have : s2 = (s1.1, s1.2) := by
            rw [hs2]
            cases b <;> (unfold dfsP; rw [if_pos qr])
          rw [this] at hk
          exact hk
        · obtain ⟨k2, g1, g2⟩ := dfs_loop (f := f) hT hg b _ (m + 1) (upI k1 (m + 1) (rr (to t).toNat)) s1.1 s1.2 b1 b2 b3 (by rw [upI_s]; exact cast_root b2) (by omega) (by simp only [ht] at hB; omega)
          refine ⟨k2, fun i hi => (g1 i hi).trans (upI_n (by omega)), fun F K hk => ?_⟩
          rw [← hs2] at g2
          obtain ⟨F', hF'⟩ := g2 F K hk
          obtain ⟨q2, hq2⟩ := turn_ends (st := st) hT hg b _ (m + 1) (upI k1 (m + 1) (rr (to t).toNat)) s1.1 f b1 b2 b3 (by rw [upI_s]; exact cast_root b2) (by omega)
          exact ⟨F', loop_eq (by simp only [ht] at hB; omega) (q := q2) (by rw [turn_r hs' q1 h2 l1 qr]; exact hq2) (turn_mono hq2 _ (by omega)) hF'⟩
      have hs'' : rr (k2 m).toNat = t := by rw [hk2 m (by omega)]; exact hs'
      have in2 := dfs_in (st := st) (body := body) hT hg b (rr (to t).toNat) s1.1 s1.2 b1 b2 b3
      rw [← hs2] at in2
      have q2 : s2.1 t ≠ st := by
        rcases in2 t with g | ⟨-, -, -, g⟩
        · rw [g]; exact q1
        · rw [e] at g; simp only [ht] at g; omega
      have l2 : s2.1 (rr (fr t).toNat) = st := by
        rcases in2 (rr (fr t).toNat) with g | ⟨g, -⟩
        · rw [g]; exact l1
        · exact g
      have r2 : s2.1 (rr (to t).toNat) = st := by rw [hs2]; exact dfs_top hT b _ _ _
      refine ⟨k2, fun i hi => (hk2 i (by omega)).trans (hk1 i (by omega)), fun F K hk => ?_⟩
      rw [e0] at hk
      obtain ⟨F1, hF1⟩ := L2 (F + 1) K (loop_c (by simp only [ht] at hB; omega) (turn_me hs'' q2 (fun _ => ⟨l2, r2⟩)) hk)
      exact L1 F1 K hF1
end Loop
end Dfs
