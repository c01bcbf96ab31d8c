/-! the reference's state while types are found; variables that are new at each use -/
set_option maxRecDepth 100000 in
theorem s_copiedN {h : AH} {N aB nv : Nat} {gn : Nat → Bool} {T : Nat → TE} {t : Nat} (hI0 : RI h) (g : RN h N aB nv gn T) (htN : t < N) (hsz : gsz gn (T t) ≤ 200 ∧ gop gn (T t) ≤ 99) (hN : N + 200 ≤ 20000) (haB : aB + 100 ≤ 9800) (hgn : ∀ x, gn x = true → x < nv) (h2 : 2 ≤ nv) (hst0 : 0 ≤ h.vl 42 50) (hst9 : h.vl 42 50 + 1 ≤ 2147483000) :
    CV mX11_copied 5 [rv 42, iv (t : Int)] h (oi fun r h1 => ∃ (c M : Nat) (T2 : Nat → TE), r = (c : Int) ∧ c < M ∧ (N ≤ M ∧ M ≤ N + 200) ∧ KP h h1 CpA CpF ∧ h1.vl 42 50 = h.vl 42 50 + 1 ∧ RN h1 M (aB + 99) (nv + nv) gn T2 ∧ (∀ k, k < N → T2 k = T k) ∧ T2 c = insG nv gn (T t)) := by
  obtain ⟨rr, tr, τ, g1, g7⟩ := g
  have hs : gsz gn (nmC τ (tr t)) ≤ 200 ∧ gop gn (nmC τ (tr t)) ≤ 99 := by rw [g7 t htN]; exact hsz
  refine cv_mono (s_copied hI0 g1 htN hs hN haB hgn h2 hst0 hst9) fun o h1 q => ?_
  obtain ⟨r, rfl, c, M, x, z, se, rr', tr', τ', rfl, q1, q2, q3, q4⟩ := q
  have tk := fun k (hk : k < N) => q3.tk g1.1 hk
  obtain ⟨⟨d1, d2⟩, d3, d4, ⟨u1, u2, u3, u4, u5, u6⟩, d6, d7, d8⟩ := q3
  exact ⟨_, rfl, c, M, fun k => nmC τ' (tr' k), rfl, q1, by omega, d1, d2, ⟨rr', tr', τ', ⟨u1, u2, u3, u4, by omega, u6⟩, fun _ _ => rfl⟩, fun k hk => (tk k hk).trans (g7 k hk), q4.trans (by rw [g7 t htN])⟩
theorem dfs_fst {σ : Type} {so fr to : Nat → Int} {rr : Nat → Nat} {st : Int} {body : Nat → σ → σ} : ∀ (T : TE) (t : Nat) (seen : Nat → Int) (x : σ), (dfsP so fr to rr st body T t seen x).1 = (dfsP so fr to rr st (fun _ x => x) T t seen ()).1
  | .var v, t, seen, x => by
    rw [dfsP, dfsP]
    by_cases h : seen t = st
    · rw [if_pos h, if_pos h]
    · rw [if_neg h, if_neg h]
  | .op a b, t, seen, x => by
    rw [dfsP, dfsP]
    by_cases h : seen t = st
    · rw [if_pos h, if_pos h]
    · rw [if_neg h, if_neg h]
      show upI (dfsP so fr to rr st body b (rr (to t).toNat) (dfsP so fr to rr st body a (rr (fr t).toNat) seen x).1 (dfsP so fr to rr st body a (rr (fr t).toNat) seen x).2).1 t st = upI (dfsP so fr to rr st (fun _ x => x) b (rr (to t).toNat) (dfsP so fr to rr st (fun _ x => x) a (rr (fr t).toNat) seen ()).1 ()).1 t st
      rw [dfs_fst b, dfs_fst a]
def bdN (so : Nat → Int) (k : Nat) (x : Nat → Int) : Nat → Int := if so k = 3 then upI x k 1 else x
theorem dfs_new {so fr to : Nat → Int} {rr : Nat → Nat} {st : Int} : ∀ (T : TE) (t : Nat) (seen x : Nat → Int) (c : Nat), (dfsP so fr to rr st (bdN so) T t seen x).2 c = if so c = 3 ∧ (dfsP so fr to rr st (fun _ x => x) T t seen ()).1 c = st ∧ seen c ≠ st then 1 else x c
  | .var v, t, seen, x, c => by
    rw [dfsP, dfsP]
    by_cases h : seen t = st
    · rw [if_pos h, if_pos h]
      have n : ¬ (so c = 3 ∧ seen c = st ∧ seen c ≠ st) := fun z => z.2.2 z.2.1
      exact (if_neg n).symm
    · rw [if_neg h, if_neg h]
      show bdN so t x c = if so c = 3 ∧ upI seen t st c = st ∧ seen c ≠ st then 1 else x c
      by_cases e : c = t
      · subst e
        by_cases s : so c = 3
        · rw [bdN, if_pos s, upI_s, upI_s, if_pos ⟨s, rfl, h⟩]
        · rw [bdN, if_neg s, if_neg (fun z => s z.1)]
      · have n : ¬ (so c = 3 ∧ seen c = st ∧ seen c ≠ st) := fun z => z.2.2 z.2.1
        rw [upI_n e, if_neg n]
        by_cases s : so t = 3
        · rw [bdN, if_pos s, upI_n e]
        · rw [bdN, if_neg s]
  | .op a b, t, seen, x, c => by
    rw [dfsP, dfsP]
    by_cases h : seen t = st
    · rw [if_pos h, if_pos h]
      have n : ¬ (so c = 3 ∧ seen c = st ∧ seen c ≠ st) := fun z => z.2.2 z.2.1
      exact (if_neg n).symm
    · rw [if_neg h, if_neg h]
      have h1 := dfs_new (so := so) (fr := fr) (to := to) (rr := rr) (st := st) a (rr (fr t).toNat) seen x c
      have h2 := dfs_new (so := so) (fr := fr) (to := to) (rr := rr) (st := st) b (rr (to t).toNat) (dfsP so fr to rr st (bdN so) a (rr (fr t).toNat) seen x).1 (dfsP so fr to rr st (bdN so) a (rr (fr t).toNat) seen x).2 c
      show bdN so t (dfsP so fr to rr st (bdN so) b (rr (to t).toNat) (dfsP so fr to rr st (bdN so) a (rr (fr t).toNat) seen x).1 (dfsP so fr to rr st (bdN so) a (rr (fr t).toNat) seen x).2).2 c = if so c = 3 ∧ upI (dfsP so fr to rr st (fun _ x => x) b (rr (to t).toNat) (dfsP so fr to rr st (fun _ x => x) a (rr (fr t).toNat) seen ()).1 ()).1 t st c = st ∧ seen c ≠ st then 1 else x c
      rw [dfs_fst a] at h2 ⊢
      have m1 := dfs_up (so := so) (fr := fr) (to := to) (rr := rr) (st := st) (T := a) (t := rr (fr t).toNat) (seen := seen) (c := c)
      have o1 := dfs_or (so := so) (fr := fr) (to := to) (rr := rr) (st := st) a (rr (fr t).toNat) seen c
      generalize (dfsP so fr to rr st (fun _ x => x) a (rr (fr t).toNat) seen ()).1 = s1 at *
      have m2 := dfs_up (so := so) (fr := fr) (to := to) (rr := rr) (st := st) (T := b) (t := rr (to t).toNat) (seen := s1) (c := c)
      generalize (dfsP so fr to rr st (fun _ x => x) b (rr (to t).toNat) s1 ()).1 = s2 at *
      generalize (dfsP so fr to rr st (bdN so) b (rr (to t).toNat) s1 (dfsP so fr to rr st (bdN so) a (rr (fr t).toNat) seen x).2).2 = x2 at *
      generalize (dfsP so fr to rr st (bdN so) a (rr (fr t).toNat) seen x).2 = x1 at *
      have mid : x2 c = if so c = 3 ∧ s2 c = st ∧ seen c ≠ st then 1 else x c := by
        rw [h2, h1]
        by_cases s : so c = 3
        · by_cases c0 : seen c = st
          · rw [if_neg (fun z => z.2.2 (m1 c0)), if_neg (fun z => z.2.2 c0), if_neg (fun z => z.2.2 c0)]
          · by_cases c1 : s1 c = st
            · rw [if_neg (fun z => z.2.2 c1), if_pos ⟨s, c1, c0⟩, if_pos ⟨s, m2 c1, c0⟩]
            · by_cases c2 : s2 c = st
              · rw [if_pos ⟨s, c2, c1⟩, if_pos ⟨s, c2, c0⟩]
              · rw [if_neg (fun z => c2 z.2.1), if_neg (fun z => c1 z.2.1), if_neg (fun z => c2 z.2.1)]
        · rw [if_neg (fun z => s z.1), if_neg (fun z => s z.1), if_neg (fun z => s z.1)]
      by_cases e : c = t
      · subst e
        by_cases s : so c = 3
        · rw [bdN, if_pos s, upI_s, upI_s, if_pos ⟨s, rfl, h⟩]
        · rw [bdN, if_neg s, mid, if_neg (fun z => s z.1), if_neg (fun z => s z.1)]
      · rw [upI_n e, ← mid]
        by_cases s : so t = 3
        · rw [bdN, if_pos s, upI_n e]
        · rw [bdN, if_neg s]
