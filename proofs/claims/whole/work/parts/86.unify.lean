/-! how pairs of parts are made to fit: the steps of both programs, and that they come to an end -/
abbrev MS : Type := (Nat → Nat) × (Nat → TE) × (Nat → Int)
abbrev UE : Type := Nat × Nat × Bool
def jnM (m : MS) (v o : Nat) : MS := (lkR m.1 v o, m.2.1, upI m.2.2 v (o : Int))
def bdM (m : MS) (v o : Nat) : MS := (lkR m.1 v o, fun t => sb (v + 2) (m.2.1 o) (m.2.1 t), upI m.2.2 v (o : Int))
def uR (ck : List UE → MS → Bool) (K H : Nat) (dir : Bool) (so fr to : Nat → Int) : Nat → List UE → MS → Option (UR × MS)
  | 0, _, _ => none
  | _ + 1, [], m => some ((0, -1, -1), m)
  | f + 1, e :: st, m =>
    if ¬ ck (e :: st) m = true then none
    else if K < st.length then none
    else if m.1 e.1 = m.1 e.2.1 then uR ck K H dir so fr to f st m
    else if e.2.2 = true then uR ck K H dir so fr to f st (if dir = true then jnM m (m.1 e.1) (m.1 e.2.1) else jnM m (m.1 e.2.1) (m.1 e.1))
    else if so (m.1 e.1) = 3 ∨ so (m.1 e.2.1) = 3 then
      let v := if so (m.1 e.1) = 3 then m.1 e.1 else m.1 e.2.1
      let o := if so (m.1 e.1) = 3 then m.1 e.2.1 else m.1 e.1
      if H < ht (m.2.1 o) then none else if oc (v + 2) (m.2.1 o) = true then some ((5, -1, -1), m) else uR ck K H dir so fr to f st (bdM m v o)
    else if so (m.1 e.1) = 2 ∧ so (m.1 e.2.1) = 2 then uR ck K H dir so fr to f (((fr (m.1 e.1)).toNat, (fr (m.1 e.2.1)).toNat, false) :: ((to (m.1 e.1)).toNat, (to (m.1 e.2.1)).toNat, false) :: (m.1 e.1, m.1 e.2.1, true) :: st) m
    else if so (m.1 e.1) = so (m.1 e.2.1) then uR ck K H dir so fr to f st m
    else some ((4, so (m.1 e.1), so (m.1 e.2.1)), m)
/-- how many cells stand for themselves, but for those of a list -/
def cU (li : Nat → Int) (S : List Nat) : Nat → Nat
  | 0 => 0
  | n + 1 => cU li S n + (if li n < 0 ∧ n ∉ S then 1 else 0)
theorem cU_le {li li' : Nat → Int} {S S' : List Nat} : ∀ (N : Nat), (∀ c, c < N → li' c < 0 → c ∉ S' → li c < 0 ∧ c ∉ S) → cU li' S' N ≤ cU li S N
  | 0, _ => Nat.le_refl _
  | n + 1, h => by
    have h1 := cU_le n (fun c hc => h c (by omega))
    have h2 := h n (by omega)
    rw [cU, cU]
    by_cases e : li' n < 0 ∧ n ∉ S'
    · rw [if_pos e, if_pos (h2 e.1 e.2)]; omega
    · rw [if_neg e]; omega
theorem cU_lt {li li' : Nat → Int} {S S' : List Nat} {v : Nat} (hv : li v < 0 ∧ v ∉ S) (hn : ¬ (li' v < 0 ∧ v ∉ S')) : ∀ (N : Nat), v < N → (∀ c, c < N → li' c < 0 → c ∉ S' → li c < 0 ∧ c ∉ S) → cU li' S' N + 1 ≤ cU li S N
  | 0, h, _ => absurd h (Nat.not_lt_zero v)
  | n + 1, hl, h => by
    rw [cU, cU]
    by_cases e : v = n
    · subst e
      have h1 := cU_le v (fun c hc => h c (by omega))
      rw [if_neg hn, if_pos hv]; omega
    · have h1 := cU_lt hv hn n (by omega) (fun c hc => h c (by omega))
      have h2 := h n (by omega)
      by_cases e : li' n < 0 ∧ n ∉ S'
      · rw [if_pos e, if_pos (h2 e.1 e.2)]; omega
      · rw [if_neg e]; omega
theorem cU_N {li : Nat → Int} {S : List Nat} : ∀ N, cU li S N ≤ N
  | 0 => Nat.le_refl _
  | n + 1 => by
    have := cU_N (li := li) (S := S) n
    rw [cU]
    split <;> omega
def nN : List UE → Nat
  | [] => 0
  | e :: st => (if e.2.2 = true then 0 else 1) + nN st
def nJ : List UE → Nat
  | [] => 0
  | e :: st => (if e.2.2 = true then 1 else 0) + nJ st
theorem nNJ : ∀ st : List UE, nN st + nJ st = st.length
  | [] => rfl
  | e :: st => by
    have := nNJ st
    rw [nN, nJ, List.length_cons]
    split <;> omega
def lJ (dir : Bool) : List UE → List Nat
  | [] => []
  | e :: st => if e.2.2 = true then (if dir = true then e.1 else e.2.1) :: lJ dir st else lJ dir st
theorem lJ_mem {dir : Bool} {c : Nat} : ∀ {st : List UE}, c ∈ lJ dir st → ∃ q ∈ st, q.2.2 = true ∧ c = if dir = true then q.1 else q.2.1
  | e :: st, h => by
    rw [lJ] at h
    by_cases g : e.2.2 = true
    · rw [if_pos g] at h
      rcases List.mem_cons.mp h with h | h
      · exact ⟨e, List.mem_cons_self, g, h⟩
      · obtain ⟨q, h1, h2⟩ := lJ_mem h
        exact ⟨q, List.mem_cons_of_mem _ h1, h2⟩
    · rw [if_neg g] at h
      obtain ⟨q, h1, h2⟩ := lJ_mem h
      exact ⟨q, List.mem_cons_of_mem _ h1, h2⟩
def np (tr : Nat → TE) : List UE → List (TE × TE)
  | [] => []
  | e :: st => if e.2.2 = true then np tr st else (tr e.1, tr e.2.1) :: np tr st
theorem np_sb {tr : Nat → TE} {x : Nat} {o : TE} : ∀ st : List UE, np (fun t => sb x o (tr t)) st = (np tr st).map (fun p => (sb x o p.1, sb x o p.2))
  | [] => rfl
  | e :: st => by
    rw [np, np]
    by_cases g : e.2.2 = true
    · rw [if_pos g, if_pos g]; exact np_sb st
    · rw [if_neg g, if_neg g, np_sb st]; rfl
def jOK (so : Nat → Int) (m : MS) (q : UE) : Prop := m.1 q.1 = q.1 ∧ m.1 q.2.1 = q.2.1 ∧ so q.1 = 2 ∧ so q.2.1 = 2 ∧ q.1 ≠ q.2.1
def SI (so : Nat → Int) (N : Nat) (m : MS) : List UE → Prop
  | [] => True
  | e :: st => ((e.1 < N ∧ e.2.1 < N) ∧ (∀ q ∈ st, q.2.2 = true → psub (m.2.1 e.1) (m.2.1 q.1) ∧ psub (m.2.1 e.2.1) (m.2.1 q.2.1)) ∧ (e.2.2 = true → jOK so m e)) ∧ SI so N m st
theorem SI.join {so : Nat → Int} {N : Nat} {m : MS} : ∀ {st : List UE}, SI so N m st → ∀ q ∈ st, q.2.2 = true → jOK so m q
  | e :: st, h, q, hq, hj => by
    rcases List.mem_cons.mp hq with rfl | hq
    · exact h.1.2.2 hj
    · exact SI.join h.2 q hq hj
/-- another picture of the graph in which joins stay what they are -/
theorem SI.mv {so : Nat → Int} {N : Nat} {m m' : MS} (hp : ∀ a b, psub (m.2.1 a) (m.2.1 b) → psub (m'.2.1 a) (m'.2.1 b)) : ∀ {st : List UE}, SI so N m st → (∀ q ∈ st, q.2.2 = true → jOK so m q → jOK so m' q) → SI so N m' st
  | [], _, _ => trivial
  | e :: st, h, hj => ⟨⟨h.1.1, fun q hq hb => ⟨hp _ _ (h.1.2.1 q hq hb).1, hp _ _ (h.1.2.1 q hq hb).2⟩, fun hb => hj e List.mem_cons_self hb (h.1.2.2 hb)⟩, SI.mv hp h.2 (fun q hq => hj q (List.mem_cons_of_mem _ hq))⟩
def eqs (f : Nat → TE) (ab : List (TE × TE)) : Prop := ∀ p ∈ ab, sbs f p.1 = sbs f p.2
/-- what makes the pairs above a join fit makes its two sides equal -/
def UP (tr : Nat → TE) : List (TE × TE) → List UE → Prop
  | _, [] => True
  | ab, e :: st => if e.2.2 = true then (∀ f, eqs f ab → sbs f (tr e.1) = sbs f (tr e.2.1)) ∧ UP tr ab st else UP tr ((tr e.1, tr e.2.1) :: ab) st
theorem UP.mono {tr : Nat → TE} : ∀ {st : List UE} {ab ab' : List (TE × TE)}, UP tr ab st → (∀ f, eqs f ab' → eqs f ab) → UP tr ab' st
  | [], _, _, _, _ => trivial
  | e :: st, ab, ab', h, g => by
    rw [UP] at h ⊢
    by_cases b : e.2.2 = true
    · rw [if_pos b] at h ⊢
      exact ⟨fun f hf => h.1 f (g f hf), UP.mono h.2 g⟩
    · rw [if_neg b] at h ⊢
      refine UP.mono h (fun f hf p hp => ?_)
      rcases List.mem_cons.mp hp with rfl | hp
      · exact hf _ List.mem_cons_self
      · exact g f (fun p hp => hf p (List.mem_cons_of_mem _ hp)) p hp
theorem UP_sb {tr : Nat → TE} {x : Nat} {o : TE} : ∀ {st : List UE} {ab : List (TE × TE)}, UP tr ab st → UP (fun t => sb x o (tr t)) (ab.map (fun p => (sb x o p.1, sb x o p.2))) st
  | [], _, _ => trivial
  | e :: st, ab, h => by
    rw [UP] at h ⊢
    by_cases b : e.2.2 = true
    · rw [if_pos b] at h ⊢
      refine ⟨fun f hf => ?_, UP_sb h.2⟩
      have := h.1 (fun y => sbs f (f1 x o y)) (fun p hp => by
        have := hf _ (List.mem_map_of_mem hp)
        simp only [sb] at this
        rw [sbs_comp, sbs_comp] at this
        exact this)
      simp only [sb]
      rw [sbs_comp, sbs_comp]
      exact this
    · rw [if_neg b] at h ⊢
      exact UP_sb h
/-- the stack stays flat: joins hold it together -/
def SLn : List UE → Prop
  | [] => True
  | e :: st => SLn st ∧ (e.2.2 = true → nN st ≤ nJ st)
theorem nJ_ht {so : Nat → Int} {N : Nat} {m : MS} : ∀ {st : List UE} (s : TE), SI so N m st → (∀ q ∈ st, q.2.2 = true → psub s (m.2.1 q.1)) → nJ st = 0 ∨ ∃ q ∈ st, q.2.2 = true ∧ ht s + nJ st ≤ ht (m.2.1 q.1)
  | [], _, _, _ => Or.inl rfl
  | e :: st, s, h, hs => by
    rw [nJ]
    by_cases b : e.2.2 = true
    · rw [if_pos b]
      refine Or.inr ?_
      have h1 := psub_ht (hs e List.mem_cons_self b)
      rcases nJ_ht (m.2.1 e.1) h.2 (fun q hq hb => (h.1.2.1 q hq hb).1) with h2 | ⟨q, h2, h3, h4⟩
      · exact ⟨e, List.mem_cons_self, b, by omega⟩
      · exact ⟨q, List.mem_cons_of_mem _ h2, h3, by omega⟩
    · rw [if_neg b]
      rcases nJ_ht s h.2 (fun q hq hb => hs q (List.mem_cons_of_mem _ hq) hb) with h2 | ⟨q, h2, h3, h4⟩
      · exact Or.inl (by omega)
      · exact Or.inr ⟨q, List.mem_cons_of_mem _ h2, h3, by omega⟩
/-- pigeons: a list without doubles in another one is no longer -/
theorem nodup_le : ∀ (L A : List Nat), L.Nodup → (∀ x ∈ L, x ∈ A) → L.length ≤ A.length
  | [], _, _, _ => Nat.zero_le _
  | x :: L, A, h, hs => by
    obtain ⟨h1, h2⟩ := List.nodup_cons.mp h
    have hx := hs x List.mem_cons_self
    have := nodup_le L (A.erase x) h2 (fun y hy => (List.mem_erase_of_ne (fun e => h1 (by rw [← e]; exact hy))).mpr (hs y (List.mem_cons_of_mem _ hy)))
    rw [List.length_erase_of_mem hx] at this
    have hp := List.length_pos_of_mem hx
    rw [List.length_cons]
    omega
/-- cells that are closed under links and parts; their arrows are listed -/
def Cl (so fr to : Nat → Int) (N : Nat) (C : Nat → Prop) (Ar : List Nat) (rr : Nat → Nat) : Prop := ∀ t, t < N → C t → C (rr t) ∧ (rr t = t → so t = 2 → (C (fr t).toNat ∧ C (to t).toNat) ∧ t ∈ Ar)
theorem Cl.chain {so fr to li : Nat → Int} {N : Nat} {C : Nat → Prop} {Ar : List Nat} {rr : Nat → Nat} {tr : Nat → TE} (hT : GT so fr to rr N tr) (hg : GW so fr to li N rr) (hC : Cl so fr to N C Ar rr) : ∀ (T : TE) (t : Nat), t < N → C t → tr t = T → ∃ L : List Nat, L.Nodup ∧ (∀ x ∈ L, x ∈ Ar) ∧ L.length + 1 = ht T ∧ ∀ x ∈ L, psub (tr x) T ∨ tr x = T
  | .var v, t, _, _, _ => ⟨[], List.nodup_nil, (fun x hx => nomatch hx), rfl, (fun x hx => nomatch hx)⟩
  | .op a b, t, ht0, hc, e => by
    obtain ⟨a1, a2, a3⟩ := hT t ht0
    have e2 : so (rr t) = 2 := by
      by_cases k : so (rr t) = 2
      · exact k
      · rw [if_neg k] at a3
        obtain ⟨v, hv⟩ := lfc_var (k := so (rr t)) (r := rr t)
        rw [hv, e] at a3
        exact nomatch a3
    rw [if_pos e2, e] at a3
    have ea := (Lean.Data.AC.Expr.op.inj a3).1
    have eb := (Lean.Data.AC.Expr.op.inj a3).2
    obtain ⟨c1, c2⟩ := hC t ht0 hc
    obtain ⟨⟨d1, d2⟩, d3⟩ := (hC (rr t) a1 c1).2 a2 e2
    obtain ⟨f1, f2⟩ := hg.2.2 (rr t) a1 e2
    have er : tr (rr t) = .op a b := (hT.rr ht0).trans e
    have go : ∀ (s : TE) (L : List Nat), (s = a ∨ s = b) → L.Nodup → (∀ x ∈ L, x ∈ Ar) → L.length + 1 = ht s → (∀ x ∈ L, psub (tr x) s ∨ tr x = s) → ht s + 1 = ht (.op a b) → ∃ L : List Nat, L.Nodup ∧ (∀ x ∈ L, x ∈ Ar) ∧ L.length + 1 = ht (.op a b) ∧ ∀ x ∈ L, psub (tr x) (.op a b) ∨ tr x = .op a b := by
      intro s L hs l1 l2 l3 l4 l5
      have ps : psub s (.op a b) := by
        rcases hs with rfl | rfl
        · exact Or.inl (Or.inl rfl)
        · exact Or.inr (Or.inl rfl)
      refine ⟨rr t :: L, List.nodup_cons.mpr ⟨fun hm => ?_, l1⟩, fun x hx => ?_, by rw [List.length_cons]; omega, fun x hx => ?_⟩
      · have := psub_sz ps
        rcases l4 _ hm with h | h
        · have := psub_sz h
          rw [er] at this
          omega
        · rw [er] at h
          rw [← h] at this
          omega
      · rcases List.mem_cons.mp hx with rfl | hx
        · exact d3
        · exact l2 x hx
      · rcases List.mem_cons.mp hx with rfl | hx
        · exact Or.inr er
        · rcases l4 x hx with h | h
          · exact Or.inl (psub_tr h ps)
          · exact Or.inl (by rw [h]; exact ps)
    obtain ⟨La, la1, la2, la3, la4⟩ := Cl.chain hT hg hC a _ (by omega) d1 ea.symm
    obtain ⟨Lb, lb1, lb2, lb3, lb4⟩ := Cl.chain hT hg hC b _ (by omega) d2 eb.symm
    by_cases k : ht a ≤ ht b
    · exact go b Lb (Or.inr rfl) lb1 lb2 lb3 lb4 (by simp only [ht]; omega)
    · exact go a La (Or.inl rfl) la1 la2 la3 la4 (by simp only [ht]; omega)
theorem Cl_ht {so fr to li : Nat → Int} {N : Nat} {C : Nat → Prop} {Ar : List Nat} {rr : Nat → Nat} {tr : Nat → TE} (hT : GT so fr to rr N tr) (hg : GW so fr to li N rr) (hC : Cl so fr to N C Ar rr) {t : Nat} (h : t < N) (hc : C t) : ht (tr t) ≤ Ar.length + 1 := by
  obtain ⟨L, l1, l2, l3, -⟩ := Cl.chain hT hg hC _ t h hc rfl
  have := nodup_le L Ar l1 l2
  omega
theorem Cl.lk {so fr to : Nat → Int} {N : Nat} {C : Nat → Prop} {Ar : List Nat} {rr : Nat → Nat} {v o : Nat} (hC : Cl so fr to N C Ar rr) (ho : o < N) (hco : C o) (hne : rr o ≠ v) (ho2 : rr (rr o) = rr o) : Cl so fr to N C Ar (lkR rr v o) := by
  intro t ht0 hc
  obtain ⟨c1, c2⟩ := hC t ht0 hc
  unfold lkR
  by_cases e : rr t = v
  · rw [if_pos e]
    exact ⟨(hC o ho hco).1, fun h k => absurd (by rw [← h, ho2] at e; exact e) hne⟩
  · rw [if_neg e]
    exact ⟨c1, c2⟩
/-- all that stands between two steps -/
def UI (so fr to : Nat → Int) (N : Nat) (C : Nat → Prop) (Ar : List Nat) (m : MS) : Prop := GW so fr to m.2.2 N m.1 ∧ GT so fr to m.1 N m.2.1 ∧ Cl so fr to N C Ar m.1
theorem kd_lf {so fr to li : Nat → Int} {N : Nat} {rr : Nat → Nat} {tr : Nat → TE} (hT : GT so fr to rr N tr) (hs : ∀ t, t < N → 0 ≤ so t ∧ so t ≤ 3) {t : Nat} (h : t < N) (hr : rr t = t) : kdT (tr t) = so t ∧ (so t = 3 → tr t = .var (t + 2)) ∧ (so t = 2 → tr t = .op (tr (fr t).toNat) (tr (to t).toNat)) ∧ (so t < 2 → tr t = .var (so t).toNat) := by
  obtain ⟨a1, a2, a3⟩ := hT t h
  rw [hr] at a3
  have h4 := hs t h
  obtain h0 | h1 | h2 | h3 : so t = 0 ∨ so t = 1 ∨ so t = 2 ∨ so t = 3 := by omega
  · rw [a3, if_neg (by omega), lfc, if_pos h0, h0]
    exact ⟨rfl, (by omega), (by omega), fun _ => rfl⟩
  · rw [a3, if_neg (by omega), lfc, if_neg (by omega), if_pos h1, h1]
    exact ⟨rfl, (by omega), (by omega), fun _ => rfl⟩
  · rw [a3, if_pos h2]
    exact ⟨h2.symm, (by omega), fun _ => rfl, (by omega)⟩
  · have e : tr t = .var (t + 2) := by rw [a3, if_neg (by omega), lfc, if_neg (by omega), if_neg (by omega)]
    rw [e]
    refine ⟨?_, fun _ => rfl, (by omega), (by omega)⟩
    rw [h3, kdT, if_neg (by omega), if_neg (by omega)]
def uMe (dir : Bool) (N : Nat) (X : List Nat) (st : List UE) (m : MS) : Nat := 4 * cU m.2.2 (lJ dir st ++ X) N + 2 * nN st + nJ st
def URes (so fr to : Nat → Int) (N : Nat) (X : List Nat) (C : Nat → Prop) (Ar : List Nat) (st : List UE) (m : MS) (M s : Nat) (r : UR) (m' : MS) : Prop :=
  s ≤ M ∧ ∃ F σ, un F (np m.2.1 st) = some (r, σ) ∧ (r.1 = 0 → UI so fr to N C Ar m' ∧ (∀ t, m'.2.1 t = ap σ (m.2.1 t)) ∧ s + 4 * cU m'.2.2 X N ≤ M)
theorem uR_all {ck : List UE → MS → Bool} {X : List Nat} {so fr to : Nat → Int} {N K H : Nat} {dir : Bool} {C : Nat → Prop} {Ar : List Nat} (hs : ∀ t, t < N → 0 ≤ so t ∧ so t ≤ 3) (hH : Ar.length + 1 ≤ H) (hK : 2 * H + 1 ≤ K) (hX : ∀ c, C c → c ∉ X) (hck : ∀ st m, UI so fr to N C Ar m → SI so N m st → ck st m = true) : ∀ (M : Nat) (st : List UE) (m : MS), uMe dir N X st m ≤ M → UI so fr to N C Ar m → SI so N m st → UP m.2.1 [] st → SLn st → nN st ≤ nJ st + 1 → (∀ e ∈ st, C e.1 ∧ C e.2.1) →
    ∃ s r m', uR ck K H dir so fr to (s + 1) st m = some (r, m') ∧ URes so fr to N X C Ar st m (uMe dir N X st m) s r m' := by
  intro M
  induction M with
  | zero =>
    intro st m hM hU hS hP hL hn hc
    cases st with
    | nil => exact ⟨0, (0, -1, -1), m, rfl, Nat.zero_le _, 1, [], rfl, fun _ => ⟨hU, fun _ => rfl, by show 0 + 4 * cU m.2.2 X N ≤ 4 * cU m.2.2 X N + 2 * 0 + 0; omega⟩⟩
    | cons e st =>
      exfalso
      unfold uMe at hM
      rw [nN, nJ] at hM
      by_cases b : e.2.2 = true
      · simp only [if_pos b] at hM; omega
      · simp only [if_neg b] at hM; omega
  | succ M ih =>
    intro st m hM hU hS hP hL hn hc
    cases st with
    | nil => exact ⟨0, (0, -1, -1), m, rfl, Nat.zero_le _, 1, [], rfl, fun _ => ⟨hU, fun _ => rfl, by show 0 + 4 * cU m.2.2 X N ≤ 4 * cU m.2.2 X N + 2 * 0 + 0; omega⟩⟩
    | cons e st =>
      have hck0 : ¬ ¬ ck (e :: st) m = true := fun z => z (hck (e :: st) m hU hS)
      obtain ⟨hg, hT, hC⟩ := hU
      obtain ⟨⟨⟨n1, n2⟩, s2, s3⟩, s4⟩ := hS
      obtain ⟨k1, k2⟩ := hc e List.mem_cons_self
      have hc' : ∀ q ∈ st, C q.1 ∧ C q.2.1 := fun q hq => hc q (List.mem_cons_of_mem _ hq)
      obtain ⟨l1, l2⟩ := hL
      -- the stack isn't high
      have hlen : ¬ K < st.length := by
        have h1 := nNJ st
        have h2 : nJ st ≤ H := by
          rcases nJ_ht (m.2.1 e.1) s4 (fun q hq hb => (s2 q hq hb).1) with h | ⟨q, q1, q2, q3⟩
          · omega
          · have hq := SI.join s4 q q1 q2
            have hqn : ∀ {st : List UE}, SI so N m st → ∀ q ∈ st, q.1 < N := by
              intro st
              induction st with
              | nil => intro _ q hq; exact nomatch hq
              | cons x st ih2 =>
                intro h q hq
                rcases List.mem_cons.mp hq with rfl | hq
                · exact h.1.1.1
                · exact ih2 h.2 q hq
            have := Cl_ht hT hg hC (hqn s4 q q1) (hc' q q1).1
            omega
        rw [nN, nJ] at hn
        by_cases b : e.2.2 = true
        · have := l2 b; omega
        · simp only [if_neg b] at hn; omega
      obtain ⟨r1, r2, -⟩ := hT e.1 n1
      obtain ⟨r3, r4, -⟩ := hT e.2.1 n2
      have tl : m.2.1 (m.1 e.1) = m.2.1 e.1 := hT.rr n1
      have trr : m.2.1 (m.1 e.2.1) = m.2.1 e.2.1 := hT.rr n2
      have step : ∀ (st1 : List UE) (m1 : MS) (σf : List (Nat × TE) → List (Nat × TE)), uMe dir N X st1 m1 + 1 ≤ uMe dir N X (e :: st) m → UI so fr to N C Ar m1 → SI so N m1 st1 → UP m1.2.1 [] st1 → SLn st1 → nN st1 ≤ nJ st1 + 1 → (∀ e ∈ st1, C e.1 ∧ C e.2.1) →
          (∀ f, uR ck K H dir so fr to (f + 1) (e :: st) m = uR ck K H dir so fr to f st1 m1) → (∀ F r σ, un F (np m1.2.1 st1) = some (r, σ) → ∃ F', un F' (np m.2.1 (e :: st)) = some (r, σf σ)) → (∀ σ t, ap σ (m1.2.1 t) = ap (σf σ) (m.2.1 t)) →
          ∃ s r m', uR ck K H dir so fr to (s + 1) (e :: st) m = some (r, m') ∧ URes so fr to N X C Ar (e :: st) m (uMe dir N X (e :: st) m) s r m' := by
        intro st1 m1 σf g1 g2 g3 g4 g5 g6 g7 g8 g9 g10
        obtain ⟨s, r, m', q1, q2, F, σ, q3, q4⟩ := ih st1 m1 (by omega) g2 g3 g4 g5 g6 g7
        obtain ⟨F', hF⟩ := g9 F r σ q3
        exact ⟨s + 1, r, m', by rw [g8]; exact q1, by omega, F', σf σ, hF, fun h0 => ⟨(q4 h0).1, fun t => ((q4 h0).2.1 t).trans (g10 σ t), by have := (q4 h0).2.2; omega⟩⟩
      have stop : ∀ r : UR, r.1 ≠ 0 → (∀ f, uR ck K H dir so fr to (f + 1) (e :: st) m = some (r, m)) → (∃ F σ, un F (np m.2.1 (e :: st)) = some (r, σ)) → ∃ s r m', uR ck K H dir so fr to (s + 1) (e :: st) m = some (r, m') ∧ URes so fr to N X C Ar (e :: st) m (uMe dir N X (e :: st) m) s r m' := by
        intro r g1 g2 ⟨F, σ, g3⟩
        exact ⟨0, r, m, g2 0, Nat.zero_le _, F, σ, g3, fun h0 => absurd h0 g1⟩
      by_cases c1 : m.1 e.1 = m.1 e.2.1
      · -- the same
        have b : ¬ e.2.2 = true := fun b => by
          obtain ⟨j1, j2, j3, j4, j5⟩ := s3 b
          exact j5 (by rw [← j1, ← j2]; exact c1)
        have et : m.2.1 e.1 = m.2.1 e.2.1 := by rw [← tl, ← trr, c1]
        refine step st m id ?_ ⟨hg, hT, hC⟩ s4 ?_ l1 ?_ hc' (fun f => ?_) (fun F r σ h => ⟨F + 1, ?_⟩) (fun σ t => rfl)
        · unfold uMe
          rw [nN, nJ, lJ, if_neg b, if_neg b, if_neg b]
          omega
        · rw [UP, if_neg b] at hP
          exact hP.mono (fun f _ p hp => by rw [List.mem_singleton.mp hp]; exact congrArg _ et)
        · rw [nN, nJ, if_neg b, if_neg b] at hn; omega
        · rw [uR, if_neg hck0, if_neg hlen, if_pos c1]
        · rw [np, if_neg b, un, if_pos ((teq_iff _ _).mpr et)]
          exact h
      by_cases c2 : e.2.2 = true
      · -- a join
        obtain ⟨j1, j2, j3, j4, j5⟩ := s3 c2
        rw [UP, if_pos c2] at hP
        have et : m.2.1 e.1 = m.2.1 e.2.1 := by
          have := hP.1 (fun y => .var y) (fun p hp => nomatch hp)
          rw [sbs_id, sbs_id] at this
          exact this
        have jo : ∀ (v o : Nat), v < N → o < N → C o → m.1 v = v → m.1 o = o → v ≠ o → m.2.1 v = m.2.1 o → (∀ q ∈ st, q.2.2 = true → v ≠ q.1 ∧ v ≠ q.2.1) → UI so fr to N C Ar (jnM m v o) ∧ SI so N (jnM m v o) st := by
          intro v o hv ho hco hvr hor hne hev hq
          have hne' : m.1 o ≠ v := by rw [hor]; exact fun z => hne z.symm
          refine ⟨⟨hg.lk hv hvr ho hne', hT.join hv hvr ho hne' hev, hC.lk ho hco hne' (by rw [hor, hor])⟩, SI.mv (m := m) (m' := jnM m v o) (fun a b h => h) s4 (fun q h1 h2 h3 => ?_)⟩
          obtain ⟨q1, q2⟩ := hq q h1 h2
          obtain ⟨i1, i2, i3, i4, i5⟩ := h3
          refine ⟨?_, ?_, i3, i4, i5⟩
          · show (if m.1 q.1 = v then m.1 o else m.1 q.1) = q.1
            rw [i1, if_neg (fun z => q1 z.symm)]
          · show (if m.1 q.2.1 = v then m.1 o else m.1 q.2.1) = q.2.1
            rw [i2, if_neg (fun z => q2 z.symm)]
        have sep : ∀ q ∈ st, q.2.2 = true → (e.1 ≠ q.1 ∧ e.1 ≠ q.2.1) ∧ e.2.1 ≠ q.1 ∧ e.2.1 ≠ q.2.1 := fun q hq hb => by
          obtain ⟨p1, p2⟩ := s2 q hq hb
          refine ⟨⟨fun z => psub_ne p1 (by rw [z]), fun z => psub_ne p2 (by rw [← et, z])⟩, fun z => psub_ne p1 (by rw [et, z]), fun z => psub_ne p2 (by rw [z])⟩
        have m1d : m.1 e.1 = e.1 := j1
        obtain ⟨v, o, ev, hvo⟩ : ∃ v o, (if dir = true then jnM m (m.1 e.1) (m.1 e.2.1) else jnM m (m.1 e.2.1) (m.1 e.1)) = jnM m v o ∧ ((dir = true ∧ v = e.1 ∧ o = e.2.1) ∨ (¬ dir = true ∧ v = e.2.1 ∧ o = e.1)) := by
          rw [j1, j2]
          by_cases d : dir = true
          · exact ⟨e.1, e.2.1, if_pos d, Or.inl ⟨d, rfl, rfl⟩⟩
          · exact ⟨e.2.1, e.1, if_neg d, Or.inr ⟨d, rfl, rfl⟩⟩
        have ui : UI so fr to N C Ar (jnM m v o) ∧ SI so N (jnM m v o) st := by
          rcases hvo with ⟨d, rfl, rfl⟩ | ⟨d, rfl, rfl⟩
          · exact jo _ _ n1 n2 k2 j1 j2 j5 et (fun q hq hb => (sep q hq hb).1)
          · exact jo _ _ n2 n1 k1 j2 j1 (fun z => j5 z.symm) et.symm (fun q hq hb => (sep q hq hb).2)
        refine step st (jnM m v o) id ?_ ui.1 ui.2 hP.2 l1 (by have := l2 c2; omega) hc' (fun f => ?_) (fun F r σ h => ⟨F, ?_⟩) (fun σ t => rfl)
        · unfold uMe
          rw [nN, nJ, lJ, if_pos c2, if_pos c2, if_pos c2]
          have : cU (jnM m v o).2.2 (lJ dir st ++ X) N ≤ cU m.2.2 (((if dir = true then e.1 else e.2.1) :: lJ dir st) ++ X) N := by
            refine cU_le N (fun x hx h1 h2 => ?_)
            have hxv : x ≠ v := fun z => by
              have : (jnM m v o).2.2 x = (o : Int) := by rw [z]; exact upI_s
              omega
            have h1' : m.2.2 x < 0 := by
              have e4 : (jnM m v o).2.2 x = m.2.2 x := upI_n hxv
              rw [e4] at h1
              exact h1
            refine ⟨h1', fun hm => ?_⟩
            rcases List.mem_cons.mp (show x ∈ (if dir = true then e.1 else e.2.1) :: (lJ dir st ++ X) from hm) with hm | hm
            · refine hxv (hm.trans ?_)
              rcases hvo with ⟨d, rfl, rfl⟩ | ⟨d, rfl, rfl⟩
              · rw [if_pos d]
              · rw [if_neg d]
            · exact h2 hm
          omega
        · rw [uR, if_neg hck0, if_neg hlen, if_neg c1, if_pos c2, ev]
        · rw [np, if_pos c2]
          exact h
      have b : ¬ e.2.2 = true := c2
      rw [UP, if_neg b] at hP
      rw [nN, nJ, if_neg b, if_neg b] at hn
      have lfl := kd_lf (li := m.2.2) hT hs r1 r2
      have lfr := kd_lf (li := m.2.2) hT hs r3 r4
      rw [tl] at lfl
      rw [trr] at lfr
      have eN : np m.2.1 (e :: st) = (m.2.1 e.1, m.2.1 e.2.1) :: np m.2.1 st := by rw [np, if_neg b]
      by_cases c3 : so (m.1 e.1) = 3 ∨ so (m.1 e.2.1) = 3
      · -- a variable
        obtain ⟨v, ov⟩ : ∃ v, v = (if so (m.1 e.1) = 3 then m.1 e.1 else m.1 e.2.1) := ⟨_, rfl⟩
        obtain ⟨o, oo⟩ : ∃ o, o = (if so (m.1 e.1) = 3 then m.1 e.2.1 else m.1 e.1) := ⟨_, rfl⟩
        have hvo : (v < N ∧ o < N) ∧ (m.1 v = v ∧ m.1 o = o) ∧ so v = 3 ∧ v ≠ o ∧ (C o ∧ C v) ∧ m.2.1 v = .var (v + 2) ∧ (if so (m.1 e.1) = 3 then m.2.1 e.1 else m.2.1 e.2.1) = .var (v + 2) ∧ m.2.1 o = (if so (m.1 e.1) = 3 then m.2.1 e.2.1 else m.2.1 e.1) := by
          by_cases g : so (m.1 e.1) = 3
          · rw [if_pos g] at ov oo
            subst ov oo
            rw [if_pos g, if_pos g]
            exact ⟨⟨r1, r3⟩, ⟨r2, r4⟩, g, c1, ⟨(hC _ n2 k2).1, (hC _ n1 k1).1⟩, tl.trans (lfl.2.1 g), lfl.2.1 g, trr⟩
          · rw [if_neg g] at ov oo
            have g2 := c3.resolve_left g
            subst ov oo
            rw [if_neg g, if_neg g]
            exact ⟨⟨r3, r1⟩, ⟨r4, r2⟩, g2, fun z => c1 z.symm, ⟨(hC _ n1 k1).1, (hC _ n2 k2).1⟩, trr.trans (lfr.2.1 g2), lfr.2.1 g2, tl⟩
        obtain ⟨⟨hv, ho⟩, ⟨hvr, hor⟩, hs3, hne, ⟨hco, hcv⟩, tv, tx, to'⟩ := hvo
        have hht : ¬ H < ht (m.2.1 o) := by
          have := Cl_ht hT hg hC ho hco
          omega
        have tne : ¬ teq (m.2.1 e.1) (m.2.1 e.2.1) = true := fun z => by
          have z := (teq_iff _ _).mp z
          have e1 : m.2.1 v = m.2.1 o := by
            rw [tv, to', ← tx]
            by_cases g : so (m.1 e.1) = 3
            · rw [if_pos g, if_pos g, z]
            · rw [if_neg g, if_neg g, z]
          rw [tv] at e1
          have h5 := kd_lf (li := m.2.2) hT hs ho hor
          rw [← e1] at h5
          have k3 : so o = 3 := by
            rw [← h5.1, kdT, if_neg (by omega), if_neg (by omega)]
          have := h5.2.1 k3
          have := Lean.Data.AC.Expr.var.inj this
          omega
        have c3' : kdT (m.2.1 e.1) = 3 ∨ kdT (m.2.1 e.2.1) = 3 := by rw [lfl.1, lfr.1]; exact c3
        have ux : vxT (if kdT (m.2.1 e.1) = 3 then m.2.1 e.1 else m.2.1 e.2.1) = v + 2 := by rw [lfl.1, tx]; rfl
        have uo : (if kdT (m.2.1 e.1) = 3 then m.2.1 e.2.1 else m.2.1 e.1) = m.2.1 o := by rw [lfl.1, to']
        by_cases c4 : oc (v + 2) (m.2.1 o) = true
        · refine stop (5, -1, -1) (by show (5 : Int) ≠ 0; decide) (fun f => ?_) ⟨1, [], ?_⟩
          · rw [uR, if_neg hck0, if_neg hlen, if_neg c1, if_neg b, if_pos c3]
            simp only
            rw [← ov, ← oo, if_neg hht, if_pos c4]
          · rw [eN, un]
            simp only
            rw [if_neg tne, if_pos c3', ux, uo, if_pos c4]
        · have c4' : oc (v + 2) (m.2.1 o) = false := by simpa using c4
          obtain ⟨hne', hT'⟩ := hT.bind hg hv hvr hs3 ho c4'
          have lv : m.2.2 v < 0 := by
            obtain ⟨k, -, h, -⟩ := hg.2.1 v hv
            rw [hvr] at h
            exact h
          have nvj : ∀ q ∈ st, q.2.2 = true → jOK so m q → q.1 ≠ v ∧ q.2.1 ≠ v := fun q _ _ hj => ⟨fun z => by have := hj.2.2.1; rw [z, hs3] at this; exact absurd this (by decide), fun z => by have := hj.2.2.2.1; rw [z, hs3] at this; exact absurd this (by decide)⟩
          refine step st (bdM m v o) (fun σ => (v + 2, m.2.1 o) :: σ) ?_ ⟨hg.lk hv hvr ho hne', hT', hC.lk ho hco hne' (by rw [hor, hor])⟩ (SI.mv (fun a b h => psub_sb h) s4 (fun q h1 h2 h3 => ?_)) ?_ l1 (by omega) hc' (fun f => ?_) (fun F r σ h => ⟨F + 1, ?_⟩) (fun σ t => rfl)
          · unfold uMe
            rw [nN, nJ, lJ, if_neg b, if_neg b, if_neg b]
            have hnm : v ∉ lJ dir st ++ X := fun hm => by
              have hm := (List.mem_append.mp hm).resolve_right (hX v hcv)
              obtain ⟨q, q1, q2, q3⟩ := lJ_mem hm
              have q4 := nvj q q1 q2 (SI.join s4 q q1 q2)
              by_cases d : dir = true
              · rw [if_pos d] at q3; exact q4.1 q3.symm
              · rw [if_neg d] at q3; exact q4.2 q3.symm
            have : cU (bdM m v o).2.2 (lJ dir st ++ X) N + 1 ≤ cU m.2.2 (lJ dir st ++ X) N := by
              refine cU_lt (v := v) ⟨lv, hnm⟩ (fun z => ?_) N hv (fun x hx h1 h2 => ⟨?_, h2⟩)
              · have : (bdM m v o).2.2 v = (o : Int) := upI_s
                omega
              · by_cases g : x = v
                · rw [g]; exact lv
                · have e4 : (bdM m v o).2.2 x = m.2.2 x := upI_n g
                  rw [e4] at h1
                  exact h1
            omega
          · obtain ⟨q1, q2⟩ := nvj q h1 h2 h3
            obtain ⟨i1, i2, i3, i4, i5⟩ := h3
            refine ⟨?_, ?_, i3, i4, i5⟩
            · show (if m.1 q.1 = v then m.1 o else m.1 q.1) = q.1
              rw [i1, if_neg q1]
            · show (if m.1 q.2.1 = v then m.1 o else m.1 q.2.1) = q.2.1
              rw [i2, if_neg q2]
          · have h6 := UP_sb (x := v + 2) (o := m.2.1 o) hP
            refine h6.mono (fun f _ p hp => ?_)
            rw [List.map_cons, List.map_nil] at hp
            rw [List.mem_singleton.mp hp]
            refine congrArg (sbs f) ?_
            show sb (v + 2) (m.2.1 o) (m.2.1 e.1) = sb (v + 2) (m.2.1 o) (m.2.1 e.2.1)
            have e7 : sb (v + 2) (m.2.1 o) (.var (v + 2)) = sb (v + 2) (m.2.1 o) (m.2.1 o) := by rw [sb_var (by omega), sb_no c4']
            by_cases g : so (m.1 e.1) = 3
            · rw [if_pos g] at tx to'
              rw [tx, ← to']
              exact e7
            · rw [if_neg g] at tx to'
              rw [tx, ← to']
              exact e7.symm
          · rw [uR, if_neg hck0, if_neg hlen, if_neg c1, if_neg b, if_pos c3]
            simp only
            rw [← ov, ← oo, if_neg hht, if_neg c4]
          · rw [eN, un]
            simp only
            rw [if_neg tne, if_pos c3', ux, uo, if_neg c4]
            have e8 : np (bdM m v o).2.1 st = (np m.2.1 st).map (fun p => (sb (v + 2) (m.2.1 o) p.1, sb (v + 2) (m.2.1 o) p.2)) := np_sb st
            rw [e8] at h
            rw [h]
            rfl
      have nl3 : so (m.1 e.1) ≠ 3 := fun z => c3 (Or.inl z)
      have nr3 : so (m.1 e.2.1) ≠ 3 := fun z => c3 (Or.inr z)
      have c3' : ¬ (kdT (m.2.1 e.1) = 3 ∨ kdT (m.2.1 e.2.1) = 3) := by rw [lfl.1, lfr.1]; exact c3
      have hsl := hs _ r1
      have hsr := hs _ r3
      by_cases c5 : so (m.1 e.1) = 2 ∧ so (m.1 e.2.1) = 2
      · -- two arrows
        obtain ⟨x1, x2⟩ := c5
        obtain ⟨f1', f2'⟩ := hg.2.2 _ r1 x1
        obtain ⟨g1', g2'⟩ := hg.2.2 _ r3 x2
        have ol := lfl.2.2.1 x1
        have or' := lfr.2.2.1 x2
        obtain ⟨⟨ca1, ca2⟩, -⟩ := (hC _ r1 (hC _ n1 k1).1).2 r2 x1
        obtain ⟨⟨cb1, cb2⟩, -⟩ := (hC _ r3 (hC _ n2 k2).1).2 r4 x2
        have pl1 : psub (m.2.1 (fr (m.1 e.1)).toNat) (m.2.1 e.1) := by rw [ol]; exact Or.inl (Or.inl rfl)
        have pl2 : psub (m.2.1 (to (m.1 e.1)).toNat) (m.2.1 e.1) := by rw [ol]; exact Or.inr (Or.inl rfl)
        have pr1 : psub (m.2.1 (fr (m.1 e.2.1)).toNat) (m.2.1 e.2.1) := by rw [or']; exact Or.inl (Or.inl rfl)
        have pr2' : psub (m.2.1 (to (m.1 e.2.1)).toNat) (m.2.1 e.2.1) := by rw [or']; exact Or.inr (Or.inl rfl)
        have sj : SI so N m ((m.1 e.1, m.1 e.2.1, true) :: st) := ⟨⟨⟨r1, r3⟩, fun q hq hb => by
          show psub (m.2.1 (m.1 e.1)) _ ∧ psub (m.2.1 (m.1 e.2.1)) _
          rw [tl, trr]
          exact s2 q hq hb, fun _ => ⟨r2, r4, x1, x2, c1⟩⟩, s4⟩
        have sub : ∀ (x y : Nat), psub (m.2.1 x) (m.2.1 e.1) → psub (m.2.1 y) (m.2.1 e.2.1) → ∀ q ∈ (m.1 e.1, m.1 e.2.1, true) :: st, q.2.2 = true → psub (m.2.1 x) (m.2.1 q.1) ∧ psub (m.2.1 y) (m.2.1 q.2.1) := by
          intro x y hx hy q hq hb
          rcases List.mem_cons.mp hq with rfl | hq
          · show psub _ (m.2.1 (m.1 e.1)) ∧ psub _ (m.2.1 (m.1 e.2.1))
            rw [tl, trr]
            exact ⟨hx, hy⟩
          · exact ⟨psub_tr hx (s2 q hq hb).1, psub_tr hy (s2 q hq hb).2⟩
        refine step (((fr (m.1 e.1)).toNat, (fr (m.1 e.2.1)).toNat, false) :: ((to (m.1 e.1)).toNat, (to (m.1 e.2.1)).toNat, false) :: (m.1 e.1, m.1 e.2.1, true) :: st) m id ?_ ⟨hg, hT, hC⟩
          ⟨⟨⟨by show (fr (m.1 e.1)).toNat < N; omega, by show (fr (m.1 e.2.1)).toNat < N; omega⟩, fun q hq hb => ?_, fun z => Bool.noConfusion z⟩, ⟨⟨by show (to (m.1 e.1)).toNat < N; omega, by show (to (m.1 e.2.1)).toNat < N; omega⟩, fun q hq hb => ?_, fun z => Bool.noConfusion z⟩, sj⟩ ?_ ⟨⟨⟨l1, fun _ => ?_⟩, fun z => Bool.noConfusion z⟩, fun z => Bool.noConfusion z⟩ ?_ ?_ (fun f => ?_) (fun F r σ h => ?_) (fun σ t => rfl)
        · have q1 : nN (e :: st) = 1 + nN st := by rw [nN, if_neg b]
          have q2 : nJ (e :: st) = 0 + nJ st := by rw [nJ, if_neg b]
          have q3 : lJ dir (e :: st) = lJ dir st := by rw [lJ, if_neg b]
          unfold uMe
          rw [q1, q2, q3]
          simp only [nN, nJ, lJ, if_true, if_false, Bool.false_eq_true, reduceIte]
          obtain ⟨v, hv⟩ : ∃ v, v = (if dir = true then m.1 e.1 else m.1 e.2.1) := ⟨_, rfl⟩
          have hvN : v < N ∧ m.1 v = v ∧ v ∉ lJ dir st ++ X := by
            by_cases d : dir = true
            · rw [if_pos d] at hv
              refine ⟨by omega, by rw [hv]; exact r2, fun hm => ?_⟩
              have hm := (List.mem_append.mp hm).resolve_right (hX v (by rw [hv]; exact (hC _ n1 k1).1))
              obtain ⟨q, q1, q2, q3⟩ := lJ_mem hm
              rw [if_pos d] at q3
              exact psub_ne (s2 q q1 q2).1 (by rw [← q3, hv, tl])
            · rw [if_neg d] at hv
              refine ⟨by omega, by rw [hv]; exact r4, fun hm => ?_⟩
              have hm := (List.mem_append.mp hm).resolve_right (hX v (by rw [hv]; exact (hC _ n2 k2).1))
              obtain ⟨q, q1, q2, q3⟩ := lJ_mem hm
              rw [if_neg d] at q3
              exact psub_ne (s2 q q1 q2).2 (by rw [← q3, hv, trr])
          have lv : m.2.2 v < 0 := by
            obtain ⟨k, -, h, -⟩ := hg.2.1 v hvN.1
            rw [hvN.2.1] at h
            exact h
          have : cU m.2.2 (v :: (lJ dir st ++ X)) N + 1 ≤ cU m.2.2 (lJ dir st ++ X) N := cU_lt (v := v) ⟨lv, hvN.2.2⟩ (fun z => z.2 List.mem_cons_self) N hvN.1 (fun x hx h1 h2 => ⟨h1, fun hm => h2 (List.mem_cons_of_mem _ hm)⟩)
          rw [hv] at this
          simp only [List.cons_append] at this ⊢
          omega
        · exact (by
            rcases List.mem_cons.mp hq with rfl | hq
            · exact Bool.noConfusion hb
            · exact sub _ _ pl1 pr1 q hq hb)
        · exact sub _ _ pl2 pr2' q hq hb
        · have u1 : UP m.2.1 [(m.2.1 (to (m.1 e.1)).toNat, m.2.1 (to (m.1 e.2.1)).toNat), (m.2.1 (fr (m.1 e.1)).toNat, m.2.1 (fr (m.1 e.2.1)).toNat)] ((m.1 e.1, m.1 e.2.1, true) :: st) := by
            have key : ∀ f, eqs f [(m.2.1 (to (m.1 e.1)).toNat, m.2.1 (to (m.1 e.2.1)).toNat), (m.2.1 (fr (m.1 e.1)).toNat, m.2.1 (fr (m.1 e.2.1)).toNat)] → sbs f (m.2.1 e.1) = sbs f (m.2.1 e.2.1) := fun f hf => by
              rw [ol, or', sbs, sbs, hf _ List.mem_cons_self, hf _ (List.mem_cons_of_mem _ List.mem_cons_self)]
            rw [UP, if_pos rfl]
            refine ⟨fun f hf => ?_, hP.mono (fun f hf p hp => ?_)⟩
            · show sbs f (m.2.1 (m.1 e.1)) = sbs f (m.2.1 (m.1 e.2.1))
              rw [tl, trr]
              exact key f hf
            · rw [List.mem_singleton.mp hp]
              exact key f hf
          exact u1
        · omega
        · simp only [nN, nJ, if_true, if_false, Bool.false_eq_true, reduceIte]
          omega
        · intro q hq
          rcases List.mem_cons.mp hq with rfl | hq
          · exact ⟨ca1, cb1⟩
          rcases List.mem_cons.mp hq with rfl | hq
          · exact ⟨ca2, cb2⟩
          rcases List.mem_cons.mp hq with rfl | hq
          · exact ⟨(hC _ n1 k1).1, (hC _ n2 k2).1⟩
          · exact hc' q hq
        · rw [uR, if_neg hck0, if_neg hlen, if_neg c1, if_neg b, if_neg c3, if_pos ⟨x1, x2⟩]
        · have h' : un F ((m.2.1 (fr (m.1 e.1)).toNat, m.2.1 (fr (m.1 e.2.1)).toNat) :: (m.2.1 (to (m.1 e.1)).toNat, m.2.1 (to (m.1 e.2.1)).toNat) :: np m.2.1 st) = some (r, σ) := h
          by_cases et : teq (m.2.1 e.1) (m.2.1 e.2.1) = true
          · have e9 := (teq_iff _ _).mp et
            rw [ol, or'] at e9
            obtain ⟨i1, i2⟩ := Lean.Data.AC.Expr.op.inj e9
            cases F with
            | zero => exact nomatch h'
            | succ F =>
              rw [un, if_pos ((teq_iff _ _).mpr i1)] at h'
              cases F with
              | zero => exact nomatch h'
              | succ F =>
                rw [un, if_pos ((teq_iff _ _).mpr i2)] at h'
                exact ⟨F + 1, by rw [eN, un, if_pos et]; exact h'⟩
          · refine ⟨F + 1, ?_⟩
            rw [eN, un]
            simp only
            rw [if_neg et, if_neg c3', if_pos ⟨by rw [lfl.1]; exact x1, by rw [lfr.1]; exact x2⟩, ol, or']
            exact h'
      have c5' : ¬ (kdT (m.2.1 e.1) = 2 ∧ kdT (m.2.1 e.2.1) = 2) := by rw [lfl.1, lfr.1]; exact c5
      by_cases c6 : so (m.1 e.1) = so (m.1 e.2.1)
      · have et : m.2.1 e.1 = m.2.1 e.2.1 := by rw [lfl.2.2.2 (by omega), lfr.2.2.2 (by omega), c6]
        refine step st m id ?_ ⟨hg, hT, hC⟩ s4 ?_ l1 (by omega) hc' (fun f => ?_) (fun F r σ h => ⟨F + 1, ?_⟩) (fun σ t => rfl)
        · unfold uMe
          rw [nN, nJ, lJ, if_neg b, if_neg b, if_neg b]
          omega
        · exact hP.mono (fun f _ p hp => by rw [List.mem_singleton.mp hp]; exact congrArg _ et)
        · rw [uR, if_neg hck0, if_neg hlen, if_neg c1, if_neg b, if_neg c3, if_neg c5, if_pos c6]
        · rw [eN, un, if_pos ((teq_iff _ _).mpr et)]
          exact h
      · refine stop (4, so (m.1 e.1), so (m.1 e.2.1)) (by show (4 : Int) ≠ 0; decide) (fun f => ?_) ⟨1, [], ?_⟩
        · rw [uR, if_neg hck0, if_neg hlen, if_neg c1, if_neg b, if_neg c3, if_neg c5, if_neg c6]
        · rw [eN, un]
          simp only
          rw [if_neg (fun z => c6 (by rw [← lfl.1, ← lfr.1, (teq_iff _ _).mp z])), if_neg c3', if_neg c5', lfl.1, lfr.1]
