/-! trees: what is put for variables, and how two are made to fit -/
def sbs (f : Nat → TE) : TE → TE
  | .var x => if x < 2 then .var x else f x
  | .op a b => .op (sbs f a) (sbs f b)
def f1 (x : Nat) (u : TE) : Nat → TE := fun y => if y = x then u else .var y
def sb (x : Nat) (u t : TE) : TE := sbs (f1 x u) t
def oc (x : Nat) : TE → Bool
  | .var y => y == x
  | .op a b => oc x a || oc x b
def teq : TE → TE → Bool
  | .var x, .var y => x == y
  | .op a b, .op c d => teq a c && teq b d
  | _, _ => false
theorem teq_iff : ∀ t u : TE, teq t u = true ↔ t = u
  | .var x, .var y => by simp [teq]
  | .op a b, .op c d => by simp [teq, teq_iff a c, teq_iff b d]
  | .var x, .op c d => by simp [teq]
  | .op a b, .var y => by simp [teq]
theorem sbs_comp (f g : Nat → TE) : ∀ t, sbs f (sbs g t) = sbs (fun y => sbs f (g y)) t
  | .var x => by
    by_cases h : x < 2
    · simp [sbs, h]
    · simp [sbs, h]
  | .op a b => by simp only [sbs, sbs_comp f g a, sbs_comp f g b]
theorem sbs_id : ∀ t, sbs (fun y => .var y) t = t
  | .var x => by simp [sbs]
  | .op a b => by simp only [sbs, sbs_id a, sbs_id b]
theorem sbs_cg {f g : Nat → TE} : ∀ t, (∀ x, 2 ≤ x → oc x t = true → f x = g x) → sbs f t = sbs g t
  | .var x, h => by
    by_cases hx : x < 2
    · simp [sbs, hx]
    · simp only [sbs, if_neg hx]
      exact h x (by omega) (by simp [oc])
  | .op a b, h => by
    simp only [sbs]
    rw [sbs_cg a (fun x h2 ho => h x h2 (by simp [oc, ho])), sbs_cg b (fun x h2 ho => h x h2 (by simp [oc, ho]))]
theorem sb_no {x : Nat} {u t : TE} (h : oc x t = false) : sb x u t = t := by
  refine (sbs_cg t (g := fun y => .var y) (fun y _ ho => ?_)).trans (sbs_id t)
  rw [f1, if_neg]
  intro e
  rw [e, h] at ho
  exact Bool.noConfusion ho
theorem sb_var {x : Nat} {u : TE} (h : 2 ≤ x) : sb x u (.var x) = u := by
  rw [sb, sbs, if_neg (by omega), f1, if_pos rfl]
theorem sb_lf {x y : Nat} {u : TE} (h : y < 2 ∨ y ≠ x) : sb x u (.var y) = .var y := by
  rw [sb, sbs]
  by_cases hy : y < 2
  · rw [if_pos hy]
  · rw [if_neg hy, f1, if_neg (by omega)]
theorem sb_op {x : Nat} {u a b : TE} : sb x u (.op a b) = .op (sb x u a) (sb x u b) := rfl
/-- a proper part -/
def psub (s : TE) : TE → Prop
  | .var _ => False
  | .op a b => (s = a ∨ psub s a) ∨ s = b ∨ psub s b
theorem psub_sz {s : TE} : ∀ {t : TE}, psub s t → sz s < sz t
  | .op a b, h => by
    have := sz_pos a
    have := sz_pos b
    simp only [sz]
    rcases h with (rfl | h) | rfl | h
    · omega
    · have := psub_sz h; omega
    · omega
    · have := psub_sz h; omega
theorem psub_ne {s t : TE} (h : psub s t) : s ≠ t := fun e => by
  have := psub_sz h
  rw [e] at this
  omega
theorem psub_tr {s t : TE} (h : psub s t) : ∀ {u : TE}, psub t u → psub s u
  | .op a b, g => by
    rcases g with (rfl | g) | rfl | g
    · exact Or.inl (Or.inr h)
    · exact Or.inl (Or.inr (psub_tr h g))
    · exact Or.inr (Or.inr h)
    · exact Or.inr (Or.inr (psub_tr h g))
theorem psub_sb {x : Nat} {v s : TE} : ∀ {t : TE}, psub s t → psub (sb x v s) (sb x v t)
  | .op a b, g => by
    rcases g with (rfl | g) | rfl | g
    · exact Or.inl (Or.inl rfl)
    · exact Or.inl (Or.inr (psub_sb g))
    · exact Or.inr (Or.inl rfl)
    · exact Or.inr (Or.inr (psub_sb g))
theorem psub_oc {x : Nat} : ∀ {t : TE} {s : TE}, psub s t → oc x t = false → oc x s = false
  | .op a b, s, g, h => by
    simp only [oc, Bool.or_eq_false_iff] at h
    rcases g with (rfl | g) | rfl | g
    · exact h.1
    · exact psub_oc g h.1
    · exact h.2
    · exact psub_oc g h.2
theorem psub_ht {s : TE} : ∀ {t : TE}, psub s t → ht s < ht t
  | .op a b, h => by
    simp only [ht]
    rcases h with (rfl | h) | rfl | h
    · omega
    · have := psub_ht h; omega
    · omega
    · have := psub_ht h; omega
def kdT : TE → Int
  | .var x => if x = 0 then 0 else if x = 1 then 1 else 3
  | .op _ _ => 2
/-- makes pairs of trees fit: 0 and what was put for variables, else the reason and the two kinds -/
abbrev UR : Type := Int × Int × Int
def lfT : TE → TE
  | .op a _ => a
  | t => t
def rgT : TE → TE
  | .op _ b => b
  | t => t
def vxT : TE → Nat
  | .var x => x
  | _ => 0
def un : Nat → List (TE × TE) → Option (UR × List (Nat × TE))
  | 0, _ => none
  | _ + 1, [] => some ((0, -1, -1), [])
  | n + 1, p :: ps =>
    if teq p.1 p.2 = true then un n ps
    else if kdT p.1 = 3 ∨ kdT p.2 = 3 then
      let x := vxT (if kdT p.1 = 3 then p.1 else p.2)
      let o := if kdT p.1 = 3 then p.2 else p.1
      if oc x o = true then some ((5, -1, -1), []) else (un n (ps.map (fun p => (sb x o p.1, sb x o p.2)))).map (fun q => (q.1, (x, o) :: q.2))
    else if kdT p.1 = 2 ∧ kdT p.2 = 2 then un n ((lfT p.1, lfT p.2) :: (rgT p.1, rgT p.2) :: ps)
    else some ((4, kdT p.1, kdT p.2), [])
def ap : List (Nat × TE) → TE → TE
  | [], t => t
  | (x, u) :: σ, t => ap σ (sb x u t)
theorem un_mono : ∀ (n : Nat) (ps : List (TE × TE)) (r : UR × List (Nat × TE)), un n ps = some r → ∀ m, n ≤ m → un m ps = some r
  | 0, _, _, h, _, _ => nomatch h
  | n + 1, [], r, h, m, hm => by
    obtain ⟨k, rfl⟩ : ∃ k, m = k + 1 := ⟨m - 1, by omega⟩
    exact h
  | n + 1, p :: ps, r, h, m, hm => by
    obtain ⟨k, rfl⟩ : ∃ k, m = k + 1 := ⟨m - 1, by omega⟩
    have hk : n ≤ k := by omega
    rw [un] at h ⊢
    by_cases e : teq p.1 p.2 = true
    · rw [if_pos e] at h ⊢
      exact un_mono n _ _ h k hk
    · rw [if_neg e] at h ⊢
      by_cases e2 : kdT p.1 = 3 ∨ kdT p.2 = 3
      · rw [if_pos e2] at h ⊢
        simp only at h ⊢
        by_cases e3 : oc (vxT (if kdT p.1 = 3 then p.1 else p.2)) (if kdT p.1 = 3 then p.2 else p.1) = true
        · rw [if_pos e3] at h ⊢; exact h
        · rw [if_neg e3] at h ⊢
          obtain ⟨q, h1, h2⟩ := Option.map_eq_some_iff.mp h
          rw [un_mono n _ _ h1 k hk]
          exact congrArg some h2
      · rw [if_neg e2] at h ⊢
        by_cases e3 : kdT p.1 = 2 ∧ kdT p.2 = 2
        · rw [if_pos e3] at h ⊢
          exact un_mono n _ _ h k hk
        · rw [if_neg e3] at h ⊢
          exact h
/-! parts of a graph: a variable gets a tree, equal arrows are joined -/
def lkR (rr : Nat → Nat) (v o : Nat) : Nat → Nat := fun t => if rr t = v then rr o else rr t
theorem rt_lk1 {li : Nat → Int} {v : Nat} {x : Int} (hv : li v < 0) : ∀ (k t r : Nat), rt li k t = r → li r < 0 → r ≠ v → rt (upI li v x) k t = r
  | 0, t, r, h, _, _ => h
  | k + 1, t, r, h, h1, h2 => by
    rw [rt] at h ⊢
    by_cases g : li t < 0
    · rw [if_pos g] at h
      subst h
      rw [upI_n h2, if_pos g]
    · rw [if_neg g] at h
      have : t ≠ v := fun e => g (by rw [e]; exact hv)
      rw [upI_n this, if_neg g]
      exact rt_lk1 hv k _ r h h1 h2
theorem rt_lk2 {li : Nat → Int} {v o w : Nat} (hv : li v < 0) {ko : Nat} (ho : rt (upI li v (o : Int)) ko o = w) : ∀ (k t : Nat), rt li k t = v → ∃ k', rt (upI li v (o : Int)) k' t = w
  | 0, t, h => by
    have e : t = v := h
    subst e
    exact ⟨ko + 1, by rw [rt, upI_s, if_neg (by omega)]; exact ho⟩
  | k + 1, t, h => by
    rw [rt] at h
    by_cases g : li t < 0
    · rw [if_pos g] at h
      subst h
      exact ⟨ko + 1, by rw [rt, upI_s, if_neg (by omega)]; exact ho⟩
    · rw [if_neg g] at h
      have : t ≠ v := fun e => g (by rw [e]; exact hv)
      obtain ⟨k', hk'⟩ := rt_lk2 hv ho k _ h
      exact ⟨k' + 1, by rw [rt, upI_n this, if_neg g]; exact hk'⟩
theorem GW.lk {so fr to li : Nat → Int} {N v o : Nat} {rr : Nat → Nat} (hg : GW so fr to li N rr) (hv : v < N) (hvr : rr v = v) (ho : o < N) (hne : rr o ≠ v) : GW so fr to (upI li v (o : Int)) N (lkR rr v o) := by
  obtain ⟨g1, g2, g3⟩ := hg
  have lv : li v < 0 := by
    obtain ⟨k, -, h, -⟩ := g2 v hv
    rw [hvr] at h
    exact h
  obtain ⟨ko, a1, a2, a3⟩ := g2 o ho
  refine ⟨fun t ht => ?_, fun t ht => ?_, g3⟩
  · by_cases e : t = v
    · subst e; rw [upI_s]; omega
    · rw [upI_n e]; exact g1 t ht
  · obtain ⟨k, b1, b2, b3⟩ := g2 t ht
    by_cases e : rr t = v
    · rw [lkR, if_pos e]
      obtain ⟨k', hk'⟩ := rt_lk2 (o := o) lv (rt_lk1 lv ko o (rr o) a1 a2 hne) k t (b1.trans e)
      exact ⟨k', hk', by rw [upI_n hne]; exact a2, a3⟩
    · rw [lkR, if_neg e]
      exact ⟨k, rt_lk1 lv k t (rr t) b1 b2 e, by rw [upI_n e]; exact b2, b3⟩
theorem lkR_ok {so fr to : Nat → Int} {N v o : Nat} {rr : Nat → Nat} {tr : Nat → TE} (hT : GT so fr to rr N tr) (hv : v < N) (ho : o < N) (hne : rr o ≠ v) {t : Nat} (ht : t < N) : lkR rr v o t < N ∧ lkR rr v o (lkR rr v o t) = lkR rr v o t := by
  obtain ⟨a1, a2, -⟩ := hT t ht
  obtain ⟨b1, b2, -⟩ := hT o ho
  unfold lkR
  by_cases e : rr t = v
  · simp only [if_pos e]
    exact ⟨b1, by rw [b2, if_neg hne]⟩
  · simp only [if_neg e]
    exact ⟨a1, by rw [a2, if_neg e]⟩
/-- a variable gets a tree that hasn't it -/
theorem GT.bind {so fr to li : Nat → Int} {N v o : Nat} {rr : Nat → Nat} {tr : Nat → TE} (hT : GT so fr to rr N tr) (hg : GW so fr to li N rr) (hv : v < N) (hvr : rr v = v) (hs : so v = 3) (ho : o < N) (hoc : oc (v + 2) (tr o) = false) : rr o ≠ v ∧ GT so fr to (lkR rr v o) N (fun t => sb (v + 2) (tr o) (tr t)) := by
  have tv : tr v = .var (v + 2) := by
    rw [(hT v hv).2.2, hvr, hs, if_neg (by decide)]
    rfl
  have hne : rr o ≠ v := fun e => by
    have := hT.rr ho
    rw [e, tv] at this
    rw [← this] at hoc
    simp [oc] at hoc
  refine ⟨hne, fun t ht => ?_⟩
  obtain ⟨l1, l2⟩ := lkR_ok hT hv ho hne ht
  refine ⟨l1, l2, ?_⟩
  obtain ⟨a1, a2, a3⟩ := hT t ht
  obtain ⟨b1, b2, b3⟩ := hT o ho
  by_cases e : rr t = v
  · have et : tr t = .var (v + 2) := by rw [← hT.rr ht, e, tv]
    simp only [lkR, if_pos e]
    rw [et, sb_var (by omega), b3]
    rw [b3] at hoc
    by_cases k : so (rr o) = 2
    · rw [if_pos k] at hoc ⊢
      simp only [if_pos k]
      simp only [oc, Bool.or_eq_false_iff] at hoc
      rw [sb_no hoc.1, sb_no hoc.2]
    · simp only [if_neg k]
  · simp only [lkR, if_neg e]
    rw [a3]
    by_cases k : so (rr t) = 2
    · simp only [if_pos k]
      rfl
    · simp only [if_neg k]
      unfold lfc
      by_cases k0 : so (rr t) = 0
      · simp only [if_pos k0]; exact sb_lf (Or.inl (by decide))
      · by_cases k1 : so (rr t) = 1
        · simp only [if_neg k0, if_pos k1]; exact sb_lf (Or.inl (by decide))
        · simp only [if_neg k0, if_neg k1]; exact sb_lf (Or.inr (by omega))
theorem GT.join {so fr to : Nat → Int} {N v o : Nat} {rr : Nat → Nat} {tr : Nat → TE} (hT : GT so fr to rr N tr) (hv : v < N) (hvr : rr v = v) (ho : o < N) (hne : rr o ≠ v) (he : tr v = tr o) : GT so fr to (lkR rr v o) N tr := by
  intro t ht
  obtain ⟨l1, l2⟩ := lkR_ok hT hv ho hne ht
  refine ⟨l1, l2, ?_⟩
  obtain ⟨a1, a2, a3⟩ := hT t ht
  obtain ⟨b1, b2, b3⟩ := hT o ho
  by_cases e : rr t = v
  · simp only [lkR, if_pos e]
    rw [← hT.rr ht, e, he]
    exact b3
  · simp only [lkR, if_neg e]
    exact a3
