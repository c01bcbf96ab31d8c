/-! the cells of a type; renamed trees; graphs whose variables have names -/
def opsT : TE → Nat
  | .var _ => 0
  | .op a b => 1 + opsT a + opsT b
theorem ops_sz : ∀ T : TE, 2 * opsT T + 1 = sz T
  | .var _ => rfl
  | .op a b => by
    have := ops_sz a
    have := ops_sz b
    simp only [opsT, sz]
    omega
def ceL (rr : Nat → Nat) (fr to : Nat → Int) : TE → Nat → List Nat
  | .var _, t => [t, rr t]
  | .op a b, t => t :: rr t :: (ceL rr fr to a (fr (rr t)).toNat ++ ceL rr fr to b (to (rr t)).toNat)
def arL (rr : Nat → Nat) (fr to : Nat → Int) : TE → Nat → List Nat
  | .var _, _ => []
  | .op a b, t => rr t :: (arL rr fr to a (fr (rr t)).toNat ++ arL rr fr to b (to (rr t)).toNat)
theorem arL_len {rr : Nat → Nat} {fr to : Nat → Int} : ∀ (T : TE) (t : Nat), (arL rr fr to T t).length = opsT T
  | .var _, _ => rfl
  | .op a b, t => by
    rw [arL, List.length_cons, List.length_append, arL_len a, arL_len b, opsT]
    omega
theorem ceL_hd {rr : Nat → Nat} {fr to : Nat → Int} : ∀ (T : TE) (t : Nat), t ∈ ceL rr fr to T t ∧ rr t ∈ ceL rr fr to T t
  | .var _, t => ⟨List.mem_cons_self, List.mem_cons_of_mem _ List.mem_cons_self⟩
  | .op a b, t => ⟨List.mem_cons_self, List.mem_cons_of_mem _ List.mem_cons_self⟩
theorem GT_op {so fr to : Nat → Int} {rr : Nat → Nat} {N : Nat} {tr : Nat → TE} (hT : GT so fr to rr N tr) {t : Nat} (h : t < N) {a b : TE} (e : tr t = .op a b) : so (rr t) = 2 ∧ a = tr (fr (rr t)).toNat ∧ b = tr (to (rr t)).toNat := by
  have a3 := (hT t h).2.2
  rw [e] at a3
  have k : so (rr t) = 2 := by
    by_cases k : so (rr t) = 2
    · exact k
    · rw [if_neg k] at a3
      obtain ⟨w, hw⟩ := lfc_var (k := so (rr t)) (r := rr t)
      rw [hw] at a3
      exact nomatch a3
  rw [if_pos k] at a3
  obtain ⟨ea, eb⟩ := Lean.Data.AC.Expr.op.inj a3
  exact ⟨k, ea, eb⟩
theorem GT_va {so fr to : Nat → Int} {rr : Nat → Nat} {N : Nat} {tr : Nat → TE} (hT : GT so fr to rr N tr) {t : Nat} (h : t < N) {v : Nat} (e : tr t = .var v) : so (rr t) ≠ 2 := fun k => by
  have a3 := (hT t h).2.2
  rw [if_pos k, e] at a3
  exact nomatch a3
theorem ceL_cl {so fr to li : Nat → Int} {rr : Nat → Nat} {N : Nat} {tr : Nat → TE} (hT : GT so fr to rr N tr) (hg : GW so fr to li N rr) : ∀ (T : TE) (t : Nat), t < N → tr t = T → ∀ x ∈ ceL rr fr to T t, rr x ∈ ceL rr fr to T t ∧ (rr x = x → so x = 2 → ((fr x).toNat ∈ ceL rr fr to T t ∧ (to x).toNat ∈ ceL rr fr to T t) ∧ x ∈ arL rr fr to T t)
  | .var v, t, h, e, x, hx => by
    obtain ⟨a1, a2, -⟩ := hT t h
    have k := GT_va hT h e
    rcases List.mem_cons.mp hx with rfl | hx
    · exact ⟨List.mem_cons_of_mem _ List.mem_cons_self, fun z k2 => absurd (by rw [z]; exact k2) k⟩
    · rw [List.mem_singleton.mp hx]
      exact ⟨by rw [a2]; exact List.mem_cons_of_mem _ List.mem_cons_self, fun _ k2 => absurd k2 k⟩
  | .op a b, t, h, e, x, hx => by
    obtain ⟨a1, a2, -⟩ := hT t h
    obtain ⟨k, ea, eb⟩ := GT_op hT h e
    obtain ⟨f1', f2'⟩ := hg.2.2 (rr t) a1 k
    have rt0 : x = rr t → ((fr x).toNat ∈ ceL rr fr to (.op a b) t ∧ (to x).toNat ∈ ceL rr fr to (.op a b) t) ∧ x ∈ arL rr fr to (.op a b) t := fun z => by
      rw [z]
      exact ⟨⟨List.mem_cons_of_mem _ (List.mem_cons_of_mem _ (List.mem_append_left _ (ceL_hd a _).1)), List.mem_cons_of_mem _ (List.mem_cons_of_mem _ (List.mem_append_right _ (ceL_hd b _).1))⟩, List.mem_cons_self⟩
    rw [ceL] at hx
    rcases List.mem_cons.mp hx with rfl | hx
    · exact ⟨(ceL_hd _ _).2, fun z _ => rt0 z.symm⟩
    rcases List.mem_cons.mp hx with rfl | hx
    · exact ⟨by rw [a2]; exact (ceL_hd _ _).2, fun _ _ => rt0 rfl⟩
    rcases List.mem_append.mp hx with hx | hx
    · obtain ⟨c1, c2⟩ := ceL_cl hT hg a _ (by omega) ea.symm x hx
      exact ⟨List.mem_cons_of_mem _ (List.mem_cons_of_mem _ (List.mem_append_left _ c1)), fun z1 z2 => ⟨⟨List.mem_cons_of_mem _ (List.mem_cons_of_mem _ (List.mem_append_left _ (c2 z1 z2).1.1)), List.mem_cons_of_mem _ (List.mem_cons_of_mem _ (List.mem_append_left _ (c2 z1 z2).1.2))⟩, List.mem_cons_of_mem _ (List.mem_append_left _ (c2 z1 z2).2)⟩⟩
    · obtain ⟨c1, c2⟩ := ceL_cl hT hg b _ (by omega) eb.symm x hx
      exact ⟨List.mem_cons_of_mem _ (List.mem_cons_of_mem _ (List.mem_append_right _ c1)), fun z1 z2 => ⟨⟨List.mem_cons_of_mem _ (List.mem_cons_of_mem _ (List.mem_append_right _ (c2 z1 z2).1.1)), List.mem_cons_of_mem _ (List.mem_cons_of_mem _ (List.mem_append_right _ (c2 z1 z2).1.2))⟩, List.mem_cons_of_mem _ (List.mem_append_right _ (c2 z1 z2).2)⟩⟩
def rpL (rr : Nat → Nat) (fr to : Nat → Int) : TE → Nat → List Nat
  | .var _, t => [rr t]
  | .op a b, t => rr t :: (rpL rr fr to a (fr (rr t)).toNat ++ rpL rr fr to b (to (rr t)).toNat)
theorem rpL_len {rr : Nat → Nat} {fr to : Nat → Int} : ∀ (T : TE) (t : Nat), (rpL rr fr to T t).length = sz T
  | .var _, _ => rfl
  | .op a b, t => by
    rw [rpL, List.length_cons, List.length_append, rpL_len a, rpL_len b]
    simp only [sz]
    omega
theorem ceL_rp {so fr to li : Nat → Int} {rr : Nat → Nat} {N : Nat} {tr : Nat → TE} (hT : GT so fr to rr N tr) (hg : GW so fr to li N rr) : ∀ (T : TE) (t : Nat), t < N → tr t = T → ∀ x ∈ ceL rr fr to T t, rr x ∈ rpL rr fr to T t
  | .var v, t, h, e, x, hx => by
    obtain ⟨a1, a2, -⟩ := hT t h
    rcases List.mem_cons.mp hx with rfl | hx
    · exact List.mem_cons_self
    · rw [List.mem_singleton.mp hx, a2]
      exact List.mem_cons_self
  | .op a b, t, h, e, x, hx => by
    obtain ⟨a1, a2, -⟩ := hT t h
    obtain ⟨k, ea, eb⟩ := GT_op hT h e
    obtain ⟨f1', f2'⟩ := hg.2.2 (rr t) a1 k
    rw [ceL] at hx
    rcases List.mem_cons.mp hx with rfl | hx
    · exact List.mem_cons_self
    rcases List.mem_cons.mp hx with rfl | hx
    · rw [a2]; exact List.mem_cons_self
    rcases List.mem_append.mp hx with hx | hx
    · exact List.mem_cons_of_mem _ (List.mem_append_left _ (ceL_rp hT hg a _ (by omega) ea.symm x hx))
    · exact List.mem_cons_of_mem _ (List.mem_append_right _ (ceL_rp hT hg b _ (by omega) eb.symm x hx))
theorem cU_li {li : Nat → Int} {X : List Nat} : ∀ N, ∃ A : List Nat, A.Nodup ∧ A.length = cU li X N ∧ ∀ x ∈ A, x < N ∧ li x < 0 ∧ x ∉ X
  | 0 => ⟨[], List.nodup_nil, rfl, (fun x hx => nomatch hx)⟩
  | n + 1 => by
    obtain ⟨A, h1, h2, h3⟩ := cU_li (li := li) (X := X) n
    by_cases e : li n < 0 ∧ n ∉ X
    · refine ⟨n :: A, List.nodup_cons.mpr ⟨fun z => by have := (h3 n z).1; omega, h1⟩, by rw [List.length_cons, h2, cU, if_pos e], fun x hx => ?_⟩
      rcases List.mem_cons.mp hx with rfl | hx
      · exact ⟨by omega, e⟩
      · have := h3 x hx
        exact ⟨by omega, this.2⟩
    · refine ⟨A, h1, by rw [h2, cU, if_neg e]; rfl, fun x hx => ?_⟩
      have := h3 x hx
      exact ⟨by omega, this.2⟩
theorem cl_of {so fr to li : Nat → Int} {rr : Nat → Nat} {N : Nat} {tr : Nat → TE} (hT : GT so fr to rr N tr) (hg : GW so fr to li N rr) {t u : Nat} (h : t < N) (hu : u < N) : ∃ (C : Nat → Prop) (Ar X : List Nat), Cl so fr to N C Ar rr ∧ C t ∧ C u ∧ Ar.length = opsT (tr t) + opsT (tr u) ∧ (∀ c, C c → c ∉ X) ∧ cU li X N ≤ sz (tr t) + sz (tr u) := by
  refine ⟨fun x => x ∈ ceL rr fr to (tr t) t ∨ x ∈ ceL rr fr to (tr u) u, arL rr fr to (tr t) t ++ arL rr fr to (tr u) u, (List.range N).filter (fun x => decide (x ∉ ceL rr fr to (tr t) t ++ ceL rr fr to (tr u) u)), fun x hx hc => ?_, Or.inl (ceL_hd _ _).1, Or.inr (ceL_hd _ _).1, by rw [List.length_append, arL_len, arL_len], fun c hc hm => ?_, ?_⟩
  · rcases hc with hc | hc
    · obtain ⟨c1, c2⟩ := ceL_cl hT hg (tr t) t h rfl x hc
      exact ⟨Or.inl c1, fun z1 z2 => ⟨⟨Or.inl (c2 z1 z2).1.1, Or.inl (c2 z1 z2).1.2⟩, List.mem_append_left _ (c2 z1 z2).2⟩⟩
    · obtain ⟨c1, c2⟩ := ceL_cl hT hg (tr u) u hu rfl x hc
      exact ⟨Or.inr c1, fun z1 z2 => ⟨⟨Or.inr (c2 z1 z2).1.1, Or.inr (c2 z1 z2).1.2⟩, List.mem_append_right _ (c2 z1 z2).2⟩⟩
  · have := of_decide_eq_true (List.mem_filter.mp hm).2
    exact this (List.mem_append.mpr hc)
  · obtain ⟨A, h1, h2, h3⟩ := cU_li (li := li) (X := (List.range N).filter (fun x => decide (x ∉ ceL rr fr to (tr t) t ++ ceL rr fr to (tr u) u))) N
    rw [← h2]
    refine Nat.le_trans (nodup_le A (rpL rr fr to (tr t) t ++ rpL rr fr to (tr u) u) h1 (fun x hx => ?_)) (by rw [List.length_append, rpL_len, rpL_len]; exact Nat.le_refl _)
    obtain ⟨x1, x2, x3⟩ := h3 x hx
    have hin : x ∈ ceL rr fr to (tr t) t ++ ceL rr fr to (tr u) u := Classical.byContradiction fun z => x3 (List.mem_filter.mpr ⟨List.mem_range.mpr x1, decide_eq_true z⟩)
    have er : rr x = x := by
      obtain ⟨k, k1, -, -⟩ := hg.2.1 x x1
      rw [rt_end x2 k] at k1
      exact k1.symm
    rw [← er]
    rcases List.mem_append.mp hin with w | w
    · exact List.mem_append_left _ (ceL_rp hT hg (tr t) t h rfl x w)
    · exact List.mem_append_right _ (ceL_rp hT hg (tr u) u hu rfl x w)
/-! renamed trees -/
def nmT (ρ : Nat → Nat) (t : TE) : TE := sbs (fun x => .var (ρ x)) t
/-- ρ keeps the variables of a set apart -/
def InjP (P : Nat → Prop) (ρ : Nat → Nat) : Prop := (∀ x y, P x → P y → ρ x = ρ y → x = y) ∧ ∀ x, P x → 2 ≤ x ∧ 2 ≤ ρ x
/-- the variables of a tree are in a set -/
def vsT (P : Nat → Prop) (t : TE) : Prop := ∀ x, 2 ≤ x → oc x t = true → P x
theorem vsT_op {P : Nat → Prop} {a b : TE} : vsT P (.op a b) ↔ vsT P a ∧ vsT P b := by
  constructor
  · intro h
    exact ⟨fun x h2 ho => h x h2 (by simp [oc, ho]), fun x h2 ho => h x h2 (by simp [oc, ho])⟩
  · rintro ⟨h1, h2⟩ x hx ho
    simp only [oc, Bool.or_eq_true] at ho
    exact ho.elim (h1 x hx) (h2 x hx)
theorem vsT_var {P : Nat → Prop} {x : Nat} (h : 2 ≤ x → P x) : vsT P (.var x) := fun y hy ho => by
  have : x = y := by simpa [oc] using ho
  subst this
  exact h hy
theorem vsT_sb {P : Nat → Prop} {x : Nat} {u : TE} (hu : vsT P u) : ∀ {t : TE}, vsT P t → vsT P (sb x u t)
  | .var y, h => by
    by_cases h2 : y < 2
    · rw [sb_lf (Or.inl h2)]; exact h
    · by_cases e : y = x
      · rw [e, sb_var (by omega)]; exact hu
      · rw [sb_lf (Or.inr e)]; exact h
  | .op a b, h => by
    rw [sb_op]
    exact vsT_op.mpr ⟨vsT_sb hu (vsT_op.mp h).1, vsT_sb hu (vsT_op.mp h).2⟩
theorem nm_var {ρ : Nat → Nat} {x : Nat} : nmT ρ (.var x) = if x < 2 then .var x else .var (ρ x) := rfl
theorem nm_op {ρ : Nat → Nat} {a b : TE} : nmT ρ (.op a b) = .op (nmT ρ a) (nmT ρ b) := rfl
theorem nm_inj {P : Nat → Prop} {ρ : Nat → Nat} (hi : InjP P ρ) : ∀ {t u : TE}, vsT P t → vsT P u → nmT ρ t = nmT ρ u → t = u
  | .var x, .var y, h1, h2, e => by
    rw [nm_var, nm_var] at e
    have px : 2 ≤ x → P x := fun z => h1 x z (by simp [oc])
    have py : 2 ≤ y → P y := fun z => h2 y z (by simp [oc])
    by_cases a : x < 2
    · by_cases b : y < 2
      · rw [if_pos a, if_pos b] at e; exact e
      · rw [if_pos a, if_neg b] at e
        have := Lean.Data.AC.Expr.var.inj e
        have := (hi.2 y (py (by omega))).2
        omega
    · by_cases b : y < 2
      · rw [if_neg a, if_pos b] at e
        have := Lean.Data.AC.Expr.var.inj e
        have := (hi.2 x (px (by omega))).2
        omega
      · rw [if_neg a, if_neg b] at e
        rw [hi.1 x y (px (by omega)) (py (by omega)) (Lean.Data.AC.Expr.var.inj e)]
  | .op a b, .op c d, h1, h2, e => by
    rw [nm_op, nm_op] at e
    obtain ⟨e1, e2⟩ := Lean.Data.AC.Expr.op.inj e
    rw [nm_inj hi (vsT_op.mp h1).1 (vsT_op.mp h2).1 e1, nm_inj hi (vsT_op.mp h1).2 (vsT_op.mp h2).2 e2]
  | .var x, .op c d, _, _, e => by
    rw [nm_var, nm_op] at e
    by_cases a : x < 2
    · rw [if_pos a] at e; exact nomatch e
    · rw [if_neg a] at e; exact nomatch e
  | .op a b, .var y, _, _, e => by
    rw [nm_var, nm_op] at e
    by_cases a : y < 2
    · rw [if_pos a] at e; exact nomatch e
    · rw [if_neg a] at e; exact nomatch e
theorem nm_kd {P : Nat → Prop} {ρ : Nat → Nat} (hi : InjP P ρ) : ∀ {t : TE}, vsT P t → kdT (nmT ρ t) = kdT t
  | .var x, h => by
    rw [nm_var]
    by_cases a : x < 2
    · rw [if_pos a]
    · rw [if_neg a, kdT, kdT]
      have := (hi.2 x (h x (by omega) (by simp [oc]))).2
      rw [if_neg (by omega), if_neg (by omega), if_neg (by omega), if_neg (by omega)]
  | .op a b, _ => rfl
theorem nm_oc {P : Nat → Prop} {ρ : Nat → Nat} (hi : InjP P ρ) {x : Nat} (hx : P x) : ∀ {t : TE}, vsT P t → oc (ρ x) (nmT ρ t) = oc x t
  | .var y, h => by
    rw [nm_var]
    have hx2 := hi.2 x hx
    by_cases a : y < 2
    · rw [if_pos a]
      have h1 : ¬ y = x := by omega
      have h2 : ¬ y = ρ x := by omega
      show (y == ρ x) = (y == x)
      rw [beq_eq_false_iff_ne.mpr h2, beq_eq_false_iff_ne.mpr h1]
    · rw [if_neg a]
      have py := h y (by omega) (by simp [oc])
      by_cases e : y = x
      · subst e; simp [oc]
      · have h2 : ¬ ρ y = ρ x := fun z => e (hi.1 y x py hx z)
        show (ρ y == ρ x) = (y == x)
        rw [beq_eq_false_iff_ne.mpr h2, beq_eq_false_iff_ne.mpr e]
  | .op a b, h => by
    rw [nm_op]
    simp only [oc]
    rw [nm_oc hi hx (vsT_op.mp h).1, nm_oc hi hx (vsT_op.mp h).2]
theorem nm_sb {P : Nat → Prop} {ρ : Nat → Nat} (hi : InjP P ρ) {x : Nat} (hx : P x) {u : TE} : ∀ {t : TE}, vsT P t → sb (ρ x) (nmT ρ u) (nmT ρ t) = nmT ρ (sb x u t)
  | .var y, h => by
    have hx2 := hi.2 x hx
    by_cases a : y < 2
    · rw [nm_var, if_pos a, sb_lf (Or.inl a), sb_lf (Or.inl a), nm_var, if_pos a]
    · rw [nm_var, if_neg a]
      have py := h y (by omega) (by simp [oc])
      by_cases e : y = x
      · subst e
        rw [sb_var hx2.2, sb_var hx2.1]
      · rw [sb_lf (Or.inr (fun z => e (hi.1 y x py hx z))), sb_lf (Or.inr e), nm_var, if_neg a]
  | .op a b, h => by
    rw [nm_op, sb_op, sb_op, nm_op, nm_sb hi hx (vsT_op.mp h).1, nm_sb hi hx (vsT_op.mp h).2]
def nmS (ρ : Nat → Nat) (σ : List (Nat × TE)) : List (Nat × TE) := σ.map (fun q => (ρ q.1, nmT ρ q.2))
def vsP (P : Nat → Prop) (ps : List (TE × TE)) : Prop := ∀ p ∈ ps, vsT P p.1 ∧ vsT P p.2
def vsS (P : Nat → Prop) (σ : List (Nat × TE)) : Prop := ∀ q ∈ σ, (2 ≤ q.1 ∧ P q.1) ∧ vsT P q.2
theorem kd3 : ∀ {t : TE}, kdT t = 3 → 2 ≤ vxT t ∧ t = .var (vxT t)
  | .var x, h => by
    rw [kdT] at h
    by_cases a : x = 0
    · rw [if_pos a] at h; exact absurd h (by decide)
    · rw [if_neg a] at h
      by_cases b : x = 1
      · rw [if_pos b] at h; exact absurd h (by decide)
      · exact ⟨by show 2 ≤ x; omega, rfl⟩
  | .op a b, h => absurd (show (2 : Int) = 3 from h) (by decide)
theorem kd2 : ∀ {t : TE}, kdT t = 2 → t = .op (lfT t) (rgT t)
  | .var x, h => by
    rw [kdT] at h
    by_cases a : x = 0
    · rw [if_pos a] at h; exact absurd h (by decide)
    · rw [if_neg a] at h
      by_cases b : x = 1
      · rw [if_pos b] at h; exact absurd h (by decide)
      · rw [if_neg b] at h; exact absurd h (by decide)
  | .op a b, h => rfl
/-- what is put for variables comes out of the pairs -/
theorem un_vs {P : Nat → Prop} : ∀ (n : Nat) (ps : List (TE × TE)) (r : UR) (σ : List (Nat × TE)), vsP P ps → un n ps = some (r, σ) → vsS P σ
  | 0, _, _, _, _, h => nomatch h
  | n + 1, [], r, σ, _, h => by
    have e : σ = [] := (congrArg Prod.snd (Option.some.inj h)).symm
    rw [e]
    exact fun q hq => nomatch hq
  | n + 1, p :: ps, r, σ, hp, h => by
    obtain ⟨h1, h2⟩ := hp p List.mem_cons_self
    have hps : vsP P ps := fun q hq => hp q (List.mem_cons_of_mem _ hq)
    rw [un] at h
    by_cases e : teq p.1 p.2 = true
    · rw [if_pos e] at h
      exact un_vs n ps r σ hps h
    rw [if_neg e] at h
    by_cases e2 : kdT p.1 = 3 ∨ kdT p.2 = 3
    · rw [if_pos e2] at h
      simp only at h
      have hx : 2 ≤ vxT (if kdT p.1 = 3 then p.1 else p.2) ∧ P (vxT (if kdT p.1 = 3 then p.1 else p.2)) ∧ vsT P (if kdT p.1 = 3 then p.2 else p.1) := by
        by_cases g : kdT p.1 = 3
        · rw [if_pos g, if_pos g]
          obtain ⟨k1, k2⟩ := kd3 g
          exact ⟨k1, h1 _ k1 (by rw [k2]; simp [oc, vxT]), h2⟩
        · rw [if_neg g, if_neg g]
          obtain ⟨k1, k2⟩ := kd3 (e2.resolve_left g)
          exact ⟨k1, h2 _ k1 (by rw [k2]; simp [oc, vxT]), h1⟩
      generalize vxT (if kdT p.1 = 3 then p.1 else p.2) = x at *
      generalize (if kdT p.1 = 3 then p.2 else p.1) = o at *
      by_cases e3 : oc x o = true
      · rw [if_pos e3] at h
        have e : σ = [] := (congrArg Prod.snd (Option.some.inj h)).symm
        rw [e]
        exact fun q hq => nomatch hq
      · rw [if_neg e3] at h
        obtain ⟨q, q1, q2⟩ := Option.map_eq_some_iff.mp h
        have e5 : σ = (x, o) :: q.2 := (congrArg Prod.snd q2).symm
        rw [e5]
        intro w hw
        rcases List.mem_cons.mp hw with rfl | hw
        · exact ⟨⟨hx.1, hx.2.1⟩, hx.2.2⟩
        · refine un_vs n _ q.1 q.2 (fun z hz => ?_) q1 w hw
          obtain ⟨y, hy, rfl⟩ := List.mem_map.mp hz
          exact ⟨vsT_sb hx.2.2 (hps y hy).1, vsT_sb hx.2.2 (hps y hy).2⟩
    · rw [if_neg e2] at h
      by_cases e3 : kdT p.1 = 2 ∧ kdT p.2 = 2
      · rw [if_pos e3] at h
        refine un_vs n _ r σ (fun z hz => ?_) h
        have k1 := kd2 e3.1
        have k2 := kd2 e3.2
        rw [k1] at h1
        rw [k2] at h2
        rcases List.mem_cons.mp hz with rfl | hz
        · exact ⟨(vsT_op.mp h1).1, (vsT_op.mp h2).1⟩
        rcases List.mem_cons.mp hz with rfl | hz
        · exact ⟨(vsT_op.mp h1).2, (vsT_op.mp h2).2⟩
        · exact hps z hz
      · rw [if_neg e3] at h
        have e : σ = [] := (congrArg Prod.snd (Option.some.inj h)).symm
        rw [e]
        exact fun q hq => nomatch hq
theorem nm_lf {ρ : Nat → Nat} : ∀ {t : TE}, kdT t = 2 → lfT (nmT ρ t) = nmT ρ (lfT t) ∧ rgT (nmT ρ t) = nmT ρ (rgT t)
  | .op a b, _ => ⟨rfl, rfl⟩
  | .var x, h => by
    rw [kdT] at h
    by_cases a : x = 0
    · rw [if_pos a] at h; exact absurd h (by decide)
    · rw [if_neg a] at h
      by_cases b : x = 1
      · rw [if_pos b] at h; exact absurd h (by decide)
      · rw [if_neg b] at h; exact absurd h (by decide)
def nmP (ρ : Nat → Nat) (ps : List (TE × TE)) : List (TE × TE) := ps.map (fun p => (nmT ρ p.1, nmT ρ p.2))
/-- names don't matter where trees are made to fit -/
theorem un_nm {P : Nat → Prop} {ρ : Nat → Nat} (hi : InjP P ρ) : ∀ (n : Nat) (ps : List (TE × TE)), vsP P ps → un n (nmP ρ ps) = (un n ps).map (fun q => (q.1, nmS ρ q.2))
  | 0, _, _ => rfl
  | n + 1, [], _ => rfl
  | n + 1, p :: ps, hp => by
    obtain ⟨h1, h2⟩ := hp p List.mem_cons_self
    have hps : vsP P ps := fun q hq => hp q (List.mem_cons_of_mem _ hq)
    show un (n + 1) ((nmT ρ p.1, nmT ρ p.2) :: nmP ρ ps) = _
    rw [un, un]
    simp only
    by_cases e : teq p.1 p.2 = true
    · rw [if_pos e, if_pos ((teq_iff _ _).mpr (congrArg (nmT ρ) ((teq_iff _ _).mp e)))]
      exact un_nm hi n ps hps
    rw [if_neg e, if_neg (fun z => e ((teq_iff _ _).mpr (nm_inj hi h1 h2 ((teq_iff _ _).mp z)))), nm_kd hi h1, nm_kd hi h2]
    by_cases e2 : kdT p.1 = 3 ∨ kdT p.2 = 3
    · rw [if_pos e2, if_pos e2]
      have hx : P (vxT (if kdT p.1 = 3 then p.1 else p.2)) ∧ vsT P (if kdT p.1 = 3 then p.2 else p.1) ∧ vxT (if kdT p.1 = 3 then nmT ρ p.1 else nmT ρ p.2) = ρ (vxT (if kdT p.1 = 3 then p.1 else p.2)) ∧ (if kdT p.1 = 3 then nmT ρ p.2 else nmT ρ p.1) = nmT ρ (if kdT p.1 = 3 then p.2 else p.1) := by
        have key : ∀ {t : TE}, kdT t = 3 → vsT P t → P (vxT t) ∧ vxT (nmT ρ t) = ρ (vxT t) := fun {t} g hv => by
          obtain ⟨k1, k2⟩ := kd3 g
          refine ⟨hv _ k1 (by rw [k2]; simp [oc, vxT]), ?_⟩
          rw [k2, nm_var]
          have : ¬ vxT t < 2 := by omega
          rw [if_neg this]
          rfl
        by_cases g : kdT p.1 = 3
        · rw [if_pos g, if_pos g, if_pos g, if_pos g]
          exact ⟨(key g h1).1, h2, (key g h1).2, rfl⟩
        · rw [if_neg g, if_neg g, if_neg g, if_neg g]
          have g2 := e2.resolve_left g
          exact ⟨(key g2 h2).1, h1, (key g2 h2).2, rfl⟩
      rw [hx.2.2.1, hx.2.2.2]
      generalize vxT (if kdT p.1 = 3 then p.1 else p.2) = x at *
      generalize (if kdT p.1 = 3 then p.2 else p.1) = o at *
      rw [nm_oc hi hx.1 hx.2.1]
      by_cases e3 : oc x o = true
      · rw [if_pos e3, if_pos e3]; rfl
      · rw [if_neg e3, if_neg e3]
        have em : (nmP ρ ps).map (fun p => (sb (ρ x) (nmT ρ o) p.1, sb (ρ x) (nmT ρ o) p.2)) = nmP ρ (ps.map (fun p => (sb x o p.1, sb x o p.2))) := by
          unfold nmP
          rw [List.map_map, List.map_map]
          refine List.map_congr_left (fun q hq => ?_)
          show (sb (ρ x) (nmT ρ o) (nmT ρ q.1), sb (ρ x) (nmT ρ o) (nmT ρ q.2)) = (nmT ρ (sb x o q.1), nmT ρ (sb x o q.2))
          rw [nm_sb hi hx.1 (hps q hq).1, nm_sb hi hx.1 (hps q hq).2]
        rw [em, un_nm hi n _ (fun z hz => by
          obtain ⟨y, hy, rfl⟩ := List.mem_map.mp hz
          exact ⟨vsT_sb hx.2.1 (hps y hy).1, vsT_sb hx.2.1 (hps y hy).2⟩), Option.map_map, Option.map_map]
        rfl
    · rw [if_neg e2, if_neg e2]
      by_cases e3 : kdT p.1 = 2 ∧ kdT p.2 = 2
      · rw [if_pos e3, if_pos e3, (nm_lf e3.1).1, (nm_lf e3.1).2, (nm_lf e3.2).1, (nm_lf e3.2).2]
        have k1 := kd2 e3.1
        have k2 := kd2 e3.2
        rw [k1] at h1
        rw [k2] at h2
        refine un_nm hi n ((lfT p.1, lfT p.2) :: (rgT p.1, rgT p.2) :: ps) (fun z hz => ?_)
        rcases List.mem_cons.mp hz with rfl | hz
        · exact ⟨(vsT_op.mp h1).1, (vsT_op.mp h2).1⟩
        rcases List.mem_cons.mp hz with rfl | hz
        · exact ⟨(vsT_op.mp h1).2, (vsT_op.mp h2).2⟩
        · exact hps z hz
      · rw [if_neg e3, if_neg e3]; rfl
theorem ap_nm {P : Nat → Prop} {ρ : Nat → Nat} (hi : InjP P ρ) : ∀ (σ : List (Nat × TE)) (t : TE), vsS P σ → vsT P t → ap (nmS ρ σ) (nmT ρ t) = nmT ρ (ap σ t)
  | [], _, _, _ => rfl
  | q :: σ, t, hs, h => by
    obtain ⟨⟨a1, a2⟩, a3⟩ := hs q List.mem_cons_self
    show ap (nmS ρ σ) (sb (ρ q.1) (nmT ρ q.2) (nmT ρ t)) = nmT ρ (ap σ (sb q.1 q.2 t))
    rw [nm_sb hi a2 h]
    exact ap_nm hi σ _ (fun w hw => hs w (List.mem_cons_of_mem _ hw)) (vsT_sb a3 h)
theorem nm_cg {ρ ρ' : Nat → Nat} {t : TE} (h : vsT (fun x => ρ x = ρ' x) t) : nmT ρ t = nmT ρ' t := sbs_cg t (fun x h2 ho => by rw [h x h2 ho])
theorem vsT_mono {P Q : Nat → Prop} {t : TE} (h : vsT P t) (hq : ∀ x, 2 ≤ x → P x → Q x) : vsT Q t := fun x h2 ho => hq x h2 (h x h2 ho)
