/-! a judgement by trees: what a node's type may be (pure) -/
theorem sbs_v {θ : Nat → TE} {x : Nat} (h : 2 ≤ x) : sbs θ (.var x) = θ x := by rw [sbs, if_neg (by omega)]
theorem sbs_v0 {θ : Nat → TE} {x : Nat} (h : x < 2) : sbs θ (.var x) = .var x := by rw [sbs, if_pos h]
theorem sbs_o {θ : Nat → TE} {a b : TE} : sbs θ (.op a b) = .op (sbs θ a) (sbs θ b) := rfl
theorem ap_sbf : ∀ (σ : List (Nat × TE)) (t : TE), ap σ t = sbs (fun x => ap σ (.var x)) t
  | [], t => (sbs_id t).symm
  | q :: σ, t => by
    show ap σ (sb q.1 q.2 t) = _
    rw [ap_sbf σ, sb, sbs_comp]
    refine sbs_cg t (fun x h2 _ => ?_)
    rw [← ap_sbf σ]
    show ap σ (f1 q.1 q.2 x) = ap σ (sb q.1 q.2 (.var x))
    rw [sb, sbs_v h2]
theorem sbs_ap {θ : Nat → TE} {σ : List (Nat × TE)} {t : TE} : sbs θ (ap σ t) = sbs (fun x => sbs θ (ap σ (.var x))) t := by rw [ap_sbf σ t, sbs_comp]
theorem sbs_in {θ θ' : Nat → TE} : ∀ {t : TE}, sbs θ t = sbs θ' t → ∀ x, 2 ≤ x → oc x t = true → θ x = θ' x
  | .var y, h, x, h2, ho => by
    have e := oc_v ho
    rw [← e] at h2
    rw [sbs_v h2, sbs_v h2] at h
    rw [← e]
    exact h
  | .op a b, h, x, h2, ho => by
    rw [sbs_o, sbs_o] at h
    injection h with h1 h3
    simp only [oc, Bool.or_eq_true] at ho
    exact ho.elim (sbs_in h1 x h2) (sbs_in h3 x h2)
theorem sbs_sz {θ : Nat → TE} {x : Nat} (h2 : 2 ≤ x) : ∀ {t : TE}, oc x t = true → sz (θ x) ≤ sz (sbs θ t) ∧ (t ≠ .var x → sz (θ x) < sz (sbs θ t))
  | .var y, ho => by
    have e := oc_v ho
    rw [e, sbs_v h2]
    exact ⟨Nat.le_refl _, fun z => absurd rfl z⟩
  | .op a b, ho => by
    rw [sbs_o]
    simp only [oc, Bool.or_eq_true] at ho
    simp only [sz]
    rcases ho with ho | ho
    · have := (sbs_sz (θ := θ) h2 ho).1
      exact ⟨by omega, fun _ => by omega⟩
    · have := (sbs_sz (θ := θ) h2 ho).1
      exact ⟨by omega, fun _ => by omega⟩
theorem oc_self {x : Nat} : oc x (.var x) = true := by simp [oc]
/-- pairs that were made to fit are alike -/
theorem un_eq : ∀ (n : Nat) (ps : List (TE × TE)) (R : UR) (σ : List (Nat × TE)), un n ps = some (R, σ) → R.1 = 0 → ∀ p ∈ ps, ap σ p.1 = ap σ p.2
  | 0, _, _, _, h, _, _, _ => nomatch h
  | n + 1, [], R, σ, h, _, p, hp => absurd hp List.not_mem_nil
  | n + 1, p :: ps, R, σ, h, h0, q, hq => by
    rw [un] at h
    by_cases c1 : teq p.1 p.2 = true
    · rw [if_pos c1] at h
      rcases List.mem_cons.mp hq with rfl | hq
      · rw [(teq_iff _ _).mp c1]
      · exact un_eq n _ R σ h h0 q hq
    · rw [if_neg c1] at h
      by_cases c2 : kdT p.1 = 3 ∨ kdT p.2 = 3
      · rw [if_pos c2] at h
        obtain ⟨o, ho⟩ : ∃ o, o = (if kdT p.1 = 3 then p.2 else p.1) := ⟨_, rfl⟩
        obtain ⟨x, hx⟩ : ∃ x, x = vxT (if kdT p.1 = 3 then p.1 else p.2) := ⟨_, rfl⟩
        simp only [← ho, ← hx] at h
        by_cases c3 : oc x o = true
        · rw [if_pos c3] at h
          have e : ((5, -1, -1) : UR) = R := congrArg Prod.fst (Option.some.inj h)
          rw [← e] at h0
          exact absurd (show (5 : Int) = 0 from h0) (by decide)
        · rw [if_neg c3] at h
          obtain ⟨w, hw, hh⟩ := Option.map_eq_some_iff.mp h
          have e1 : w.1 = R := congrArg Prod.fst hh
          have e2 : (x, o) :: w.2 = σ := congrArg Prod.snd hh
          have hall := un_eq n _ w.1 w.2 hw (by rw [e1]; exact h0)
          have c3' : oc x o = false := by
            cases hz : oc x o with
            | false => rfl
            | true => exact absurd hz c3
          rw [← e2]
          rcases List.mem_cons.mp hq with rfl | hq
          · show ap w.2 (sb x o q.1) = ap w.2 (sb x o q.2)
            by_cases c4 : kdT q.1 = 3
            · rw [if_pos c4] at ho hx
              obtain ⟨k1, k2⟩ := kd3 c4
              rw [← hx] at k1 k2
              rw [k2, ← ho, sb_var k1, sb_no c3']
            · rw [if_neg c4] at ho hx
              obtain ⟨k1, k2⟩ := kd3 (c2.resolve_left c4)
              rw [← hx] at k1 k2
              rw [k2, ← ho, sb_var k1, sb_no c3']
          · exact hall _ (List.mem_map.mpr ⟨q, hq, rfl⟩)
      · rw [if_neg c2] at h
        by_cases c3 : kdT p.1 = 2 ∧ kdT p.2 = 2
        · rw [if_pos c3] at h
          have hall := un_eq n _ R σ h h0
          rcases List.mem_cons.mp hq with rfl | hq
          · rw [kd2 c3.1, kd2 c3.2, ap_op, ap_op]
            have h1 := hall _ List.mem_cons_self
            have h2 := hall _ (List.mem_cons_of_mem _ List.mem_cons_self)
            have h1 : ap σ (lfT q.1) = ap σ (lfT q.2) := h1
            have h2 : ap σ (rgT q.1) = ap σ (rgT q.2) := h2
            rw [h1, h2]
          · exact hall q (List.mem_cons_of_mem _ (List.mem_cons_of_mem _ hq))
        · rw [if_neg c3] at h
          have e : ((4, (kdT p.1 : Int), (kdT p.2 : Int)) : UR) = R := congrArg Prod.fst (Option.some.inj h)
          rw [← e] at h0
          exact absurd (show (4 : Int) = 0 from h0) (by decide)
theorem sbs_sb {θ : Nat → TE} {x : Nat} {o : TE} (h : θ x = sbs θ o) (t : TE) : sbs θ (sb x o t) = sbs θ t := by
  rw [sb, sbs_comp]
  refine sbs_cg t (fun y h2 _ => ?_)
  unfold f1
  by_cases c : y = x
  · rw [if_pos c, c, h]
  · rw [if_neg c, sbs_v h2]
/-- what makes pairs alike goes by what un finds -/
theorem un_mgu {θ : Nat → TE} : ∀ (n : Nat) (ps : List (TE × TE)) (R : UR) (σ : List (Nat × TE)), un n ps = some (R, σ) → (∀ p ∈ ps, sbs θ p.1 = sbs θ p.2) → R.1 = 0 ∧ ∀ t, sbs θ (ap σ t) = sbs θ t
  | 0, _, _, _, h, _ => nomatch h
  | n + 1, [], R, σ, h, _ => by
    have e : ((0, -1, -1) : UR) = R := congrArg Prod.fst (Option.some.inj h)
    have e2 : [] = σ := congrArg Prod.snd (Option.some.inj h)
    rw [← e, ← e2]
    exact ⟨rfl, fun _ => rfl⟩
  | n + 1, p :: ps, R, σ, h, hp => by
    have hp0 := hp p List.mem_cons_self
    have hps := fun q hq => hp q (List.mem_cons_of_mem p hq)
    rw [un] at h
    by_cases c1 : teq p.1 p.2 = true
    · rw [if_pos c1] at h
      exact un_mgu n _ R σ h hps
    · rw [if_neg c1] at h
      have ne : p.1 ≠ p.2 := fun z => c1 ((teq_iff _ _).mpr z)
      by_cases c2 : kdT p.1 = 3 ∨ kdT p.2 = 3
      · rw [if_pos c2] at h
        obtain ⟨o, ho⟩ : ∃ o, o = (if kdT p.1 = 3 then p.2 else p.1) := ⟨_, rfl⟩
        obtain ⟨x, hx⟩ : ∃ x, x = vxT (if kdT p.1 = 3 then p.1 else p.2) := ⟨_, rfl⟩
        simp only [← ho, ← hx] at h
        obtain ⟨x2, hxo, nox⟩ : 2 ≤ x ∧ θ x = sbs θ o ∧ o ≠ .var x := by
          by_cases c4 : kdT p.1 = 3
          · rw [if_pos c4] at ho hx
            obtain ⟨k1, k2⟩ := kd3 c4
            rw [← hx] at k1 k2
            rw [k2, ← ho, sbs_v k1] at hp0
            exact ⟨k1, hp0, fun z => ne (by rw [k2, ← ho, z])⟩
          · rw [if_neg c4] at ho hx
            obtain ⟨k1, k2⟩ := kd3 (c2.resolve_left c4)
            rw [← hx] at k1 k2
            rw [k2, ← ho, sbs_v k1] at hp0
            exact ⟨k1, hp0.symm, fun z => ne (by rw [k2, ← ho, z])⟩
        by_cases c3 : oc x o = true
        · have := (sbs_sz (θ := θ) x2 c3).2 nox
          rw [hxo] at this
          exact absurd this (Nat.lt_irrefl _)
        · rw [if_neg c3] at h
          obtain ⟨w, hw, hh⟩ := Option.map_eq_some_iff.mp h
          have e1 : w.1 = R := congrArg Prod.fst hh
          have e2 : (x, o) :: w.2 = σ := congrArg Prod.snd hh
          obtain ⟨a1, a2⟩ := un_mgu n _ w.1 w.2 hw (fun q hq => by
            obtain ⟨q', hq', rfl⟩ := List.mem_map.mp hq
            show sbs θ (sb x o q'.1) = sbs θ (sb x o q'.2)
            rw [sbs_sb hxo, sbs_sb hxo]
            exact hps q' hq')
          rw [← e1, ← e2]
          exact ⟨a1, fun t => (a2 (sb x o t)).trans (sbs_sb hxo t)⟩
      · rw [if_neg c2] at h
        by_cases c3 : kdT p.1 = 2 ∧ kdT p.2 = 2
        · rw [if_pos c3] at h
          rw [kd2 c3.1, kd2 c3.2, sbs_o, sbs_o] at hp0
          injection hp0 with h1 h3
          refine un_mgu n _ R σ h (fun q hq => ?_)
          rcases List.mem_cons.mp hq with rfl | hq
          · exact h1
          · rcases List.mem_cons.mp hq with rfl | hq
            · exact h3
            · exact hps q hq
        · exfalso
          have lf : ∀ t : TE, kdT t ≠ 3 → kdT t ≠ 2 → sbs θ t = t := fun t h3 h2 => by
            cases t with
            | var y =>
              rw [kdT] at h3
              by_cases y2 : y < 2
              · exact sbs_v0 y2
              · rw [if_neg (by omega), if_neg (by omega)] at h3
                exact absurd rfl h3
            | op a b => exact absurd rfl h2
          have n1 : kdT p.1 ≠ 3 := fun z => c2 (Or.inl z)
          have n2 : kdT p.2 ≠ 3 := fun z => c2 (Or.inr z)
          by_cases k1 : kdT p.1 = 2
          · have k2 : kdT p.2 ≠ 2 := fun z => c3 ⟨k1, z⟩
            rw [kd2 k1, sbs_o, lf _ n2 k2] at hp0
            rw [← hp0] at k2
            exact k2 rfl
          · rw [lf _ n1 k1] at hp0
            by_cases k2 : kdT p.2 = 2
            · rw [kd2 k2, sbs_o] at hp0
              rw [hp0] at k1
              exact k1 rfl
            · rw [lf _ n2 k2] at hp0
              exact ne hp0
/-- the type of a sign, u for its variable -/
def sgI (c : Int) (u : TE) : TE := if c = 63 then .op (.var 1) (.op u (.op u u)) else .op (.var 0) (.op (.var 0) (.var (if c = 43 then 0 else 1)))
theorem sg_sg {c : Int} {nv : Nat} : sgT c nv = sgI c (.var nv) := rfl
theorem sg_sbs {c : Int} {u : TE} {θ : Nat → TE} : sbs θ (sgI c u) = sgI c (sbs θ u) := by
  unfold sgI
  by_cases h : c = 63
  · rw [if_pos h, if_pos h]
    rfl
  · rw [if_neg h, if_neg h]
    by_cases h4 : c = 43
    · rw [if_pos h4]; rfl
    · rw [if_neg h4]; rfl
/-- what the type of a node may be, the types of functions' names being given -/
def dvR (L : List Nd) (kp : Nat → Option TE) : Nat → Nat → (Nat → TE) → TE → Prop
  | 0, _, _, _ => False
  | f + 1, e, γ, t =>
    if TBL L 57 e = 0 then 0 ≤ bd (TBL L) e ∧ ((TBL L 57 (bd (TBL L) e).toNat = 4 ∧ t = γ (bd (TBL L) e).toNat) ∨ (TBL L 57 (bd (TBL L) e).toNat ≠ 4 ∧ dvR L kp f (fstN L (bd (TBL L) e).toNat) γ t))
    else if TBL L 57 e = 1 then ∃ R θ, kp (TBL L 58 e - 65).toNat = some R ∧ t = sbs θ R
    else if TBL L 57 e = 2 then t = .var 0
    else if TBL L 57 e = 3 then ∃ u, t = sgI (TBL L 58 e) u
    else if TBL L 57 e = 4 then ∃ a t', dvR L kp f (fstN L e) (upT γ e a) t' ∧ t = .op a t'
    else if TBL L 57 e = 5 then (∃ s, dvR L kp f (fstN L e) γ s) ∧ dvR L kp f (sndN L e) γ t
    else ∃ a, dvR L kp f (fstN L e) γ (.op a t) ∧ dvR L kp f (sndN L e) γ a
theorem dv_mono {L : List Nd} {kp : Nat → Option TE} : ∀ (f f' e : Nat) (γ : Nat → TE) (t : TE), f ≤ f' → dvR L kp f e γ t → dvR L kp f' e γ t
  | 0, _, _, _, _, _, h => h.elim
  | f + 1, 0, _, _, _, hf, _ => absurd hf (by omega)
  | f + 1, f' + 1, e, γ, t, hf, h => by
    have ih := fun e γ t => dv_mono (L := L) (kp := kp) f f' e γ t (by omega)
    rw [dvR] at h ⊢
    by_cases k0 : TBL L 57 e = 0
    · rw [if_pos k0] at h ⊢
      exact ⟨h.1, h.2.imp id (fun z => ⟨z.1, ih _ _ _ z.2⟩)⟩
    rw [if_neg k0] at h ⊢
    by_cases k1 : TBL L 57 e = 1
    · rw [if_pos k1] at h ⊢; exact h
    rw [if_neg k1] at h ⊢
    by_cases k2 : TBL L 57 e = 2
    · rw [if_pos k2] at h ⊢; exact h
    rw [if_neg k2] at h ⊢
    by_cases k3 : TBL L 57 e = 3
    · rw [if_pos k3] at h ⊢; exact h
    rw [if_neg k3] at h ⊢
    by_cases k4 : TBL L 57 e = 4
    · rw [if_pos k4] at h ⊢
      obtain ⟨a, t', h1, h2⟩ := h
      exact ⟨a, t', ih _ _ _ h1, h2⟩
    rw [if_neg k4] at h ⊢
    by_cases k5 : TBL L 57 e = 5
    · rw [if_pos k5] at h ⊢
      obtain ⟨⟨s, h1⟩, h2⟩ := h
      exact ⟨⟨s, ih _ _ _ h1⟩, ih _ _ _ h2⟩
    rw [if_neg k5] at h ⊢
    obtain ⟨a, h1, h2⟩ := h
    exact ⟨a, ih _ _ _ h1, ih _ _ _ h2⟩
def DV (L : List Nd) (kp : Nat → Option TE) (e : Nat) (γ : Nat → TE) (t : TE) : Prop := ∃ n, dvR L kp n e γ t
section DVs
variable {L : List Nd} {kp : Nat → Option TE} {e : Nat} {γ : Nat → TE} {t : TE}
theorem DV.nmf (k0 : TBL L 57 e = 0) (h0 : 0 ≤ bd (TBL L) e) (h4 : TBL L 57 (bd (TBL L) e).toNat = 4) : DV L kp e γ t ↔ t = γ (bd (TBL L) e).toNat := by
  constructor
  · rintro ⟨n, h⟩
    cases n with
    | zero => exact h.elim
    | succ n =>
      rw [dvR, if_pos k0] at h
      rcases h.2 with z | z
      · exact z.2
      · exact absurd h4 z.1
  · intro h
    exact ⟨1, by rw [dvR, if_pos k0]; exact ⟨h0, Or.inl ⟨h4, h⟩⟩⟩
theorem DV.bd0 (k0 : TBL L 57 e = 0) (h : DV L kp e γ t) : 0 ≤ bd (TBL L) e := by
  obtain ⟨n, h⟩ := h
  cases n with
  | zero => exact h.elim
  | succ n =>
    rw [dvR, if_pos k0] at h
    exact h.1
theorem DV.nml (k0 : TBL L 57 e = 0) (h0 : 0 ≤ bd (TBL L) e) (h4 : TBL L 57 (bd (TBL L) e).toNat ≠ 4) : DV L kp e γ t ↔ DV L kp (fstN L (bd (TBL L) e).toNat) γ t := by
  constructor
  · rintro ⟨n, h⟩
    cases n with
    | zero => exact h.elim
    | succ n =>
      rw [dvR, if_pos k0] at h
      rcases h.2 with z | z
      · exact absurd z.1 h4
      · exact ⟨n, z.2⟩
  · rintro ⟨n, h⟩
    exact ⟨n + 1, by rw [dvR, if_pos k0]; exact ⟨h0, Or.inr ⟨h4, h⟩⟩⟩
theorem DV.kpt (k1 : TBL L 57 e = 1) : DV L kp e γ t ↔ ∃ R θ, kp (TBL L 58 e - 65).toNat = some R ∧ t = sbs θ R := by
  have k0 : ¬ TBL L 57 e = 0 := by omega
  constructor
  · rintro ⟨n, h⟩
    cases n with
    | zero => exact h.elim
    | succ n => rw [dvR, if_neg k0, if_pos k1] at h; exact h
  · intro h
    exact ⟨1, by rw [dvR, if_neg k0, if_pos k1]; exact h⟩
theorem DV.num (k2 : TBL L 57 e = 2) : DV L kp e γ t ↔ t = .var 0 := by
  have k0 : ¬ TBL L 57 e = 0 := by omega
  have k1 : ¬ TBL L 57 e = 1 := by omega
  constructor
  · rintro ⟨n, h⟩
    cases n with
    | zero => exact h.elim
    | succ n => rw [dvR, if_neg k0, if_neg k1, if_pos k2] at h; exact h
  · intro h
    exact ⟨1, by rw [dvR, if_neg k0, if_neg k1, if_pos k2]; exact h⟩
theorem DV.sgn (k3 : TBL L 57 e = 3) : DV L kp e γ t ↔ ∃ u, t = sgI (TBL L 58 e) u := by
  have k0 : ¬ TBL L 57 e = 0 := by omega
  have k1 : ¬ TBL L 57 e = 1 := by omega
  have k2 : ¬ TBL L 57 e = 2 := by omega
  constructor
  · rintro ⟨n, h⟩
    cases n with
    | zero => exact h.elim
    | succ n => rw [dvR, if_neg k0, if_neg k1, if_neg k2, if_pos k3] at h; exact h
  · intro h
    exact ⟨1, by rw [dvR, if_neg k0, if_neg k1, if_neg k2, if_pos k3]; exact h⟩
theorem DV.fun (k4 : TBL L 57 e = 4) : DV L kp e γ t ↔ ∃ a t', DV L kp (fstN L e) (upT γ e a) t' ∧ t = .op a t' := by
  have k0 : ¬ TBL L 57 e = 0 := by omega
  have k1 : ¬ TBL L 57 e = 1 := by omega
  have k2 : ¬ TBL L 57 e = 2 := by omega
  have k3 : ¬ TBL L 57 e = 3 := by omega
  constructor
  · rintro ⟨n, h⟩
    cases n with
    | zero => exact h.elim
    | succ n =>
      rw [dvR, if_neg k0, if_neg k1, if_neg k2, if_neg k3, if_pos k4] at h
      obtain ⟨a, t', h1, h2⟩ := h
      exact ⟨a, t', ⟨n, h1⟩, h2⟩
  · rintro ⟨a, t', ⟨n, h1⟩, h2⟩
    exact ⟨n + 1, by rw [dvR, if_neg k0, if_neg k1, if_neg k2, if_neg k3, if_pos k4]; exact ⟨a, t', h1, h2⟩⟩
theorem DV.let (k5 : TBL L 57 e = 5) : DV L kp e γ t ↔ (∃ s, DV L kp (fstN L e) γ s) ∧ DV L kp (sndN L e) γ t := by
  have k0 : ¬ TBL L 57 e = 0 := by omega
  have k1 : ¬ TBL L 57 e = 1 := by omega
  have k2 : ¬ TBL L 57 e = 2 := by omega
  have k3 : ¬ TBL L 57 e = 3 := by omega
  have k4 : ¬ TBL L 57 e = 4 := by omega
  constructor
  · rintro ⟨n, h⟩
    cases n with
    | zero => exact h.elim
    | succ n =>
      rw [dvR, if_neg k0, if_neg k1, if_neg k2, if_neg k3, if_neg k4, if_pos k5] at h
      obtain ⟨⟨s, h1⟩, h2⟩ := h
      exact ⟨⟨s, n, h1⟩, n, h2⟩
  · rintro ⟨⟨s, n, h1⟩, m, h2⟩
    refine ⟨max n m + 1, ?_⟩
    rw [dvR, if_neg k0, if_neg k1, if_neg k2, if_neg k3, if_neg k4, if_pos k5]
    exact ⟨⟨s, dv_mono n _ _ _ _ (by omega) h1⟩, dv_mono m _ _ _ _ (by omega) h2⟩
theorem DV.app (k6 : TBL L 57 e = 6) : DV L kp e γ t ↔ ∃ a, DV L kp (fstN L e) γ (.op a t) ∧ DV L kp (sndN L e) γ a := by
  have k0 : ¬ TBL L 57 e = 0 := by omega
  have k1 : ¬ TBL L 57 e = 1 := by omega
  have k2 : ¬ TBL L 57 e = 2 := by omega
  have k3 : ¬ TBL L 57 e = 3 := by omega
  have k4 : ¬ TBL L 57 e = 4 := by omega
  have k5 : ¬ TBL L 57 e = 5 := by omega
  constructor
  · rintro ⟨n, h⟩
    cases n with
    | zero => exact h.elim
    | succ n =>
      rw [dvR, if_neg k0, if_neg k1, if_neg k2, if_neg k3, if_neg k4, if_neg k5] at h
      obtain ⟨a, h1, h2⟩ := h
      exact ⟨a, ⟨n, h1⟩, n, h2⟩
  · rintro ⟨a, ⟨n, h1⟩, m, h2⟩
    refine ⟨max n m + 1, ?_⟩
    rw [dvR, if_neg k0, if_neg k1, if_neg k2, if_neg k3, if_neg k4, if_neg k5]
    exact ⟨a, dv_mono n _ _ _ _ (by omega) h1, dv_mono m _ _ _ _ (by omega) h2⟩
/-- only the functions around matter -/
theorem dv_cg (hl : L.length ≤ 120) (hA : ∀ x, x < L.length → NdP L x) : ∀ (f e : Nat) (γ γ' : Nat → TE) (t : TE), e < L.length → (∀ k ∈ envN L e, γ k = γ' k) → dvR L kp f e γ t → dvR L kp f e γ' t
  | 0, _, _, _, _, _, _, h => h.elim
  | f + 1, e, γ, γ', t, he, hg, h => by
    have nd := hA e he
    rw [dvR] at h ⊢
    by_cases k0 : TBL L 57 e = 0
    · rw [if_pos k0] at h ⊢
      obtain ⟨h0, h1⟩ := h
      refine ⟨h0, ?_⟩
      have g := (TBL_gd (L := L) e he).1
      have ba : (bd (TBL L) e).toNat ∈ ancN L e := (bd_anc (L := L) (nd := e) 130 (e : Int) (TBL L 61 e) (Int.le_refl _) (by omega) (by omega) h0).1
      rcases h1 with ⟨z1, z2⟩ | ⟨z1, z2⟩
      · exact Or.inl ⟨z1, by rw [z2]; exact hg _ (env_mem.mpr ⟨ba, z1⟩)⟩
      · have hb := bdL hl hA he h0 z1
        have hbl : (bd (TBL L) e).toNat < L.length := by have := anc_lt' he ba; omega
        rcases hA _ hbl with w | w | ⟨w0, -, -, w1, w2, w3, w4, w5⟩
        · have := hb.2.1; omega
        · omega
        refine Or.inr ⟨z1, dv_cg hl hA f _ γ γ' t (by omega) (fun k hk => hg k ?_) z2⟩
        rw [w1] at hk
        rcases (env_c4 hl (by omega) w4).mp hk with ⟨-, y⟩ | y
        · exact absurd y z1
        · exact env_sub hl he ba y
    rw [if_neg k0] at h ⊢
    by_cases k1 : TBL L 57 e = 1
    · rw [if_pos k1] at h ⊢; exact h
    rw [if_neg k1] at h ⊢
    by_cases k2 : TBL L 57 e = 2
    · rw [if_pos k2] at h ⊢; exact h
    rw [if_neg k2] at h ⊢
    by_cases k3 : TBL L 57 e = 3
    · rw [if_pos k3] at h ⊢; exact h
    rw [if_neg k3] at h ⊢
    by_cases k4 : TBL L 57 e = 4
    · rw [if_pos k4] at h ⊢
      rcases nd with w | ⟨-, -, w1, w2, w3⟩ | w
      · omega
      · obtain ⟨a, t', h1, h2⟩ := h
        refine ⟨a, t', dv_cg hl hA f _ _ _ t' (by omega) (fun k hk => ?_) h1, h2⟩
        rw [w1] at hk
        rcases (env_c4 hl w2 w3).mp hk with ⟨rfl, -⟩ | y
        · rw [upT_s, upT_s]
        · have := anc_lt' he (env_mem.mp y).1
          rw [upT_n (by omega), upT_n (by omega)]
          exact hg k y
      · omega
    rw [if_neg k4] at h ⊢
    rcases nd with w | w | ⟨w0, -, -, w1, w2, w3, w4, w5⟩
    · omega
    · omega
    have g1 : ∀ k ∈ envN L (fstN L e), γ k = γ' k := fun k hk => by
      rw [w1] at hk
      rcases (env_c4 hl (by omega) w4).mp hk with ⟨-, y⟩ | y
      · exact absurd y k4
      · exact hg k y
    have g2 : ∀ k ∈ envN L (sndN L e), γ k = γ' k := fun k hk => by
      rcases (env_c4 hl w3 w5).mp hk with ⟨-, y⟩ | y
      · exact absurd y k4
      · exact hg k y
    by_cases k5 : TBL L 57 e = 5
    · rw [if_pos k5] at h ⊢
      obtain ⟨⟨s, h1⟩, h2⟩ := h
      exact ⟨⟨s, dv_cg hl hA f _ _ _ s (by omega) g1 h1⟩, dv_cg hl hA f _ _ _ t w3 g2 h2⟩
    rw [if_neg k5] at h ⊢
    obtain ⟨a, h1, h2⟩ := h
    exact ⟨a, dv_cg hl hA f _ _ _ _ (by omega) g1 h1, dv_cg hl hA f _ _ _ a w3 g2 h2⟩
theorem DV.cg (hl : L.length ≤ 120) (hA : ∀ x, x < L.length → NdP L x) {γ' : Nat → TE} (he : e < L.length) (hg : ∀ k ∈ envN L e, γ k = γ' k) (h : DV L kp e γ t) : DV L kp e γ' t := by
  obtain ⟨n, h⟩ := h
  exact ⟨n, dv_cg hl hA n e γ γ' t he hg h⟩
end DVs
