/-! both ways find the same row (pure) -/
/-- types that go over into each other have one row -/
theorem cn_alike {a b : TE} {θ θ' : Nat → TE} (h1 : sbs θ a = b) (h2 : sbs θ' b = a) : (cnT b []).1 = (cnT a []).1 := by
  have hid : ∀ x, 2 ≤ x → oc x a = true → ∃ y, θ x = .var y ∧ 2 ≤ y ∧ θ' y = .var x := fun x x2 xo => by
    have e : sbs θ' (sbs θ a) = sbs (fun z => .var z) a := by rw [h1, h2, sbs_id]
    rw [sbs_comp] at e
    have := sbs_in e x x2 xo
    have this : sbs θ' (θ x) = .var x := this
    cases hθ : θ x with
    | var y =>
      rw [hθ] at this
      by_cases y2 : y < 2
      · rw [sbs_v0 y2] at this
        injection this with z
        omega
      · rw [sbs_v (by omega)] at this
        exact ⟨y, rfl, by omega, this⟩
    | op u v => rw [hθ, sbs_o] at this; exact nomatch this
  obtain ⟨ρ, hρ⟩ : ∃ ρ : Nat → Nat, ρ = fun x => vxT (θ x) := ⟨_, rfl⟩
  have hv : ∀ x, 2 ≤ x → oc x a = true → θ x = .var (ρ x) ∧ 2 ≤ ρ x ∧ θ' (ρ x) = .var x := fun x x2 xo => by
    obtain ⟨y, y1, y2, y3⟩ := hid x x2 xo
    have : ρ x = y := by rw [hρ]; show vxT (θ x) = y; rw [y1]; rfl
    rw [this]
    exact ⟨y1, y2, y3⟩
  have hb : b = nmT ρ a := by
    rw [← h1]
    exact sbs_cg a (fun x x2 xo => (hv x x2 xo).1)
  have hi : InjP (fun x => 2 ≤ x ∧ oc x a = true) ρ := ⟨fun x y hx hy e => by
    have e1 := (hv x hx.1 hx.2).2.2
    have e2 := (hv y hy.1 hy.2).2.2
    rw [e, e2] at e1
    injection e1 with e1
    exact e1.symm, fun x hx => ⟨hx.1, (hv x hx.1 hx.2).2.1⟩⟩
  have := (cn_nm hi a [] (fun x x2 xo => ⟨x2, xo⟩) (fun y hy => absurd hy List.not_mem_nil)).1
  have this : cnT (nmT ρ a) [] = ((cnT a []).1, (cnT a []).2.map ρ) := this
  rw [hb, this]
/-- at the root nothing is around -/
theorem env_0 {L : List Nd} (h : TBL L 61 0 < 0) : ∀ k, k ∉ envN L 0 := fun k hk => by
  have := env_anc hk
  rw [anc_0 h] at this
  exact List.not_mem_nil this
theorem wy_row {L : List Nd} {kp : Nat → Option TE} {T : TE} (hs : shT T L) (hnd : ∀ x ∈ L, ndOK x) (hl : L.length ≤ 120) (hkp : ∀ c R, kp c = some R → ∀ x, 2 ≤ x → oc x R = true → x < 210) {r : IR} {S : IS} (hf : fnR L kp r S) (hr : r.1 = 0) {o : WO} (ho : wyR L kp 301 0 300 2 (fun _ => .var 0) o) :
    (∀ g' nv' G' σ t, o = some (g', nv', G', σ, t) → (cnT t []).1 = (cnT (S.2.1 0) []).1) ∧ (∀ y, agR L y → (y ≤ 300 → o ≠ none) ∧ (300 < y → o = none)) := by
  have hA := tmAok hs hnd hl
  have h0 : 0 < L.length := List.length_pos_iff.mpr (sh_ne hs)
  have k61 : TBL L 61 0 < 0 := by have := (TBL_gd (L := L) 0 h0).1; omega
  have v0 : ∀ k : Nat, LtT 2 (((fun _ => .var 0) : Nat → TE) k) := fun k => vsT_var (fun z => by omega)
  obtain ⟨r0, f1, f2, f3⟩ := hf
  have e0 : r0.1 = 0 := Decidable.byContradiction fun z => z (by rw [← f2 z]; exact hr)
  have anc0 : ∀ b, b ∉ ancN L 0 := fun b hb => by rw [anc_0 k61] at hb; exact List.not_mem_nil hb
  have hP : PreL L IS0 0 L.length := ⟨fun k hk => absurd hk (env_0 k61 k), fun b hb => absurd hb (anc0 b), fun x hx => Bool.noConfusion hx, Nat.le_refl _⟩
  obtain ⟨a1, a2⟩ := in_all (kp := kp) hA hnd hkp T 130 [] L [] IS0 S r0 (by simp) hs f1 e0 hP (fun k => ⟨v0 k, v0 k⟩) (fun b hb => absurd hb (anc0 b))
  have a1 : SndP L kp S 0 := a1
  have a2 : ∀ (θ : Nat → TE) (t : TE), DV L kp 0 (fun k => sbs θ (IS0.2.2.1 k)) t → ∃ θ' : Nat → TE, sbs θ' (S.2.1 0) = t := fun θ t hd => by
    obtain ⟨θ', b1, -⟩ := a2 θ t hd
    exact ⟨θ', b1⟩
  have any : ∀ {γ γ' : Nat → TE} {t : TE}, DV L kp 0 γ t → DV L kp 0 γ' t := fun {γ γ' t} hd => hd.cg hl hA.2.1 h0 (fun k hk => absurd hk (env_0 k61 k))
  have d1 : DV L kp 0 (fun k => sbs (fun x => .var x) (((fun _ => .var 0) : Nat → TE) k)) (S.2.1 0) := by
    have := a1 (fun x => .var x)
    rw [sbs_id] at this
    exact any this
  refine ⟨fun g' nv' G' σ t w1 => ?_, fun y hy => ?_⟩
  · rw [w1] at ho
    have s1 := wy_snd hA hkp 301 0 300 2 _ g' nv' G' σ t ho h0 (Nat.le_refl _) v0 (by decide) (fun x => .var x)
    rw [sbs_id] at s1
    obtain ⟨θ2, s2⟩ := a2 (fun x => .var x) t (any s1)
    obtain ⟨g2, nv2, G2, σ2, t2, θ1, w0, w2, -⟩ := wy_cmp (c := fun _ => 0) hA hkp 301 0 300 2 _ _ ho (by decide) h0 (Nat.le_refl _) v0 (by decide) _ _ d1 (Or.inr (fun z => nomatch z))
    have et : t = t2 := congrArg (fun z => z.2.2.2.2) (Option.some.inj w0)
    rw [← et] at w2
    exact cn_alike s2 w2
  · obtain ⟨c, hc, hyc⟩ := hy
    have hC := cos_S hc
    refine ⟨fun y3 => ?_, fun y3 => ?_⟩
    · obtain ⟨g', nv', G', σ, t, θ1, w1, -⟩ := wy_cmp hA hkp 301 0 300 2 _ o ho (by decide) h0 (Nat.le_refl _) v0 (by decide) _ _ d1 (Or.inl ⟨hC, by omega⟩)
      rw [w1]
      exact fun z => nomatch z
    · cases o with
      | none => rfl
      | some w =>
        obtain ⟨g', nv', G', σ, t⟩ := w
        have := (wy_ok (c := c) hA hkp 301 0 300 2 _ g' nv' G' σ t ho h0 (Nat.le_refl _) v0 (by decide)).2.2.2.2.2.1 hC
        omega
