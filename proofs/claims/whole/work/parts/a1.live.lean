/-! which variables a part of a term can change: those of what is around it, and new ones -/
theorem ap_lf : ∀ (σ : List (Nat × TE)) (x : Nat), x < 2 → ap σ (.var x) = .var x
  | [], _, _ => rfl
  | q :: σ, x, h => by
    show ap σ (sb q.1 q.2 (.var x)) = _
    rw [sb_lf (Or.inl h)]
    exact ap_lf σ x h
theorem ap_op : ∀ (σ : List (Nat × TE)) (a b : TE), ap σ (.op a b) = .op (ap σ a) (ap σ b)
  | [], _, _ => rfl
  | q :: σ, a, b => ap_op σ _ _
theorem ap_app : ∀ (σ ρ : List (Nat × TE)) (t : TE), ap (σ ++ ρ) t = ap ρ (ap σ t)
  | [], _, _ => rfl
  | q :: σ, ρ, t => ap_app σ ρ _
theorem oc_ap {σ : List (Nat × TE)} {y : Nat} (hy : 2 ≤ y) : ∀ {t : TE}, oc y (ap σ t) = true → ∃ x, 2 ≤ x ∧ oc x t = true ∧ oc y (ap σ (.var x)) = true
  | .var x, h => by
    by_cases c : x < 2
    · rw [ap_lf σ x c] at h
      have : x = y := by simpa [oc] using h
      omega
    · exact ⟨x, by omega, by simp [oc], h⟩
  | .op a b, h => by
    rw [ap_op] at h
    simp only [oc, Bool.or_eq_true] at h
    rcases h with h | h
    · obtain ⟨x, h1, h2, h3⟩ := oc_ap hy h
      exact ⟨x, h1, by simp [oc, h2], h3⟩
    · obtain ⟨x, h1, h2, h3⟩ := oc_ap hy h
      exact ⟨x, h1, by simp [oc, h2], h3⟩
theorem ap_oc {σ : List (Nat × TE)} {x y : Nat} : ∀ {t : TE}, oc x t = true → oc y (ap σ (.var x)) = true → oc y (ap σ t) = true
  | .var z, h, g => by
    have : z = x := by simpa [oc] using h
    rw [this]; exact g
  | .op a b, h, g => by
    rw [ap_op]
    simp only [oc, Bool.or_eq_true] at h ⊢
    rcases h with h | h
    · exact Or.inl (ap_oc h g)
    · exact Or.inr (ap_oc h g)
/-- σ leaves x alone -/
def fxS (σ : List (Nat × TE)) (x : Nat) : Prop := ap σ (.var x) = .var x
theorem fx_oc {σ : List (Nat × TE)} {x : Nat} {t : TE} (h : fxS σ x) (ho : oc x t = true) : oc x (ap σ t) = true := ap_oc ho (by rw [h]; simp [oc])
theorem vs_fx {P : Nat → Prop} : ∀ {σ : List (Nat × TE)} {x : Nat}, vsS P σ → ¬ P x → fxS σ x
  | [], _, _, _ => rfl
  | q :: σ, x, h, hx => by
    have h1 := (h q List.mem_cons_self).1.2
    show ap σ (sb q.1 q.2 (.var x)) = _
    rw [sb_lf (Or.inr (fun z => hx (by rw [z]; exact h1)))]
    exact vs_fx (fun w hw => h w (List.mem_cons_of_mem _ hw)) hx
theorem vs_ap {P Q : Nat → Prop} (hPQ : ∀ x, P x → Q x) : ∀ {σ : List (Nat × TE)} {t : TE}, vsS P σ → vsT Q t → vsT Q (ap σ t)
  | [], _, _, h => h
  | q :: σ, t, hs, h => by
    have h1 := h
    exact vs_ap hPQ (σ := σ) (fun w hw => hs w (List.mem_cons_of_mem _ hw)) (vsT_sb (vsT_mono (hs q List.mem_cons_self).2 (fun x _ hp => hPQ x hp)) h1)
/-- what is put in stays -/
def idS (σ : List (Nat × TE)) : Prop := ∀ x y, 2 ≤ y → oc y (ap σ (.var x)) = true → fxS σ y
theorem un_id {P : Nat → Prop} : ∀ (n : Nat) (ps : List (TE × TE)) (r : UR) (σ : List (Nat × TE)), vsP P ps → un n ps = some (r, σ) → idS σ
  | 0, _, _, _, _, h => nomatch h
  | n + 1, [], r, σ, _, h => by
    have e : σ = [] := (congrArg Prod.snd (Option.some.inj h)).symm
    rw [e]
    exact fun x y _ _ => rfl
  | n + 1, p :: ps, r, σ, hp, h => by
    obtain ⟨h1, h2⟩ := hp p List.mem_cons_self
    have hps : vsP P ps := fun q hq => hp q (List.mem_cons_of_mem _ hq)
    have nil : ∀ τ : List (Nat × TE), τ = [] → idS τ := fun τ e => by rw [e]; exact fun x y _ _ => rfl
    rw [un] at h
    by_cases e : teq p.1 p.2 = true
    · rw [if_pos e] at h
      exact un_id n ps r σ hps h
    rw [if_neg e] at h
    by_cases e2 : kdT p.1 = 3 ∨ kdT p.2 = 3
    · rw [if_pos e2] at h
      simp only at h
      have hx : 2 ≤ vxT (if kdT p.1 = 3 then p.1 else p.2) := by
        by_cases g : kdT p.1 = 3
        · rw [if_pos g]; exact (kd3 g).1
        · rw [if_neg g]; exact (kd3 (e2.resolve_left g)).1
      generalize vxT (if kdT p.1 = 3 then p.1 else p.2) = x0 at *
      generalize (if kdT p.1 = 3 then p.2 else p.1) = o at *
      by_cases e3 : oc x0 o = true
      · rw [if_pos e3] at h
        exact nil _ (congrArg Prod.snd (Option.some.inj h)).symm
      · rw [if_neg e3] at h
        have e3 : oc x0 o = false := by simpa using e3
        obtain ⟨q, q1, q2⟩ := Option.map_eq_some_iff.mp h
        have e5 : σ = (x0, o) :: q.2 := (congrArg Prod.snd q2).symm
        have nx : ∀ t : TE, oc x0 (sb x0 o t) = false := by
          intro t
          induction t with
          | var y =>
            by_cases c : y < 2 ∨ y ≠ x0
            · rw [sb_lf c]
              show (y == x0) = false
              exact beq_eq_false_iff_ne.mpr (by omega)
            · have : y = x0 := by omega
              rw [this, sb_var hx]; exact e3
          | op a b ia ib =>
            rw [sb_op]
            simp [oc, ia, ib]
        have vq : vsP (fun y => y ≠ x0) (ps.map (fun p => (sb x0 o p.1, sb x0 o p.2))) := fun z hz => by
          obtain ⟨y, hy, rfl⟩ := List.mem_map.mp hz
          have k : ∀ t, vsT (fun y => y ≠ x0) (sb x0 o t) := fun t w _ ho hw => by
            rw [hw, nx] at ho; exact Bool.noConfusion ho
          exact ⟨k _, k _⟩
        have iq := un_id n _ q.1 q.2 vq q1
        have sq := un_vs n _ q.1 q.2 vq q1
        rw [e5]
        intro x y hy ho
        have ho : oc y (ap q.2 (sb x0 o (.var x))) = true := ho
        obtain ⟨w, w1, w2, w3⟩ := oc_ap hy ho
        have wn : w ≠ x0 := fun z => by rw [z, nx] at w2; exact Bool.noConfusion w2
        have yn : y ≠ x0 := by
          have := vs_ap (P := fun y => y ≠ x0) (Q := fun y => y ≠ x0) (fun _ h => h) sq (vsT_var (fun _ => wn)) y hy w3
          exact this
        show ap q.2 (sb x0 o (.var y)) = .var y
        rw [sb_lf (Or.inr yn)]
        exact iq w y hy w3
    · rw [if_neg e2] at h
      by_cases e3 : kdT p.1 = 2 ∧ kdT p.2 = 2
      · rw [if_pos e3] at h
        refine un_id (P := P) n _ r σ (fun z hz => ?_) h
        have k1 := kd2 e3.1
        have k2 := kd2 e3.2
        rw [k1] at h1
        rw [k2] at h2
        rcases List.mem_cons.mp hz with rfl | hz
        · exact ⟨(vsT_op.mp h1).1, (vsT_op.mp h2).1⟩
        rcases List.mem_cons.mp hz with rfl | hz
        · exact ⟨(vsT_op.mp h1).2, (vsT_op.mp h2).2⟩
        · exact hps z hz
      · rw [if_neg e3] at h
        exact nil _ (congrArg Prod.snd (Option.some.inj h)).symm
/-- x is a variable of what is around -/
def evV (S : IS) (E : List Nat) (x : Nat) : Prop := ∃ k ∈ E, oc x (S.2.2.1 k) = true
/-- from S to S' by σ, nodes from lo to hi being new; nv: names that are new are from here on -/
def StpL (E : List Nat) (nv lo hi : Nat) (S S' : IS) (σ : List (Nat × TE)) : Prop :=
  (∀ k, (k < lo ∨ hi ≤ k) → S'.2.1 k = ap σ (S.2.1 k) ∧ S'.2.2.1 k = ap σ (S.2.2.1 k)) ∧
  (S.1 ≤ S'.1 ∧ (∀ x, S.2.2.2 x = true → S'.2.2.2 x = true) ∧ (∀ x, 2 ≤ x → S'.2.2.2 x = true → S.2.2.2 x = true ∨ nv ≤ x) ∧ (∀ x, S'.2.2.2 x = true → x < S'.1)) ∧
  (∀ x, 2 ≤ x → fxS σ x ∨ ((evV S E x ∨ nv ≤ x) ∧ ∀ y, 2 ≤ y → oc y (ap σ (.var x)) = true → evV S E y ∨ nv ≤ y)) ∧
  idS σ ∧ (∀ x, S'.1 ≤ x → fxS σ x) ∧ ∀ k ∈ E, ∀ x, 2 ≤ x → oc x (S'.2.2.1 k) = true → S'.2.2.2 x = false ∧ x < S'.1
/-- a tree that was there: its variables afterwards -/
theorem StpL.old {E : List Nat} {nv lo hi : Nat} {S S' : IS} {σ : List (Nat × TE)} (h : StpL E nv lo hi S S' σ) (hE : ∀ k ∈ E, k < lo) {X : TE} {y : Nat} (hy : 2 ≤ y) (ho : oc y (ap σ X) = true) : (oc y X = true ∧ fxS σ y) ∨ (∃ x, 2 ≤ x ∧ oc x X = true ∧ (evV S E x ∨ nv ≤ x) ∧ oc y (ap σ (.var x)) = true ∧ (evV S E x → evV S' E y)) := by
  obtain ⟨x, x1, x2, x3⟩ := oc_ap hy ho
  rcases h.2.2.1 x x1 with h1 | ⟨h1, -⟩
  · rw [h1] at x3
    have : x = y := by simpa [oc] using x3
    rw [← this]
    exact Or.inl ⟨x2, h1⟩
  · refine Or.inr ⟨x, x1, x2, h1, x3, fun ⟨k, k1, k2⟩ => ⟨k, k1, ?_⟩⟩
    rw [(h.1 k (Or.inl (hE k k1))).2]
    exact ap_oc k2 x3
theorem StpL.ev {E : List Nat} {nv lo hi : Nat} {S S' : IS} {σ : List (Nat × TE)} (h : StpL E nv lo hi S S' σ) (hE : ∀ k ∈ E, k < lo) {y : Nat} (hy : 2 ≤ y) (ho : evV S' E y) : fxS σ y ∧ (evV S E y ∨ nv ≤ y) := by
  obtain ⟨k, k1, k2⟩ := ho
  rw [(h.1 k (Or.inl (hE k k1))).2] at k2
  obtain ⟨x, x1, x2, x3⟩ := oc_ap hy k2
  refine ⟨h.2.2.2.1 x y hy x3, ?_⟩
  rcases h.2.2.1 x x1 with h1 | ⟨-, h1⟩
  · rw [h1] at x3
    have : x = y := by simpa [oc] using x3
    rw [← this]
    exact Or.inl ⟨k, k1, x2⟩
  · exact h1 y hy x3
theorem fx_app {σ ρ : List (Nat × TE)} {x : Nat} (h1 : fxS σ x) (h2 : fxS ρ x) : fxS (σ ++ ρ) x := by
  unfold fxS at *
  rw [ap_app, h1, h2]
/-- one step after the other -/
theorem StpL.tr {E : List Nat} {nv nv1 lo hi lo1 hi1 lo2 hi2 : Nat} {S S1 S2 : IS} {σ ρ : List (Nat × TE)} (h1 : StpL E nv lo1 hi1 S S1 σ) (h2 : StpL E nv1 lo2 hi2 S1 S2 ρ) (hE : ∀ k ∈ E, k < lo) (hlo : lo ≤ lo1 ∧ lo ≤ lo2 ∧ hi1 ≤ hi ∧ hi2 ≤ hi) (hnv : nv ≤ nv1) (hf : ∀ y, 2 ≤ y → nv1 ≤ y → (∃ x, ¬ fxS ρ x ∧ oc y (ap ρ (.var x)) = true) → fxS σ y) : StpL E nv lo hi S S2 (σ ++ ρ) := by
  have hE1 : ∀ k ∈ E, k < lo1 := fun k hk => by have := hE k hk; omega
  have cv : ∀ y, 2 ≤ y → evV S1 E y ∨ nv1 ≤ y → evV S E y ∨ nv ≤ y := fun y hy h => by
    rcases h with h | h
    · exact (h1.ev hE1 hy h).2
    · exact Or.inr (by omega)
  refine ⟨fun k hk => ?_, ⟨by have := h1.2.1.1; have := h2.2.1.1; omega, fun x hx => h2.2.1.2.1 x (h1.2.1.2.1 x hx), fun x hx2 hx => ?_, h2.2.1.2.2.2⟩, fun x hx => ?_, fun x y hy ho => ?_, fun x hx => fx_app (h1.2.2.2.2.1 x (by have := h2.2.1.1; omega)) (h2.2.2.2.2.1 x hx), h2.2.2.2.2.2⟩
  · rw [ap_app, ap_app]
    rw [(h2.1 k (by omega)).1, (h2.1 k (by omega)).2, (h1.1 k (by omega)).1, (h1.1 k (by omega)).2]
    exact ⟨rfl, rfl⟩
  · rcases h2.2.1.2.2.1 x hx2 hx with h | h
    · exact h1.2.1.2.2.1 x hx2 h
    · exact Or.inr (by omega)
  · rcases h1.2.2.1 x hx with a | ⟨a, b⟩
    · rcases h2.2.2.1 x hx with c | ⟨c, d⟩
      · exact Or.inl (fx_app a c)
      · refine Or.inr ⟨cv x hx c, fun y hy ho => ?_⟩
        rw [ap_app, a] at ho
        exact cv y hy (d y hy ho)
    · refine Or.inr ⟨a, fun y hy ho => ?_⟩
      rw [ap_app] at ho
      obtain ⟨w, w1, w2, w3⟩ := oc_ap hy ho
      rcases h2.2.2.1 w w1 with c | ⟨-, d⟩
      · rw [c] at w3
        have : w = y := by simpa [oc] using w3
        rw [← this]
        exact b w w1 w2
      · exact cv y hy (d y hy w3)
  · rw [ap_app] at ho
    obtain ⟨w, w1, w2, w3⟩ := oc_ap hy ho
    refine fx_app ?_ (h2.2.2.2.1 w y hy w3)
    rcases h2.2.2.1 w w1 with c | ⟨-, d⟩
    · rw [c] at w3
      have : w = y := by simpa [oc] using w3
      rw [← this]
      exact h1.2.2.2.1 x w w1 w2
    · rcases d y hy w3 with d | d
      · exact (h1.ev hE1 hy d).1
      · by_cases c : fxS ρ w
        · rw [c] at w3
          have : w = y := by simpa [oc] using w3
          rw [← this]
          exact h1.2.2.2.1 x w w1 w2
        · exact hf y hy d ⟨w, c, w3⟩
theorem anc_tr {L : List Nd} (hl : L.length ≤ 120) {b j : Nat} (hj : j ∈ ancN L b) : ∀ (n e : Nat), e ≤ n → e < L.length → b ∈ ancN L e → j ∈ ancN L e := by
  intro n
  induction n with
  | zero =>
    intro e he hL hb
    have e0 : e = 0 := by omega
    subst e0
    have := (TBL_gd (L := L) 0 hL).1
    rw [ancN, arN', if_pos (by omega)] at hb
    exact nomatch hb
  | succ n ih =>
    intro e he hL hb
    have g := (TBL_gd (L := L) e hL).1
    by_cases c : TBL L 61 e < 0
    · rw [ancN, arN', if_pos c] at hb
      exact nomatch hb
    · have h61 : TBL L 61 e = ((TBL L 61 e).toNat : Int) := by omega
      rw [anc_st hl hL h61] at hb ⊢
      rcases List.mem_cons.mp hb with rfl | hb
      · exact List.mem_cons_of_mem _ hj
      · exact List.mem_cons_of_mem _ (ih _ (by omega) (by omega) hb)
theorem anc_lt' {L : List Nd} {e b : Nat} (he : e < L.length) (h : b ∈ ancN L e) : b < e := by
  have g := (TBL_gd (L := L) e he).1
  have := anc_lt 130 (TBL L 61 e) (by omega) b h
  omega
theorem env_mem {L : List Nd} {e k : Nat} : k ∈ envN L e ↔ k ∈ ancN L e ∧ TBL L 57 k = 4 := by
  show k ∈ (ancN L e).filter (fun k => TBL L 57 k == 4) ↔ _
  rw [List.mem_filter]
  simp
theorem env_sub {L : List Nd} (hl : L.length ≤ 120) {e b : Nat} (he : e < L.length) (h : b ∈ ancN L e) {k : Nat} (hk : k ∈ envN L b) : k ∈ envN L e := by
  obtain ⟨h1, h2⟩ := env_mem.mp hk
  exact env_mem.mpr ⟨anc_tr hl h1 e e (Nat.le_refl _) he h, h2⟩
theorem env_c4 {L : List Nd} (hl : L.length ≤ 120) {c e : Nat} (hc : c < L.length) (h : TBL L 61 c = (e : Int)) {k : Nat} : k ∈ envN L c ↔ (k = e ∧ TBL L 57 e = 4) ∨ k ∈ envN L e := by
  rw [env_mem, env_mem, anc_st hl hc h, List.mem_cons]
  constructor
  · rintro ⟨rfl | h1, h2⟩
    · exact Or.inl ⟨rfl, h2⟩
    · exact Or.inr ⟨h1, h2⟩
  · rintro (⟨rfl, h2⟩ | ⟨h1, h2⟩)
    · exact ⟨Or.inl rfl, h2⟩
    · exact ⟨Or.inr h1, h2⟩
theorem gnO_no {gn : Nat → Bool} : ∀ {t : TE}, (∀ x, 2 ≤ x → oc x t = true → gn x = false) → gnO gn t = false
  | .var y, h => by
    rw [gnO]
    by_cases c : 2 ≤ y
    · rw [h y c (by simp [oc])]; simp
    · simp; omega
  | .op a b, h => by
    rw [gnO, gnO_no (fun x h2 ho => h x h2 (by simp [oc, ho])), gnO_no (fun x h2 ho => h x h2 (by simp [oc, ho]))]
    rfl
theorem gsz_0 {gn : Nat → Bool} {T : TE} (hT : gnO gn T = false) : gsz gn T = 0 ∧ gop gn T = 0 := by
  cases T with
  | var y => rw [gsz, if_neg (by rw [hT]; decide)]; exact ⟨rfl, rfl⟩
  | op y z => rw [gsz, gop, if_neg (by rw [hT]; decide), if_neg (by rw [hT]; decide)]; exact ⟨rfl, rfl⟩
theorem gsz_le {gn : Nat → Bool} : ∀ T : TE, gsz gn T ≤ sz T ∧ gop gn T ≤ opsT T
  | .var y => by
    rw [gsz, gop]
    split
    · exact ⟨Nat.le_refl _, Nat.le_refl _⟩
    · exact ⟨Nat.zero_le _, Nat.le_refl _⟩
  | .op a b => by
    have h1 := gsz_le (gn := gn) a
    have h2 := gsz_le (gn := gn) b
    rw [gsz, gop]
    simp only [sz, opsT]
    split <;> omega
/-- what is copied stays as large -/
theorem gsz_ap {gn gn' : Nat → Bool} {σ : List (Nat × TE)} : ∀ {X : TE}, (∀ x, 2 ≤ x → oc x X = true → (gn x = true ∧ gn' x = true ∧ fxS σ x) ∨ (gn x = false ∧ ∀ y, 2 ≤ y → oc y (ap σ (.var x)) = true → gn' y = false)) → gnO gn' (ap σ X) = gnO gn X ∧ gsz gn' (ap σ X) = gsz gn X ∧ gop gn' (ap σ X) = gop gn X
  | .var x, h => by
    by_cases c : 2 ≤ x
    · rcases h x c (by simp [oc]) with ⟨h1, h2, h3⟩ | ⟨h1, h2⟩
      · rw [h3]
        have e1 : gnO gn' (.var x) = true := by rw [gnO, h2]; simp [c]
        have e2 : gnO gn (.var x) = true := by rw [gnO, h1]; simp [c]
        rw [e1, e2, gsz, gsz, gop, gop, if_pos e1, if_pos e2]
        exact ⟨rfl, rfl, rfl⟩
      · have e1 := gnO_no h2
        have e2 : gnO gn (.var x) = false := by rw [gnO, h1]; simp
        rw [e1, e2, (gsz_0 e1).1, (gsz_0 e1).2, (gsz_0 e2).1, (gsz_0 e2).2]
        exact ⟨rfl, rfl, rfl⟩
    · rw [ap_lf σ x (by omega)]
      have e : ∀ g : Nat → Bool, gnO g (.var x) = false := fun g => by rw [gnO]; simp; omega
      rw [e, e, (gsz_0 (e _)).1, (gsz_0 (e _)).2, (gsz_0 (e _)).1, (gsz_0 (e _)).2]
      exact ⟨rfl, rfl, rfl⟩
  | .op a b, h => by
    obtain ⟨a1, a2, a3⟩ := gsz_ap (X := a) (fun x h2 ho => h x h2 (by simp [oc, ho]))
    obtain ⟨b1, b2, b3⟩ := gsz_ap (X := b) (fun x h2 ho => h x h2 (by simp [oc, ho]))
    rw [ap_op]
    have e : gnO gn' (.op (ap σ a) (ap σ b)) = gnO gn (.op a b) := by rw [gnO, gnO, a1, b1]
    refine ⟨e, ?_, ?_⟩
    · rw [gsz, gsz, e, a2, b2]
    · rw [gop, gop, e, a3, b3]
def PreL (L : List Nd) (S : IS) (e len : Nat) : Prop :=
  (∀ k ∈ envN L e, ∀ x, 2 ≤ x → oc x (S.2.2.1 k) = true → S.2.2.2 x = false ∧ x < S.1) ∧
  (∀ b ∈ ancN L e, TBL L 57 b = 5 → e + len ≤ sndN L b ∨ (fstN L b < e ∧ (∀ x, 2 ≤ x → oc x (S.2.1 (fstN L b)) = true → x < S.1 ∧ (S.2.2.2 x = true ∨ evV S (envN L b) x)) ∧ gsz S.2.2.2 (S.2.1 (fstN L b)) ≤ 200 ∧ gop S.2.2.2 (S.2.1 (fstN L b)) ≤ 99)) ∧
  (∀ x, S.2.2.2 x = true → x < S.1) ∧ 2 ≤ S.1
/-- what is around stays so -/
theorem PreL.st {L : List Nd} (hl : L.length ≤ 120) {e len lo hi : Nat} {S S' : IS} {σ : List (Nat × TE)} (h : PreL L S e len) (he : e < L.length) (hs : StpL (envN L e) S.1 lo hi S S' σ) (hlo : e ≤ lo) : ∀ b ∈ ancN L e, TBL L 57 b = 5 → e + len ≤ sndN L b ∨ (fstN L b < e ∧ (∀ x, 2 ≤ x → oc x (S'.2.1 (fstN L b)) = true → x < S'.1 ∧ (S'.2.2.2 x = true ∨ evV S' (envN L b) x)) ∧ gsz S'.2.2.2 (S'.2.1 (fstN L b)) ≤ 200 ∧ gop S'.2.2.2 (S'.2.1 (fstN L b)) ≤ 99) := by
  intro b hb hb5
  rcases h.2.1 b hb hb5 with h1 | ⟨h1, h2, h3, h4⟩
  · exact Or.inl h1
  · have hE : ∀ k ∈ envN L e, k < lo := fun k hk => by have := anc_lt' he (env_mem.mp hk).1; omega
    have hX := (hs.1 (fstN L b) (Or.inl (by omega))).1
    have evb : ∀ y, evV S' (envN L b) y → evV S' (envN L e) y := fun y ⟨k, k1, k2⟩ => ⟨k, env_sub hl he hb k1, k2⟩
    have key : ∀ x, 2 ≤ x → oc x (S.2.1 (fstN L b)) = true → (S.2.2.2 x = true ∧ S'.2.2.2 x = true ∧ fxS σ x) ∨ (S.2.2.2 x = false ∧ ∀ y, 2 ≤ y → oc y (ap σ (.var x)) = true → evV S' (envN L b) y) := by
      intro x x2 xo
      obtain ⟨c1, c2⟩ := h2 x x2 xo
      by_cases g : S.2.2.2 x = true
      · refine Or.inl ⟨g, hs.2.1.2.1 x g, ?_⟩
        rcases hs.2.2.1 x x2 with d | ⟨d, -⟩
        · exact d
        · rcases d with ⟨k, k1, k2⟩ | d
          · have := (h.1 k k1 x x2 k2).1
            rw [g] at this; exact Bool.noConfusion this
          · omega
      · have g : S.2.2.2 x = false := by simpa using g
        refine Or.inr ⟨g, fun y y2 yo => ?_⟩
        rcases c2 with c2 | ⟨k, k1, k2⟩
        · rw [g] at c2; exact Bool.noConfusion c2
        · refine ⟨k, k1, ?_⟩
          have hk := hE k (env_sub hl he hb k1)
          rw [(hs.1 k (Or.inl hk)).2]
          exact ap_oc k2 yo
    obtain ⟨-, z2, z3⟩ := gsz_ap (gn := S.2.2.2) (gn' := S'.2.2.2) (σ := σ) (X := S.2.1 (fstN L b)) (fun x x2 xo => by
      rcases key x x2 xo with k | ⟨k, k'⟩
      · exact Or.inl k
      · refine Or.inr ⟨k, fun y y2 yo => ?_⟩
        obtain ⟨j, j1, j2⟩ := evb y (k' y y2 yo)
        exact (hs.2.2.2.2.2 j j1 y y2 j2).1)
    refine Or.inr ⟨h1, fun y y2 yo => ?_, by rw [hX, z2]; exact h3, by rw [hX, z3]; exact h4⟩
    rw [hX] at yo
    obtain ⟨x, x2, xo, xy⟩ := oc_ap y2 yo
    rcases key x x2 xo with ⟨k1, k2, k3⟩ | ⟨k1, k2⟩
    · rw [k3] at xy
      have : x = y := by simpa [oc] using xy
      rw [← this]
      exact ⟨by have := (h2 x x2 xo).1; have := hs.2.1.1; omega, Or.inl k2⟩
    · have ev := k2 y y2 xy
      obtain ⟨j, j1, j2⟩ := evb y ev
      exact ⟨(hs.2.2.2.2.2 j j1 y y2 j2).2, Or.inr ev⟩
