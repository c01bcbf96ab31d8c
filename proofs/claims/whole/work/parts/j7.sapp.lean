/-! the class: the size of what an application of one type to another gives -/
theorem ins_vs {P : Nat → Prop} {k : Nat} : ∀ (R : TE), (∀ x, 2 ≤ x → oc x R = true → P (k + x)) → vsT P (insR k R)
  | .var x, h => by
    unfold insR
    rw [sbs]
    by_cases c : x < 2
    · rw [if_pos c]; exact vsT_var (fun z => by omega)
    · rw [if_neg c]; exact vsT_var (fun _ => h x (by omega) (by simp [oc]))
  | .op a b, h => by
    unfold insR
    rw [sbs]
    exact vsT_op.mpr ⟨ins_vs a (fun x h2 ho => h x h2 (by simp [oc, ho])), ins_vs b (fun x h2 ho => h x h2 (by simp [oc, ho]))⟩
theorem nm_ins {ρ : Nat → Nat} {k k' : Nat} {R : TE} (hk : ∀ x, 2 ≤ x → oc x R = true → ρ (k + x) = k' + x) : nmT ρ (insR k R) = insR k' R := by
  unfold nmT insR
  rw [sbs_comp]
  refine sbs_cg R (fun x h2 ho => ?_)
  rw [sbs, if_neg (by omega), hk x h2 ho]
/-- the names that the class gives there are as good as the reference's -/
theorem ftd_cl {A B : TE} {f : Nat} {R : UR} {σ : List (Nat × TE)} (hA : sz A ≤ 200) (hB : sz B ≤ 200) (hu : un f [(insR 3 (cnR A []), .op (insR 213 (cnR B [])) (.var 2))] = some (R, σ)) : ftdR (cnR A []) (cnR B []) (if R.1 ≠ 0 ∨ 201 ≤ sz (ap σ (.var 2)) then 0 else (sz (ap σ (.var 2)) : Int)) := by
  have bnd : ∀ {T : TE}, sz T ≤ 200 → ∀ x, 2 ≤ x → oc x (cnR T []) = true → x < 202 := fun {T} hT x h2 ho => by
    have := cnR_vs T [] x h2 ho
    have h9 : ([] : List Nat).length = 0 := rfl
    omega
  obtain ⟨P, hP⟩ : ∃ P : Nat → Prop, P = fun x => x = 2 ∨ (5 ≤ x ∧ x ≤ 415) := ⟨_, rfl⟩
  obtain ⟨ρ, hρ⟩ : ∃ ρ : Nat → Nat, ρ = fun x => if x = 2 then 422 else x - 1 := ⟨_, rfl⟩
  have p2 : P 2 := by rw [hP]; exact Or.inl rfl
  have pp : ∀ x, 5 ≤ x → x ≤ 415 → P x := fun x h1 h2 => by rw [hP]; exact Or.inr ⟨h1, h2⟩
  have inj : InjP P ρ := by
    rw [hP, hρ]
    refine ⟨fun x y hx hy e => ?_, fun x hx => ?_⟩
    · have e : (if x = 2 then 422 else x - 1) = (if y = 2 then 422 else y - 1) := e
      have hx : x = 2 ∨ (5 ≤ x ∧ x ≤ 415) := hx
      have hy : y = 2 ∨ (5 ≤ y ∧ y ≤ 415) := hy
      by_cases c : x = 2
      · rw [if_pos c] at e
        by_cases d : y = 2
        · omega
        · rw [if_neg d] at e; omega
      · rw [if_neg c] at e
        by_cases d : y = 2
        · rw [if_pos d] at e; omega
        · rw [if_neg d] at e; omega
    · have hx : x = 2 ∨ (5 ≤ x ∧ x ≤ 415) := hx
      show 2 ≤ x ∧ 2 ≤ (if x = 2 then 422 else x - 1)
      by_cases c : x = 2
      · rw [if_pos c]; omega
      · rw [if_neg c]; omega
  have v : vsP P [(insR 3 (cnR A []), .op (insR 213 (cnR B [])) (.var 2))] := fun p hp => by
    rw [List.mem_singleton.mp hp]
    exact ⟨ins_vs _ (fun x h2 ho => pp _ (by omega) (by have := bnd hA x h2 ho; omega)), vsT_op.mpr ⟨ins_vs _ (fun x h2 ho => pp _ (by omega) (by have := bnd hB x h2 ho; omega)), vsT_var (fun _ => p2)⟩⟩
  have e1 : nmT ρ (insR 3 (cnR A [])) = insR 2 (cnR A []) := nm_ins (fun x h2 ho => by rw [hρ]; show (if 3 + x = 2 then 422 else 3 + x - 1) = 2 + x; rw [if_neg (by omega)]; omega)
  have e2 : nmT ρ (insR 213 (cnR B [])) = insR 212 (cnR B []) := nm_ins (fun x h2 ho => by rw [hρ]; show (if 213 + x = 2 then 422 else 213 + x - 1) = 212 + x; rw [if_neg (by omega)]; omega)
  have e3 : nmT ρ (.var 2) = .var 422 := by unfold nmT; rw [sbs, if_neg (by decide), hρ]; rfl
  have e4 : nmP ρ [(insR 3 (cnR A []), .op (insR 213 (cnR B [])) (.var 2))] = [(insR 2 (cnR A []), .op (insR 212 (cnR B [])) (.var 422))] := by
    show [(nmT ρ (insR 3 (cnR A [])), (.op (nmT ρ (insR 213 (cnR B []))) (nmT ρ (.var 2)) : TE))] = _
    rw [e1, e2, e3]
  have u := un_nm inj f _ v
  rw [e4, hu] at u
  have sv := un_vs f _ R σ v hu
  have e5 : sz (ap (nmS ρ σ) (.var 422)) = sz (ap σ (.var 2)) := by
    rw [← e3, ap_nm inj σ (.var 2) sv (vsT_var (fun _ => p2)), nm_sz]
  exact ⟨f, R, nmS ρ σ, u, by rw [e5]⟩
section SAp
variable {h : AH} {a K : Nat → Nat} {A B : TE}
abbrev MlD : List Nat := [0, 1, 2, 3, 6, 7, 8, 10, 12]
/-- a frame of this method -/
def SaX (h : AH) (a K : Nat → Nat) (h1 : AH) (a1 K1 : Nat → Nat) : Prop := YX h a K h1 a1 K1 tks WF (fun _ => False) 0
theorem SaX.q {h1 : AH} {a1 K1 : Nat → Nat} (c : SaX h a K h1 a1 K1) (f : FSc h a) (k : KEq K) (g : YA h a K) (k1 : KEq K1) : QF h a K h1 a1 K1 (fun _ => False) := (QF.rf g f k).yx c (fun _ z => z.elim) (fun z => z) (fun _ _ z => z) k1
set_option maxRecDepth 100000 in
theorem s_sizeApplied (g : YA h a K) (f : FSc h a) (k : KEq K) (w : ShW h a 27 28 200 (cnT A []).1) (w' : ShW h a 29 30 200 (cnT B []).1) : CV mX0_sizeApplied 6 [rv 8, rv 27, rv 29] h (oi fun x h1 => ∃ y, ftdR (cnR A []) (cnR B []) y ∧ x = (if y = 0 then -1 else y) ∧ ∃ a1 K1, QF h a K h1 a1 K1 (fun _ => False)) := by
  have hA : sz A ≤ 200 := by have := w.1.2.2.2.1; rw [cn_len] at this; exact this
  have hB : sz B ≤ 200 := by have := w'.1.2.2.2.1; rw [cn_len] at this; exact this
  have v0 := g.1.v8_0
  have bnd : ∀ {T : TE}, sz T ≤ 200 → ∀ x, 2 ≤ x → oc x (cnR T []) = true → x < 202 := fun {T} hT x h2 ho => by
    have := cnR_vs T [] x h2 ho
    have h9 : ([] : List Nat).length = 0 := rfl
    omega
  have mkE : ∀ {T : Nat → TE} {n : Nat} {D : TE}, sz D ≤ 200 → sbs (mkF (fun x => n + x) T) (cnR D []) = insR n (cnR D []) := fun {T n D} hD => sbs_cg _ (fun x h2 ho => by
    unfold mkF
    rw [if_pos (by have := bnd hD x h2 ho; omega)])
  have mkX : ∀ {n lo hi N0 : Nat} {D : TE}, sz D ≤ 200 → lo ≤ n + 2 → n + 202 ≤ hi → ∀ x, 2 ≤ x → oc x (cnR D []) = true → MkX (fun x => n + x) lo hi N0 x := fun {n lo hi N0 D} hD g1 g2 x hx ho => Or.inl ⟨bnd hD x hx ho, by show lo ≤ n + x; omega, by show 2 ≤ n + x; omega, by have := bnd hD x hx ho; show n + x < hi; omega⟩
  refine cv_of cdX0_sizeApplied ?_
  show EV _ _ 0 [rv 8, rv 27, rv 29, uv, uv, uv] [] h _
  refine ev_aload_n dX0_sizeApplied_0 rfl ?_
  refine ev_getrv dX0_sizeApplied_1 fX0_12 g.1.k8 g.1.n8 rfl v0 ?_
  refine ev_cvv dX0_sizeApplied_4 lX0_96 (s_clear g k) (by decide) g.1.k9 g.1.n9 rfl rfl rfl (Nat.le_of_ble_eq_true rfl) rfl (fun h1 q => ?_)
  obtain ⟨a1, K1, c1, k1, y1, p1, l1⟩ := q
  have g1 := y1.1
  have v1 := g1.1.v8_0
  have x1 : SaX h a K h1 a1 K1 := c1.wk (by decide) (by decide) (fun _ z => z) (Nat.le_refl _)
  refine ev_aload_n dX0_sizeApplied_7 rfl ?_
  refine ev_getrv dX0_sizeApplied_8 fX0_12 g1.1.k8 g1.1.n8 rfl v1 ?_
  refine ev_iconst dX0_sizeApplied_11 ?_
  refine ev_iconst dX0_sizeApplied_12 ?_
  refine ev_cvi dX0_sizeApplied_13 lX0_122 (s_addT g1 y1.2.1 (by omega)) (by decide) g1.1.k9 g1.1.n9 rfl rfl rfl (Nat.le_of_ble_eq_true rfl) rfl (fun q h2 q9 => ?_)
  obtain ⟨rfl, z2⟩ := q9
  obtain ⟨τ2, a2, K2, c2, k2, y2, n2, t2⟩ := y1.var (nm := 2) (nv' := 3) (by decide) z2
  have g2 := y2.1
  have v2 := g2.1.v8_0
  have x2 : SaX h a K h2 a2 K2 := x1.tr (c2.wk (by decide) (by decide) (fun _ z => z) (Nat.le_refl _))
  have w2 : ShW h2 a2 27 28 200 (rowT (cnR A [])) := by rw [cnR_row]; exact w.x x2 ⟨fun z => z, fun z => z⟩
  refine ev_ist3 dX0_sizeApplied_16 ?_
  refine ev_aload_n dX0_sizeApplied_17 rfl ?_
  refine ev_getrv dX0_sizeApplied_18 fX0_12 g2.1.k8 g2.1.n8 rfl v2 ?_
  refine ev_aload_n dX0_sizeApplied_21 rfl ?_
  refine ev_cvi dX0_sizeApplied_22 lX0_126 (s_makeY (nm := fun x => 3 + x) (nv' := 205) y2 (by omega) w2 (by rw [cnR_sz]; exact hA) (mkX hA (by decide) (by decide)) (fun x y _ _ _ _ e => by have e : 3 + y = 3 + x := e; omega) (by decide)) (by decide) g2.1.k9 g2.1.n9 rfl rfl rfl (Nat.le_of_ble_eq_true rfl) rfl (fun r h3 q9 => ?_)
  obtain ⟨M3, d3, T3, τ3, rfl, ⟨a3, K3, c3, k3, y3, n3, t3⟩, l3, m3, e3⟩ := q9
  rw [mkE hA] at e3
  rw [cnR_sz] at m3
  have g3 := y3.1
  have v3 := g3.1.v8_0
  have x3 : SaX h a K h3 a3 K3 := x2.tr (c3.wk (by decide) (by decide) (fun _ z => z) (Nat.le_refl _))
  have w3 : ShW h3 a3 29 30 200 (rowT (cnR B [])) := by rw [cnR_row]; exact w'.x x3 ⟨fun z => z, fun z => z⟩
  refine ev_ist4 dX0_sizeApplied_25 ?_
  refine ev_aload_n dX0_sizeApplied_27 rfl ?_
  refine ev_getrv dX0_sizeApplied_28 fX0_12 g3.1.k8 g3.1.n8 rfl v3 ?_
  refine ev_iload dX0_sizeApplied_31 rfl ?_
  refine ev_aload_n dX0_sizeApplied_33 rfl ?_
  refine ev_getrv dX0_sizeApplied_34 fX0_12 g3.1.k8 g3.1.n8 rfl v3 ?_
  refine ev_aload_n dX0_sizeApplied_37 rfl ?_
  refine ev_getrv dX0_sizeApplied_38 fX0_12 g3.1.k8 g3.1.n8 rfl v3 ?_
  refine ev_aload_n dX0_sizeApplied_41 rfl ?_
  refine ev_cvi dX0_sizeApplied_42 lX0_126 (s_makeY (nm := fun x => 213 + x) (nv' := 415) y3 (by omega) w3 (by rw [cnR_sz]; exact hB) (mkX hB (by decide) (by decide)) (fun x y _ _ _ _ e => by have e : 213 + y = 213 + x := e; omega) (by decide)) (by decide) g3.1.k9 g3.1.n9 rfl rfl rfl (Nat.le_of_ble_eq_true rfl) rfl (fun r h4 q9 => ?_)
  obtain ⟨M4, d4, T4, τ4, rfl, ⟨a4, K4, c4, k4, y4, n4, t4⟩, l4, m4, e4⟩ := q9
  rw [mkE hB] at e4
  rw [cnR_sz] at m4
  have g4 := y4.1
  have v4 := g4.1.v8_0
  have x4 : SaX h a K h4 a4 K4 := x3.tr (c4.wk (by decide) (by decide) (fun _ z => z) (Nat.le_refl _))
  refine ev_iload_n dX0_sizeApplied_45 rfl ?_
  refine ev_cvi dX0_sizeApplied_46 lX0_122 (s_addT g4 y4.2.1 (by omega)) (by decide) g4.1.k9 g4.1.n9 rfl rfl rfl (Nat.le_of_ble_eq_true rfl) rfl (fun q h5 q9 => ?_)
  obtain ⟨rfl, z5⟩ := q9
  obtain ⟨τ5, a5, K5, c5, k5, y5, n5, t5⟩ := y4.arr (x := d4) (y := 2) l4 (by omega) z5
  have g5 := y5.1
  have v5 := g5.1.v8_0
  have x5 : SaX h a K h5 a5 K5 := x4.tr (c5.wk (by decide) (by decide) (fun _ z => z) (Nat.le_refl _))
  have p5 : YPs h5 a5 K5 [] := by
    obtain ⟨u1, u2, u3, u4⟩ := p1
    exact ⟨(c5.fl 9).trans ((c4.fl 9).trans ((c3.fl 9).trans ((c2.fl 9).trans u1))), trivial, by rw [k5 7 (by decide) (by decide), k5 8 (by decide) (by decide), k5 6 (by decide) (by decide), k4 7 (by decide) (by decide), k4 8 (by decide) (by decide), k4 6 (by decide) (by decide), k3 7 (by decide) (by decide), k3 8 (by decide) (by decide), k3 6 (by decide) (by decide), k2 7 (by decide) (by decide), k2 8 (by decide) (by decide), k2 6 (by decide) (by decide)]; exact u3, Nat.zero_le _⟩
  have s5 : h5.vl 9 5 = 0 := (c5.fl 5).trans ((c4.fl 5).trans ((c3.fl 5).trans ((c2.fl 5).trans l1)))
  refine ev_iconst dX0_sizeApplied_49 ?_
  refine ev_cvv dX0_sizeApplied_50 lX0_130 (s_addPair (j := false) g5 p5 (by decide)) (by decide) g5.1.k9 g5.1.n9 rfl rfl rfl (Nat.le_of_ble_eq_true rfl) rfl (fun h6 q9 => ?_)
  obtain ⟨a6, K6, c6, p6, k6, o6⟩ := q9
  have c6x : YX h5 a5 K5 h6 a6 K6 [6, 7, 8] [9] (fun _ => False) 0 := c6.x
  have x6 : SaX h a K h6 a6 K6 := x5.tr (c6x.wk (by decide) (by decide) (fun _ z => z) (Nat.le_refl _))
  have y6 : YS h6 a6 K6 (M4 + 1) (upT T4 M4 (.op (T4 d4) (T4 2))) τ5 415 := y5.xt c6x (fun j hj => k6 j (by omega))
  have s6 : h6.vl 9 5 = 0 := (c6.fl 5).trans s5
  have g6 := y6.1
  have k8 := g6.1.k8
  have n8 := g6.1.n8
  refine ev_iconst dX0_sizeApplied_53 ?_
  refine ev_ist5 dX0_sizeApplied_54 ?_
  have eX : upT T4 M4 (.op (T4 d4) (T4 2)) d3 = insR 3 (cnR A []) := by
    rw [upT_n (by omega), t4 d3 l3, e3]
  have eY : upT T4 M4 (.op (T4 d4) (T4 2)) M4 = .op (insR 213 (cnR B [])) (.var 2) := by
    rw [upT_s, e4, t4 2 (by omega), t3 2 (by omega), upT_s]
  have e2' : upT T4 M4 (.op (T4 d4) (T4 2)) 2 = .var 2 := by
    rw [upT_n (by omega), t4 2 (by omega), t3 2 (by omega), upT_s]
  have yl6 : YL h6 a6 (M4 + 1) ≤ M4 + 1 := cU_N _
  have hM4 : M4 + 1 ≤ 404 := by omega
  refine s_pairs1 (i0 := 0) (P := fun j h7 => EV mX0_sizeApplied 6 56 [rv 8, rv 27, rv 29, iv ((2 : Nat) : Int), iv (d3 : Int), iv j] [] h7 (oi fun x h1 => ∃ y, ftdR (cnR A []) (cnR B []) y ∧ x = (if y = 0 then -1 else y) ∧ ∃ a1 K1, QF h a K h1 a1 K1 (fun _ => False))) (F := fun r h7 => ∃ (a7 K7 : Nat → Nat) (f : Nat) (R : UR) (σ : List (Nat × TE)), MlX h6 a6 K6 h7 a7 K7 ∧ un f [(insR 3 (cnR A []), .op (insR 213 (cnR B [])) (.var 2))] = some (R, σ) ∧ R.1 ≠ 0 ∧ (K7 7 = K7 6 ∧ K7 8 = K7 6)) y6 (by omega) (x := d3) (y := M4) (by omega) (by omega) p6 (by omega) (fun j h7 a7 K7 m7 hpos hj hjb cvm => ?_) (fun j h7 a7 K7 f7 σ m7 p7 y7 hu hj hjb hl7 => ?_) (fun h7 a7 K7 f7 R σ m7 hu hR h4 h4' hk7 => ?_)
  · have g7 := m7.1.1
    have v7 := g7.1.v8_0
    obtain ⟨np, hnp⟩ : ∃ np, h7.vl 9 9 = np := ⟨_, rfl⟩
    rw [hnp] at hpos
    refine ev_iload dX0_sizeApplied_56 rfl ?_
    refine ev_ldci (x := 1000000) dX0_sizeApplied_58 q_kst1 (by decide) (by unfold ir; omega) ?_
    refine ev_icmpge 91 dX0_sizeApplied_60 (fun h_no => (by exfalso; omega)) (fun hb => ?_)
    refine ev_aload_n dX0_sizeApplied_63 rfl ?_
    refine ev_getrv dX0_sizeApplied_64 fX0_12 g7.1.k8 g7.1.n8 rfl v7 ?_
    refine ev_getiv dX0_sizeApplied_67 fX0_50 g7.1.k9 g7.1.n9 rfl hnp ?_
    refine ev_ifle 91 dX0_sizeApplied_70 (fun h_no => (by exfalso; omega)) (fun hb2 => ?_)
    refine ev_aload_n dX0_sizeApplied_73 rfl ?_
    refine ev_getrv dX0_sizeApplied_74 fX0_12 g7.1.k8 g7.1.n8 rfl v7 ?_
    refine ev_cvi dX0_sizeApplied_77 lX0_54 (cvm) (by decide) g7.1.k9 g7.1.n9 rfl rfl rfl (Nat.le_of_ble_eq_true rfl) rfl (fun r h8 q9 => ?_)
    obtain ⟨⟨a8, K8, m8⟩, q30, q31⟩ := q9
    by_cases r0 : r = 0
    · skip
      refine ev_ifeq 85 dX0_sizeApplied_80 (fun hb3 => ?_) (fun h_no => (by exfalso; omega))
      refine ev_iin5 dX0_sizeApplied_85 (by unfold ir; omega) ?_
      refine ev_gt 56 dX0_sizeApplied_88 ?_
      exact q30 r0
    obtain ⟨a9, K9, f9, R, σ, m9, hu, hR, hk⟩ := q31 r0
    refine ev_ifeq 85 dX0_sizeApplied_80 (fun h_no => (by exfalso; omega)) (fun hb3 => ?_)
    refine ev_iconst dX0_sizeApplied_83 ?_
    refine ev_iret dX0_sizeApplied_84 (⟨_, rfl, 0, by have := ftd_cl hA hB hu; rw [if_pos (Or.inl hR)] at this; exact this, by rw [if_pos rfl], a9, K9, SaX.q (x6.tr (m9.1.wk (by decide) (by decide) (fun _ z => z) (Nat.le_refl _))) f k g ⟨?_, hk⟩⟩)
    rw [m9.2.1 1 (by decide), m9.2.1 2 (by decide), m9.2.1 3 (by decide), m9.2.1 0 (by decide)]
    exact y6.2.1.2.1
  · have g7 := y7.1
    have v7 := g7.1.v8_0
    have np : h7.vl 9 9 = 0 := p7.1
    have x7 : SaX h a K h7 a7 K7 := x6.tr (m7.1.wk (by decide) (by decide) (fun _ z => z) (Nat.le_refl _))
    refine ev_iload dX0_sizeApplied_56 rfl ?_
    refine ev_ldci (x := 1000000) dX0_sizeApplied_58 q_kst1 (by decide) (by unfold ir; omega) ?_
    refine ev_icmpge 91 dX0_sizeApplied_60 (fun h_no => (by exfalso; omega)) (fun hb => ?_)
    refine ev_aload_n dX0_sizeApplied_63 rfl ?_
    refine ev_getrv dX0_sizeApplied_64 fX0_12 g7.1.k8 g7.1.n8 rfl v7 ?_
    refine ev_getiv dX0_sizeApplied_67 fX0_50 g7.1.k9 g7.1.n9 rfl np ?_
    refine ev_ifle 91 dX0_sizeApplied_70 (fun hb2 => ?_) (fun h_no => (by exfalso; omega))
    refine ev_aload_n dX0_sizeApplied_91 rfl ?_
    refine ev_getrv dX0_sizeApplied_92 fX0_12 g7.1.k8 g7.1.n8 rfl v7 ?_
    refine ev_iload_n dX0_sizeApplied_95 rfl ?_
    obtain ⟨s1, s2, ⟨rr, tr, G, s3⟩, s4, -⟩ := id y7
    refine ev_cvi dX0_sizeApplied_96 lX0_85 (s_sizeY s1 s2 G.w (t := 2) (by omega) (by omega)) (by decide) g7.1.k9 g7.1.n9 rfl rfl rfl (Nat.le_of_ble_eq_true rfl) rfl (fun r h8 q9 => ?_)
    obtain ⟨z1, a8, K8, c8, k8'⟩ := q9
    have ez : sz (tr 2) = sz (ap σ (.var 2)) := by
      have := s3 2 (by omega)
      have this : nmC τ5 (tr 2) = ap σ (upT T4 M4 (.op (T4 d4) (T4 2)) 2) := this
      rw [e2'] at this
      rw [← this]
      exact (nm_sz _).symm
    have c8x : YX h7 a7 K7 h8 a8 K8 [10] [11] (fun _ => False) 0 := c8.x
    have x8 : SaX h a K h8 a8 K8 := x7.tr (c8x.wk (by decide) (by decide) (fun _ z => z) (Nat.le_refl _))
    have q8 : QF h a K h8 a8 K8 (fun _ => False) := x8.q f k g ⟨by rw [k8' 1 (by decide), k8' 2 (by decide), k8' 3 (by decide), k8' 0 (by decide)]; exact s2.2.1, by rw [k8' 7 (by decide), k8' 8 (by decide), k8' 6 (by decide)]; exact p7.2.2.1⟩
    rw [eX, eY] at hu
    have ft := ftd_cl hA hB hu
    have sp := sz_pos (ap σ (.var 2))
    rw [szc, ez] at z1
    refine ev_ist5 dX0_sizeApplied_99 ?_
    refine ev_iload dX0_sizeApplied_101 rfl ?_
    refine ev_sipush dX0_sizeApplied_103 ?_
    by_cases c : sz (ap σ (.var 2)) ≤ 200
    · skip
      rw [if_pos (by omega)] at z1
      rw [if_neg (fun z => z.elim (fun y => y rfl) (fun y => by omega))] at ft
      refine ev_icmple 113 dX0_sizeApplied_106 (fun hb3 => ?_) (fun h_no => (by exfalso; omega))
      refine ev_iload dX0_sizeApplied_113 rfl ?_
      exact ev_iret dX0_sizeApplied_115 (⟨_, rfl, _, ft, by rw [if_neg (by omega)]; exact z1, a8, K8, q8⟩)
    have hr : 200 < r := by
      rw [z1]; split <;> omega
    rw [if_pos (Or.inr (by omega))] at ft
    refine ev_icmple 113 dX0_sizeApplied_106 (fun h_no => (by exfalso; omega)) (fun hb3 => ?_)
    refine ev_iconst dX0_sizeApplied_109 ?_
    refine ev_gt 115 dX0_sizeApplied_110 ?_
    exact ev_iret dX0_sizeApplied_115 (⟨_, rfl, 0, ft, by rw [if_pos rfl], a8, K8, q8⟩)
  · rw [eX, eY] at hu
    exact ⟨a7, K7, f7, R, σ, m7, hu, hR, hk7⟩
end SAp
