/-! the class changes a state; shapes are copied; refusals; the past -/
/-- what stays, and what it costs -/
def GC (h h1 : AH) (C : Nat → Nat → Prop) (dc ds : Nat) : Prop := GF h h1 C ∧ h1.cs ≤ h.cs + dc ∧ h1.ss ≤ h.ss + ds
section Gcs
variable {h h1 h2 : AH} {C : Nat → Nat → Prop} {dc ds dc' ds' : Nat}
theorem GC.rf : GC h h C 0 0 := ⟨GF.rf, Nat.le_refl _, Nat.le_refl _⟩
theorem GC.tr (p : GC h h1 C dc ds) (q : GC h1 h2 C dc' ds') : GC h h2 C (dc + dc') (ds + ds') := ⟨p.1.tr q.1, by have := p.2.1; have := q.2.1; omega, by have := p.2.2; have := q.2.2; omega⟩
theorem GC.wk {C' : Nat → Nat → Prop} (p : GC h h1 C dc ds) (hC : ∀ c j, C c j → C' c j) (h1' : dc ≤ dc') (h2' : ds ≤ ds') : GC h h1 C' dc' ds' := ⟨p.1.wk hC, by have := p.2.1; omega, by have := p.2.2; omega⟩
theorem GF.pu {b i : Nat} {x : Int} (p : GF h h1 C) (hC : b < h.n → C b i) : GF h (h1.put b i x) C := ⟨p.1, p.2.1, fun c j hc hn => by
  rw [AH.put_vl, if_neg (fun z => hn (by rw [z.1, z.2]; exact hC (by rw [← z.1]; exact hc)))]
  exact p.2.2 c j hc hn⟩
theorem GF.nw {k : Nat × Nat} (p : GF h h1 C) : GF h (h1.new k) C := ⟨Nat.le_succ_of_le p.1, fun c hc => by
  rw [AH.new_kd, if_neg (by have := p.1; omega)]
  exact p.2.1 c hc, fun c j hc hn => by
  rw [AH.new_vl, if_neg (by have := p.1; omega)]
  exact p.2.2 c j hc hn⟩
theorem KS.gc {A : List Nat} {F : List (Nat × Nat)} (k : KS h h1 A F) : GC h h1 (fun c j => c ∈ A ∨ (c, j) ∈ F) 0 0 := ⟨⟨Nat.le_of_eq k.1.symm, fun c _ => by rw [k.2.1], fun c j _ hn => k.2.2.2.2 c j (fun z => hn (Or.inl z)) (fun z => hn (Or.inr z))⟩, by rw [k.2.2.1]; omega, by rw [k.2.2.2.1]; omega⟩
end Gcs
section Sop
variable {h : AH} {s ta ka : Nat}
set_option maxRecDepth 100000 in
theorem s_emptyAt {c : Nat} (t : ST h s ta ka) (hc : c < 8) : CV mX6_emptyAt 2 [rv s, iv (c : Int)] h (on fun h1 => h1 = h.put ka c (-1)) := by
  obtain ⟨k0, n0, v0, k1, n1, v1, k2, n2⟩ := t
  have hx : 0 ≤ (-1 : Int) → h.kd (-1 : Int).toNat = (5, 2) := fun z => absurd z (by decide)
  refine cv_of cdX6_emptyAt ?_
  show EV _ _ 0 [rv s, iv (c : Int)] [] h _
  refine ev_iload_n dX6_emptyAt_0 rfl ?_
  refine ev_iflt 20 dX6_emptyAt_1 (fun h_no => (by exfalso; omega)) (fun hb => ?_)
  refine ev_iload_n dX6_emptyAt_4 rfl ?_
  refine ev_aload_n dX6_emptyAt_5 rfl ?_
  refine ev_getrv dX6_emptyAt_6 fX6_19 k0 n0 rfl v1 ?_
  refine ev_al dX6_emptyAt_9 k2 n2 rfl (by decide) (by omega) ?_
  refine ev_icmpge 20 dX6_emptyAt_10 (fun h_no => (by exfalso; omega)) (fun hb2 => ?_)
  refine ev_aload_n dX6_emptyAt_13 rfl ?_
  refine ev_getrv dX6_emptyAt_14 fX6_19 k0 n0 rfl v1 ?_
  refine ev_iload_n dX6_emptyAt_17 rfl ?_
  refine ev_null dX6_emptyAt_18 ?_
  refine ev_aast dX6_emptyAt_19 rfl (by decide) kc_X5 k2 n2 rfl (by omega) (by omega) hx ?_
  exact ev_vret dX6_emptyAt_20 (⟨rfl, rfl⟩)
set_option maxRecDepth 100000 in
theorem s_keepAt {c x : Nat} {e : Int} (t : ST h s ta ka) (hc : c < 8) (kx : h.kd x = (5, 2)) (hs : s ≠ ka) (he : h.vl s 4 = e) (he9 : -2147483648 ≤ e + 1 ∧ e + 1 ≤ 2147483647) : CV mX6_keepAt 2 [rv s, iv (c : Int), rv (x : Int)] h (on fun h1 => h1 = (h.put ka c (x : Int)).put s 4 (e + 1)) := by
  obtain ⟨k0, n0, v0, k1, n1, v1, k2, n2⟩ := t
  have hx : 0 ≤ (x : Int) → h.kd (x : Int).toNat = (5, 2) := fun _ => kx
  refine cv_of cdX6_keepAt ?_
  show EV _ _ 0 [rv s, iv (c : Int), rv (x : Int)] [] h _
  refine ev_iload_n dX6_keepAt_0 rfl ?_
  refine ev_iflt 30 dX6_keepAt_1 (fun h_no => (by exfalso; omega)) (fun hb => ?_)
  refine ev_iload_n dX6_keepAt_4 rfl ?_
  refine ev_aload_n dX6_keepAt_5 rfl ?_
  refine ev_getrv dX6_keepAt_6 fX6_19 k0 n0 rfl v1 ?_
  refine ev_al dX6_keepAt_9 k2 n2 rfl (by decide) (by omega) ?_
  refine ev_icmpge 30 dX6_keepAt_10 (fun h_no => (by exfalso; omega)) (fun hb2 => ?_)
  refine ev_aload_n dX6_keepAt_13 rfl ?_
  refine ev_getrv dX6_keepAt_14 fX6_19 k0 n0 rfl v1 ?_
  refine ev_iload_n dX6_keepAt_17 rfl ?_
  refine ev_aload_n dX6_keepAt_18 rfl ?_
  refine ev_aast dX6_keepAt_19 rfl (by decide) kc_X5 k2 n2 rfl (by omega) (by omega) hx ?_
  obtain ⟨h1, e1⟩ : ∃ h1, h1 = h.put ka ((c : Nat) : Int).toNat (x : Int) := ⟨_, rfl⟩
  rw [← e1]
  have e4 : h1.vl s 4 = e := by rw [e1, AH.put_vl, if_neg (fun z => hs z.1)]; exact he
  have k01 : h1.kd s = (6, 5) := by rw [e1]; exact k0
  have n01 : s < h1.n := by rw [e1]; exact n0
  refine ev_aload_n dX6_keepAt_20 rfl ?_
  refine ev_dup dX6_keepAt_21 ?_
  refine ev_getiv dX6_keepAt_22 fX6_38 k01 n01 rfl e4 ?_
  refine ev_iconst dX6_keepAt_25 ?_
  refine ev_iadd dX6_keepAt_26 (by unfold ir; omega) ?_
  refine ev_pt dX6_keepAt_27 fX6_38 k01 n01 rfl ?_
  exact ev_vret dX6_keepAt_30 (⟨rfl, by rw [e1]; rfl⟩)
set_option maxRecDepth 100000 in
theorem s_give {x N : Nat} {g : Int} (t : ST h s ta ka) (hN : h.vl s 2 = (N : Int)) (h6 : N < 6) (kx : h.kd x = (7, 2)) (hs : s ≠ ta) (hg : h.vl s 3 = g) (hg9 : -2147483648 ≤ g + 1 ∧ g + 1 ≤ 2147483647) : CV mX6_give 2 [rv s, rv (x : Int)] h (oi fun r h1 => r = (N : Int) ∧ h1 = ((h.put ta N (x : Int)).put s 2 ((N : Int) + 1)).put s 3 (g + 1)) := by
  obtain ⟨k0, n0, v0, k1, n1, v1, k2, n2⟩ := t
  have hx : 0 ≤ (x : Int) → h.kd (x : Int).toNat = (7, 2) := fun _ => kx
  refine cv_of cdX6_give ?_
  show EV _ _ 0 [rv s, rv (x : Int), uv] [] h _
  refine ev_aload_n dX6_give_0 rfl ?_
  refine ev_getiv dX6_give_1 fX6_31 k0 n0 rfl hN ?_
  refine ev_ist2 dX6_give_4 ?_
  refine ev_iload_n dX6_give_5 rfl ?_
  refine ev_iflt 45 dX6_give_6 (fun h_no => (by exfalso; omega)) (fun hb => ?_)
  refine ev_iload_n dX6_give_9 rfl ?_
  refine ev_aload_n dX6_give_10 rfl ?_
  refine ev_getrv dX6_give_11 fX6_11 k0 n0 rfl v0 ?_
  refine ev_al dX6_give_14 k1 n1 rfl (by decide) (by omega) ?_
  refine ev_icmpge 45 dX6_give_15 (fun h_no => (by exfalso; omega)) (fun hb2 => ?_)
  refine ev_aload_n dX6_give_18 rfl ?_
  refine ev_getrv dX6_give_19 fX6_11 k0 n0 rfl v0 ?_
  refine ev_iload_n dX6_give_22 rfl ?_
  refine ev_aload_n dX6_give_23 rfl ?_
  refine ev_aast dX6_give_24 rfl (by decide) kc_X7 k1 n1 rfl (by omega) (by omega) hx ?_
  obtain ⟨h1, e1⟩ : ∃ h1, h1 = h.put ta ((N : Nat) : Int).toNat (x : Int) := ⟨_, rfl⟩
  rw [← e1]
  have e2 : h1.vl s 2 = (N : Int) := by rw [e1, AH.put_vl, if_neg (fun z => hs z.1)]; exact hN
  have e3 : h1.vl s 3 = g := by rw [e1, AH.put_vl, if_neg (fun z => hs z.1)]; exact hg
  have k01 : h1.kd s = (6, 5) := by rw [e1]; exact k0
  have n01 : s < h1.n := by rw [e1]; exact n0
  refine ev_aload_n dX6_give_25 rfl ?_
  refine ev_dup dX6_give_26 ?_
  refine ev_getiv dX6_give_27 fX6_31 k01 n01 rfl e2 ?_
  refine ev_iconst dX6_give_30 ?_
  refine ev_iadd dX6_give_31 (by unfold ir; omega) ?_
  refine ev_pt dX6_give_32 fX6_31 k01 n01 rfl ?_
  obtain ⟨h2, e4⟩ : ∃ h2, h2 = h1.put s 2 ((N : Int) + 1) := ⟨_, rfl⟩
  rw [← e4]
  have e5 : h2.vl s 3 = g := by rw [e4, AH.put_vl, if_neg (fun z => absurd z.2 (by decide))]; exact e3
  have k02 : h2.kd s = (6, 5) := by rw [e4]; exact k01
  have n02 : s < h2.n := by rw [e4]; exact n01
  refine ev_aload_n dX6_give_35 rfl ?_
  refine ev_dup dX6_give_36 ?_
  refine ev_getiv dX6_give_37 fX6_35 k02 n02 rfl e5 ?_
  refine ev_iconst dX6_give_40 ?_
  refine ev_iadd dX6_give_41 (by unfold ir; omega) ?_
  refine ev_pt dX6_give_42 fX6_35 k02 n02 rfl ?_
  refine ev_iload_n dX6_give_45 rfl ?_
  exact ev_iret dX6_give_46 (⟨_, rfl, rfl, by rw [e4, e1]; rfl⟩)
/-- a new refusal -/
theorem eRef_gc {x y z : Int} : GC h (eRef x y z h) (fun c j => c = 0 ∧ j = 12) 1 3 := by
  refine ⟨((((GF.rf.nw).pu (fun w => absurd w (Nat.lt_irrefl _))).pu (fun w => absurd w (Nat.lt_irrefl _))).pu (fun w => absurd w (Nat.lt_irrefl _))).pu (fun _ => ⟨rfl, rfl⟩), ?_, ?_⟩
  · show h.cs + 1 ≤ _; omega
  · show h.ss + 3 ≤ _; omega
theorem eRef_v {x y z : Int} (h94 : 94 ≤ h.n) : (eRef x y z h).n = h.n + 1 ∧ (eRef x y z h).kd h.n = (4, 3) ∧ (eRef x y z h).vl h.n 0 = x ∧ (eRef x y z h).vl h.n 1 = y ∧ (eRef x y z h).vl h.n 2 = z ∧ (eRef x y z h).vl 0 12 = (h.n : Int) := by
  have n0 : ¬ h.n = 0 := by omega
  refine ⟨rfl, ?_, ?_, ?_, ?_, ?_⟩
  · show (h.new (4, 3)).kd h.n = _
    rw [AH.new_kd, if_pos rfl]
  · unfold eRef
    rw [AH.put_vl, if_neg (fun z => n0 z.1), AH.put_vl, if_neg (fun z => absurd z.2 (by decide)), AH.put_vl, if_neg (fun z => absurd z.2 (by decide)), AH.put_vl, if_pos ⟨rfl, rfl⟩]
  · unfold eRef
    rw [AH.put_vl, if_neg (fun z => n0 z.1), AH.put_vl, if_neg (fun z => absurd z.2 (by decide)), AH.put_vl, if_pos ⟨rfl, rfl⟩]
  · unfold eRef
    rw [AH.put_vl, if_neg (fun z => n0 z.1), AH.put_vl, if_pos ⟨rfl, rfl⟩]
  · unfold eRef
    rw [AH.put_vl, if_pos ⟨rfl, rfl⟩]
theorem eRef_rf {x y cd : Int} (h94 : 94 ≤ h.n) (hx : x ≠ 0) : RfI (eRef x y (-1) h) x y 0 cd := by
  obtain ⟨e1, e2, e3, e4, e5, e6⟩ := eRef_v (x := x) (y := y) (z := -1) h94
  exact Or.inr ⟨h.n, e6, ⟨h94, by omega, e2⟩, hx, e3, e4, Or.inl ⟨e5, rfl⟩⟩
/-- an order's refusal, what is behind it -/
theorem eRef_rf2 {x y w d cw cd : Int} (h94 : 94 ≤ h.n) (hx : x ≠ 0) (r : RfI h w d cw cd) (hw : w ≠ 0) : RfI (eRef x y (h.vl 0 12) h) x y w d := by
  obtain ⟨e1, e2, e3, e4, e5, e6⟩ := eRef_v (x := x) (y := y) (z := h.vl 0 12) h94
  rcases r with ⟨-, r⟩ | ⟨r, r1, r2, r3, r4, r5, -⟩
  · exact absurd r hw
  · have gc := (eRef_gc (h := h) (x := x) (y := y) (z := h.vl 0 12)).1
    have vv : ∀ j, (eRef x y (h.vl 0 12) h).vl r j = h.vl r j := fun j => gc.2.2 r j r2.2.1 (fun z => by omega)
    exact Or.inr ⟨h.n, e6, ⟨h94, by omega, e2⟩, hx, e3, e4, Or.inr ⟨r, e5.trans r1, ⟨r2.1, by omega, (gc.2.1 r r2.2.1).trans r2.2.2⟩, r3, (vv 0).trans r4, (vv 1).trans r5⟩⟩
set_option maxRecDepth 100000 in
/-- a lesson goes -/
theorem s_remove {l N : Nat} (t : ST h s ta ka) (hN : h.vl s 2 = (N : Int)) (h6 : N ≤ 6) (hl : l < N) (hs : s ≠ ta) (hT : ∀ j : Nat, j < 6 → 0 ≤ h.vl ta j → h.kd (h.vl ta j).toNat = (7, 2)) : CV mX6_remove 3 [rv s, iv (l : Int)] h (on fun h1 => KS h h1 [ta] [(s, 2)] ∧ h1.vl s 2 = (N : Int) - 1 ∧ ∀ j, h1.vl ta j = if l ≤ j ∧ j < N then (if j + 1 < N then h.vl ta (j + 1) else -1) else h.vl ta j) := by
  refine cv_of cdX6_remove ?_
  show EV _ _ 0 [rv s, iv (l : Int), uv] [] h _
  have lp : ∀ (m p : Nat) (g : AH), p + m = N → l ≤ p → KS h g [ta] [] → (∀ j, g.vl ta j = if l ≤ j ∧ j < p then (if j + 1 < N then h.vl ta (j + 1) else -1) else h.vl ta j) → EV mX6_remove 3 6 [rv s, iv (l : Int), iv (p : Int)] [] g (on fun h1 => KS h h1 [ta] [(s, 2)] ∧ h1.vl s 2 = (N : Int) - 1 ∧ ∀ j, h1.vl ta j = if l ≤ j ∧ j < N then (if j + 1 < N then h.vl ta (j + 1) else -1) else h.vl ta j) := by
    intro m
    induction m with
    | zero =>
      intro p g hp hlp hk hv
      obtain rfl : p = N := by omega
      have tg := t.ks hk (by simp [hs]) (by simp) (by simp)
      have cg : g.vl s 2 = (p : Int) := (hk.2.2.2.2 s 2 (by simp [hs]) (by simp)).trans hN
      refine ev_iload_n dX6_remove_6 rfl ?_
      refine ev_aload_n dX6_remove_7 rfl ?_
      refine ev_getiv dX6_remove_8 fX6_31 tg.1 tg.2.1 rfl cg ?_
      refine ev_icmpge 42 dX6_remove_11 (fun hb => ?_) (fun h_no => (by exfalso; omega))
      refine ev_aload_n dX6_remove_42 rfl ?_
      refine ev_dup dX6_remove_43 ?_
      refine ev_getiv dX6_remove_44 fX6_31 tg.1 tg.2.1 rfl cg ?_
      refine ev_iconst dX6_remove_47 ?_
      refine ev_isub dX6_remove_48 (by unfold ir; omega) ?_
      refine ev_pt dX6_remove_49 fX6_31 tg.1 tg.2.1 rfl ?_
      refine ev_vret dX6_remove_52 (⟨rfl, (hk.wk (fun _ z => z) (fun _ z => nomatch z)).pf (by simp), by rw [AH.put_vl, if_pos ⟨rfl, rfl⟩], fun j => ?_⟩)
      rw [AH.put_vl, if_neg (fun z => hs z.1.symm)]
      exact hv j
    | succ m ih =>
      intro p g hp hlp hk hv
      have tg := t.ks hk (by simp [hs]) (by simp) (by simp)
      have cg : g.vl s 2 = (N : Int) := (hk.2.2.2.2 s 2 (by simp [hs]) (by simp)).trans hN
      obtain ⟨x, hx0⟩ : ∃ x, x = (if p + 1 < N then h.vl ta (p + 1) else -1) := ⟨_, rfl⟩
      have hx : 0 ≤ x → g.kd x.toNat = (7, 2) := fun z => by
        rw [show g.kd = h.kd from hk.2.1]
        by_cases c : p + 1 < N
        · rw [hx0, if_pos c] at z ⊢
          exact hT (p + 1) (by omega) z
        · rw [hx0, if_neg c] at z
          exact absurd z (by decide)
      refine ev_iload_n dX6_remove_6 rfl ?_
      refine ev_aload_n dX6_remove_7 rfl ?_
      refine ev_getiv dX6_remove_8 fX6_31 tg.1 tg.2.1 rfl cg ?_
      refine ev_icmpge 42 dX6_remove_11 (fun h_no => (by exfalso; omega)) (fun hb => ?_)
      refine ev_iload_n dX6_remove_14 rfl ?_
      refine ev_aload_n dX6_remove_15 rfl ?_
      refine ev_getrv dX6_remove_16 fX6_11 tg.1 tg.2.1 rfl tg.2.2.1 ?_
      refine ev_al dX6_remove_19 tg.2.2.2.1 tg.2.2.2.2.1 rfl (by decide) (by omega) ?_
      refine ev_icmpge 42 dX6_remove_20 (fun h_no => (by exfalso; omega)) (fun hb2 => ?_)
      refine ev_aload_n dX6_remove_23 rfl ?_
      refine ev_getrv dX6_remove_24 fX6_11 tg.1 tg.2.1 rfl tg.2.2.1 ?_
      refine ev_iload_n dX6_remove_27 rfl ?_
      refine ev_aload_n dX6_remove_28 rfl ?_
      refine ev_iload_n dX6_remove_29 rfl ?_
      refine ev_iconst dX6_remove_30 ?_
      refine ev_iadd dX6_remove_31 (by unfold ir; omega) ?_
      refine ev_cvr dX6_remove_32 lX6_23 (s_termAt tg) (by decide) tg.1 tg.2.1 rfl rfl rfl (Nat.le_of_ble_eq_true rfl) rfl (fun r g1 q => ?_)
      obtain ⟨rr, e1⟩ := q
      have er : r = x := by
        rw [rr, hx0]
        unfold tmAt
        rw [cg]
        by_cases c : p + 1 < N
        · rw [if_pos c, if_pos (by omega), show ((p : Int) + 1).toNat = p + 1 by omega, hv (p + 1), if_neg (by omega)]
        · rw [if_neg c, if_neg (by omega)]
      rw [er, e1]
      refine ev_aast dX6_remove_35 rfl (by decide) kc_X7 tg.2.2.2.1 tg.2.2.2.2.1 rfl (by omega) (by omega) hx ?_
      refine ev_iin2 dX6_remove_36 (by unfold ir; omega) ?_
      refine ev_gt 6 dX6_remove_39 ?_
      rw [show ((p : Nat) : Int).toNat = p from rfl, show (p : Int) + 1 = ((p + 1 : Nat) : Int) by omega]
      refine ih (p + 1) _ (by omega) (by omega) (hk.pa (by simp)) (fun j => ?_)
      rw [AH.put_vl]
      by_cases c : j = p
      · rw [if_pos ⟨rfl, c⟩, if_pos (by omega), c, hx0]
      · rw [if_neg (fun z => c z.2), hv j]
        by_cases d : l ≤ j ∧ j < p
        · have d' : l ≤ j ∧ j < p + 1 := by omega
          rw [if_pos d, if_pos d']
        · have d' : ¬ (l ≤ j ∧ j < p + 1) := by omega
          rw [if_neg d, if_neg d']
  refine ev_iload_n dX6_remove_0 rfl ?_
  refine ev_iconst dX6_remove_1 ?_
  refine ev_mmax dX6_remove_2 q_1250 q_689 q_169 q_690 rfl ?_
  refine ev_ist2 dX6_remove_5 ?_
  rw [show (if (l : Int) < 0 then 0 else (l : Int)) = (l : Int) from if_neg (by omega)]
  exact lp (N - l) l h (by omega) (Nat.le_refl _) KS.rf (fun j => by rw [if_neg (by omega)])
end Sop
