/-! a type is made of a shape: the walk -/
def mkF (nm : Nat → Nat) (T0 : Nat → TE) : Nat → TE := fun x => if x < 999 then .var (nm x) else T0 (x - 999)
/-- the variables of a shape that may be made -/
def MkX (nm : Nat → Nat) (nv nv' N0 x : Nat) : Prop := (x < 202 ∧ nv ≤ nm x ∧ 2 ≤ nm x ∧ nm x < nv') ∨ (999 ≤ x ∧ x - 999 < N0)
section MkW
variable {h0 : AH} {a0 K0 : Nat → Nat} {N0 : Nat} {T0 : Nat → TE} {nv nv' : Nat} {nm : Nat → Nat} {sh b R : Nat} {r : List Int} {Q : AV → AH → Prop}
set_option maxRecDepth 100000 in
theorem mk_walk (hT : T0 0 = .var 0 ∧ T0 1 = .var 1) (hN0 : N0 ≤ 61000) (w0 : ShW h0 a0 sh b R r) (hi : ∀ x y, 2 ≤ x → x < 202 → 2 ≤ y → y < 202 → nm y = nm x → y = x) :
    ∀ (P : TE) (pre post : List Int) (v3 v4 v5 : AV) (h : AH) (a K : Nat → Nat) (M : Nat) (T : Nat → TE) (τ : Nat → Nat) (st : List Nat), r = pre ++ (rowT P ++ post) → (∀ x, 2 ≤ x → oc x P = true → MkX nm nv nv' N0 x) → MkY h0 a0 K0 N0 T0 nv nv' nm h a K M T τ st → M + sz P ≤ 62000 → st.length + sz P ≤ 62000 →
    (∀ (h1 : AH) (a1 K1 : Nat → Nat) (M1 : Nat) (T1 : Nat → TE) (τ1 : Nat → Nat) (c : Nat) (v3 v4 v5 : AV), MkY h0 a0 K0 N0 T0 nv nv' nm h1 a1 K1 M1 T1 τ1 (c :: st) → (c < M1 ∧ M ≤ M1 ∧ M1 ≤ M + sz P) → (∀ k, k < M → T1 k = T k) → T1 c = sbs (mkF nm T0) P → EV mX9_make 5 20 [rv 9, rv (sh : Int), iv ((pre.length : Int) - 1), v3, v4, v5] [] h1 Q) →
    EV mX9_make 5 20 [rv 9, rv (sh : Int), iv (((pre.length + sz P : Nat) : Int) - 1), v3, v4, v5] [] h Q := by
  intro P
  have hRR := w0.1.2.2.2
  induction P with
  | var x =>
    intro pre post v3 v4 v5 h a K M T τ st e hx c hM hst kk
    simp only [sz] at hM hst kk ⊢
    have g := c.1.1
    have sw := w0.x c.1 ⟨fun z => z, fun z => z⟩
    have hr : pre.length < r.length := by rw [e, List.length_append, List.length_append, row_len]; simp only [sz]; omega
    have hb := sw.2.2.2 pre.length hr
    obtain ⟨sg, hsg⟩ : ∃ sg, r[pre.length] = sg := ⟨_, rfl⟩
    rw [hsg] at hb
    have es : sg = if x < 2 then (x : Int) else (x : Int) + 1 := by rw [← hsg]; simp [e, rowT]
    rw [show ((pre.length + 1 : Nat) : Int) - 1 = (pre.length : Int) by omega]
    have fin : ∀ (h1 : AH) (a1 K1 : Nat → Nat) (M1 : Nat) (T1 : Nat → TE) (τ1 : Nat → Nat) (c : Nat), MkY h0 a0 K0 N0 T0 nv nv' nm h1 a1 K1 M1 T1 τ1 (c :: st) → (c < M1 ∧ M ≤ M1 ∧ M1 ≤ M + 1) → (∀ k, k < M → T1 k = T k) → T1 c = sbs (mkF nm T0) (.var x) → EV mX9_make 5 137 [rv 9, rv (sh : Int), iv (pre.length : Int), iv sg, v4, v5] [] h1 Q := by
      intro h1 a1 K1 M1 T1 τ1 c1 C1 b1 b2 b3
      have g1 := C1.1.1
      refine ev_iin2 dX9_make_137 (by unfold ir; omega) ?_
      refine ev_gt 20 dX9_make_140 ?_
      exact kk h1 a1 K1 M1 T1 τ1 c1 _ _ _ C1 b1 b2 b3
    have v12 := g.v 12
    have n12 := g.n 12
    have k12 := g.k12.1
    refine ev_iload_n dX9_make_20 rfl ?_
    refine ev_iflt 143 dX9_make_21 (fun h_no => (by exfalso; omega)) (fun hb1 => ?_)
    refine ev_aload_n dX9_make_24 rfl ?_
    refine ev_iload_n dX9_make_25 rfl ?_
    refine ev_cvi dX9_make_26 lX9_125 (s_sgS sw.1 hr hb) (by decide) sw.1.1.1 sw.1.1.2 rfl rfl rfl (Nat.le_of_ble_eq_true rfl) rfl (fun q z q9 => ?_)
    obtain ⟨eq1, eq⟩ := q9
    rw [eq1, eq]
    refine ev_ist3 dX9_make_29 ?_
    refine ev_iload_n dX9_make_30 rfl ?_
    refine ev_iconst dX9_make_31 ?_
    refine ev_icmpne 62 dX9_make_32 (fun hb2 => ?_) (fun h_no => (by exfalso; split at es <;> omega))
    refine ev_iload_n dX9_make_62 rfl ?_
    refine ev_iconst dX9_make_63 ?_
    by_cases x2 : x < 2
    · skip
      rw [if_pos x2] at es
      refine ev_icmpge 75 dX9_make_64 (fun h_no => (by exfalso; omega)) (fun hb3 => ?_)
      refine ev_aload_n dX9_make_67 rfl ?_
      refine ev_iload_n dX9_make_68 rfl ?_
      have c0 := c.2.2.2.2.2.2.1
      rw [es]
      refine ev_cvv dX9_make_69 lX9_98 (s_addTrail (x := x) g c.2.2.2.2.2.1 (by omega)) (by decide) g.1.k9 g.1.n9 rfl rfl rfl (Nat.le_of_ble_eq_true rfl) rfl (fun h1 q9 => ?_)
      obtain ⟨a1, K1, d, t, q⟩ := q9
      refine ev_gt 137 dX9_make_72 ?_
      rw [← es]
      refine fin h1 a1 K1 M T τ x (c.mv d q t) (by omega) (fun _ _ => rfl) ?_
      rw [sbs, if_pos x2, c0.2.2.1 x (by omega)]
      by_cases x0 : x = 0
      · rw [x0]; exact hT.1
      · rw [show x = 1 by omega]; exact hT.2
    rw [if_neg x2] at es
    refine ev_icmpge 75 dX9_make_64 (fun hb3 => ?_) (fun h_no => (by exfalso; omega))
    refine ev_iload_n dX9_make_75 rfl ?_
    refine ev_sipush dX9_make_76 ?_
    rcases hx x (by omega) (by simp [oc]) with ⟨x3, x4, x5, x6⟩ | ⟨x3, x4⟩
    · skip
      refine ev_icmplt 94 dX9_make_79 (fun hb4 => ?_) (fun h_no => (by exfalso; omega))
      refine ev_aload_n dX9_make_94 rfl ?_
      refine ev_getrv dX9_make_95 fX9_36 g.1.k9 g.1.n9 rfl v12 ?_
      refine ev_iload_n dX9_make_98 rfl ?_
      refine ev_iconst dX9_make_99 ?_
      refine ev_isub dX9_make_100 (by unfold ir; omega) ?_
      obtain ⟨z, hz⟩ : ∃ z, h.vl (a 12) (x - 2) = z := ⟨_, rfl⟩
      rw [show sg - 3 = ((x - 2 : Nat) : Int) by omega]
      refine ev_csi dX9_make_101 lX9_63 (s_atJ (g.k 12) n12 (g.r 12).2) (by decide) rfl rfl (Nat.le_of_ble_eq_true rfl) rfl (fun q z' q9 => ?_)
      obtain ⟨rfl, eq⟩ := q9
      rw [eq, if_pos (by omega), show ((x - 2 : Nat) : Int).toNat = x - 2 from rfl, hz]
      have fin2 : ∀ (h1 : AH) (a1 K1 : Nat → Nat) (M1 : Nat) (T1 : Nat → TE) (τ1 : Nat → Nat) (c : Nat), MkY h0 a0 K0 N0 T0 nv nv' nm h1 a1 K1 M1 T1 τ1 st → (c < M1 ∧ M ≤ M1 ∧ M1 ≤ M + 1) → (∀ k, k < M → T1 k = T k) → T1 c = .var (nm x) → h1.vl (a1 12) (x - 2) = (c : Int) → EV mX9_make 5 123 [rv 9, rv (sh : Int), iv (pre.length : Int), iv sg, v4, v5] [] h1 Q := by
        intro h1 a1 K1 M1 T1 τ1 c1 C1 b1 b2 b3 b4
        have g1 := C1.1.1
        have v12' := g1.v 12
        have n12' := g1.n 12
        have k12' := g1.k12.1
        refine ev_aload_n dX9_make_123 rfl ?_
        refine ev_aload_n dX9_make_124 rfl ?_
        refine ev_getrv dX9_make_125 fX9_36 g1.1.k9 g1.1.n9 rfl v12' ?_
        refine ev_iload_n dX9_make_128 rfl ?_
        refine ev_iconst dX9_make_129 ?_
        refine ev_isub dX9_make_130 (by unfold ir; omega) ?_
        rw [show sg - 3 = ((x - 2 : Nat) : Int) by omega]
        refine ev_csi dX9_make_131 lX9_63 (s_atJ (g1.k 12) n12' (g1.r 12).2) (by decide) rfl rfl (Nat.le_of_ble_eq_true rfl) rfl (fun q z' q9 => ?_)
        obtain ⟨rfl, eq'⟩ := q9
        rw [eq', if_pos (by omega), show ((x - 2 : Nat) : Int).toNat = x - 2 from rfl, b4]
        refine ev_cvv dX9_make_134 lX9_98 (s_addTrail (x := c1) g1 C1.2.2.2.2.2.1 (by omega)) (by decide) g1.1.k9 g1.1.n9 rfl rfl rfl (Nat.le_of_ble_eq_true rfl) rfl (fun h2 q9 => ?_)
        obtain ⟨a2, K2, d, t, q⟩ := q9
        refine fin h2 a2 K2 M1 T1 τ1 c1 (C1.mv d q t) b1 b2 ?_
        rw [b3, sbs, if_neg x2, mkF, if_pos (by omega)]
      rcases c.2.2.2.2.2.2.2.2 (x - 2) (by omega) with z1 | ⟨k, z1, z2, z3⟩
      · skip
        rw [z1] at hz
        subst hz
        refine ev_ifge 123 dX9_make_104 (fun h_no => (by exfalso; omega)) (fun hb5 => ?_)
        refine ev_aload_n dX9_make_107 rfl ?_
        refine ev_getrv dX9_make_108 fX9_36 g.1.k9 g.1.n9 rfl v12 ?_
        refine ev_iload_n dX9_make_111 rfl ?_
        refine ev_iconst dX9_make_112 ?_
        refine ev_isub dX9_make_113 (by unfold ir; omega) ?_
        refine ev_aload_n dX9_make_114 rfl ?_
        refine ev_iconst dX9_make_115 ?_
        refine ev_iconst dX9_make_116 ?_
        rw [show sg - 3 = ((x - 2 : Nat) : Int) by omega]
        refine ev_cvi dX9_make_117 lX9_49 (s_addT g c.2.2.1 (by omega)) (by decide) g.1.k9 g.1.n9 rfl rfl rfl (Nat.le_of_ble_eq_true rfl) rfl (fun q h1 q9 => ?_)
        obtain ⟨eq1, y1⟩ := q9
        rw [eq1]
        have y12 : ∀ (a1 K1 : Nat → Nat), YC h a K h1 a1 K1 [0, 1, 2, 3] [4] → a1 12 = a 12 := fun a1 K1 d => (d.rw' 12).1
        have k18 : h1.kd (a 12) = (100, 200) ∧ a 12 < h1.n := by
          obtain ⟨a1, K1, d, -⟩ := y1
          have g1 := d.1
          rw [← y12 a1 K1 d]
          exact ⟨by rw [← g1.k12.1]; exact g1.k 12, g1.n 12⟩
        refine ev_csv dX9_make_120 lX9_59 (s_putJ k18.1 k18.2 (by omega)) (by decide) rfl rfl (Nat.le_of_ble_eq_true rfl) rfl (fun h2 q9 => ?_)
        rw [if_pos (by omega), show ((x - 2 : Nat) : Int).toNat = x - 2 from rfl] at q9
        obtain ⟨a2, K2, τ2, C2, u2⟩ := c.vr (h2 := h2) ⟨by omega, x3⟩ ⟨x4, x5, x6⟩ (fun y y1 y2 y3 => hi x y (by omega) x3 y1 y2 y3) z1 y1 (fun a1 e1 => by rw [e1]; exact q9)
        exact fin2 h2 a2 K2 (M + 1) _ τ2 M C2 ⟨by omega, by omega, by omega⟩ (fun k hk => upT_n (by omega)) upT_s u2
      rw [hz] at z2
      refine ev_ifge 123 dX9_make_104 (fun hb5 => ?_) (fun h_no => (by exfalso; omega))
      exact fin2 h a K M T τ k c ⟨z1, Nat.le_refl _, Nat.le_succ _⟩ (fun _ _ => rfl) (by rw [z3, show x - 2 + 2 = x by omega]) (hz.trans z2)
    refine ev_icmplt 94 dX9_make_79 (fun h_no => (by exfalso; omega)) (fun hb4 => ?_)
    refine ev_aload_n dX9_make_82 rfl ?_
    refine ev_iload_n dX9_make_83 rfl ?_
    refine ev_sipush dX9_make_84 ?_
    refine ev_isub dX9_make_87 (by unfold ir; omega) ?_
    rw [show sg - 1000 = ((x - 999 : Nat) : Int) by omega]
    refine ev_cvv dX9_make_88 lX9_98 (s_addTrail (x := x - 999) g c.2.2.2.2.2.1 (by omega)) (by decide) g.1.k9 g.1.n9 rfl rfl rfl (Nat.le_of_ble_eq_true rfl) rfl (fun h1 q9 => ?_)
    obtain ⟨a1, K1, d, t, q⟩ := q9
    refine ev_gt 137 dX9_make_91 ?_
    have c0 := c.2.2.2.2.2.2.1
    refine fin h1 a1 K1 M T τ (x - 999) (c.mv d q t) (by omega) (fun _ _ => rfl) ?_
    rw [sbs, if_neg x2, mkF, if_neg (by omega)]
    exact c0.2.2.1 _ x4
  | op A B ihA ihB =>
    intro pre post v3 v4 v5 h a K M T τ st e hx c hM hst kk
    simp only [sz] at hM hst kk ⊢
    rw [show pre.length + (1 + sz A + sz B) = (pre ++ 2 :: rowT A).length + sz B by rw [List.length_append, List.length_cons, row_len]; omega]
    refine ihB (pre ++ 2 :: rowT A) post v3 v4 v5 h a K M T τ st (by rw [e, rowT]; simp) (fun x h2 ho => hx x h2 (by simp [oc, ho])) c (by omega) (by omega) fun h1 a1 K1 M1 T1 τ1 cb v3 v4 v5 C1 b1 b2 b3 => ?_
    rw [show (pre ++ 2 :: rowT A).length = (pre ++ [2]).length + sz A by rw [List.length_append, List.length_append, List.length_cons, row_len]; show _ = pre.length + 1 + sz A; omega]
    refine ihA (pre ++ [2]) (rowT B ++ post) v3 v4 v5 h1 a1 K1 M1 T1 τ1 (cb :: st) (by rw [e, rowT]; simp) (fun x h2 ho => hx x h2 (by simp [oc, ho])) C1 (by omega) (by rw [List.length_cons]; omega) fun h2 a2 K2 M2 T2 τ2 ca v3 v4 v5 C2 d1 d2 d3 => ?_
    rw [show ((pre ++ [(2 : Int)]).length : Int) - 1 = (pre.length : Int) by rw [List.length_append]; show ((pre.length + 1 : Nat) : Int) - 1 = _; omega]
    have g := C2.1.1
    have sw := w0.x C2.1 ⟨fun z => z, fun z => z⟩
    have hr : pre.length < r.length := by rw [e, List.length_append, List.length_append, row_len]; simp only [sz]; omega
    have hb := sw.2.2.2 pre.length hr
    rw [show r[pre.length] = 2 by simp [e, rowT]] at hb
    refine ev_iload_n dX9_make_20 rfl ?_
    refine ev_iflt 143 dX9_make_21 (fun h_no => (by exfalso; omega)) (fun hb1 => ?_)
    refine ev_aload_n dX9_make_24 rfl ?_
    refine ev_iload_n dX9_make_25 rfl ?_
    refine ev_cvi dX9_make_26 lX9_125 (s_sgS sw.1 hr hb) (by decide) sw.1.1.1 sw.1.1.2 rfl rfl rfl (Nat.le_of_ble_eq_true rfl) rfl (fun q z q9 => ?_)
    obtain ⟨eq1, eq⟩ := q9
    rw [eq1, eq]
    refine ev_ist3 dX9_make_29 ?_
    refine ev_iload_n dX9_make_30 rfl ?_
    refine ev_iconst dX9_make_31 ?_
    refine ev_icmpne 62 dX9_make_32 (fun h_no => (by exfalso; omega)) (fun hb2 => ?_)
    refine ev_aload_n dX9_make_35 rfl ?_
    refine ev_cvi dX9_make_36 lX9_103 (s_takeTrail g C2.2.2.2.2.2.1) (by decide) g.1.k9 g.1.n9 rfl rfl rfl (Nat.le_of_ble_eq_true rfl) rfl (fun q h3 q9 => ?_)
    obtain ⟨rfl, y3, t3⟩ := q9
    have C3 := C2.mv (y3.wk (by decide) (fun _ z => z)) (fun _ _ => rfl) t3
    have g3 := C3.1.1
    refine ev_ist4 dX9_make_39 ?_
    refine ev_aload_n dX9_make_41 rfl ?_
    refine ev_cvi dX9_make_42 lX9_103 (s_takeTrail g3 t3) (by decide) g3.1.k9 g3.1.n9 rfl rfl rfl (Nat.le_of_ble_eq_true rfl) rfl (fun q h4 q9 => ?_)
    obtain ⟨rfl, y4, t4⟩ := q9
    have C4 := C3.mv (y4.wk (by decide) (fun _ z => z)) (fun _ _ => rfl) t4
    have g4 := C4.1.1
    refine ev_ist5 dX9_make_45 ?_
    refine ev_aload_n dX9_make_47 rfl ?_
    refine ev_aload_n dX9_make_48 rfl ?_
    refine ev_iload dX9_make_49 rfl ?_
    refine ev_iload dX9_make_51 rfl ?_
    refine ev_cvi dX9_make_53 lX9_49 (s_addT g4 C4.2.2.1 (by omega)) (by decide) g4.1.k9 g4.1.n9 rfl rfl rfl (Nat.le_of_ble_eq_true rfl) rfl (fun q h5 q9 => ?_)
    obtain ⟨rfl, y5⟩ := q9
    obtain ⟨a5, K5, τ5, C5⟩ := C4.arr (x := ca) (y := cb) (by omega) (by omega) y5
    have g5 := C5.1.1
    refine ev_cvv dX9_make_56 lX9_98 (s_addTrail (x := M2) g5 C5.2.2.2.2.2.1 (by omega)) (by decide) g5.1.k9 g5.1.n9 rfl rfl rfl (Nat.le_of_ble_eq_true rfl) rfl (fun h6 q9 => ?_)
    obtain ⟨a6, K6, d6, t6, q6⟩ := q9
    have C6 := C5.mv d6 q6 t6
    have g6 := C6.1.1
    refine ev_gt 137 dX9_make_59 ?_
    refine ev_iin2 dX9_make_137 (by unfold ir; omega) ?_
    refine ev_gt 20 dX9_make_140 ?_
    refine kk h6 a6 K6 _ _ _ M2 _ _ _ C6 (by omega) (fun k hk => ?_) ?_
    · rw [upT_n (by omega), d2 k (by omega), b2 k hk]
    · rw [upT_s, sbs, d3, d2 cb (by omega), b3]
end MkW
