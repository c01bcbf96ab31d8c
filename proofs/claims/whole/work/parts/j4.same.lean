/-! the class: two types as rows; are they alike -/
theorem ShW.q4 {h h1 : AH} {a K a1 K1 : Nat → Nat} {R : Nat} {r : List Int} (w : ShW h a 27 28 R r) (q : QF h a K h1 a1 K1 (ShY 29)) (f : FSc h a) (g : YA h a K) : ShW h1 a1 27 28 R r := by
  obtain ⟨⟨e, x, -⟩, -⟩ := id q
  have n94 := g.1.1
  have no : ∀ c, 27 ≤ c → c ≤ 28 → ¬ (FX h c ∨ ShY 29 c) := fun c h1 h2 z => by
    rcases z with (z | z | z | z) | z
    · omega
    · omega
    · have := f.lo z; omega
    · omega
    · have z : c = 29 ∨ c = 30 := z
      omega
  exact w.x x ⟨no 27 (by decide) (by decide), no 28 (by decide) (by decide)⟩
section Same
variable {h : AH} {s b R n s' b' R' n' : Nat}
set_option maxRecDepth 100000 in
theorem sa_loop (g : ShI h s b R n) (g' : ShI h s' b' R' n) : ∀ (m i : Nat), i + m = n → (∀ j, j < i → h.vl b j = h.vl b' j) → EV mX5_isSame 3 15 [rv s, rv s', iv (i : Int)] [] h (oi fun x h1 => (x = 0 ∨ x = 1) ∧ (x = 1 ↔ ∀ j, j < n → h.vl b j = h.vl b' j) ∧ h1 = h)
  | 0, i, hi, hp => by
    obtain rfl : i = n := by omega
    have g6 := g.2.2.1
    refine ev_iload_n dX5_isSame_15 rfl ?_
    refine ev_aload_n dX5_isSame_16 rfl ?_
    refine ev_getiv dX5_isSame_17 fX5_15 g.1.1 g.1.2 rfl g6 ?_
    refine ev_icmpge 44 dX5_isSame_20 (fun hb => ?_) (fun h_no => (by exfalso; omega))
    refine ev_iconst dX5_isSame_44 ?_
    exact ev_zret dX5_isSame_45 (⟨_, rfl, Or.inr rfl, ⟨fun _ => hp, fun _ => rfl⟩, rfl⟩) (Or.inr rfl)
  | m + 1, i, hi, hp => by
    have g6 := g.2.2.1
    have g7 := g.2.2.2
    refine ev_iload_n dX5_isSame_15 rfl ?_
    refine ev_aload_n dX5_isSame_16 rfl ?_
    refine ev_getiv dX5_isSame_17 fX5_15 g.1.1 g.1.2 rfl g6 ?_
    refine ev_icmpge 44 dX5_isSame_20 (fun h_no => (by exfalso; omega)) (fun hb => ?_)
    refine ev_aload_n dX5_isSame_23 rfl ?_
    refine ev_iload_n dX5_isSame_24 rfl ?_
    obtain ⟨x, hx⟩ : ∃ x, h.vl b i = x := ⟨_, rfl⟩
    obtain ⟨y, hy⟩ : ∃ y, h.vl b' i = y := ⟨_, rfl⟩
    refine ev_cvi dX5_isSame_25 lX5_30 (s_sgS g (by omega) hx) (by decide) g.1.1 g.1.2 rfl rfl rfl (Nat.le_of_ble_eq_true rfl) rfl (fun r z q => ?_)
    obtain ⟨rfl, eq⟩ := q
    rw [eq]
    refine ev_aload_n dX5_isSame_28 rfl ?_
    refine ev_iload_n dX5_isSame_29 rfl ?_
    refine ev_cvi dX5_isSame_30 lX5_30 (s_sgS g' (by omega) hy) (by decide) g'.1.1 g'.1.2 rfl rfl rfl (Nat.le_of_ble_eq_true rfl) rfl (fun r' z q => ?_)
    obtain ⟨rfl, eq⟩ := q
    rw [eq]
    by_cases c : r = r'
    · skip
      refine ev_icmpeq 38 dX5_isSame_33 (fun hb2 => ?_) (fun h_no => (by exfalso; omega))
      refine ev_iin2 dX5_isSame_38 (by unfold ir; omega) ?_
      refine ev_gt 15 dX5_isSame_41 ?_
      rw [show (i : Int) + 1 = ((i + 1 : Nat) : Int) by omega]
      refine sa_loop g g' m (i + 1) (by omega) (fun j hj => ?_)
      by_cases e : j = i
      · rw [e, hx, hy, c]
      · exact hp j (by omega)
    refine ev_icmpeq 38 dX5_isSame_33 (fun h_no => (by exfalso; omega)) (fun hb2 => ?_)
    refine ev_iconst dX5_isSame_36 ?_
    exact ev_zret dX5_isSame_37 (⟨_, rfl, Or.inl rfl, ⟨fun z => absurd z (by decide), fun z => absurd (by rw [← hx, ← hy]; exact z i (by omega)) c⟩, rfl⟩) (Or.inl rfl)
set_option maxRecDepth 100000 in
theorem s_isSameC {a : Nat → Nat} {r r' : List Int} (w : ShW h a s b R r) (w' : ShW h a s' b' R' r') : CV mX5_isSame 3 [rv s, rv s'] h (oi fun x h1 => (x = 0 ∨ x = 1) ∧ (x = 1 ↔ r = r') ∧ h1 = h) := by
  have g := w.1
  have g' := w'.1
  have g6 := g.2.2.1
  have g6' := g'.2.2.1
  have g7 := g.2.2.2
  have g7' := g'.2.2.2
  refine cv_of cdX5_isSame ?_
  show EV _ _ 0 [rv s, rv s', uv] [] h _
  refine ev_aload_n dX5_isSame_0 rfl ?_
  refine ev_getiv dX5_isSame_1 fX5_15 g.1.1 g.1.2 rfl g6 ?_
  refine ev_aload_n dX5_isSame_4 rfl ?_
  refine ev_getiv dX5_isSame_5 fX5_15 g'.1.1 g'.1.2 rfl g6' ?_
  by_cases c : r.length = r'.length
  · skip
    refine ev_icmpeq 13 dX5_isSame_8 (fun hb => ?_) (fun h_no => (by exfalso; omega))
    refine ev_iconst dX5_isSame_13 ?_
    refine ev_ist2 dX5_isSame_14 ?_
    rw [← c] at g'
    refine ev_mono (sa_loop g g' r.length 0 (Nat.zero_add _) (fun j hj => absurd hj (Nat.not_lt_zero _))) fun o h1 q => ?_
    obtain ⟨x, rfl, q1, q2, q3⟩ := q
    refine ⟨x, rfl, q1, q2.trans ⟨fun z => List.ext_getElem c (fun i h1 h2 => ?_), fun z j hj => ?_⟩, q3⟩
    · rw [← w.2.2.2 i h1, ← w'.2.2.2 i h2]
      exact z i h1
    · rw [w.2.2.2 j hj, w'.2.2.2 j (by omega)]
      simp only [z]
  refine ev_icmpeq 13 dX5_isSame_8 (fun h_no => (by exfalso; omega)) (fun hb => ?_)
  refine ev_iconst dX5_isSame_11 ?_
  exact ev_zret dX5_isSame_12 (⟨_, rfl, Or.inl rfl, ⟨fun z => absurd z (by decide), fun z => absurd (by rw [z]) c⟩, rfl⟩) (Or.inl rfl)
end Same
section Ali
variable {h : AH} {a K : Nat → Nat} {N : Nat} {tc : Nat → Nat} {LL : Nat → List Nd} {kp : Nat → Option TE} {p q9 : Int}
set_option maxRecDepth 100000 in
theorem g_isAlike (n : QN h a K N tc LL kp) (o : LkO N LL kp) : CV mX10_isAlike 11 [rv 0, iv p, iv q9] h (fun oo h1 => (¬ ((0 ≤ p ∧ p < (N : Int)) ∧ (0 ≤ q9 ∧ q9 < (N : Int))) ∧ oo = xv 2 ∧ h1 = h.thr) ∨ (((0 ≤ p ∧ p < (N : Int)) ∧ (0 ≤ q9 ∧ q9 < (N : Int))) ∧ ((¬ (TyP (LL p.toNat) kp ∧ TyP (LL q9.toNat) kp) ∧ oo = xv 4 ∧ QR h a K QY h1) ∨ ∃ r S r' S', (fnR (LL p.toNat) kp r S ∧ r.1 = 0) ∧ (fnR (LL q9.toNat) kp r' S' ∧ r'.1 = 0) ∧ ∃ x, oo = iv x ∧ (x = 0 ∨ x = 1) ∧ (x = 1 ↔ (cnT (S.2.1 0) []).1 = (cnT (S'.2.1 0) []).1) ∧ ∃ a1 K1, QF h a K h1 a1 K1 QY))) := by
  have hC := n.1.1
  have hS := n.sn
  refine cv_of cdX10_isAlike ?_
  show EV _ _ 0 [rv 0, iv p, iv q9, uv, uv] [] h _
  by_cases hp : 0 ≤ p ∧ p < (N : Int)
  · skip
    refine ev_aload_n dX10_isAlike_0 rfl ?_
    refine ev_iload_n dX10_isAlike_1 rfl ?_
    refine ev_cvr dX10_isAlike_2 lX10_126 (g_termOf1 hS hp) (by decide) hC.k0 hC.n0 rfl rfl rfl (Nat.le_of_ble_eq_true rfl) rfl (fun r h1 q => ?_)
    obtain ⟨rfl, e⟩ := q
    rw [e]
    refine ev_ast3 dX10_isAlike_5 ?_
    refine ev_aload_n dX10_isAlike_6 rfl ?_
    refine ev_iload_n dX10_isAlike_7 rfl ?_
    by_cases hq : 0 ≤ q9 ∧ q9 < (N : Int)
    · skip
      refine ev_cvr dX10_isAlike_8 lX10_126 (g_termOf1 hS hq) (by decide) hC.k0 hC.n0 rfl rfl rfl (Nat.le_of_ble_eq_true rfl) rfl (fun r h1 q => ?_)
      obtain ⟨rfl, e⟩ := q
      rw [e]
      refine ev_ast4 dX10_isAlike_11 ?_
      refine ev_aload_n dX10_isAlike_13 rfl ?_
      refine ev_aload_n dX10_isAlike_14 rfl ?_
      refine ev_aload_n dX10_isAlike_15 rfl ?_
      refine ev_getrv dX10_isAlike_16 fX10_38 hC.k0 hC.n0 rfl hC.v0_4 ?_
      by_cases ok : TyP (LL p.toNat) kp
      · skip
        refine ev_cvv dX10_isAlike_19 lX10_177 (g_needT1 n o (l := p.toNat) (by omega) (sh := 27) (by decide) ok) (by decide) hC.k0 hC.n0 rfl rfl rfl (Nat.le_of_ble_eq_true rfl) rfl (fun h1 q => ?_)
        obtain ⟨r, S, M, T, τ, a1, K1, q1, q2, q3, q4, -, q6⟩ := q
        have hC1 := q4.g.1
        have n1 : QN h1 a1 K1 N tc LL kp := n.q q4 (fun c z => by have z : c = 27 ∨ c = 28 := z; omega)
        have q4' : QF h a K h1 a1 K1 QY := q4.wk (shY_q (by decide))
        refine ev_aload_n dX10_isAlike_22 rfl ?_
        refine ev_aload dX10_isAlike_23 rfl ?_
        refine ev_aload_n dX10_isAlike_25 rfl ?_
        refine ev_getrv dX10_isAlike_26 fX10_42 hC1.k0 hC1.n0 rfl hC1.v0_5 ?_
        by_cases ok2 : TyP (LL q9.toNat) kp
        · skip
          refine ev_cvv dX10_isAlike_29 lX10_177 (g_needT1 n1 o (l := q9.toNat) (by omega) (sh := 29) (by decide) ok2) (by decide) hC1.k0 hC1.n0 rfl rfl rfl (Nat.le_of_ble_eq_true rfl) rfl (fun h2 q => ?_)
          obtain ⟨r', S', M', T', τ', a2, K2, w1, w2, w3, w4, -, w6⟩ := q
          have hC2 := w4.g.1
          have w4' : QF h a K h2 a2 K2 QY := q4'.tr (w4.wk (shY_q (by decide)))
          have q7 : ShW h2 a2 27 28 200 (cnT (S.2.1 0) []).1 := q6.q4 w4 n1.2.2.1 n1.1
          refine ev_aload_n dX10_isAlike_32 rfl ?_
          refine ev_getrv dX10_isAlike_33 fX10_38 hC2.k0 hC2.n0 rfl hC2.v0_4 ?_
          refine ev_aload_n dX10_isAlike_36 rfl ?_
          refine ev_getrv dX10_isAlike_37 fX10_42 hC2.k0 hC2.n0 rfl hC2.v0_5 ?_
          refine ev_cvi dX10_isAlike_40 lX10_197 (s_isSameC q7 w6) (by decide) hC2.k27 hC2.n27 rfl rfl rfl (Nat.le_of_ble_eq_true rfl) rfl (fun x h3 q => ?_)
          obtain ⟨x1, x2, e3⟩ := q
          rw [e3]
          exact ev_zret dX10_isAlike_43 (Or.inr ⟨⟨hp, hq⟩, Or.inr ⟨r, S, r', S', ⟨q1, q2⟩, ⟨w1, w2⟩, x, rfl, x1, x2, a2, K2, w4'⟩⟩) (by omega)
        · skip
          refine ev_callv dX10_isAlike_29 lX10_177 (g_needT0 n1 o (l := q9.toNat) (by omega) ok2) (by decide) (by decide) (by have := hC1.n0; omega) hC1.k0 rfl rfl (Nat.le_of_ble_eq_true rfl) rfl (fun o h1 q => by obtain ⟨rfl, q⟩ := q; exact ⟨fun _ => Or.inr ⟨⟨hp, hq⟩, Or.inl ⟨fun z => ok2 z.2, rfl, by obtain ⟨_, _, _, _, h2, a2, K2, e2, q3⟩ := q; exact ⟨h2, a2, K2, e2, q4'.tr (q3.wk (fun _ z => z.elim))⟩⟩⟩, fun e => absurd rfl e⟩) (Or.inr q_1437)
      · skip
        refine ev_callv dX10_isAlike_19 lX10_177 (g_needT0 n o (l := p.toNat) (by omega) ok) (by decide) (by decide) (by have := hC.n0; omega) hC.k0 rfl rfl (Nat.le_of_ble_eq_true rfl) rfl (fun o h1 q => by obtain ⟨rfl, q⟩ := q; exact ⟨fun _ => Or.inr ⟨⟨hp, hq⟩, Or.inl ⟨fun z => ok z.1, rfl, by obtain ⟨_, _, _, _, q3⟩ := q; exact q3.wk (fun _ z => z.elim)⟩⟩, fun e => absurd rfl e⟩) (Or.inr q_1437)
    · skip
      refine ev_callv dX10_isAlike_8 lX10_126 (g_termOf0 hS hq) (by decide) (by decide) (by have := hC.n0; omega) hC.k0 rfl rfl (Nat.le_of_ble_eq_true rfl) rfl (fun o h1 q => by obtain ⟨rfl, rfl⟩ := q; exact ⟨fun _ => Or.inl ⟨fun z => hq z.2, rfl, rfl⟩, fun e => absurd rfl e⟩) (Or.inr q_1326)
  · skip
    refine ev_aload_n dX10_isAlike_0 rfl ?_
    refine ev_iload_n dX10_isAlike_1 rfl ?_
    refine ev_callv dX10_isAlike_2 lX10_126 (g_termOf0 hS hp) (by decide) (by decide) (by have := hC.n0; omega) hC.k0 rfl rfl (Nat.le_of_ble_eq_true rfl) rfl (fun o h1 q => by obtain ⟨rfl, rfl⟩ := q; exact ⟨fun _ => Or.inl ⟨fun z => hp z.1, rfl, rfl⟩, fun e => absurd rfl e⟩) (Or.inr q_1326)
end Ali
