/-! the class: fit, fitting, sums over lessons, the largest -/
theorem un_rs : ∀ (n : Nat) (ps : List (TE × TE)) (R : UR) (σ : List (Nat × TE)), un n ps = some (R, σ) → R.1 = 0 ∨ R.1 = 4 ∨ R.1 = 5
  | 0, _, _, _, h => nomatch h
  | n + 1, [], R, σ, h => by
    have e : ((0, -1, -1) : UR) = R := congrArg Prod.fst (Option.some.inj h)
    rw [← e]
    exact Or.inl rfl
  | n + 1, p :: ps, R, σ, h => by
    rw [un] at h
    by_cases c1 : teq p.1 p.2 = true
    · rw [if_pos c1] at h
      exact un_rs n _ _ _ h
    · rw [if_neg c1] at h
      by_cases c2 : kdT p.1 = 3 ∨ kdT p.2 = 3
      · rw [if_pos c2] at h
        obtain ⟨o, ho⟩ : ∃ o, o = (if kdT p.1 = 3 then p.2 else p.1) := ⟨_, rfl⟩
        obtain ⟨x, hx⟩ : ∃ x, x = vxT (if kdT p.1 = 3 then p.1 else p.2) := ⟨_, rfl⟩
        simp only [← ho, ← hx] at h
        by_cases c3 : oc x o = true
        · rw [if_pos c3] at h
          have e : ((5, -1, -1) : UR) = R := congrArg Prod.fst (Option.some.inj h)
          rw [← e]
          exact Or.inr (Or.inr rfl)
        · rw [if_neg c3] at h
          obtain ⟨q, hq, hh⟩ := Option.map_eq_some_iff.mp h
          have e : q.1 = R := congrArg Prod.fst hh
          rw [← e]
          exact un_rs n _ q.1 q.2 hq
      · rw [if_neg c2] at h
        by_cases c3 : kdT p.1 = 2 ∧ kdT p.2 = 2
        · rw [if_pos c3] at h
          exact un_rs n _ _ _ h
        · rw [if_neg c3] at h
          have e : ((4, (kdT p.1 : Int), (kdT p.2 : Int)) : UR) = R := congrArg Prod.fst (Option.some.inj h)
          rw [← e]
          exact Or.inr (Or.inl rfl)
def RsP (r : IR) : Prop := r.1 = 0 ∨ 3 ≤ r.1
theorem ap_rs {S S' : IS} {L : List Nd} {e : Nat} {r : IR} (h : apR S L e r S') : RsP r := by
  unfold apR at h
  by_cases c : 201 ≤ sz (S.2.1 (fstN L e)) ∨ 201 ≤ sz (S.2.1 (sndN L e))
  · rw [if_pos c] at h
    rw [h]
    exact Or.inr (by show (3 : Int) ≤ 10; decide)
  · rw [if_neg c] at h
    obtain ⟨F, R, σ, h1, h2, h3⟩ := h
    by_cases c0 : R.1 = 0
    · by_cases c1 : 201 ≤ sz (ap σ (S.2.1 (fstN L e)))
      · rw [(h3 c0).1 c1]
        exact Or.inr (by show (3 : Int) ≤ 10; decide)
      · rw [((h3 c0).2 c1).1]
        exact Or.inl rfl
    · rw [h2 c0]
      have := un_rs _ _ _ _ h1
      exact Or.inr (by show (3 : Int) ≤ R.1; omega)
theorem lf_rs {S S' : IS} {L : List Nd} {kp : Nat → Option TE} {e : Nat} {r : IR} (h : lfR L kp e S r S') : RsP r := by
  have b3 : RsP (3, (e : Int), -1, -1) := Or.inr (by show (3 : Int) ≤ 3; decide)
  unfold lfR at h
  by_cases c : TBL L 57 e = 0
  · rw [if_pos c] at h
    by_cases d : bd (TBL L) e < 0
    · rw [if_pos d] at h
      rw [h]; exact b3
    · rw [if_neg d] at h
      rw [h.1]; exact Or.inl rfl
  · rw [if_neg c] at h
    by_cases d : TBL L 57 e = 1
    · rw [if_pos d] at h
      cases hk : kp (TBL L 58 e - 65).toNat with
      | none => rw [hk] at h; rw [show r = (3, (e : Int), -1, -1) from h]; exact b3
      | some T => rw [hk] at h; rw [show r = (0, -1, -1, -1) from h.1]; exact Or.inl rfl
    · rw [if_neg d] at h
      rw [h.1]; exact Or.inl rfl
theorem th_rs {p : IR → IS → Prop} {q : IS → IR → IS → Prop} {r : IR} {S' : IS} (h : thR p q r S') (hp : ∀ r S, p r S → RsP r) (hq : ∀ S1 r S, q S1 r S → RsP r) : RsP r := by
  obtain ⟨r1, S1, h1, h2, h3⟩ := h
  by_cases c : r1.1 = 0
  · exact hq _ _ _ (h3 c)
  · rw [h2 c]; exact hp _ _ h1
theorem inf_rs {L : List Nd} {kp : Nat → Option TE} : ∀ (f e : Nat) (S : IS) (r : IR) (S' : IS), infR L kp f e S r S' → RsP r
  | 0, _, _, _, _, h => h.elim
  | f + 1, e, S, r, S', h => by
    have z0 : ∀ (r : IR) (S1 S2 : IS), r = (0, -1, -1, -1) ∧ S1 = S2 → RsP r := fun r S1 S2 w => by rw [w.1]; exact Or.inl rfl
    rw [infR] at h
    by_cases c : TBL L 57 e < 4
    · rw [if_pos c] at h; exact lf_rs h
    · rw [if_neg c] at h
      by_cases d : TBL L 57 e = 4
      · rw [if_pos d] at h
        exact th_rs h (fun r S w => inf_rs f _ _ _ _ w) (fun S1 r S w => z0 _ _ _ w)
      · rw [if_neg d] at h
        by_cases d5 : TBL L 57 e = 5
        · rw [if_pos d5] at h
          refine th_rs h (fun r S w => inf_rs f _ _ _ _ w) (fun S1 r S w => ?_)
          by_cases g : 201 ≤ sz (S1.2.1 (fstN L e))
          · rw [if_pos g] at w
            rw [w]; exact Or.inr (by show (3 : Int) ≤ 10; decide)
          · rw [if_neg g] at w
            exact th_rs w (fun r S w => inf_rs f _ _ _ _ w) (fun S1 r S w => z0 _ _ _ w)
        · rw [if_neg d5] at h
          exact th_rs h (fun r S w => inf_rs f _ _ _ _ w) (fun S1 r S w => th_rs w (fun r S w => inf_rs f _ _ _ _ w) (fun S1 r S w => ap_rs w))
theorem fn_rs {L : List Nd} {kp : Nat → Option TE} {r : IR} {S : IS} (h : fnR L kp r S) : RsP r := by
  obtain ⟨r0, h1, h2, h3⟩ := h
  by_cases c : r0.1 = 0
  · rw [h3 c]
    unfold mxR
    split
    · exact Or.inl rfl
    · exact Or.inr (by show (3 : Int) ≤ 10; decide)
  · rw [h2 c]; exact inf_rs _ _ _ _ _ h1
theorem ofV_f {L : List Nd} {kp : Nat → Option TE} {r : IR} {S : IS} {w : Int} (hw : w = 0 ∨ 2 < w) : ofV r S w = if r.1 = w then 1 else 0 := by
  unfold ofV
  by_cases c : r.1 ≠ 0 ∨ 2 < w
  · rw [if_pos c]
    by_cases d : r.1 = w
    · rw [if_pos d]
      by_cases e : r.1 ≠ 0
      · rw [if_pos ⟨e, d.symm⟩]
      · omega
    · rw [if_neg d, if_neg (fun z => d z.2.symm)]
  · rw [if_neg c, if_pos (by omega), if_pos (by omega)]
theorem ofV_n {L : List Nd} {kp : Nat → Option TE} {r : IR} {S : IS} {w : Int} (h : fnR L kp r S) (hr : r.1 ≠ 0) (hw : 0 ≤ w ∧ w ≤ 2) : ofV r S w = 0 := by
  have h9 := fn_rs h
  have h9 : r.1 = 0 ∨ 3 ≤ r.1 := h9
  unfold ofV
  rw [if_pos (Or.inl hr), if_neg (by omega)]
theorem ftd_nn {A B : TE} {y : Int} (h : ftdR A B y) : 0 ≤ y := by
  obtain ⟨F, R, σ, -, rfl⟩ := h
  split
  · exact Int.le_refl _
  · exact Int.natCast_nonneg _
theorem ShW.q5 {h h1 : AH} {a K a1 K1 : Nat → Nat} {sh R : Nat} {r : List Int} {Y : Nat → Prop} (w : ShW h a sh (sh + 1) R r) (q : QF h a K h1 a1 K1 Y) (f : FSc h a) (g : YA h a K) (hs : sh = 27 ∨ sh = 29) (hY : ¬ Y sh ∧ ¬ Y (sh + 1)) : ShW h1 a1 sh (sh + 1) R r := by
  obtain ⟨⟨e, x, -⟩, -⟩ := id q
  have n94 := g.1.1
  have no : ∀ c, 27 ≤ c → c ≤ 30 → ¬ FX h c := fun c h1 h2 z => by
    rcases z with z | z | z | z
    · omega
    · omega
    · have := f.lo z; omega
    · omega
  exact w.x x ⟨fun z => z.elim (no sh (by omega) (by omega)) hY.1, fun z => z.elim (no (sh + 1) (by omega) (by omega)) hY.2⟩
section Fit
variable {h : AH} {a K : Nat → Nat} {N : Nat} {tc : Nat → Nat} {LL : Nat → List Nd} {kp : Nat → Option TE} {p q9 : Int}
set_option maxRecDepth 100000 in
theorem g_fit (n : QN h a K N tc LL kp) (o : LkO N LL kp) : CV mX10_fit 11 [rv 0, iv p, iv q9] h (fun oo h1 => (¬ ((0 ≤ p ∧ p < (N : Int)) ∧ (0 ≤ q9 ∧ q9 < (N : Int))) ∧ oo = xv 2 ∧ h1 = h.thr) ∨ (((0 ≤ p ∧ p < (N : Int)) ∧ (0 ≤ q9 ∧ q9 < (N : Int))) ∧ ((¬ (TyP (LL p.toNat) kp ∧ TyP (LL q9.toNat) kp) ∧ oo = xv 4 ∧ QR h a K QY h1) ∨ ∃ r S r' S', (fnR (LL p.toNat) kp r S ∧ r.1 = 0) ∧ (fnR (LL q9.toNat) kp r' S' ∧ r'.1 = 0) ∧ ∃ y, ftdR (cnR (S.2.1 0) []) (cnR (S'.2.1 0) []) y ∧ ((y = 0 ∧ oo = xv 3 ∧ QR h a K QY h1) ∨ (y ≠ 0 ∧ oo = iv y ∧ ∃ a1 K1, QF h a K h1 a1 K1 QY))))) := by
  have hC := n.1.1
  have hS := n.sn
  refine cv_of cdX10_fit ?_
  show EV _ _ 0 [rv 0, iv p, iv q9, uv, uv, uv] [] h _
  by_cases hp : 0 ≤ p ∧ p < (N : Int)
  · skip
    refine ev_aload_n dX10_fit_0 rfl ?_
    refine ev_iload_n dX10_fit_1 rfl ?_
    refine ev_cvr dX10_fit_2 lX10_126 (g_termOf1 hS hp) (by decide) hC.k0 hC.n0 rfl rfl rfl (Nat.le_of_ble_eq_true rfl) rfl (fun r h1 q => ?_)
    obtain ⟨rfl, e⟩ := q
    rw [e]
    refine ev_ast3 dX10_fit_5 ?_
    refine ev_aload_n dX10_fit_6 rfl ?_
    refine ev_iload_n dX10_fit_7 rfl ?_
    by_cases hq : 0 ≤ q9 ∧ q9 < (N : Int)
    · skip
      refine ev_cvr dX10_fit_8 lX10_126 (g_termOf1 hS hq) (by decide) hC.k0 hC.n0 rfl rfl rfl (Nat.le_of_ble_eq_true rfl) rfl (fun r h1 q => ?_)
      obtain ⟨rfl, e⟩ := q
      rw [e]
      refine ev_ast4 dX10_fit_11 ?_
      refine ev_aload_n dX10_fit_13 rfl ?_
      refine ev_aload_n dX10_fit_14 rfl ?_
      refine ev_aload_n dX10_fit_15 rfl ?_
      refine ev_getrv dX10_fit_16 fX10_38 hC.k0 hC.n0 rfl hC.v0_4 ?_
      by_cases ok : TyP (LL p.toNat) kp
      · skip
        refine ev_cvv dX10_fit_19 lX10_177 (g_needT1 n o (l := p.toNat) (by omega) (sh := 27) (by decide) ok) (by decide) hC.k0 hC.n0 rfl rfl rfl (Nat.le_of_ble_eq_true rfl) rfl (fun h1 q => ?_)
        obtain ⟨r, S, M, T, τ, a1, K1, q1, q2, q3, q4, -, q6⟩ := q
        have hC1 := q4.g.1
        have n1 : QN h1 a1 K1 N tc LL kp := n.q q4 (fun c z => by have z : c = 27 ∨ c = 28 := z; omega)
        have q4' : QF h a K h1 a1 K1 QY := q4.wk (shY_q (by decide))
        refine ev_aload_n dX10_fit_22 rfl ?_
        refine ev_aload dX10_fit_23 rfl ?_
        refine ev_aload_n dX10_fit_25 rfl ?_
        refine ev_getrv dX10_fit_26 fX10_42 hC1.k0 hC1.n0 rfl hC1.v0_5 ?_
        by_cases ok2 : TyP (LL q9.toNat) kp
        · skip
          refine ev_cvv dX10_fit_29 lX10_177 (g_needT1 n1 o (l := q9.toNat) (by omega) (sh := 29) (by decide) ok2) (by decide) hC1.k0 hC1.n0 rfl rfl rfl (Nat.le_of_ble_eq_true rfl) rfl (fun h2 q => ?_)
          obtain ⟨r', S', M', T', τ', a2, K2, w1, w2, w3, w4, -, w6⟩ := q
          have hC2 := w4.g.1
          have w4' : QF h a K h2 a2 K2 QY := q4'.tr (w4.wk (shY_q (by decide)))
          have q7 : ShW h2 a2 27 28 200 (cnT (S.2.1 0) []).1 := q6.q4 w4 n1.2.2.1 n1.1
          refine ev_aload_n dX10_fit_32 rfl ?_
          refine ev_getrv dX10_fit_33 fX10_29 hC2.k0 hC2.n0 rfl hC2.v0_3 ?_
          refine ev_aload_n dX10_fit_36 rfl ?_
          refine ev_getrv dX10_fit_37 fX10_38 hC2.k0 hC2.n0 rfl hC2.v0_4 ?_
          refine ev_aload_n dX10_fit_40 rfl ?_
          refine ev_getrv dX10_fit_41 fX10_42 hC2.k0 hC2.n0 rfl hC2.v0_5 ?_
          refine ev_cvi dX10_fit_44 lX10_204 (s_sizeApplied w4.g w4.2.1 w4.2.2.2 q7 w6) (by decide) hC2.k8 hC2.n8 rfl rfl rfl (Nat.le_of_ble_eq_true rfl) rfl (fun x h3 q => ?_)
          obtain ⟨y, y1, y2, a3, K3, y3⟩ := q
          have w5' : QF h a K h3 a3 K3 QY := w4'.tr (y3.wk (fun _ z => z.elim))
          have yn := ftd_nn y1
          have hC3 := y3.g.1
          refine ev_ist5 dX10_fit_47 ?_
          refine ev_iload dX10_fit_49 rfl ?_
          by_cases c : y = 0
          · skip
            rw [if_pos c] at y2
            refine ev_ifge 64 dX10_fit_51 (fun h_no => (by exfalso; omega)) (fun hb => ?_)
            exact ev_throwx _ tk_3 (List.mem_of_getElem? (i := 12) rfl) dX10_fit_54 dX10_fit_57 dX10_fit_58 dX10_fit_60 dX10_fit_63 rfl (Nat.le_of_ble_eq_true rfl) (Or.inr ⟨⟨hp, hq⟩, Or.inr ⟨r, S, r', S', ⟨q1, q2⟩, ⟨w1, w2⟩, y, y1, Or.inl ⟨c, rfl, h3, a3, K3, rfl, w5'⟩⟩⟩)
          · skip
            rw [if_neg c] at y2
            refine ev_ifge 64 dX10_fit_51 (fun hb => ?_) (fun h_no => (by exfalso; omega))
            refine ev_iload dX10_fit_64 rfl ?_
            exact ev_iret dX10_fit_66 (Or.inr ⟨⟨hp, hq⟩, Or.inr ⟨r, S, r', S', ⟨q1, q2⟩, ⟨w1, w2⟩, y, y1, Or.inr ⟨c, by rw [y2], a3, K3, w5'⟩⟩⟩)
        · skip
          refine ev_callv dX10_fit_29 lX10_177 (g_needT0 n1 o (l := q9.toNat) (by omega) ok2) (by decide) (by decide) (by have := hC1.n0; omega) hC1.k0 rfl rfl (Nat.le_of_ble_eq_true rfl) rfl (fun o h1 q => by obtain ⟨rfl, q⟩ := q; exact ⟨fun _ => Or.inr ⟨⟨hp, hq⟩, Or.inl ⟨fun z => ok2 z.2, rfl, by obtain ⟨_, _, _, _, h2, a2, K2, e2, q3⟩ := q; exact ⟨h2, a2, K2, e2, q4'.tr (q3.wk (fun _ z => z.elim))⟩⟩⟩, fun e => absurd rfl e⟩) (Or.inr q_1437)
      · skip
        refine ev_callv dX10_fit_19 lX10_177 (g_needT0 n o (l := p.toNat) (by omega) ok) (by decide) (by decide) (by have := hC.n0; omega) hC.k0 rfl rfl (Nat.le_of_ble_eq_true rfl) rfl (fun o h1 q => by obtain ⟨rfl, q⟩ := q; exact ⟨fun _ => Or.inr ⟨⟨hp, hq⟩, Or.inl ⟨fun z => ok z.1, rfl, by obtain ⟨_, _, _, _, q3⟩ := q; exact q3.wk (fun _ z => z.elim)⟩⟩, fun e => absurd rfl e⟩) (Or.inr q_1437)
    · skip
      refine ev_callv dX10_fit_8 lX10_126 (g_termOf0 hS hq) (by decide) (by decide) (by have := hC.n0; omega) hC.k0 rfl rfl (Nat.le_of_ble_eq_true rfl) rfl (fun o h1 q => by obtain ⟨rfl, rfl⟩ := q; exact ⟨fun _ => Or.inl ⟨fun z => hq z.2, rfl, rfl⟩, fun e => absurd rfl e⟩) (Or.inr q_1326)
  · skip
    refine ev_aload_n dX10_fit_0 rfl ?_
    refine ev_iload_n dX10_fit_1 rfl ?_
    refine ev_callv dX10_fit_2 lX10_126 (g_termOf0 hS hp) (by decide) (by decide) (by have := hC.n0; omega) hC.k0 rfl rfl (Nat.le_of_ble_eq_true rfl) rfl (fun o h1 q => by obtain ⟨rfl, rfl⟩ := q; exact ⟨fun _ => Or.inl ⟨fun z => hp z.1, rfl, rfl⟩, fun e => absurd rfl e⟩) (Or.inr q_1326)
set_option maxRecDepth 100000 in
theorem fi_loop {h0 : AH} {a0 K0 : Nat → Nat} {A : TE} (n0 : QN h0 a0 K0 N tc LL kp) (o : LkO N LL kp) : ∀ (m l : Nat) (x : Int) (h : AH) (a K : Nat → Nat), l + m = N → QF h0 a0 K0 h a K QY → ShW h a 27 28 200 (cnT A []).1 → fgR A LL kp l x → EV mX10_fitting 11 17 [rv 0, iv p, iv x, iv (l : Int)] [] h (oi fun y h1 => fgR A LL kp N y ∧ ∃ a1 K1, QF h0 a0 K0 h1 a1 K1 QY)
  | 0, l, x, h, a, K, hl, q, w, hx => by
    obtain rfl : l = N := by omega
    have n := n0.q q (fun c z => by have z : 27 ≤ c ∧ c ≤ 30 := z; omega)
    have hC := n.1.1
    have hN := n.2.2.2.1.1
    refine ev_iload_n dX10_fitting_17 rfl ?_
    refine ev_aload_n dX10_fitting_18 rfl ?_
    refine ev_getrv dX10_fitting_19 fX10_48 hC.k0 hC.n0 rfl hC.v0_6 ?_
    refine ev_getiv dX10_fitting_22 fX10_83 hC.k31 hC.n31 rfl hN ?_
    refine ev_icmpge 74 dX10_fitting_25 (fun hb => ?_) (fun h_no => (by exfalso; omega))
    refine ev_iload_n dX10_fitting_74 rfl ?_
    exact ev_iret dX10_fitting_75 (⟨_, rfl, hx, a, K, q⟩)
  | m + 1, l, x, h, a, K, hl, q, w, hx => by
    have n := n0.q q (fun c z => by have z : 27 ≤ c ∧ c ≤ 30 := z; omega)
    have hC := n.1.1
    have hS := n.sn
    have hN := n.2.2.2.1.1
    have n6 := n.2.2.2.1.2.1
    have hx9 := fg_le l x hx
    have nx : ∀ (h1 : AH) (a1 K1 : Nat → Nat) (x1 : Int), QF h0 a0 K0 h1 a1 K1 QY → ShW h1 a1 27 28 200 (cnT A []).1 → fgR A LL kp (l + 1) x1 → EV mX10_fitting 11 68 [rv 0, iv p, iv x1, iv (l : Int)] [] h1 (oi fun y h1 => fgR A LL kp N y ∧ ∃ a1 K1, QF h0 a0 K0 h1 a1 K1 QY) := by
      intro h1 a1 K1 x1 b1 b2 b3
      refine ev_iin3 dX10_fitting_68 (by unfold ir; omega) ?_
      refine ev_gt 17 dX10_fitting_71 ?_
      rw [show (l : Int) + 1 = ((l + 1 : Nat) : Int) by omega]
      exact fi_loop n0 o m (l + 1) x1 h1 a1 K1 (by omega) b1 b2 b3
    refine ev_iload_n dX10_fitting_17 rfl ?_
    refine ev_aload_n dX10_fitting_18 rfl ?_
    refine ev_getrv dX10_fitting_19 fX10_48 hC.k0 hC.n0 rfl hC.v0_6 ?_
    refine ev_getiv dX10_fitting_22 fX10_83 hC.k31 hC.n31 rfl hN ?_
    refine ev_icmpge 74 dX10_fitting_25 (fun h_no => (by exfalso; omega)) (fun hb => ?_)
    refine ev_aload_n dX10_fitting_28 rfl ?_
    refine ev_aload_n dX10_fitting_29 rfl ?_
    refine ev_getrv dX10_fitting_30 fX10_48 hC.k0 hC.n0 rfl hC.v0_6 ?_
    refine ev_iload_n dX10_fitting_33 rfl ?_
    refine ev_cvr dX10_fitting_34 lX10_210 (s_termAt hC.st31) (by decide) hC.k31 hC.n31 rfl rfl rfl (Nat.le_of_ble_eq_true rfl) rfl (fun r h1 q9 => ?_)
    obtain ⟨er, e⟩ := q9
    rw [e, er, hS.tm (p := (l : Int)) (by omega), show ((l : Nat) : Int).toNat = l from rfl]
    refine ev_aload_n dX10_fitting_37 rfl ?_
    refine ev_getrv dX10_fitting_38 fX10_42 hC.k0 hC.n0 rfl hC.v0_5 ?_
    refine ev_cvi dX10_fitting_41 lX10_213 (g_spells n o (l := l) (sh := 29) (by omega) (by decide)) (by decide) hC.k0 hC.n0 rfl rfl rfl (Nat.le_of_ble_eq_true rfl) rfl (fun z h1 q9 => ?_)
    rcases q9 with ⟨z1, r1, S1, M1, T1, τ1, a1, K1, u1, u2, u3, u4, -, u6⟩ | ⟨z1, r1, S1, a1, K1, u1, u2, u4⟩
    · skip
      have hC1 := u4.g.1
      have w1 : ShW h1 a1 27 28 200 (cnT A []).1 := w.q5 u4 n.2.2.1 n.1 (by decide) (by decide)
      have u4' : QF h0 a0 K0 h1 a1 K1 QY := q.tr (u4.wk (shY_q (by decide)))
      refine ev_ifeq 68 dX10_fitting_44 (fun h_no => (by exfalso; omega)) (fun hb2 => ?_)
      refine ev_aload_n dX10_fitting_47 rfl ?_
      refine ev_getrv dX10_fitting_48 fX10_29 hC1.k0 hC1.n0 rfl hC1.v0_3 ?_
      refine ev_aload_n dX10_fitting_51 rfl ?_
      refine ev_getrv dX10_fitting_52 fX10_38 hC1.k0 hC1.n0 rfl hC1.v0_4 ?_
      refine ev_aload_n dX10_fitting_55 rfl ?_
      refine ev_getrv dX10_fitting_56 fX10_42 hC1.k0 hC1.n0 rfl hC1.v0_5 ?_
      refine ev_cvi dX10_fitting_59 lX10_204 (s_sizeApplied u4.g u4.2.1 u4.2.2.2 w1 u6) (by decide) hC1.k8 hC1.n8 rfl rfl rfl (Nat.le_of_ble_eq_true rfl) rfl (fun z h2 q9 => ?_)
      obtain ⟨y, y1, y2, a3, K3, y3⟩ := q9
      have yn := ftd_nn y1
      have w2 : ShW h2 a3 27 28 200 (cnT A []).1 := w1.q5 y3 u4.2.1 u4.g (by decide) ⟨fun z => z, fun z => z⟩
      have y3' : QF h0 a0 K0 h2 a3 K3 QY := u4'.tr (y3.wk (fun _ z => z.elim))
      by_cases c : y = 0
      · skip
        rw [if_pos c] at y2
        refine ev_iflt 68 dX10_fitting_62 (fun hb3 => ?_) (fun h_no => (by exfalso; omega))
        exact nx h2 a3 K3 x y3' w2 ⟨x, r1, S1, hx, u1, fun _ => rfl, fun _ => ⟨y, y1, by rw [if_pos c]; omega⟩⟩
      rw [if_neg c] at y2
      refine ev_iflt 68 dX10_fitting_62 (fun h_no => (by exfalso; omega)) (fun hb3 => ?_)
      refine ev_iin2 dX10_fitting_65 (by unfold ir; omega) ?_
      exact nx h2 a3 K3 (x + 1) y3' w2 ⟨x, r1, S1, hx, u1, fun z => absurd u2 z, fun _ => ⟨y, y1, by rw [if_neg c]⟩⟩
    refine ev_ifeq 68 dX10_fitting_44 (fun hb2 => ?_) (fun h_no => (by exfalso; omega))
    exact nx h1 a1 K1 x (q.tr (u4.wk (shY_q (by decide)))) (w.q5 u4 n.2.2.1 n.1 (by decide) (by decide)) ⟨x, r1, S1, hx, u1, fun _ => rfl, fun z => absurd z u2⟩
set_option maxRecDepth 100000 in
theorem g_fitting (n : QN h a K N tc LL kp) (o : LkO N LL kp) : CV mX10_fitting 11 [rv 0, iv p] h (fun oo h1 => (¬ (0 ≤ p ∧ p < (N : Int)) ∧ oo = xv 2 ∧ h1 = h.thr) ∨ ((0 ≤ p ∧ p < (N : Int)) ∧ ∃ r S, fnR (LL p.toNat) kp r S ∧ ((r.1 ≠ 0 ∧ oo = xv 4 ∧ QR h a K QY h1) ∨ (r.1 = 0 ∧ ∃ x, oo = iv x ∧ fgR (S.2.1 0) LL kp N x ∧ ∃ a1 K1, QF h a K h1 a1 K1 QY)))) := by
  have hC := n.1.1
  have hS := n.sn
  refine cv_of cdX10_fitting ?_
  show EV _ _ 0 [rv 0, iv p, uv, uv] [] h _
  by_cases hp : 0 ≤ p ∧ p < (N : Int)
  · skip
    refine ev_aload_n dX10_fitting_0 rfl ?_
    refine ev_aload_n dX10_fitting_1 rfl ?_
    refine ev_iload_n dX10_fitting_2 rfl ?_
    refine ev_cvr dX10_fitting_3 lX10_126 (g_termOf1 hS hp) (by decide) hC.k0 hC.n0 rfl rfl rfl (Nat.le_of_ble_eq_true rfl) rfl (fun r h1 q => ?_)
    obtain ⟨rfl, e⟩ := q
    rw [e]
    refine ev_aload_n dX10_fitting_6 rfl ?_
    refine ev_getrv dX10_fitting_7 fX10_38 hC.k0 hC.n0 rfl hC.v0_4 ?_
    by_cases ok : TyP (LL p.toNat) kp
    · skip
      refine ev_cvv dX10_fitting_10 lX10_177 (g_needT1 n o (l := p.toNat) (by omega) (sh := 27) (by decide) ok) (by decide) hC.k0 hC.n0 rfl rfl rfl (Nat.le_of_ble_eq_true rfl) rfl (fun h1 q => ?_)
      obtain ⟨r, S, M, T, τ, a1, K1, q1, q2, q3, q4, -, q6⟩ := q
      refine ev_iconst dX10_fitting_13 ?_
      refine ev_ist2 dX10_fitting_14 ?_
      refine ev_iconst dX10_fitting_15 ?_
      refine ev_ist3 dX10_fitting_16 ?_
      refine ev_mono (fi_loop (A := S.2.1 0) n o N 0 0 h1 a1 K1 (Nat.zero_add _) (q4.wk (shY_q (by decide))) q6 (by rw [fgR])) fun oo h2 q9 => ?_
      obtain ⟨x, rfl, x1, x2⟩ := q9
      exact Or.inr ⟨hp, r, S, q1, Or.inr ⟨q2, x, rfl, x1, x2⟩⟩
    · skip
      refine ev_callv dX10_fitting_10 lX10_177 (g_needT0 n o (l := p.toNat) (by omega) ok) (by decide) (by decide) (by have := hC.n0; omega) hC.k0 rfl rfl (Nat.le_of_ble_eq_true rfl) rfl (fun o h1 q => by obtain ⟨rfl, q⟩ := q; exact ⟨fun _ => Or.inr ⟨hp, by obtain ⟨r, S, q1, q2, q3⟩ := q; exact ⟨r, S, q1, Or.inl ⟨q2, rfl, q3.wk (fun _ z => z.elim)⟩⟩⟩, fun e => absurd rfl e⟩) (Or.inr q_1437)
  · skip
    refine ev_aload_n dX10_fitting_0 rfl ?_
    refine ev_aload_n dX10_fitting_1 rfl ?_
    refine ev_iload_n dX10_fitting_2 rfl ?_
    refine ev_callv dX10_fitting_3 lX10_126 (g_termOf0 hS hp) (by decide) (by decide) (by have := hC.n0; omega) hC.k0 rfl rfl (Nat.le_of_ble_eq_true rfl) rfl (fun o h1 q => by obtain ⟨rfl, rfl⟩ := q; exact ⟨fun _ => Or.inl ⟨hp, rfl, rfl⟩, fun e => absurd rfl e⟩) (Or.inr q_1326)
end Fit
