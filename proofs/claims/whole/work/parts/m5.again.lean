/-! the class: the second way's questions -/
theorem nd_kept {L : List Nd} (hnd : ∀ x ∈ L, ndOK x) {e : Nat} (he : e < L.length) (h : TBL L 57 e = 1) : 65 ≤ TBL L 58 e ∧ TBL L 58 e ≤ 72 := by
  obtain ⟨e1, e2, e3⟩ := TBL_own he
  have hm : L.getD e (0, 0, 0) ∈ L := by
    rw [List.getD_eq_getElem?_getD, List.getElem?_eq_getElem he]
    exact List.getElem_mem _
  have := (hnd _ hm).1
  rw [← e1, ← e2] at this
  omega
theorem FrV.q {h0 h1 : AH} {a0 K0 a1 K1 : Nat → Nat} {L : List Nd} {kp : Nat → Option TE} {tc : Nat} (f : FrV h0 a0 K0 L kp tc h1 a1 K1) (k : KEq K1) : QF h0 a0 K0 h1 a1 K1 (fun _ => False) := by
  obtain ⟨⟨e, x, x1⟩, f2, f3, -⟩ := f
  exact ⟨⟨e, x.wk (fun _ z => z) (fun _ z => z) (fun c z => Or.inl z) (Nat.le_refl _), x1⟩, f2, f3, k⟩
/-- the second way over a whole term -/
abbrev wyO (L : List Nd) (kp : Nat → Option TE) (o : WO) : Prop := wyR L kp 301 0 300 2 (fun _ => .var 0) o
/-- a state of which nothing is told but the next name -/
abbrev IST (nv : Nat) : IS := (nv, IS0.2)
/-- the class goes through a lesson the second way -/
def QgC (h : AH) (a K : Nat → Nat) (L : List Nd) (kp : Nat → Option TE) (x : Int) (h1 : AH) : Prop := ∃ o a1 K1, wyO L kp o ∧ QF h a K h1 a1 K1 (fun _ => False) ∧ ((o = none ∧ x = 0) ∨ ∃ g' nv' G' σ t, o = some (g', nv', G', σ, t) ∧ x = 1 ∧ ∃ (M : Nat) (T : Nat → TE) (τ : Nat → Nat) (c : Nat), FdS [] (IST nv') h1 a1 K1 M T τ ∧ h1.vl 8 8 = (c : Int) ∧ c < M ∧ T c = t)
section GtW
variable {L : List Nd} {kp : Nat → Option TE} {tc : Nat} {h : AH} {a K : Nat → Nat}
set_option maxRecDepth 100000 in
theorem s_goThr2 (g : YA h a K) (hK : KEq K) (hf : FSc h a) (hT : TmX h a (FX h) tc L) (hk : KpC h a (FX h) kp) {T0 : TE} (hs : shT T0 L) (hnd : ∀ x ∈ L, ndOK x) (hL : L.length ≤ 119) (hne : L ≠ []) :
    CV mX0_goThrough 9 [rv 8, rv (tc : Int), rv 31, iv 1] h (oi (QgC h a K L kp)) := by
  refine cv_of cdX0_goThrough ?_
  show EV _ _ 0 [rv 8, rv (tc : Int), rv 31, iv 1, uv, uv] [] h _
  refine ev_aload_n dX0_goThrough_0 rfl ?_
  refine ev_iload_n dX0_goThrough_1 rfl ?_
  refine ev_cvv dX0_goThrough_2 lX0_41 (s_begin (z := 1) g (Or.inr rfl) hK) (by decide) g.1.k8 g.1.n8 rfl rfl rfl (Nat.le_of_ble_eq_true rfl) rfl (fun h1 q => ?_)
  obtain ⟨a1, K1, c1, k1, s1, p1, l1, t1, f1, v6, v7, v9⟩ := q
  have xf : ∀ y, FdX y → FX h y := fun y z => by
    have z : y = 8 ∨ (19 ≤ y ∧ y ≤ 23) := z
    exact z.imp id (fun w => Or.inl (by omega))
  obtain ⟨F1, o1⟩ := hf.px g c1 (by decide) fdx_ok.2
  have e26 : h1.vl 26 = h.vl 26 := c1.v (g.no (by decide)) (by decide)
  have FR : FrV h a K L kp tc h1 a1 K1 := ⟨⟨0, c1.wk (by decide) (by decide) xf (Nat.le_refl 0), by unfold snn; rw [e26, Nat.zero_add]⟩, F1, fun c z => Or.inr (Or.inr (Or.inl ((o1 c).mp z))), hT.xt c1 xf, hk.xt g c1 xf, v7⟩
  have q1 : AtV h a K L kp tc 2 (fun _ => .var 0) (fun _ => False) 2 (fun c => .var c) (fun c => c) [(0, 0, -1)] (300 - ((300 : Nat) : Int)) 0 (h1.vl 23) (YL h1 a1 2) (h1.vl 8 8) h1 a1 K1 := ⟨FR, ⟨s1, p1, fun k z => z.elim⟩, t1, f1, ⟨v9, l1⟩, rfl, rfl, rfl⟩
  have yl2 : YL h1 a1 2 ≤ 2 := cU_N 2
  have h0 : 0 < L.length := List.length_pos_iff.mpr hne
  have anc0 : ∀ b, b ∉ ancN L 0 := fun b hb => by
    rw [anc_0 (by have := (TBL_gd (L := L) 0 h0).1; omega)] at hb
    exact List.not_mem_nil hb
  refine ev_iconst dX0_goThrough_5 ?_
  refine ev_ist4 dX0_goThrough_6 ?_
  refine cw_V (tmAok hs hnd (by omega)) hL (fun x hx h57 => nd_kept hnd hx h57) 301 0 2 (fun _ => .var 0) (fun _ => False) 2 _ _ [] 300 0 (h1.vl 23) (YL h1 a1 2) (h1.vl 8 8) 0 h1 a1 K1 uv q1 (by decide) (Nat.le_refl _) h0 (fun b hb => absurd hb (anc0 b)) ⟨fun q hq => absurd hq List.not_mem_nil, List.nodup_nil⟩ (Nat.le_refl _) (by decide) (by decide) (by omega) (fun h4 g' nv' G' σ t N1 a4 K4 T4 τ4 lz4 fv4 yl4 i4 c4 v5 w1 q4 hc4 hX4 _ m0 m1 m2 m3 _ => ?_) (fun h4 i4 v5 w1 q4 => ?_)
  · refine ev_mono (gv_end q4 (by omega) (by omega)) fun oo h5 q5 => ?_
    obtain ⟨x, rfl, rfl, rfl⟩ := q5
    exact ⟨1, rfl, _, a4, K4, w1, q4.1.q q4.2.1.ke, Or.inr ⟨g', nv', G', σ, t, rfl, rfl, N1, T4, τ4, c4, ⟨q4.2.1.1, by omega, fun k hk => absurd hk (Nat.not_lt_zero _)⟩, q4.2.2.2.2.2.2.2, hc4, hX4⟩⟩
  · refine ev_mono (gv_bad q4) fun oo h5 q5 => ?_
    obtain ⟨x, rfl, rfl, rfl⟩ := q5
    obtain ⟨r, gz, -, -, -, a4, K4, f4, k4, -⟩ := q4
    exact ⟨0, rfl, none, a4, K4, w1, f4.q k4, Or.inl ⟨rfl, rfl⟩⟩
end GtW
section Aga
variable {h : AH} {a K : Nat → Nat} {N : Nat} {tc : Nat → Nat} {LL : Nat → List Nd} {kp : Nat → Option TE} {p w : Int}
theorem q_go2 (n : QN h a K N tc LL kp) (o : LkO N LL kp) {l : Nat} (hl : l < N) : CV mX0_goThrough 9 [rv 8, rv (tc l : Int), rv 31, iv 1] h (oi (QgC h a K (LL l) kp)) := by
  obtain ⟨g, k, f, ⟨n1, n2, n3⟩, n4⟩ := n
  obtain ⟨⟨T0, o1, o2⟩, o3, o4, o5, o6⟩ := o.1 l hl
  exact s_goThr2 g k f ((n3 l hl).2.an (fun c z => Or.inl z)) (n4.c g f) o1 o3 o4 o5
theorem wy_sz {l : Nat} (o : LkO N LL kp) (hl : l < N) {r : IR} {S : IS} (hf : fnR (LL l) kp r S) (hr : r.1 = 0) {g' nv' : Nat} {G' : Nat → TE} {σ : List (Nat × TE)} {t : TE} (hw : wyO (LL l) kp (some (g', nv', G', σ, t))) : (cnT t []).1 = (cnT (S.2.1 0) []).1 ∧ sz t ≤ 200 := by
  obtain ⟨⟨T0, o1, o2⟩, o3, o4, o5, o6⟩ := o.1 l hl
  have e := (wy_row o1 o3 (by omega) o.2 hf hr hw).1 _ _ _ _ _ rfl
  refine ⟨e, ?_⟩
  have z := fnR_sz hf hr 0 (List.length_pos_iff.mpr o5)
  rw [← cn_len t [], e, cn_len]
  exact z
set_option maxRecDepth 100000 in
theorem g_typeAgain (n : QN h a K N tc LL kp) (o : LkO N LL kp) : CV mX10_typeAgain 11 [rv 0, iv p, iv w] h (fun oo h1 => (¬ (0 ≤ p ∧ p < (N : Int)) ∧ oo = xv 2 ∧ h1 = h.thr) ∨ ((0 ≤ p ∧ p < (N : Int)) ∧ ¬ (0 ≤ w ∧ w ≤ 4) ∧ oo = xv 0 ∧ h1 = h.thr) ∨ ((0 ≤ p ∧ p < (N : Int)) ∧ (0 ≤ w ∧ w ≤ 4) ∧ ∃ r S, fnR (LL p.toNat) kp r S ∧ ((r.1 ≠ 0 ∧ oo = xv 4 ∧ QR h a K QY h1) ∨ (r.1 = 0 ∧ ∃ ov, wyO (LL p.toNat) kp ov ∧ ((ov = none ∧ oo = xv 4 ∧ QR h a K QY h1) ∨ (ov ≠ none ∧ oo = iv (nuF (S.2.1 0) w) ∧ ∃ a1 K1, QF h a K h1 a1 K1 QY)))))) := by
  have hC := n.1.1
  have hS := n.sn
  refine cv_of cdX10_typeAgain ?_
  show EV _ _ 0 [rv 0, iv p, iv w, uv] [] h _
  by_cases hp : 0 ≤ p ∧ p < (N : Int)
  · skip
    refine ev_aload_n dX10_typeAgain_0 rfl ?_
    refine ev_iload_n dX10_typeAgain_1 rfl ?_
    refine ev_cvr dX10_typeAgain_2 lX10_126 (g_termOf1 hS hp) (by decide) hC.k0 hC.n0 rfl rfl rfl (Nat.le_of_ble_eq_true rfl) rfl (fun r h1 q => ?_)
    obtain ⟨rfl, e⟩ := q
    rw [e]
    refine ev_ast3 dX10_typeAgain_5 ?_
    refine ev_iload_n dX10_typeAgain_6 rfl ?_
    by_cases hw : 0 ≤ w ∧ w ≤ 4
    · skip
      refine ev_csv dX10_typeAgain_7 lX10_174 (s_needM1 hw) (by decide) rfl rfl (Nat.le_of_ble_eq_true rfl) rfl (fun h1 q => ?_)
      rw [q]
      refine ev_aload_n dX10_typeAgain_10 rfl ?_
      refine ev_aload_n dX10_typeAgain_11 rfl ?_
      refine ev_aload_n dX10_typeAgain_12 rfl ?_
      refine ev_getrv dX10_typeAgain_13 fX10_38 hC.k0 hC.n0 rfl hC.v0_4 ?_
      by_cases ok : TyP (LL p.toNat) kp
      · skip
        refine ev_cvv dX10_typeAgain_16 lX10_177 (g_needT1 n o (l := p.toNat) (by omega) (sh := 27) (by decide) ok) (by decide) hC.k0 hC.n0 rfl rfl rfl (Nat.le_of_ble_eq_true rfl) rfl (fun h1 q => ?_)
        obtain ⟨r, S, M, T, τ, a1, K1, q1, q2, q3, q4, q5, q6⟩ := q
        have hC1 := q4.g.1
        have n1 : QN h1 a1 K1 N tc LL kp := n.q q4 (fun c z => by have z : c = 27 ∨ c = 28 := z; omega)
        have q4' : QF h a K h1 a1 K1 QY := q4.wk (shY_q (by decide))
        refine ev_aload_n dX10_typeAgain_19 rfl ?_
        refine ev_getrv dX10_typeAgain_20 fX10_29 hC1.k0 hC1.n0 rfl hC1.v0_3 ?_
        refine ev_aload_n dX10_typeAgain_23 rfl ?_
        refine ev_aload_n dX10_typeAgain_24 rfl ?_
        refine ev_getrv dX10_typeAgain_25 fX10_48 hC1.k0 hC1.n0 rfl hC1.v0_6 ?_
        refine ev_iconst dX10_typeAgain_28 ?_
        refine ev_cvi dX10_typeAgain_29 lX10_154 (q_go2 n1 o (l := p.toNat) (by omega)) (by decide) hC1.k8 hC1.n8 rfl rfl rfl (Nat.le_of_ble_eq_true rfl) rfl (fun x h2 q => ?_)
        obtain ⟨ov, a2, K2, w1, w2, w3⟩ := q
        have hC2 := w2.g.1
        have w2' : QF h a K h2 a2 K2 QY := q4'.tr (w2.wk (fun _ z => z.elim))
        rcases w3 with ⟨w4, w5⟩ | ⟨g', nv', G', σ, t, w4, w5, M2, T2, τ2, c2, x1, x2, x3, x4⟩
        · skip
          rw [w5]
          refine ev_ifne 45 dX10_typeAgain_32 (fun h_no => (by exfalso; omega)) (fun hb => ?_)
          exact ev_throw _ tk_4 (List.mem_of_getElem? (i := 11) rfl) dX10_typeAgain_35 dX10_typeAgain_38 dX10_typeAgain_39 dX10_typeAgain_41 dX10_typeAgain_44 rfl (Nat.le_of_ble_eq_true rfl) (Or.inr (Or.inr ⟨hp, hw, r, S, q1, Or.inr ⟨q2, ov, w1, Or.inl ⟨w4, rfl, h2, a2, K2, rfl, w2'⟩⟩⟩))
        · skip
          rw [w5]
          obtain ⟨y1, y2⟩ := wy_sz o (l := p.toNat) (by omega) q1 q2 (by rw [← w4]; exact w1)
          refine ev_ifne 45 dX10_typeAgain_32 (fun hb => ?_) (fun h_no => (by exfalso; omega))
          refine ev_aload_n dX10_typeAgain_45 rfl ?_
          refine ev_getrv dX10_typeAgain_46 fX10_29 hC2.k0 hC2.n0 rfl hC2.v0_3 ?_
          refine ev_aload_n dX10_typeAgain_49 rfl ?_
          refine ev_getrv dX10_typeAgain_50 fX10_42 hC2.k0 hC2.n0 rfl hC2.v0_5 ?_
          refine ev_cvv dX10_typeAgain_53 lX10_189 (q_whole (sh := 29) x1 w2.2.1 w2.2.2.2 x2 x3 x4 y2 (by decide)) (by decide) hC2.k8 hC2.n8 rfl rfl rfl (Nat.le_of_ble_eq_true rfl) rfl (fun h3 q9 => ?_)
          obtain ⟨a3, K3, z1, z2, z3⟩ := q9
          rw [y1] at z3
          have hC3 := z1.g.1
          have z1' : QF h a K h3 a3 K3 QY := w2'.tr (z1.wk (shY_q (by decide)))
          refine ev_aload_n dX10_typeAgain_56 rfl ?_
          refine ev_getrv dX10_typeAgain_57 fX10_42 hC3.k0 hC3.n0 rfl hC3.v0_5 ?_
          refine ev_iload_n dX10_typeAgain_60 rfl ?_
          refine ev_cvi dX10_typeAgain_61 lX10_181 (s_measure z3.t hw) (by decide) hC3.k29 hC3.n29 rfl rfl rfl (Nat.le_of_ble_eq_true rfl) rfl (fun x h4 q => ?_)
          obtain ⟨rfl, e4⟩ := q
          rw [e4]
          exact ev_iret dX10_typeAgain_64 (Or.inr (Or.inr ⟨hp, hw, r, S, q1, Or.inr ⟨q2, ov, w1, Or.inr ⟨by rw [w4]; exact fun z => (nomatch z), rfl, a3, K3, z1'⟩⟩⟩))
      · skip
        refine ev_callv dX10_typeAgain_16 lX10_177 (g_needT0 n o (l := p.toNat) (by omega) ok) (by decide) (by decide) (by have := hC.n0; omega) hC.k0 rfl rfl (Nat.le_of_ble_eq_true rfl) rfl (fun o h1 q => by obtain ⟨rfl, q⟩ := q; exact ⟨fun _ => Or.inr (Or.inr ⟨hp, hw, by obtain ⟨r, S, q1, q2, q3⟩ := q; exact ⟨r, S, q1, Or.inl ⟨q2, rfl, q3.wk (fun _ z => z.elim)⟩⟩⟩), fun e => absurd rfl e⟩) (Or.inr q_1437)
    · skip
      refine ev_calls dX10_typeAgain_7 lX10_174 (s_needM0 hw) (by decide) rfl rfl (Nat.le_of_ble_eq_true rfl) rfl (fun o h1 q => by obtain ⟨rfl, rfl⟩ := q; exact ⟨fun _ => Or.inr (Or.inl ⟨hp, hw, rfl, rfl⟩), fun e => absurd rfl e⟩) (Or.inr q_1433)
  · skip
    refine ev_aload_n dX10_typeAgain_0 rfl ?_
    refine ev_iload_n dX10_typeAgain_1 rfl ?_
    refine ev_callv dX10_typeAgain_2 lX10_126 (g_termOf0 hS hp) (by decide) (by decide) (by have := hC.n0; omega) hC.k0 rfl rfl (Nat.le_of_ble_eq_true rfl) rfl (fun o h1 q => by obtain ⟨rfl, rfl⟩ := q; exact ⟨fun _ => Or.inl ⟨hp, rfl, rfl⟩, fun e => absurd rfl e⟩) (Or.inr q_1326)
set_option maxRecDepth 100000 in
theorem it_loop {h0 : AH} {a0 K0 : Nat → Nat} (n0 : QN h0 a0 K0 N tc LL kp) (o : LkO N LL kp) : ∀ (m l : Nat) (h : AH) (a K : Nat → Nat) (v2 : AV), l + m = N → QF h0 a0 K0 h a K QY → EV mX10_isTold 11 2 [rv 0, iv (l : Int), v2] [] h (oi fun y h1 => y = 1 ∧ ∃ a1 K1, QF h0 a0 K0 h1 a1 K1 QY)
  | 0, l, h, a, K, v2, hl, q => by
    obtain rfl : l = N := by omega
    have n := n0.q q qy31
    have hC := n.1.1
    have hN := n.2.2.2.1.1
    refine ev_iload_n dX10_isTold_2 rfl ?_
    refine ev_aload_n dX10_isTold_3 rfl ?_
    refine ev_getrv dX10_isTold_4 fX10_48 hC.k0 hC.n0 rfl hC.v0_6 ?_
    refine ev_getiv dX10_isTold_7 fX10_83 hC.k31 hC.n31 rfl hN ?_
    refine ev_icmpge 83 dX10_isTold_10 (fun hb => ?_) (fun h_no => (by exfalso; omega))
    refine ev_iconst dX10_isTold_83 ?_
    exact ev_zret dX10_isTold_84 (⟨_, rfl, rfl, a, K, q⟩) (by omega)
  | m + 1, l, h, a, K, v2, hl, q => by
    have n := n0.q q qy31
    have hC := n.1.1
    have hS := n.sn
    have hN := n.2.2.2.1.1
    have n6 := n.2.2.2.1.2.1
    have nx : ∀ (h1 : AH) (a1 K1 : Nat → Nat) (v2 : AV), QF h0 a0 K0 h1 a1 K1 QY → EV mX10_isTold 11 77 [rv 0, iv (l : Int), v2] [] h1 (oi fun y h1 => y = 1 ∧ ∃ a1 K1, QF h0 a0 K0 h1 a1 K1 QY) := by
      intro h1 a1 K1 v2 b1
      refine ev_iin1 dX10_isTold_77 (by unfold ir; omega) ?_
      refine ev_gt 2 dX10_isTold_80 ?_
      rw [show (l : Int) + 1 = ((l + 1 : Nat) : Int) by omega]
      exact it_loop n0 o m (l + 1) h1 a1 K1 v2 (by omega) b1
    refine ev_iload_n dX10_isTold_2 rfl ?_
    refine ev_aload_n dX10_isTold_3 rfl ?_
    refine ev_getrv dX10_isTold_4 fX10_48 hC.k0 hC.n0 rfl hC.v0_6 ?_
    refine ev_getiv dX10_isTold_7 fX10_83 hC.k31 hC.n31 rfl hN ?_
    refine ev_icmpge 83 dX10_isTold_10 (fun h_no => (by exfalso; omega)) (fun hb => ?_)
    refine ev_aload_n dX10_isTold_13 rfl ?_
    refine ev_getrv dX10_isTold_14 fX10_48 hC.k0 hC.n0 rfl hC.v0_6 ?_
    refine ev_iload_n dX10_isTold_17 rfl ?_
    refine ev_cvr dX10_isTold_18 lX10_210 (s_termAt hC.st31) (by decide) hC.k31 hC.n31 rfl rfl rfl (Nat.le_of_ble_eq_true rfl) rfl (fun r h1 q9 => ?_)
    obtain ⟨er, e⟩ := q9
    rw [e, er, hS.tm (p := (l : Int)) (by omega), show ((l : Nat) : Int).toNat = l from rfl]
    refine ev_ast2 dX10_isTold_21 ?_
    refine ev_aload_n dX10_isTold_22 rfl ?_
    refine ev_aload_n dX10_isTold_23 rfl ?_
    refine ev_aload_n dX10_isTold_24 rfl ?_
    refine ev_getrv dX10_isTold_25 fX10_38 hC.k0 hC.n0 rfl hC.v0_4 ?_
    refine ev_cvi dX10_isTold_28 lX10_213 (g_spells n o (l := l) (sh := 27) (by omega) (by decide)) (by decide) hC.k0 hC.n0 rfl rfl rfl (Nat.le_of_ble_eq_true rfl) rfl (fun z h1 q9 => ?_)
    rcases q9 with ⟨q0, r, S, M, T, τ, a1, K1, q1, q2, q3, q4, q5, q6⟩ | ⟨q0, r, S, a1, K1, q1, q2, q4⟩
    · skip
      have hC1 := q4.g.1
      have n1 : QN h1 a1 K1 N tc LL kp := n.q q4 (fun c z => by have z : c = 27 ∨ c = 28 := z; omega)
      have q4' : QF h0 a0 K0 h1 a1 K1 QY := q.tr (q4.wk (shY_q (by decide)))
      rw [q0]
      refine ev_ifeq 77 dX10_isTold_31 (fun h_no => (by exfalso; omega)) (fun hb2 => ?_)
      refine ev_aload_n dX10_isTold_34 rfl ?_
      refine ev_getrv dX10_isTold_35 fX10_29 hC1.k0 hC1.n0 rfl hC1.v0_3 ?_
      refine ev_aload_n dX10_isTold_38 rfl ?_
      refine ev_aload_n dX10_isTold_39 rfl ?_
      refine ev_getrv dX10_isTold_40 fX10_48 hC1.k0 hC1.n0 rfl hC1.v0_6 ?_
      refine ev_iconst dX10_isTold_43 ?_
      refine ev_cvi dX10_isTold_44 lX10_154 (q_go2 n1 o (l := l) (by omega)) (by decide) hC1.k8 hC1.n8 rfl rfl rfl (Nat.le_of_ble_eq_true rfl) rfl (fun x h2 q9 => ?_)
      obtain ⟨ov, a2, K2, w1, w2, w3⟩ := q9
      have hC2 := w2.g.1
      have w2' : QF h0 a0 K0 h2 a2 K2 QY := q4'.tr (w2.wk (fun _ z => z.elim))
      rcases w3 with ⟨w4, w5⟩ | ⟨g', nv', G', σ, t, w4, w5, M2, T2, τ2, c2, x1, x2, x3, x4⟩
      · skip
        rw [w5]
        refine ev_ifeq 77 dX10_isTold_47 (fun hb3 => ?_) (fun h_no => (by exfalso; omega))
        exact nx h2 a2 K2 _ w2'
      rw [w5]
      obtain ⟨y1, y2⟩ := wy_sz o (l := l) (by omega) q1 q2 (by rw [← w4]; exact w1)
      refine ev_ifeq 77 dX10_isTold_47 (fun h_no => (by exfalso; omega)) (fun hb3 => ?_)
      refine ev_aload_n dX10_isTold_50 rfl ?_
      refine ev_getrv dX10_isTold_51 fX10_29 hC2.k0 hC2.n0 rfl hC2.v0_3 ?_
      refine ev_aload_n dX10_isTold_54 rfl ?_
      refine ev_getrv dX10_isTold_55 fX10_42 hC2.k0 hC2.n0 rfl hC2.v0_5 ?_
      refine ev_cvv dX10_isTold_58 lX10_189 (q_whole (sh := 29) x1 w2.2.1 w2.2.2.2 x2 x3 x4 y2 (by decide)) (by decide) hC2.k8 hC2.n8 rfl rfl rfl (Nat.le_of_ble_eq_true rfl) rfl (fun h3 q9 => ?_)
      obtain ⟨a3, K3, z1, z2, z3⟩ := q9
      rw [y1] at z3
      have hC3 := z1.g.1
      have z1' : QF h0 a0 K0 h3 a3 K3 QY := w2'.tr (z1.wk (shY_q (by decide)))
      have q7 : ShW h3 a3 27 28 200 (cnT (S.2.1 0) []).1 := q6.q4 ((w2.wk (fun _ z => z.elim)).tr z1) n1.2.2.1 n1.1
      refine ev_aload_n dX10_isTold_61 rfl ?_
      refine ev_getrv dX10_isTold_62 fX10_38 hC3.k0 hC3.n0 rfl hC3.v0_4 ?_
      refine ev_aload_n dX10_isTold_65 rfl ?_
      refine ev_getrv dX10_isTold_66 fX10_42 hC3.k0 hC3.n0 rfl hC3.v0_5 ?_
      refine ev_cvi dX10_isTold_69 lX10_197 (s_isSameC q7 z3) (by decide) hC3.k27 hC3.n27 rfl rfl rfl (Nat.le_of_ble_eq_true rfl) rfl (fun x h4 q9 => ?_)
      obtain ⟨-, x1', e4⟩ := q9
      rw [e4, x1'.mpr rfl]
      refine ev_ifne 77 dX10_isTold_72 (fun hb4 => ?_) (fun h_no => (by exfalso; omega))
      exact nx h3 a3 K3 _ z1'
    have q4' : QF h0 a0 K0 h1 a1 K1 QY := q.tr (q4.wk (shY_q (by decide)))
    rw [q0]
    refine ev_ifeq 77 dX10_isTold_31 (fun hb2 => ?_) (fun h_no => (by exfalso; omega))
    exact nx h1 a1 K1 _ q4'
set_option maxRecDepth 100000 in
theorem g_isTold (n : QN h a K N tc LL kp) (o : LkO N LL kp) : CV mX10_isTold 11 [rv 0] h (oi fun y h1 => y = 1 ∧ ∃ a1 K1, QF h a K h1 a1 K1 QY) := by
  refine cv_of cdX10_isTold ?_
  show EV _ _ 0 [rv 0, uv, uv] [] h _
  refine ev_iconst dX10_isTold_0 ?_
  refine ev_ist1 dX10_isTold_1 ?_
  exact it_loop n o N 0 h a K uv (Nat.zero_add _) (QF.rf n.1 n.2.2.1 n.2.1)
end Aga
