/-! the class: is a lesson's type as general as another's -/
theorem cn_ge : ∀ (t : TE) (s : List Nat), s.length ≤ (cnT t s).2.length
  | .var x, s => by
    rw [cnT]
    by_cases c : x < 2
    · rw [if_pos c]; exact Nat.le_refl _
    · rw [if_neg c]
      by_cases d : x ∈ s
      · rw [if_pos d]; exact Nat.le_refl _
      · rw [if_neg d]
        show s.length ≤ (s ++ [x]).length
        rw [List.length_append]; exact Nat.le_add_right _ _
  | .op a b, s => Nat.le_trans (cn_ge a s) (cn_ge b (cnT a s).2)
theorem cnR_vs2 : ∀ (t : TE) (s : List Nat), vsT (fun x => x < 2 + (cnT t s).2.length) (cnR t s)
  | .var x, s => by
    rw [cnR, cnT]
    by_cases c : x < 2
    · rw [if_pos c, if_pos c]; exact vsT_var (fun z => by omega)
    · rw [if_neg c, if_neg c]
      by_cases d : x ∈ s
      · rw [if_pos d, if_pos d]
        have := ix_lt d
        exact vsT_var (fun z => by show 2 + ixN x s < 2 + s.length; omega)
      · rw [if_neg d, if_neg d]
        refine vsT_var (fun z => ?_)
        show 2 + s.length < 2 + (s ++ [x]).length
        rw [List.length_append]
        show 2 + s.length < 2 + (s.length + 1)
        omega
  | .op a b, s => by
    rw [cnR]
    have h1 := cnR_vs2 a s
    have h2 := cnR_vs2 b (cnT a s).2
    have h3 := cn_ge b (cnT a s).2
    have e : (cnT (.op a b) s).2 = (cnT b (cnT a s).2).2 := rfl
    rw [e]
    exact vsT_op.mpr ⟨fun x h o => by have := h1 x h o; show x < _; omega, fun x h o => h2 x h o⟩
/-- one array more -/
def NwI (h h1 : AH) : Prop := h1.n = h.n + 1 ∧ (∀ c, c < h.n → h1.kd c = h.kd c) ∧ (∀ c, c < h.n → h1.vl c = h.vl c) ∧ h1.cs = h.cs + 1 ∧ h1.ss ≤ h.ss + 200
theorem ShI.nw {h h1 : AH} {s b R n : Nat} (g : ShI h s b R n) (e : h.n ≤ h1.n ∧ (∀ c, c < h.n → h1.kd c = h.kd c) ∧ ∀ c, c < h.n → h1.vl c = h.vl c) : ShI h1 s b R n := by
  obtain ⟨⟨g1, g2⟩, ⟨g3, g4, g5⟩, g6, g7⟩ := g
  obtain ⟨e1, e2, e3⟩ := e
  exact ⟨⟨(e2 s g2).trans g1, by omega⟩, ⟨by rw [e3 s g2]; exact g3, (e2 b g5).trans g4, by omega⟩, by rw [e3 s g2]; exact g6, g7⟩
set_option maxRecDepth 100000 in
theorem s_becomes {h : AH} {a : Nat → Nat} {s b s' b' : Nat} {A B : TE} (w : ShW h a s b 200 (cnT A []).1) (w' : ShW h a s' b' 200 (cnT B []).1) : CV mX5_becomes 5 [rv s, rv s'] h (oi fun x h1 => (x = 0 ∨ x = 1) ∧ x = (if agT (cnR A []) (cnR B []) (fun _ => none) = none then 0 else 1) ∧ NwI h h1) := by
  have g := w.1
  have g' := w'.1
  have la := cn_len A []
  have lb := cn_len B []
  rw [la] at g
  rw [lb] at g'
  have n7 := g.2.2.2.1
  have n7' := g'.2.2.2.1
  have V9 := cn_le A []
  obtain ⟨V, hV⟩ : ∃ V, V = (cnT A []).2.length := ⟨_, rfl⟩
  rw [← hV, show ([] : List Nat).length = 0 from rfl] at V9
  have vs := cnR_vs2 A []
  rw [← hV] at vs
  have rw0 : RwA (h.vl b) 0 (cnT A []).1 := fun i hi => by rw [Nat.zero_add]; exact w.2.2.2 i hi
  have rw0' : RwA (h.vl b') 0 (cnT B []).1 := fun i hi => by rw [Nat.zero_add]; exact w'.2.2.2 i hi
  have ra : RwA (h.vl b) 0 (rowT (cnR A [])) := by rw [cnR_row]; exact rw0
  have rb : RwA (h.vl b') 0 (rowT (cnR B [])) := by rw [cnR_row]; exact rw0'
  have za := cnR_sz A []
  have zb := cnR_sz B []
  refine cv_of cdX5_becomes ?_
  show EV _ _ 0 [rv s, rv s', uv, uv, uv, uv] [] h _
  refine ev_aload_n dX5_becomes_0 rfl ?_
  refine ev_cvi dX5_becomes_1 lX5_41 (s_variables (T := A) g rw0 rfl) (by decide) g.1.1 g.1.2 rfl rfl rfl (Nat.le_of_ble_eq_true rfl) rfl (fun r z q => ?_)
  obtain ⟨rfl, e⟩ := q
  rw [e, ← hV]
  refine ev_newi dX5_becomes_4 (by omega) (by omega) ?_ q_ai
  obtain ⟨h1, e1⟩ : ∃ h1, h1 = h.new (100, (V : Int).toNat) := ⟨_, rfl⟩
  rw [← e1]
  have k1 : h1.kd h.n = (100, V) := by rw [e1]; show (if h.n = h.n then (100, (V : Int).toNat) else _) = _; rw [if_pos rfl]; rfl
  have n1 : h1.n = h.n + 1 := by rw [e1]; rfl
  have kc : ∀ c, c < h.n → h1.kd c = h.kd c := fun c hc => by rw [e1, AH.new_kd, if_neg (by omega)]
  have vc : ∀ c, c < h.n → h1.vl c = h.vl c := fun c hc => by rw [e1]; funext j; rw [AH.new_vl, if_neg (by omega)]
  have nl1 : h.n < h1.n := by omega
  refine ev_ast2 dX5_becomes_6 ?_
  refine ev_aload_n dX5_becomes_7 rfl ?_
  refine ev_iconst dX5_becomes_8 ?_
  refine ev_csv dX5_becomes_9 lX5_56 (s_fillI k1 nl1 (by omega)) (by decide) rfl rfl (Nat.le_of_ble_eq_true rfl) rfl (fun h2 q => ?_)
  obtain ⟨f1, f2, f3, f4, f5, f6⟩ := q
  have vc2 : ∀ c, c < h.n → h2.vl c = h.vl c := fun c hc => (f5 c (by omega)).trans (vc c hc)
  have kc2 : ∀ c, c < h.n → h2.kd c = h.kd c := fun c hc => by rw [f2]; exact kc c hc
  have G2 : h.n ≤ h2.n ∧ (∀ c, c < h.n → h2.kd c = h.kd c) ∧ ∀ c, c < h.n → h2.vl c = h.vl c := ⟨by omega, kc2, vc2⟩
  have g2 := g.nw G2
  have g2' := g'.nw G2
  have sb : s < h.n ∧ b < h.n ∧ s' < h.n ∧ b' < h.n := ⟨g.1.2, g.2.1.2.2, g'.1.2, g'.2.1.2.2⟩
  have fin : ∀ h3, OnC h2 h3 h.n → NwI h h3 := fun h3 o => ⟨by have := o.1; omega, fun c hc => by rw [o.2.1]; exact kc2 c hc, fun c hc => by rw [o.2.2.2.2 c (by omega)]; exact vc2 c hc, by rw [o.2.2.1, f3, e1]; rfl, by rw [o.2.2.2.1, f4, e1]; show h.ss + V ≤ _; omega⟩
  refine ev_iconst dX5_becomes_12 ?_
  refine ev_ist3 dX5_becomes_13 ?_
  refine ev_iconst dX5_becomes_14 ?_
  refine ev_ist4 dX5_becomes_15 ?_
  refine ab_walk (V := V) g2 g2' ⟨by rw [f2]; exact k1, by omega, by omega⟩ (by omega) (cnR A []) 0 0 (cnR B []) (fun _ => none) h2 uv OnC.rf (by rw [vc2 b sb.2.1]; exact ra) (by rw [vc2 b' sb.2.2.2]; exact rb) (by omega) (by omega) (fun x x2 x9 => Or.inl ⟨f6 (x - 2) (by omega), rfl⟩) vs (fun h3 a1 a2 => ⟨_, rfl, Or.inl rfl, by rw [if_pos a1], fin h3 a2⟩) (fun σ' h3 v5 a1 a2 a3 => ?_)
  have g3 := a2.si g2 (by omega)
  have g6 := g3.2.2.1
  refine ev_iload dX5_becomes_17 rfl ?_
  refine ev_aload_n dX5_becomes_19 rfl ?_
  refine ev_getiv dX5_becomes_20 fX5_15 g3.1.1 g3.1.2 rfl g6 ?_
  refine ev_icmpge 107 dX5_becomes_23 (fun hb => ?_) (fun h_no => (by exfalso; omega))
  refine ev_iconst dX5_becomes_107 ?_
  exact ev_zret dX5_becomes_108 (⟨_, rfl, Or.inr rfl, by rw [if_neg (by rw [a1]; exact fun z => nomatch z)], fin h3 a2⟩) (Or.inr rfl)
section AsG
variable {h : AH} {a K : Nat → Nat} {N : Nat} {tc : Nat → Nat} {LL : Nat → List Nd} {kp : Nat → Option TE} {p q9 : Int}
set_option maxRecDepth 100000 in
theorem g_isAsGeneral (n : QN h a K N tc LL kp) (o : LkO N LL kp) : CV mX10_isAsGeneral 11 [rv 0, iv p, iv q9] h (fun oo h1 => (¬ ((0 ≤ p ∧ p < (N : Int)) ∧ (0 ≤ q9 ∧ q9 < (N : Int))) ∧ oo = xv 2 ∧ h1 = h.thr) ∨ (((0 ≤ p ∧ p < (N : Int)) ∧ (0 ≤ q9 ∧ q9 < (N : Int))) ∧ ((¬ (TyP (LL p.toNat) kp ∧ TyP (LL q9.toNat) kp) ∧ oo = xv 4 ∧ QR h a K QY h1) ∨ ∃ r S r' S', (fnR (LL p.toNat) kp r S ∧ r.1 = 0) ∧ (fnR (LL q9.toNat) kp r' S' ∧ r'.1 = 0) ∧ ∃ x, oo = iv x ∧ (x = 0 ∨ x = 1) ∧ x = (if agT (cnR (S.2.1 0) []) (cnR (S'.2.1 0) []) (fun _ => none) = none then 0 else 1) ∧ ∃ h2 a1 K1, QF h a K h2 a1 K1 QY ∧ NwI h2 h1))) := by
  have hC := n.1.1
  have hS := n.sn
  refine cv_of cdX10_isAsGeneral ?_
  show EV _ _ 0 [rv 0, iv p, iv q9, uv, uv] [] h _
  by_cases hp : 0 ≤ p ∧ p < (N : Int)
  · skip
    refine ev_aload_n dX10_isAsGeneral_0 rfl ?_
    refine ev_iload_n dX10_isAsGeneral_1 rfl ?_
    refine ev_cvr dX10_isAsGeneral_2 lX10_126 (g_termOf1 hS hp) (by decide) hC.k0 hC.n0 rfl rfl rfl (Nat.le_of_ble_eq_true rfl) rfl (fun r h1 q => ?_)
    obtain ⟨rfl, e⟩ := q
    rw [e]
    refine ev_ast3 dX10_isAsGeneral_5 ?_
    refine ev_aload_n dX10_isAsGeneral_6 rfl ?_
    refine ev_iload_n dX10_isAsGeneral_7 rfl ?_
    by_cases hq : 0 ≤ q9 ∧ q9 < (N : Int)
    · skip
      refine ev_cvr dX10_isAsGeneral_8 lX10_126 (g_termOf1 hS hq) (by decide) hC.k0 hC.n0 rfl rfl rfl (Nat.le_of_ble_eq_true rfl) rfl (fun r h1 q => ?_)
      obtain ⟨rfl, e⟩ := q
      rw [e]
      refine ev_ast4 dX10_isAsGeneral_11 ?_
      refine ev_aload_n dX10_isAsGeneral_13 rfl ?_
      refine ev_aload_n dX10_isAsGeneral_14 rfl ?_
      refine ev_aload_n dX10_isAsGeneral_15 rfl ?_
      refine ev_getrv dX10_isAsGeneral_16 fX10_38 hC.k0 hC.n0 rfl hC.v0_4 ?_
      by_cases ok : TyP (LL p.toNat) kp
      · skip
        refine ev_cvv dX10_isAsGeneral_19 lX10_177 (g_needT1 n o (l := p.toNat) (by omega) (sh := 27) (by decide) ok) (by decide) hC.k0 hC.n0 rfl rfl rfl (Nat.le_of_ble_eq_true rfl) rfl (fun h1 q => ?_)
        obtain ⟨r, S, M, T, τ, a1, K1, q1, q2, q3, q4, -, q6⟩ := q
        have hC1 := q4.g.1
        have n1 : QN h1 a1 K1 N tc LL kp := n.q q4 (fun c z => by have z : c = 27 ∨ c = 28 := z; omega)
        have q4' : QF h a K h1 a1 K1 QY := q4.wk (shY_q (by decide))
        refine ev_aload_n dX10_isAsGeneral_22 rfl ?_
        refine ev_aload dX10_isAsGeneral_23 rfl ?_
        refine ev_aload_n dX10_isAsGeneral_25 rfl ?_
        refine ev_getrv dX10_isAsGeneral_26 fX10_42 hC1.k0 hC1.n0 rfl hC1.v0_5 ?_
        by_cases ok2 : TyP (LL q9.toNat) kp
        · skip
          refine ev_cvv dX10_isAsGeneral_29 lX10_177 (g_needT1 n1 o (l := q9.toNat) (by omega) (sh := 29) (by decide) ok2) (by decide) hC1.k0 hC1.n0 rfl rfl rfl (Nat.le_of_ble_eq_true rfl) rfl (fun h2 q => ?_)
          obtain ⟨r', S', M', T', τ', a2, K2, w1, w2, w3, w4, -, w6⟩ := q
          have hC2 := w4.g.1
          have w4' : QF h a K h2 a2 K2 QY := q4'.tr (w4.wk (shY_q (by decide)))
          have q7 : ShW h2 a2 27 28 200 (cnT (S.2.1 0) []).1 := q6.q4 w4 n1.2.2.1 n1.1
          refine ev_aload_n dX10_isAsGeneral_32 rfl ?_
          refine ev_getrv dX10_isAsGeneral_33 fX10_38 hC2.k0 hC2.n0 rfl hC2.v0_4 ?_
          refine ev_aload_n dX10_isAsGeneral_36 rfl ?_
          refine ev_getrv dX10_isAsGeneral_37 fX10_42 hC2.k0 hC2.n0 rfl hC2.v0_5 ?_
          refine ev_cvi dX10_isAsGeneral_40 lX10_201 (s_becomes q7 w6) (by decide) hC2.k27 hC2.n27 rfl rfl rfl (Nat.le_of_ble_eq_true rfl) rfl (fun x h3 q => ?_)
          obtain ⟨x1, x2, e3⟩ := q
          exact ev_zret dX10_isAsGeneral_43 (Or.inr ⟨⟨hp, hq⟩, Or.inr ⟨r, S, r', S', ⟨q1, q2⟩, ⟨w1, w2⟩, x, rfl, x1, x2, h2, a2, K2, w4', e3⟩⟩) (by omega)
        · skip
          refine ev_callv dX10_isAsGeneral_29 lX10_177 (g_needT0 n1 o (l := q9.toNat) (by omega) ok2) (by decide) (by decide) (by have := hC1.n0; omega) hC1.k0 rfl rfl (Nat.le_of_ble_eq_true rfl) rfl (fun o h1 q => by obtain ⟨rfl, q⟩ := q; exact ⟨fun _ => Or.inr ⟨⟨hp, hq⟩, Or.inl ⟨fun z => ok2 z.2, rfl, by obtain ⟨_, _, _, _, h2, a2, K2, e2, q3⟩ := q; exact ⟨h2, a2, K2, e2, q4'.tr (q3.wk (fun _ z => z.elim))⟩⟩⟩, fun e => absurd rfl e⟩) (Or.inr q_1437)
      · skip
        refine ev_callv dX10_isAsGeneral_19 lX10_177 (g_needT0 n o (l := p.toNat) (by omega) ok) (by decide) (by decide) (by have := hC.n0; omega) hC.k0 rfl rfl (Nat.le_of_ble_eq_true rfl) rfl (fun o h1 q => by obtain ⟨rfl, q⟩ := q; exact ⟨fun _ => Or.inr ⟨⟨hp, hq⟩, Or.inl ⟨fun z => ok z.1, rfl, by obtain ⟨_, _, _, _, q3⟩ := q; exact q3.wk (fun _ z => z.elim)⟩⟩, fun e => absurd rfl e⟩) (Or.inr q_1437)
    · skip
      refine ev_callv dX10_isAsGeneral_8 lX10_126 (g_termOf0 hS hq) (by decide) (by decide) (by have := hC.n0; omega) hC.k0 rfl rfl (Nat.le_of_ble_eq_true rfl) rfl (fun o h1 q => by obtain ⟨rfl, rfl⟩ := q; exact ⟨fun _ => Or.inl ⟨fun z => hq z.2, rfl, rfl⟩, fun e => absurd rfl e⟩) (Or.inr q_1326)
  · skip
    refine ev_aload_n dX10_isAsGeneral_0 rfl ?_
    refine ev_iload_n dX10_isAsGeneral_1 rfl ?_
    refine ev_callv dX10_isAsGeneral_2 lX10_126 (g_termOf0 hS hp) (by decide) (by decide) (by have := hC.n0; omega) hC.k0 rfl rfl (Nat.le_of_ble_eq_true rfl) rfl (fun o h1 q => by obtain ⟨rfl, rfl⟩ := q; exact ⟨fun _ => Or.inl ⟨fun z => hp z.1, rfl, rfl⟩, fun e => absurd rfl e⟩) (Or.inr q_1326)
end AsG
