/-! functions, applications, lets in the class: their stages -/
section Prt
variable {h0 : AH} {a0 K0 : Nat → Nat} {L : List Nd} {kp : Nat → Option TE} {tc : Nat} {h : AH} {a K : Nat → Nat} {S : IS} {Dn Gn Sn : Nat → Prop} {N sc e yl : Nat} {T : Nat → TE} {τ : Nat → Nat} {st : List (Nat × Int × Int)} {s x gz lz res : Int} {fv : Nat → Int}
/-- types were looked at -/
theorem AtC.tl {h1 : AH} {a1 K1 : Nat → Nat} (q : AtC h0 a0 K0 L kp tc S Dn Gn Sn N T τ sc st gz lz fv yl res h a K) (hsc : sc ≤ 12) (d : YC h a K h1 a1 K1 [10] [11]) (hK : ∀ k, k ≠ 10 → K1 k = K k) : AtC h0 a0 K0 L kp tc S Dn Gn Sn N T τ sc st gz lz fv yl res h1 a1 K1 := by
  obtain ⟨f, hs, hp, hf, ⟨h9, h5⟩, hv, hy, hr⟩ := q
  have g := f.g
  have c : YX h a K h1 a1 K1 [10] [11] (fun _ => False) 0 := d.x
  have v : ∀ y, 18 < y → y < 94 → h1.vl y = h.vl y := fun y h1 h2 => c.v (g.no (Or.inr ⟨h1, h2⟩)) (fun z => z)
  have v8 : h1.vl 8 = h.vl 8 := c.v (g.no (Or.inl (by decide))) (fun z => z)
  refine ⟨f.st c (by rw [v8]) (fun z => z) (fun _ _ z => z) (fun _ z => z.elim), hs.go (S1 := S) (σ := []) c ⟨⟨fun z => z, fun z => z⟩, fun _ _ z => z⟩ (hs.1.xt c (fun k hk => hK k (by omega))) ?_ (Nat.le_refl _) (fun _ _ => rfl) ⟨Nat.le_refl _, fun _ z => z⟩ (fun _ _ => rfl) (fun k _ => ⟨by rw [v 23 (by decide) (by decide)], rfl⟩) (fun k _ => ⟨by rw [v 24 (by decide) (by decide)], rfl⟩) (fun b _ => ⟨rfl, fun _ _ => rfl⟩) (by rw [v8]) f.2.1 hsc, hp.x g c ⟨fun z => z, fun z => z, fun z => z, fun z => z⟩, hf.xt (fun j _ _ => by rw [v8]), ⟨by rw [v8]; exact h9, (c.fl 5).trans h5⟩, (v 23 (by decide) (by decide)).trans hv, (YL.x c N).trans hy, by rw [v8]; exact hr⟩
  obtain ⟨t1, t2, t3, t4⟩ := hs.2.1
  exact ⟨(c.fl 9).trans t1, trivial, by rw [hK 7 (by decide), hK 8 (by decide), hK 6 (by decide)]; exact t3, Nat.zero_le _⟩
theorem s_sizeA {t : Nat} (q : AtC h0 a0 K0 L kp tc S Dn Gn Sn N T τ sc st gz lz fv yl res h a K) (hsc : sc ≤ 12) (hN : N ≤ 61000) (ht0 : t < N) : CV mX9_sizeOf 3 [rv 9, iv (t : Int)] h (oi fun r h1 => r = szc (T t) ∧ ∃ a1 K1, AtC h0 a0 K0 L kp tc S Dn Gn Sn N T τ sc st gz lz fv yl res h1 a1 K1) := by
  obtain ⟨f, hs, -⟩ := id q
  obtain ⟨s1, s2, ⟨rr, tr, G, s3⟩, -⟩ := hs.1
  refine cv_mono (s_sizeY s1 s2 G.w ht0 (by omega)) fun o h1 z => ?_
  obtain ⟨r, rfl, z1, a1, K1, z2, z3⟩ := z
  refine ⟨r, rfl, ?_, a1, K1, q.tl hsc z2 z3⟩
  rw [z1, ← s3 t ht0]
  unfold szc
  rw [show sz (nmC τ (tr t)) = sz (tr t) from nm_sz _]
/-- a function's variable -/
theorem CSt.gn (s : CSt L S Dn Gn Sn h a K N T τ sc) (f : FrW h0 a0 K0 L kp tc h a K) (hsc : sc ≤ 12) {h1 : AH} {c : Nat} {X : TE} (hc : c < N) (hX : T c = X) (he : e < 120) (hS : ∀ b, Sn b → e ∉ envN L b) (q : h1 = h.put 24 e (c : Int)) : CSt L (S.1, S.2.1, upT S.2.2.1 e X, S.2.2.2) Dn (fun k => Gn k ∨ k = e) Sn h1 a K N T τ sc ∧ FrW h0 a0 K0 L kp tc h1 a K := by
  have g := f.g
  have c1 : YX h a K h1 a K [] [] (fun y => y = 24) 0 := by rw [q]; exact g.pp ⟨by decide, cis_c (by decide)⟩
  have v8 : h1.vl 8 = h.vl 8 := c1.v (g.no (by decide)) (by decide)
  have v23 : h1.vl 23 = h.vl 23 := c1.v (g.no (by decide)) (by decide)
  have v24 : ∀ k, h1.vl 24 k = if k = e then (c : Int) else h.vl 24 k := fun k => by
    rw [q, AH.put_vl]
    by_cases z : k = e
    · rw [if_pos ⟨rfl, z⟩, if_pos z]
    · rw [if_neg (fun w => z w.2), if_neg z]
  have no : (¬ (25 : Nat) = 24 ∧ ¬ (26 : Nat) = 24) ∧ ∀ s : Nat, 94 ≤ s → ¬ s = 24 := ⟨by decide, fun s hs => by omega⟩
  refine ⟨?_, f.st c1 (by rw [v8]) (by decide) no.2 (fun y z => Or.inr (by omega))⟩
  have s1 : CSt L (S.1, S.2.1, upT S.2.2.1 e X, S.2.2.2) Dn (fun k => Gn k ∧ k ≠ e) Sn h1 a K N T τ sc := by
    refine (s.wk (Gn' := fun k => Gn k ∧ k ≠ e) (fun k z => z) (fun _ z => z.1) (fun _ z => z)).go (S1 := (S.1, S.2.1, upT S.2.2.1 e X, S.2.2.2)) (σ := []) c1 no (s.1.xt c1 (fun _ _ => rfl)) ?_ (Nat.le_refl _) (fun _ _ => rfl) ⟨Nat.le_refl _, fun _ z => z⟩ (fun _ _ => rfl) (fun k z => ⟨by rw [v23], rfl⟩) (fun k z => ⟨by rw [v24, if_neg z.2], upT_n z.2⟩) (fun b z => ⟨rfl, fun k hk => upT_n (fun w => hS b z (by rw [← w]; exact hk))⟩) (by rw [v8]) f.2.1 hsc
    obtain ⟨t1, t2, t3, t4⟩ := s.2.1
    exact ⟨(c1.fl 9).trans t1, trivial, t3, t4⟩
  obtain ⟨q1, q2, q3, q4, q5⟩ := s1
  refine ⟨q1, q2, q3, fun k z => ?_, q5⟩
  by_cases hk : k = e
  · subst hk
    exact ⟨he, c, hc, by rw [v24, if_pos rfl], by rw [hX]; exact (upT_s (f := S.2.2.1)).symm⟩
  · exact q4 k ⟨z.resolve_right hk, hk⟩
set_option maxRecDepth 100000 in
theorem s_fun0 (q : AtC h0 a0 K0 L kp tc S Dn Gn Sn N T τ sc ((e, s, x) :: st) gz lz fv yl res h a K) (hsc : sc ≤ 12) (hN : N ≤ 40000) (he : e < L.length) (hL : L.length ≤ 120) (hst : st.length < 119) (hS : ∀ b, Sn b → e ∉ envN L b) (hS2 : 2 ≤ S.1) (hfe : TBL L 59 e = (fstN L e : Int)) : CV mX0_goFunction 7 [rv 8, rv (tc : Int), iv (e : Int), iv 0] h (on fun h1 => NxQ h0 a0 K0 L kp tc (S.1 + 1, S.2.1, upT S.2.2.1 e (.var S.1), S.2.2.2) Dn (fun k => Gn k ∨ k = e) Sn sc ((fstN L e, 0, -1) :: (e, s, x) :: st) gz lz fv yl res N 1 T h1) := by
  obtain ⟨f, hs, hp, hf, ⟨h9, h5⟩, hv, hy, hr⟩ := id q
  have g := f.g
  have v0 := g.1.v8_0
  have v3 := g.1.v8_3
  refine cv_of cdX0_goFunction ?_
  show EV _ _ 0 [rv 8, rv (tc : Int), iv (e : Int), iv 0] [] h _
  refine ev_iload_n dX0_goFunction_0 rfl ?_
  refine ev_ifne 37 dX0_goFunction_1 (fun h_no => (by exfalso; omega)) (fun hb => ?_)
  refine ev_aload_n dX0_goFunction_4 rfl ?_
  refine ev_getrv dX0_goFunction_5 fX0_29 g.1.k8 g.1.n8 rfl v3 ?_
  refine ev_iload_n dX0_goFunction_8 rfl ?_
  refine ev_aload_n dX0_goFunction_9 rfl ?_
  refine ev_getrv dX0_goFunction_10 fX0_12 g.1.k8 g.1.n8 rfl v0 ?_
  refine ev_iconst dX0_goFunction_13 ?_
  refine ev_iconst dX0_goFunction_14 ?_
  refine ev_cvi dX0_goFunction_15 lX0_122 (s_addT g hs.1.2.1 (by omega)) (by decide) g.1.k9 g.1.n9 rfl rfl rfl (Nat.le_of_ble_eq_true rfl) rfl (fun r h1 q9 => ?_)
  obtain ⟨rfl, y1⟩ := q9
  obtain ⟨τ1, u1⟩ := hs.1.var (nm := S.1) (nv' := S.1 + 1) ⟨Nat.le_refl _, hS2, Nat.lt_succ_self _⟩ y1
  obtain ⟨a1, K1, yl1, q1, n1, t1⟩ := q.gx hsc (Nat.le_succ _) u1
  obtain ⟨f1, hs1, hp1, hf1, ⟨h91, h51⟩, hv1, hy1, hr1⟩ := id q1
  have g1 := f1.g
  refine ev_csv dX0_goFunction_18 lX0_169 (s_putI g1.1.k24 g1.1.n24 (by decide)) (by decide) rfl rfl (Nat.le_of_ble_eq_true rfl) rfl (fun h2 q2 => ?_)
  rw [if_pos (by omega), show ((e : Nat) : Int).toNat = e from rfl] at q2
  obtain ⟨hs2, f2⟩ := hs1.gn (e := e) (c := N) (X := .var S.1) f1 hsc (by omega) upT_s (by omega) hS q2
  have g2 := f2.g
  have c2 : YX h1 a1 K1 h2 a1 K1 [] [] (fun y => y = 24) 0 := by rw [q2]; exact g1.pp ⟨by decide, cis_c (by decide)⟩
  have v8 : h2.vl 8 = h1.vl 8 := c2.v (g1.no (by decide)) (by decide)
  have v23 : h2.vl 23 = h1.vl 23 := c2.v (g1.no (by decide)) (by decide)
  have w1 := g2.1.v8_1
  have q2' : AtC h0 a0 K0 L kp tc (S.1 + 1, S.2.1, upT S.2.2.1 e (.var S.1), S.2.2.2) Dn (fun k => Gn k ∨ k = e) Sn (N + 1) _ τ1 sc ((e, s, x) :: st) gz lz fv yl1 res h2 a1 K1 := ⟨f2, hs2, hp1.x g1 c2 (by decide), hf1.xt (fun j _ _ => by rw [v8]), ⟨by rw [v8]; exact h91, (c2.fl 5).trans h51⟩, v23.trans hv1, (YL.x c2 _).trans hy1, by rw [v8]; exact hr1⟩
  have hT2 := f2.2.2.2.1.l
  refine ev_aload_n dX0_goFunction_21 rfl ?_
  refine ev_getrv dX0_goFunction_22 fX0_21 g2.1.k8 g2.1.n8 rfl w1 ?_
  refine ev_aload_n dX0_goFunction_25 rfl ?_
  refine ev_iconst dX0_goFunction_26 ?_
  refine ev_iload_n dX0_goFunction_27 rfl ?_
  refine ev_cvi dX0_goFunction_28 lX0_137 (s_ofL (k := 2) hT2 (by decide) he) (by decide) hT2.t.o.1.1 hT2.t.o.1.2 rfl rfl rfl (Nat.le_of_ble_eq_true rfl) rfl (fun r z q9 => ?_)
  obtain ⟨r1, eq⟩ := q9
  rw [r1, eq, show TBL L (colC 2) e = TBL L 59 e from rfl, hfe]
  refine ev_cvv dX0_goFunction_31 lX0_112 (s_enter (n := fstN L e) g2 q2'.2.2.1 (by rw [List.length_cons]; omega)) (by decide) g2.1.k19 g2.1.n19 rfl rfl rfl (Nat.le_of_ble_eq_true rfl) rfl (fun h3 q3 => ?_)
  obtain ⟨c3, p3⟩ := q3
  refine ev_gt 61 dX0_goFunction_34 ?_
  exact ev_vret dX0_goFunction_61 (⟨rfl, a1, K1, N + 1, _, τ1, yl1, q2'.pt hsc c3 p3, ⟨n1.1, Nat.le_refl _, n1.2⟩, t1⟩)
/-- what a node leaves that has ended, or failed -/
theorem s_endA {c b : Nat} {X : TE} {nv' N' yl' : Nat} {R : IR → IS → Prop} (q : AtC h0 a0 K0 L kp tc (nv', S.2) Dn Gn Sn N T τ sc ((e, s, x) :: st) gz lz fv yl res h a K) (hsc : sc ≤ 12) (he : e < 120) (hc : c < N) (hX : T c = X) (hSe : ∀ b, Sn b → fstN L b ≠ e) (hN : N' ≤ N ∧ yl + N' ≤ yl' + N) (hb : N ≤ N' + b) (hR : R (0, -1, -1, -1) (isF S e X nv')) :
    CV mX0_end 3 [rv 8, iv (e : Int), iv (c : Int)] h (on fun h1 => GdQ h0 a0 K0 L kp tc S Dn Gn Sn sc st e gz lz fv yl' N' b R h1) := by
  obtain ⟨f, hs, hp, hf, ⟨h9, h5⟩, hv, hy, hr⟩ := id q
  refine cv_mono (s_endC f hs hsc hp he hc hX hSe) fun o h1 z => ?_
  obtain ⟨e0, q1, q2, q3, q4, q5, q6, q8, q7⟩ := z
  refine ⟨e0, (0, -1, -1, -1), _, N, hR, hb, fun _ => ⟨fun k hk => by rw [q7 k (by omega), hv], a, K, T, τ, c, q1, q2, q3, hf.xt (fun j j8 _ => q5 j j8), ⟨hc, ⟨q4, q8⟩, by rw [hX]; exact (upT_s (f := S.2.1)).symm⟩, ⟨(q5 9 (by decide)).trans h9, (q6.fl 5).trans h5⟩, hN.1, ?_⟩, fun z => absurd rfl z⟩
  rw [YL.x q6, hy]
  exact hN.2
set_option maxRecDepth 100000 in
theorem s_fun1 {c0 c1 : Nat} (q : AtC h0 a0 K0 L kp tc S Dn Gn Sn N T τ sc ((e, s, x) :: st) gz lz fv yl res h a K) (hsc : sc ≤ 12) (hN : N ≤ 40000) (he : e < L.length) (hL : L.length ≤ 120) (hSe : ∀ b, Sn b → fstN L b ≠ e) (hG : Gn e) (hr : res = (c1 : Int)) (hc1 : c1 < N) (hX1 : T c1 = S.2.1 (fstN L e)) {sg : Int} (hsg : sg ≠ 0) : CV mX0_goFunction 7 [rv 8, rv (tc : Int), iv (e : Int), iv sg] h (on fun h1 => GdQ h0 a0 K0 L kp tc S Dn Gn Sn sc st e gz lz fv yl N 1 (fun r S' => r = (0, -1, -1, -1) ∧ S' = isF S e (.op (S.2.2.1 e) (S.2.1 (fstN L e))) S.1) h1) := by
  obtain ⟨f, hs, hp, hf, ⟨h9, h5⟩, hv, hy, hr8⟩ := id q
  have g := f.g
  have v0 := g.1.v8_0
  have v3 := g.1.v8_3
  rw [hr] at hr8
  obtain ⟨e9, cg, d1, d2, d3⟩ := hs.2.2.2.1 e hG
  refine cv_of cdX0_goFunction ?_
  show EV _ _ 0 [rv 8, rv (tc : Int), iv (e : Int), iv sg] [] h _
  refine ev_iload_n dX0_goFunction_0 rfl ?_
  refine ev_ifne 37 dX0_goFunction_1 (fun hb => ?_) (fun h_no => (by exfalso; omega))
  refine ev_aload_n dX0_goFunction_37 rfl ?_
  refine ev_iload_n dX0_goFunction_38 rfl ?_
  refine ev_aload_n dX0_goFunction_39 rfl ?_
  refine ev_getrv dX0_goFunction_40 fX0_12 g.1.k8 g.1.n8 rfl v0 ?_
  refine ev_aload_n dX0_goFunction_43 rfl ?_
  refine ev_getrv dX0_goFunction_44 fX0_29 g.1.k8 g.1.n8 rfl v3 ?_
  refine ev_iload_n dX0_goFunction_47 rfl ?_
  refine ev_csi dX0_goFunction_48 lX0_81 (s_atI g.1.k24 g.1.n24 (by decide)) (by decide) rfl rfl (Nat.le_of_ble_eq_true rfl) rfl (fun r z q9 => ?_)
  obtain ⟨r1, eq⟩ := q9
  rw [r1, eq, if_pos (by omega), show ((e : Nat) : Int).toNat = e from rfl, d2]
  refine ev_aload_n dX0_goFunction_51 rfl ?_
  refine ev_getiv dX0_goFunction_52 fX0_115 g.1.k8 g.1.n8 rfl hr8 ?_
  refine ev_cvi dX0_goFunction_55 lX0_122 (s_addT g hs.1.2.1 (by omega)) (by decide) g.1.k9 g.1.n9 rfl rfl rfl (Nat.le_of_ble_eq_true rfl) rfl (fun r h1 q9 => ?_)
  obtain ⟨rfl, y1⟩ := q9
  obtain ⟨τ1, u1⟩ := hs.1.arr (x := cg) (y := c1) d1 hc1 y1
  obtain ⟨a1, K1, yl1, q1, n1, t1⟩ := q.gx hsc (Nat.le_refl _) u1
  have g1 := q1.1.g
  refine ev_cvv dX0_goFunction_58 lX0_154 (s_endA (N' := N) (yl' := yl) (b := 1) (R := fun r S' => r = (0, -1, -1, -1) ∧ S' = isF S e (.op (S.2.2.1 e) (S.2.1 (fstN L e))) S.1) q1 hsc (by omega) (Nat.lt_succ_self _) (upT_s.trans (by rw [d3, hX1])) hSe n1 (Nat.le_refl _) ⟨rfl, rfl⟩) (by decide) g1.1.k8 g1.1.n8 rfl rfl rfl (Nat.le_of_ble_eq_true rfl) rfl (fun h2 q2 => ?_)
  exact ev_vret dX0_goFunction_61 (⟨rfl, q2⟩)
end Prt
