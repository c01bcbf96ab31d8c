/-! the class: the public changes -/
section Pbs
variable {h h1 h2 : AH} {a K a1 K1 : Nat → Nat} {v bv sv v' bv' sv' : Nat → Int} {isS isS' : Int} {c c' : Nat} {pv pv' : Nat → Nat → Int} {w d cw cd w' d' cw' cd' : Int} {X1 X3 : List Int} {b1 N1 b3 N3 dc ds M1 M3 : Nat} {N : Nat} {LL : Nat → List Nd} {kp : Nat → Option TE} {g e : Int}
theorem JC.up {C : Nat → Nat → Prop} (j : JC h a K v bv isS sv c pv w d cw cd X1 X3 b1 N1 b3 N3) (q : GF h h1 C) (ok : ∀ x i, C x i → OkC h x i) (t : ∀ x i, C x i → ¬ (1 ≤ x ∧ x ≤ 4) ∧ (94 ≤ x → (h.kd x).1 ≠ 101)) (s1 : SvR h1 a 31 v') (s2 : SvR h1 a 34 bv') (s3 : h1.vl 0 10 = isS' ∧ (isS' = 0 ∨ isS' = 1) ∧ (isS' = 1 → SvR h1 a 37 sv')) (r : RgI h1 a c' pv') (rf : RfI h1 w' d' cw' cd') : JC h1 a K v' bv' isS' sv' c' pv' w' d' cw' cd' X1 X3 b1 N1 b3 N3 := by
  obtain ⟨⟨ga, k, f⟩, -, -, -, ⟨t1, t2, t3⟩, ⟨t4, t5⟩, t6⟩ := j
  have n94 := ga.1.1
  have tb : ∀ {x b N : Nat} {X : List Int}, TbI h x b N X → (x = 1 ∨ x = 3) → (b = 2 ∨ b = 4 ∨ 94 ≤ b) → TbI h1 x b N X := fun {x b N X} t' hx hb => t'.eq q.1 q.2.1 (fun i _ => q.2.2 x i (by omega) (fun z => by have := (t x i z).1; omega)) (funext fun i => q.2.2 b i t'.1.2.1.2.2 (fun z => by
    have y := t b i z
    rcases hb with hb | hb | hb
    · omega
    · omega
    · exact y.2 hb (by rw [t'.1.2.1.2.1])))
  exact ⟨⟨ga.gf q ok, k, (f.gf ga q ok).1⟩, ⟨s1, s2, s3⟩, r, rf, ⟨tb t1 (Or.inl rfl) (t2.imp id Or.inr), t2, t3⟩, ⟨tb t4 (Or.inr rfl) (Or.inr t5), t5⟩, t6⟩
theorem RfI.p4 (r : RfI h w d cw cd) (p1 : h.n ≤ h1.n) (p2 : ∀ c, c < h.n → h1.kd c = h.kd c) (m : ∀ x, 94 ≤ x → x < h.n → (h.kd x).1 = 4 → h1.vl x = h.vl x) (e : h1.vl 0 12 = h.vl 0 12) : RfI h1 w d cw cd := by
  have k4 : ∀ r : Nat, (94 ≤ r ∧ r < h.n ∧ h.kd r = (4, 3)) → (94 ≤ r ∧ r < h1.n ∧ h1.kd r = (4, 3)) ∧ h1.vl r = h.vl r := fun r z => ⟨⟨z.1, Nat.lt_of_lt_of_le z.2.1 p1, (p2 r z.2.1).trans z.2.2⟩, m r z.1 z.2.1 (by rw [z.2.2])⟩
  rcases r with ⟨r1, r2⟩ | ⟨r, r1, r2, r3, r4, r5, r6⟩
  · exact Or.inl ⟨e.trans r1, r2⟩
  · obtain ⟨x1, x2⟩ := k4 r r2
    refine Or.inr ⟨r, e.trans r1, x1, r3, by rw [x2]; exact r4, by rw [x2]; exact r5, ?_⟩
    rw [x2]
    rcases r6 with w | ⟨q, q1, q2, q3, q4, q5⟩
    · exact Or.inl w
    · obtain ⟨y1, y2⟩ := k4 q q2
      exact Or.inr ⟨q, q1, y1, q3, by rw [y2]; exact q4, by rw [y2]; exact q5⟩
theorem StI.st {C : Nat → Nat → Prop} {s : Nat} (r : StI h a s N LL kp g e) (j : YA h a K) (f : FSc h a) (q : GF h h1 C) (hC : ∀ x i, C x i → OkT x i) (hs : s + 2 < 94) (hn : ∀ x i, C x i → x < s ∨ s + 2 < x) : StI h1 a s N LL kp g e := by
  have ok : ∀ x i, C x i → OkC h x i := fun x i z => (hC x i z).okc
  have n94 := j.1.1
  have ee : ∀ x, s ≤ x → x ≤ s + 2 → h1.vl x = h.vl x := fun x h1 h2 => funext fun i => q.2.2 x i (by omega) (fun z => by have := hn x i z; omega)
  exact r.pr (q.pr ok j f) (ee s (Nat.le_refl _) (by omega)) (ee _ (by omega) (by omega)) (ee _ (by omega) (Nat.le_refl _))
/-- one of the three states takes what another one has: the frame -/
theorem tk_gc {s b : Nat} (hs : s = 31 ∨ s = 34 ∨ s = 37) (q : TKQ h h1 s (s + 1) (s + 2) b (b + 1) (b + 2)) : GC h h1 (fun x i => (x = s ∧ 2 ≤ i) ∨ x = s + 1 ∨ x = s + 2) 0 0 ∧ ∀ x i, ((x = s ∧ 2 ≤ i) ∨ x = s + 1 ∨ x = s + 2) → OkT x i := by
  refine ⟨q.1.gc.wk (fun x i z => ?_) (Nat.le_refl _) (Nat.le_refl _), fun x i z => ⟨by omega, by omega, fun _ => by omega⟩⟩
  rcases z with z | z
  · simp at z; omega
  · simp at z; omega
/-- before takes now -/
theorem s_befJ (j : JC h a K v bv isS sv c pv w d cw cd X1 X3 b1 N1 b3 N3) (hs : StI h a 31 N LL kp (v 1) (v 2)) : CV mX6_take 2 [rv 34, rv 31] h (on fun h1 => FrJ h K N1 N3 h1 K N1 N3 0 0 ∧ JC h1 a K v v isS sv c pv w d cw cd X1 X3 b1 N1 b3 N3 ∧ StI h1 a 31 N LL kp (v 1) (v 2)) := by
  obtain ⟨ga, k, f⟩ := j.1
  have hC := ga.1
  obtain ⟨N', LL', kp', r1, r2⟩ := j.2.1.1
  refine cv_mono (s_take (a := 34) (ta := 35) (ka := 36) (b := 31) (tb := 32) (kb := 33) hC.st34 hC.st31 (by decide) r2.ok.1 r2.ok.2) fun o h1 q => ?_
  obtain ⟨e0, q⟩ := q
  obtain ⟨gc, okt⟩ := tk_gc (s := 34) (b := 31) (by decide) q
  have ok : ∀ x i, ((x = 34 ∧ 2 ≤ i) ∨ x = 34 + 1 ∨ x = 34 + 2) → OkC h x i := fun x i z => (okt x i z).okc
  have p := gc.1.pr ok ga f
  refine ⟨e0, OkT.fj gc ga okt, j.st gc.1 okt (j.2.1.1.st ga f gc.1 okt (by decide) (fun x i z => by omega)) ⟨N', LL', kp', r1, r2.tk (N' := N) (LL' := LL) (kp' := kp) (g' := 0) (e' := 0) (tb := 0) (kb := 0) hC.st34 q p⟩ (fun z => (j.2.1.2.2.2.2 z).st ga f gc.1 okt (by decide) (fun x i z => by omega)), hs.st ga f gc.1 okt (by decide) (fun x i z => by omega)⟩
theorem s_pushJ (j : JC h a K v bv isS sv c pv w d cw cd X1 X3 b1 N1 b3 N3) : CV mX1_push 5 [rv 40, rv 34] h (on fun h1 => JQ h K N1 N3 3 19 v bv isS sv (if c = 8 then 8 else c + 1) (pvN c pv bv) w d cw cd X1 X3 h1) := by
  obtain ⟨⟨ga, k, f⟩, ⟨j1, j2, j3, j4, j5⟩, r, rf, -⟩ := id j
  refine cv_mono (s_push ga f r j2) fun o h1 q => ?_
  obtain ⟨e0, gc, r1⟩ := q
  have ok : ∀ x i, PsC h x i → OkC h x i := fun x i z => z.ok.1
  have n94 := ga.1.1
  have p := gc.1.pr ok ga f
  have lo : ∀ x, x < 40 → h1.vl x = h.vl x := fun x hx => funext fun i => gc.1.2.2 x i (by omega) (fun z => by rcases z with z | z | z <;> omega)
  refine ⟨e0, a, K, b1, N1, b3, N3, gc.fj ga (fun x i z => ?_), j.up gc.1 ok (fun x i z => ?_) (j1.pr p (lo _ (by decide)) (lo _ (by decide)) (lo _ (by decide))) (j2.pr p (lo _ (by decide)) (lo _ (by decide)) (lo _ (by decide))) ⟨by rw [lo 0 (by decide)]; exact j3, j4, fun z => (j5 z).pr p (lo _ (by decide)) (lo _ (by decide)) (lo _ (by decide))⟩ r1 (rf.p4 gc.1.1 gc.1.2.1 (fun x h1 h2 h3 => funext fun i => gc.1.2.2 x i h2 (fun z => z.ok.2.2 h1 h3)) (by rw [lo 0 (by decide)]))⟩
  · rcases z with z | z | z
    · omega
    · omega
    · omega
  · rcases z with z | z | ⟨z1, z2⟩
    · omega
    · omega
    · exact ⟨by omega, fun _ => by omega⟩
set_option maxRecDepth 100000 in
theorem g_drop {p : Int} (j : JC h a K v bv isS sv c pv w d cw cd X1 X3 b1 N1 b3 N3) (hv : VS v N LL kp) (hs : StI h a 31 N LL kp (v 1) (v 2)) : CV mX10_drop 8 [rv 0, iv p] h (fun oo h1 => (¬ (0 ≤ p ∧ p < (N : Int)) ∧ oo = xv 1 ∧ JQ h K N1 N3 2 9 v v isS sv c pv 2 p 0 0 X1 X3 h1) ∨ ((0 ≤ p ∧ p < (N : Int)) ∧ oo = iv ((LL p.toNat).length : Int) ∧ JQ h K N1 N3 3 19 (drV v p.toNat N) v isS sv (if c = 8 then 8 else c + 1) (pvN c pv v) w d cw cd X1 X3 h1)) := by
  have hC := j.1.1.1
  refine cv_of cdX10_drop ?_
  show EV _ _ 0 [rv 0, iv p, uv] [] h _
  refine ev_aload_n dX10_drop_0 rfl ?_
  refine ev_getrv dX10_drop_1 fX10_52 hC.k0 hC.n0 rfl hC.v0_7 ?_
  refine ev_aload_n dX10_drop_4 rfl ?_
  refine ev_getrv dX10_drop_5 fX10_48 hC.k0 hC.n0 rfl hC.v0_6 ?_
  refine ev_cvv dX10_drop_8 lX10_95 (s_befJ j hs) (by decide) hC.k34 hC.n34 rfl rfl rfl (Nat.le_of_ble_eq_true rfl) rfl (fun h1 q => ?_)
  obtain ⟨f1, j1, s1⟩ := q
  have hC1 := j1.1.1.1
  refine ev_aload_n dX10_drop_11 rfl ?_
  refine ev_iload_n dX10_drop_12 rfl ?_
  refine ev_cvi dX10_drop_13 lX10_110 (s_dropL j1 hv s1) (by decide) hC1.k0 hC1.n0 rfl rfl rfl (Nat.le_of_ble_eq_true rfl) rfl (fun r h2 q => ?_)
  rcases q with ⟨hp, q1, q2⟩ | ⟨hp, q1, q2⟩
  · skip
    rw [q1]
    refine ev_ist2 dX10_drop_16 ?_
    refine ev_iload_n dX10_drop_17 rfl ?_
    refine ev_ifge 31 dX10_drop_18 (fun h_no => (by exfalso; omega)) (fun hb => ?_)
    exact ev_throw _ tk_1 (List.mem_of_getElem? (i := 2) rfl) dX10_drop_21 dX10_drop_24 dX10_drop_25 dX10_drop_27 dX10_drop_30 rfl (Nat.le_of_ble_eq_true rfl) (Or.inl ⟨hp, rfl, ((f1.jq q2).wk (dc' := 1) (ds' := 3) (by omega) (by omega)).th⟩)
  obtain ⟨a2, K2, b2, M2, b4, M4, f2, j2⟩ := q2
  have hC2 := j2.1.1.1
  rw [q1]
  refine ev_ist2 dX10_drop_16 ?_
  refine ev_iload_n dX10_drop_17 rfl ?_
  refine ev_ifge 31 dX10_drop_18 (fun hb => ?_) (fun h_no => (by exfalso; omega))
  refine ev_aload_n dX10_drop_31 rfl ?_
  refine ev_getrv dX10_drop_32 fX10_61 hC2.k0 hC2.n0 rfl hC2.v0_9 ?_
  refine ev_aload_n dX10_drop_35 rfl ?_
  refine ev_getrv dX10_drop_36 fX10_52 hC2.k0 hC2.n0 rfl hC2.v0_7 ?_
  refine ev_cvv dX10_drop_39 lX10_107 (s_pushJ j2) (by decide) hC2.k40 hC2.n40 rfl rfl rfl (Nat.le_of_ble_eq_true rfl) rfl (fun h3 q => ?_)
  refine ev_iload_n dX10_drop_42 rfl ?_
  exact ev_iret dX10_drop_43 (Or.inr ⟨hp, rfl, ((f1.tr f2).jq q).wk (by omega) (by omega)⟩)
set_option maxRecDepth 100000 in
theorem g_unkeep {p : Int} (j : JC h a K v bv isS sv c pv w d cw cd X1 X3 b1 N1 b3 N3) (hv : VS v N LL kp) (hs : StI h a 31 N LL kp (v 1) (v 2)) : CV mX10_unkeep 8 [rv 0, iv p] h (fun oo h1 => (¬ (0 ≤ p ∧ p ≤ 7) ∧ oo = xv 1 ∧ JQ h K N1 N3 2 9 v v isS sv c pv 8 p 0 0 X1 X3 h1) ∨ ((0 ≤ p ∧ p ≤ 7) ∧ v (369 + 25 * p.toNat) = 0 ∧ oo = xv 1 ∧ JQ h K N1 N3 2 9 v v isS sv c pv 6 p 0 0 X1 X3 h1) ∨ ((0 ≤ p ∧ p ≤ 7) ∧ v (369 + 25 * p.toNat) ≠ 0 ∧ oo = iv (v (369 + 25 * p.toNat)) ∧ JQ h K N1 N3 3 19 (ukV v p.toNat) v isS sv (if c = 8 then 8 else c + 1) (pvN c pv v) w d cw cd X1 X3 h1)) := by
  have hC := j.1.1.1
  refine cv_of cdX10_unkeep ?_
  show EV _ _ 0 [rv 0, iv p, uv] [] h _
  refine ev_aload_n dX10_unkeep_0 rfl ?_
  refine ev_getrv dX10_unkeep_1 fX10_52 hC.k0 hC.n0 rfl hC.v0_7 ?_
  refine ev_aload_n dX10_unkeep_4 rfl ?_
  refine ev_getrv dX10_unkeep_5 fX10_48 hC.k0 hC.n0 rfl hC.v0_6 ?_
  refine ev_cvv dX10_unkeep_8 lX10_95 (s_befJ j hs) (by decide) hC.k34 hC.n34 rfl rfl rfl (Nat.le_of_ble_eq_true rfl) rfl (fun h1 q => ?_)
  obtain ⟨f1, j1, s1⟩ := q
  have hC1 := j1.1.1.1
  refine ev_aload_n dX10_unkeep_11 rfl ?_
  refine ev_iload_n dX10_unkeep_12 rfl ?_
  refine ev_cvi dX10_unkeep_13 lX10_121 (s_unkeepL j1 hv s1) (by decide) hC1.k0 hC1.n0 rfl rfl rfl (Nat.le_of_ble_eq_true rfl) rfl (fun r h2 q => ?_)
  rcases q with ⟨hp, q1, q2⟩ | ⟨hp, q0, q1, q2⟩ | ⟨hp, q0, q00, q1, q2⟩
  · skip
    rw [q1]
    refine ev_ist2 dX10_unkeep_16 ?_
    refine ev_iload_n dX10_unkeep_17 rfl ?_
    refine ev_ifge 31 dX10_unkeep_18 (fun h_no => (by exfalso; omega)) (fun hb => ?_)
    exact ev_throw _ tk_1 (List.mem_of_getElem? (i := 4) rfl) dX10_unkeep_21 dX10_unkeep_24 dX10_unkeep_25 dX10_unkeep_27 dX10_unkeep_30 rfl (Nat.le_of_ble_eq_true rfl) (Or.inl ⟨hp, rfl, ((f1.jq q2).wk (dc' := 1) (ds' := 3) (by omega) (by omega)).th⟩)
  · skip
    rw [q1]
    refine ev_ist2 dX10_unkeep_16 ?_
    refine ev_iload_n dX10_unkeep_17 rfl ?_
    refine ev_ifge 31 dX10_unkeep_18 (fun h_no => (by exfalso; omega)) (fun hb => ?_)
    exact ev_throw _ tk_1 (List.mem_of_getElem? (i := 4) rfl) dX10_unkeep_21 dX10_unkeep_24 dX10_unkeep_25 dX10_unkeep_27 dX10_unkeep_30 rfl (Nat.le_of_ble_eq_true rfl) (Or.inr (Or.inl ⟨hp, q0, rfl, ((f1.jq q2).wk (dc' := 1) (ds' := 3) (by omega) (by omega)).th⟩))
  obtain ⟨a2, K2, b2, M2, b4, M4, f2, j2⟩ := q2
  have hC2 := j2.1.1.1
  refine ev_ist2 dX10_unkeep_16 ?_
  refine ev_iload_n dX10_unkeep_17 rfl ?_
  refine ev_ifge 31 dX10_unkeep_18 (fun hb => ?_) (fun h_no => (by exfalso; omega))
  refine ev_aload_n dX10_unkeep_31 rfl ?_
  refine ev_getrv dX10_unkeep_32 fX10_61 hC2.k0 hC2.n0 rfl hC2.v0_9 ?_
  refine ev_aload_n dX10_unkeep_35 rfl ?_
  refine ev_getrv dX10_unkeep_36 fX10_52 hC2.k0 hC2.n0 rfl hC2.v0_7 ?_
  refine ev_cvv dX10_unkeep_39 lX10_107 (s_pushJ j2) (by decide) hC2.k40 hC2.n40 rfl rfl rfl (Nat.le_of_ble_eq_true rfl) rfl (fun h3 q => ?_)
  refine ev_iload_n dX10_unkeep_42 rfl ?_
  exact ev_iret dX10_unkeep_43 (Or.inr (Or.inr ⟨hp, q0, by rw [q1], ((f1.tr f2).jq q).wk (by omega) (by omega)⟩))
set_option maxRecDepth 100000 in
theorem g_keep {p q9 : Int} (j : JC h a K v bv isS sv c pv w d cw cd X1 X3 b1 N1 b3 N3) (hv : VS v N LL kp) (hs : StI h a 31 N LL kp (v 1) (v 2)) (hv2 : -2147483648 ≤ v 2 + 1 ∧ v 2 + 1 ≤ 2147483647) : CV mX10_keep 12 [rv 0, iv p, iv q9] h (fun oo h1 => (∃ w' d', keN N LL kp p q9 w' d' ∧ oo = xv 1 ∧ JQ h K N1 N3 2 9 v v isS sv c pv w' d' 0 0 X1 X3 h1) ∨ ∃ T, keO N LL kp p q9 T ∧ oo = iv ((cnT T []).2.length : Int) ∧ JQ h K N1 N3 5 45 (keV v q9.toNat (cnT T []).1) v isS sv (if c = 8 then 8 else c + 1) (pvN c pv v) w d cw cd X1 X3 h1) := by
  have hC := j.1.1.1
  refine cv_of cdX10_keep ?_
  show EV _ _ 0 [rv 0, iv p, iv q9, uv] [] h _
  refine ev_aload_n dX10_keep_0 rfl ?_
  refine ev_getrv dX10_keep_1 fX10_52 hC.k0 hC.n0 rfl hC.v0_7 ?_
  refine ev_aload_n dX10_keep_4 rfl ?_
  refine ev_getrv dX10_keep_5 fX10_48 hC.k0 hC.n0 rfl hC.v0_6 ?_
  refine ev_cvv dX10_keep_8 lX10_95 (s_befJ j hs) (by decide) hC.k34 hC.n34 rfl rfl rfl (Nat.le_of_ble_eq_true rfl) rfl (fun h1 q => ?_)
  obtain ⟨f1, j1, s1⟩ := q
  have hC1 := j1.1.1.1
  refine ev_aload_n dX10_keep_11 rfl ?_
  refine ev_iload_n dX10_keep_12 rfl ?_
  refine ev_iload_n dX10_keep_13 rfl ?_
  refine ev_cvi dX10_keep_14 lX10_116 (s_keepL j1 hv s1 hv2) (by decide) hC1.k0 hC1.n0 rfl rfl rfl (Nat.le_of_ble_eq_true rfl) rfl (fun r h2 q => ?_)
  rcases q with ⟨w', d', hp, q1, q2⟩ | ⟨T, hp, q00, q1, q2⟩
  · skip
    rw [q1]
    refine ev_ist3 dX10_keep_17 ?_
    refine ev_iload_n dX10_keep_18 rfl ?_
    refine ev_ifge 32 dX10_keep_19 (fun h_no => (by exfalso; omega)) (fun hb => ?_)
    exact ev_throw _ tk_1 (List.mem_of_getElem? (i := 3) rfl) dX10_keep_22 dX10_keep_25 dX10_keep_26 dX10_keep_28 dX10_keep_31 rfl (Nat.le_of_ble_eq_true rfl) (Or.inl ⟨w', d', hp, rfl, ((f1.jq q2).wk (dc' := 1) (ds' := 3) (by omega) (by omega)).th⟩)
  obtain ⟨a2, K2, b2, M2, b4, M4, f2, j2⟩ := q2
  have hC2 := j2.1.1.1
  refine ev_ist3 dX10_keep_17 ?_
  refine ev_iload_n dX10_keep_18 rfl ?_
  refine ev_ifge 32 dX10_keep_19 (fun hb => ?_) (fun h_no => (by exfalso; omega))
  refine ev_aload_n dX10_keep_32 rfl ?_
  refine ev_getrv dX10_keep_33 fX10_61 hC2.k0 hC2.n0 rfl hC2.v0_9 ?_
  refine ev_aload_n dX10_keep_36 rfl ?_
  refine ev_getrv dX10_keep_37 fX10_52 hC2.k0 hC2.n0 rfl hC2.v0_7 ?_
  refine ev_cvv dX10_keep_40 lX10_107 (s_pushJ j2) (by decide) hC2.k40 hC2.n40 rfl rfl rfl (Nat.le_of_ble_eq_true rfl) rfl (fun h3 q => ?_)
  refine ev_iload_n dX10_keep_43 rfl ?_
  exact ev_iret dX10_keep_44 (Or.inr ⟨T, hp, by rw [q1], ((f1.tr f2).jq q).wk (by omega) (by omega)⟩)
set_option maxRecDepth 100000 in
theorem g_undo (j : JC h a K v bv isS sv c pv w d cw cd X1 X3 b1 N1 b3 N3) : CV mX10_undo 8 [rv 0] h (fun oo h1 => (c = 0 ∧ oo = xv 4 ∧ h1 = h.thr) ∨ (0 < c ∧ oo = iv ((c : Int) - 1) ∧ JQ h K N1 N3 0 0 (pv (c - 1)) bv isS sv (c - 1) pv w d cw cd X1 X3 h1)) := by
  obtain ⟨⟨ga, k, f⟩, ⟨j1, j2, j3, j4, j5⟩, r, rf, -⟩ := id j
  have hC := ga.1
  have n94 := hC.1
  have rc := r.2.1
  refine cv_of cdX10_undo ?_
  show EV _ _ 0 [rv 0] [] h _
  refine ev_aload_n dX10_undo_0 rfl ?_
  refine ev_getrv dX10_undo_1 fX10_61 hC.k0 hC.n0 rfl hC.v0_9 ?_
  refine ev_getiv dX10_undo_4 fX10_319 hC.k40 hC.n40 rfl rc ?_
  by_cases hc : c = 0
  · skip
    refine ev_ifne 21 dX10_undo_7 (fun h_no => (by exfalso; omega)) (fun hb => ?_)
    exact ev_throww _ tk_4 (List.mem_of_getElem? (i := 25) rfl) dX10_undo_10 dX10_undo_13 dX10_undo_14 dX10_undo_17 dX10_undo_20 rfl (Nat.le_of_ble_eq_true rfl) (Or.inl ⟨hc, rfl, rfl⟩)
  refine ev_ifne 21 dX10_undo_7 (fun hb => ?_) (fun h_no => (by exfalso; omega))
  refine ev_aload_n dX10_undo_21 rfl ?_
  refine ev_getrv dX10_undo_22 fX10_61 hC.k0 hC.n0 rfl hC.v0_9 ?_
  refine ev_aload_n dX10_undo_25 rfl ?_
  refine ev_getrv dX10_undo_26 fX10_48 hC.k0 hC.n0 rfl hC.v0_6 ?_
  refine ev_cvv dX10_undo_29 lX10_329 (s_pop ga f r (by omega)) (by decide) hC.k40 hC.n40 rfl rfl rfl (Nat.le_of_ble_eq_true rfl) rfl (fun h1 q => ?_)
  obtain ⟨gc, r1, s1⟩ := q
  have ok : ∀ x i, ((x = 40 ∧ (i = 1 ∨ i = 2)) ∨ x = 32 ∨ x = 33 ∨ (x = 31 ∧ 2 ≤ i)) → OkC h x i := fun x i z => by
    rcases z with z | z
    · exact (PsC.ok (h := h) (Or.inr (Or.inl z))).1
    · exact OkT.okc ⟨by omega, by omega, fun _ => by omega⟩
  have p := gc.1.pr ok ga f
  have lo : ∀ x, x < 31 ∨ (33 < x ∧ x < 40) ∨ 41 ≤ x → x < h.n → h1.vl x = h.vl x := fun x hx hn => funext fun i => gc.1.2.2 x i hn (fun z => by omega)
  have J1 := j.up gc.1 ok (fun x i z => ⟨by omega, fun _ => by omega⟩) s1 (j2.pr p (lo _ (by omega) (by omega)) (lo _ (by omega) (by omega)) (lo _ (by omega) (by omega))) ⟨by rw [lo 0 (by omega) (by omega)]; exact j3, j4, fun z => (j5 z).pr p (lo _ (by omega) (by omega)) (lo _ (by omega) (by omega)) (lo _ (by omega) (by omega))⟩ r1 (rf.p4 gc.1.1 gc.1.2.1 (fun x h1 h2 h3 => lo x (by omega) h2) (by rw [lo 0 (by omega) (by omega)]))
  have hC1 := J1.1.1.1
  have rc1 := r1.2.1
  refine ev_aload_n dX10_undo_32 rfl ?_
  refine ev_getrv dX10_undo_33 fX10_61 hC1.k0 hC1.n0 rfl hC1.v0_9 ?_
  refine ev_getiv dX10_undo_36 fX10_319 hC1.k40 hC1.n40 rfl rc1 ?_
  exact ev_iret dX10_undo_39 (Or.inr ⟨by omega, by rw [show ((c - 1 : Nat) : Int) = (c : Int) - 1 by omega], a, K, b1, N1, b3, N3, gc.fj ga (fun x i z => by omega), J1⟩)
set_option maxRecDepth 100000 in
theorem g_save (j : JC h a K v bv isS sv c pv w d cw cd X1 X3 b1 N1 b3 N3) (hs : StI h a 31 N LL kp (v 1) (v 2)) : CV mX10_save 8 [rv 0] h (oi fun r h1 => r = (N : Int) ∧ JQ h K N1 N3 0 0 v bv 1 v c pv w d cw cd X1 X3 h1) := by
  obtain ⟨⟨ga, k, f⟩, ⟨j1, j2, j3, j4, j5⟩, r, rf, -⟩ := id j
  have hC := ga.1
  have n94 := hC.1
  obtain ⟨N', LL', kp', r1, r2⟩ := id j1
  refine cv_of cdX10_save ?_
  show EV _ _ 0 [rv 0] [] h _
  refine ev_aload_n dX10_save_0 rfl ?_
  refine ev_getrv dX10_save_1 fX10_55 hC.k0 hC.n0 rfl hC.v0_8 ?_
  refine ev_aload_n dX10_save_4 rfl ?_
  refine ev_getrv dX10_save_5 fX10_48 hC.k0 hC.n0 rfl hC.v0_6 ?_
  refine ev_cvv dX10_save_8 lX10_95 (s_take (a := 37) (ta := 38) (ka := 39) (b := 31) (tb := 32) (kb := 33) hC.st37 hC.st31 (by decide) r2.ok.1 r2.ok.2) (by decide) hC.k37 hC.n37 rfl rfl rfl (Nat.le_of_ble_eq_true rfl) rfl (fun h1 q => ?_)
  obtain ⟨gc, okt⟩ := tk_gc (s := 37) (b := 31) (by decide) q
  have ok : ∀ x i, ((x = 37 ∧ 2 ≤ i) ∨ x = 37 + 1 ∨ x = 37 + 2) → OkC h x i := fun x i z => (okt x i z).okc
  have p := gc.1.pr ok ga f
  have sv1 : SvR h1 a 37 v := ⟨N', LL', kp', r1, r2.tk (N' := N) (LL' := LL) (kp' := kp) (g' := 0) (e' := 0) (tb := 0) (kb := 0) hC.st37 q p⟩
  have hs1 : StI h1 a 31 N LL kp (v 1) (v 2) := hs.st ga f gc.1 okt (by decide) (fun x i z => by omega)
  have hC1 := (ga.gf gc.1 ok).1
  refine ev_aload_n dX10_save_11 rfl ?_
  refine ev_iconst dX10_save_12 ?_
  refine ev_pt dX10_save_13 fX10_332 hC1.k0 hC1.n0 rfl ?_
  obtain ⟨h2, e2⟩ : ∃ h2, h2 = h1.put 0 10 1 := ⟨_, rfl⟩
  rw [← e2]
  have gc2 : GC h1 h2 (fun x i => x = 0 ∧ i = 10) 0 0 := by
    rw [e2]
    exact ⟨GF.rf.pu (fun _ => ⟨rfl, rfl⟩), Nat.le_refl _, Nat.le_refl _⟩
  have ok2 : ∀ x i, (x = 0 ∧ i = 10) → OkC h1 x i := fun x i z => by obtain ⟨rfl, rfl⟩ := z; exact ⟨by decide, Or.inl (by decide)⟩
  have g1 := ga.gf gc.1 ok
  have f1 := (f.gf ga gc.1 ok).1
  have p2 := gc2.1.pr ok2 g1 f1
  have gct := (gc.wk (C' := fun x i => ((x = 37 ∧ 2 ≤ i) ∨ x = 38 ∨ x = 39) ∨ (x = 0 ∧ i = 10)) (fun _ _ z => Or.inl z) (Nat.le_refl _) (Nat.le_refl _)).tr' gc2 (fun _ _ _ z => Or.inr z)
  have okt2 : ∀ x i, (((x = 37 ∧ 2 ≤ i) ∨ x = 38 ∨ x = 39) ∨ (x = 0 ∧ i = 10)) → OkC h x i := fun x i z => by
    rcases z with z | ⟨rfl, rfl⟩
    · exact ok x i z
    · exact ⟨by decide, Or.inl (by decide)⟩
  have pt := gct.1.pr okt2 ga f
  have lo : ∀ x, x ≠ 0 → ¬ (37 ≤ x ∧ x ≤ 39) → x < h.n → h2.vl x = h.vl x := fun x h0 hx hn => funext fun i => gct.1.2.2 x i hn (fun z => by omega)
  have v2 : ∀ x i, x ≠ 0 → h2.vl x i = h1.vl x i := fun x i hx => by rw [e2, AH.put_vl, if_neg (fun z => hx z.1)]
  have J2 := j.up gct.1 okt2 (fun x i z => ⟨by omega, fun _ => by omega⟩) (j1.pr pt (lo _ (by omega) (by omega) (by omega)) (lo _ (by omega) (by omega) (by omega)) (lo _ (by omega) (by omega) (by omega))) (j2.pr pt (lo _ (by omega) (by omega) (by omega)) (lo _ (by omega) (by omega) (by omega)) (lo _ (by omega) (by omega) (by omega))) (isS' := 1) (sv' := v) ⟨by rw [e2, AH.put_vl, if_pos ⟨rfl, rfl⟩], Or.inr rfl, fun _ => sv1.pr p2 (funext fun i => v2 _ i (by decide)) (funext fun i => v2 _ i (by decide)) (funext fun i => v2 _ i (by decide))⟩ (r.pr pt (gct.1.sm (fun x i z z1 => by omega)) (fun i => by rw [lo 40 (by decide) (by omega) (by omega)]) (fun i => by rw [lo 41 (by decide) (by omega) (by omega)])) (rf.p4 gct.1.1 gct.1.2.1 (fun x h1 h2 h3 => lo x (by omega) (by omega) h2) (gct.1.2.2 0 12 (by omega) (fun z => by omega)))
  have hC2 := J2.1.1.1
  have ct : h2.vl 31 2 = (N : Int) := by rw [v2 31 2 (by decide)]; exact hs1.2.1.1
  refine ev_aload_n dX10_save_16 rfl ?_
  refine ev_getrv dX10_save_17 fX10_48 hC2.k0 hC2.n0 rfl hC2.v0_6 ?_
  refine ev_getiv dX10_save_20 fX10_83 hC2.k31 hC2.n31 rfl ct ?_
  exact ev_iret dX10_save_23 (⟨_, rfl, rfl, a, K, b1, N1, b3, N3, gct.fj ga (fun x i z => by omega), J2⟩)
set_option maxRecDepth 100000 in
theorem g_restore (j : JC h a K v bv isS sv c pv w d cw cd X1 X3 b1 N1 b3 N3) : CV mX10_restore 8 [rv 0] h (fun oo h1 => (isS = 0 ∧ oo = xv 4 ∧ h1 = h.thr) ∨ (isS = 1 ∧ oo = iv (sv 0) ∧ JQ h K N1 N3 0 0 sv bv isS sv 0 pv w d cw cd X1 X3 h1)) := by
  obtain ⟨⟨ga, k, f⟩, ⟨j1, j2, j3, j4, j5⟩, r, rf, -⟩ := id j
  have hC := ga.1
  have n94 := hC.1
  refine cv_of cdX10_restore ?_
  show EV _ _ 0 [rv 0] [] h _
  refine ev_aload_n dX10_restore_0 rfl ?_
  refine ev_getiv dX10_restore_1 fX10_332 hC.k0 hC.n0 rfl j3 ?_
  by_cases hc : isS = 0
  · skip
    refine ev_ifne 18 dX10_restore_4 (fun h_no => (by exfalso; omega)) (fun hb => ?_)
    exact ev_throww _ tk_4 (List.mem_of_getElem? (i := 26) rfl) dX10_restore_7 dX10_restore_10 dX10_restore_11 dX10_restore_14 dX10_restore_17 rfl (Nat.le_of_ble_eq_true rfl) (Or.inl ⟨hc, rfl, rfl⟩)
  have h1S : isS = 1 := j4.resolve_left hc
  obtain ⟨N, LL, kp, r1, r2⟩ := j5 h1S
  refine ev_ifne 18 dX10_restore_4 (fun hb => ?_) (fun h_no => (by exfalso; omega))
  refine ev_aload_n dX10_restore_18 rfl ?_
  refine ev_getrv dX10_restore_19 fX10_48 hC.k0 hC.n0 rfl hC.v0_6 ?_
  refine ev_aload_n dX10_restore_22 rfl ?_
  refine ev_getrv dX10_restore_23 fX10_55 hC.k0 hC.n0 rfl hC.v0_8 ?_
  refine ev_cvv dX10_restore_26 lX10_95 (s_take (a := 31) (ta := 32) (ka := 33) (b := 37) (tb := 38) (kb := 39) hC.st31 hC.st37 (by decide) r2.ok.1 r2.ok.2) (by decide) hC.k31 hC.n31 rfl rfl rfl (Nat.le_of_ble_eq_true rfl) rfl (fun h1 q => ?_)
  obtain ⟨gc, okt⟩ := tk_gc (s := 31) (b := 37) (by decide) q
  have ok : ∀ x i, ((x = 31 ∧ 2 ≤ i) ∨ x = 31 + 1 ∨ x = 31 + 2) → OkC h x i := fun x i z => (okt x i z).okc
  have p := gc.1.pr ok ga f
  have sn : StI h1 a 31 N LL kp (sv 1) (sv 2) := r2.tk (N' := N) (LL' := LL) (kp' := kp) (g' := 0) (e' := 0) (tb := 0) (kb := 0) hC.st31 q p
  have hC1 := (ga.gf gc.1 ok).1
  refine ev_aload_n dX10_restore_29 rfl ?_
  refine ev_getrv dX10_restore_30 fX10_61 hC1.k0 hC1.n0 rfl hC1.v0_9 ?_
  refine ev_cvv dX10_restore_33 lX10_338 (s_clearH hC1) (by decide) hC1.k40 hC1.n40 rfl rfl rfl (Nat.le_of_ble_eq_true rfl) rfl (fun h2 q => ?_)
  have e2 : h2 = h1.put 40 2 0 := q
  have gc2 : GC h1 h2 (fun x i => x = 40 ∧ i = 2) 0 0 := by
    rw [e2]
    exact ⟨GF.rf.pu (fun _ => ⟨rfl, rfl⟩), Nat.le_refl _, Nat.le_refl _⟩
  have ok2 : ∀ x i, (x = 40 ∧ i = 2) → OkC h1 x i := fun x i z => (PsC.ok (h := h1) (Or.inr (Or.inl ⟨z.1, Or.inr z.2⟩))).1
  have g1 := ga.gf gc.1 ok
  have f1 := (f.gf ga gc.1 ok).1
  have p2 := gc2.1.pr ok2 g1 f1
  have gct := (gc.wk (C' := fun x i => ((x = 31 ∧ 2 ≤ i) ∨ x = 32 ∨ x = 33) ∨ (x = 40 ∧ i = 2)) (fun _ _ z => Or.inl z) (Nat.le_refl _) (Nat.le_refl _)).tr' gc2 (fun _ _ _ z => Or.inr z)
  have okt2 : ∀ x i, (((x = 31 ∧ 2 ≤ i) ∨ x = 32 ∨ x = 33) ∨ (x = 40 ∧ i = 2)) → OkC h x i := fun x i z => by
    rcases z with z | z
    · exact ok x i z
    · exact (PsC.ok (h := h) (Or.inr (Or.inl ⟨z.1, Or.inr z.2⟩))).1
  have pt := gct.1.pr okt2 ga f
  have lo : ∀ x, x ≠ 40 → ¬ (31 ≤ x ∧ x ≤ 33) → x < h.n → h2.vl x = h.vl x := fun x h0 hx hn => funext fun i => gct.1.2.2 x i hn (fun z => by omega)
  have v2 : ∀ x i, x ≠ 40 → h2.vl x i = h1.vl x i := fun x i hx => by rw [e2, AH.put_vl, if_neg (fun z => hx z.1)]
  have sn2 : StI h2 a 31 N LL kp (sv 1) (sv 2) := sn.pr p2 (funext fun i => v2 _ i (by decide)) (funext fun i => v2 _ i (by decide)) (funext fun i => v2 _ i (by decide))
  have rg2 : RgI h2 a 0 pv := by
    obtain ⟨c8, r1', nx, r2', r3', r4', r5', r6'⟩ := r
    have e41 : h2.vl 41 = h.vl 41 := lo 41 (by decide) (by omega) (by omega)
    refine ⟨by decide, by rw [e2, AH.put_vl, if_pos ⟨rfl, rfl⟩]; rfl, nx, ?_, r3', fun q hq => ?_, fun p q hp hq hne h0 => ?_, fun k hk => absurd hk (Nat.not_lt_zero _)⟩
    · rw [gct.1.2.2 40 1 (by omega) (fun z => by omega)]
      exact r2'
    · rw [e41]
      rcases r4' q hq with y | ⟨s, w1, w2, w3⟩
      · exact Or.inl y
      · exact Or.inr ⟨s, w1, w2, w3.pe pt (lo s (by omega) (by omega) w3.2.1)⟩
    · rw [e41] at h0 ⊢
      exact r5' p q hp hq hne h0
  have J2 := j.up gct.1 okt2 (fun x i z => ⟨by omega, fun _ => by omega⟩) (v' := sv) ⟨N, LL, kp, r1, sn2⟩ (j2.pr pt (lo _ (by omega) (by omega) (by omega)) (lo _ (by omega) (by omega) (by omega)) (lo _ (by omega) (by omega) (by omega))) ⟨by rw [lo 0 (by decide) (by omega) (by omega)]; exact j3, j4, fun z => (j5 z).pr pt (lo _ (by omega) (by omega) (by omega)) (lo _ (by omega) (by omega) (by omega)) (lo _ (by omega) (by omega) (by omega))⟩ rg2 (rf.p4 gct.1.1 gct.1.2.1 (fun x h1 h2 h3 => lo x (by omega) (by omega) h2) (by rw [lo 0 (by decide) (by omega) (by omega)]))
  have hC2 := J2.1.1.1
  have ct : h2.vl 31 2 = sv 0 := by rw [r1.1.1]; exact sn2.2.1.1
  refine ev_aload_n dX10_restore_36 rfl ?_
  refine ev_getrv dX10_restore_37 fX10_48 hC2.k0 hC2.n0 rfl hC2.v0_6 ?_
  refine ev_getiv dX10_restore_40 fX10_83 hC2.k31 hC2.n31 rfl ct ?_
  exact ev_iret dX10_restore_43 (Or.inr ⟨h1S, rfl, a, K, b1, N1, b3, N3, gct.fj ga (fun x i z => by omega), J2⟩)
end Pbs
