/-! the class: its texts; append, lesson -/
section Txt
variable {h h1 h2 : AH} {a K a1 K1 : Nat → Nat} {v bv sv : Nat → Int} {isS : Int} {c : Nat} {pv : Nat → Nat → Int} {w d cw cd : Int} {X1 X3 X : List Int} {b1 N1 b3 N3 dc ds M1 M3 b : Nat} {N : Nat} {LL : Nat → List Nd} {kp : Nat → Option TE} {p : Int}
theorem JC.sb {x b' B : Nat} {Y : List Int} {O : Nat} (j : JC h a K v bv isS sv c pv w d cw cd X1 X3 b1 N1 b3 N3) (t0 : TbI h x b' B Y) (q : SbQ h x b' B h1 b O) (hx : x = 1 ∨ x = 3) (hb : b' = 2 ∨ b' = 4 ∨ 94 ≤ b') (u1 : TbI h1 1 M1 dc X ∧ (M1 = 2 ∨ 94 ≤ M1) ∧ X.length ≤ 60) {Z : List Int} {M O3 : Nat} (u3 : TbI h1 3 M O3 Z ∧ (M = 4 ∨ 94 ≤ M)) (u : M1 ≠ M) : JC h1 a K v bv isS sv c pv w d cw cd X Z M1 dc M O3 := by
  obtain ⟨⟨ga, k, f⟩, ⟨j1, j2, j3, j4, j5⟩, r, rf, -⟩ := j
  have n94 := ga.1.1
  have ok : ∀ y i, ((y = x ∧ (i = 0 ∨ i = 2 ∨ i = 3)) ∨ y = b') → OkC h y i := fun y i z => (t0.ok hx hb y i z).1
  have gf := q.gf
  have pr := gf.pr ok ga f
  have kb := t0.1.2.1.2.1
  have sm : SmS h h1 := gf.sm (fun y i z z1 => by
    rcases z with z | z
    · omega
    · rw [z, kb]
      rintro (w | w | w | w) <;> exact absurd w (by simp))
  have lo : ∀ y, (y = 0 ∨ (30 < y ∧ y < 94)) → h1.vl y = h.vl y := fun y hy => funext fun i => gf.2.2 y i (by omega) (fun z => by omega)
  exact ⟨⟨ga.gf gf ok, k, (f.gf ga gf ok).1⟩, ⟨j1.pr pr (lo _ (by decide)) (lo _ (by decide)) (lo _ (by decide)), j2.pr pr (lo _ (by decide)) (lo _ (by decide)) (lo _ (by decide)), by rw [lo 0 (by decide)]; exact j3, j4, fun z => (j5 z).pr pr (lo _ (by decide)) (lo _ (by decide)) (lo _ (by decide))⟩, r.pr pr sm (fun i => by rw [lo 40 (by decide)]) (fun i => by rw [lo 41 (by decide)]), rf.pr pr sm (by rw [lo 0 (by decide)]), u1, u3, u⟩
/-- the input changes -/
theorem JC.t1 (j : JC h a K v bv isS sv c pv w d cw cd X1 X3 b1 N1 b3 N3) (q : SbQ h 1 b1 N1 h1 b M1) (t : TbI h1 1 b M1 X) (hX : X.length ≤ 60) : JQ h K N1 N3 0 0 v bv isS sv c pv w d cw cd X X3 h1 := by
  obtain ⟨⟨ga, k, f⟩, -, -, -, ⟨t1, t2, t3⟩, ⟨t4, t5⟩, t6⟩ := id j
  have n94 := ga.1.1
  have q6 := q.2.2.2.2.2
  have b3n := t4.1.2.1.2.2
  have u3 : TbI h1 3 b3 N3 X3 := t4.eq q.1 q.2.1 (fun i _ => by rw [q.2.2.1 3 (by omega) (by decide) (by omega)]) (q.2.2.1 b3 b3n (by omega) (fun z => t6 z.symm))
  exact ⟨a, K, b, M1, b3, N3, q.fj1 t2 n94, j.sb t1 q (Or.inl rfl) (t2.imp id Or.inr) ⟨t, by omega, hX⟩ ⟨u3, t5⟩ (by omega)⟩
/-- the line changes -/
theorem JC.t3 (j : JC h a K v bv isS sv c pv w d cw cd X1 X3 b1 N1 b3 N3) (q : SbQ h 3 b3 N3 h1 b M3) (t : TbI h1 3 b M3 X) : JQ h K N1 N3 0 0 v bv isS sv c pv w d cw cd X1 X h1 := by
  obtain ⟨⟨ga, k, f⟩, -, -, -, ⟨t1, t2, t3⟩, ⟨t4, t5⟩, t6⟩ := id j
  have n94 := ga.1.1
  have q6 := q.2.2.2.2.2
  have b1n := t1.1.2.1.2.2
  have u1 : TbI h1 1 b1 N1 X1 := t1.eq q.1 q.2.1 (fun i _ => by rw [q.2.2.1 1 (by omega) (by decide) (by omega)]) (q.2.2.1 b1 b1n (by omega) t6)
  exact ⟨a, K, b1, N1, b, M3, q.fj3 t5 n94, j.sb t4 q (Or.inr rfl) (Or.inr t5) ⟨u1, t2, t3⟩ ⟨t, by omega⟩ (by omega)⟩
/-- the letters of a text -/
abbrev cX (X : List Int) : Nat → Int := fun i => X.getD i 0
theorem JC.tx (j : JC h a K v bv isS sv c pv w d cw cd X1 X3 b1 N1 b3 N3) : TXs h (cX X1) X1.length := by
  obtain ⟨t1, t2, t3⟩ := j.2.2.2.2.1
  have ge : ∀ i (hi : i < X1.length), cX X1 i = X1[i] := fun i hi => by
    show X1.getD i 0 = _
    rw [List.getD_eq_getElem?_getD, List.getElem?_eq_getElem hi]
    rfl
  exact ⟨⟨b1, N1, t2, t1.1, fun i hi => by rw [ge i hi]; exact t1.2.2.1 i hi⟩, t3, fun i hi => by rw [ge i hi]; exact t1.2.2.2.2.1 _ (List.getElem_mem hi)⟩
theorem cX_z {X : List Int} : ∀ i, X.length ≤ i → cX X i = 0 := fun i hi => by
  show X.getD i 0 = 0
  rw [List.getD_eq_getElem?_getD, List.getElem?_eq_none hi]
  rfl
set_option maxRecDepth 100000 in
/-- the input is emptied -/
theorem s_empty (j : JC h a K v bv isS sv c pv w d cw cd X1 X3 b1 N1 b3 N3) : CV mJ4_setLength_d00df 4 [rv 1, iv 0] h (on fun h1 => JQ h K N1 N3 0 0 v bv isS sv c pv w d cw cd [] X3 h1) := by
  refine cv_mono (s_J4set0 j.2.2.2.2.1.1.1) fun o h1 q => ?_
  obtain ⟨e0, q1, q2⟩ := q
  obtain ⟨t, s⟩ := j.2.2.2.2.1.1.set0 q1 q2
  exact ⟨e0, j.t1 s t (Nat.zero_le _)⟩
set_option maxRecDepth 100000 in
theorem g_append (j : JC h a K v bv isS sv c pv w d cw cd X1 X3 b1 N1 b3 N3) : CV mX10_append 7 [rv 0, iv p] h (fun oo h1 => (¬ (33 ≤ p ∧ p ≤ 126) ∧ oo = xv 0 ∧ h1 = h.thr) ∨ ((33 ≤ p ∧ p ≤ 126) ∧ X1.length = 60 ∧ oo = xv 4 ∧ h1 = h.thr) ∨ ((33 ≤ p ∧ p ≤ 126) ∧ X1.length < 60 ∧ oo = iv ((X1.length : Int) + 1) ∧ JQ h K N1 N3 0 0 v bv isS sv c pv w d cw cd (X1 ++ [p]) X3 h1)) := by
  have hC := j.1.1.1
  obtain ⟨t1, t2, t3⟩ := j.2.2.2.2.1
  have ts := t1.1
  refine cv_of cdX10_append ?_
  show EV _ _ 0 [rv 0, iv p] [] h _
  refine ev_iload_n dX10_append_0 rfl ?_
  refine ev_bipush dX10_append_1 ?_
  by_cases h1 : p < 33
  · skip
    refine ev_icmplt 12 dX10_append_3 (fun hb => ?_) (fun h_no => (by exfalso; omega))
    exact ev_throw _ tk_0 (List.mem_of_getElem? (i := 15) rfl) dX10_append_12 dX10_append_15 dX10_append_16 dX10_append_18 dX10_append_21 rfl (Nat.le_of_ble_eq_true rfl) (Or.inl ⟨by omega, rfl, rfl⟩)
  refine ev_icmplt 12 dX10_append_3 (fun h_no => (by exfalso; omega)) (fun hb => ?_)
  refine ev_iload_n dX10_append_6 rfl ?_
  refine ev_bipush dX10_append_7 ?_
  by_cases h2 : p ≤ 126
  rotate_left
  · skip
    refine ev_icmple 22 dX10_append_9 (fun h_no => (by exfalso; omega)) (fun hb2 => ?_)
    exact ev_throw _ tk_0 (List.mem_of_getElem? (i := 15) rfl) dX10_append_12 dX10_append_15 dX10_append_16 dX10_append_18 dX10_append_21 rfl (Nat.le_of_ble_eq_true rfl) (Or.inl ⟨by omega, rfl, rfl⟩)
  refine ev_icmple 22 dX10_append_9 (fun hb2 => ?_) (fun h_no => (by exfalso; omega))
  refine ev_aload_n dX10_append_22 rfl ?_
  refine ev_getrv dX10_append_23 fX10_12 hC.k0 hC.n0 rfl hC.v0_0 ?_
  refine ev_cvi dX10_append_26 lX10_236 (s_J4len ts) (by decide) hC.k1 hC.n1 rfl rfl rfl (Nat.le_of_ble_eq_true rfl) rfl (fun r z q => ?_)
  obtain ⟨rfl, e⟩ := q
  rw [e]
  refine ev_bipush dX10_append_29 ?_
  by_cases h3 : X1.length < 60
  rotate_left
  · skip
    refine ev_icmplt 44 dX10_append_31 (fun h_no => (by exfalso; omega)) (fun hb3 => ?_)
    exact ev_throw _ tk_4 (List.mem_of_getElem? (i := 16) rfl) dX10_append_34 dX10_append_37 dX10_append_38 dX10_append_40 dX10_append_43 rfl (Nat.le_of_ble_eq_true rfl) (Or.inr (Or.inl ⟨by omega, by omega, rfl, rfl⟩))
  refine ev_icmplt 44 dX10_append_31 (fun hb3 => ?_) (fun h_no => (by exfalso; omega))
  refine ev_aload_n dX10_append_44 rfl ?_
  refine ev_getrv dX10_append_45 fX10_12 hC.k0 hC.n0 rfl hC.v0_0 ?_
  refine ev_iload_n dX10_append_48 rfl ?_
  refine ev_cvr dX10_append_49 lX10_241 (s_appG (c := p) t1 (by omega) (by omega)) (by decide) hC.k1 hC.n1 rfl rfl rfl (Nat.le_of_ble_eq_true rfl) rfl (fun r h4 q => ?_)
  obtain ⟨er, b', M1, q1, q2⟩ := q
  have jq := j.t1 q2 q1 (by rw [List.length_append]; exact h3)
  obtain ⟨a5, K5, b5, M5, b6, M6, f5, j5⟩ := id jq
  have hC5 := j5.1.1.1
  have ts5 := q1.1
  rw [List.length_append] at ts5
  refine ev_pop dX10_append_52 ?_
  refine ev_aload_n dX10_append_53 rfl ?_
  refine ev_getrv dX10_append_54 fX10_12 hC5.k0 hC5.n0 rfl hC5.v0_0 ?_
  refine ev_cvi dX10_append_57 lX10_236 (s_J4len ts5) (by decide) hC5.k1 hC5.n1 rfl rfl rfl (Nat.le_of_ble_eq_true rfl) rfl (fun r z q => ?_)
  obtain ⟨er2, e⟩ := q
  rw [e, er2]
  exact ev_iret dX10_append_60 (Or.inr (Or.inr ⟨by omega, h3, by rw [show ((X1.length + [p].length : Nat) : Int) = (X1.length : Int) + 1 from rfl], jq⟩))
theorem s_readC3 {c : Nat → Int} {n : Nat} {L : List Nd} (hC : CI h) (hT : TXs h c n) (hz : ∀ j, n ≤ j → c j = 0) (hr : rd c n = (-1, L)) : CV mX8_read 7 [rv 5, rv 1] h (oa fun x h1 => x = (h.n : Int) ∧ KG h h1 [7] [(5, 3)] 10 (10 + 8 * (2 * n)) ∧ TmB h1 h.n h.n L ∧ CI h1) := cv_mono (s_readC2 hC hT hz hr) fun o h1 q => ⟨_, q.1, rfl, q.2⟩
set_option maxRecDepth 100000 in
theorem g_lesson (j : JC h a K v bv isS sv c pv w d cw cd X1 X3 b1 N1 b3 N3) (hv : VS v N LL kp) (hs : StI h a 31 N LL kp (v 1) (v 2)) (hg : -2147483648 ≤ v 1 + 1 ∧ v 1 + 1 ≤ 2147483647) : CV mX10_lesson 9 [rv 0] h (fun oo h1 => ((rd (cX X1) X1.length).1 ≠ -1 ∧ oo = xv 0 ∧ JQ (h.put 0 11 (rd (cX X1) X1.length).1) K N1 N3 1 6 v bv isS sv c pv w d cw cd [] X3 h1) ∨ ((rd (cX X1) X1.length).1 = -1 ∧ N = 6 ∧ oo = xv 1 ∧ JQ (h.put 0 11 (-1)) K N1 N3 2 9 v bv isS sv c pv 1 6 0 0 [] X3 h1) ∨ ((rd (cX X1) X1.length).1 = -1 ∧ N < 6 ∧ oo = iv (N : Int) ∧ JQ (h.put 0 11 (-1)) K N1 N3 13 1000 (leV v (cX X1) X1.length N) v isS sv (if c = 8 then 8 else c + 1) (pvN c pv v) w d cw cd [] X3 h1)) := by
  have hC := j.1.1.1
  have n94 := hC.1
  have n60 := j.2.2.2.2.1.2.2
  refine cv_of cdX10_lesson ?_
  show EV _ _ 0 [rv 0, uv] [] h _
  refine ev_aload_n dX10_lesson_0 rfl ?_
  refine ev_aload_n dX10_lesson_1 rfl ?_
  refine ev_getrv dX10_lesson_2 fX10_22 hC.k0 hC.n0 rfl hC.v0_2 ?_
  refine ev_aload_n dX10_lesson_5 rfl ?_
  refine ev_getrv dX10_lesson_6 fX10_12 hC.k0 hC.n0 rfl hC.v0_0 ?_
  refine ev_cvi dX10_lesson_9 lX10_69 (s_faultIn hC j.tx) (by decide) hC.k5 hC.n5 rfl rfl rfl (Nat.le_of_ble_eq_true rfl) rfl (fun r h1 q => ?_)
  obtain ⟨er, q1, q2⟩ := q
  refine ev_pt dX10_lesson_12 fX10_65 q2.k0 q2.n0 rfl ?_
  obtain ⟨fl, hfl⟩ : ∃ fl, fl = (rd (cX X1) X1.length).1 := ⟨_, rfl⟩
  rw [← hfl] at er ⊢
  rw [er]
  obtain ⟨h2, e2⟩ : ∃ h2, h2 = h1.put 0 11 fl := ⟨_, rfl⟩
  rw [← e2]
  have nn : h1.n = h.n := q1.1
  -- from h with the fault noted
  have j0 : JC (h.put 0 11 fl) a K v bv isS sv c pv w d cw cd X1 X3 b1 N1 b3 N3 := j.gf (C := fun x i => x = 0 ∧ i = 11) (GF.rf.pu (fun _ => ⟨rfl, rfl⟩)) (fun x i z => Or.inl z)
  have gc2 : GC (h.put 0 11 fl) h2 (fun x i => x = 6 ∨ (x = 5 ∧ i = 1)) 0 0 := by
    rw [e2]
    refine ⟨⟨Nat.le_of_eq nn.symm, fun x _ => congrFun q1.2.1 x, fun x i hx hn => ?_⟩, Nat.le_of_eq q1.2.2.1, Nat.le_of_eq q1.2.2.2.1⟩
    rw [AH.put_vl, AH.put_vl]
    by_cases z : x = 0 ∧ i = 11
    · rw [if_pos z, if_pos z]
    · rw [if_neg z, if_neg z]
      exact q1.2.2.2.2 x i (by simp; omega) (by simp; omega)
  have okj : ∀ x i, (x = 6 ∨ (x = 5 ∧ i = 1)) → OkJ x i := fun x i z => by
    rcases z with z | z
    · exact Or.inr (Or.inr (Or.inl z))
    · exact Or.inr (Or.inl ⟨z.1, Or.inl z.2⟩)
  have j2 := j0.gf gc2.1 okj
  have f2 : FrJ (h.put 0 11 fl) K N1 N3 h2 K N1 N3 0 0 := gc2.fj j0.1.1 (fun x i z => by omega)
  have hC2 := j2.1.1.1
  have fv : h2.vl 0 11 = fl := by rw [e2, AH.put_vl, if_pos ⟨rfl, rfl⟩]
  have hs2 : StI h2 a 31 N LL kp (v 1) (v 2) := by
    have ok1 : ∀ x i, (fun x i => x = 0 ∧ i = 11 : Nat → Nat → Prop) x i → OkC h x i := fun x i z => OkJ.okc (Or.inl z)
    have g1 : GF h (h.put 0 11 fl) (fun x i => x = 0 ∧ i = 11) := GF.rf.pu (fun _ => ⟨rfl, rfl⟩)
    have pp := (g1.pr ok1 j.1.1 j.1.2.2).tr (gc2.1.pr (fun x i z => (okj x i z).okc) j0.1.1 j0.1.2.2)
    have lo : ∀ x, 31 ≤ x → x ≤ 33 → h2.vl x = h.vl x := fun x h1 h2' => funext fun i => by
      rw [gc2.1.2.2 x i (by show x < h.n; omega) (fun z => by omega), AH.put_vl, if_neg (fun z => by omega)]
    exact hs.pr pp (lo _ (by decide) (by decide)) (lo _ (by decide) (by decide)) (lo _ (by decide) (by decide))
  have c2 := hs2.2.1.1
  refine ev_aload_n dX10_lesson_15 rfl ?_
  refine ev_getiv dX10_lesson_16 fX10_65 hC2.k0 hC2.n0 rfl fv ?_
  by_cases f0 : 0 ≤ fl
  · skip
    refine ev_iflt 40 dX10_lesson_19 (fun h_no => (by exfalso; omega)) (fun hb => ?_)
    refine ev_aload_n dX10_lesson_22 rfl ?_
    refine ev_getrv dX10_lesson_23 fX10_12 hC2.k0 hC2.n0 rfl hC2.v0_0 ?_
    refine ev_iconst dX10_lesson_26 ?_
    refine ev_cvv dX10_lesson_27 lX10_73 (s_empty j2) (by decide) hC2.k1 hC2.n1 rfl rfl rfl (Nat.le_of_ble_eq_true rfl) rfl (fun h3 q => ?_)
    exact ev_throw _ tk_0 (List.mem_of_getElem? (i := 0) rfl) dX10_lesson_30 dX10_lesson_33 dX10_lesson_34 dX10_lesson_36 dX10_lesson_39 rfl (Nat.le_of_ble_eq_true rfl) (Or.inl ⟨by omega, rfl, ((f2.jq q).wk (dc' := 0) (ds' := 0) (by omega) (by omega)).th⟩)
  have fm : fl = -1 := by
    have := rd_rng (c := cX X1) (n := X1.length)
    omega
  refine ev_iflt 40 dX10_lesson_19 (fun hb => ?_) (fun h_no => (by exfalso; omega))
  refine ev_aload_n dX10_lesson_40 rfl ?_
  refine ev_getrv dX10_lesson_41 fX10_48 hC2.k0 hC2.n0 rfl hC2.v0_6 ?_
  refine ev_getiv dX10_lesson_44 fX10_83 hC2.k31 hC2.n31 rfl c2 ?_
  refine ev_bipush dX10_lesson_47 ?_
  by_cases h6 : N = 6
  · skip
    refine ev_icmplt 78 dX10_lesson_49 (fun h_no => (by exfalso; omega)) (fun hb2 => ?_)
    refine ev_aload_n dX10_lesson_52 rfl ?_
    refine ev_getrv dX10_lesson_53 fX10_12 hC2.k0 hC2.n0 rfl hC2.v0_0 ?_
    refine ev_iconst dX10_lesson_56 ?_
    refine ev_cvv dX10_lesson_57 lX10_73 (s_empty j2) (by decide) hC2.k1 hC2.n1 rfl rfl rfl (Nat.le_of_ble_eq_true rfl) rfl (fun h3 q => ?_)
    obtain ⟨a3, K3, b5, M5, b6, M6, f3, j3⟩ := q
    have hC3 := j3.1.1.1
    refine ev_aload_n dX10_lesson_60 rfl ?_
    refine ev_iconst dX10_lesson_61 ?_
    refine ev_bipush dX10_lesson_62 ?_
    refine ev_cvi dX10_lesson_64 lX10_86 (s_refuseJ (x := 1) (y := 6) j3 (by decide)) (by decide) hC3.k0 hC3.n0 rfl rfl rfl (Nat.le_of_ble_eq_true rfl) rfl (fun r h4 q => ?_)
    refine ev_pop dX10_lesson_67 ?_
    exact ev_throw _ tk_1 (List.mem_of_getElem? (i := 1) rfl) dX10_lesson_68 dX10_lesson_71 dX10_lesson_72 dX10_lesson_74 dX10_lesson_77 rfl (Nat.le_of_ble_eq_true rfl) (Or.inr (Or.inl ⟨fm, h6, rfl, by rw [← fm]; exact (((f2.tr f3).jq q.2).wk (dc' := 1) (ds' := 3) (by omega) (by omega)).th⟩))
  have N9 : N ≤ 6 := hv.1.2.1
  have N6 : N < 6 := by omega
  refine ev_icmplt 78 dX10_lesson_49 (fun hb2 => ?_) (fun h_no => (by exfalso; omega))
  refine ev_aload_n dX10_lesson_78 rfl ?_
  refine ev_getrv dX10_lesson_79 fX10_52 hC2.k0 hC2.n0 rfl hC2.v0_7 ?_
  refine ev_aload_n dX10_lesson_82 rfl ?_
  refine ev_getrv dX10_lesson_83 fX10_48 hC2.k0 hC2.n0 rfl hC2.v0_6 ?_
  refine ev_cvv dX10_lesson_86 lX10_95 (s_befJ j2 hs2) (by decide) hC2.k34 hC2.n34 rfl rfl rfl (Nat.le_of_ble_eq_true rfl) rfl (fun h3 q => ?_)
  obtain ⟨f3, j3, s3⟩ := q
  have hC3 := j3.1.1.1
  have hr : rd (cX X1) X1.length = (-1, (rd (cX X1) X1.length).2) := by rw [← fm, hfl]
  refine ev_aload_n dX10_lesson_89 rfl ?_
  refine ev_getrv dX10_lesson_90 fX10_48 hC3.k0 hC3.n0 rfl hC3.v0_6 ?_
  refine ev_aload_n dX10_lesson_93 rfl ?_
  refine ev_getrv dX10_lesson_94 fX10_22 hC3.k0 hC3.n0 rfl hC3.v0_2 ?_
  refine ev_aload_n dX10_lesson_97 rfl ?_
  refine ev_getrv dX10_lesson_98 fX10_12 hC3.k0 hC3.n0 rfl hC3.v0_0 ?_
  refine ev_cvr dX10_lesson_101 lX10_99 (s_readC3 hC3 j3.tx cX_z hr) (by decide) hC3.k5 hC3.n5 rfl rfl rfl (Nat.le_of_ble_eq_true rfl) rfl (fun r4 h4 q => ?_)
  obtain ⟨er4, q4, q5, q6⟩ := q
  rw [er4]
  have g4 : GC h3 h4 (fun x i => x = 7 ∨ (x = 5 ∧ i = 3)) 10 (10 + 8 * (2 * X1.length)) := ⟨⟨q4.1, q4.2.2.2.1, fun x i hx hn => q4.2.2.2.2 x i hx (by simp; omega) (by simp; omega)⟩, q4.2.1, q4.2.2.1⟩
  have okj4 : ∀ x i, (x = 7 ∨ (x = 5 ∧ i = 3)) → OkJ x i := fun x i z => by
    rcases z with z | z
    · exact Or.inr (Or.inr (Or.inr (Or.inl z)))
    · exact Or.inr (Or.inl ⟨z.1, Or.inr z.2⟩)
  have j4 := j3.gf g4.1 okj4
  have tx4 := q5.x j3.1.1 g4.1 (fun x i z => (okj4 x i z).okc) j3.1.2.2
  have p34 := g4.1.pr (fun x i z => (okj4 x i z).okc) j3.1.1 j3.1.2.2
  have n3 := hC3.1
  have s4 : StI h4 a 31 N LL kp (v 1) (v 2) := s3.pr p34 (funext fun i => g4.1.2.2 31 i (by omega) (fun z => by omega)) (funext fun i => g4.1.2.2 32 i (by omega) (fun z => by omega)) (funext fun i => g4.1.2.2 33 i (by omega) (fun z => by omega))
  have f4 : FrJ h3 K N1 N3 h4 K N1 N3 10 (10 + 8 * (2 * X1.length)) := g4.fj j3.1.1 (fun x i z => by omega)
  have kt := tx4.l.t.o.1.1
  refine ev_cvi dX10_lesson_104 lX10_103 (s_give (x := h3.n) q6.st31 s4.2.1.1 N6 kt (by decide) s4.2.1.2.2.1 hg) (by decide) q6.k31 q6.n31 rfl rfl rfl (Nat.le_of_ble_eq_true rfl) rfl (fun r h5 q => ?_)
  obtain ⟨er5, q7⟩ := q
  have g5 : GC h4 h5 (fun x i => x = 32 ∨ (x = 31 ∧ (i = 2 ∨ i = 3))) 0 0 := by
    rw [q7]
    exact ⟨((GF.rf.pu (fun _ => Or.inl rfl)).pu (fun _ => Or.inr ⟨rfl, Or.inl rfl⟩)).pu (fun _ => Or.inr ⟨rfl, Or.inr rfl⟩), Nat.le_refl _, Nat.le_refl _⟩
  have okt5 : ∀ x i, (x = 32 ∨ (x = 31 ∧ (i = 2 ∨ i = 3))) → OkT x i := fun x i z => ⟨by omega, by omega, fun _ => by omega⟩
  have p45 := g5.1.pr (fun x i z => (okt5 x i z).okc) j4.1.1 j4.1.2.2
  have n4 := q6.1
  have v5 : ∀ x i, ¬ (x = 32 ∨ (x = 31 ∧ (i = 2 ∨ i = 3))) → x < h4.n → h5.vl x i = h4.vl x i := fun x i hn hx => g5.1.2.2 x i hx hn
  have lv : leV v (cX X1) X1.length N 1 = v 1 + 1 ∧ leV v (cX X1) X1.length N 2 = v 2 := by
    unfold leV leW
    refine ⟨rfl, ?_⟩
    rw [if_neg (by decide), if_neg (by decide), if_neg (by omega), if_neg (by omega)]
  have hC5 : CI h5 := (j4.1.1.gf g5.1 (fun x i z => (okt5 x i z).okc)).1
  have w32 : ∀ k, h5.vl 32 k = if k = N then (h3.n : Int) else h4.vl 32 k := fun k => by
    rw [q7, AH.put_vl, if_neg (fun z => absurd z.1 (by decide)), AH.put_vl, if_neg (fun z => absurd z.1 (by decide)), AH.put_vl]
    by_cases z : k = N
    · rw [if_pos ⟨rfl, z⟩, if_pos z]
    · rw [if_neg (fun y => z y.2), if_neg z]
  have news : SvR h5 a 31 (leV v (cX X1) X1.length N) := by
    refine ⟨N + 1, _, kp, vs_le hv N6 n60 hr, ?_⟩
    obtain ⟨d0, ⟨d1, d2, d3, d4⟩, u3, u4, u5⟩ := s4
    refine ⟨hC5.st31, ⟨?_, by omega, ?_, ?_⟩, fun k hk => ?_, fun k h1 h2' => ?_, u5.pr p45 (fun k _ => v5 33 k (by omega) (by omega))⟩
    · rw [q7, AH.put_vl, if_neg (fun z => absurd z.2 (by decide)), AH.put_vl, if_pos ⟨rfl, rfl⟩]
      rfl
    · rw [lv.1, q7, AH.put_vl, if_pos ⟨rfl, rfl⟩]
    · rw [lv.2, v5 31 4 (by omega) (by omega)]
      exact d4
    · show ∃ t : Nat, h5.vl 32 k = _ ∧ _
      rw [w32 k]
      by_cases z : k < N
      · obtain ⟨t', y1, y2⟩ := u3 k z
        simp only [if_pos z]
        exact ⟨t', by rw [if_neg (by omega)]; exact y1, y2.pr p45⟩
      · simp only [if_neg z]
        exact ⟨h3.n, by rw [if_pos (by omega)], tx4.pr p45⟩
    · show h5.vl 32 k = -1
      rw [w32 k, if_neg (by omega)]
      exact u4 k (by omega) h2'
  have jq5 := j4.nw g5 (fun x i z => by omega) news
  obtain ⟨a5, K5, b5, M5, b6, M6, f5, j5⟩ := jq5
  have hC5' := j5.1.1.1
  rw [er5]
  refine ev_ist1 dX10_lesson_107 ?_
  refine ev_aload_n dX10_lesson_108 rfl ?_
  refine ev_getrv dX10_lesson_109 fX10_12 hC5'.k0 hC5'.n0 rfl hC5'.v0_0 ?_
  refine ev_iconst dX10_lesson_112 ?_
  refine ev_cvv dX10_lesson_113 lX10_73 (s_empty j5) (by decide) hC5'.k1 hC5'.n1 rfl rfl rfl (Nat.le_of_ble_eq_true rfl) rfl (fun h6 q => ?_)
  obtain ⟨a6, K6, b7, M7, b8, M8, f6, j6⟩ := q
  have hC6 := j6.1.1.1
  refine ev_aload_n dX10_lesson_116 rfl ?_
  refine ev_getrv dX10_lesson_117 fX10_61 hC6.k0 hC6.n0 rfl hC6.v0_9 ?_
  refine ev_aload_n dX10_lesson_120 rfl ?_
  refine ev_getrv dX10_lesson_121 fX10_52 hC6.k0 hC6.n0 rfl hC6.v0_7 ?_
  refine ev_cvv dX10_lesson_124 lX10_107 (s_pushJ j6) (by decide) hC6.k40 hC6.n40 rfl rfl rfl (Nat.le_of_ble_eq_true rfl) rfl (fun h7 q => ?_)
  refine ev_iload_n dX10_lesson_127 rfl ?_
  exact ev_iret dX10_lesson_128 (Or.inr (Or.inr ⟨fm, N6, rfl, by rw [← fm]; exact (((((f2.tr f3).tr f4).tr f5).tr f6).jq q).wk (by omega) (by omega)⟩))
end Txt
