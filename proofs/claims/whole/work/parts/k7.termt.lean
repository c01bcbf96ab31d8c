/-! the class: a term is told -/
theorem nd_let {L : List Nd} (hnd : ∀ x ∈ L, ndOK x) {e : Nat} (he : e < L.length) : (TBL L 57 e ≠ 6 → 43 ≤ TBL L 58 e ∧ TBL L 58 e ≤ 122) ∧ 0 ≤ TBL L 57 e ∧ TBL L 57 e ≤ 6 := by
  obtain ⟨e1, e2, e3⟩ := TBL_own he
  have hm : L.getD e (0, 0, 0) ∈ L := by
    rw [List.getD_eq_getElem?_getD, List.getElem?_eq_getElem he]
    exact List.getElem_mem _
  have := (hnd _ hm).1
  rw [← e1, ← e2] at this
  omega
section Wrt2
variable {t b N : Nat} {L : List Nd} {h0 : AH} {b0 N0 : Nat} {X0 : List Int} {Q : AV → AH → Prop}
set_option maxRecDepth 100000 in
theorem tw_open {h : AH} {e : Nat} {Y : List Int} {v3 : AV} (g0 : TmL h0 t L) (t0 : TbI h0 3 b0 N0 X0) (hnd : ∀ x ∈ L, ndOK x) (he : e < L.length) (h4 : 4 ≤ TBL L 57 e) (ht : TbI h 3 b N (X0 ++ Y)) (hq : SbQ h0 3 b0 N0 h b N) (hX : (X0 ++ Y).length ≤ 1000)
    (K : ∀ (h1 : AH) (b1 N1 : Nat) (v3 : AV), TbI h1 3 b1 N1 (X0 ++ (Y ++ tmO L e)) → SbQ h0 3 b0 N0 h1 b1 N1 → EV mX7_write 7 112 [rv t, rv 3, iv (e : Int), v3] [] h1 Q) : EV mX7_write 7 2 [rv t, rv 3, iv (e : Int), v3] [] h Q := by
  have g := g0.sb t0 hq
  obtain ⟨⟨ka, na⟩, hcnt⟩ := g.t.o
  have ta := ht.1.1
  obtain ⟨nl, nk⟩ := nd_let hnd he
  have eO : tmO L e = (if 0 < e then [40] else []) ++ (if TBL L 57 e = 6 then [] else if TBL L 57 e = 4 then [94, TBL L 58 e, 46] else [33, TBL L 58 e, 61]) := by rw [tmO, if_neg (by omega)]
  rw [eO] at K
  -- behind the bracket
  have p32 : ∀ (h1 : AH) (b1 N1 : Nat) (Z : List Int), TbI h1 3 b1 N1 (X0 ++ (Y ++ Z)) → SbQ h0 3 b0 N0 h1 b1 N1 → Z.length ≤ 1 → Z = (if 0 < e then [40] else []) → EV mX7_write 7 32 [rv t, rv 3, iv (e : Int), iv (TBL L 57 e)] [] h1 Q := by
    intro h1 b1 N1 Z t1 q1 lz hZ
    have g1 := g0.sb t0 q1
    obtain ⟨⟨ka1, na1⟩, -⟩ := g1.t.o
    have ta1 := t1.1.1
    have lx : (X0 ++ (Y ++ Z)).length ≤ 1001 := by rw [List.length_append, List.length_append]; rw [List.length_append] at hX; omega
    rw [← hZ] at K
    by_cases c6 : TBL L 57 e = 6
    · rw [if_pos c6, List.append_nil] at K
      refine ev_iload_n dX7_write_32 rfl ?_
      refine ev_iconst dX7_write_33 ?_
      refine ev_icmpge 59 dX7_write_34 (fun hb => ?_) (fun h_no => (by exfalso; omega))
      refine ev_iload_n dX7_write_59 rfl ?_
      refine ev_bipush dX7_write_60 ?_
      refine ev_icmpeq 112 dX7_write_62 (fun hb2 => ?_) (fun h_no => (by exfalso; omega))
      exact K h1 b1 N1 _ t1 q1
    rw [if_neg c6] at K
    obtain ⟨l1, l2⟩ := nl c6
    -- three letters
    have three : ∀ (x y z : Int), (0 ≤ x ∧ x ≤ 127) → (0 ≤ z ∧ z ≤ 127) → (∀ (h2 : AH) (b2 N2 : Nat), TbI h2 3 b2 N2 (X0 ++ (Y ++ (Z ++ [x, TBL L 58 e]))) → SbQ h0 3 b0 N0 h2 b2 N2 → EV mX7_write 7 95 [rv t, rv 3, iv (e : Int), iv (TBL L 57 e)] [] h2 Q) → EV mX7_write 7 78 [rv t, rv 3, iv (e : Int), iv (TBL L 57 e)] [iv x, rv 3] h1 Q := by
      intro x y z hx hz KK
      refine ev_cvr dX7_write_78 lX7_43 (s_appG t1 (by omega) hx) (by decide) ta1.1 ta1.2 rfl rfl rfl (Nat.le_of_ble_eq_true rfl) rfl (fun r3 h3 q9 => ?_)
      obtain ⟨-, b3, N3, t3, q3⟩ := q9
      have q3' := q1.tr q3
      have g3 := g0.sb t0 q3'
      obtain ⟨⟨ka3, na3⟩, -⟩ := g3.t.o
      have ta3 := t3.1.1
      refine ev_pop dX7_write_81 ?_
      refine ev_aload_n dX7_write_82 rfl ?_
      refine ev_aload_n dX7_write_83 rfl ?_
      refine ev_bipush dX7_write_84 ?_
      refine ev_iload_n dX7_write_86 rfl ?_
      refine ev_cvi dX7_write_87 lX7_32 (s_ofL (k := 6) (j := e) g3 (by decide) he) (by decide) ka3 na3 rfl rfl rfl (Nat.le_of_ble_eq_true rfl) rfl (fun r z q => ?_)
      obtain ⟨er, eq⟩ := q
      rw [show colC 6 = 58 from rfl] at er
      rw [eq, er]
      refine ev_i2c dX7_write_90 ?_
      rw [show TBL L 58 e % 65536 = TBL L 58 e by omega]
      refine ev_cvr dX7_write_91 lX7_43 (s_appG t3 (by rw [List.length_append]; show _ + 1 ≤ 1400; omega) (show 0 ≤ TBL L 58 e ∧ TBL L 58 e ≤ 127 by omega)) (by decide) ta3.1 ta3.2 rfl rfl rfl (Nat.le_of_ble_eq_true rfl) rfl (fun r4 h4 q9 => ?_)
      obtain ⟨-, b4, N4, t4, q4⟩ := q9
      refine ev_pop dX7_write_94 ?_
      refine KK h4 b4 N4 ?_ (q3'.tr q4)
      simp only [List.append_assoc, List.cons_append, List.nil_append] at t4 ⊢
      exact t4
    have last : ∀ (h2 : AH) (b2 N2 : Nat) (x z : Int), (0 ≤ z ∧ z ≤ 127) → TbI h2 3 b2 N2 (X0 ++ (Y ++ (Z ++ [x, TBL L 58 e]))) → SbQ h0 3 b0 N0 h2 b2 N2 → (∀ (h3 : AH) (b3 N3 : Nat), TbI h3 3 b3 N3 (X0 ++ (Y ++ (Z ++ [x, TBL L 58 e, z]))) → SbQ h0 3 b0 N0 h3 b3 N3 → EV mX7_write 7 112 [rv t, rv 3, iv (e : Int), iv (TBL L 57 e)] [] h3 Q) → EV mX7_write 7 108 [rv t, rv 3, iv (e : Int), iv (TBL L 57 e)] [iv z, rv 3] h2 Q := by
      intro h2 b2 N2 x z hz t2 q2 KK
      have ta2 := t2.1.1
      refine ev_cvr dX7_write_108 lX7_43 (s_appG t2 (by rw [List.length_append, List.length_append, List.length_append]; rw [List.length_append, List.length_append] at lx; show _ + (_ + (_ + 2)) ≤ 1400; omega) hz) (by decide) ta2.1 ta2.2 rfl rfl rfl (Nat.le_of_ble_eq_true rfl) rfl (fun r3 h3 q9 => ?_)
      obtain ⟨-, b3, N3, t3, q3⟩ := q9
      refine ev_pop dX7_write_111 ?_
      refine KK h3 b3 N3 ?_ (q2.tr q3)
      simp only [List.append_assoc, List.cons_append, List.nil_append] at t3 ⊢
      exact t3
    refine ev_iload_n dX7_write_32 rfl ?_
    refine ev_iconst dX7_write_33 ?_
    refine ev_icmpge 59 dX7_write_34 (fun hb => ?_) (fun h_no => (by exfalso; omega))
    refine ev_iload_n dX7_write_59 rfl ?_
    refine ev_bipush dX7_write_60 ?_
    refine ev_icmpeq 112 dX7_write_62 (fun h_no => (by exfalso; omega)) (fun hb2 => ?_)
    refine ev_aload_n dX7_write_65 rfl ?_
    refine ev_iload_n dX7_write_66 rfl ?_
    refine ev_iconst dX7_write_67 ?_
    by_cases c4 : TBL L 57 e = 4
    · skip
      rw [if_pos c4] at K
      refine ev_icmpne 76 dX7_write_68 (fun h_no => (by exfalso; omega)) (fun hb3 => ?_)
      refine ev_bipush dX7_write_71 ?_
      refine ev_gt 78 dX7_write_73 ?_
      refine three 94 0 46 (by decide) (by decide) (fun h2 b2 N2 t2 q2 => ?_)
      have ta2 := t2.1.1
      refine ev_aload_n dX7_write_95 rfl ?_
      refine ev_iload_n dX7_write_96 rfl ?_
      refine ev_iconst dX7_write_97 ?_
      refine ev_icmpne 106 dX7_write_98 (fun h_no => (by exfalso; omega)) (fun hb4 => ?_)
      refine ev_bipush dX7_write_101 ?_
      refine ev_gt 108 dX7_write_103 ?_
      refine last h2 b2 N2 94 46 (by decide) t2 q2 (fun h3 b3 N3 t3 q3 => ?_)
      exact K h3 b3 N3 _ t3 q3
    rw [if_neg c4] at K
    refine ev_icmpne 76 dX7_write_68 (fun hb3 => ?_) (fun h_no => (by exfalso; omega))
    refine ev_bipush dX7_write_76 ?_
    refine three 33 0 61 (by decide) (by decide) (fun h2 b2 N2 t2 q2 => ?_)
    have ta2 := t2.1.1
    refine ev_aload_n dX7_write_95 rfl ?_
    refine ev_iload_n dX7_write_96 rfl ?_
    refine ev_iconst dX7_write_97 ?_
    refine ev_icmpne 106 dX7_write_98 (fun hb4 => ?_) (fun h_no => (by exfalso; omega))
    refine ev_bipush dX7_write_106 ?_
    refine last h2 b2 N2 33 61 (by decide) t2 q2 (fun h3 b3 N3 t3 q3 => ?_)
    exact K h3 b3 N3 _ t3 q3
  refine ev_iload_n dX7_write_2 rfl ?_
  refine ev_aload_n dX7_write_3 rfl ?_
  refine ev_getiv dX7_write_4 fX7_16 ka na rfl hcnt ?_
  refine ev_icmpge 118 dX7_write_7 (fun h_no => (by exfalso; omega)) (fun hb => ?_)
  refine ev_aload_n dX7_write_10 rfl ?_
  refine ev_iconst dX7_write_11 ?_
  refine ev_iload_n dX7_write_12 rfl ?_
  refine ev_cvi dX7_write_13 lX7_32 (s_ofL (k := 0) (j := e) g (by decide) he) (by decide) ka na rfl rfl rfl (Nat.le_of_ble_eq_true rfl) rfl (fun r z q => ?_)
  obtain ⟨er, eq⟩ := q
  rw [show colC 0 = 57 from rfl] at er
  rw [eq, er]
  refine ev_ist3 dX7_write_16 ?_
  refine ev_aload_n dX7_write_17 rfl ?_
  refine ev_iload_n dX7_write_18 rfl ?_
  refine ev_cvi dX7_write_19 lX7_40 (s_isBr (e := e) g he) (by decide) ka na rfl rfl rfl (Nat.le_of_ble_eq_true rfl) rfl (fun r z q => ?_)
  obtain ⟨er, eq⟩ := q
  rw [eq, er]
  by_cases c : 0 < e
  · skip
    rw [if_pos ⟨c, h4⟩]
    refine ev_ifeq 32 dX7_write_22 (fun h_no => (by exfalso; omega)) (fun hb2 => ?_)
    refine ev_aload_n dX7_write_25 rfl ?_
    refine ev_bipush dX7_write_26 ?_
    refine ev_cvr dX7_write_28 lX7_43 (s_appG ht (by omega) (c := 40) (by decide)) (by decide) ta.1 ta.2 rfl rfl rfl (Nat.le_of_ble_eq_true rfl) rfl (fun r3 h3 q9 => ?_)
    obtain ⟨-, b3, N3, t3, q3⟩ := q9
    refine ev_pop dX7_write_31 ?_
    exact p32 h3 b3 N3 [40] (by rw [List.append_assoc] at t3; exact t3) (hq.tr q3) (by decide) (by rw [if_pos c])
  rw [if_neg (fun z => c z.1)]
  refine ev_ifeq 32 dX7_write_22 (fun hb2 => ?_) (fun h_no => (by exfalso; omega))
  exact p32 h b N [] (by rw [List.append_nil]; exact ht) hq (by decide) (by rw [if_neg c])
set_option maxRecDepth 100000 in
theorem tw_tree (g0 : TmL h0 t L) (t0 : TbI h0 3 b0 N0 X0) (hnd : ∀ x ∈ L, ndOK x) (hL9 : L.length ≤ 119) :
    ∀ (T : TE) (f : Nat) (pre D post : List Nd) (Y : List Int) (h : AH) (b N : Nat) (v3 : AV), ht T ≤ f → L = pre ++ (D ++ post) → shT T D → TbI h 3 b N (X0 ++ Y) → SbQ h0 3 b0 N0 h b N → (X0 ++ (Y ++ (tmX L f pre.length ++ enF L 130 pre.length))).length ≤ 1000 →
    (∀ (h1 : AH) (b1 N1 : Nat) (v3 : AV), TbI h1 3 b1 N1 (X0 ++ (Y ++ (tmX L f pre.length ++ enF L 130 pre.length))) → SbQ h0 3 b0 N0 h1 b1 N1 → EV mX7_write 7 2 [rv t, rv 3, iv ((pre.length + D.length : Nat) : Int), v3] [] h1 Q) →
    EV mX7_write 7 2 [rv t, rv 3, iv (pre.length : Int), v3] [] h Q
  | T, 0, pre, D, post, Y, h, b, N, v3, hf, _, _, _, _, _, _ => by cases T <;> exact absurd hf (by simp [ht])
  | .var v, f + 1, pre, D, post, Y, h, b, N, v3, hf, hL, hsh, ht, hq, hX, K => by
    obtain ⟨x, hD, hx⟩ := hsh
    have k57 : TBL L 57 pre.length = x.1 := by rw [hL]; exact (TBL_nd hD).1
    have hlen : D.length = 1 := by rw [hD]; rfl
    have he : pre.length < L.length := by rw [hL, List.length_append, List.length_append]; omega
    obtain ⟨e, ee⟩ : ∃ e, e = pre.length := ⟨_, rfl⟩
    rw [hlen] at K
    rw [← ee] at k57 he hX K ⊢
    have tX : tmX L (f + 1) e = [TBL L 58 e] := by rw [tmX, tmO, if_pos (by omega), if_pos (by omega)]; rfl
    rw [tX] at hX K
    have g := g0.sb t0 hq
    obtain ⟨⟨ka, na⟩, hcnt⟩ := g.t.o
    have ta := ht.1.1
    obtain ⟨nl, nk⟩ := nd_let hnd he
    obtain ⟨l1, l2⟩ := nl (by omega)
    have lx : (X0 ++ Y).length + (1 + (enF L 130 e).length) ≤ 1000 := by
      rw [List.length_append, List.length_append, List.length_append] at hX
      rw [List.length_append]
      have : [TBL L 58 e].length = 1 := rfl
      omega
    refine ev_iload_n dX7_write_2 rfl ?_
    refine ev_aload_n dX7_write_3 rfl ?_
    refine ev_getiv dX7_write_4 fX7_16 ka na rfl hcnt ?_
    refine ev_icmpge 118 dX7_write_7 (fun h_no => (by exfalso; omega)) (fun hb => ?_)
    refine ev_aload_n dX7_write_10 rfl ?_
    refine ev_iconst dX7_write_11 ?_
    refine ev_iload_n dX7_write_12 rfl ?_
    refine ev_cvi dX7_write_13 lX7_32 (s_ofL (k := 0) (j := e) g (by decide) he) (by decide) ka na rfl rfl rfl (Nat.le_of_ble_eq_true rfl) rfl (fun r z q => ?_)
    obtain ⟨er, eq⟩ := q
    rw [show colC 0 = 57 from rfl] at er
    rw [eq, er]
    refine ev_ist3 dX7_write_16 ?_
    refine ev_aload_n dX7_write_17 rfl ?_
    refine ev_iload_n dX7_write_18 rfl ?_
    refine ev_cvi dX7_write_19 lX7_40 (s_isBr (e := e) g he) (by decide) ka na rfl rfl rfl (Nat.le_of_ble_eq_true rfl) rfl (fun r z q => ?_)
    obtain ⟨er, eq⟩ := q
    rw [eq, er, if_neg (fun z => by omega)]
    refine ev_ifeq 32 dX7_write_22 (fun hb2 => ?_) (fun h_no => (by exfalso; omega))
    refine ev_iload_n dX7_write_32 rfl ?_
    refine ev_iconst dX7_write_33 ?_
    refine ev_icmpge 59 dX7_write_34 (fun h_no => (by exfalso; omega)) (fun hb3 => ?_)
    refine ev_aload_n dX7_write_37 rfl ?_
    refine ev_aload_n dX7_write_38 rfl ?_
    refine ev_bipush dX7_write_39 ?_
    refine ev_iload_n dX7_write_41 rfl ?_
    refine ev_cvi dX7_write_42 lX7_32 (s_ofL (k := 6) (j := e) g (by decide) he) (by decide) ka na rfl rfl rfl (Nat.le_of_ble_eq_true rfl) rfl (fun r z q => ?_)
    obtain ⟨er, eq⟩ := q
    rw [show colC 6 = 58 from rfl] at er
    rw [eq, er]
    refine ev_i2c dX7_write_45 ?_
    rw [show TBL L 58 e % 65536 = TBL L 58 e by omega]
    refine ev_cvr dX7_write_46 lX7_43 (s_appG ht (by omega) (show 0 ≤ TBL L 58 e ∧ TBL L 58 e ≤ 127 by omega)) (by decide) ta.1 ta.2 rfl rfl rfl (Nat.le_of_ble_eq_true rfl) rfl (fun r3 h3 q9 => ?_)
    obtain ⟨-, b3, N3, t3, q3⟩ := q9
    have q3' := hq.tr q3
    have g3 := g0.sb t0 q3'
    obtain ⟨⟨ka3, na3⟩, -⟩ := g3.t.o
    have ta3 := t3.1.1
    refine ev_pop dX7_write_49 ?_
    refine ev_aload_n dX7_write_50 rfl ?_
    refine ev_iload_n dX7_write_51 rfl ?_
    refine ev_aload_n dX7_write_52 rfl ?_
    refine ev_cvv dX7_write_53 lX7_49 (s_writeEnds (e := e) g3 t3 he hL9 (by rw [List.length_append, List.length_append]; show _ + 1 + _ ≤ 1000; omega)) (by decide) ka3 na3 rfl rfl rfl (Nat.le_of_ble_eq_true rfl) rfl (fun h4 q9 => ?_)
    obtain ⟨b4, N4, t4, q4⟩ := q9
    refine ev_gt 112 dX7_write_56 ?_
    refine ev_iin2 dX7_write_112 (by unfold ir; omega) ?_
    refine ev_gt 2 dX7_write_115 ?_
    rw [show (e : Int) + 1 = ((e + 1 : Nat) : Int) by omega]
    refine K h4 b4 N4 _ ?_ (q3'.tr q4)
    simp only [List.append_assoc, List.cons_append, List.nil_append] at t4 ⊢
    exact t4
  | .op T1 T2, f + 1, pre, D, post, Y, h, b, N, v3, hf, hL, hsh, ht, hq, hX, K => by
    have ht12 : Jvm.Pilot.CTypeTutorLaw_law_r5892_92ab9d.ht T1 ≤ f ∧ Jvm.Pilot.CTypeTutorLaw_law_r5892_92ab9d.ht T2 ≤ f := by simp only [Jvm.Pilot.CTypeTutorLaw_law_r5892_92ab9d.ht] at hf; omega
    have lDL : pre.length + D.length ≤ L.length := by rw [hL, List.length_append, List.length_append]; omega
    have c41 : ∀ e : Nat, (if 0 < e then [(41 : Int)] else []).length ≤ 1 := fun e => by split <;> decide
    rcases hsh with ⟨x, D1, hD, hx, s1⟩ | ⟨x, D1, D2, hD, hx, s1, s2⟩
    · have k57 : TBL L 57 pre.length = 4 := by rw [hL, ← hx]; exact (TBL_nd hD).1
      have k59 : TBL L 59 pre.length = ((pre.length + 1 : Nat) : Int) := by rw [hL]; exact TBL_f hD (sh_ne s1) (by rw [hx]; decide)
      have k60 : TBL L 60 pre.length = -1 := by rw [hL]; exact TBL_f60 hD hx s1
      have k61 : TBL L 61 (pre.length + 1) = (pre.length : Int) := by rw [hL]; exact TBL_61f hD (sh_ne s1) (by rw [hx]; decide)
      have kf : fstN L pre.length = pre.length + 1 := by rw [fstN, k59]; rfl
      have hL1 : L = (pre ++ [x]) ++ (D1 ++ post) := by rw [hL, hD]; simp
      have el : (pre ++ [x]).length = pre.length + 1 := by simp
      have hlD : D.length = D1.length + 1 := by rw [hD, List.length_cons]
      have he : pre.length < L.length := by omega
      obtain ⟨e, ee⟩ : ∃ e, e = pre.length := ⟨_, rfl⟩
      rw [← ee] at k57 k60 k61 kf he hX K el lDL ⊢
      have e1 : enF L 130 (e + 1) = (if 0 < e then [41] else []) ++ enF L 130 e := by
        rw [enF_st 130 131 (e + 1) (by omega) (by omega) (by have := List.length_pos_iff.mpr (sh_ne s1); omega), enF, k61, if_neg (by omega), show ((e : Nat) : Int).toNat = e from rfl, k60, if_neg (by omega), k57]
        by_cases c : 0 < e
        · rw [if_pos ⟨c, by decide⟩, if_pos c]
        · rw [if_neg (fun z => c z.1), if_neg c]
      have tX : tmX L (f + 1) e = tmO L e ++ (tmX L f (e + 1) ++ (if 0 < e then [41] else [])) := by
        rw [tmX, if_neg (by omega), if_neg (by omega), if_pos k57, kf]
      have tt : tmX L (f + 1) e ++ enF L 130 e = tmO L e ++ (tmX L f (e + 1) ++ enF L 130 (e + 1)) := by
        rw [tX, e1]
        simp only [List.append_assoc]
      rw [tt] at hX K
      refine tw_open g0 t0 hnd he (by omega) ht hq (by rw [← List.append_assoc, List.length_append] at hX; omega) (fun h1 b1 N1 v3 t1 q1 => ?_)
      refine ev_iin2 dX7_write_112 (by unfold ir; omega) ?_
      refine ev_gt 2 dX7_write_115 ?_
      rw [show (e : Int) + 1 = ((e + 1 : Nat) : Int) by omega, ← el]
      refine tw_tree g0 t0 hnd hL9 T1 f (pre ++ [x]) D1 post (Y ++ tmO L e) h1 b1 N1 v3 ht12.1 hL1 s1 t1 q1 (by rw [el, List.append_assoc]; exact hX) (fun h2 b2 N2 v3 t2 q2 => ?_)
      rw [el] at t2 ⊢
      rw [show e + 1 + D1.length = e + D.length by omega]
      exact K h2 b2 N2 v3 (by rw [List.append_assoc] at t2; exact t2) q2
    · have hx2 : arN x.1 = 2 := by rw [arN, if_neg (by omega), if_neg (by omega)]
      have k57 : TBL L 57 pre.length = x.1 := by rw [hL]; exact (TBL_nd hD).1
      have k59 : TBL L 59 pre.length = ((pre.length + 1 : Nat) : Int) := by rw [hL]; exact TBL_f hD (by simp; exact fun z => absurd z (sh_ne s1)) (by omega)
      have k60 : TBL L 60 pre.length = ((pre.length + 1 + D1.length : Nat) : Int) := by rw [hL, hD]; exact TBL_60 hx2 s1 s2
      have k61 : TBL L 61 (pre.length + 1) = (pre.length : Int) := by rw [hL]; exact TBL_61f hD (by simp; exact fun z => absurd z (sh_ne s1)) (by omega)
      have k62 : TBL L 61 (pre.length + 1 + D1.length) = (pre.length : Int) := by rw [hL, hD]; exact TBL_61s hx2 s1 s2
      have kf : fstN L pre.length = pre.length + 1 := by rw [fstN, k59]; rfl
      have ks : sndN L pre.length = pre.length + 1 + D1.length := by rw [sndN, k60]; rfl
      have hL1 : L = (pre ++ [x]) ++ (D1 ++ (D2 ++ post)) := by rw [hL, hD]; simp
      have el : (pre ++ [x]).length = pre.length + 1 := by simp
      have hL2 : L = (pre ++ (x :: D1)) ++ (D2 ++ post) := by rw [hL, hD]; simp
      have el2 : (pre ++ (x :: D1)).length = pre.length + 1 + D1.length := by simp; omega
      have hlD : D.length = D1.length + D2.length + 1 := by rw [hD, List.length_cons, List.length_append]
      have p1 := List.length_pos_iff.mpr (sh_ne s1)
      have p2 := List.length_pos_iff.mpr (sh_ne s2)
      have he : pre.length < L.length := by omega
      obtain ⟨e, ee⟩ : ∃ e, e = pre.length := ⟨_, rfl⟩
      rw [← ee] at k57 k60 k61 k62 kf ks he hX K el el2 lDL ⊢
      have e1 : enF L 130 (e + 1) = (if TBL L 57 e = 5 then [59] else []) := by
        rw [enF_st 130 131 (e + 1) (by omega) (by omega) (by omega), enF, k61, if_neg (by omega), show ((e : Nat) : Int).toNat = e from rfl, k60, if_pos (by omega)]
      have e2 : enF L 130 (e + 1 + D1.length) = (if 0 < e then [41] else []) ++ enF L 130 e := by
        rw [enF_st 130 131 (e + 1 + D1.length) (by omega) (by omega) (by omega), enF, k62, if_neg (by omega), show ((e : Nat) : Int).toNat = e from rfl, k60, if_neg (by omega)]
        by_cases c : 0 < e
        · rw [if_pos ⟨c, by omega⟩, if_pos c]
        · rw [if_neg (fun z => c z.1), if_neg c]
      have tt : tmX L (f + 1) e ++ enF L 130 e = tmO L e ++ ((tmX L f (e + 1) ++ enF L 130 (e + 1)) ++ (tmX L f (e + 1 + D1.length) ++ enF L 130 (e + 1 + D1.length))) := by
        rw [tmX, if_neg (by omega), kf, ks, e1, e2]
        by_cases c : TBL L 57 e = 6
        · have n5 : ¬ TBL L 57 e = 5 := by omega
          rw [if_pos c, if_neg n5]
          simp only [List.append_assoc, List.nil_append]
        · have n4 : ¬ TBL L 57 e = 4 := by omega
          have p5 : TBL L 57 e = 5 := by omega
          rw [if_neg c, if_neg n4, if_pos p5]
          simp only [List.append_assoc, List.cons_append, List.nil_append]
      rw [tt] at hX K
      have hX1 : (X0 ++ (Y ++ tmO L e ++ (tmX L f (e + 1) ++ enF L 130 (e + 1)))).length ≤ 1000 := by
        refine Nat.le_trans ?_ hX
        simp only [List.length_append]
        omega
      refine tw_open g0 t0 hnd he (by omega) ht hq (by rw [← List.append_assoc, List.length_append] at hX; omega) (fun h1 b1 N1 v3 t1 q1 => ?_)
      refine ev_iin2 dX7_write_112 (by unfold ir; omega) ?_
      refine ev_gt 2 dX7_write_115 ?_
      rw [show (e : Int) + 1 = ((e + 1 : Nat) : Int) by omega, ← el]
      refine tw_tree g0 t0 hnd hL9 T1 f (pre ++ [x]) D1 (D2 ++ post) (Y ++ tmO L e) h1 b1 N1 v3 ht12.1 hL1 s1 t1 q1 (by rw [el]; exact hX1) (fun h2 b2 N2 v3 t2 q2 => ?_)
      rw [el] at t2 ⊢
      rw [← el2]
      refine tw_tree g0 t0 hnd hL9 T2 f (pre ++ (x :: D1)) D2 post (Y ++ tmO L e ++ (tmX L f (e + 1) ++ enF L 130 (e + 1))) h2 b2 N2 v3 ht12.2 hL2 s2 t2 q2 (by rw [el2]; simp only [List.append_assoc] at hX ⊢; exact hX) (fun h3 b3 N3 v3 t3 q3 => ?_)
      rw [el2] at t3 ⊢
      rw [show e + 1 + D1.length + D2.length = e + D.length by omega]
      exact K h3 b3 N3 v3 (by simp only [List.append_assoc] at t3 ⊢; exact t3) q3
end Wrt2
theorem TbI.set0 {h h1 : AH} {c b B : Nat} {X : List Int} (t : TbI h c b B X) (q1 : KS h h1 [] [(c, 2), (c, 3)]) (q2 : h1.vl c 3 = 0) : TbI h1 c b B [] ∧ SbQ h c b B h1 b B := by
  obtain ⟨⟨ka, an⟩, ⟨va, kb, bn⟩, hco, hk, h0, hN', h9⟩ := id t.1
  have t3 := t.2.2.2.2.2
  have v0 : h1.vl c 0 = h.vl c 0 := q1.2.2.2.2 c 0 (by simp) (by simp)
  have v1 : h1.vl c 1 = h.vl c 1 := q1.2.2.2.2 c 1 (by simp) (by simp)
  have vc : ∀ d, d ≠ c → h1.vl d = h.vl d := fun d hd => funext fun j => q1.2.2.2.2 d j (by simp) (by simp [hd])
  refine ⟨⟨⟨⟨by rw [q1.2.1]; exact ka, by rw [q1.1]; exact an⟩, ⟨by rw [v0]; exact va, by rw [q1.2.1]; exact kb, by rw [q1.1]; exact bn⟩, by rw [v1]; exact hco, q2, Int.le_refl _, Int.natCast_nonneg _, h9⟩, t.2.1, fun i hi => absurd hi (Nat.not_lt_zero _), fun j hj => ?_, fun x hx => absurd hx List.not_mem_nil, t3⟩, by rw [q1.1]; exact Nat.le_refl _, fun d _ => by rw [q1.2.1], fun d _ h3 _ => vc d h3, fun j _ j2 j3 => q1.2.2.2.2 c j (by simp) (by simp [j2, j3]), ⟨by rw [q1.2.2.1]; exact Nat.le_refl _, by rw [q1.2.2.2.1]; exact Nat.le_refl _, Nat.le_refl _⟩, Or.inl rfl⟩
  rw [vc b (fun z => t3 z.symm)]
  exact t.2.2.2.1 j hj
section TelT
variable {h : AH} {a K : Nat → Nat} {N : Nat} {tc : Nat → Nat} {LL : Nat → List Nd} {kp : Nat → Option TE} {p : Int} {b B t : Nat} {X : List Int} {L : List Nd}
set_option maxRecDepth 100000 in
theorem s_writeTm (g : TmL h t L) (w : TbI h 3 b B []) (o : LOk L) : CV mX7_write 7 [rv t, rv 3] h (on (ApQ h 3 b B [] (tmX L 130 0))) := by
  obtain ⟨⟨T0, o1, o2⟩, o3, o4, o5, o6⟩ := o
  have e0 : enF L 130 0 = [] := by rw [enF, TBL_610 o5, if_pos (by decide)]
  have tl := tm_len L T0 130 [] L [] o2 (by rw [List.append_nil]; rfl) o1
  rw [show ([] : List Nd).length = 0 from rfl] at tl
  refine cv_of cdX7_write ?_
  show EV _ _ 0 [rv t, rv 3, uv, uv] [] h _
  refine ev_iconst dX7_write_0 ?_
  refine ev_ist2 dX7_write_1 ?_
  refine tw_tree (X0 := []) g w o3 o4 T0 130 [] L [] [] h b B uv o2 (by rw [List.append_nil]; rfl) o1 w SbQ.rf (by rw [show ([] : List Nd).length = 0 from rfl, e0, List.nil_append, List.nil_append, List.append_nil]; omega) (fun h1 b1 N1 v3 t1 q1 => ?_)
  rw [show ([] : List Nd).length = 0 from rfl, e0, List.append_nil] at t1
  have g1 := g.sb w q1
  obtain ⟨⟨ka, na⟩, hcnt⟩ := g1.t.o
  refine ev_iload_n dX7_write_2 rfl ?_
  refine ev_aload_n dX7_write_3 rfl ?_
  refine ev_getiv dX7_write_4 fX7_16 ka na rfl hcnt ?_
  refine ev_icmpge 118 dX7_write_7 (fun hb => ?_) (fun h_no => (by exfalso; (rw [show ([] : List Nd).length = 0 from rfl] at h_no; omega)))
  exact ev_vret dX7_write_118 (⟨rfl, b1, N1, t1, q1⟩)
set_option maxRecDepth 100000 in
theorem g_tellTerm (n : QN h a K N tc LL kp) (o : LkO N LL kp) (w : TbI h 3 b B X) (hb : b = 4 ∨ 94 ≤ b) : CV mX10_tellTerm 9 [rv 0, iv p] h (fun oo h1 => (¬ (0 ≤ p ∧ p < (N : Int)) ∧ oo = xv 2 ∧ h1 = h.thr) ∨ ((0 ≤ p ∧ p < (N : Int)) ∧ oo = iv ((tmX (LL p.toNat) 130 0).length : Int) ∧ TlQ h a K b B X (tmX (LL p.toNat) 130 0) h1)) := by
  have hC := n.1.1
  have hS := n.sn
  refine cv_of cdX10_tellTerm ?_
  show EV _ _ 0 [rv 0, iv p, uv] [] h _
  by_cases hp : 0 ≤ p ∧ p < (N : Int)
  · skip
    have g := ((n.2.2.2.1.2.2 p.toNat (by omega)).2).l
    obtain ⟨⟨ka, na⟩, -⟩ := g.t.o
    refine ev_aload_n dX10_tellTerm_0 rfl ?_
    refine ev_iload_n dX10_tellTerm_1 rfl ?_
    refine ev_cvr dX10_tellTerm_2 lX10_126 (g_termOf1 hS hp) (by decide) hC.k0 hC.n0 rfl rfl rfl (Nat.le_of_ble_eq_true rfl) rfl (fun r h1 q => ?_)
    obtain ⟨rfl, e⟩ := q
    rw [e]
    refine ev_ast2 dX10_tellTerm_5 ?_
    refine ev_aload_n dX10_tellTerm_6 rfl ?_
    refine ev_getrv dX10_tellTerm_7 fX10_16 hC.k0 hC.n0 rfl hC.v0_1 ?_
    refine ev_iconst dX10_tellTerm_10 ?_
    refine ev_cvv dX10_tellTerm_11 lX10_73 (s_J4set0 w.1) (by decide) hC.k3 hC.n3 rfl rfl rfl (Nat.le_of_ble_eq_true rfl) rfl (fun h1 q => ?_)
    obtain ⟨q1, q2⟩ := q
    obtain ⟨t1, s1⟩ := w.set0 q1 q2
    have hC1 := hC.tb w (Or.inr rfl) (by omega) s1
    have g1 := g.sb w s1
    obtain ⟨⟨ka1, na1⟩, -⟩ := g1.t.o
    refine ev_aload_n dX10_tellTerm_14 rfl ?_
    refine ev_aload_n dX10_tellTerm_15 rfl ?_
    refine ev_getrv dX10_tellTerm_16 fX10_16 hC1.k0 hC1.n0 rfl hC1.v0_1 ?_
    refine ev_cvv dX10_tellTerm_19 lX10_288 (s_writeTm g1 t1 (o.1 p.toNat (by omega))) (by decide) ka1 na1 rfl rfl rfl (Nat.le_of_ble_eq_true rfl) rfl (fun h2 q => ?_)
    obtain ⟨b2, N2, t2, s2⟩ := q
    rw [List.nil_append] at t2
    have s2' := s1.tr s2
    have hC2 := hC.tb w (Or.inr rfl) (by omega) s2'
    refine ev_aload_n dX10_tellTerm_22 rfl ?_
    refine ev_getrv dX10_tellTerm_23 fX10_16 hC2.k0 hC2.n0 rfl hC2.v0_1 ?_
    refine ev_cvi dX10_tellTerm_26 lX10_236 (s_J4len t2.1) (by decide) hC2.k3 hC2.n3 rfl rfl rfl (Nat.le_of_ble_eq_true rfl) rfl (fun r h3 q => ?_)
    obtain ⟨rfl, e⟩ := q
    rw [e]
    exact ev_iret dX10_tellTerm_29 (Or.inr ⟨hp, rfl, h, a, K, b2, N2, QF.rf n.1 n.2.2.1 n.2.1, w, s2', t2⟩)
  · skip
    refine ev_aload_n dX10_tellTerm_0 rfl ?_
    refine ev_iload_n dX10_tellTerm_1 rfl ?_
    refine ev_callv dX10_tellTerm_2 lX10_126 (g_termOf0 hS hp) (by decide) (by decide) (by have := hC.n0; omega) hC.k0 rfl rfl (Nat.le_of_ble_eq_true rfl) rfl (fun o h1 q => by obtain ⟨rfl, rfl⟩ := q; exact ⟨fun _ => Or.inl ⟨hp, rfl, rfl⟩, fun e => absurd rfl e⟩) (Or.inr q_1326)
end TelT
