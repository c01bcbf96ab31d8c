/-! the class: types are kept, capitals emptied -/
section Kep
variable {h h1 h2 : AH} {a K a1 K1 : Nat → Nat} {v bv sv : Nat → Int} {isS : Int} {c : Nat} {pv : Nat → Nat → Int} {w d cw cd : Int} {X1 X3 : List Int} {b1 N1 b3 N3 dc ds : Nat} {N : Nat} {LL : Nat → List Nd} {kp : Nat → Option TE}
set_option maxRecDepth 100000 in
theorem s_unkeepL {p : Int} (j : JC h a K v bv isS sv c pv w d cw cd X1 X3 b1 N1 b3 N3) (hv : VS v N LL kp) (hs : StI h a 31 N LL kp (v 1) (v 2)) : CV mX10_unkeepType 5 [rv 0, iv p] h (oi fun r h1 => (¬ (0 ≤ p ∧ p ≤ 7) ∧ r = -1 ∧ JQ h K N1 N3 1 3 v bv isS sv c pv 8 p 0 0 X1 X3 h1) ∨ ((0 ≤ p ∧ p ≤ 7) ∧ v (369 + 25 * p.toNat) = 0 ∧ r = -1 ∧ JQ h K N1 N3 1 3 v bv isS sv c pv 6 p 0 0 X1 X3 h1) ∨ ((0 ≤ p ∧ p ≤ 7) ∧ v (369 + 25 * p.toNat) ≠ 0 ∧ 0 ≤ r ∧ r = v (369 + 25 * p.toNat) ∧ JQ h K N1 N3 0 0 (ukV v p.toNat) bv isS sv c pv w d cw cd X1 X3 h1)) := by
  have g := j.1.1
  have f := j.1.2.2
  have hC := g.1
  have n94 := hC.1
  obtain ⟨st, ⟨c1, c2, c3, c4⟩, t3, t4, t5⟩ := id hs
  refine cv_of cdX10_unkeepType ?_
  show EV _ _ 0 [rv 0, iv p, uv] [] h _
  refine ev_iload_n dX10_unkeepType_0 rfl ?_
  refine ev_csi dX10_unkeepType_1 lX10_344 (s_isCapC) (by decide) rfl rfl (Nat.le_of_ble_eq_true rfl) rfl (fun r h1 q => ?_)
  obtain ⟨er, e1⟩ := q
  rw [er, e1]
  by_cases hp : 0 ≤ p ∧ p < 8
  · skip
    obtain ⟨l, rfl⟩ : ∃ l : Nat, p = (l : Int) := ⟨p.toNat, by omega⟩
    have hl : l < 8 := by omega
    rw [if_pos hp, show ((l : Nat) : Int).toNat = l from rfl]
    refine ev_ifne 15 dX10_unkeepType_4 (fun hb => ?_) (fun h_no => (by exfalso; omega))
    refine ev_aload_n dX10_unkeepType_15 rfl ?_
    refine ev_getrv dX10_unkeepType_16 fX10_48 hC.k0 hC.n0 rfl hC.v0_6 ?_
    refine ev_iload_n dX10_unkeepType_19 rfl ?_
    refine ev_cvr dX10_unkeepType_20 lX10_220 (s_keptAtC hC.st31) (by decide) hC.k31 hC.n31 rfl rfl rfl (Nat.le_of_ble_eq_true rfl) rfl (fun r h1 q => ?_)
    obtain ⟨er, e1⟩ := q
    rw [er, e1, show kpAt h 33 (l : Int) = h.vl 33 l from by unfold kpAt; rw [if_pos (by omega)]; rfl]
    rcases t5 l hl with ⟨u1, u2⟩ | ⟨R, s, b, n, u1, u2, u3, u4, u5, u6⟩
    · skip
      have v0 : v (369 + 25 * l) = 0 := by
        rcases hv.2.1 l hl with ⟨-, y⟩ | ⟨R, y, -⟩
        · exact y
        · rw [u1] at y; exact nomatch y
      have u2 : h.vl 33 l = -1 := u2
      rw [u2]
      refine ev_ast2 dX10_unkeepType_23 ?_
      refine ev_aload_n dX10_unkeepType_24 rfl ?_
      refine ev_ifnonnull 36 dX10_unkeepType_25 (fun h_no => (by exfalso; omega)) (fun hb2 => ?_)
      refine ev_aload_n dX10_unkeepType_28 rfl ?_
      refine ev_bipush dX10_unkeepType_29 ?_
      refine ev_iload_n dX10_unkeepType_31 rfl ?_
      refine ev_cvi dX10_unkeepType_32 lX10_86 (s_refuseJ (x := 6) (y := (l : Int)) j (by decide)) (by decide) hC.k0 hC.n0 rfl rfl rfl (Nat.le_of_ble_eq_true rfl) rfl (fun r h2 q => ?_)
      obtain ⟨q1, q2⟩ := q
      exact ev_iret dX10_unkeepType_35 (⟨_, rfl, Or.inr (Or.inl ⟨by omega, v0, q1, q2⟩)⟩)
    have v0 : v (369 + 25 * l) = (sz R : Int) := by
      rcases hv.2.1 l hl with ⟨y, -⟩ | ⟨R', y, y2, -⟩
      · rw [u1] at y; exact nomatch y
      · rw [u1] at y
        rw [y2, Option.some.inj y]
    have szp := sz_pos R
    have u2 : h.vl 33 l = (s : Int) := u2
    rw [u2]
    refine ev_ast2 dX10_unkeepType_23 ?_
    refine ev_aload_n dX10_unkeepType_24 rfl ?_
    refine ev_ifnonnull 36 dX10_unkeepType_25 (fun hb2 => ?_) (fun h_no => (by exfalso; omega))
    refine ev_aload_n dX10_unkeepType_36 rfl ?_
    refine ev_getrv dX10_unkeepType_37 fX10_48 hC.k0 hC.n0 rfl hC.v0_6 ?_
    refine ev_iload_n dX10_unkeepType_40 rfl ?_
    refine ev_cvv dX10_unkeepType_41 lX10_355 (s_emptyAt hC.st31 hl) (by decide) hC.k31 hC.n31 rfl rfl rfl (Nat.le_of_ble_eq_true rfl) rfl (fun h2 q => ?_)
    have gc : GC h h2 (fun x j => x = 33 ∧ j = l) 0 0 := by
      rw [q]
      exact ⟨GF.rf.pu (fun _ => ⟨rfl, rfl⟩), Nat.le_refl _, Nat.le_refl _⟩
    have hc' : ∀ x j, (x = 33 ∧ j = l) → x = 32 ∨ x = 33 ∨ (x = 31 ∧ 2 ≤ j) := fun x j z => by omega
    have ok : ∀ x j, (x = 33 ∧ j = l) → OkC h x j := fun x j z => OkT.okc (h := h) ⟨by omega, by omega, fun _ => by omega⟩
    have g2 := g.gf gc.1 ok
    have p2 := gc.1.pr ok g f
    obtain ⟨w1, w2, w3⟩ := u3.pr u4 p2
    have len := w1.1.2.2.1
    have k5 := w1.1.1
    rw [row_len] at len
    refine ev_aload_n dX10_unkeepType_44 rfl ?_
    refine ev_getiv dX10_unkeepType_45 fX10_224 k5.1 k5.2 rfl len ?_
    refine ev_iret dX10_unkeepType_48 (⟨_, rfl, Or.inr (Or.inr ⟨by omega, by omega, by omega, v0.symm, j.nw gc hc' ⟨N, LL, _, vs_uk hv hl, ?_⟩⟩)⟩)
    have vl : ∀ x j, ¬ (x = 33 ∧ j = l) → x < h.n → h2.vl x j = h.vl x j := fun x j hn hx => gc.1.2.2 x j hx hn
    have v12 : ukV v l 1 = v 1 ∧ ukV v l 2 = v 2 := by
      unfold ukV
      exact ⟨if_neg (by omega), if_neg (by omega)⟩
    have e31 : h2.vl 31 = h.vl 31 := funext fun i => vl 31 i (by omega) (by omega)
    have e32 : h2.vl 32 = h.vl 32 := funext fun i => vl 32 i (by omega) (by omega)
    refine ⟨hC.st31.pe p2 e31, ⟨by rw [e31]; exact c1, c2, by rw [e31, v12.1]; exact c3, by rw [e31, v12.2]; exact c4⟩, fun k hk => ?_, fun k h1 h2' => ?_, fun k hk => ?_⟩
    · obtain ⟨t', y1, y2⟩ := t3 k hk
      exact ⟨t', by show h2.vl 32 k = _; rw [e32]; exact y1, y2.pr p2⟩
    · show h2.vl 32 k = -1
      rw [e32]
      exact t4 k h1 h2'
    · by_cases z : k = l
      · refine Or.inl ⟨if_pos z, ?_⟩
        show h2.vl 33 k = -1
        rw [q, AH.put_vl, if_pos ⟨rfl, z⟩]
      · have e33 : h2.vl 33 k = h.vl 33 k := vl 33 k (by omega) (by omega)
        have ek : kpU kp l none k = kp k := if_neg z
        rw [ek]
        show _ ∧ h2.vl 33 k = -1 ∨ ∃ R s b n, _ ∧ h2.vl 33 k = _ ∧ _
        rw [e33]
        rcases t5 k hk with y | ⟨R', s', b', n', y1, y2, y3, y4, y5⟩
        · exact Or.inl y
        · obtain ⟨x1, x2⟩ := y3.pr y4 p2
          exact Or.inr ⟨R', s', b', n', y1, y2, x1, x2, y5⟩
  rw [if_neg hp]
  refine ev_ifne 15 dX10_unkeepType_4 (fun h_no => (by exfalso; omega)) (fun hb => ?_)
  refine ev_aload_n dX10_unkeepType_7 rfl ?_
  refine ev_bipush dX10_unkeepType_8 ?_
  refine ev_iload_n dX10_unkeepType_10 rfl ?_
  refine ev_cvi dX10_unkeepType_11 lX10_86 (s_refuseJ (x := 8) (y := p) j (by decide)) (by decide) hC.k0 hC.n0 rfl rfl rfl (Nat.le_of_ble_eq_true rfl) rfl (fun r h2 q => ?_)
  obtain ⟨q1, q2⟩ := q
  exact ev_iret dX10_unkeepType_14 (⟨_, rfl, Or.inl ⟨by omega, q1, q2⟩⟩)
set_option maxRecDepth 100000 in
theorem s_keepL {p q9 : Int} (j : JC h a K v bv isS sv c pv w d cw cd X1 X3 b1 N1 b3 N3) (hv : VS v N LL kp) (hs : StI h a 31 N LL kp (v 1) (v 2)) (hv2 : -2147483648 ≤ v 2 + 1 ∧ v 2 + 1 ≤ 2147483647) : CV mX10_keepType 11 [rv 0, iv p, iv q9] h (oi fun r h1 => (∃ w' d', keN N LL kp p q9 w' d' ∧ r = -1 ∧ JQ h K N1 N3 1 3 v bv isS sv c pv w' d' 0 0 X1 X3 h1) ∨ ∃ T, keO N LL kp p q9 T ∧ 0 ≤ r ∧ r = ((cnT T []).2.length : Int) ∧ JQ h K N1 N3 2 26 (keV v q9.toNat (cnT T []).1) bv isS sv c pv w d cw cd X1 X3 h1) := by
  have g := j.1.1
  have f := j.1.2.2
  have hC := g.1
  have n94 := hC.1
  have n := j.qn hs
  have o := hv.lko
  have hS := n.sn
  obtain ⟨st, ⟨c1, c2, c3, c4⟩, t3, t4, t5⟩ := id hs
  refine cv_of cdX10_keepType ?_
  show EV _ _ 0 [rv 0, iv p, iv q9, uv] [] h _
  refine ev_aload_n dX10_keepType_0 rfl ?_
  refine ev_getrv dX10_keepType_1 fX10_48 hC.k0 hC.n0 rfl hC.v0_6 ?_
  refine ev_iload_n dX10_keepType_4 rfl ?_
  refine ev_cvr dX10_keepType_5 lX10_210 (s_termAt hC.st31) (by decide) hC.k31 hC.n31 rfl rfl rfl (Nat.le_of_ble_eq_true rfl) rfl (fun r h1 q => ?_)
  obtain ⟨er, e1⟩ := q
  rw [er, e1]
  by_cases hp : 0 ≤ p ∧ p < (N : Int)
  · skip
    rw [hS.tm (p := p) hp]
    obtain ⟨l, rfl⟩ : ∃ l : Nat, p = (l : Int) := ⟨p.toNat, by omega⟩
    have hl : l < N := by omega
    rw [show ((l : Nat) : Int).toNat = l from rfl]
    refine ev_ast3 dX10_keepType_8 ?_
    refine ev_aload_n dX10_keepType_9 rfl ?_
    refine ev_ifnonnull 20 dX10_keepType_10 (fun hb => ?_) (fun h_no => (by exfalso; omega))
    refine ev_iload_n dX10_keepType_20 rfl ?_
    refine ev_csi dX10_keepType_21 lX10_344 (s_isCapC) (by decide) rfl rfl (Nat.le_of_ble_eq_true rfl) rfl (fun r h1 q => ?_)
    obtain ⟨er, e1⟩ := q
    rw [er, e1]
    by_cases hq : 0 ≤ q9 ∧ q9 < 8
    · skip
      rw [if_pos hq]
      refine ev_ifne 35 dX10_keepType_24 (fun hb2 => ?_) (fun h_no => (by exfalso; omega))
      refine ev_aload_n dX10_keepType_35 rfl ?_
      refine ev_getrv dX10_keepType_36 fX10_29 hC.k0 hC.n0 rfl hC.v0_3 ?_
      refine ev_aload_n dX10_keepType_39 rfl ?_
      refine ev_aload_n dX10_keepType_40 rfl ?_
      refine ev_getrv dX10_keepType_41 fX10_48 hC.k0 hC.n0 rfl hC.v0_6 ?_
      refine ev_iconst dX10_keepType_44 ?_
      refine ev_cvi dX10_keepType_45 lX10_154 (q_go n o (l := l) hl) (by decide) hC.k8 hC.n8 rfl rfl rfl (Nat.le_of_ble_eq_true rfl) rfl (fun x h1 q => ?_)
      obtain ⟨r, S, a1, K1, q1, q2, q3, q4, q5⟩ := q
      have q3' : QF h a K h1 a1 K1 QY := q3.wk (fun _ z => z.elim)
      have j1 := j.qf q3'
      have fj1 : FrJ h K N1 N3 h1 K1 N1 N3 0 0 := q3'.fj f g (fun _ z => z)
      have hC1 := q3.g.1
      by_cases r0 : r.1 = 0
      · skip
        rw [if_pos r0] at q2
        obtain ⟨M, T, τ, cc, f1, f2, f3, f4⟩ := q5 r0
        have hne := List.length_pos_iff.mpr (o.ne l hl)
        have z0 := fnR_sz q1 r0 0 hne
        rw [q2]
        refine ev_ifne 70 dX10_keepType_48 (fun hb3 => ?_) (fun h_no => (by exfalso; omega))
        refine ev_aload_n dX10_keepType_70 rfl ?_
        refine ev_getrv dX10_keepType_71 fX10_29 hC1.k0 hC1.n0 rfl hC1.v0_3 ?_
        refine ev_aload_n dX10_keepType_74 rfl ?_
        refine ev_getrv dX10_keepType_75 fX10_38 hC1.k0 hC1.n0 rfl hC1.v0_4 ?_
        refine ev_cvv dX10_keepType_78 lX10_189 (q_whole (sh := 27) f1 q3.2.1 q3.2.2.2 f2 f3 f4 z0 (by decide)) (by decide) hC1.k8 hC1.n8 rfl rfl rfl (Nat.le_of_ble_eq_true rfl) rfl (fun h2 q9 => ?_)
        obtain ⟨a2, K2, s1, s2, s3⟩ := q9
        have s1' : QF h1 a1 K1 h2 a2 K2 QY := s1.wk (shY_q (by decide))
        have j2 := j1.qf s1'
        have fj2 := fj1.tr (s1'.fj (N1 := N1) (N3 := N3) q3.2.1 q3.g (fun _ z => z))
        have n2 := n.q (q3'.tr s1') qy31
        have hC2 := s1.g.1
        have len := s3.1.2.2.1
        rw [cn_len] at len
        refine ev_aload_n dX10_keepType_81 rfl ?_
        refine ev_getrv dX10_keepType_82 fX10_38 hC2.k0 hC2.n0 rfl hC2.v0_4 ?_
        refine ev_getiv dX10_keepType_85 fX10_224 hC2.k27 hC2.n27 rfl len ?_
        refine ev_bipush dX10_keepType_88 ?_
        by_cases h24 : sz (S.2.1 0) ≤ 24
        · skip
          refine ev_icmple 107 dX10_keepType_90 (fun hb4 => ?_) (fun h_no => (by exfalso; omega))
          refine ev_aload_n dX10_keepType_107 rfl ?_
          refine ev_getrv dX10_keepType_108 fX10_48 hC2.k0 hC2.n0 rfl hC2.v0_6 ?_
          refine ev_iload_n dX10_keepType_111 rfl ?_
          refine ev_aload_n dX10_keepType_112 rfl ?_
          refine ev_getrv dX10_keepType_113 fX10_38 hC2.k0 hC2.n0 rfl hC2.v0_4 ?_
          refine ev_cvr dX10_keepType_116 lX10_348 (s_copyC s1.g s3 (by rw [cn_len]; omega)) (by decide) hC2.k27 hC2.n27 rfl rfl rfl (Nat.le_of_ble_eq_true rfl) rfl (fun x h3 q => ?_)
          obtain ⟨ex, gc3, g3, w3⟩ := q
          have hC3 := g3.1
          have ok3 : ∀ x j, (fun _ _ => False : Nat → Nat → Prop) x j → OkC h2 x j := fun x j z => z.elim
          have p3 := gc3.1.pr ok3 s1.g s1.2.1
          have f3' := (s1.2.1.gf s1.g gc3.1 ok3).1
          have n2n := hC2.1
          have v3 : ∀ x j, x < h2.n → h3.vl x j = h2.vl x j := fun x j hx => gc3.1.2.2 x j hx (fun z => z)
          have q14 := q3'.tr s1'
          have ev2 : h2.vl 31 4 = v 2 := by
            rw [q14.v f g ⟨Or.inr (by decide), by decide, by decide⟩ (fun z => by have z : 27 ≤ 31 ∧ (31 : Nat) ≤ 30 := z; omega)]
            exact c4
          have ev3 : h3.vl 31 4 = v 2 := by rw [v3 31 4 (by omega)]; exact ev2
          obtain ⟨qc, hqc⟩ : ∃ qc : Nat, q9 = (qc : Int) := ⟨q9.toNat, by omega⟩
          rw [ex, hqc]
          refine ev_cvv dX10_keepType_119 lX10_352 (s_keepAt (c := qc) (x := h2.n) hC3.st31 (by omega) w3.1.1.1 (by decide) ev3 hv2) (by decide) hC3.k31 hC3.n31 rfl rfl rfl (Nat.le_of_ble_eq_true rfl) rfl (fun h4 q => ?_)
          have gc4 : GC h3 h4 (fun x j => (x = 33 ∧ j = qc) ∨ (x = 31 ∧ j = 4)) 0 0 := by
            rw [q]
            exact ⟨(GF.rf.pu (fun _ => Or.inl ⟨rfl, rfl⟩)).pu (fun _ => Or.inr ⟨rfl, rfl⟩), Nat.le_refl _, Nat.le_refl _⟩
          have okt : ∀ x j, ((x = 33 ∧ j = qc) ∨ (x = 31 ∧ j = 4)) → OkT x j := fun x j z => ⟨by omega, by omega, fun _ => by omega⟩
          have ok4 : ∀ x j, ((x = 33 ∧ j = qc) ∨ (x = 31 ∧ j = 4)) → OkC h3 x j := fun x j z => (okt x j z).okc
          have g4 := g3.gf gc4.1 ok4
          have hC4 := g4.1
          have p4 := gc4.1.pr ok4 g3 f3'
          have v4 : ∀ x j, ¬ ((x = 33 ∧ j = qc) ∨ (x = 31 ∧ j = 4)) → x < h3.n → h4.vl x j = h3.vl x j := fun x j hn hx => gc4.1.2.2 x j hx hn
          have n23 := gc3.1.1
          have v24 : ∀ x, (x = 27 ∨ x = 28 ∨ x = 29 ∨ x = 30 ∨ x = 32) → h4.vl x = h2.vl x := fun x hx => funext fun i => by rw [v4 x i (by omega) (by omega), v3 x i (by omega)]
          -- the shape is there still
          have sT : ShT h4 27 (S.2.1 0) := by
            obtain ⟨b', R', x1, x2⟩ := s3.t
            obtain ⟨⟨y1, y2⟩, ⟨y3, y4, y5⟩, y6, y7, y8⟩ := x1
            have eb : b' = 28 := by
              have := hC2.v27_0
              rw [this] at y3; omega
            subst eb
            have k34 : ∀ x, x < h2.n → h4.kd x = h2.kd x := fun x hx => (gc4.1.2.1 x (by omega)).trans (gc3.1.2.1 x hx)
            have n24 := gc4.1.1
            exact ⟨28, R', ⟨⟨(k34 27 y2).trans y1, by omega⟩, ⟨by rw [v24 27 (Or.inl rfl)]; exact y3, (k34 28 y5).trans y4, by omega⟩, by rw [v24 27 (Or.inl rfl)]; exact y6, y7, y8⟩, by rw [v24 28 (Or.inr (Or.inl rfl))]; exact x2⟩
          refine ev_aload_n dX10_keepType_122 rfl ?_
          refine ev_getrv dX10_keepType_123 fX10_38 hC4.k0 hC4.n0 rfl hC4.v0_4 ?_
          refine ev_iconst dX10_keepType_126 ?_
          refine ev_cvi dX10_keepType_127 lX10_181 (s_measure sT (w := 2) (by decide)) (by decide) hC4.k27 hC4.n27 rfl rfl rfl (Nat.le_of_ble_eq_true rfl) rfl (fun y h5 q => ?_)
          obtain ⟨y1, e5⟩ := q
          rw [nuF, if_neg (by decide), if_neg (by decide), if_pos rfl] at y1
          rw [e5]
          have rowc : rowT (cnR (S.2.1 0) []) = (cnT (S.2.1 0) []).1 := cnR_row _ _
          have vs9 : ∀ x, 2 ≤ x → oc x (cnR (S.2.1 0) []) = true → x < 202 := fun x x2 xo => by
            have := cnR_vs (S.2.1 0) [] x x2 xo
            have h9 : ([] : List Nat).length = 0 := rfl
            omega
          -- now in h4
          have hs2 : StI h2 a2 31 N LL kp (v 1) (v 2) := by
            have q94 : ∀ c, QY c → c < 94 := fun c z => by have z : 27 ≤ c ∧ c ≤ 30 := z; omega
            have lo : ∀ x, 31 ≤ x → x < 94 → h2.vl x = h.vl x := fun x h1 h2 => q14.v f g ⟨Or.inr ⟨by omega, h2⟩, by omega, by omega⟩ (fun z => by have z : 27 ≤ x ∧ x ≤ 30 := z; omega)
            exact hs.pr (q14.pr q94) (lo _ (by decide) (by decide)) (lo _ (by decide) (by decide)) (lo _ (by decide) (by decide))
          obtain ⟨st2, ⟨d1, d2, d3, d4⟩, u3, u4, u5⟩ := hs2
          have p24 := p3.tr p4
          have kv : keV v qc (cnT (S.2.1 0) []).1 1 = v 1 ∧ keV v qc (cnT (S.2.1 0) []).1 2 = v 2 + 1 := by
            unfold keV keW
            exact ⟨by rw [if_neg (by decide), if_neg (by omega), if_neg (by omega)], if_pos rfl⟩
          have newS : SvR h4 a2 31 (keV v qc (cnT (S.2.1 0) []).1) := by
            refine ⟨N, LL, _, vs_ke hv (by omega) h24, ?_⟩
            refine ⟨hC4.st31, ⟨?_, d2, ?_, ?_⟩, fun k hk => ?_, fun k h1 h2' => ?_, fun k hk => ?_⟩
            · rw [v4 31 2 (by omega) (by omega), v3 31 2 (by omega)]; exact d1
            · rw [kv.1, v4 31 3 (by omega) (by omega), v3 31 3 (by omega)]; exact d3
            · rw [kv.2, q, AH.put_vl, if_pos ⟨rfl, rfl⟩]
            · obtain ⟨t', y1, y2⟩ := u3 k hk
              exact ⟨t', by show h4.vl 32 k = _; rw [v24 32 (by omega)]; exact y1, y2.pr p24⟩
            · show h4.vl 32 k = -1
              rw [v24 32 (by omega)]
              exact u4 k h1 h2'
            · by_cases z : k = qc
              · obtain ⟨⟨⟨x1, x2⟩, ⟨x3, x4, x5⟩, x6, x7, x8⟩, ⟨x9, x10, x11⟩, x12, x13⟩ := id w3
                have far : ∀ x, 94 ≤ x → x < h3.n → h4.vl x = h3.vl x := fun x h1 h2 => funext fun i => v4 x i (by omega) h2
                have wn : ShW h4 a2 h2.n (h2.n + 1) (cnT (S.2.1 0) []).1.length (cnT (S.2.1 0) []).1 := by
                  have n34 := gc4.1.1
                  exact ⟨⟨⟨(gc4.1.2.1 _ x2).trans x1, by omega⟩, ⟨by rw [far _ (by omega) x2]; exact x3, (gc4.1.2.1 _ x5).trans x4, by omega⟩, by rw [far _ (by omega) x2]; exact x6, x7, x8⟩, ⟨⟨by omega, x9.2⟩, ⟨by omega, x10.2⟩, x11⟩, x12, fun i hi => by rw [far _ (by omega) x5]; exact x13 i hi⟩
                have npx : ∀ x, h2.n ≤ x → x < h2.n + 2 → ¬ PX h4 x := fun x h1 h2' z => by
                  have z3 := gc4.1.px ok4 g3 f3' z
                  obtain ⟨-, fo, e26⟩ := s1.2.1.gf s1.g gc3.1 ok3
                  rcases z3 with (z | z | z | z) | z
                  · omega
                  · omega
                  · have zz := fo x z
                    obtain ⟨i, s', hi, hs', hz⟩ := zz
                    rcases s1.2.1.1 i hi with y | ⟨s2', b2', y1, y2, y3, ⟨y4, y5, -⟩, -⟩
                    · omega
                    · have e1 : s' = s2' := by omega
                      subst e1
                      have := y4.1
                      have := y5.1
                      have := y3.2.1
                      rcases hz with rfl | hz
                      · omega
                      · omega
                  · omega
                  · omega
                refine Or.inr ⟨cnR (S.2.1 0) [], h2.n, h2.n + 1, _, if_pos z, ?_, by rw [rowc]; exact wn, ⟨npx _ (Nat.le_refl _) (by omega), npx _ (by omega) (by omega)⟩, by rw [cnR_sz]; exact h24, vs9⟩
                show h4.vl 33 k = _
                rw [q, AH.put_vl, if_neg (by omega), AH.put_vl, if_pos ⟨rfl, z⟩]
              · have e33 : h4.vl 33 k = h2.vl 33 k := by rw [v4 33 k (by omega) (by omega), v3 33 k (by omega)]
                have ek : kpU kp qc (some (cnR (S.2.1 0) [])) k = kp k := if_neg z
                rw [ek]
                show _ ∧ h4.vl 33 k = -1 ∨ ∃ R s b n, _ ∧ h4.vl 33 k = _ ∧ _
                rw [e33]
                rcases u5 k hk with y | ⟨R', s', b', n', y1, y2, y3, y4, y5⟩
                · exact Or.inl y
                · obtain ⟨x1, x2⟩ := y3.pr y4 p24
                  exact Or.inr ⟨R', s', b', n', y1, y2, x1, x2, y5⟩
          have j3 := j2.gf gc3.1 (fun _ _ z => z.elim)
          have fj3 := fj2.tr (gc3.fj (N1 := N1) (N3 := N3) s1.g (fun _ _ z => z.elim))
          have jq := j3.nw gc4 (fun x j z => by omega) newS
          exact ev_iret dX10_keepType_130 (⟨_, rfl, Or.inr ⟨S.2.1 0, ⟨hp, by omega, r, S, q1, r0, h24, rfl⟩, by omega, y1, (fj3.jq jq).wk (by omega) (by rw [cn_len]; omega)⟩⟩)
        refine ev_icmple 107 dX10_keepType_90 (fun h_no => (by exfalso; omega)) (fun hb4 => ?_)
        refine ev_aload_n dX10_keepType_93 rfl ?_
        refine ev_bipush dX10_keepType_94 ?_
        refine ev_aload_n dX10_keepType_96 rfl ?_
        refine ev_getrv dX10_keepType_97 fX10_38 hC2.k0 hC2.n0 rfl hC2.v0_4 ?_
        refine ev_getiv dX10_keepType_100 fX10_224 hC2.k27 hC2.n27 rfl len ?_
        refine ev_cvi dX10_keepType_103 lX10_86 (s_refuseJ (x := 7) (y := (sz (S.2.1 0) : Int)) j2 (by decide)) (by decide) hC2.k0 hC2.n0 rfl rfl rfl (Nat.le_of_ble_eq_true rfl) rfl (fun y h3 q => ?_)
        obtain ⟨y1, y2⟩ := q
        exact ev_iret dX10_keepType_106 (⟨_, rfl, Or.inl ⟨7, (sz (S.2.1 0) : Int), Or.inr (Or.inr ⟨hp, by omega, r, S, q1, Or.inr ⟨r0, by omega, rfl, rfl⟩⟩), y1, (fj2.jq y2).wk (by omega) (by omega)⟩⟩)
      obtain ⟨fl1, fl2, -⟩ := q4
      rw [if_neg r0] at q2
      rw [q2]
      refine ev_ifne 70 dX10_keepType_48 (fun h_no => (by exfalso; omega)) (fun hb3 => ?_)
      refine ev_aload_n dX10_keepType_51 rfl ?_
      refine ev_aload_n dX10_keepType_52 rfl ?_
      refine ev_getrv dX10_keepType_53 fX10_29 hC1.k0 hC1.n0 rfl hC1.v0_3 ?_
      refine ev_getiv dX10_keepType_56 fX10_162 hC1.k8 hC1.n8 rfl fl1 ?_
      refine ev_aload_n dX10_keepType_59 rfl ?_
      refine ev_getrv dX10_keepType_60 fX10_29 hC1.k0 hC1.n0 rfl hC1.v0_3 ?_
      refine ev_getiv dX10_keepType_63 fX10_165 hC1.k8 hC1.n8 rfl fl2 ?_
      refine ev_cvi dX10_keepType_66 lX10_86 (s_refuseJ (x := r.1) (y := r.2.1) j1 r0) (by decide) hC1.k0 hC1.n0 rfl rfl rfl (Nat.le_of_ble_eq_true rfl) rfl (fun y h3 q => ?_)
      obtain ⟨y1, y2⟩ := q
      exact ev_iret dX10_keepType_69 (⟨_, rfl, Or.inl ⟨r.1, r.2.1, Or.inr (Or.inr ⟨hp, by omega, r, S, q1, Or.inl ⟨r0, rfl, rfl⟩⟩), y1, (fj1.jq y2).wk (by omega) (by omega)⟩⟩)
    rw [if_neg hq]
    refine ev_ifne 35 dX10_keepType_24 (fun h_no => (by exfalso; omega)) (fun hb2 => ?_)
    refine ev_aload_n dX10_keepType_27 rfl ?_
    refine ev_bipush dX10_keepType_28 ?_
    refine ev_iload_n dX10_keepType_30 rfl ?_
    refine ev_cvi dX10_keepType_31 lX10_86 (s_refuseJ (x := 8) (y := q9) j (by decide)) (by decide) hC.k0 hC.n0 rfl rfl rfl (Nat.le_of_ble_eq_true rfl) rfl (fun r h2 q => ?_)
    obtain ⟨q1, q2⟩ := q
    exact ev_iret dX10_keepType_34 (⟨_, rfl, Or.inl ⟨8, q9, Or.inr (Or.inl ⟨hp, by omega, rfl, rfl⟩), q1, q2⟩⟩)
  have et : tmAt h 31 32 p = -1 := by
    unfold tmAt
    rw [c1, if_neg (by omega)]
  rw [et]
  refine ev_ast3 dX10_keepType_8 ?_
  refine ev_aload_n dX10_keepType_9 rfl ?_
  refine ev_ifnonnull 20 dX10_keepType_10 (fun h_no => (by exfalso; omega)) (fun hb => ?_)
  refine ev_aload_n dX10_keepType_13 rfl ?_
  refine ev_iconst dX10_keepType_14 ?_
  refine ev_iload_n dX10_keepType_15 rfl ?_
  refine ev_cvi dX10_keepType_16 lX10_86 (s_refuseJ (x := 2) (y := p) j (by decide)) (by decide) hC.k0 hC.n0 rfl rfl rfl (Nat.le_of_ble_eq_true rfl) rfl (fun r h2 q => ?_)
  obtain ⟨q1, q2⟩ := q
  exact ev_iret dX10_keepType_19 (⟨_, rfl, Or.inl ⟨2, p, Or.inl ⟨hp, rfl, rfl⟩, q1, q2⟩⟩)
end Kep
