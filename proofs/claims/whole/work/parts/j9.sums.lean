/-! the class: sums over lessons, the largest, means -/
section Sum
variable {h : AH} {a K : Nat → Nat} {N : Nat} {tc : Nat → Nat} {LL : Nat → List Nd} {kp : Nat → Option TE} {p w : Int}
theorem qy31 : ∀ c, QY c → c < 31 := fun c z => by have z : 27 ≤ c ∧ c ≤ 30 := z; omega
theorem LkO.ne (o : LkO N LL kp) : ∀ l, l < N → LL l ≠ [] := fun l hl => (o.1 l hl).2.2.2.1
set_option maxRecDepth 100000 in
theorem lf_loop {h0 : AH} {a0 K0 : Nat → Nat} (n0 : QN h0 a0 K0 N tc LL kp) (o : LkO N LL kp) (hw : w = 0 ∨ 2 < w) : ∀ (m l : Nat) (x : Int) (h : AH) (a K : Nat → Nat) (v4 : AV), l + m = N → QF h0 a0 K0 h a K QY → ofR LL kp w l x → (0 ≤ x ∧ x ≤ (l : Int)) → EV mX10_lessonsFailing 10 4 [rv 0, iv w, iv x, iv (l : Int), v4] [] h (oi fun y h1 => ofR LL kp w N y ∧ ∃ a1 K1, QF h0 a0 K0 h1 a1 K1 QY)
  | 0, l, x, h, a, K, v4, hl, q, hx, hx9 => by
    obtain rfl : l = N := by omega
    have n := n0.q q qy31
    have hC := n.1.1
    have hN := n.2.2.2.1.1
    refine ev_iload_n dX10_lessonsFailing_4 rfl ?_
    refine ev_aload_n dX10_lessonsFailing_5 rfl ?_
    refine ev_getrv dX10_lessonsFailing_6 fX10_48 hC.k0 hC.n0 rfl hC.v0_6 ?_
    refine ev_getiv dX10_lessonsFailing_9 fX10_83 hC.k31 hC.n31 rfl hN ?_
    refine ev_icmpge 65 dX10_lessonsFailing_12 (fun hb => ?_) (fun h_no => (by exfalso; omega))
    refine ev_iload_n dX10_lessonsFailing_65 rfl ?_
    exact ev_iret dX10_lessonsFailing_66 (⟨_, rfl, hx, a, K, q⟩)
  | m + 1, l, x, h, a, K, v4, hl, q, hx, hx9 => by
    have n := n0.q q qy31
    have hC := n.1.1
    have hS := n.sn
    have hN := n.2.2.2.1.1
    have n6 := n.2.2.2.1.2.1
    have nx : ∀ (h1 : AH) (a1 K1 : Nat → Nat) (x1 : Int) (v4 : AV), QF h0 a0 K0 h1 a1 K1 QY → ofR LL kp w (l + 1) x1 → (0 ≤ x1 ∧ x1 ≤ ((l + 1 : Nat) : Int)) → EV mX10_lessonsFailing 10 59 [rv 0, iv w, iv x1, iv (l : Int), v4] [] h1 (oi fun y h1 => ofR LL kp w N y ∧ ∃ a1 K1, QF h0 a0 K0 h1 a1 K1 QY) := by
      intro h1 a1 K1 x1 v4 b1 b2 b3
      refine ev_iin3 dX10_lessonsFailing_59 (by unfold ir; omega) ?_
      refine ev_gt 4 dX10_lessonsFailing_62 ?_
      rw [show (l : Int) + 1 = ((l + 1 : Nat) : Int) by omega]
      exact lf_loop n0 o hw m (l + 1) x1 h1 a1 K1 v4 (by omega) b1 b2 b3
    refine ev_iload_n dX10_lessonsFailing_4 rfl ?_
    refine ev_aload_n dX10_lessonsFailing_5 rfl ?_
    refine ev_getrv dX10_lessonsFailing_6 fX10_48 hC.k0 hC.n0 rfl hC.v0_6 ?_
    refine ev_getiv dX10_lessonsFailing_9 fX10_83 hC.k31 hC.n31 rfl hN ?_
    refine ev_icmpge 65 dX10_lessonsFailing_12 (fun h_no => (by exfalso; omega)) (fun hb => ?_)
    refine ev_aload_n dX10_lessonsFailing_15 rfl ?_
    refine ev_getrv dX10_lessonsFailing_16 fX10_48 hC.k0 hC.n0 rfl hC.v0_6 ?_
    refine ev_iload_n dX10_lessonsFailing_19 rfl ?_
    refine ev_cvr dX10_lessonsFailing_20 lX10_210 (s_termAt hC.st31) (by decide) hC.k31 hC.n31 rfl rfl rfl (Nat.le_of_ble_eq_true rfl) rfl (fun r h1 q9 => ?_)
    obtain ⟨er, e⟩ := q9
    rw [e, er, hS.tm (p := (l : Int)) (by omega), show ((l : Nat) : Int).toNat = l from rfl]
    refine ev_ast4 dX10_lessonsFailing_23 ?_
    refine ev_aload dX10_lessonsFailing_25 rfl ?_
    refine ev_ifnull 59 dX10_lessonsFailing_27 (fun h_no => (by exfalso; omega)) (fun hb2 => ?_)
    refine ev_aload_n dX10_lessonsFailing_30 rfl ?_
    refine ev_getrv dX10_lessonsFailing_31 fX10_29 hC.k0 hC.n0 rfl hC.v0_3 ?_
    refine ev_aload dX10_lessonsFailing_34 rfl ?_
    refine ev_aload_n dX10_lessonsFailing_36 rfl ?_
    refine ev_getrv dX10_lessonsFailing_37 fX10_48 hC.k0 hC.n0 rfl hC.v0_6 ?_
    refine ev_iconst dX10_lessonsFailing_40 ?_
    refine ev_cvi dX10_lessonsFailing_41 lX10_154 (q_go n o (l := l) (by omega)) (by decide) hC.k8 hC.n8 rfl rfl rfl (Nat.le_of_ble_eq_true rfl) rfl (fun z h1 q9 => ?_)
    obtain ⟨r, S, a1, K1, q1, q2, q3, ⟨q4, -⟩, -⟩ := q9
    have hC1 := q3.g.1
    have e1 := ofV_f (L := LL l) (kp := kp) (r := r) (S := S) hw
    refine ev_pop dX10_lessonsFailing_44 ?_
    refine ev_aload_n dX10_lessonsFailing_45 rfl ?_
    refine ev_getrv dX10_lessonsFailing_46 fX10_29 hC1.k0 hC1.n0 rfl hC1.v0_3 ?_
    refine ev_getiv dX10_lessonsFailing_49 fX10_162 hC1.k8 hC1.n8 rfl q4 ?_
    refine ev_iload_n dX10_lessonsFailing_52 rfl ?_
    have q5 : QF h0 a0 K0 h1 a1 K1 QY := q.tr (q3.wk (fun _ z => z.elim))
    by_cases c : r.1 = w
    · skip
      rw [if_pos c] at e1
      refine ev_icmpne 59 dX10_lessonsFailing_53 (fun h_no => (by exfalso; omega)) (fun hb3 => ?_)
      refine ev_iin2 dX10_lessonsFailing_56 (by unfold ir; omega) ?_
      exact nx h1 a1 K1 (x + 1) _ q5 ⟨x, r, S, hx, q1, by rw [e1]⟩ (by omega)
    rw [if_neg c] at e1
    refine ev_icmpne 59 dX10_lessonsFailing_53 (fun hb3 => ?_) (fun h_no => (by exfalso; omega))
    exact nx h1 a1 K1 x _ q5 ⟨x, r, S, hx, q1, by rw [e1]; omega⟩ (by omega)
set_option maxRecDepth 100000 in
theorem s_lesFail (n : QN h a K N tc LL kp) (o : LkO N LL kp) (hw : w = 0 ∨ 2 < w) : CV mX10_lessonsFailing 10 [rv 0, iv w] h (oi fun y h1 => ofR LL kp w N y ∧ ∃ a1 K1, QF h a K h1 a1 K1 QY) := by
  refine cv_of cdX10_lessonsFailing ?_
  show EV _ _ 0 [rv 0, iv w, uv, uv, uv] [] h _
  refine ev_iconst dX10_lessonsFailing_0 ?_
  refine ev_ist2 dX10_lessonsFailing_1 ?_
  refine ev_iconst dX10_lessonsFailing_2 ?_
  refine ev_ist3 dX10_lessonsFailing_3 ?_
  exact lf_loop n o hw N 0 0 h a K uv (Nat.zero_add _) (QF.rf n.1 n.2.2.1 n.2.1) (by rw [ofR]) (by omega)
set_option maxRecDepth 100000 in
theorem lv_loop {h0 : AH} {a0 K0 : Nat → Nat} (n0 : QN h0 a0 K0 N tc LL kp) (o : LkO N LL kp) : ∀ (m l : Nat) (x : Int) (h : AH) (a K : Nat → Nat) (v4 : AV), l + m = N → QF h0 a0 K0 h a K QY → ofR LL kp 2 l x → (0 ≤ x ∧ x ≤ (l : Int)) → EV mX10_lessonsWithoutVariables 10 4 [rv 0, iv x, iv (l : Int), v4] [] h (oi fun y h1 => ofR LL kp 2 N y ∧ ∃ a1 K1, QF h0 a0 K0 h1 a1 K1 QY)
  | 0, l, x, h, a, K, v4, hl, q, hx, hx9 => by
    obtain rfl : l = N := by omega
    have n := n0.q q qy31
    have hC := n.1.1
    have hN := n.2.2.2.1.1
    refine ev_iload_n dX10_lessonsWithoutVariables_4 rfl ?_
    refine ev_aload_n dX10_lessonsWithoutVariables_5 rfl ?_
    refine ev_getrv dX10_lessonsWithoutVariables_6 fX10_48 hC.k0 hC.n0 rfl hC.v0_6 ?_
    refine ev_getiv dX10_lessonsWithoutVariables_9 fX10_83 hC.k31 hC.n31 rfl hN ?_
    refine ev_icmpge 80 dX10_lessonsWithoutVariables_12 (fun hb => ?_) (fun h_no => (by exfalso; omega))
    refine ev_iload_n dX10_lessonsWithoutVariables_80 rfl ?_
    exact ev_iret dX10_lessonsWithoutVariables_81 (⟨_, rfl, hx, a, K, q⟩)
  | m + 1, l, x, h, a, K, v4, hl, q, hx, hx9 => by
    have n := n0.q q qy31
    have hC := n.1.1
    have hS := n.sn
    have hN := n.2.2.2.1.1
    have n6 := n.2.2.2.1.2.1
    have nx : ∀ (h1 : AH) (a1 K1 : Nat → Nat) (x1 : Int) (v4 : AV), QF h0 a0 K0 h1 a1 K1 QY → ofR LL kp 2 (l + 1) x1 → (0 ≤ x1 ∧ x1 ≤ ((l + 1 : Nat) : Int)) → EV mX10_lessonsWithoutVariables 10 74 [rv 0, iv x1, iv (l : Int), v4] [] h1 (oi fun y h1 => ofR LL kp 2 N y ∧ ∃ a1 K1, QF h0 a0 K0 h1 a1 K1 QY) := by
      intro h1 a1 K1 x1 v4 b1 b2 b3
      refine ev_iin2 dX10_lessonsWithoutVariables_74 (by unfold ir; omega) ?_
      refine ev_gt 4 dX10_lessonsWithoutVariables_77 ?_
      rw [show (l : Int) + 1 = ((l + 1 : Nat) : Int) by omega]
      exact lv_loop n0 o m (l + 1) x1 h1 a1 K1 v4 (by omega) b1 b2 b3
    have hne : 0 < (LL l).length := List.length_pos_iff.mpr (o.ne l (by omega))
    refine ev_iload_n dX10_lessonsWithoutVariables_4 rfl ?_
    refine ev_aload_n dX10_lessonsWithoutVariables_5 rfl ?_
    refine ev_getrv dX10_lessonsWithoutVariables_6 fX10_48 hC.k0 hC.n0 rfl hC.v0_6 ?_
    refine ev_getiv dX10_lessonsWithoutVariables_9 fX10_83 hC.k31 hC.n31 rfl hN ?_
    refine ev_icmpge 80 dX10_lessonsWithoutVariables_12 (fun h_no => (by exfalso; omega)) (fun hb => ?_)
    refine ev_aload_n dX10_lessonsWithoutVariables_15 rfl ?_
    refine ev_getrv dX10_lessonsWithoutVariables_16 fX10_48 hC.k0 hC.n0 rfl hC.v0_6 ?_
    refine ev_iload_n dX10_lessonsWithoutVariables_19 rfl ?_
    refine ev_cvr dX10_lessonsWithoutVariables_20 lX10_210 (s_termAt hC.st31) (by decide) hC.k31 hC.n31 rfl rfl rfl (Nat.le_of_ble_eq_true rfl) rfl (fun r h1 q9 => ?_)
    obtain ⟨er, e⟩ := q9
    rw [e, er, hS.tm (p := (l : Int)) (by omega), show ((l : Nat) : Int).toNat = l from rfl]
    refine ev_ast3 dX10_lessonsWithoutVariables_23 ?_
    refine ev_aload_n dX10_lessonsWithoutVariables_24 rfl ?_
    refine ev_ifnull 74 dX10_lessonsWithoutVariables_25 (fun h_no => (by exfalso; omega)) (fun hb2 => ?_)
    refine ev_aload_n dX10_lessonsWithoutVariables_28 rfl ?_
    refine ev_getrv dX10_lessonsWithoutVariables_29 fX10_29 hC.k0 hC.n0 rfl hC.v0_3 ?_
    refine ev_aload_n dX10_lessonsWithoutVariables_32 rfl ?_
    refine ev_aload_n dX10_lessonsWithoutVariables_33 rfl ?_
    refine ev_getrv dX10_lessonsWithoutVariables_34 fX10_48 hC.k0 hC.n0 rfl hC.v0_6 ?_
    refine ev_iconst dX10_lessonsWithoutVariables_37 ?_
    refine ev_cvi dX10_lessonsWithoutVariables_38 lX10_154 (q_go n o (l := l) (by omega)) (by decide) hC.k8 hC.n8 rfl rfl rfl (Nat.le_of_ble_eq_true rfl) rfl (fun z h1 q9 => ?_)
    obtain ⟨r, S, a1, K1, q1, q2, q3, -, q5⟩ := q9
    have hC1 := q3.g.1
    by_cases r0 : r.1 = 0
    · skip
      rw [if_pos r0] at q2
      obtain ⟨M, T, τ, c, f1, f2, f3, f4⟩ := q5 r0
      have z0 := fnR_sz q1 r0 0 hne
      refine ev_ifeq 74 dX10_lessonsWithoutVariables_41 (fun h_no => (by exfalso; omega)) (fun hb3 => ?_)
      refine ev_aload_n dX10_lessonsWithoutVariables_44 rfl ?_
      refine ev_getrv dX10_lessonsWithoutVariables_45 fX10_29 hC1.k0 hC1.n0 rfl hC1.v0_3 ?_
      refine ev_aload_n dX10_lessonsWithoutVariables_48 rfl ?_
      refine ev_getrv dX10_lessonsWithoutVariables_49 fX10_38 hC1.k0 hC1.n0 rfl hC1.v0_4 ?_
      refine ev_cvv dX10_lessonsWithoutVariables_52 lX10_189 (q_whole (sh := 27) f1 q3.2.1 q3.2.2.2 f2 f3 f4 z0 (by decide)) (by decide) hC1.k8 hC1.n8 rfl rfl rfl (Nat.le_of_ble_eq_true rfl) rfl (fun h2 q9 => ?_)
      obtain ⟨a2, K2, s1, s2, s3⟩ := q9
      have hC2 := s1.g.1
      have q6 : QF h0 a0 K0 h2 a2 K2 QY := (q.tr (q3.wk (fun _ z => z.elim))).tr (s1.wk (shY_q (by decide)))
      have ev : ofV r S 2 = if ((cnT (S.2.1 0) []).2.length : Int) = 0 then 1 else 0 := by
        unfold ofV
        rw [if_neg (fun z => z.elim (fun y => y r0) (fun y => absurd y (by decide))), if_neg (by decide), if_neg (by decide)]
        by_cases c : (cnT (S.2.1 0) []).2.length = 0
        · rw [if_pos c, if_pos (by omega)]
        · rw [if_neg c, if_neg (by omega)]
      refine ev_iload_n dX10_lessonsWithoutVariables_55 rfl ?_
      refine ev_aload_n dX10_lessonsWithoutVariables_56 rfl ?_
      refine ev_getrv dX10_lessonsWithoutVariables_57 fX10_38 hC2.k0 hC2.n0 rfl hC2.v0_4 ?_
      refine ev_iconst dX10_lessonsWithoutVariables_60 ?_
      refine ev_cvi dX10_lessonsWithoutVariables_61 lX10_181 (s_measure s3.t (w := 2) (by decide)) (by decide) hC2.k27 hC2.n27 rfl rfl rfl (Nat.le_of_ble_eq_true rfl) rfl (fun y h3 q9 => ?_)
      obtain ⟨y1, e3⟩ := q9
      rw [nuF, if_neg (by decide), if_neg (by decide), if_pos rfl] at y1
      rw [← y1] at ev
      rw [e3]
      by_cases c : y = 0
      · skip
        rw [if_pos c] at ev
        refine ev_ifne 71 dX10_lessonsWithoutVariables_64 (fun h_no => (by exfalso; omega)) (fun hb4 => ?_)
        refine ev_iconst dX10_lessonsWithoutVariables_67 ?_
        refine ev_gt 72 dX10_lessonsWithoutVariables_68 ?_
        refine ev_iadd dX10_lessonsWithoutVariables_72 (by unfold ir; omega) ?_
        refine ev_ist1 dX10_lessonsWithoutVariables_73 ?_
        exact nx h2 a2 K2 (x + 1) _ q6 ⟨x, r, S, hx, q1, by rw [ev]⟩ (by omega)
      rw [if_neg c] at ev
      refine ev_ifne 71 dX10_lessonsWithoutVariables_64 (fun hb4 => ?_) (fun h_no => (by exfalso; omega))
      refine ev_iconst dX10_lessonsWithoutVariables_71 ?_
      refine ev_iadd dX10_lessonsWithoutVariables_72 (by unfold ir; omega) ?_
      refine ev_ist1 dX10_lessonsWithoutVariables_73 ?_
      exact nx h2 a2 K2 (x + 0) _ q6 ⟨x, r, S, hx, q1, by rw [ev]⟩ (by omega)
    rw [if_neg r0] at q2
    have ev := ofV_n q1 r0 (w := 2) (by decide)
    refine ev_ifeq 74 dX10_lessonsWithoutVariables_41 (fun hb3 => ?_) (fun h_no => (by exfalso; omega))
    exact nx h1 a1 K1 x _ (q.tr (q3.wk (fun _ z => z.elim))) ⟨x, r, S, hx, q1, by rw [ev]; omega⟩ (by omega)
set_option maxRecDepth 100000 in
theorem s_lesVar (n : QN h a K N tc LL kp) (o : LkO N LL kp) : CV mX10_lessonsWithoutVariables 10 [rv 0] h (oi fun y h1 => ofR LL kp 2 N y ∧ ∃ a1 K1, QF h a K h1 a1 K1 QY) := by
  refine cv_of cdX10_lessonsWithoutVariables ?_
  show EV _ _ 0 [rv 0, uv, uv, uv] [] h _
  refine ev_iconst dX10_lessonsWithoutVariables_0 ?_
  refine ev_ist1 dX10_lessonsWithoutVariables_1 ?_
  refine ev_iconst dX10_lessonsWithoutVariables_2 ?_
  refine ev_ist2 dX10_lessonsWithoutVariables_3 ?_
  exact lv_loop n o N 0 0 h a K uv (Nat.zero_add _) (QF.rf n.1 n.2.2.1 n.2.1) (by rw [ofR]) (by omega)
set_option maxRecDepth 100000 in
theorem la_loop {h0 : AH} {a0 K0 : Nat → Nat} (n0 : QN h0 a0 K0 N tc LL kp) (o : LkO N LL kp) : ∀ (m l : Nat) (b z : Int) (h : AH) (a K : Nat → Nat), l + m = N → QF h0 a0 K0 h a K QY → lgR LL kp l b z → z ≤ 200 → EV mX10_largest 11 6 [rv 0, iv b, iv z, iv (l : Int)] [] h (fun oo h1 => ∃ b z, lgR LL kp N b z ∧ ((b < 0 ∧ oo = xv 3 ∧ QR h0 a0 K0 QY h1) ∨ (0 ≤ b ∧ oo = iv b ∧ ∃ a1 K1, QF h0 a0 K0 h1 a1 K1 QY)))
  | 0, l, b, z, h, a, K, hl, q, hx, hz => by
    obtain rfl : l = N := by omega
    have n := n0.q q qy31
    have hC := n.1.1
    have hN := n.2.2.2.1.1
    refine ev_iload_n dX10_largest_6 rfl ?_
    refine ev_aload_n dX10_largest_7 rfl ?_
    refine ev_getrv dX10_largest_8 fX10_48 hC.k0 hC.n0 rfl hC.v0_6 ?_
    refine ev_getiv dX10_largest_11 fX10_83 hC.k31 hC.n31 rfl hN ?_
    refine ev_icmpge 63 dX10_largest_14 (fun hb => ?_) (fun h_no => (by exfalso; omega))
    refine ev_iload_n dX10_largest_63 rfl ?_
    by_cases c : b < 0
    · skip
      refine ev_ifge 77 dX10_largest_64 (fun h_no => (by exfalso; omega)) (fun hb2 => ?_)
      exact ev_throwx _ tk_3 (List.mem_of_getElem? (i := 13) rfl) dX10_largest_67 dX10_largest_70 dX10_largest_71 dX10_largest_73 dX10_largest_76 rfl (Nat.le_of_ble_eq_true rfl) (⟨b, z, hx, Or.inl ⟨c, rfl, h, a, K, rfl, q⟩⟩)
    refine ev_ifge 77 dX10_largest_64 (fun hb2 => ?_) (fun h_no => (by exfalso; omega))
    refine ev_iload_n dX10_largest_77 rfl ?_
    exact ev_iret dX10_largest_78 (⟨b, z, hx, Or.inr ⟨by omega, rfl, a, K, q⟩⟩)
  | m + 1, l, b, z, h, a, K, hl, q, hx, hz => by
    have n := n0.q q qy31
    have hC := n.1.1
    have hS := n.sn
    have hN := n.2.2.2.1.1
    have n6 := n.2.2.2.1.2.1
    have nx : ∀ (h1 : AH) (a1 K1 : Nat → Nat) (b1 z1 : Int), QF h0 a0 K0 h1 a1 K1 QY → lgR LL kp (l + 1) b1 z1 → z1 ≤ 200 → EV mX10_largest 11 57 [rv 0, iv b1, iv z1, iv (l : Int)] [] h1 (fun oo h1 => ∃ b z, lgR LL kp N b z ∧ ((b < 0 ∧ oo = xv 3 ∧ QR h0 a0 K0 QY h1) ∨ (0 ≤ b ∧ oo = iv b ∧ ∃ a1 K1, QF h0 a0 K0 h1 a1 K1 QY))) := by
      intro h1 a1 K1 b1 z1 c1 c2 c3
      refine ev_iin3 dX10_largest_57 (by unfold ir; omega) ?_
      refine ev_gt 6 dX10_largest_60 ?_
      rw [show (l : Int) + 1 = ((l + 1 : Nat) : Int) by omega]
      exact la_loop n0 o m (l + 1) b1 z1 h1 a1 K1 (by omega) c1 c2 c3
    refine ev_iload_n dX10_largest_6 rfl ?_
    refine ev_aload_n dX10_largest_7 rfl ?_
    refine ev_getrv dX10_largest_8 fX10_48 hC.k0 hC.n0 rfl hC.v0_6 ?_
    refine ev_getiv dX10_largest_11 fX10_83 hC.k31 hC.n31 rfl hN ?_
    refine ev_icmpge 63 dX10_largest_14 (fun h_no => (by exfalso; omega)) (fun hb => ?_)
    refine ev_aload_n dX10_largest_17 rfl ?_
    refine ev_aload_n dX10_largest_18 rfl ?_
    refine ev_getrv dX10_largest_19 fX10_48 hC.k0 hC.n0 rfl hC.v0_6 ?_
    refine ev_iload_n dX10_largest_22 rfl ?_
    refine ev_cvr dX10_largest_23 lX10_210 (s_termAt hC.st31) (by decide) hC.k31 hC.n31 rfl rfl rfl (Nat.le_of_ble_eq_true rfl) rfl (fun r h1 q9 => ?_)
    obtain ⟨er, e⟩ := q9
    rw [e, er, hS.tm (p := (l : Int)) (by omega), show ((l : Nat) : Int).toNat = l from rfl]
    refine ev_aload_n dX10_largest_26 rfl ?_
    refine ev_getrv dX10_largest_27 fX10_38 hC.k0 hC.n0 rfl hC.v0_4 ?_
    refine ev_cvi dX10_largest_30 lX10_213 (g_spells n o (l := l) (sh := 27) (by omega) (by decide)) (by decide) hC.k0 hC.n0 rfl rfl rfl (Nat.le_of_ble_eq_true rfl) rfl (fun y h1 q9 => ?_)
    rcases q9 with ⟨z1, r1, S1, M1, T1, τ1, a1, K1, u1, u2, u3, u4, -, u6⟩ | ⟨z1, r1, S1, a1, K1, u1, u2, u4⟩
    · skip
      have hC1 := u4.g.1
      have u4' : QF h0 a0 K0 h1 a1 K1 QY := q.tr (u4.wk (shY_q (by decide)))
      have ln : h1.vl 27 1 = (sz (S1.2.1 0) : Int) := by have := u6.1.2.2.1; rw [cn_len] at this; exact this
      refine ev_ifeq 57 dX10_largest_33 (fun h_no => (by exfalso; omega)) (fun hb2 => ?_)
      refine ev_aload_n dX10_largest_36 rfl ?_
      refine ev_getrv dX10_largest_37 fX10_38 hC1.k0 hC1.n0 rfl hC1.v0_4 ?_
      refine ev_getiv dX10_largest_40 fX10_224 hC1.k27 hC1.n27 rfl ln ?_
      refine ev_iload_n dX10_largest_43 rfl ?_
      by_cases c : z < (sz (S1.2.1 0) : Int)
      · skip
        refine ev_icmple 57 dX10_largest_44 (fun h_no => (by exfalso; omega)) (fun hb3 => ?_)
        refine ev_iload_n dX10_largest_47 rfl ?_
        refine ev_ist1 dX10_largest_48 ?_
        refine ev_aload_n dX10_largest_49 rfl ?_
        refine ev_getrv dX10_largest_50 fX10_38 hC1.k0 hC1.n0 rfl hC1.v0_4 ?_
        refine ev_getiv dX10_largest_53 fX10_224 hC1.k27 hC1.n27 rfl ln ?_
        refine ev_ist2 dX10_largest_56 ?_
        exact nx h1 a1 K1 _ _ u4' ⟨b, z, r1, S1, hx, u1, Or.inr ⟨⟨u2, c⟩, rfl, rfl⟩⟩ (by omega)
      refine ev_icmple 57 dX10_largest_44 (fun hb3 => ?_) (fun h_no => (by exfalso; omega))
      exact nx h1 a1 K1 _ _ u4' ⟨b, z, r1, S1, hx, u1, Or.inl ⟨fun y => c y.2, rfl, rfl⟩⟩ hz
    refine ev_ifeq 57 dX10_largest_33 (fun hb2 => ?_) (fun h_no => (by exfalso; omega))
    exact nx h1 a1 K1 _ _ (q.tr (u4.wk (shY_q (by decide)))) ⟨b, z, r1, S1, hx, u1, Or.inl ⟨fun y => u2 y.1, rfl, rfl⟩⟩ hz
set_option maxRecDepth 100000 in
theorem g_largest (n : QN h a K N tc LL kp) (o : LkO N LL kp) : CV mX10_largest 11 [rv 0] h (fun oo h1 => ∃ b z, lgR LL kp N b z ∧ ((b < 0 ∧ oo = xv 3 ∧ QR h a K QY h1) ∨ (0 ≤ b ∧ oo = iv b ∧ ∃ a1 K1, QF h a K h1 a1 K1 QY))) := by
  refine cv_of cdX10_largest ?_
  show EV _ _ 0 [rv 0, uv, uv, uv] [] h _
  refine ev_iconst dX10_largest_0 ?_
  refine ev_ist1 dX10_largest_1 ?_
  refine ev_iconst dX10_largest_2 ?_
  refine ev_ist2 dX10_largest_3 ?_
  refine ev_iconst dX10_largest_4 ?_
  refine ev_ist3 dX10_largest_5 ?_
  exact la_loop n o N 0 (-1) 0 h a K (Nat.zero_add _) (QF.rf n.1 n.2.2.1 n.2.1) ⟨rfl, rfl⟩ (by decide)
set_option maxRecDepth 100000 in
theorem me_loop {h0 : AH} {a0 K0 : Nat → Nat} (n0 : QN h0 a0 K0 N tc LL kp) (o : LkO N LL kp) : ∀ (m l : Nat) (s c : Int) (h : AH) (a K : Nat → Nat), l + m = N → QF h0 a0 K0 h a K QY → ofR LL kp 1 l s → ofR LL kp 0 l c → (0 ≤ s ∧ s ≤ 200 * (l : Int)) → (0 ≤ c ∧ c ≤ (l : Int)) → EV mX10_meanSize 11 6 [rv 0, iv s, iv c, iv (l : Int)] [] h (fun oo h1 => ∃ s c, ofR LL kp 1 N s ∧ ofR LL kp 0 N c ∧ ((c = 0 ∧ oo = xv 5 ∧ QR h0 a0 K0 QY h1) ∨ (c ≠ 0 ∧ oo = dv (FP.ddiv (FP.i2d (Int32.ofInt s)) (FP.i2d (Int32.ofInt c))) ∧ ∃ a1 K1, QF h0 a0 K0 h1 a1 K1 QY)))
  | 0, l, s, c, h, a, K, hl, q, hs, hc, hs9, hc9 => by
    obtain rfl : l = N := by omega
    have n := n0.q q qy31
    have hC := n.1.1
    have hN := n.2.2.2.1.1
    have n6 := n.2.2.2.1.2.1
    refine ev_iload_n dX10_meanSize_6 rfl ?_
    refine ev_aload_n dX10_meanSize_7 rfl ?_
    refine ev_getrv dX10_meanSize_8 fX10_48 hC.k0 hC.n0 rfl hC.v0_6 ?_
    refine ev_getiv dX10_meanSize_11 fX10_83 hC.k31 hC.n31 rfl hN ?_
    refine ev_icmpge 55 dX10_meanSize_14 (fun hb => ?_) (fun h_no => (by exfalso; omega))
    refine ev_iload_n dX10_meanSize_55 rfl ?_
    by_cases c0 : c = 0
    · skip
      refine ev_ifne 69 dX10_meanSize_56 (fun h_no => (by exfalso; omega)) (fun hb2 => ?_)
      exact ev_throw _ tk_5 (List.mem_of_getElem? (i := 13) rfl) dX10_meanSize_59 dX10_meanSize_62 dX10_meanSize_63 dX10_meanSize_65 dX10_meanSize_68 rfl (Nat.le_of_ble_eq_true rfl) (⟨s, c, hs, hc, Or.inl ⟨c0, rfl, h, a, K, rfl, q⟩⟩)
    have hne : vf_n64 (FP.ddiv (FP.i2d (Int32.ofInt s)) (FP.i2d (Int32.ofInt c))) := by
      have := nn64 (c - 1).toNat (by omega) s.toNat (by omega)
      rw [show ((s.toNat : Nat) : Int) = s by omega, show (((c - 1).toNat + 1 : Nat) : Int) = c by omega] at this
      exact this
    refine ev_ifne 69 dX10_meanSize_56 (fun hb2 => ?_) (fun h_no => (by exfalso; omega))
    refine ev_iload_n dX10_meanSize_69 rfl ?_
    refine ev_i2d dX10_meanSize_70 ?_
    refine ev_iload_n dX10_meanSize_71 rfl ?_
    refine ev_i2d dX10_meanSize_72 ?_
    refine ev_ddiv dX10_meanSize_73 (by assumption) ?_
    exact ev_dret dX10_meanSize_74 (⟨s, c, hs, hc, Or.inr ⟨c0, rfl, a, K, q⟩⟩)
  | m + 1, l, s, c, h, a, K, hl, q, hs, hc, hs9, hc9 => by
    have n := n0.q q qy31
    have hC := n.1.1
    have hS := n.sn
    have hN := n.2.2.2.1.1
    have n6 := n.2.2.2.1.2.1
    have nx : ∀ (h1 : AH) (a1 K1 : Nat → Nat) (s1 c1 : Int), QF h0 a0 K0 h1 a1 K1 QY → ofR LL kp 1 (l + 1) s1 → ofR LL kp 0 (l + 1) c1 → (0 ≤ s1 ∧ s1 ≤ 200 * ((l + 1 : Nat) : Int)) → (0 ≤ c1 ∧ c1 ≤ ((l + 1 : Nat) : Int)) → EV mX10_meanSize 11 49 [rv 0, iv s1, iv c1, iv (l : Int)] [] h1 (fun oo h1 => ∃ s c, ofR LL kp 1 N s ∧ ofR LL kp 0 N c ∧ ((c = 0 ∧ oo = xv 5 ∧ QR h0 a0 K0 QY h1) ∨ (c ≠ 0 ∧ oo = dv (FP.ddiv (FP.i2d (Int32.ofInt s)) (FP.i2d (Int32.ofInt c))) ∧ ∃ a1 K1, QF h0 a0 K0 h1 a1 K1 QY))) := by
      intro h1 a1 K1 s1 c1 d1 d2 d3 d4 d5
      refine ev_iin3 dX10_meanSize_49 (by unfold ir; omega) ?_
      refine ev_gt 6 dX10_meanSize_52 ?_
      rw [show (l : Int) + 1 = ((l + 1 : Nat) : Int) by omega]
      exact me_loop n0 o m (l + 1) s1 c1 h1 a1 K1 (by omega) d1 d2 d3 d4 d5
    refine ev_iload_n dX10_meanSize_6 rfl ?_
    refine ev_aload_n dX10_meanSize_7 rfl ?_
    refine ev_getrv dX10_meanSize_8 fX10_48 hC.k0 hC.n0 rfl hC.v0_6 ?_
    refine ev_getiv dX10_meanSize_11 fX10_83 hC.k31 hC.n31 rfl hN ?_
    refine ev_icmpge 55 dX10_meanSize_14 (fun h_no => (by exfalso; omega)) (fun hb => ?_)
    refine ev_aload_n dX10_meanSize_17 rfl ?_
    refine ev_aload_n dX10_meanSize_18 rfl ?_
    refine ev_getrv dX10_meanSize_19 fX10_48 hC.k0 hC.n0 rfl hC.v0_6 ?_
    refine ev_iload_n dX10_meanSize_22 rfl ?_
    refine ev_cvr dX10_meanSize_23 lX10_210 (s_termAt hC.st31) (by decide) hC.k31 hC.n31 rfl rfl rfl (Nat.le_of_ble_eq_true rfl) rfl (fun r h1 q9 => ?_)
    obtain ⟨er, e⟩ := q9
    rw [e, er, hS.tm (p := (l : Int)) (by omega), show ((l : Nat) : Int).toNat = l from rfl]
    refine ev_aload_n dX10_meanSize_26 rfl ?_
    refine ev_getrv dX10_meanSize_27 fX10_38 hC.k0 hC.n0 rfl hC.v0_4 ?_
    refine ev_cvi dX10_meanSize_30 lX10_213 (g_spells n o (l := l) (sh := 27) (by omega) (by decide)) (by decide) hC.k0 hC.n0 rfl rfl rfl (Nat.le_of_ble_eq_true rfl) rfl (fun y h1 q9 => ?_)
    rcases q9 with ⟨z1, r1, S1, M1, T1, τ1, a1, K1, u1, u2, u3, u4, -, u6⟩ | ⟨z1, r1, S1, a1, K1, u1, u2, u4⟩
    · skip
      have hC1 := u4.g.1
      have u4' : QF h0 a0 K0 h1 a1 K1 QY := q.tr (u4.wk (shY_q (by decide)))
      have ln : h1.vl 27 1 = (sz (S1.2.1 0) : Int) := by have := u6.1.2.2.1; rw [cn_len] at this; exact this
      have v1 : ofV r1 S1 1 = (sz (S1.2.1 0) : Int) := by
        unfold ofV
        rw [if_neg (fun z => z.elim (fun y => y u2) (fun y => absurd y (by decide))), if_neg (by decide), if_pos rfl]
      have v0 : ofV r1 S1 0 = 1 := by
        rw [ofV_f (L := LL l) (kp := kp) (Or.inl rfl), if_pos u2]
      refine ev_ifeq 49 dX10_meanSize_33 (fun h_no => (by exfalso; omega)) (fun hb2 => ?_)
      refine ev_iload_n dX10_meanSize_36 rfl ?_
      refine ev_aload_n dX10_meanSize_37 rfl ?_
      refine ev_getrv dX10_meanSize_38 fX10_38 hC1.k0 hC1.n0 rfl hC1.v0_4 ?_
      refine ev_getiv dX10_meanSize_41 fX10_224 hC1.k27 hC1.n27 rfl ln ?_
      refine ev_iadd dX10_meanSize_44 (by unfold ir; omega) ?_
      refine ev_ist1 dX10_meanSize_45 ?_
      refine ev_iin2 dX10_meanSize_46 (by unfold ir; omega) ?_
      exact nx h1 a1 K1 _ _ u4' ⟨s, r1, S1, hs, u1, by rw [v1]⟩ ⟨c, r1, S1, hc, u1, by rw [v0]⟩ (by omega) (by omega)
    have v1 := ofV_n u1 u2 (w := 1) (by decide)
    have v0 := ofV_n u1 u2 (w := 0) (by decide)
    refine ev_ifeq 49 dX10_meanSize_33 (fun hb2 => ?_) (fun h_no => (by exfalso; omega))
    exact nx h1 a1 K1 _ _ (q.tr (u4.wk (shY_q (by decide)))) ⟨s, r1, S1, hs, u1, by rw [v1]; omega⟩ ⟨c, r1, S1, hc, u1, by rw [v0]; omega⟩ (by omega) (by omega)
set_option maxRecDepth 100000 in
theorem g_meanSize (n : QN h a K N tc LL kp) (o : LkO N LL kp) : CV mX10_meanSize 11 [rv 0] h (fun oo h1 => ∃ s c, ofR LL kp 1 N s ∧ ofR LL kp 0 N c ∧ ((c = 0 ∧ oo = xv 5 ∧ QR h a K QY h1) ∨ (c ≠ 0 ∧ oo = dv (FP.ddiv (FP.i2d (Int32.ofInt s)) (FP.i2d (Int32.ofInt c))) ∧ ∃ a1 K1, QF h a K h1 a1 K1 QY))) := by
  refine cv_of cdX10_meanSize ?_
  show EV _ _ 0 [rv 0, uv, uv, uv] [] h _
  refine ev_iconst dX10_meanSize_0 ?_
  refine ev_ist1 dX10_meanSize_1 ?_
  refine ev_iconst dX10_meanSize_2 ?_
  refine ev_ist2 dX10_meanSize_3 ?_
  refine ev_iconst dX10_meanSize_4 ?_
  refine ev_ist3 dX10_meanSize_5 ?_
  exact me_loop n o N 0 0 0 h a K (Nat.zero_add _) (QF.rf n.1 n.2.2.1 n.2.1) (by rw [ofR]) (by rw [ofR]) (by decide) (by decide)
set_option maxRecDepth 100000 in
theorem g_typedShare (n : QN h a K N tc LL kp) (o : LkO N LL kp) : CV mX10_typedShare 11 [rv 0] h (fun oo h1 => (N = 0 ∧ oo = xv 5 ∧ h1 = h.thr) ∨ (N ≠ 0 ∧ ∃ m, ofR LL kp 0 N m ∧ oo = fv (FP.fdiv (FP.i2f (Int32.ofInt m)) (FP.i2f (Int32.ofInt (N : Int)))) ∧ ∃ a1 K1, QF h a K h1 a1 K1 QY)) := by
  have hC := n.1.1
  have hN := n.2.2.2.1.1
  have n6 := n.2.2.2.1.2.1
  refine cv_of cdX10_typedShare ?_
  show EV _ _ 0 [rv 0] [] h _
  refine ev_aload_n dX10_typedShare_0 rfl ?_
  refine ev_getrv dX10_typedShare_1 fX10_48 hC.k0 hC.n0 rfl hC.v0_6 ?_
  refine ev_getiv dX10_typedShare_4 fX10_83 hC.k31 hC.n31 rfl hN ?_
  by_cases c : N = 0
  · skip
    refine ev_ifne 21 dX10_typedShare_7 (fun h_no => (by exfalso; omega)) (fun hb => ?_)
    exact ev_throww _ tk_5 (List.mem_of_getElem? (i := 24) rfl) dX10_typedShare_10 dX10_typedShare_13 dX10_typedShare_14 dX10_typedShare_17 dX10_typedShare_20 rfl (Nat.le_of_ble_eq_true rfl) (Or.inl ⟨c, rfl, rfl⟩)
  refine ev_ifne 21 dX10_typedShare_7 (fun hb => ?_) (fun h_no => (by exfalso; omega))
  refine ev_aload_n dX10_typedShare_21 rfl ?_
  refine ev_iconst dX10_typedShare_22 ?_
  refine ev_cvi dX10_typedShare_23 lX10_301 (s_lesFail n o (w := 0) (Or.inl rfl)) (by decide) hC.k0 hC.n0 rfl rfl rfl (Nat.le_of_ble_eq_true rfl) rfl (fun m h1 q => ?_)
  obtain ⟨o1, a1, K1, q1⟩ := q
  have n1 := n.q q1 qy31
  have hC1 := n1.1.1
  have hN1 := n1.2.2.2.1.1
  have m9 := ofR_le0 N m o1
  have hne : vf_n32 (FP.fdiv (FP.i2f (Int32.ofInt m)) (FP.i2f (Int32.ofInt (N : Int)))) := by
    have := (nn32 m.toNat (by omega) (N - 1) (by omega)).1
    rw [show ((m.toNat : Nat) : Int) = m by omega, show ((N - 1 + 1 : Nat) : Int) = (N : Int) by omega] at this
    exact this
  refine ev_i2f dX10_typedShare_26 ?_
  refine ev_aload_n dX10_typedShare_27 rfl ?_
  refine ev_getrv dX10_typedShare_28 fX10_48 hC1.k0 hC1.n0 rfl hC1.v0_6 ?_
  refine ev_getiv dX10_typedShare_31 fX10_83 hC1.k31 hC1.n31 rfl hN1 ?_
  refine ev_i2f dX10_typedShare_34 ?_
  refine ev_fdiv dX10_typedShare_35 (by assumption) ?_
  exact ev_fret dX10_typedShare_36 (Or.inr ⟨c, m, o1, rfl, a1, K1, q1⟩)
end Sum
