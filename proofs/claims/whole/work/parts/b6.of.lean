/-! of all lessons: the reference -/
abbrev OfF : List Nat := [34, 35, 36, 49, 50, 51, 52, 53, 54, 55, 59, 60, 68]
def ofV (r : IR) (S : IS) (w : Int) : Int := if r.1 ≠ 0 ∨ 2 < w then (if r.1 ≠ 0 ∧ w = r.1 then 1 else 0) else if w = 0 then 1 else if w = 1 then (sz (S.2.1 0) : Int) else if (cnT (S.2.1 0) []).2.length = 0 then 1 else 0
/-- the sum over the first lessons -/
def ofR (LL : Nat → List Nd) (kp : Nat → Option TE) (w : Int) : Nat → Int → Prop
  | 0, s => s = 0
  | n + 1, s => ∃ s0 r S, ofR LL kp w n s0 ∧ fnR (LL n) kp r S ∧ s = s0 + ofV r S w
theorem ofR_det {LL : Nat → List Nd} {kp : Nat → Option TE} {w : Int} : ∀ (n : Nat) (s s' : Int), ofR LL kp w n s → ofR LL kp w n s' → s = s'
  | 0, s, s', h, h' => Eq.trans h (Eq.symm h')
  | n + 1, s, s', ⟨a, r, S, h1, h2, h3⟩, ⟨a', r', S', h1', h2', h3'⟩ => by
    obtain ⟨e1, e2⟩ := fnR_det h2 h2'
    have e3 := ofR_det n _ _ h1 h1'
    subst e1
    rw [h3, h3', e3]
    by_cases c : r.1 = 0
    · rw [e2 c]
    · unfold ofV
      rw [if_pos (Or.inl c), if_pos (Or.inl c)]
theorem ofV_le {r : IR} {S : IS} {w : Int} {L : List Nd} {kp : Nat → Option TE} (h : fnR L kp r S) (hl : L ≠ []) : 0 ≤ ofV r S w ∧ ofV r S w ≤ 200 := by
  unfold ofV
  by_cases c : r.1 ≠ 0 ∨ 2 < w
  · rw [if_pos c]; split <;> omega
  · rw [if_neg c]
    have c1 : r.1 = 0 := Decidable.byContradiction fun z => c (Or.inl z)
    have := fnR_sz h c1 0 (List.length_pos_iff.mpr hl)
    split
    · omega
    · split
      · omega
      · split <;> omega
set_option maxRecDepth 100000 in
theorem of_loop {h0 : AH} {w : Int} {N : Nat} {LL : Nat → List Nd} {kp : Nat → Option TE} (hI0 : RI h0) (hN0 : NV h0 N LL) (hw : 0 ≤ w) :
    ∀ (m l : Nat) (s : Int) (h : AH) (v4 : AV), l + m = N → KP h0 h RfA OfF → KpJ h kp → ofR LL kp w l s → (0 ≤ s ∧ s ≤ 200 * (l : Int)) → (0 ≤ h0.vl 42 50 ∧ h0.vl 42 50 ≤ h.vl 42 50 ∧ h.vl 42 50 ≤ h0.vl 42 50 + 206010 * (l : Int)) → h0.vl 42 50 + 206010 * 6 ≤ 2147483000 →
    EV mX11_ofLessons 11 4 [rv 42, iv w, iv s, iv (l : Int), v4] [] h (oi fun x h1 => KP h0 h1 RfA OfF ∧ KpJ h1 kp ∧ (h0.vl 42 50 ≤ h1.vl 42 50 ∧ h1.vl 42 50 ≤ h0.vl 42 50 + 206010 * 6) ∧ ofR LL kp w N x)
  | 0, l, s, h, v4, hl, hK, hJ, hs, hs9, hst, hst9 => by
    obtain rfl : l = N := by omega
    have hI : RI h := hK.ri hI0
    have hN := hN0.kp hK
    have h6 := hN.2.1
    have n0 := hN.1
    refine ev_iload_n dX11_ofLessons_4 rfl ?_
    refine ev_aload_n dX11_ofLessons_5 rfl ?_
    refine ev_getrv dX11_ofLessons_6 fX11_13 hI.o hI.n rfl hI.v_v ?_
    refine ev_iconst dX11_ofLessons_9 ?_
    refine ev_ildv dX11_ofLessons_10 hI.k_v hI.n_v rfl (by omega) (by omega) n0 ?_
    refine ev_icmpge 106 dX11_ofLessons_11 (fun hb => ?_) (fun h_no => (by exfalso; omega))
    refine ev_iload_n dX11_ofLessons_106 rfl ?_
    exact ev_iret dX11_ofLessons_107 (⟨_, rfl, hK, hJ, by omega, hs⟩)
  | m + 1, l, s, h, v4, hl, hK, hJ, hs, hs9, hst, hst9 => by
    have hI : RI h := hK.ri hI0
    have hN := hN0.kp hK
    have h6 := hN.2.1
    have n0 := hN.1
    have nx : ∀ (h1 : AH) (s1 : Int) (v4 : AV), KP h0 h1 RfA OfF → KpJ h1 kp → ofR LL kp w (l + 1) s1 → (0 ≤ s1 ∧ s1 ≤ 200 * ((l + 1 : Nat) : Int)) → (h.vl 42 50 ≤ h1.vl 42 50 ∧ h1.vl 42 50 ≤ h.vl 42 50 + 206010) → EV mX11_ofLessons 11 100 [rv 42, iv w, iv s1, iv (l : Int), v4] [] h1 (oi fun x h1 => KP h0 h1 RfA OfF ∧ KpJ h1 kp ∧ (h0.vl 42 50 ≤ h1.vl 42 50 ∧ h1.vl 42 50 ≤ h0.vl 42 50 + 206010 * 6) ∧ ofR LL kp w N x) := by
      intro h1 s1 v4 K1 J1 o1 b1 t1
      refine ev_iin3 dX11_ofLessons_100 (by unfold ir; omega) ?_
      refine ev_gt 4 dX11_ofLessons_103 ?_
      rw [show (l : Int) + 1 = ((l + 1 : Nat) : Int) by omega]
      exact of_loop hI0 hN0 hw m (l + 1) s1 h1 v4 (by omega) K1 J1 o1 b1 (by omega) hst9
    refine ev_iload_n dX11_ofLessons_4 rfl ?_
    refine ev_aload_n dX11_ofLessons_5 rfl ?_
    refine ev_getrv dX11_ofLessons_6 fX11_13 hI.o hI.n rfl hI.v_v ?_
    refine ev_iconst dX11_ofLessons_9 ?_
    refine ev_ildv dX11_ofLessons_10 hI.k_v hI.n_v rfl (by omega) (by omega) n0 ?_
    refine ev_icmpge 106 dX11_ofLessons_11 (fun h_no => (by exfalso; omega)) (fun hb => ?_)
    refine ev_aload_n dX11_ofLessons_14 rfl ?_
    refine ev_iload_n dX11_ofLessons_15 rfl ?_
    refine ev_cvi dX11_ofLessons_16 lX11_367 (i_finds hI hN hJ (p := (l : Int)) (by omega) (by omega)) (by decide) hI.o hI.n rfl rfl rfl (Nat.le_of_ble_eq_true rfl) rfl (fun x h1 q => ?_)
    obtain ⟨q, J1⟩ := q
    obtain ⟨q1, q2, q3, r, S, q4, q5, q6, q7⟩ := q
    rw [show ((l : Nat) : Int).toNat = l from rfl] at q2 q4 q7
    have I1 : RI h1 := q1.ri hI
    have K1 : KP h0 h1 RfA OfF := hK.tr (q1.wk (by decide) (by decide))
    have hv := ofV_le (w := w) q4 q2.2.2.1
    have f52 : h1.vl 42 52 = r.1 := q5.1
    have on : ofR LL kp w (l + 1) (s + ofV r S w) := ⟨s, r, S, hs, q4, rfl⟩
    refine ev_ist4 dX11_ofLessons_19 ?_
    refine ev_iload dX11_ofLessons_21 rfl ?_
    by_cases c : r.1 = 0
    · skip
      rw [if_pos c] at q6
      refine ev_ifeq 31 dX11_ofLessons_23 (fun h_no => (by exfalso; omega)) (fun hb2 => ?_)
      refine ev_iload_n dX11_ofLessons_26 rfl ?_
      refine ev_iconst dX11_ofLessons_27 ?_
      by_cases c2 : 2 < w
      · skip
        have e : ofV r S w = 0 := by unfold ofV; rw [if_pos (Or.inr c2), if_neg (fun z => z.1 c)]
        refine ev_icmple 55 dX11_ofLessons_28 (fun h_no => (by exfalso; omega)) (fun hb3 => ?_)
        refine ev_iload_n dX11_ofLessons_31 rfl ?_
        refine ev_iload dX11_ofLessons_32 rfl ?_
        refine ev_ifne 49 dX11_ofLessons_34 (fun hb4 => ?_) (fun h_no => (by exfalso; omega))
        refine ev_iconst dX11_ofLessons_49 ?_
        refine ev_iadd dX11_ofLessons_50 (by unfold ir; omega) ?_
        refine ev_ist2 dX11_ofLessons_51 ?_
        refine ev_gt 100 dX11_ofLessons_52 ?_
        rw [show s + 0 = s + ofV r S w by omega]
        exact nx h1 _ _ K1 J1 on (by omega) (by omega)
      refine ev_icmple 55 dX11_ofLessons_28 (fun hb3 => ?_) (fun h_no => (by exfalso; omega))
      obtain ⟨N1, n1, R1⟩ := q7 c
      obtain ⟨T, g2, s2, s3, s4, s5⟩ := R1
      have hl0 : 0 < (LL l).length := List.length_pos_iff.mpr q2.2.2.1
      obtain ⟨-, a, a1, a2, a3⟩ := s2 0 hl0
      have z9 := fnR_sz q4 c 0 hl0
      have c3 : ¬ (r.1 ≠ 0 ∨ 2 < w) := fun z => z.elim (fun y => y c) c2
      refine ev_aload_n dX11_ofLessons_55 rfl ?_
      refine ev_aload_n dX11_ofLessons_56 rfl ?_
      refine ev_getrv dX11_ofLessons_57 fX11_137 I1.o I1.n rfl I1.v_type ?_
      refine ev_iconst dX11_ofLessons_60 ?_
      refine ev_ildv dX11_ofLessons_61 I1.k_type I1.n_type rfl (by omega) (by omega) a2 ?_
      refine ev_cvv dX11_ofLessons_62 lX11_370 (s_writesN (t := a) I1 g2 a1 (by rw [a3]; exact z9) (by unfold ir; omega)) (by decide) I1.o I1.n rfl rfl rfl (Nat.le_of_ble_eq_true rfl) rfl (fun h2 q => ?_)
      obtain ⟨k2, t2, g3, w3⟩ := q
      rw [a3] at w3
      have I2 : RI h2 := k2.ri I1
      have K2 : KP h0 h2 RfA OfF := K1.tr (k2.wk (by decide) (by decide))
      have J2 : KpJ h2 kp := J1.st k2 g3.sn
      have y1 := w3.1
      have y2 := w3.2.1
      refine ev_iload_n dX11_ofLessons_65 rfl ?_
      refine ev_iload_n dX11_ofLessons_66 rfl ?_
      by_cases d0 : w = 0
      · skip
        have e : ofV r S w = 1 := by unfold ofV; rw [if_neg c3, if_pos d0]
        refine ev_ifne 74 dX11_ofLessons_67 (fun h_no => (by exfalso; omega)) (fun hb5 => ?_)
        refine ev_iconst dX11_ofLessons_70 ?_
        refine ev_gt 98 dX11_ofLessons_71 ?_
        refine ev_iadd dX11_ofLessons_98 (by unfold ir; omega) ?_
        refine ev_ist2 dX11_ofLessons_99 ?_
        rw [show s + 1 = s + ofV r S w by omega]
        exact nx h2 _ _ K2 J2 on (by omega) (by omega)
      refine ev_ifne 74 dX11_ofLessons_67 (fun hb5 => ?_) (fun h_no => (by exfalso; omega))
      refine ev_iload_n dX11_ofLessons_74 rfl ?_
      refine ev_iconst dX11_ofLessons_75 ?_
      by_cases d1 : w = 1
      · skip
        have e : ofV r S w = (sz (S.2.1 0) : Int) := by unfold ofV; rw [if_neg c3, if_neg d0, if_pos d1]
        refine ev_icmpne 86 dX11_ofLessons_76 (fun h_no => (by exfalso; omega)) (fun hb6 => ?_)
        refine ev_aload_n dX11_ofLessons_79 rfl ?_
        refine ev_getiv dX11_ofLessons_80 fX11_262 I2.o I2.n rfl y1 ?_
        refine ev_gt 98 dX11_ofLessons_83 ?_
        refine ev_iadd dX11_ofLessons_98 (by unfold ir; omega) ?_
        refine ev_ist2 dX11_ofLessons_99 ?_
        rw [← e]
        exact nx h2 _ _ K2 J2 on (by omega) (by omega)
      refine ev_icmpne 86 dX11_ofLessons_76 (fun hb6 => ?_) (fun h_no => (by exfalso; omega))
      refine ev_aload_n dX11_ofLessons_86 rfl ?_
      refine ev_getiv dX11_ofLessons_87 fX11_265 I2.o I2.n rfl y2 ?_
      by_cases d2 : (cnT (S.2.1 0) []).2.length = 0
      · skip
        have e : ofV r S w = 1 := by unfold ofV; rw [if_neg c3, if_neg d0, if_neg d1, if_pos d2]
        refine ev_ifne 97 dX11_ofLessons_90 (fun h_no => (by exfalso; omega)) (fun hb7 => ?_)
        refine ev_iconst dX11_ofLessons_93 ?_
        refine ev_gt 98 dX11_ofLessons_94 ?_
        refine ev_iadd dX11_ofLessons_98 (by unfold ir; omega) ?_
        refine ev_ist2 dX11_ofLessons_99 ?_
        rw [show s + 1 = s + ofV r S w by omega]
        exact nx h2 _ _ K2 J2 on (by omega) (by omega)
      have e : ofV r S w = 0 := by unfold ofV; rw [if_neg c3, if_neg d0, if_neg d1, if_neg d2]
      refine ev_ifne 97 dX11_ofLessons_90 (fun hb7 => ?_) (fun h_no => (by exfalso; omega))
      refine ev_iconst dX11_ofLessons_97 ?_
      refine ev_iadd dX11_ofLessons_98 (by unfold ir; omega) ?_
      refine ev_ist2 dX11_ofLessons_99 ?_
      rw [show s + 0 = s + ofV r S w by omega]
      exact nx h2 _ _ K2 J2 on (by omega) (by omega)
    rw [if_neg c] at q6
    refine ev_ifeq 31 dX11_ofLessons_23 (fun hb2 => ?_) (fun h_no => (by exfalso; omega))
    refine ev_iload_n dX11_ofLessons_31 rfl ?_
    refine ev_iload dX11_ofLessons_32 rfl ?_
    refine ev_ifne 49 dX11_ofLessons_34 (fun h_no => (by exfalso; omega)) (fun hb3 => ?_)
    refine ev_iload_n dX11_ofLessons_37 rfl ?_
    refine ev_aload_n dX11_ofLessons_38 rfl ?_
    refine ev_getiv dX11_ofLessons_39 fX11_242 I1.o I1.n rfl f52 ?_
    by_cases d : w = r.1
    · skip
      have e : ofV r S w = 1 := by unfold ofV; rw [if_pos (Or.inl c), if_pos ⟨c, d⟩]
      refine ev_icmpne 49 dX11_ofLessons_42 (fun h_no => (by exfalso; omega)) (fun hb4 => ?_)
      refine ev_iconst dX11_ofLessons_45 ?_
      refine ev_gt 50 dX11_ofLessons_46 ?_
      refine ev_iadd dX11_ofLessons_50 (by unfold ir; omega) ?_
      refine ev_ist2 dX11_ofLessons_51 ?_
      refine ev_gt 100 dX11_ofLessons_52 ?_
      rw [show s + 1 = s + ofV r S w by omega]
      exact nx h1 _ _ K1 J1 on (by omega) (by omega)
    have e : ofV r S w = 0 := by unfold ofV; rw [if_pos (Or.inl c), if_neg (fun z => d z.2)]
    refine ev_icmpne 49 dX11_ofLessons_42 (fun hb4 => ?_) (fun h_no => (by exfalso; omega))
    refine ev_iconst dX11_ofLessons_49 ?_
    refine ev_iadd dX11_ofLessons_50 (by unfold ir; omega) ?_
    refine ev_ist2 dX11_ofLessons_51 ?_
    refine ev_gt 100 dX11_ofLessons_52 ?_
    rw [show s + 0 = s + ofV r S w by omega]
    exact nx h1 _ _ K1 J1 on (by omega) (by omega)
set_option maxRecDepth 100000 in
theorem s_ofLessons {h : AH} {w : Int} {N : Nat} {LL : Nat → List Nd} {kp : Nat → Option TE} (hI : RI h) (hN : NV h N LL) (hK : KpJ h kp) (hw : 0 ≤ w) (hst : 0 ≤ h.vl 42 50 ∧ h.vl 42 50 + 206010 * 6 ≤ 2147483000) :
    CV mX11_ofLessons 11 [rv 42, iv w] h (oi fun x h1 => KP h h1 RfA OfF ∧ KpJ h1 kp ∧ (h.vl 42 50 ≤ h1.vl 42 50 ∧ h1.vl 42 50 ≤ h.vl 42 50 + 206010 * 6) ∧ ofR LL kp w N x) := by
  refine cv_of cdX11_ofLessons ?_
  show EV _ _ 0 [rv 42, iv w, uv, uv, uv] [] h _
  refine ev_iconst dX11_ofLessons_0 ?_
  refine ev_ist2 dX11_ofLessons_1 ?_
  refine ev_iconst dX11_ofLessons_2 ?_
  refine ev_ist3 dX11_ofLessons_3 ?_
  exact of_loop hI hN hw N 0 0 h _ (by omega) KP.rf hK rfl (by omega) (by omega) hst.2
/-! the largest type -/
/-- the best so far and its size -/
def lgR (LL : Nat → List Nd) (kp : Nat → Option TE) : Nat → Int → Int → Prop
  | 0, b, z => b = -1 ∧ z = 0
  | n + 1, b, z => ∃ b0 z0 r S, lgR LL kp n b0 z0 ∧ fnR (LL n) kp r S ∧ ((¬ (r.1 = 0 ∧ z0 < (sz (S.2.1 0) : Int)) ∧ b = b0 ∧ z = z0) ∨ ((r.1 = 0 ∧ z0 < (sz (S.2.1 0) : Int)) ∧ b = (n : Int) ∧ z = (sz (S.2.1 0) : Int)))
theorem lgR_det {LL : Nat → List Nd} {kp : Nat → Option TE} : ∀ (n : Nat) (b z b' z' : Int), lgR LL kp n b z → lgR LL kp n b' z' → b = b' ∧ z = z'
  | 0, b, z, b', z', h, h' => ⟨h.1.trans h'.1.symm, h.2.trans h'.2.symm⟩
  | n + 1, b, z, b', z', ⟨b0, z0, r, S, h1, h2, h3⟩, ⟨b0', z0', r', S', h1', h2', h3'⟩ => by
    obtain ⟨e1, e2⟩ := fnR_det h2 h2'
    obtain ⟨e3, e4⟩ := lgR_det n _ _ _ _ h1 h1'
    subst e1
    subst e3
    subst e4
    by_cases c : r.1 = 0
    · have e5 := e2 c
      subst e5
      rcases h3 with ⟨g, a1, a2⟩ | ⟨g, a1, a2⟩
      · rcases h3' with ⟨g', b1, b2⟩ | ⟨g', b1, b2⟩
        · exact ⟨a1.trans b1.symm, a2.trans b2.symm⟩
        · exact absurd g' g
      · rcases h3' with ⟨g', b1, b2⟩ | ⟨g', b1, b2⟩
        · exact absurd g g'
        · exact ⟨a1.trans b1.symm, a2.trans b2.symm⟩
    · have e6 := h3.resolve_right (fun z => c z.1.1)
      have e7 := h3'.resolve_right (fun z => c z.1.1)
      exact ⟨e6.2.1.trans e7.2.1.symm, e6.2.2.trans e7.2.2.symm⟩
theorem lgR_b {LL : Nat → List Nd} {kp : Nat → Option TE} : ∀ (n : Nat) (b z : Int), lgR LL kp n b z → -1 ≤ b ∧ b < (n : Int) ∧ 0 ≤ z
  | 0, b, z, h => by obtain ⟨rfl, rfl⟩ := h; omega
  | n + 1, b, z, ⟨b0, z0, r, S, h1, h2, h3⟩ => by
    have := lgR_b n b0 z0 h1
    rcases h3 with ⟨g, a1, a2⟩ | ⟨g, a1, a2⟩
    · omega
    · omega
set_option maxRecDepth 100000 in
theorem lg_loop {h0 : AH} {N : Nat} {LL : Nat → List Nd} {kp : Nat → Option TE} (hI0 : RI h0) (hN0 : NV h0 N LL) :
    ∀ (m l : Nat) (b z : Int) (h : AH) (v4 : AV), l + m = N → KP h0 h RfA OfF → KpJ h kp → lgR LL kp l b z → (0 ≤ h0.vl 42 50 ∧ h0.vl 42 50 ≤ h.vl 42 50 ∧ h.vl 42 50 ≤ h0.vl 42 50 + 206010 * (l : Int)) → h0.vl 42 50 + 206010 * 6 ≤ 2147483000 →
    EV mX11_largest 11 6 [rv 42, iv b, iv z, iv (l : Int), v4] [] h (oi fun x h1 => KP h0 h1 RfA (0 :: OfF) ∧ KpJ h1 kp ∧ (h0.vl 42 50 ≤ h1.vl 42 50 ∧ h1.vl 42 50 ≤ h0.vl 42 50 + 206010 * 6) ∧ ∃ b z, lgR LL kp N b z ∧ ((b < 0 ∧ h1.vl 42 0 = 1) ∨ (0 ≤ b ∧ h1.vl 42 0 = 0 ∧ x = b)))
  | 0, l, b, z, h, v4, hl, hK, hJ, hs, hst, hst9 => by
    obtain rfl : l = N := by omega
    have hI : RI h := hK.ri hI0
    have hN := hN0.kp hK
    have h6 := hN.2.1
    have n0 := hN.1
    refine ev_iload_n dX11_largest_6 rfl ?_
    refine ev_aload_n dX11_largest_7 rfl ?_
    refine ev_getrv dX11_largest_8 fX11_13 hI.o hI.n rfl hI.v_v ?_
    refine ev_iconst dX11_largest_11 ?_
    refine ev_ildv dX11_largest_12 hI.k_v hI.n_v rfl (by omega) (by omega) n0 ?_
    refine ev_icmpge 71 dX11_largest_13 (fun hb => ?_) (fun h_no => (by exfalso; omega))
    refine ev_aload_n dX11_largest_71 rfl ?_
    refine ev_iload_n dX11_largest_72 rfl ?_
    by_cases c : b < 0
    · skip
      refine ev_ifge 80 dX11_largest_73 (fun h_no => (by exfalso; omega)) (fun hb2 => ?_)
      refine ev_iconst dX11_largest_76 ?_
      refine ev_gt 81 dX11_largest_77 ?_
      refine ev_pt dX11_largest_81 fX11_161 hI.o hI.n rfl ?_
      obtain ⟨h1, e1⟩ : ∃ h1, h1 = h.put 42 0 1 := ⟨_, rfl⟩
      rw [← e1]
      have k1 : KP h h1 [] [0] := by rw [e1]; exact KP.rf.pf (by decide)
      have I1 : RI h1 := k1.ri hI
      have t0 : h1.vl 42 0 = 1 := by rw [e1]; rfl
      have f50 : h1.vl 42 50 = h.vl 42 50 := k1.fl
      refine ev_aload_n dX11_largest_84 rfl ?_
      refine ev_getiv dX11_largest_85 fX11_161 I1.o I1.n rfl t0 ?_
      refine ev_ifne 95 dX11_largest_88 (fun hb3 => ?_) (fun h_no => (by exfalso; omega))
      refine ev_iconst dX11_largest_95 ?_
      exact ev_iret dX11_largest_96 (⟨_, rfl, (hK.wk (by decide) (by decide)).tr (k1.wk (by decide) (by decide)), hJ.kp k1, by omega, b, z, hs, Or.inl ⟨c, t0⟩⟩)
    refine ev_ifge 80 dX11_largest_73 (fun hb2 => ?_) (fun h_no => (by exfalso; omega))
    refine ev_iconst dX11_largest_80 ?_
    refine ev_pt dX11_largest_81 fX11_161 hI.o hI.n rfl ?_
    obtain ⟨h1, e1⟩ : ∃ h1, h1 = h.put 42 0 0 := ⟨_, rfl⟩
    rw [← e1]
    have k1 : KP h h1 [] [0] := by rw [e1]; exact KP.rf.pf (by decide)
    have I1 : RI h1 := k1.ri hI
    have t0 : h1.vl 42 0 = 0 := by rw [e1]; rfl
    have f50 : h1.vl 42 50 = h.vl 42 50 := k1.fl
    refine ev_aload_n dX11_largest_84 rfl ?_
    refine ev_getiv dX11_largest_85 fX11_161 I1.o I1.n rfl t0 ?_
    refine ev_ifne 95 dX11_largest_88 (fun h_no => (by exfalso; omega)) (fun hb3 => ?_)
    refine ev_iload_n dX11_largest_91 rfl ?_
    refine ev_gt 96 dX11_largest_92 ?_
    exact ev_iret dX11_largest_96 (⟨_, rfl, (hK.wk (by decide) (by decide)).tr (k1.wk (by decide) (by decide)), hJ.kp k1, by omega, b, z, hs, Or.inr ⟨by omega, t0, rfl⟩⟩)
  | m + 1, l, b, z, h, v4, hl, hK, hJ, hs, hst, hst9 => by
    have hI : RI h := hK.ri hI0
    have hN := hN0.kp hK
    have h6 := hN.2.1
    have n0 := hN.1
    have hb9 := lgR_b l b z hs
    -- the size told: 0 for one that fails
    have nx : ∀ (h1 : AH) (y : Int), KP h0 h1 RfA OfF → KpJ h1 kp → (h.vl 42 50 ≤ h1.vl 42 50 ∧ h1.vl 42 50 ≤ h.vl 42 50 + 206010) → lgR LL kp (l + 1) (if z < y then (l : Int) else b) (if z < y then y else z) → EV mX11_largest 11 38 [rv 42, iv b, iv z, iv (l : Int), v4] [iv y] h1 (oi fun x h1 => KP h0 h1 RfA (0 :: OfF) ∧ KpJ h1 kp ∧ (h0.vl 42 50 ≤ h1.vl 42 50 ∧ h1.vl 42 50 ≤ h0.vl 42 50 + 206010 * 6) ∧ ∃ b z, lgR LL kp N b z ∧ ((b < 0 ∧ h1.vl 42 0 = 1) ∨ (0 ≤ b ∧ h1.vl 42 0 = 0 ∧ x = b))) := by
      intro h1 y K1 J1 t1 o1
      refine ev_ist4 dX11_largest_38 ?_
      refine ev_iload dX11_largest_40 rfl ?_
      refine ev_iload_n dX11_largest_42 rfl ?_
      by_cases c : z < y
      · skip
        rw [if_pos c, if_pos c] at o1
        refine ev_icmple 50 dX11_largest_43 (fun h_no => (by exfalso; omega)) (fun hb => ?_)
        refine ev_iload_n dX11_largest_46 rfl ?_
        refine ev_gt 51 dX11_largest_47 ?_
        refine ev_ist1 dX11_largest_51 ?_
        refine ev_iload dX11_largest_52 rfl ?_
        refine ev_iload_n dX11_largest_54 rfl ?_
        refine ev_icmple 63 dX11_largest_55 (fun h_no => (by exfalso; omega)) (fun hb2 => ?_)
        refine ev_iload dX11_largest_58 rfl ?_
        refine ev_gt 64 dX11_largest_60 ?_
        refine ev_ist2 dX11_largest_64 ?_
        refine ev_iin3 dX11_largest_65 (by unfold ir; omega) ?_
        refine ev_gt 6 dX11_largest_68 ?_
        rw [show (l : Int) + 1 = ((l + 1 : Nat) : Int) by omega]
        exact lg_loop hI0 hN0 m (l + 1) _ _ h1 _ (by omega) K1 J1 o1 (by omega) hst9
      rw [if_neg c, if_neg c] at o1
      refine ev_icmple 50 dX11_largest_43 (fun hb => ?_) (fun h_no => (by exfalso; omega))
      refine ev_iload_n dX11_largest_50 rfl ?_
      refine ev_ist1 dX11_largest_51 ?_
      refine ev_iload dX11_largest_52 rfl ?_
      refine ev_iload_n dX11_largest_54 rfl ?_
      refine ev_icmple 63 dX11_largest_55 (fun hb2 => ?_) (fun h_no => (by exfalso; omega))
      refine ev_iload_n dX11_largest_63 rfl ?_
      refine ev_ist2 dX11_largest_64 ?_
      refine ev_iin3 dX11_largest_65 (by unfold ir; omega) ?_
      refine ev_gt 6 dX11_largest_68 ?_
      rw [show (l : Int) + 1 = ((l + 1 : Nat) : Int) by omega]
      exact lg_loop hI0 hN0 m (l + 1) _ _ h1 _ (by omega) K1 J1 o1 (by omega) hst9
    refine ev_iload_n dX11_largest_6 rfl ?_
    refine ev_aload_n dX11_largest_7 rfl ?_
    refine ev_getrv dX11_largest_8 fX11_13 hI.o hI.n rfl hI.v_v ?_
    refine ev_iconst dX11_largest_11 ?_
    refine ev_ildv dX11_largest_12 hI.k_v hI.n_v rfl (by omega) (by omega) n0 ?_
    refine ev_icmpge 71 dX11_largest_13 (fun h_no => (by exfalso; omega)) (fun hb => ?_)
    refine ev_aload_n dX11_largest_16 rfl ?_
    refine ev_iload_n dX11_largest_17 rfl ?_
    refine ev_cvi dX11_largest_18 lX11_367 (i_finds hI hN hJ (p := (l : Int)) (by omega) (by omega)) (by decide) hI.o hI.n rfl rfl rfl (Nat.le_of_ble_eq_true rfl) rfl (fun x h1 q => ?_)
    obtain ⟨q, J1⟩ := q
    obtain ⟨q1, q2, q3, r, S, q4, q5, q6, q7⟩ := q
    rw [show ((l : Nat) : Int).toNat = l from rfl] at q2 q4 q7
    have I1 : RI h1 := q1.ri hI
    have K1 : KP h0 h1 RfA OfF := hK.tr (q1.wk (by decide) (by decide))
    by_cases c : r.1 = 0
    · skip
      rw [if_pos c] at q6
      refine ev_ifeq 37 dX11_largest_21 (fun h_no => (by exfalso; omega)) (fun hb2 => ?_)
      obtain ⟨N1, n1, R1⟩ := q7 c
      obtain ⟨T, g2, s2, s3, s4, s5⟩ := R1
      have hl0 : 0 < (LL l).length := List.length_pos_iff.mpr q2.2.2.1
      obtain ⟨-, a, a1, a2, a3⟩ := s2 0 hl0
      have z9 := fnR_sz q4 c 0 hl0
      have es : szc (S.2.1 0) = (sz (S.2.1 0) : Int) := by unfold szc; rw [if_pos (by omega)]
      refine ev_aload_n dX11_largest_24 rfl ?_
      refine ev_aload_n dX11_largest_25 rfl ?_
      refine ev_getrv dX11_largest_26 fX11_137 I1.o I1.n rfl I1.v_type ?_
      refine ev_iconst dX11_largest_29 ?_
      refine ev_ildv dX11_largest_30 I1.k_type I1.n_type rfl (by omega) (by omega) a2 ?_
      refine ev_cvi dX11_largest_31 lX11_297 (s_sizeN (t := a) I1 g2 a1 (by unfold ir; omega)) (by decide) I1.o I1.n rfl rfl rfl (Nat.le_of_ble_eq_true rfl) rfl (fun r2 h2 q => ?_)
      obtain ⟨rfl, k2, t2, g3⟩ := q
      rw [a3, es]
      refine ev_gt 38 dX11_largest_34 ?_
      refine nx h2 _ (K1.tr (k2.wk (by decide) (by decide))) (J1.st k2 g3.sn) (by omega) ⟨b, z, r, S, hs, q4, ?_⟩
      by_cases d : z < (sz (S.2.1 0) : Int)
      · rw [if_pos d, if_pos d]; exact Or.inr ⟨⟨c, d⟩, rfl, rfl⟩
      · rw [if_neg d, if_neg d]; exact Or.inl ⟨fun y => d y.2, rfl, rfl⟩
    rw [if_neg c] at q6
    refine ev_ifeq 37 dX11_largest_21 (fun hb2 => ?_) (fun h_no => (by exfalso; omega))
    refine ev_iconst dX11_largest_37 ?_
    refine nx h1 0 K1 J1 (by omega) ⟨b, z, r, S, hs, q4, ?_⟩
    rw [if_neg (by omega), if_neg (by omega)]
    exact Or.inl ⟨fun y => c y.1, rfl, rfl⟩
