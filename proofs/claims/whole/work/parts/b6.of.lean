/-! of all lessons: the reference -/
abbrev OfF : List Nat := [34, 35, 36, 49, 50, 51, 52, 53, 54, 55, 59, 60, 68]
def ofV (r : IR) (S : IS) (w : Int) : Int := if r.1 ≠ 0 ∨ 2 < w then (if r.1 ≠ 0 ∧ w = r.1 then 1 else 0) else if w = 0 then 1 else if w = 1 then (sz (S.2.1 0) : Int) else if (cnT (S.2.1 0) []).2.length = 0 then 1 else 0
/-- the sum over the first lessons -/
def ofR (LL : Nat → List Nd) (kp : Nat → Option TE) (w : Int) : Nat → Int → Prop
  | 0, s => s = 0
  | n + 1, s => ∃ s0 r S, ofR LL kp w n s0 ∧ fnR (LL n) kp r S ∧ s = s0 + ofV r S w
theorem ofR_det {LL : Nat → List Nd} {kp : Nat → Option TE} {w : Int} : ∀ (n : Nat) (s s' : Int), ofR LL kp w n s → ofR LL kp w n s' → s = s'
  | 0, s, s', h, h' => Eq.trans h (Eq.symm h')
  | n + 1, s, s', ⟨a, r, S, h1, h2, h3⟩, ⟨a', r', S', h1', h2', h3'⟩ => by
    obtain ⟨e1, e2⟩ := fnR_det h2 h2'
    have e3 := ofR_det n _ _ h1 h1'
    subst e1
    rw [h3, h3', e3]
    by_cases c : r.1 = 0
    · rw [e2 c]
    · unfold ofV
      rw [if_pos (Or.inl c), if_pos (Or.inl c)]
theorem ofV_le {r : IR} {S : IS} {w : Int} {L : List Nd} {kp : Nat → Option TE} (h : fnR L kp r S) (hl : L ≠ []) : 0 ≤ ofV r S w ∧ ofV r S w ≤ 200 := by
  unfold ofV
  by_cases c : r.1 ≠ 0 ∨ 2 < w
  · rw [if_pos c]; split <;> omega
  · rw [if_neg c]
    have c1 : r.1 = 0 := Decidable.byContradiction fun z => c (Or.inl z)
    have := fnR_sz h c1 0 (List.length_pos_iff.mpr hl)
    split
    · omega
    · split
      · omega
      · split <;> omega
set_option maxRecDepth 100000 in
theorem of_loop {h0 : AH} {w : Int} {N : Nat} {LL : Nat → List Nd} {kp : Nat → Option TE} (hI0 : RI h0) (hN0 : NV h0 N LL) (hw : 0 ≤ w) :
    ∀ (m l : Nat) (s : Int) (h : AH) (v4 : AV), l + m = N → KP h0 h RfA OfF → KpJ h kp → ofR LL kp w l s → (0 ≤ s ∧ s ≤ 200 * (l : Int)) → (0 ≤ h0.vl 42 50 ∧ h0.vl 42 50 ≤ h.vl 42 50 ∧ h.vl 42 50 ≤ h0.vl 42 50 + 206010 * (l : Int)) → h0.vl 42 50 + 206010 * 6 ≤ 2147483000 →
    EV mX11_ofLessons 11 4 [rv 42, iv w, iv s, iv (l : Int), v4] [] h (oi fun x h1 => KP h0 h1 RfA OfF ∧ KpJ h1 kp ∧ (h0.vl 42 50 ≤ h1.vl 42 50 ∧ h1.vl 42 50 ≤ h0.vl 42 50 + 206010 * 6) ∧ ofR LL kp w N x)
  | 0, l, s, h, v4, hl, hK, hJ, hs, hs9, hst, hst9 => by
    obtain rfl : l = N := by omega
    have hI : RI h := hK.ri hI0
    have hN := hN0.kp hK
    have h6 := hN.2.1
    have n0 := hN.1
    refine ev_iload_n dX11_ofLessons_4 rfl ?_
    refine ev_aload_n dX11_ofLessons_5 rfl ?_
    refine ev_getrv dX11_ofLessons_6 fX11_13 hI.o hI.n rfl hI.v_v ?_
    refine ev_iconst dX11_ofLessons_9 ?_
    refine ev_ildv dX11_ofLessons_10 hI.k_v hI.n_v rfl (by omega) (by omega) n0 ?_
    refine ev_icmpge 106 dX11_ofLessons_11 (fun hb => ?_) (fun h_no => (by exfalso; omega))
    refine ev_iload_n dX11_ofLessons_106 rfl ?_
    exact ev_iret dX11_ofLessons_107 (⟨_, rfl, hK, hJ, by omega, hs⟩)
  | m + 1, l, s, h, v4, hl, hK, hJ, hs, hs9, hst, hst9 => by
    have hI : RI h := hK.ri hI0
    have hN := hN0.kp hK
    have h6 := hN.2.1
    have n0 := hN.1
    have nx : ∀ (h1 : AH) (s1 : Int) (v4 : AV), KP h0 h1 RfA OfF → KpJ h1 kp → ofR LL kp w (l + 1) s1 → (0 ≤ s1 ∧ s1 ≤ 200 * ((l + 1 : Nat) : Int)) → (h.vl 42 50 ≤ h1.vl 42 50 ∧ h1.vl 42 50 ≤ h.vl 42 50 + 206010) → EV mX11_ofLessons 11 100 [rv 42, iv w, iv s1, iv (l : Int), v4] [] h1 (oi fun x h1 => KP h0 h1 RfA OfF ∧ KpJ h1 kp ∧ (h0.vl 42 50 ≤ h1.vl 42 50 ∧ h1.vl 42 50 ≤ h0.vl 42 50 + 206010 * 6) ∧ ofR LL kp w N x) := by
      intro h1 s1 v4 K1 J1 o1 b1 t1
      refine ev_iin3 dX11_ofLessons_100 (by unfold ir; omega) ?_
      refine ev_gt 4 dX11_ofLessons_103 ?_
      rw [show (l : Int) + 1 = ((l + 1 : Nat) : Int) by omega]
      exact of_loop hI0 hN0 hw m (l + 1) s1 h1 v4 (by omega) K1 J1 o1 b1 (by omega) hst9
    refine ev_iload_n dX11_ofLessons_4 rfl ?_
    refine ev_aload_n dX11_ofLessons_5 rfl ?_
    refine ev_getrv dX11_ofLessons_6 fX11_13 hI.o hI.n rfl hI.v_v ?_
    refine ev_iconst dX11_ofLessons_9 ?_
    refine ev_ildv dX11_ofLessons_10 hI.k_v hI.n_v rfl (by omega) (by omega) n0 ?_
    refine ev_icmpge 106 dX11_ofLessons_11 (fun h_no => (by exfalso; omega)) (fun hb => ?_)
    refine ev_aload_n dX11_ofLessons_14 rfl ?_
    refine ev_iload_n dX11_ofLessons_15 rfl ?_
    refine ev_cvi dX11_ofLessons_16 lX11_367 (i_finds hI hN hJ (p := (l : Int)) (by omega) (by omega)) (by decide) hI.o hI.n rfl rfl rfl (Nat.le_of_ble_eq_true rfl) rfl (fun x h1 q => ?_)
    obtain ⟨q, J1⟩ := q
    obtain ⟨q1, q2, q3, r, S, q4, q5, q6, q7⟩ := q
    rw [show ((l : Nat) : Int).toNat = l from rfl] at q2 q4 q7
    have I1 : RI h1 := q1.ri hI
    have K1 : KP h0 h1 RfA OfF := hK.tr (q1.wk (by decide) (by decide))
    have hv := ofV_le (w := w) q4 q2.2.2.1
    have f52 : h1.vl 42 52 = r.1 := q5.1
    have on : ofR LL kp w (l + 1) (s + ofV r S w) := ⟨s, r, S, hs, q4, rfl⟩
    refine ev_ist4 dX11_ofLessons_19 ?_
    refine ev_iload dX11_ofLessons_21 rfl ?_
    by_cases c : r.1 = 0
    · skip
      rw [if_pos c] at q6
      refine ev_ifeq 31 dX11_ofLessons_23 (fun h_no => (by exfalso; omega)) (fun hb2 => ?_)
      refine ev_iload_n dX11_ofLessons_26 rfl ?_
      refine ev_iconst dX11_ofLessons_27 ?_
      by_cases c2 : 2 < w
      · skip
        have e : ofV r S w = 0 := by unfold ofV; rw [if_pos (Or.inr c2), if_neg (fun z => z.1 c)]
        refine ev_icmple 55 dX11_ofLessons_28 (fun h_no => (by exfalso; omega)) (fun hb3 => ?_)
        refine ev_iload_n dX11_ofLessons_31 rfl ?_
        refine ev_iload dX11_ofLessons_32 rfl ?_
        refine ev_ifne 49 dX11_ofLessons_34 (fun hb4 => ?_) (fun h_no => (by exfalso; omega))
        refine ev_iconst dX11_ofLessons_49 ?_
        refine ev_iadd dX11_ofLessons_50 (by unfold ir; omega) ?_
        refine ev_ist2 dX11_ofLessons_51 ?_
        refine ev_gt 100 dX11_ofLessons_52 ?_
        rw [show s + 0 = s + ofV r S w by omega]
        exact nx h1 _ _ K1 J1 on (by omega) (by omega)
      refine ev_icmple 55 dX11_ofLessons_28 (fun hb3 => ?_) (fun h_no => (by exfalso; omega))
      obtain ⟨N1, n1, R1⟩ := q7 c
      obtain ⟨T, g2, s2, s3, s4, s5⟩ := R1
      have hl0 : 0 < (LL l).length := List.length_pos_iff.mpr q2.2.2.1
      obtain ⟨-, a, a1, a2, a3⟩ := s2 0 hl0
      have z9 := fnR_sz q4 c 0 hl0
      have c3 : ¬ (r.1 ≠ 0 ∨ 2 < w) := fun z => z.elim (fun y => y c) c2
      refine ev_aload_n dX11_ofLessons_55 rfl ?_
      refine ev_aload_n dX11_ofLessons_56 rfl ?_
      refine ev_getrv dX11_ofLessons_57 fX11_137 I1.o I1.n rfl I1.v_type ?_
      refine ev_iconst dX11_ofLessons_60 ?_
      refine ev_ildv dX11_ofLessons_61 I1.k_type I1.n_type rfl (by omega) (by omega) a2 ?_
      refine ev_cvv dX11_ofLessons_62 lX11_370 (s_writesN (t := a) I1 g2 a1 (by rw [a3]; exact z9) (by unfold ir; omega)) (by decide) I1.o I1.n rfl rfl rfl (Nat.le_of_ble_eq_true rfl) rfl (fun h2 q => ?_)
      obtain ⟨k2, t2, g3, w3⟩ := q
      rw [a3] at w3
      have I2 : RI h2 := k2.ri I1
      have K2 : KP h0 h2 RfA OfF := K1.tr (k2.wk (by decide) (by decide))
      have J2 : KpJ h2 kp := J1.st k2 g3.sn
      have y1 := w3.1
      have y2 := w3.2.1
      refine ev_iload_n dX11_ofLessons_65 rfl ?_
      refine ev_iload_n dX11_ofLessons_66 rfl ?_
      by_cases d0 : w = 0
      · skip
        have e : ofV r S w = 1 := by unfold ofV; rw [if_neg c3, if_pos d0]
        refine ev_ifne 74 dX11_ofLessons_67 (fun h_no => (by exfalso; omega)) (fun hb5 => ?_)
        refine ev_iconst dX11_ofLessons_70 ?_
        refine ev_gt 98 dX11_ofLessons_71 ?_
        refine ev_iadd dX11_ofLessons_98 (by unfold ir; omega) ?_
        refine ev_ist2 dX11_ofLessons_99 ?_
        rw [show s + 1 = s + ofV r S w by omega]
        exact nx h2 _ _ K2 J2 on (by omega) (by omega)
      refine ev_ifne 74 dX11_ofLessons_67 (fun hb5 => ?_) (fun h_no => (by exfalso; omega))
      refine ev_iload_n dX11_ofLessons_74 rfl ?_
      refine ev_iconst dX11_ofLessons_75 ?_
      by_cases d1 : w = 1
      · skip
        have e : ofV r S w = (sz (S.2.1 0) : Int) := by unfold ofV; rw [if_neg c3, if_neg d0, if_pos d1]
        refine ev_icmpne 86 dX11_ofLessons_76 (fun h_no => (by exfalso; omega)) (fun hb6 => ?_)
        refine ev_aload_n dX11_ofLessons_79 rfl ?_
        refine ev_getiv dX11_ofLessons_80 fX11_262 I2.o I2.n rfl y1 ?_
        refine ev_gt 98 dX11_ofLessons_83 ?_
        refine ev_iadd dX11_ofLessons_98 (by unfold ir; omega) ?_
        refine ev_ist2 dX11_ofLessons_99 ?_
        rw [← e]
        exact nx h2 _ _ K2 J2 on (by omega) (by omega)
      refine ev_icmpne 86 dX11_ofLessons_76 (fun hb6 => ?_) (fun h_no => (by exfalso; omega))
      refine ev_aload_n dX11_ofLessons_86 rfl ?_
      refine ev_getiv dX11_ofLessons_87 fX11_265 I2.o I2.n rfl y2 ?_
      by_cases d2 : (cnT (S.2.1 0) []).2.length = 0
      · skip
        have e : ofV r S w = 1 := by unfold ofV; rw [if_neg c3, if_neg d0, if_neg d1, if_pos d2]
        refine ev_ifne 97 dX11_ofLessons_90 (fun h_no => (by exfalso; omega)) (fun hb7 => ?_)
        refine ev_iconst dX11_ofLessons_93 ?_
        refine ev_gt 98 dX11_ofLessons_94 ?_
        refine ev_iadd dX11_ofLessons_98 (by unfold ir; omega) ?_
        refine ev_ist2 dX11_ofLessons_99 ?_
        rw [show s + 1 = s + ofV r S w by omega]
        exact nx h2 _ _ K2 J2 on (by omega) (by omega)
      have e : ofV r S w = 0 := by unfold ofV; rw [if_neg c3, if_neg d0, if_neg d1, if_neg d2]
      refine ev_ifne 97 dX11_ofLessons_90 (fun hb7 => ?_) (fun h_no => (by exfalso; omega))
      refine ev_iconst dX11_ofLessons_97 ?_
      refine ev_iadd dX11_ofLessons_98 (by unfold ir; omega) ?_
      refine ev_ist2 dX11_ofLessons_99 ?_
      rw [show s + 0 = s + ofV r S w by omega]
      exact nx h2 _ _ K2 J2 on (by omega) (by omega)
    rw [if_neg c] at q6
    refine ev_ifeq 31 dX11_ofLessons_23 (fun hb2 => ?_) (fun h_no => (by exfalso; omega))
    refine ev_iload_n dX11_ofLessons_31 rfl ?_
    refine ev_iload dX11_ofLessons_32 rfl ?_
    refine ev_ifne 49 dX11_ofLessons_34 (fun h_no => (by exfalso; omega)) (fun hb3 => ?_)
    refine ev_iload_n dX11_ofLessons_37 rfl ?_
    refine ev_aload_n dX11_ofLessons_38 rfl ?_
    refine ev_getiv dX11_ofLessons_39 fX11_242 I1.o I1.n rfl f52 ?_
    by_cases d : w = r.1
    · skip
      have e : ofV r S w = 1 := by unfold ofV; rw [if_pos (Or.inl c), if_pos ⟨c, d⟩]
      refine ev_icmpne 49 dX11_ofLessons_42 (fun h_no => (by exfalso; omega)) (fun hb4 => ?_)
      refine ev_iconst dX11_ofLessons_45 ?_
      refine ev_gt 50 dX11_ofLessons_46 ?_
      refine ev_iadd dX11_ofLessons_50 (by unfold ir; omega) ?_
      refine ev_ist2 dX11_ofLessons_51 ?_
      refine ev_gt 100 dX11_ofLessons_52 ?_
      rw [show s + 1 = s + ofV r S w by omega]
      exact nx h1 _ _ K1 J1 on (by omega) (by omega)
    have e : ofV r S w = 0 := by unfold ofV; rw [if_pos (Or.inl c), if_neg (fun z => d z.2)]
    refine ev_icmpne 49 dX11_ofLessons_42 (fun hb4 => ?_) (fun h_no => (by exfalso; omega))
    refine ev_iconst dX11_ofLessons_49 ?_
    refine ev_iadd dX11_ofLessons_50 (by unfold ir; omega) ?_
    refine ev_ist2 dX11_ofLessons_51 ?_
    refine ev_gt 100 dX11_ofLessons_52 ?_
    rw [show s + 0 = s + ofV r S w by omega]
    exact nx h1 _ _ K1 J1 on (by omega) (by omega)
