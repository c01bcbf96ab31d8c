/-! a lesson's type is kept: the reference -/
def keW (v : Nat → Int) (a : Nat) (r : List Int) (i : Nat) : Nat → Int := fun k => if k = a then (r.length : Int) else if a + 1 ≤ k ∧ k < a + 1 + i then r.getD (k - (a + 1)) 0 else v k
def keV (v : Nat → Int) (c : Nat) (r : List Int) : Nat → Int := fun k => if k = 2 then v 2 + 1 else keW v (369 + 25 * c) r 24 k
/-- why a lesson's type is not kept -/
def keN (N : Nat) (LL : Nat → List Nd) (kp : Nat → Option TE) (p q w d : Int) : Prop := (¬ (0 ≤ p ∧ p < (N : Int)) ∧ w = 2 ∧ d = p) ∨ ((0 ≤ p ∧ p < (N : Int)) ∧ ¬ (0 ≤ q ∧ q ≤ 7) ∧ w = 8 ∧ d = q) ∨ ((0 ≤ p ∧ p < (N : Int)) ∧ (0 ≤ q ∧ q ≤ 7) ∧ ∃ r S, fnR (LL p.toNat) kp r S ∧ ((r.1 ≠ 0 ∧ w = r.1 ∧ d = r.2.1) ∨ (r.1 = 0 ∧ 24 < sz (S.2.1 0) ∧ w = 7 ∧ d = (sz (S.2.1 0) : Int))))
def keO (N : Nat) (LL : Nat → List Nd) (kp : Nat → Option TE) (p q : Int) (T : TE) : Prop := (0 ≤ p ∧ p < (N : Int)) ∧ (0 ≤ q ∧ q ≤ 7) ∧ ∃ r S, fnR (LL p.toNat) kp r S ∧ r.1 = 0 ∧ sz (S.2.1 0) ≤ 24 ∧ T = S.2.1 0
abbrev KeA : List Nat := [43, 47, 48, 49, 50, 51, 52, 53, 54, 55, 56, 57, 58, 59, 60, 61, 62, 63, 64, 65, 66, 67, 68, 69, 70, 71, 72, 73, 74, 75, 76, 77, 78, 81, 83, 84, 85, 86, 87]
abbrev KeF : List Nat := [7, 8, 34, 35, 36, 49, 50, 51, 52, 53, 54, 55, 59, 60, 68, 69]
def KeQ (h : AH) (N : Nat) (LL : Nat → List Nd) (kp : Nat → Option TE) (p q : Int) (x : Int) (h1 : AH) : Prop :=
  KP h h1 KeA KeF ∧ (∀ k, h1.vl 71 k ≤ h1.vl 42 50) ∧ (h.vl 42 50 ≤ h1.vl 42 50 ∧ h1.vl 42 50 ≤ h.vl 42 50 + 206010) ∧
  ((∃ w d, keN N LL kp p q w d ∧ x = 0 ∧ h1.vl 42 69 = 1 ∧ h1.vl 42 7 = w ∧ h1.vl 42 8 = d ∧ h1.vl 43 = h.vl 43) ∨ ∃ T, keO N LL kp p q T ∧ x = ((cnT T []).2.length : Int) ∧ h1.vl 42 69 = h.vl 42 69 ∧ h1.vl 43 = keV (h.vl 43) q.toNat (cnT T []).1)
set_option maxRecDepth 100000 in
theorem ke_loop {h0 : AH} {p : Int} {c : Nat} {r : List Int} {v : Nat → Int} {Q : AV → AH → Prop} (hI0 : RI h0) (hc : c < 8) (hrn : h0.vl 42 59 = (r.length : Int)) (hrw : RwA (h0.vl 78) 0 r) (hr9 : r.length ≤ 24) (K : ∀ h1 v3, KP h0 h1 [43] [] → h1.vl 43 = keW v (369 + 25 * c) r 24 → EV mX11_keeps 10 142 [rv 42, iv p, iv (c : Int), v3] [] h1 Q) :
    ∀ (m i : Nat) (h : AH), i + m = 24 → KP h0 h [43] [] → h.vl 43 = keW v (369 + 25 * c) r i → EV mX11_keeps 10 99 [rv 42, iv p, iv (c : Int), iv (i : Int)] [] h Q
  | 0, i, h, hi, hK, hv => by
    obtain rfl : i = 24 := by omega
    refine ev_iload_n dX11_keeps_99 rfl ?_
    refine ev_bipush dX11_keeps_100 ?_
    refine ev_icmpge 142 dX11_keeps_102 (fun hb => ?_) (fun h_no => (by exfalso; omega))
    exact K h _ hK hv
  | m + 1, i, h, hi, hK, hv => by
    have hI : RI h := hK.ri hI0
    have hn' : h.vl 42 59 = (r.length : Int) := (hK.fl).trans hrn
    have fin : ∀ x : Int, x = r.getD i 0 → EV mX11_keeps 10 135 [rv 42, iv p, iv (c : Int), iv (i : Int)] [iv x, iv ((369 + 25 * c + 1 + i : Nat) : Int), rv 43] h Q := by
      intro x hx
      refine ev_istr dX11_keeps_135 hI.k_v hI.n_v rfl (by omega) (by omega) ?_
      refine ev_iin3 dX11_keeps_136 (by unfold ir; omega) ?_
      refine ev_gt 99 dX11_keeps_139 ?_
      rw [show ((369 + 25 * c + 1 + i : Nat) : Int).toNat = 369 + 25 * c + 1 + i from rfl, show (i : Int) + 1 = ((i + 1 : Nat) : Int) by omega]
      refine ke_loop hI0 hc hrn hrw hr9 K m (i + 1) _ (by omega) (hK.pr (by decide) (by decide)) ?_
      rw [put_row, hv]
      funext k
      unfold upI keW
      by_cases e : k = 369 + 25 * c + 1 + i
      · rw [if_pos e, if_neg (by omega), if_pos (by omega), hx, show k - (369 + 25 * c + 1) = i by omega]
      · rw [if_neg e]
        by_cases e2 : k = 369 + 25 * c
        · rw [if_pos e2, if_pos e2]
        · rw [if_neg e2, if_neg e2]
          by_cases e3 : 369 + 25 * c + 1 ≤ k ∧ k < 369 + 25 * c + 1 + i
          · rw [if_pos e3, if_pos (by omega)]
          · rw [if_neg e3, if_neg (by omega)]
    refine ev_iload_n dX11_keeps_99 rfl ?_
    refine ev_bipush dX11_keeps_100 ?_
    refine ev_icmpge 142 dX11_keeps_102 (fun h_no => (by exfalso; omega)) (fun hb => ?_)
    refine ev_aload_n dX11_keeps_105 rfl ?_
    refine ev_getrv dX11_keeps_106 fX11_13 hI.o hI.n rfl hI.v_v ?_
    refine ev_iload_n dX11_keeps_109 rfl ?_
    refine ev_csi dX11_keeps_110 lX11_278 (s_keptAt (by omega) (by omega)) (by decide) rfl rfl (Nat.le_of_ble_eq_true rfl) rfl (fun x z1 q => ?_)
    obtain ⟨rfl, e⟩ := q
    rw [e]
    refine ev_iconst dX11_keeps_113 ?_
    refine ev_iadd dX11_keeps_114 (by unfold ir; omega) ?_
    refine ev_iload_n dX11_keeps_115 rfl ?_
    refine ev_iadd dX11_keeps_116 (by unfold ir; omega) ?_
    rw [show 369 + 25 * (c : Int) + 1 + (i : Int) = ((369 + 25 * c + 1 + i : Nat) : Int) by omega]
    refine ev_iload_n dX11_keeps_117 rfl ?_
    refine ev_aload_n dX11_keeps_118 rfl ?_
    refine ev_getiv dX11_keeps_119 fX11_262 hI.o hI.n rfl hn' ?_
    by_cases d : i < r.length
    · skip
      have hx : h.vl 78 i = r[i] := by rw [hK.vl]; have := hrw i d; rw [Nat.zero_add] at this; exact this
      refine ev_icmpge 134 dX11_keeps_122 (fun h_no => (by exfalso; omega)) (fun hb2 => ?_)
      refine ev_aload_n dX11_keeps_125 rfl ?_
      refine ev_getrv dX11_keeps_126 fX11_119 hI.o hI.n rfl hI.v_rowOfType ?_
      refine ev_iload_n dX11_keeps_129 rfl ?_
      refine ev_ildv dX11_keeps_130 hI.k_rowOfType hI.n_rowOfType rfl (by omega) (by omega) hx ?_
      refine ev_gt 135 dX11_keeps_131 ?_
      exact fin _ (by rw [List.getD_eq_getElem?_getD, List.getElem?_eq_getElem d]; rfl)
    refine ev_icmpge 134 dX11_keeps_122 (fun hb2 => ?_) (fun h_no => (by exfalso; omega))
    refine ev_iconst dX11_keeps_134 ?_
    exact fin _ (by rw [List.getD_eq_getElem?_getD, List.getElem?_eq_none (by omega)]; rfl)
set_option maxRecDepth 100000 in
theorem s_keeps {p q : Int} {N : Nat} {LL : Nat → List Nd} {kp : Nat → Option TE} {h : AH} (hI : RI h) (hN : NV h N LL) (hK : KpJ h kp) (hst : 0 ≤ h.vl 42 50 ∧ h.vl 42 50 + 206010 ≤ 2147483000) (hv2 : -2147483648 ≤ h.vl 43 2 + 1 ∧ h.vl 43 2 + 1 ≤ 2147483647) :
    CV mX11_keeps 10 [rv 42, iv p, iv q] h (oi (KeQ h N LL kp p q)) := by
  refine cv_of cdX11_keeps ?_
  show EV _ _ 0 [rv 42, iv p, iv q, uv] [] h _
  have bad : ∀ (g h1 : AH) (w d : Int), KP h g KeA KeF → (∀ k, g.vl 71 k ≤ g.vl 42 50) → (h.vl 42 50 ≤ g.vl 42 50 ∧ g.vl 42 50 ≤ h.vl 42 50 + 206010) → g.vl 43 = h.vl 43 → h1 = ((g.put 42 69 1).put 42 7 w).put 42 8 d → keN N LL kp p q w d → oi (KeQ h N LL kp p q) (iv 0) h1 := by
    intro g h1 w d kg sn st ev e1 hk
    have k1 : KP g h1 [] [7, 8, 69] := by rw [e1]; exact ((KP.rf.pf (by decide)).pf (by decide)).pf (by decide)
    have f50 : h1.vl 42 50 = g.vl 42 50 := k1.fl
    exact ⟨0, rfl, kg.tr (k1.wk (by decide) (by decide)), fun k => by rw [f50, k1.vl]; exact sn k, by omega, Or.inl ⟨w, d, hk, rfl, by rw [e1]; rfl, by rw [e1]; rfl, by rw [e1]; rfl, by rw [k1.vl]; exact ev⟩⟩
  refine ev_aload_n dX11_keeps_0 rfl ?_
  refine ev_iload_n dX11_keeps_1 rfl ?_
  by_cases hp : 0 ≤ p ∧ p < (N : Int)
  · skip
    refine ev_cvi dX11_keeps_2 lX11_361 (i_les1 hI hN hp) (by decide) hI.o hI.n rfl rfl rfl (Nat.le_of_ble_eq_true rfl) rfl (fun r z1 q => ?_)
    obtain ⟨rfl, e⟩ := q
    rw [e]
    refine ev_ifne 15 dX11_keeps_5 (fun hbr => ?_) (fun h_no => (by exfalso; omega))
    refine ev_iload_n dX11_keeps_15 rfl ?_
    refine ev_iconst dX11_keeps_16 ?_
    refine ev_bipush dX11_keeps_17 ?_
    by_cases hq : 0 ≤ q ∧ q ≤ 7
    · skip
      refine ev_csi dX11_keeps_19 lX11_164 (f_isIn1 hq) (by decide) rfl rfl (Nat.le_of_ble_eq_true rfl) rfl (fun r z2 q => ?_)
      obtain ⟨rfl, e⟩ := q
      rw [e]
      refine ev_ifne 33 dX11_keeps_22 (fun hbr => ?_) (fun h_no => (by exfalso; omega))
      refine ev_aload_n dX11_keeps_33 rfl ?_
      refine ev_iload_n dX11_keeps_34 rfl ?_
      refine ev_cvi dX11_keeps_35 lX11_367 (i_finds hI hN hK hp (by omega)) (by decide) hI.o hI.n rfl rfl rfl (Nat.le_of_ble_eq_true rfl) rfl (fun x h1 q => ?_)
      obtain ⟨q, K1⟩ := q
      obtain ⟨q1, q2, q3, r, S, q4, q5, q6, q7⟩ := q
      have I1 : RI h1 := q1.ri hI
      have k1 : KP h h1 KeA KeF := q1.wk (by decide) (by decide)
      by_cases c : r.1 = 0
      · skip
        rw [if_pos c] at q6
        obtain ⟨N1, n1, R1⟩ := q7 c
        obtain ⟨T, g2, s2, s3, s4, s5⟩ := R1
        have hl0 : 0 < (LL p.toNat).length := List.length_pos_iff.mpr q2.2.2.1
        obtain ⟨-, a, a1, a2, a3⟩ := s2 0 hl0
        have z9 := fnR_sz q4 c 0 hl0
        refine ev_ifne 54 dX11_keeps_38 (fun hb => ?_) (fun h_no => (by exfalso; omega))
        refine ev_aload_n dX11_keeps_54 rfl ?_
        refine ev_aload_n dX11_keeps_55 rfl ?_
        refine ev_getrv dX11_keeps_56 fX11_137 I1.o I1.n rfl I1.v_type ?_
        refine ev_iconst dX11_keeps_59 ?_
        refine ev_ildv dX11_keeps_60 I1.k_type I1.n_type rfl (by omega) (by omega) a2 ?_
        refine ev_cvv dX11_keeps_61 lX11_370 (s_writesN (t := a) I1 g2 a1 (by rw [a3]; exact z9) (by unfold ir; omega)) (by decide) I1.o I1.n rfl rfl rfl (Nat.le_of_ble_eq_true rfl) rfl (fun h2 q => ?_)
        obtain ⟨k2, t2, g3, w3⟩ := q
        rw [a3] at w3
        have I2 : RI h2 := k2.ri I1
        have J2 := g3.sn
        have y1 := w3.1
        have y2 := w3.2.1
        have K2 : KP h h2 KeA KeF := k1.tr (k2.wk (by decide) (by decide))
        have v2 : h2.vl 43 = h.vl 43 := by rw [k2.vl, q1.vl]
        refine ev_aload_n dX11_keeps_64 rfl ?_
        refine ev_getiv dX11_keeps_65 fX11_262 I2.o I2.n rfl y1 ?_
        refine ev_bipush dX11_keeps_68 ?_
        by_cases d : 24 < sz (S.2.1 0)
        · skip
          refine ev_icmple 84 dX11_keeps_70 (fun h_no => (by exfalso; omega)) (fun hb2 => ?_)
          refine ev_aload_n dX11_keeps_73 rfl ?_
          refine ev_bipush dX11_keeps_74 ?_
          refine ev_aload_n dX11_keeps_76 rfl ?_
          refine ev_getiv dX11_keeps_77 fX11_262 I2.o I2.n rfl y1 ?_
          refine ev_cvi dX11_keeps_80 lX11_356 (s_refuses I2) (by decide) I2.o I2.n rfl rfl rfl (Nat.le_of_ble_eq_true rfl) rfl (fun r9 h3 q => ?_)
          obtain ⟨rfl, e3⟩ := q
          exact ev_iret dX11_keeps_83 (bad h2 h3 7 _ K2 J2 (by omega) v2 e3 (Or.inr (Or.inr ⟨hp, hq, r, S, q4, Or.inr ⟨c, d, rfl, rfl⟩⟩)))
        obtain ⟨cc, rfl⟩ : ∃ cc : Nat, q = (cc : Int) := ⟨q.toNat, by omega⟩
        have r9 : (cnT (S.2.1 0) []).1.length = sz (S.2.1 0) := cn_len _ _
        have hrw : RwA (h2.vl 78) 0 (cnT (S.2.1 0) []).1 := fun i hi => by rw [Nat.zero_add]; exact w3.2.2 i hi
        refine ev_icmple 84 dX11_keeps_70 (fun hb2 => ?_) (fun h_no => (by exfalso; omega))
        refine ev_aload_n dX11_keeps_84 rfl ?_
        refine ev_getrv dX11_keeps_85 fX11_13 I2.o I2.n rfl I2.v_v ?_
        refine ev_iload_n dX11_keeps_88 rfl ?_
        refine ev_csi dX11_keeps_89 lX11_278 (s_keptAt (by omega) (by omega)) (by decide) rfl rfl (Nat.le_of_ble_eq_true rfl) rfl (fun x9 z3 q => ?_)
        obtain ⟨rfl, e⟩ := q
        rw [e]
        refine ev_aload_n dX11_keeps_92 rfl ?_
        refine ev_getiv dX11_keeps_93 fX11_262 I2.o I2.n rfl y1 ?_
        rw [show (369 : Int) + 25 * (cc : Int) = ((369 + 25 * cc : Nat) : Int) by omega]
        refine ev_istr dX11_keeps_96 I2.k_v I2.n_v rfl (by omega) (by omega) ?_
        refine ev_iconst dX11_keeps_97 ?_
        refine ev_ist3 dX11_keeps_98 ?_
        rw [show ((369 + 25 * cc : Nat) : Int).toNat = 369 + 25 * cc from rfl]
        obtain ⟨h3, e3⟩ : ∃ h3, h3 = h2.put 43 (369 + 25 * cc) (sz (S.2.1 0) : Int) := ⟨_, rfl⟩
        rw [← e3]
        have k3 : KP h2 h3 [43] [] := by rw [e3]; exact KP.rf.pr (by decide) (by decide)
        have I3 : RI h3 := k3.ri I2
        refine ke_loop (r := (cnT (S.2.1 0) []).1) (v := h.vl 43) I3 (by omega) (by rw [k3.fl, y1, r9]) (by rw [k3.vl]; exact hrw) (by omega) (fun h4 v3 k4 e4 => ?_) 24 0 h3 (by omega) KP.rf ?_
        · have I4 : RI h4 := k4.ri I3
          have v42 : h4.vl 43 2 = h.vl 43 2 := by
            rw [e4]
            unfold keW
            rw [if_neg (by omega), if_neg (by omega)]
          have y4 : h4.vl 42 60 = ((cnT (S.2.1 0) []).2.length : Int) := by rw [k4.fl, k3.fl]; exact y2
          have s4 : h4.vl 42 50 = h2.vl 42 50 := by rw [k4.fl, k3.fl]
          have u4 : h4.vl 42 69 = h.vl 42 69 := by rw [k4.fl, k3.fl, k2.fl, q1.fl]
          have K4 : KP h h4 KeA KeF := (K2.tr (k3.wk (by decide) (by decide))).tr (k4.wk (by decide) (by decide))
          refine ev_aload_n dX11_keeps_142 rfl ?_
          refine ev_getrv dX11_keeps_143 fX11_13 I4.o I4.n rfl I4.v_v ?_
          refine ev_iconst dX11_keeps_146 ?_
          refine ev_dup2 dX11_keeps_147 ?_
          refine ev_ildv dX11_keeps_148 I4.k_v I4.n_v rfl (by omega) (by omega) v42 ?_
          refine ev_iconst dX11_keeps_149 ?_
          refine ev_iadd dX11_keeps_150 (by unfold ir; omega) ?_
          refine ev_istr dX11_keeps_151 I4.k_v I4.n_v rfl (by omega) (by omega) ?_
          refine ev_aload_n dX11_keeps_152 rfl ?_
          refine ev_getiv dX11_keeps_153 fX11_265 I4.o I4.n rfl y4 ?_
          refine ev_iret dX11_keeps_156 (⟨_, rfl, K4.tr (KP.rf.pr (by decide) (by decide)), fun k => by rw [AH.put_vl, if_neg (fun z => absurd z.1 (by decide))]; show h4.vl 71 k ≤ h4.vl 42 50; rw [s4, k4.vl, k3.vl]; exact J2 k, by show h.vl 42 50 ≤ h4.vl 42 50 ∧ h4.vl 42 50 ≤ _; omega, Or.inr ⟨S.2.1 0, ⟨hp, hq, r, S, q4, c, by omega, rfl⟩, rfl, u4, ?_⟩⟩)
          rw [show (2 : Int).toNat = 2 from rfl, put_row, e4]
          funext k
          unfold upI keV
          by_cases e : k = 2
          · rw [if_pos e, if_pos e]
          · rw [if_neg e, if_neg e]
            rfl
        · rw [e3, put_row, v2]
          funext k
          unfold upI keW
          by_cases e : k = 369 + 25 * cc
          · rw [if_pos e, if_pos e, r9]
          · rw [if_neg e, if_neg e, if_neg (by omega)]
      rw [if_neg c] at q6
      obtain ⟨f1, f2, f3⟩ := q5
      obtain ⟨f4, -⟩ := f2 c
      refine ev_ifne 54 dX11_keeps_38 (fun h_no => (by exfalso; omega)) (fun hb => ?_)
      refine ev_aload_n dX11_keeps_41 rfl ?_
      refine ev_aload_n dX11_keeps_42 rfl ?_
      refine ev_getiv dX11_keeps_43 fX11_242 I1.o I1.n rfl f1 ?_
      refine ev_aload_n dX11_keeps_46 rfl ?_
      refine ev_getiv dX11_keeps_47 fX11_275 I1.o I1.n rfl f4 ?_
      refine ev_cvi dX11_keeps_50 lX11_356 (s_refuses I1) (by decide) I1.o I1.n rfl rfl rfl (Nat.le_of_ble_eq_true rfl) rfl (fun r9 h3 q => ?_)
      obtain ⟨rfl, e3⟩ := q
      exact ev_iret dX11_keeps_53 (bad h1 h3 r.1 r.2.1 k1 f3 (by omega) q1.vl e3 (Or.inr (Or.inr ⟨hp, hq, r, S, q4, Or.inl ⟨c, rfl, rfl⟩⟩)))
    refine ev_csi dX11_keeps_19 lX11_164 (f_isIn0 hq) (by decide) rfl rfl (Nat.le_of_ble_eq_true rfl) rfl (fun r z2 q => ?_)
    obtain ⟨rfl, e⟩ := q
    rw [e]
    refine ev_ifne 33 dX11_keeps_22 (fun h_no => (by exfalso; omega)) (fun hbr => ?_)
    refine ev_aload_n dX11_keeps_25 rfl ?_
    refine ev_bipush dX11_keeps_26 ?_
    refine ev_iload_n dX11_keeps_28 rfl ?_
    refine ev_cvi dX11_keeps_29 lX11_356 (s_refuses hI) (by decide) hI.o hI.n rfl rfl rfl (Nat.le_of_ble_eq_true rfl) rfl (fun r9 h3 q => ?_)
    obtain ⟨rfl, e3⟩ := q
    exact ev_iret dX11_keeps_32 (bad h h3 8 _ KP.rf hK.2.2 (by omega) rfl e3 (Or.inr (Or.inl ⟨hp, hq, rfl, rfl⟩)))
  refine ev_cvi dX11_keeps_2 lX11_361 (i_les0 hI hN hp) (by decide) hI.o hI.n rfl rfl rfl (Nat.le_of_ble_eq_true rfl) rfl (fun r z1 q => ?_)
  obtain ⟨rfl, e⟩ := q
  rw [e]
  refine ev_ifne 15 dX11_keeps_5 (fun h_no => (by exfalso; omega)) (fun hbr => ?_)
  refine ev_aload_n dX11_keeps_8 rfl ?_
  refine ev_iconst dX11_keeps_9 ?_
  refine ev_iload_n dX11_keeps_10 rfl ?_
  refine ev_cvi dX11_keeps_11 lX11_356 (s_refuses hI) (by decide) hI.o hI.n rfl rfl rfl (Nat.le_of_ble_eq_true rfl) rfl (fun r9 h3 q => ?_)
  obtain ⟨rfl, e3⟩ := q
  exact ev_iret dX11_keeps_14 (bad h h3 2 _ KP.rf hK.2.2 (by omega) rfl e3 (Or.inl ⟨hp, rfl, rfl⟩))
