/-! a term as text: the reference -/
def tmO (L : List Nd) (e : Nat) : List Int := if TBL L 57 e < 4 then [TBL L 58 e] else (if 0 < e then [40] else []) ++ (if TBL L 57 e = 6 then [] else if TBL L 57 e = 4 then [94, TBL L 58 e, 46] else [33, TBL L 58 e, 61])
def tmA (L : List Nd) (e : Nat) : List Int := if TBL L 57 e < 4 then [] else (if TBL L 57 e = 6 then [200 + (fstN L e : Int), 200 + (sndN L e : Int)] else if TBL L 57 e = 4 then [200 + (fstN L e : Int)] else [200 + (fstN L e : Int), 59, 200 + (sndN L e : Int)]) ++ (if 0 < e then [41] else [])
/-- the text of a node -/
def tmX (L : List Nd) : Nat → Nat → List Int
  | 0, _ => []
  | f + 1, e => tmO L e ++ (if TBL L 57 e < 4 then [] else (if TBL L 57 e = 6 then tmX L f (fstN L e) ++ tmX L f (sndN L e) else if TBL L 57 e = 4 then tmX L f (fstN L e) else tmX L f (fstN L e) ++ (59 :: tmX L f (sndN L e))) ++ (if 0 < e then [41] else []))
set_option maxRecDepth 100000 in
theorem s_wNode {h : AH} {L : List Nd} {T : TE} {e : Nat} {st out : List Int} (hI : RI h) (hT : NT h L) (hs : shT T L) (he : e < L.length) (hW : WtI h st out) (hl : st.length ≤ 880) (ho : out.length ≤ 890) : CV mX11_writesNode 2 [rv 42, iv (e : Int)] h (on fun h1 => KP h h1 [90, 91] [80, 81] ∧ WtI h1 (tmA L e ++ st) (out ++ tmO L e)) := by
  have hl9 := hT.2.2.2
  have c57 : h.vl 57 e = TBL L 57 e := hT.1 57 e (by decide) (by decide) (Or.inl he)
  have c58 : h.vl 58 e = TBL L 58 e := hT.1 58 e (by decide) (by decide) (Or.inl he)
  have c59 : h.vl 59 e = TBL L 59 e := hT.1 59 e (by decide) (by decide) (Or.inl he)
  have c60 : h.vl 60 e = TBL L 60 e := hT.1 60 e (by decide) (by decide) (Or.inl he)
  have nd := ndR hs he
  have f59 : 4 ≤ TBL L 57 e → TBL L 59 e = ((fstN L e : Nat) : Int) ∧ fstN L e < L.length := fun z => by
    rcases nd with g | ⟨-, g, -, g2⟩ | ⟨-, g, s, -, g2, g3⟩
    · omega
    · have : fstN L e = e + 1 := by rw [fstN, g]; rfl
      exact ⟨by rw [g, this], by omega⟩
    · have : fstN L e = e + 1 := by rw [fstN, g]; rfl
      exact ⟨by rw [g, this], by omega⟩
  have f60 : 5 ≤ TBL L 57 e → TBL L 60 e = ((sndN L e : Nat) : Int) ∧ sndN L e < L.length := fun z => by
    rcases nd with g | g | ⟨-, -, s, g, g2, g3⟩
    · omega
    · omega
    · have : sndN L e = s := by rw [sndN, g]; rfl
      exact ⟨by rw [g, this], by omega⟩
  -- behind the opening parenthesis
  have p36 : ∀ (g : AH) (b : Int) (o1 a1 : List Int), 4 ≤ TBL L 57 e → KP h g [90, 91] [80, 81] → WtI g (a1 ++ st) (out ++ o1) → o1.length ≤ 1 → a1.length ≤ 1 → o1 = (if 0 < e then [40] else []) → a1 = (if 0 < e then [41] else []) → EV mX11_writesNode 2 36 [rv 42, iv (e : Int), iv b] [] g (on fun h1 => KP h h1 [90, 91] [80, 81] ∧ WtI h1 (tmA L e ++ st) (out ++ tmO L e)) := by
    intro g b o1 a1 h4 k W l1 l2 eo ea
    have Ig : RI g := k.ri hI
    have d57 : g.vl 57 e = TBL L 57 e := by rw [k.vl]; exact c57
    have d58 : g.vl 58 e = TBL L 58 e := by rw [k.vl]; exact c58
    obtain ⟨n1, n2⟩ := f59 h4
    have d59 : g.vl 59 e = ((fstN L e : Nat) : Int) := by rw [k.vl, c59]; exact n1
    have sl : (a1 ++ st).length ≤ 881 := by rw [List.length_append]; omega
    have ol : (out ++ o1).length ≤ 891 := by rw [List.length_append]; omega
    refine ev_aload_n dX11_writesNode_36 rfl ?_
    refine ev_getrv dX11_writesNode_37 fX11_56 Ig.o Ig.n rfl Ig.v_kind ?_
    refine ev_iload_n dX11_writesNode_40 rfl ?_
    refine ev_ildv dX11_writesNode_41 Ig.k_kind Ig.n_kind rfl (by omega) (by omega) d57 ?_
    refine ev_iconst dX11_writesNode_42 ?_
    refine ev_icmpge 57 dX11_writesNode_43 (fun hb => ?_) (fun h_no => (by exfalso; omega))
    refine ev_aload_n dX11_writesNode_57 rfl ?_
    refine ev_getrv dX11_writesNode_58 fX11_56 Ig.o Ig.n rfl Ig.v_kind ?_
    refine ev_iload_n dX11_writesNode_61 rfl ?_
    refine ev_ildv dX11_writesNode_62 Ig.k_kind Ig.n_kind rfl (by omega) (by omega) d57 ?_
    refine ev_bipush dX11_writesNode_63 ?_
    by_cases c6 : TBL L 57 e = 6
    · skip
      obtain ⟨m1, m2⟩ := f60 (by omega)
      have d60 : g.vl 60 e = ((sndN L e : Nat) : Int) := by rw [k.vl, c60]; exact m1
      refine ev_icmpne 97 dX11_writesNode_65 (fun h_no => (by exfalso; omega)) (fun hb2 => ?_)
      refine ev_aload_n dX11_writesNode_68 rfl ?_
      refine ev_sipush dX11_writesNode_69 ?_
      refine ev_aload_n dX11_writesNode_72 rfl ?_
      refine ev_getrv dX11_writesNode_73 fX11_65 Ig.o Ig.n rfl Ig.v_second ?_
      refine ev_iload_n dX11_writesNode_76 rfl ?_
      refine ev_ildv dX11_writesNode_77 Ig.k_second Ig.n_second rfl (by omega) (by omega) d60 ?_
      refine ev_iadd dX11_writesNode_78 (by unfold ir; omega) ?_
      refine ev_cvv dX11_writesNode_79 lX11_446 (i_later Ig W (by omega)) (by decide) Ig.o Ig.n rfl rfl rfl (Nat.le_of_ble_eq_true rfl) rfl (fun g2 q => ?_)
      obtain ⟨k2, W2⟩ := q
      have I2 : RI g2 := k2.ri Ig
      have e59 : g2.vl 59 e = ((fstN L e : Nat) : Int) := by rw [k2.vl]; exact d59
      refine ev_aload_n dX11_writesNode_82 rfl ?_
      refine ev_sipush dX11_writesNode_83 ?_
      refine ev_aload_n dX11_writesNode_86 rfl ?_
      refine ev_getrv dX11_writesNode_87 fX11_62 I2.o I2.n rfl I2.v_first ?_
      refine ev_iload_n dX11_writesNode_90 rfl ?_
      refine ev_ildv dX11_writesNode_91 I2.k_first I2.n_first rfl (by omega) (by omega) e59 ?_
      refine ev_iadd dX11_writesNode_92 (by unfold ir; omega) ?_
      refine ev_cvv dX11_writesNode_93 lX11_446 (i_later I2 W2 (by rw [List.length_cons]; omega)) (by decide) I2.o I2.n rfl rfl rfl (Nat.le_of_ble_eq_true rfl) rfl (fun g3 q => ?_)
      obtain ⟨k3, W3⟩ := q
      refine ev_vret dX11_writesNode_96 (⟨rfl, (k.tr (k2.wk (by decide) (by decide))).tr (k3.wk (by decide) (by decide)), ?_⟩)
      have n4 : ¬ TBL L 57 e < 4 := by omega
      rw [tmA, if_neg n4, if_pos c6, tmO, if_neg n4, if_pos c6, ← eo, ← ea, List.append_nil]
      exact W3
    -- a function or a let: a sign, its name, a sign
    have w115 : ∀ (x : Int), x = (if TBL L 57 e = 4 then 94 else 33) → EV mX11_writesNode 2 115 [rv 42, iv (e : Int), iv b] [iv x, rv 42] g (on fun h1 => KP h h1 [90, 91] [80, 81] ∧ WtI h1 (tmA L e ++ st) (out ++ tmO L e)) := by
      intro x ex
      refine ev_cvv dX11_writesNode_115 lX11_449 (i_writes Ig W (by omega)) (by decide) Ig.o Ig.n rfl rfl rfl (Nat.le_of_ble_eq_true rfl) rfl (fun g2 q => ?_)
      obtain ⟨k2, W2⟩ := q
      have I2 : RI g2 := k2.ri Ig
      have e58 : g2.vl 58 e = TBL L 58 e := by rw [k2.vl]; exact d58
      refine ev_aload_n dX11_writesNode_118 rfl ?_
      refine ev_aload_n dX11_writesNode_119 rfl ?_
      refine ev_getrv dX11_writesNode_120 fX11_59 I2.o I2.n rfl I2.v_sign ?_
      refine ev_iload_n dX11_writesNode_123 rfl ?_
      refine ev_ildv dX11_writesNode_124 I2.k_sign I2.n_sign rfl (by omega) (by omega) e58 ?_
      refine ev_cvv dX11_writesNode_125 lX11_449 (i_writes I2 W2 (by rw [List.length_append]; show _ + 1 < 900; omega)) (by decide) I2.o I2.n rfl rfl rfl (Nat.le_of_ble_eq_true rfl) rfl (fun g3 q => ?_)
      obtain ⟨k3, W3⟩ := q
      have I3 : RI g3 := k3.ri I2
      have K3 : KP h g3 [90, 91] [80, 81] := (k.tr (k2.wk (by decide) (by decide))).tr (k3.wk (by decide) (by decide))
      have e57 : g3.vl 57 e = TBL L 57 e := by rw [K3.vl]; exact c57
      have e59 : g3.vl 59 e = ((fstN L e : Nat) : Int) := by rw [K3.vl, c59]; exact n1
      have w146 : ∀ (y : Int), y = (if TBL L 57 e = 4 then 46 else 61) → EV mX11_writesNode 2 146 [rv 42, iv (e : Int), iv b] [iv y, rv 42] g3 (on fun h1 => KP h h1 [90, 91] [80, 81] ∧ WtI h1 (tmA L e ++ st) (out ++ tmO L e)) := by
        intro y ey
        refine ev_cvv dX11_writesNode_146 lX11_449 (i_writes I3 W3 (by rw [List.length_append, List.length_append]; show _ + 1 + 1 < 900; omega)) (by decide) I3.o I3.n rfl rfl rfl (Nat.le_of_ble_eq_true rfl) rfl (fun g4 q => ?_)
        obtain ⟨k4, W4⟩ := q
        have I4 : RI g4 := k4.ri I3
        have K4 : KP h g4 [90, 91] [80, 81] := K3.tr (k4.wk (by decide) (by decide))
        have u57 : g4.vl 57 e = TBL L 57 e := by rw [K4.vl]; exact c57
        have u59 : g4.vl 59 e = ((fstN L e : Nat) : Int) := by rw [K4.vl, c59]; exact n1
        have eO : out ++ o1 ++ [x] ++ [TBL L 58 e] ++ [y] = out ++ tmO L e := by
          rw [tmO, if_neg (by omega), if_neg c6, ← eo, ex, ey]
          by_cases z : TBL L 57 e = 4
          · simp [z]
          · simp [z]
        rw [eO] at W4
        refine ev_aload_n dX11_writesNode_149 rfl ?_
        refine ev_getrv dX11_writesNode_150 fX11_56 I4.o I4.n rfl I4.v_kind ?_
        refine ev_iload_n dX11_writesNode_153 rfl ?_
        refine ev_ildv dX11_writesNode_154 I4.k_kind I4.n_kind rfl (by omega) (by omega) u57 ?_
        refine ev_iconst dX11_writesNode_155 ?_
        by_cases c5 : TBL L 57 e = 5
        · skip
          obtain ⟨m1, m2⟩ := f60 (by omega)
          have u60 : g4.vl 60 e = ((sndN L e : Nat) : Int) := by rw [K4.vl, c60]; exact m1
          refine ev_icmpne 179 dX11_writesNode_156 (fun h_no => (by exfalso; omega)) (fun hb3 => ?_)
          refine ev_aload_n dX11_writesNode_159 rfl ?_
          refine ev_sipush dX11_writesNode_160 ?_
          refine ev_aload_n dX11_writesNode_163 rfl ?_
          refine ev_getrv dX11_writesNode_164 fX11_65 I4.o I4.n rfl I4.v_second ?_
          refine ev_iload_n dX11_writesNode_167 rfl ?_
          refine ev_ildv dX11_writesNode_168 I4.k_second I4.n_second rfl (by omega) (by omega) u60 ?_
          refine ev_iadd dX11_writesNode_169 (by unfold ir; omega) ?_
          refine ev_cvv dX11_writesNode_170 lX11_446 (i_later I4 W4 (by omega)) (by decide) I4.o I4.n rfl rfl rfl (Nat.le_of_ble_eq_true rfl) rfl (fun g5 q => ?_)
          obtain ⟨k5, W5⟩ := q
          have I5 : RI g5 := k5.ri I4
          refine ev_aload_n dX11_writesNode_173 rfl ?_
          refine ev_bipush dX11_writesNode_174 ?_
          refine ev_cvv dX11_writesNode_176 lX11_446 (i_later I5 W5 (by rw [List.length_cons]; omega)) (by decide) I5.o I5.n rfl rfl rfl (Nat.le_of_ble_eq_true rfl) rfl (fun g6 q => ?_)
          obtain ⟨k6, W6⟩ := q
          have I6 : RI g6 := k6.ri I5
          have v59 : g6.vl 59 e = ((fstN L e : Nat) : Int) := by rw [k6.vl, k5.vl]; exact u59
          refine ev_aload_n dX11_writesNode_179 rfl ?_
          refine ev_sipush dX11_writesNode_180 ?_
          refine ev_aload_n dX11_writesNode_183 rfl ?_
          refine ev_getrv dX11_writesNode_184 fX11_62 I6.o I6.n rfl I6.v_first ?_
          refine ev_iload_n dX11_writesNode_187 rfl ?_
          refine ev_ildv dX11_writesNode_188 I6.k_first I6.n_first rfl (by omega) (by omega) v59 ?_
          refine ev_iadd dX11_writesNode_189 (by unfold ir; omega) ?_
          refine ev_cvv dX11_writesNode_190 lX11_446 (i_later I6 W6 (by rw [List.length_cons, List.length_cons]; omega)) (by decide) I6.o I6.n rfl rfl rfl (Nat.le_of_ble_eq_true rfl) rfl (fun g7 q => ?_)
          obtain ⟨k7, W7⟩ := q
          refine ev_vret dX11_writesNode_193 (⟨rfl, ((K4.tr (k5.wk (by decide) (by decide))).tr (k6.wk (by decide) (by decide))).tr (k7.wk (by decide) (by decide)), ?_⟩)
          rw [tmA, if_neg (by omega), if_neg c6, if_neg (by omega), ← ea]
          exact W7
        refine ev_icmpne 179 dX11_writesNode_156 (fun hb3 => ?_) (fun h_no => (by exfalso; omega))
        refine ev_aload_n dX11_writesNode_179 rfl ?_
        refine ev_sipush dX11_writesNode_180 ?_
        refine ev_aload_n dX11_writesNode_183 rfl ?_
        refine ev_getrv dX11_writesNode_184 fX11_62 I4.o I4.n rfl I4.v_first ?_
        refine ev_iload_n dX11_writesNode_187 rfl ?_
        refine ev_ildv dX11_writesNode_188 I4.k_first I4.n_first rfl (by omega) (by omega) u59 ?_
        refine ev_iadd dX11_writesNode_189 (by unfold ir; omega) ?_
        refine ev_cvv dX11_writesNode_190 lX11_446 (i_later I4 W4 (by omega)) (by decide) I4.o I4.n rfl rfl rfl (Nat.le_of_ble_eq_true rfl) rfl (fun g7 q => ?_)
        obtain ⟨k7, W7⟩ := q
        have c4 : TBL L 57 e = 4 := by
          rcases nd with z | z | z
          · omega
          · exact z.1
          · omega
        refine ev_vret dX11_writesNode_193 (⟨rfl, K4.tr (k7.wk (by decide) (by decide)), ?_⟩)
        rw [tmA, if_neg (by omega), if_neg c6, if_pos c4, ← ea]
        exact W7
      refine ev_aload_n dX11_writesNode_128 rfl ?_
      refine ev_aload_n dX11_writesNode_129 rfl ?_
      refine ev_getrv dX11_writesNode_130 fX11_56 I3.o I3.n rfl I3.v_kind ?_
      refine ev_iload_n dX11_writesNode_133 rfl ?_
      refine ev_ildv dX11_writesNode_134 I3.k_kind I3.n_kind rfl (by omega) (by omega) e57 ?_
      refine ev_iconst dX11_writesNode_135 ?_
      by_cases c4 : TBL L 57 e = 4
      · skip
        refine ev_icmpne 144 dX11_writesNode_136 (fun h_no => (by exfalso; omega)) (fun hb3 => ?_)
        refine ev_bipush dX11_writesNode_139 ?_
        refine ev_gt 146 dX11_writesNode_141 ?_
        exact w146 _ (by rw [if_pos c4])
      refine ev_icmpne 144 dX11_writesNode_136 (fun hb3 => ?_) (fun h_no => (by exfalso; omega))
      refine ev_bipush dX11_writesNode_144 ?_
      exact w146 _ (by rw [if_neg c4])
    refine ev_icmpne 97 dX11_writesNode_65 (fun hb2 => ?_) (fun h_no => (by exfalso; omega))
    refine ev_aload_n dX11_writesNode_97 rfl ?_
    refine ev_aload_n dX11_writesNode_98 rfl ?_
    refine ev_getrv dX11_writesNode_99 fX11_56 Ig.o Ig.n rfl Ig.v_kind ?_
    refine ev_iload_n dX11_writesNode_102 rfl ?_
    refine ev_ildv dX11_writesNode_103 Ig.k_kind Ig.n_kind rfl (by omega) (by omega) d57 ?_
    refine ev_iconst dX11_writesNode_104 ?_
    by_cases c4 : TBL L 57 e = 4
    · skip
      refine ev_icmpne 113 dX11_writesNode_105 (fun h_no => (by exfalso; omega)) (fun hb3 => ?_)
      refine ev_bipush dX11_writesNode_108 ?_
      refine ev_gt 115 dX11_writesNode_110 ?_
      exact w115 _ (by rw [if_pos c4])
    refine ev_icmpne 113 dX11_writesNode_105 (fun hb3 => ?_) (fun h_no => (by exfalso; omega))
    refine ev_bipush dX11_writesNode_113 ?_
    exact w115 _ (by rw [if_neg c4])
  -- a leaf
  have leaf : ∀ (b : Int), TBL L 57 e < 4 → EV mX11_writesNode 2 36 [rv 42, iv (e : Int), iv b] [] h (on fun h1 => KP h h1 [90, 91] [80, 81] ∧ WtI h1 (tmA L e ++ st) (out ++ tmO L e)) := by
    intro b h4
    refine ev_aload_n dX11_writesNode_36 rfl ?_
    refine ev_getrv dX11_writesNode_37 fX11_56 hI.o hI.n rfl hI.v_kind ?_
    refine ev_iload_n dX11_writesNode_40 rfl ?_
    refine ev_ildv dX11_writesNode_41 hI.k_kind hI.n_kind rfl (by omega) (by omega) c57 ?_
    refine ev_iconst dX11_writesNode_42 ?_
    refine ev_icmpge 57 dX11_writesNode_43 (fun h_no => (by exfalso; omega)) (fun hb => ?_)
    refine ev_aload_n dX11_writesNode_46 rfl ?_
    refine ev_aload_n dX11_writesNode_47 rfl ?_
    refine ev_getrv dX11_writesNode_48 fX11_59 hI.o hI.n rfl hI.v_sign ?_
    refine ev_iload_n dX11_writesNode_51 rfl ?_
    refine ev_ildv dX11_writesNode_52 hI.k_sign hI.n_sign rfl (by omega) (by omega) c58 ?_
    refine ev_cvv dX11_writesNode_53 lX11_449 (i_writes hI hW (by omega)) (by decide) hI.o hI.n rfl rfl rfl (Nat.le_of_ble_eq_true rfl) rfl (fun g2 q => ?_)
    obtain ⟨k2, W2⟩ := q
    exact ev_vret dX11_writesNode_56 (⟨rfl, k2.wk (by decide) (by decide), by rw [tmA, if_pos h4, tmO, if_pos h4]; exact W2⟩)
  refine cv_of cdX11_writesNode ?_
  show EV _ _ 0 [rv 42, iv (e : Int), uv] [] h _
  refine ev_iload_n dX11_writesNode_0 rfl ?_
  by_cases c0 : 0 < e
  · skip
    refine ev_ifle 18 dX11_writesNode_1 (fun h_no => (by exfalso; omega)) (fun hb => ?_)
    refine ev_aload_n dX11_writesNode_4 rfl ?_
    refine ev_getrv dX11_writesNode_5 fX11_56 hI.o hI.n rfl hI.v_kind ?_
    refine ev_iload_n dX11_writesNode_8 rfl ?_
    refine ev_ildv dX11_writesNode_9 hI.k_kind hI.n_kind rfl (by omega) (by omega) c57 ?_
    refine ev_iconst dX11_writesNode_10 ?_
    by_cases c4 : TBL L 57 e < 4
    · skip
      refine ev_icmplt 18 dX11_writesNode_11 (fun hb2 => ?_) (fun h_no => (by exfalso; omega))
      refine ev_iconst dX11_writesNode_18 ?_
      refine ev_ist2 dX11_writesNode_19 ?_
      refine ev_iload_n dX11_writesNode_20 rfl ?_
      refine ev_ifeq 36 dX11_writesNode_21 (fun hb3 => ?_) (fun h_no => (by exfalso; omega))
      exact leaf 0 c4
    refine ev_icmplt 18 dX11_writesNode_11 (fun h_no => (by exfalso; omega)) (fun hb2 => ?_)
    refine ev_iconst dX11_writesNode_14 ?_
    refine ev_gt 19 dX11_writesNode_15 ?_
    refine ev_ist2 dX11_writesNode_19 ?_
    refine ev_iload_n dX11_writesNode_20 rfl ?_
    refine ev_ifeq 36 dX11_writesNode_21 (fun h_no => (by exfalso; omega)) (fun hb3 => ?_)
    refine ev_aload_n dX11_writesNode_24 rfl ?_
    refine ev_bipush dX11_writesNode_25 ?_
    refine ev_cvv dX11_writesNode_27 lX11_449 (i_writes hI hW (by omega)) (by decide) hI.o hI.n rfl rfl rfl (Nat.le_of_ble_eq_true rfl) rfl (fun g2 q => ?_)
    obtain ⟨k2, W2⟩ := q
    have I2 : RI g2 := k2.ri hI
    refine ev_aload_n dX11_writesNode_30 rfl ?_
    refine ev_bipush dX11_writesNode_31 ?_
    refine ev_cvv dX11_writesNode_33 lX11_446 (i_later I2 W2 (by omega)) (by decide) I2.o I2.n rfl rfl rfl (Nat.le_of_ble_eq_true rfl) rfl (fun g3 q => ?_)
    obtain ⟨k3, W3⟩ := q
    exact p36 g3 1 [40] [41] (by omega) ((k2.wk (by decide) (by decide)).tr (k3.wk (by decide) (by decide))) W3 (by decide) (by decide) (by rw [if_pos c0]) (by rw [if_pos c0])
  refine ev_ifle 18 dX11_writesNode_1 (fun hb => ?_) (fun h_no => (by exfalso; omega))
  refine ev_iconst dX11_writesNode_18 ?_
  refine ev_ist2 dX11_writesNode_19 ?_
  refine ev_iload_n dX11_writesNode_20 rfl ?_
  refine ev_ifeq 36 dX11_writesNode_21 (fun hb3 => ?_) (fun h_no => (by exfalso; omega))
  by_cases c4 : TBL L 57 e < 4
  · exact leaf 0 c4
  · exact p36 h 0 [] [] (by omega) KP.rf (by rw [List.append_nil]; exact hW) (by decide) (by decide) (by rw [if_neg c0]) (by rw [if_neg c0])
set_option maxRecDepth 100000 in
theorem tt_node {h : AH} {L : List Nd} {T : TE} {p : Int} {e : Nat} {st out : List Int} {Q : AV → AH → Prop} (hI : RI h) (hT : NT h L) (hs : shT T L) (he : e < L.length) (hW : WtI h ((200 + (e : Int)) :: st) out) (hl : st.length ≤ 880) (ho : out.length ≤ 890) (kk : ∀ h1, KP h h1 [90, 91] [80, 81] → WtI h1 (tmA L e ++ st) (out ++ tmO L e) → EV mX11_tellTerm 8 48 [rv 42, iv p] [] h1 Q) : EV mX11_tellTerm 8 48 [rv 42, iv p] [] h Q := by
  obtain ⟨⟨w1, w2, w2'⟩, w3, w4⟩ := hW
  have w1 : h.vl 42 81 = (st.length : Int) + 1 := w1
  have hl9 := hT.2.2.2
  refine ev_aload_n dX11_tellTerm_48 rfl ?_
  refine ev_getiv dX11_tellTerm_49 fX11_443 hI.o hI.n rfl w1 ?_
  refine ev_ifle 116 dX11_tellTerm_52 (fun h_no => (by exfalso; omega)) (fun hb => ?_)
  refine ev_aload_n dX11_tellTerm_55 rfl ?_
  refine ev_dup dX11_tellTerm_56 ?_
  refine ev_getiv dX11_tellTerm_57 fX11_443 hI.o hI.n rfl w1 ?_
  refine ev_iconst dX11_tellTerm_60 ?_
  refine ev_isub dX11_tellTerm_61 (by unfold ir; omega) ?_
  refine ev_pt dX11_tellTerm_62 fX11_443 hI.o hI.n rfl ?_
  rw [show (st.length : Int) + 1 - 1 = (st.length : Int) by omega]
  obtain ⟨h1, e1⟩ : ∃ h1, h1 = h.put 42 81 (st.length : Int) := ⟨_, rfl⟩
  rw [← e1]
  have k1 : KP h h1 [] [81] := by rw [e1]; exact KP.rf.pf (by decide)
  have I1 : RI h1 := k1.ri hI
  have f81 : h1.vl 42 81 = (st.length : Int) := by rw [e1]; rfl
  have f91 : h1.vl 91 st.length = 200 + (e : Int) := by rw [k1.vl]; exact w2
  refine ev_aload_n dX11_tellTerm_65 rfl ?_
  refine ev_getrv dX11_tellTerm_66 fX11_158 I1.o I1.n rfl I1.v_acts ?_
  refine ev_aload_n dX11_tellTerm_69 rfl ?_
  refine ev_getiv dX11_tellTerm_70 fX11_443 I1.o I1.n rfl f81 ?_
  refine ev_ildv dX11_tellTerm_73 I1.k_acts I1.n_acts rfl (by omega) (by omega) f91 ?_
  refine ev_sipush dX11_tellTerm_74 ?_
  refine ev_icmplt 100 dX11_tellTerm_77 (fun h_no => (by exfalso; omega)) (fun hb2 => ?_)
  refine ev_aload_n dX11_tellTerm_80 rfl ?_
  refine ev_aload_n dX11_tellTerm_81 rfl ?_
  refine ev_getrv dX11_tellTerm_82 fX11_158 I1.o I1.n rfl I1.v_acts ?_
  refine ev_aload_n dX11_tellTerm_85 rfl ?_
  refine ev_getiv dX11_tellTerm_86 fX11_443 I1.o I1.n rfl f81 ?_
  refine ev_ildv dX11_tellTerm_89 I1.k_acts I1.n_acts rfl (by omega) (by omega) f91 ?_
  refine ev_sipush dX11_tellTerm_90 ?_
  refine ev_isub dX11_tellTerm_93 (by unfold ir; omega) ?_
  rw [show 200 + (e : Int) - 200 = (e : Int) by omega]
  refine ev_cvv dX11_tellTerm_94 lX11_455 (s_wNode I1 (hT.kp k1) hs he ⟨⟨f81, by rw [k1.vl]; exact w2'⟩, by rw [k1.fl]; exact w3, by rw [k1.vl]; exact w4⟩ hl ho) (by decide) I1.o I1.n rfl rfl rfl (Nat.le_of_ble_eq_true rfl) rfl (fun h2 q => ?_)
  obtain ⟨k2, W2⟩ := q
  refine ev_gt 48 dX11_tellTerm_97 ?_
  exact kk h2 ((k1.wk (by decide) (by decide)).tr k2) W2
set_option maxRecDepth 100000 in
theorem tt_sign {h : AH} {p c : Int} {st out : List Int} {Q : AV → AH → Prop} (hI : RI h) (hW : WtI h (c :: st) out) (hc : c < 200) (hl : st.length ≤ 880) (ho : out.length ≤ 890) (kk : ∀ h1, KP h h1 [90, 91] [80, 81] → WtI h1 st (out ++ [c]) → EV mX11_tellTerm 8 48 [rv 42, iv p] [] h1 Q) : EV mX11_tellTerm 8 48 [rv 42, iv p] [] h Q := by
  obtain ⟨⟨w1, w2, w2'⟩, w3, w4⟩ := hW
  have w1 : h.vl 42 81 = (st.length : Int) + 1 := w1
  refine ev_aload_n dX11_tellTerm_48 rfl ?_
  refine ev_getiv dX11_tellTerm_49 fX11_443 hI.o hI.n rfl w1 ?_
  refine ev_ifle 116 dX11_tellTerm_52 (fun h_no => (by exfalso; omega)) (fun hb => ?_)
  refine ev_aload_n dX11_tellTerm_55 rfl ?_
  refine ev_dup dX11_tellTerm_56 ?_
  refine ev_getiv dX11_tellTerm_57 fX11_443 hI.o hI.n rfl w1 ?_
  refine ev_iconst dX11_tellTerm_60 ?_
  refine ev_isub dX11_tellTerm_61 (by unfold ir; omega) ?_
  refine ev_pt dX11_tellTerm_62 fX11_443 hI.o hI.n rfl ?_
  rw [show (st.length : Int) + 1 - 1 = (st.length : Int) by omega]
  obtain ⟨h1, e1⟩ : ∃ h1, h1 = h.put 42 81 (st.length : Int) := ⟨_, rfl⟩
  rw [← e1]
  have k1 : KP h h1 [] [81] := by rw [e1]; exact KP.rf.pf (by decide)
  have I1 : RI h1 := k1.ri hI
  have f81 : h1.vl 42 81 = (st.length : Int) := by rw [e1]; rfl
  have f91 : h1.vl 91 st.length = c := by rw [k1.vl]; exact w2
  refine ev_aload_n dX11_tellTerm_65 rfl ?_
  refine ev_getrv dX11_tellTerm_66 fX11_158 I1.o I1.n rfl I1.v_acts ?_
  refine ev_aload_n dX11_tellTerm_69 rfl ?_
  refine ev_getiv dX11_tellTerm_70 fX11_443 I1.o I1.n rfl f81 ?_
  refine ev_ildv dX11_tellTerm_73 I1.k_acts I1.n_acts rfl (by omega) (by omega) f91 ?_
  refine ev_sipush dX11_tellTerm_74 ?_
  refine ev_icmplt 100 dX11_tellTerm_77 (fun hb2 => ?_) (fun h_no => (by exfalso; omega))
  refine ev_aload_n dX11_tellTerm_100 rfl ?_
  refine ev_aload_n dX11_tellTerm_101 rfl ?_
  refine ev_getrv dX11_tellTerm_102 fX11_158 I1.o I1.n rfl I1.v_acts ?_
  refine ev_aload_n dX11_tellTerm_105 rfl ?_
  refine ev_getiv dX11_tellTerm_106 fX11_443 I1.o I1.n rfl f81 ?_
  refine ev_ildv dX11_tellTerm_109 I1.k_acts I1.n_acts rfl (by omega) (by omega) f91 ?_
  refine ev_cvv dX11_tellTerm_110 lX11_449 (i_writes I1 ⟨⟨f81, by rw [k1.vl]; exact w2'⟩, by rw [k1.fl]; exact w3, by rw [k1.vl]; exact w4⟩ (by omega)) (by decide) I1.o I1.n rfl rfl rfl (Nat.le_of_ble_eq_true rfl) rfl (fun h2 q => ?_)
  obtain ⟨k2, W2⟩ := q
  refine ev_gt 48 dX11_tellTerm_113 ?_
  exact kk h2 ((k1.wk (by decide) (by decide)).tr (k2.wk (by decide) (by decide))) W2
theorem tmO_len (L : List Nd) (e : Nat) : (tmO L e).length ≤ 4 := by
  unfold tmO
  split
  · show 1 ≤ 4; omega
  · rw [List.length_append]
    have a : (if 0 < e then [(40 : Int)] else []).length ≤ 1 := by split <;> decide
    have b : (if TBL L 57 e = 6 then ([] : List Int) else if TBL L 57 e = 4 then [94, TBL L 58 e, 46] else [33, TBL L 58 e, 61]).length ≤ 3 := by
      split
      · decide
      · split <;> (show 3 ≤ 3; omega)
    omega
theorem c41_len (e : Nat) : (if 0 < e then [(41 : Int)] else []).length ≤ 1 := by split <;> decide
theorem tm_len (L : List Nd) : ∀ (T : TE) (f : Nat) (pre D post : List Nd), ht T ≤ f → L = pre ++ (D ++ post) → shT T D → (tmX L f pre.length).length ≤ 6 * D.length
  | T, 0, pre, D, post, hf, _, _ => by cases T <;> exact absurd hf (by simp [ht])
  | .var v, f + 1, pre, D, post, hf, hL, hsh => by
    obtain ⟨x, hD, hx⟩ := hsh
    have k57 : TBL L 57 pre.length = x.1 := by rw [hL]; exact (TBL_nd hD).1
    have hlen : D.length = 1 := by rw [hD]; rfl
    rw [tmX, tmO, if_pos (by omega), if_pos (by omega), hlen]
    show 1 ≤ 6
    omega
  | .op T1 T2, f + 1, pre, D, post, hf, hL, hsh => by
    have ht12 : ht T1 ≤ f ∧ ht T2 ≤ f := by simp only [ht] at hf; omega
    have o1 := tmO_len L pre.length
    have b1 := c41_len pre.length
    rcases hsh with ⟨x, D1, hD, hx, s1⟩ | ⟨x, D1, D2, hD, hx, s1, s2⟩
    · have k57 : TBL L 57 pre.length = 4 := by rw [hL, ← hx]; exact (TBL_nd hD).1
      have k59 : TBL L 59 pre.length = ((pre.length + 1 : Nat) : Int) := by rw [hL]; exact TBL_f hD (sh_ne s1) (by rw [hx]; decide)
      have kf : fstN L pre.length = pre.length + 1 := by rw [fstN, k59]; rfl
      have hL1 : L = (pre ++ [x]) ++ (D1 ++ post) := by rw [hL, hD]; simp
      have el : (pre ++ [x]).length = pre.length + 1 := by simp
      have i1 := tm_len L T1 f (pre ++ [x]) D1 post ht12.1 hL1 s1
      rw [el] at i1
      have hlD : D.length = D1.length + 1 := by rw [hD, List.length_cons]
      rw [tmX, if_neg (by omega), if_neg (by omega), if_pos k57, kf, List.length_append, List.length_append]
      omega
    · have hx2 : arN x.1 = 2 := by rw [arN, if_neg (by omega), if_neg (by omega)]
      have k57 : TBL L 57 pre.length = x.1 := by rw [hL]; exact (TBL_nd hD).1
      have k59 : TBL L 59 pre.length = ((pre.length + 1 : Nat) : Int) := by rw [hL]; exact TBL_f hD (by simp; exact fun z => absurd z (sh_ne s1)) (by omega)
      have k60 : TBL L 60 pre.length = ((pre.length + 1 + D1.length : Nat) : Int) := by rw [hL, hD]; exact TBL_60 hx2 s1 s2
      have kf : fstN L pre.length = pre.length + 1 := by rw [fstN, k59]; rfl
      have ks : sndN L pre.length = pre.length + 1 + D1.length := by rw [sndN, k60]; rfl
      have hL1 : L = (pre ++ [x]) ++ (D1 ++ (D2 ++ post)) := by rw [hL, hD]; simp
      have el : (pre ++ [x]).length = pre.length + 1 := by simp
      have hL2 : L = (pre ++ (x :: D1)) ++ (D2 ++ post) := by rw [hL, hD]; simp
      have el2 : (pre ++ (x :: D1)).length = pre.length + 1 + D1.length := by simp; omega
      have i1 := tm_len L T1 f (pre ++ [x]) D1 (D2 ++ post) ht12.1 hL1 s1
      have i2 := tm_len L T2 f (pre ++ (x :: D1)) D2 post ht12.2 hL2 s2
      rw [el] at i1
      rw [el2] at i2
      have hlD : D.length = D1.length + D2.length + 1 := by rw [hD, List.length_cons, List.length_append]
      rw [tmX, if_neg (by omega), kf, ks, List.length_append, List.length_append]
      by_cases c : TBL L 57 pre.length = 6
      · rw [if_pos c, List.length_append]; omega
      · rw [if_neg c, if_neg (by omega), List.length_append, List.length_cons]; omega
theorem tt_tree {h0 : AH} {L : List Nd} {T0 : TE} {p : Int} {Q : AV → AH → Prop} (hI0 : RI h0) (hT0 : NT h0 L) (hs0 : shT T0 L) :
    ∀ (T : TE) (f : Nat) (pre D post : List Nd) (st out : List Int) (h : AH), ht T ≤ f → L = pre ++ (D ++ post) → shT T D → KP h0 h [90, 91] [80, 81] → WtI h ((200 + (pre.length : Int)) :: st) out → out.length + 6 * D.length ≤ 890 → st.length + 4 * D.length ≤ 880 →
    (∀ h1, KP h0 h1 [90, 91] [80, 81] → WtI h1 st (out ++ tmX L f pre.length) → EV mX11_tellTerm 8 48 [rv 42, iv p] [] h1 Q) → EV mX11_tellTerm 8 48 [rv 42, iv p] [] h Q
  | T, 0, pre, D, post, st, out, h, hf, _, _ => by cases T <;> exact absurd hf (by simp [ht])
  | .var v, f + 1, pre, D, post, st, out, h, hf, hL, hsh => by
    intro hK hW ho hst kk
    obtain ⟨x, hD, hx⟩ := hsh
    have k57 : TBL L 57 pre.length = x.1 := by rw [hL]; exact (TBL_nd hD).1
    have he : pre.length < L.length := by rw [hL, hD]; simp
    have hlen : D.length = 1 := by rw [hD]; rfl
    refine tt_node (hK.ri hI0) (hT0.kp hK) hs0 he hW (by omega) (by omega) fun h1 k1 W1 => kk h1 (hK.tr k1) ?_
    rw [tmA, if_pos (by omega)] at W1
    rw [tmX, if_pos (by omega), List.append_nil]
    exact W1
  | .op T1 T2, f + 1, pre, D, post, st, out, h, hf, hL, hsh => by
    intro hK hW ho hst kk
    have ht12 : ht T1 ≤ f ∧ ht T2 ≤ f := by simp only [ht] at hf; omega
    have hne := List.length_pos_iff.mpr (sh_ne hsh)
    have he : pre.length < L.length := by rw [hL, List.length_append, List.length_append]; omega
    have tl := tm_len L (.op T1 T2) (f + 1) pre D post hf hL hsh
    have o1 := tmO_len L pre.length
    have b1 := c41_len pre.length
    refine tt_node (hK.ri hI0) (hT0.kp hK) hs0 he hW (by omega) (by omega) fun h1 k1 W1 => ?_
    have K1 := hK.tr k1
    -- the end of what is within parentheses
    have fin : ∀ (o2 : List Int) (h2 : AH), KP h0 h2 [90, 91] [80, 81] → WtI h2 ((if 0 < pre.length then [41] else []) ++ st) (out ++ o2) → out.length + o2.length ≤ 890 → o2 ++ (if 0 < pre.length then [41] else []) = tmX L (f + 1) pre.length → EV mX11_tellTerm 8 48 [rv 42, iv p] [] h2 Q := by
      intro o2 h2 K2 W2 ho2 eo
      by_cases c : 0 < pre.length
      · rw [if_pos c] at W2 eo
        refine tt_sign (K2.ri hI0) W2 (by decide) (by show st.length ≤ 880; omega) (by rw [List.length_append]; exact ho2) fun h3 k3 W3 => kk h3 (K2.tr k3) ?_
        rw [← eo, ← List.append_assoc]
        exact W3
      · rw [if_neg c] at W2 eo
        refine kk h2 K2 ?_
        rw [← eo, List.append_nil]
        exact W2
    rcases hsh with ⟨x, D1, hD, hx, s1⟩ | ⟨x, D1, D2, hD, hx, s1, s2⟩
    · have k57 : TBL L 57 pre.length = 4 := by rw [hL, ← hx]; exact (TBL_nd hD).1
      have k59 : TBL L 59 pre.length = ((pre.length + 1 : Nat) : Int) := by rw [hL]; exact TBL_f hD (sh_ne s1) (by rw [hx]; decide)
      have kf : fstN L pre.length = pre.length + 1 := by rw [fstN, k59]; rfl
      have hL1 : L = (pre ++ [x]) ++ (D1 ++ post) := by rw [hL, hD]; simp
      have el : (pre ++ [x]).length = pre.length + 1 := by simp
      have hlD : D.length = D1.length + 1 := by rw [hD, List.length_cons]
      have n4 : ¬ TBL L 57 pre.length < 4 := by omega
      have n6 : ¬ TBL L 57 pre.length = 6 := by omega
      rw [tmX, if_neg n4, if_neg n6, if_pos k57, kf] at tl
      rw [List.length_append, List.length_append] at tl
      rw [tmA, if_neg n4, if_neg n6, if_pos k57, kf, ← el] at W1
      refine tt_tree hI0 hT0 hs0 T1 f (pre ++ [x]) D1 post _ _ h1 ht12.1 hL1 s1 K1 W1 (by rw [List.length_append]; omega) (by show (([] ++ (if 0 < pre.length then [(41 : Int)] else [])) ++ st).length + _ ≤ _; rw [List.nil_append, List.length_append]; omega) fun h2 K2 W2 => ?_
      rw [el, List.append_assoc] at W2
      refine fin _ h2 K2 W2 (by rw [List.length_append]; omega) ?_
      rw [tmX, if_neg n4, if_neg n6, if_pos k57, kf, List.append_assoc]
    · have hx2 : arN x.1 = 2 := by rw [arN, if_neg (by omega), if_neg (by omega)]
      have k57 : TBL L 57 pre.length = x.1 := by rw [hL]; exact (TBL_nd hD).1
      have k59 : TBL L 59 pre.length = ((pre.length + 1 : Nat) : Int) := by rw [hL]; exact TBL_f hD (by simp; exact fun z => absurd z (sh_ne s1)) (by omega)
      have k60 : TBL L 60 pre.length = ((pre.length + 1 + D1.length : Nat) : Int) := by rw [hL, hD]; exact TBL_60 hx2 s1 s2
      have kf : fstN L pre.length = pre.length + 1 := by rw [fstN, k59]; rfl
      have ks : sndN L pre.length = pre.length + 1 + D1.length := by rw [sndN, k60]; rfl
      have hL1 : L = (pre ++ [x]) ++ (D1 ++ (D2 ++ post)) := by rw [hL, hD]; simp
      have el : (pre ++ [x]).length = pre.length + 1 := by simp
      have hL2 : L = (pre ++ (x :: D1)) ++ (D2 ++ post) := by rw [hL, hD]; simp
      have el2 : (pre ++ (x :: D1)).length = pre.length + 1 + D1.length := by simp; omega
      have hlD : D.length = D1.length + D2.length + 1 := by rw [hD, List.length_cons, List.length_append]
      have t1 := tm_len L T1 f (pre ++ [x]) D1 (D2 ++ post) ht12.1 hL1 s1
      have t2 := tm_len L T2 f (pre ++ (x :: D1)) D2 post ht12.2 hL2 s2
      rw [el] at t1
      rw [el2] at t2
      have n4 : ¬ TBL L 57 pre.length < 4 := by omega
      by_cases c6 : TBL L 57 pre.length = 6
      · rw [tmA, if_neg n4, if_pos c6, kf, ks, ← el] at W1
        refine tt_tree hI0 hT0 hs0 T1 f (pre ++ [x]) D1 (D2 ++ post) _ _ h1 ht12.1 hL1 s1 K1 W1 (by rw [List.length_append]; omega) (by show (([] ++ (if 0 < pre.length then [(41 : Int)] else [])) ++ st).length + 1 + _ ≤ _; rw [List.nil_append, List.length_append]; omega) fun h2 K2 W2 => ?_
        rw [el, ← el2] at W2
        refine tt_tree hI0 hT0 hs0 T2 f (pre ++ (x :: D1)) D2 post _ _ h2 ht12.2 hL2 s2 K2 W2 (by rw [List.length_append, List.length_append]; omega) (by show (([] ++ (if 0 < pre.length then [(41 : Int)] else [])) ++ st).length + _ ≤ _; rw [List.nil_append, List.length_append]; omega) fun h3 K3 W3 => ?_
        rw [el2, List.append_assoc, List.append_assoc] at W3
        refine fin _ h3 K3 W3 (by rw [List.length_append, List.length_append]; omega) ?_
        rw [tmX, if_neg n4, if_pos c6, kf, ks, List.append_assoc]
      · have n5 : ¬ TBL L 57 pre.length = 4 := by omega
        rw [tmA, if_neg n4, if_neg c6, if_neg n5, kf, ks, ← el] at W1
        refine tt_tree hI0 hT0 hs0 T1 f (pre ++ [x]) D1 (D2 ++ post) _ _ h1 ht12.1 hL1 s1 K1 W1 (by rw [List.length_append]; omega) (by show (([] ++ (if 0 < pre.length then [(41 : Int)] else [])) ++ st).length + 1 + 1 + _ ≤ _; rw [List.nil_append, List.length_append]; omega) fun h2 K2 W2 => ?_
        rw [el] at W2
        refine tt_sign (K2.ri hI0) W2 (by decide) (by show (([] ++ (if 0 < pre.length then [(41 : Int)] else [])) ++ st).length + 1 ≤ _; rw [List.nil_append, List.length_append]; omega) (by rw [List.length_append, List.length_append]; omega) fun h3 k3 W3 => ?_
        have K3 := K2.tr k3
        rw [← el2] at W3
        refine tt_tree hI0 hT0 hs0 T2 f (pre ++ (x :: D1)) D2 post _ _ h3 ht12.2 hL2 s2 K3 W3 (by rw [List.length_append, List.length_append, List.length_append]; show _ + _ + _ + 1 + _ ≤ _; omega) (by show (([] ++ (if 0 < pre.length then [(41 : Int)] else [])) ++ st).length + _ ≤ _; rw [List.nil_append, List.length_append]; omega) fun h4 K4 W4 => ?_
        rw [el2, List.append_assoc, List.append_assoc, List.append_assoc] at W4
        refine fin _ h4 K4 W4 (by rw [List.length_append, List.length_append, List.length_append]; show _ + (_ + (_ + (1 + _))) ≤ _; omega) ?_
        rw [tmX, if_neg n4, if_neg c6, if_neg n5, kf, ks]
        simp only [List.append_assoc, List.cons_append, List.nil_append]
set_option maxRecDepth 100000 in
theorem r_tellTerm {p : Int} {N : Nat} {LL : Nat → List Nd} {h : AH} (hI : RI h) (hN : NV h N LL) :
    CV mX11_tellTerm 8 [rv 42, iv p] h (oi fun x h1 => (¬ (0 ≤ p ∧ p < (N : Int)) ∧ KP h h1 [] [0] ∧ h1.vl 42 0 = 1) ∨ ((0 ≤ p ∧ p < (N : Int)) ∧ KP h h1 (90 :: 91 :: ANn) (80 :: 81 :: FNn) ∧ h1.vl 42 0 = 0 ∧ x = ((tmX (LL p.toNat) 130 0).length : Int) ∧ TxQ h1 (tmX (LL p.toNat) 130 0))) := by
  refine cv_of cdX11_tellTerm ?_
  show EV _ _ 0 [rv 42, iv p] [] h _
  refine ev_aload_n dX11_tellTerm_0 rfl ?_
  refine ev_aload_n dX11_tellTerm_1 rfl ?_
  refine ev_iload_n dX11_tellTerm_2 rfl ?_
  by_cases hp : 0 ≤ p ∧ p < (N : Int)
  · skip
    have n6 := hN.2.1
    obtain ⟨l, hl⟩ : ∃ l : Nat, p = (l : Int) := ⟨p.toNat, by omega⟩
    have hl2 : l < N := by omega
    refine ev_cvi dX11_tellTerm_3 lX11_361 (i_les1 hI hN hp) (by decide) hI.o hI.n rfl rfl rfl (Nat.le_of_ble_eq_true rfl) rfl (fun r z1 q => ?_)
    obtain ⟨rfl, e⟩ := q
    rw [e]
    refine ev_ifeq 13 dX11_tellTerm_6 (fun h_no => (by exfalso; omega)) (fun hbr => ?_)
    refine ev_iconst dX11_tellTerm_9 ?_
    refine ev_gt 14 dX11_tellTerm_10 ?_
    refine ev_pt dX11_tellTerm_14 fX11_161 hI.o hI.n rfl ?_
    obtain ⟨h1, e1⟩ : ∃ h1, h1 = h.put 42 0 0 := ⟨_, rfl⟩
    rw [← e1]
    have k1 : KP h h1 [] [0] := by rw [e1]; exact KP.rf.pf (by decide)
    have I1 : RI h1 := k1.ri hI
    have t1 : h1.vl 42 0 = 0 := by rw [e1]; rfl
    have N1 : NV h1 N LL := hN.kp k1
    obtain ⟨T0, hs0⟩ := hN.sh hl2
    obtain ⟨T, hs, hT9⟩ := sh_ht hs0
    rw [hl, show ((l : Nat) : Int).toNat = l from rfl]
    refine ev_aload_n dX11_tellTerm_17 rfl ?_
    refine ev_getiv dX11_tellTerm_18 fX11_161 I1.o I1.n rfl t1 ?_
    refine ev_ifeq 26 dX11_tellTerm_21 (fun hb => ?_) (fun h_no => (by exfalso; omega))
    refine ev_aload_n dX11_tellTerm_26 rfl ?_
    refine ev_iload_n dX11_tellTerm_27 rfl ?_
    refine ev_cvv dX11_tellTerm_28 lX11_315 (s_nodesOf I1 (by omega) (N1.2.2 l hl2)) (by decide) I1.o I1.n rfl rfl rfl (Nat.le_of_ble_eq_true rfl) rfl (fun h2 q => ?_)
    obtain ⟨k2, T2⟩ := q
    have I2 : RI h2 := k2.ri I1
    have len := T2.2.2.2
    refine ev_aload_n dX11_tellTerm_31 rfl ?_
    refine ev_iconst dX11_tellTerm_32 ?_
    refine ev_pt dX11_tellTerm_33 fX11_440 I2.o I2.n rfl ?_
    refine ev_aload_n dX11_tellTerm_36 rfl ?_
    refine ev_iconst dX11_tellTerm_37 ?_
    refine ev_pt dX11_tellTerm_38 fX11_443 I2.o I2.n rfl ?_
    obtain ⟨h3, e3⟩ : ∃ h3, h3 = (h2.put 42 80 0).put 42 81 0 := ⟨_, rfl⟩
    rw [← e3]
    have k3 : KP h2 h3 [] [80, 81] := by rw [e3]; exact (KP.rf.pf (by decide)).pf (by decide)
    have I3 : RI h3 := k3.ri I2
    have W3 : WtI h3 [] [] := by rw [e3]; exact ⟨⟨rfl, trivial⟩, rfl, fun i hi => absurd hi (Nat.not_lt_zero _)⟩
    refine ev_aload_n dX11_tellTerm_41 rfl ?_
    refine ev_sipush dX11_tellTerm_42 ?_
    refine ev_cvv dX11_tellTerm_45 lX11_446 (i_later I3 W3 (by decide)) (by decide) I3.o I3.n rfl rfl rfl (Nat.le_of_ble_eq_true rfl) rfl (fun h4 q => ?_)
    obtain ⟨k4, W4⟩ := q
    have K4 : KP h h4 (90 :: 91 :: ANn) (80 :: 81 :: FNn) := ((k1.wk (by decide) (by decide)).tr (k2.wk (by decide) (by decide))).tr ((k3.wk (by decide) (by decide)).tr (k4.wk (by decide) (by decide)))
    have I4 : RI h4 := k4.ri I3
    refine tt_tree I4 ((T2.kp k3).kp k4) hs T 130 [] (LL l) [] [] [] h4 (by omega) (by simp) hs KP.rf W4 (by rw [List.length_nil]; omega) (by rw [List.length_nil]; omega) fun h5 K5 W5 => ?_
    obtain ⟨⟨w1, -⟩, w3, w4⟩ := W5
    have w1 : h5.vl 42 81 = 0 := w1
    rw [List.nil_append] at w3 w4
    have t5 : h5.vl 42 0 = 0 := by rw [K5.fl, k4.fl, k3.fl]; exact (k2.fl).trans t1
    refine ev_aload_n dX11_tellTerm_48 rfl ?_
    refine ev_getiv dX11_tellTerm_49 fX11_443 (K5.ri I4).o (K5.ri I4).n rfl w1 ?_
    refine ev_ifle 116 dX11_tellTerm_52 (fun hb2 => ?_) (fun h_no => (by exfalso; omega))
    refine ev_aload_n dX11_tellTerm_116 rfl ?_
    refine ev_getiv dX11_tellTerm_117 fX11_440 (K5.ri I4).o (K5.ri I4).n rfl w3 ?_
    exact ev_iret dX11_tellTerm_120 (⟨_, rfl, Or.inr ⟨by omega, K4.tr (K5.wk (by decide) (by decide)), t5, rfl, w3, w4⟩⟩)
  refine ev_cvi dX11_tellTerm_3 lX11_361 (i_les0 hI hN hp) (by decide) hI.o hI.n rfl rfl rfl (Nat.le_of_ble_eq_true rfl) rfl (fun r z1 q => ?_)
  obtain ⟨rfl, e⟩ := q
  rw [e]
  refine ev_ifeq 13 dX11_tellTerm_6 (fun hbr => ?_) (fun h_no => (by exfalso; omega))
  refine ev_iconst dX11_tellTerm_13 ?_
  refine ev_pt dX11_tellTerm_14 fX11_161 hI.o hI.n rfl ?_
  obtain ⟨h1, e1⟩ : ∃ h1, h1 = h.put 42 0 1 := ⟨_, rfl⟩
  rw [← e1]
  have k1 : KP h h1 [] [0] := by rw [e1]; exact KP.rf.pf (by decide)
  have I1 : RI h1 := k1.ri hI
  have t1 : h1.vl 42 0 = 1 := by rw [e1]; rfl
  refine ev_aload_n dX11_tellTerm_17 rfl ?_
  refine ev_getiv dX11_tellTerm_18 fX11_161 I1.o I1.n rfl t1 ?_
  refine ev_ifeq 26 dX11_tellTerm_21 (fun h_no => (by exfalso; omega)) (fun hb => ?_)
  refine ev_iconst dX11_tellTerm_24 ?_
  exact ev_iret dX11_tellTerm_25 (⟨_, rfl, Or.inl ⟨hp, k1, t1⟩⟩)
