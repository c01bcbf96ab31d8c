/-! a type as text: the reference -/
def rwE (x : Nat) : Int := if x < 2 then (x : Int) else (x : Int) + 1
def lfX (e : Int) : List Int := (if e = 0 then 78 else if e = 1 then 66 else 97 + (e - 3) % 26) :: (if e < 29 then [] else [48 + (e - 3) / 26])
/-- the text of a tree; -2: within parentheses if it is an arrow -/
def txR : TE → Int → List Int
  | .var x, _ => lfX (rwE x)
  | .op a b, as => (if as = -2 then [40] else []) ++ (txR a (-2) ++ (62 :: (txR b (-1) ++ (if as = -2 then [41] else []))))
theorem tx_len : ∀ (R : TE) (as : Int), (txR R as).length ≤ 3 * sz R
  | .var x, as => by
    rw [txR, lfX, List.length_cons]
    simp only [sz]
    split
    · show 0 + 1 ≤ 3; omega
    · show 1 + 1 ≤ 3; omega
  | .op a b, as => by
    have h1 := tx_len a (-2)
    have h2 := tx_len b (-1)
    rw [txR, List.length_append, List.length_append, List.length_cons, List.length_append]
    simp only [sz]
    split
    · show 1 + (_ + (_ + 1 + 1)) ≤ _; omega
    · show 0 + (_ + (_ + 0 + 1)) ≤ _; omega
def SkI (v : Nat → Int) : List Int → Prop
  | [] => True
  | a :: st => v st.length = a ∧ SkI v st
theorem SkI.lo {v v1 : Nat → Int} : ∀ {st : List Int}, (∀ i, i < st.length → v1 i = v i) → SkI v st → SkI v1 st
  | [], _, _ => trivial
  | a :: st, h, g => ⟨(h _ (by rw [List.length_cons]; omega)).trans g.1, SkI.lo (fun i hi => h i (by rw [List.length_cons]; omega)) g.2⟩
/-- a text on its way: what is still to do, what stands there -/
def WtI (h : AH) (st out : List Int) : Prop := (h.vl 42 81 = (st.length : Int) ∧ SkI (h.vl 91) st) ∧ h.vl 42 80 = (out.length : Int) ∧ ∀ i (hi : i < out.length), h.vl 90 i = out[i]
theorem i_writes {h : AH} {st out : List Int} {c : Int} (hI : RI h) (hW : WtI h st out) (hl : out.length < 900) : CV mX11_writes 1 [rv 42, iv c] h (on fun h1 => KP h h1 [90] [80] ∧ WtI h1 st (out ++ [c])) := by
  obtain ⟨⟨w1, w2⟩, w3, w4⟩ := hW
  refine cv_mono (s_writes hI (by omega) (by omega)) fun o h1 q => ?_
  obtain ⟨rfl, q⟩ := q
  rw [w3, show ((out.length : Nat) : Int).toNat = out.length from rfl] at q
  have k : KP h h1 [90] [80] := by rw [q]; exact (KP.rf.pr (by decide) (by decide)).pf (by decide)
  refine ⟨rfl, k, ⟨by rw [k.fl]; exact w1, by rw [k.vl]; exact w2⟩, by rw [q, List.length_append]; rfl, fun i hi => ?_⟩
  rw [List.length_append] at hi
  have hi : i < out.length + 1 := hi
  rw [q, AH.put_vl, if_neg (by omega), AH.put_vl]
  by_cases z : i = out.length
  · subst z
    rw [if_pos ⟨rfl, rfl⟩, List.getElem_append_right (Nat.le_refl _)]
    simp
  · rw [if_neg (fun w => z w.2), List.getElem_append_left (by omega)]
    exact w4 i (by omega)
theorem i_later {h : AH} {st out : List Int} {c : Int} (hI : RI h) (hW : WtI h st out) (hl : st.length < 900) : CV mX11_later 1 [rv 42, iv c] h (on fun h1 => KP h h1 [91] [81] ∧ WtI h1 (c :: st) out) := by
  obtain ⟨⟨w1, w2⟩, w3, w4⟩ := hW
  refine cv_mono (s_later hI (by omega) (by omega)) fun o h1 q => ?_
  obtain ⟨rfl, q⟩ := q
  rw [w1, show ((st.length : Nat) : Int).toNat = st.length from rfl] at q
  have k : KP h h1 [91] [81] := by rw [q]; exact (KP.rf.pr (by decide) (by decide)).pf (by decide)
  refine ⟨rfl, k, ⟨by rw [q]; rfl, ?_, w2.lo fun i hi => ?_⟩, by rw [k.fl]; exact w3, by rw [k.vl]; exact w4⟩
  · rw [q, AH.put_vl, if_neg (by omega), AH.put_vl, if_pos ⟨rfl, rfl⟩]
  · rw [q, AH.put_vl, if_neg (by omega), AH.put_vl, if_neg (by omega)]
set_option maxRecDepth 100000 in
theorem wt_pop {h : AH} {st out : List Int} {c : Int} {k : Nat} {v2 v3 : AV} {Q : AV → AH → Prop} (hI : RI h) (hW : WtI h (c :: st) out) (hl : st.length ≤ 890) (kk : ∀ h1, KP h h1 [] [81] → WtI h1 st out → EV mX11_writesType 3 44 [rv 42, iv (k : Int), iv c, v3] [] h1 Q) : EV mX11_writesType 3 17 [rv 42, iv (k : Int), v2, v3] [] h Q := by
  obtain ⟨⟨w1, w2, w2'⟩, w3, w4⟩ := hW
  have w1 : h.vl 42 81 = (st.length : Int) + 1 := w1
  refine ev_aload_n dX11_writesType_17 rfl ?_
  refine ev_getiv dX11_writesType_18 fX11_443 hI.o hI.n rfl w1 ?_
  refine ev_ifle 163 dX11_writesType_21 (fun h_no => (by exfalso; omega)) (fun hb => ?_)
  refine ev_aload_n dX11_writesType_24 rfl ?_
  refine ev_dup dX11_writesType_25 ?_
  refine ev_getiv dX11_writesType_26 fX11_443 hI.o hI.n rfl w1 ?_
  refine ev_iconst dX11_writesType_29 ?_
  refine ev_isub dX11_writesType_30 (by unfold ir; omega) ?_
  refine ev_pt dX11_writesType_31 fX11_443 hI.o hI.n rfl ?_
  rw [show (st.length : Int) + 1 - 1 = (st.length : Int) by omega]
  obtain ⟨h1, e1⟩ : ∃ h1, h1 = h.put 42 81 (st.length : Int) := ⟨_, rfl⟩
  rw [← e1]
  have k1 : KP h h1 [] [81] := by rw [e1]; exact KP.rf.pf (by decide)
  have I1 : RI h1 := k1.ri hI
  have f81 : h1.vl 42 81 = (st.length : Int) := by rw [e1]; rfl
  have f91 : h1.vl 91 st.length = c := by rw [k1.vl]; exact w2
  refine ev_aload_n dX11_writesType_34 rfl ?_
  refine ev_getrv dX11_writesType_35 fX11_158 I1.o I1.n rfl I1.v_acts ?_
  refine ev_aload_n dX11_writesType_38 rfl ?_
  refine ev_getiv dX11_writesType_39 fX11_443 I1.o I1.n rfl f81 ?_
  refine ev_ildv dX11_writesType_42 I1.k_acts I1.n_acts rfl (by omega) (by omega) f91 ?_
  refine ev_ist2 dX11_writesType_43 ?_
  exact kk h1 k1 ⟨⟨f81, by rw [k1.vl]; exact w2'⟩, by rw [k1.fl]; exact w3, by rw [k1.vl]; exact w4⟩
set_option maxRecDepth 100000 in
theorem wt_sign {h : AH} {st out : List Int} {c : Int} {k : Nat} {v2 v3 : AV} {Q : AV → AH → Prop} (hI : RI h) (hW : WtI h (c :: st) out) (hl : st.length ≤ 890) (ho : out.length < 900) (hc : 0 < c) (kk : ∀ h1, KP h h1 [90, 91] [80, 81] → WtI h1 st (out ++ [c]) → EV mX11_writesType 3 17 [rv 42, iv (k : Int), iv c, v3] [] h1 Q) : EV mX11_writesType 3 17 [rv 42, iv (k : Int), v2, v3] [] h Q := by
  refine wt_pop hI hW hl fun h1 k1 W1 => ?_
  have I1 : RI h1 := k1.ri hI
  refine ev_iload_n dX11_writesType_44 rfl ?_
  refine ev_ifle 56 dX11_writesType_45 (fun h_no => (by exfalso; omega)) (fun hb => ?_)
  refine ev_aload_n dX11_writesType_48 rfl ?_
  refine ev_iload_n dX11_writesType_49 rfl ?_
  refine ev_cvv dX11_writesType_50 lX11_449 (i_writes I1 W1 ho) (by decide) I1.o I1.n rfl rfl rfl (Nat.le_of_ble_eq_true rfl) rfl (fun h2 q => ?_)
  obtain ⟨k2, W2⟩ := q
  refine ev_gt 17 dX11_writesType_53 ?_
  exact kk h2 ((k1.wk (by decide) (by decide)).tr (k2.wk (by decide) (by decide))) W2
set_option maxRecDepth 100000 in
theorem wt_leaf {h : AH} {st out : List Int} {as e : Int} {k : Nat} {v3 : AV} {Q : AV → AH → Prop} (hI : RI h) (hW : WtI h st out) (ho : out.length + 2 ≤ 900) (hk : k < 210) (has : as < 0) (he : h.vl 78 k = e) (he2 : e ≠ 2) (he9 : 0 ≤ e ∧ e < 1100) (kk : ∀ h1 v3, KP h h1 [90, 91] [80, 81] → WtI h1 st (out ++ lfX e) → EV mX11_writesType 3 17 [rv 42, iv ((k + 1 : Nat) : Int), iv as, v3] [] h1 Q) : EV mX11_writesType 3 44 [rv 42, iv (k : Int), iv as, v3] [] h Q := by
  have p138 : ∀ c, c = (if e = 0 then 78 else if e = 1 then 66 else 97 + (e - 3) % 26) → EV mX11_writesType 3 138 [rv 42, iv ((k : Int) + 1), iv as, iv e] [iv c, rv 42] h Q := by
    intro c hc
    have lf : lfX e = c :: (if e < 29 then [] else [48 + (e - 3) / 26]) := by rw [hc]; rfl
    refine ev_cvv dX11_writesType_138 lX11_449 (i_writes hI hW (by omega)) (by decide) hI.o hI.n rfl rfl rfl (Nat.le_of_ble_eq_true rfl) rfl (fun h1 q => ?_)
    obtain ⟨k1, W1⟩ := q
    have I1 : RI h1 := k1.ri hI
    refine ev_iload_n dX11_writesType_141 rfl ?_
    refine ev_bipush dX11_writesType_142 ?_
    by_cases c9 : e < 29
    · skip
      refine ev_icmplt 160 dX11_writesType_144 (fun hb => ?_) (fun h_no => (by exfalso; omega))
      refine ev_gt 17 dX11_writesType_160 ?_
      refine kk h1 _ (k1.wk (by decide) (by decide)) ?_
      rw [lf, if_pos c9]
      exact W1
    refine ev_icmplt 160 dX11_writesType_144 (fun h_no => (by exfalso; omega)) (fun hb => ?_)
    refine ev_aload_n dX11_writesType_147 rfl ?_
    refine ev_bipush dX11_writesType_148 ?_
    refine ev_iload_n dX11_writesType_150 rfl ?_
    refine ev_iconst dX11_writesType_151 ?_
    refine ev_isub dX11_writesType_152 (by unfold ir; omega) ?_
    refine ev_bipush dX11_writesType_153 ?_
    refine ev_idiv dX11_writesType_155 (by omega) (by omega) ?_
    refine ev_iadd dX11_writesType_156 (by unfold ir; omega) ?_
    refine ev_cvv dX11_writesType_157 lX11_449 (i_writes I1 W1 (by rw [List.length_append]; show out.length + 1 < 900; omega)) (by decide) I1.o I1.n rfl rfl rfl (Nat.le_of_ble_eq_true rfl) rfl (fun h2 q => ?_)
    obtain ⟨k2, W2⟩ := q
    refine ev_gt 17 dX11_writesType_160 ?_
    refine kk h2 _ ((k1.wk (by decide) (by decide)).tr (k2.wk (by decide) (by decide))) ?_
    rw [lf, if_neg c9, show out ++ [c, 48 + (e - 3) / 26] = out ++ [c] ++ [48 + (e - 3) / 26] by simp]
    exact W2
  refine ev_iload_n dX11_writesType_44 rfl ?_
  refine ev_ifle 56 dX11_writesType_45 (fun hb => ?_) (fun h_no => (by exfalso; omega))
  refine ev_aload_n dX11_writesType_56 rfl ?_
  refine ev_getrv dX11_writesType_57 fX11_119 hI.o hI.n rfl hI.v_rowOfType ?_
  refine ev_iload_n dX11_writesType_60 rfl ?_
  refine ev_ildv dX11_writesType_61 hI.k_rowOfType hI.n_rowOfType rfl (by omega) (by omega) he ?_
  refine ev_ist3 dX11_writesType_62 ?_
  refine ev_iin1 dX11_writesType_63 (by unfold ir; omega) ?_
  refine ev_iload_n dX11_writesType_66 rfl ?_
  refine ev_iconst dX11_writesType_67 ?_
  refine ev_icmpne 109 dX11_writesType_68 (fun hb2 => ?_) (fun h_no => (by exfalso; omega))
  refine ev_aload_n dX11_writesType_109 rfl ?_
  refine ev_iload_n dX11_writesType_110 rfl ?_
  by_cases c0 : e = 0
  · skip
    refine ev_ifne 119 dX11_writesType_111 (fun h_no => (by exfalso; omega)) (fun hb3 => ?_)
    refine ev_bipush dX11_writesType_114 ?_
    refine ev_gt 138 dX11_writesType_116 ?_
    exact p138 _ (by rw [if_pos c0])
  refine ev_ifne 119 dX11_writesType_111 (fun hb3 => ?_) (fun h_no => (by exfalso; omega))
  refine ev_iload_n dX11_writesType_119 rfl ?_
  refine ev_iconst dX11_writesType_120 ?_
  by_cases c1 : e = 1
  · skip
    refine ev_icmpne 129 dX11_writesType_121 (fun h_no => (by exfalso; omega)) (fun hb4 => ?_)
    refine ev_bipush dX11_writesType_124 ?_
    refine ev_gt 138 dX11_writesType_126 ?_
    exact p138 _ (by rw [if_neg c0, if_pos c1])
  refine ev_icmpne 129 dX11_writesType_121 (fun hb4 => ?_) (fun h_no => (by exfalso; omega))
  refine ev_bipush dX11_writesType_129 ?_
  refine ev_iload_n dX11_writesType_131 rfl ?_
  refine ev_iconst dX11_writesType_132 ?_
  refine ev_isub dX11_writesType_133 (by unfold ir; omega) ?_
  refine ev_bipush dX11_writesType_134 ?_
  refine ev_irem dX11_writesType_136 (by omega) (by omega) ?_
  refine ev_iadd dX11_writesType_137 (by unfold ir; omega) ?_
  exact p138 _ (by rw [if_neg c0, if_neg c1])
set_option maxRecDepth 100000 in
theorem wt_tree {h0 : AH} {Q : AV → AH → Prop} (hI0 : RI h0) :
    ∀ (R : TE) (as : Int) (st out : List Int) (k : Nat) (h : AH) (v2 v3 : AV), (as = -1 ∨ as = -2) → RwA (h0.vl 78) k (rowT R) → vsT (fun x => x < 1000) R → KP h0 h [90, 91] [80, 81] → WtI h (as :: st) out → k + sz R ≤ 209 → out.length + 3 * sz R ≤ 890 → st.length + 4 * sz R ≤ 880 →
    (∀ (h1 : AH) (v2 v3 : AV), KP h0 h1 [90, 91] [80, 81] → WtI h1 st (out ++ txR R as) → EV mX11_writesType 3 17 [rv 42, iv ((k + sz R : Nat) : Int), v2, v3] [] h1 Q) →
    EV mX11_writesType 3 17 [rv 42, iv (k : Int), v2, v3] [] h Q := by
  intro R
  induction R with
  | var x =>
    intro as st out k h v2 v3 has hr hv hK hW hk ho hs kk
    simp only [sz] at hk ho hs
    have hr0 : h0.vl 78 k = rwE x := hr.tl.1
    have hx : x < 1000 := by
      by_cases z : x < 2
      · omega
      · exact hv x (by omega) (by simp [oc])
    have hre : rwE x ≠ 2 ∧ 0 ≤ rwE x ∧ rwE x < 1100 := by
      unfold rwE
      split <;> omega
    refine wt_pop (hK.ri hI0) hW (by omega) fun h1 k1 W1 => ?_
    have K1 : KP h0 h1 [90, 91] [80, 81] := hK.tr (k1.wk (by decide) (by decide))
    exact wt_leaf (K1.ri hI0) W1 (by omega) (by omega) (by omega) (by rw [K1.vl]; exact hr0) hre.1 hre.2 fun h2 v3' k2 W2 => kk h2 _ _ (K1.tr (k2.wk (by decide) (by decide))) W2
  | op a b iha ihb =>
    intro as st out k h v2 v3 has hr hv hK hW hk ho hs kk
    obtain ⟨hr0, hr1⟩ := hr.tl
    obtain ⟨ra, rb⟩ := hr1.app
    rw [row_len] at rb
    obtain ⟨va, vb⟩ := vsT_op.mp hv
    simp only [sz] at hk ho hs kk
    have sa := sz_pos a
    have sb' := sz_pos b
    have ta := tx_len a (-2)
    have tb := tx_len b (-1)
    have p89 : ∀ (h2 : AH) (st2 out2 : List Int), KP h0 h2 [90, 91] [80, 81] → WtI h2 st2 out2 → st2.length ≤ st.length + 1 → out2.length ≤ out.length + 1 → (∀ h3 v2 v3, KP h0 h3 [90, 91] [80, 81] → WtI h3 st2 (out2 ++ (txR a (-2) ++ (62 :: txR b (-1)))) → EV mX11_writesType 3 17 [rv 42, iv ((k + (1 + sz a + sz b) : Nat) : Int), v2, v3] [] h3 Q) → EV mX11_writesType 3 89 [rv 42, iv ((k : Int) + 1), iv as, iv 2] [] h2 Q := by
      intro h2 st2 out2 K2 W2 hs2 ho2 kk2
      have I2 : RI h2 := K2.ri hI0
      refine ev_aload_n dX11_writesType_89 rfl ?_
      refine ev_iconst dX11_writesType_90 ?_
      refine ev_cvv dX11_writesType_91 lX11_446 (i_later I2 W2 (by omega)) (by decide) I2.o I2.n rfl rfl rfl (Nat.le_of_ble_eq_true rfl) rfl (fun h3 q => ?_)
      obtain ⟨k3, W3⟩ := q
      have I3 : RI h3 := k3.ri I2
      refine ev_aload_n dX11_writesType_94 rfl ?_
      refine ev_bipush dX11_writesType_95 ?_
      refine ev_cvv dX11_writesType_97 lX11_446 (i_later I3 W3 (by rw [List.length_cons]; omega)) (by decide) I3.o I3.n rfl rfl rfl (Nat.le_of_ble_eq_true rfl) rfl (fun h4 q => ?_)
      obtain ⟨k4, W4⟩ := q
      have I4 : RI h4 := k4.ri I3
      refine ev_aload_n dX11_writesType_100 rfl ?_
      refine ev_bipush dX11_writesType_101 ?_
      refine ev_cvv dX11_writesType_103 lX11_446 (i_later I4 W4 (by rw [List.length_cons, List.length_cons]; omega)) (by decide) I4.o I4.n rfl rfl rfl (Nat.le_of_ble_eq_true rfl) rfl (fun h5 q => ?_)
      obtain ⟨k5, W5⟩ := q
      have K5 : KP h0 h5 [90, 91] [80, 81] := ((K2.tr (k3.wk (by decide) (by decide))).tr (k4.wk (by decide) (by decide))).tr (k5.wk (by decide) (by decide))
      refine ev_gt 17 dX11_writesType_106 ?_
      refine iha (-2) _ out2 (k + 1) h5 _ _ (Or.inr rfl) ra va K5 W5 (by omega) (by omega) (by rw [List.length_cons, List.length_cons]; omega) fun h6 v2 v3 K6 W6 => ?_
      refine wt_sign (K6.ri hI0) W6 (by rw [List.length_cons]; omega) (by rw [List.length_append]; omega) (by decide) fun h7 k7 W7 => ?_
      refine ihb (-1) _ _ (k + 1 + sz a) h7 _ _ (Or.inl rfl) rb vb (K6.tr (k7.wk (by decide) (by decide))) W7 (by omega) (by rw [List.length_append, List.length_append]; show _ + _ + 1 + _ ≤ _; omega) (by omega) fun h8 v2 v3 K8 W8 => ?_
      rw [show k + 1 + sz a + sz b = k + (1 + sz a + sz b) by omega]
      refine kk2 h8 _ _ K8 ?_
      rw [show out2 ++ (txR a (-2) ++ (62 :: txR b (-1))) = out2 ++ txR a (-2) ++ [62] ++ txR b (-1) by simp]
      exact W8
    refine wt_pop (hK.ri hI0) hW (by omega) fun h1 k1 W1 => ?_
    have K1 : KP h0 h1 [90, 91] [80, 81] := hK.tr (k1.wk (by decide) (by decide))
    have I1 : RI h1 := K1.ri hI0
    have e78 : h1.vl 78 k = 2 := by rw [K1.vl]; exact hr0
    refine ev_iload_n dX11_writesType_44 rfl ?_
    refine ev_ifle 56 dX11_writesType_45 (fun hb => ?_) (fun h_no => (by exfalso; omega))
    refine ev_aload_n dX11_writesType_56 rfl ?_
    refine ev_getrv dX11_writesType_57 fX11_119 I1.o I1.n rfl I1.v_rowOfType ?_
    refine ev_iload_n dX11_writesType_60 rfl ?_
    refine ev_ildv dX11_writesType_61 I1.k_rowOfType I1.n_rowOfType rfl (by omega) (by omega) e78 ?_
    refine ev_ist3 dX11_writesType_62 ?_
    refine ev_iin1 dX11_writesType_63 (by unfold ir; omega) ?_
    refine ev_iload_n dX11_writesType_66 rfl ?_
    refine ev_iconst dX11_writesType_67 ?_
    refine ev_icmpne 109 dX11_writesType_68 (fun h_no => (by exfalso; omega)) (fun hb2 => ?_)
    refine ev_iload_n dX11_writesType_71 rfl ?_
    refine ev_bipush dX11_writesType_72 ?_
    by_cases c : as = -2
    · skip
      refine ev_icmpne 89 dX11_writesType_74 (fun h_no => (by exfalso; omega)) (fun hb3 => ?_)
      refine ev_aload_n dX11_writesType_77 rfl ?_
      refine ev_bipush dX11_writesType_78 ?_
      refine ev_cvv dX11_writesType_80 lX11_449 (i_writes I1 W1 (by omega)) (by decide) I1.o I1.n rfl rfl rfl (Nat.le_of_ble_eq_true rfl) rfl (fun h2 q => ?_)
      obtain ⟨k2, W2⟩ := q
      have I2 : RI h2 := k2.ri I1
      refine ev_aload_n dX11_writesType_83 rfl ?_
      refine ev_bipush dX11_writesType_84 ?_
      refine ev_cvv dX11_writesType_86 lX11_446 (i_later I2 W2 (by omega)) (by decide) I2.o I2.n rfl rfl rfl (Nat.le_of_ble_eq_true rfl) rfl (fun h3 q => ?_)
      obtain ⟨k3, W3⟩ := q
      have K3 : KP h0 h3 [90, 91] [80, 81] := (K1.tr (k2.wk (by decide) (by decide))).tr (k3.wk (by decide) (by decide))
      refine p89 h3 _ _ K3 W3 (by rw [List.length_cons]; omega) (by rw [List.length_append]; exact Nat.le_refl _) fun h4 v2 v3 K4 W4 => ?_
      refine wt_sign (K4.ri hI0) W4 (by omega) (by simp only [List.length_append, List.length_cons, List.length_nil]; omega) (by decide) fun h5 k5 W5 => ?_
      refine kk h5 _ _ (K4.tr (k5.wk (by decide) (by decide))) ?_
      rw [show out ++ txR (.op a b) as = out ++ [40] ++ (txR a (-2) ++ (62 :: txR b (-1))) ++ [41] by rw [txR, if_pos c, if_pos c]; simp]
      exact W5
    refine ev_icmpne 89 dX11_writesType_74 (fun hb3 => ?_) (fun h_no => (by exfalso; omega))
    refine p89 h1 _ _ K1 W1 (by omega) (by omega) fun h4 v2 v3 K4 W4 => ?_
    refine kk h4 _ _ K4 ?_
    rw [show out ++ txR (.op a b) as = out ++ (txR a (-2) ++ (62 :: txR b (-1))) by rw [txR, if_neg c, if_neg c]; simp]
    exact W4
/-- a text stands in the reference's line -/
def TxQ (h1 : AH) (X : List Int) : Prop := h1.vl 42 80 = (X.length : Int) ∧ ∀ i (hi : i < X.length), h1.vl 90 i = X[i]
set_option maxRecDepth 100000 in
theorem s_writesType {h : AH} {R : TE} (hI : RI h) (hr : RwA (h.vl 78) 0 (rowT R)) (hv : vsT (fun x => x < 1000) R) (hsz : sz R ≤ 200) : CV mX11_writesType 3 [rv 42] h (oi fun r h1 => r = ((txR R (-1)).length : Int) ∧ KP h h1 [90, 91] [80, 81] ∧ TxQ h1 (txR R (-1))) := by
  refine cv_of cdX11_writesType ?_
  show EV _ _ 0 [rv 42, uv, uv, uv] [] h _
  refine ev_aload_n dX11_writesType_0 rfl ?_
  refine ev_iconst dX11_writesType_1 ?_
  refine ev_pt dX11_writesType_2 fX11_440 hI.o hI.n rfl ?_
  refine ev_aload_n dX11_writesType_5 rfl ?_
  refine ev_iconst dX11_writesType_6 ?_
  refine ev_pt dX11_writesType_7 fX11_443 hI.o hI.n rfl ?_
  obtain ⟨h1, e1⟩ : ∃ h1, h1 = (h.put 42 80 0).put 42 81 0 := ⟨_, rfl⟩
  rw [← e1]
  have k1 : KP h h1 [] [80, 81] := by rw [e1]; exact (KP.rf.pf (by decide)).pf (by decide)
  have I1 : RI h1 := k1.ri hI
  have W1 : WtI h1 [] [] := by rw [e1]; exact ⟨⟨rfl, trivial⟩, rfl, fun i hi => absurd hi (Nat.not_lt_zero _)⟩
  refine ev_aload_n dX11_writesType_10 rfl ?_
  refine ev_iconst dX11_writesType_11 ?_
  refine ev_cvv dX11_writesType_12 lX11_446 (i_later I1 W1 (by decide)) (by decide) I1.o I1.n rfl rfl rfl (Nat.le_of_ble_eq_true rfl) rfl (fun h2 q => ?_)
  obtain ⟨k2, W2⟩ := q
  refine ev_iconst dX11_writesType_15 ?_
  refine ev_ist1 dX11_writesType_16 ?_
  refine wt_tree hI R (-1) [] [] 0 h2 _ _ (Or.inl rfl) hr hv ((k1.wk (by decide) (by decide)).tr (k2.wk (by decide) (by decide))) W2 (by omega) (by rw [List.length_nil]; omega) (by rw [List.length_nil]; omega) fun h3 v2 v3 K3 W3 => ?_
  obtain ⟨⟨w1, w2⟩, w3, w4⟩ := W3
  have I3 : RI h3 := K3.ri hI
  have w1 : h3.vl 42 81 = 0 := w1
  rw [List.nil_append] at w3 w4
  refine ev_aload_n dX11_writesType_17 rfl ?_
  refine ev_getiv dX11_writesType_18 fX11_443 I3.o I3.n rfl w1 ?_
  refine ev_ifle 163 dX11_writesType_21 (fun hb => ?_) (fun h_no => (by exfalso; omega))
  refine ev_aload_n dX11_writesType_163 rfl ?_
  refine ev_getiv dX11_writesType_164 fX11_440 I3.o I3.n rfl w3 ?_
  exact ev_iret dX11_writesType_167 (⟨_, rfl, rfl, K3, w3, w4⟩)
