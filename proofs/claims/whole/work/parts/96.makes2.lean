/-! the reference's makes: a row from its end -/
set_option maxRecDepth 100000 in
theorem mk_tree {h : AH} {N aB nv src Ls start many : Nat} {gn : Nat → Bool} {T : Nat → TE} {Q : AV → AH → Prop} (hI0 : RI h) (ks : h.kd src = (100, Ls)) (ns : src < h.n) (hsrc : src ≠ 42 ∧ src ∉ MkA) (hN : N + 210 ≤ 20000) (haB : aB + 210 ≤ 9800) (hgn : ∀ x, gn x = true → x < nv) (hL9 : start + 300 ≤ 100000) (hLs : start + many ≤ Ls ∧ many ≤ 200) :
    ∀ (R : TE) (k y M : Nat) (st : List TE) (g : AH) (T1 : Nat → TE) (v5 : Int) (v7 : AV), MkO h N aB nv gn T g y M T1 → y + (rowT R).length ≤ 200 → (∀ i (hi : i < (rowT R).length), h.vl src (start + k + i) = (rowT R)[i]) → k + (rowT R).length ≤ many → (∀ x, 2 ≤ x → oc x R = true → x < 210) → GSt g T1 M st → st.length + (rowT R).length ≤ 202 →
    (∀ (g1 : AH) (y1 M1 : Nat) (T2 : Nat → TE) (c : Nat) (v7 : AV), MkO h N aB nv gn T g1 y1 M1 T2 → y1 ≤ y + (rowT R).length → GSt g1 T2 M1 (insR nv R :: st) → c < M1 → T2 c = insR nv R → EV mX11_makes 3 36 [rv 42, rv src, iv (start : Int), iv (many : Int), iv ((st.length : Int) + 1), iv (c : Int), iv ((k : Int) - 1), v7] [] g1 Q) →
    EV mX11_makes 3 36 [rv 42, rv src, iv (start : Int), iv (many : Int), iv (st.length : Int), iv v5, iv ((k : Int) + (rowT R).length - 1), v7] [] g Q := by
  intro R
  induction R with
  | var x =>
    intro k y M st g T1 v5 v7 c hy hrow hk hvar hst hsl kk
    have hl1 : (rowT (.var x)).length = 1 := rfl
    rw [hl1] at hy hk hsl ⊢
    have e1 : (k : Int) + ((1 : Nat) : Int) - 1 = (k : Int) := by omega
    rw [e1]
    have hI : RI g := c.1.ri hI0
    have kS : g.kd src = (100, Ls) := by rw [c.1.2.1]; exact ks
    have nS : src < g.n := by rw [c.1.1]; exact ns
    have vS : g.vl src = h.vl src := c.1.vl hsrc.1 (by simp only [List.mem_cons, List.not_mem_nil, or_false] at *; omega)
    have hr := hrow 0 (by rw [hl1]; omega)
    have hM : M ≤ N + y := c.2.1.2
    obtain ⟨z, hz, hzr⟩ : ∃ z : Int, z = (if x < 2 then (x : Int) else (x : Int) + 1) ∧ h.vl src (start + k) = z := ⟨_, rfl, hr⟩
    -- the part is there: into got
    have fin : ∀ (g1 : AH) (y1 M1 : Nat) (T2 : Nat → TE) (c1 : Nat), MkO h N aB nv gn T g1 y1 M1 T2 → y1 ≤ y + 1 → (∀ i, i < M → T2 i = T1 i) → M ≤ M1 → g1.vl 83 = g.vl 83 → c1 < M1 → T2 c1 = insR nv (.var x) → EV mX11_makes 3 145 [rv 42, rv src, iv (start : Int), iv (many : Int), iv (st.length : Int), iv (c1 : Int), iv (k : Int), iv z] [] g1 Q := by
      intro g1 y1 M1 T2 c1 c' hy1 hT hM1 h83 hc1 hTc
      have hI1 : RI g1 := c'.1.ri hI0
      refine ev_aload_n dX11_makes_145 rfl ?_
      refine ev_getrv dX11_makes_146 fX11_134 hI1.o hI1.n rfl hI1.v_got ?_
      refine ev_iload dX11_makes_149 rfl ?_
      refine ev_iload dX11_makes_151 rfl ?_
      refine ev_istr dX11_makes_153 hI1.k_got hI1.n_got rfl (by omega) (by omega) ?_
      refine ev_iin4 dX11_makes_154 (by unfold ir; omega) ?_
      refine ev_iin6 dX11_makes_157 (by unfold ir; omega) ?_
      refine ev_gt 36 dX11_makes_160 ?_
      rw [show ((st.length : Nat) : Int).toNat = st.length from rfl]
      refine kk _ y1 M1 T2 c1 (iv z) c'.got (by rw [hl1]; exact hy1) ⟨⟨c1, hc1, by rw [AH.put_vl, if_pos ⟨rfl, rfl⟩], hTc⟩, hst.mv hM1 hT (fun i hi => by rw [AH.put_vl, if_neg (by omega), h83])⟩ hc1 hTc
    refine ev_iload dX11_makes_36 rfl ?_
    refine ev_iflt 163 dX11_makes_38 (fun h_no => (by exfalso; omega)) (fun hc => ?_)
    refine ev_aload_n dX11_makes_41 rfl ?_
    refine ev_iload_n dX11_makes_42 rfl ?_
    refine ev_iload dX11_makes_43 rfl ?_
    refine ev_iadd dX11_makes_45 (by unfold ir; omega) ?_
    refine ev_ild dX11_makes_46 kS nS rfl (by omega) (by omega) ?_
    rw [show ((start : Int) + (k : Int)).toNat = start + k by omega, vS, hzr]
    refine ev_ist7 dX11_makes_47 ?_
    refine ev_iload dX11_makes_49 rfl ?_
    refine ev_iconst dX11_makes_51 ?_
    by_cases hx : x < 2
    · skip
      have hz0 : z = (x : Int) := by rw [hz, if_pos hx]
      refine ev_icmplt 80 dX11_makes_52 (fun hc2 => ?_) (fun h_no => (by exfalso; omega))
      refine ev_iload dX11_makes_80 rfl ?_
      refine ev_iconst dX11_makes_82 ?_
      refine ev_icmpne 117 dX11_makes_83 (fun hc3 => ?_) (fun h_no => (by exfalso; omega))
      refine ev_iload dX11_makes_117 rfl ?_
      refine ev_iconst dX11_makes_119 ?_
      refine ev_icmplt 135 dX11_makes_120 (fun hc4 => ?_) (fun h_no => (by exfalso; omega))
      refine ev_aload_n dX11_makes_135 rfl ?_
      refine ev_iload dX11_makes_136 rfl ?_
      refine ev_iconst dX11_makes_138 ?_
      refine ev_iconst dX11_makes_139 ?_
      have e49 : g.vl 42 49 = (M : Int) := by obtain ⟨_, _, _, t1, _⟩ := c.2.2.1; exact t1.2.1
      refine ev_cvi dX11_makes_140 lX11_216 (s_part hI (by omega) (by omega)) (by decide) hI.o hI.n rfl rfl rfl (Nat.le_of_ble_eq_true rfl) rfl (fun r g1 q => ?_)
      obtain ⟨rfl, q⟩ := q
      have q : g1 = addH g M z (-1) (-1) := by rw [q, e49]; rfl
      rw [e49]
      have c' := c.add (k := z) (a := -1) (b := -1) (by omega) (by omega) (by omega) (fun w => absurd w (by omega))
      rw [if_neg (show ¬ z = 2 by omega), ← q] at c'
      refine ev_ist5 dX11_makes_143 ?_
      refine fin g1 (y + 1) (M + 1) _ M c' (Nat.le_refl _) (fun i hi => upT_n (by omega)) (by omega) (by rw [q]; exact addH_83) (by omega) ?_
      rw [upT_s, hz0]
      show Lean.Data.AC.Expr.var (x : Int).toNat = insR nv (.var x)
      rw [insR, sbs, if_pos hx]
      rfl
    have hxv := hvar x (by omega) (by simp [oc])
    have hz3 : z = ((x - 2 : Nat) : Int) + 3 := by rw [hz, if_neg hx]; omega
    have e3 : z - 3 = ((x - 2 : Nat) : Int) := by omega
    have eins : insR nv (.var x) = .var (nv + 2 + (x - 2)) := by
      rw [insR, sbs, if_neg hx, show nv + x = nv + 2 + (x - 2) by omega]
    have p80 : ∀ (g1 : AH) (y1 M1 : Nat) (T2 : Nat → TE) (c1 : Nat), MkO h N aB nv gn T g1 y1 M1 T2 → y1 ≤ y + 1 → (∀ i, i < M → T2 i = T1 i) → M ≤ M1 → g1.vl 83 = g.vl 83 → c1 < M1 → g1.vl 81 (x - 2) = (c1 : Int) → T2 c1 = insR nv (.var x) → EV mX11_makes 3 80 [rv 42, rv src, iv (start : Int), iv (many : Int), iv (st.length : Int), iv v5, iv (k : Int), iv z] [] g1 Q := by
      intro g1 y1 M1 T2 c1 c' hy1 hT hM1 h83 hc1 h81 hTc
      have hI1 : RI g1 := c'.1.ri hI0
      refine ev_iload dX11_makes_80 rfl ?_
      refine ev_iconst dX11_makes_82 ?_
      refine ev_icmpne 117 dX11_makes_83 (fun hc3 => ?_) (fun h_no => (by exfalso; omega))
      refine ev_iload dX11_makes_117 rfl ?_
      refine ev_iconst dX11_makes_119 ?_
      refine ev_icmplt 135 dX11_makes_120 (fun h_no => (by exfalso; omega)) (fun hc4 => ?_)
      refine ev_aload_n dX11_makes_123 rfl ?_
      refine ev_getrv dX11_makes_124 fX11_128 hI1.o hI1.n rfl hI1.v_named ?_
      refine ev_iload dX11_makes_127 rfl ?_
      refine ev_iconst dX11_makes_129 ?_
      refine ev_isub dX11_makes_130 (by unfold ir; omega) ?_
      rw [e3]
      refine ev_ildv dX11_makes_131 hI1.k_named hI1.n_named rfl (by omega) (by omega) h81 ?_
      refine ev_gt 143 dX11_makes_132 ?_
      refine ev_ist5 dX11_makes_143 ?_
      exact fin g1 y1 M1 T2 c1 c' hy1 hT hM1 h83 hc1 hTc
    refine ev_icmplt 80 dX11_makes_52 (fun h_no => (by exfalso; omega)) (fun hc2 => ?_)
    refine ev_aload_n dX11_makes_55 rfl ?_
    refine ev_getrv dX11_makes_56 fX11_128 hI.o hI.n rfl hI.v_named ?_
    refine ev_iload dX11_makes_59 rfl ?_
    refine ev_iconst dX11_makes_61 ?_
    refine ev_isub dX11_makes_62 (by unfold ir; omega) ?_
    rw [e3]
    rcases c.2.2.2.2 (x - 2) (by omega) with h81 | ⟨c1, d1, d2, d3⟩
    · skip
      refine ev_ildv dX11_makes_63 hI.k_named hI.n_named rfl (by omega) (by omega) h81 ?_
      refine ev_ifge 80 dX11_makes_64 (fun h_no => (by exfalso; omega)) (fun hc3 => ?_)
      refine ev_aload_n dX11_makes_67 rfl ?_
      refine ev_getrv dX11_makes_68 fX11_128 hI.o hI.n rfl hI.v_named ?_
      refine ev_iload dX11_makes_71 rfl ?_
      refine ev_iconst dX11_makes_73 ?_
      refine ev_isub dX11_makes_74 (by unfold ir; omega) ?_
      rw [e3]
      have e49 : g.vl 42 49 = (M : Int) := by obtain ⟨_, _, _, t1, _⟩ := c.2.2.1; exact t1.2.1
      refine ev_aload_n dX11_makes_75 rfl ?_
      refine ev_cvi dX11_makes_76 lX11_239 (s_fresh hI (by omega) (by omega)) (by decide) hI.o hI.n rfl rfl rfl (Nat.le_of_ble_eq_true rfl) rfl (fun r g1 q => ?_)
      obtain ⟨rfl, q⟩ := q
      have q : g1 = addH g M 3 (-1) (-1) := by rw [q, e49]; rfl
      rw [e49]
      have c' := c.fresh (j := x - 2) (by omega) (by omega) (by omega) (by omega) hgn
      rw [← q] at c'
      have hI1 : RI g1 := by rw [q]; exact addH_kp.ri hI
      refine ev_istr dX11_makes_79 hI1.k_named hI1.n_named rfl (by omega) (by omega) ?_
      rw [show (((x - 2 : Nat) : Nat) : Int).toNat = x - 2 from rfl]
      refine p80 _ (y + 1) (M + 1) _ M c' (Nat.le_refl _) (fun i hi => upT_n (by omega)) (by omega) ?_ (by omega) (by rw [AH.put_vl, if_pos ⟨rfl, rfl⟩]) (by rw [upT_s, eins])
      rw [put_ne _ (by decide), q]
      exact addH_83
    refine ev_ildv dX11_makes_63 hI.k_named hI.n_named rfl (by omega) (by omega) d2 ?_
    refine ev_ifge 80 dX11_makes_64 (fun hc3 => ?_) (fun h_no => (by exfalso; omega))
    exact p80 g y M T1 c1 c (by omega) (fun _ _ => rfl) (Nat.le_refl _) rfl d1 d2 (by rw [d3, eins])
  | op a b iha ihb =>
    intro k y M st g T1 v5 v7 c hy hrow hk hvar hst hsl kk
    have hl : (rowT (.op a b)).length = 1 + (rowT a).length + (rowT b).length := by rw [rowT, List.length_cons, List.length_append]; omega
    have pa : 1 ≤ (rowT a).length := by rw [row_len]; exact sz_pos a
    have pb : 1 ≤ (rowT b).length := by rw [row_len]; exact sz_pos b
    rw [hl] at hy hk hsl
    have e1 : (k : Int) + ((rowT (.op a b)).length : Int) - 1 = ((k + 1 + (rowT a).length : Nat) : Int) + ((rowT b).length : Int) - 1 := by rw [hl]; omega
    rw [e1]
    have hrb : ∀ i (hi : i < (rowT b).length), h.vl src (start + (k + 1 + (rowT a).length) + i) = (rowT b)[i] := fun i hi => by
      have := hrow (1 + (rowT a).length + i) (by rw [hl]; omega)
      rw [show start + (k + 1 + (rowT a).length) + i = start + k + (1 + (rowT a).length + i) by omega, this]
      simp only [rowT, show 1 + (rowT a).length + i = ((rowT a).length + i) + 1 by omega, List.getElem_cons_succ]
      rw [List.getElem_append_right (by omega)]
      congr 1
      omega
    have hra : ∀ i (hi : i < (rowT a).length), h.vl src (start + (k + 1) + i) = (rowT a)[i] := fun i hi => by
      have := hrow (1 + i) (by rw [hl]; omega)
      rw [show start + (k + 1) + i = start + k + (1 + i) by omega, this]
      simp only [rowT, show 1 + i = i + 1 by omega, List.getElem_cons_succ]
      rw [List.getElem_append_left hi]
    refine ihb (k + 1 + (rowT a).length) y M st g T1 v5 v7 c (by omega) hrb (by omega) (fun x h2 ho => hvar x h2 (by simp [oc, ho])) hst (by omega) (fun g1 y1 M1 T2 cb v7 c1 hy1 hst1 hcb hTb => ?_)
    rw [show ((k + 1 + (rowT a).length : Nat) : Int) - 1 = ((k + 1 : Nat) : Int) + ((rowT a).length : Int) - 1 by omega]
    refine iha (k + 1) y1 M1 (insR nv b :: st) g1 T2 _ v7 c1 (by omega) hra (by omega) (fun x h2 ho => hvar x h2 (by simp [oc, ho])) hst1 (by rw [List.length_cons]; omega) (fun g2 y2 M2 T3 ca v7 c2 hy2 hst2 hca hTa => ?_)
    rw [show ((k + 1 : Nat) : Int) - 1 = (k : Int) by omega, show (((insR nv b :: st).length : Nat) : Int) + 1 = (st.length : Int) + 2 by rw [List.length_cons]; omega]
    have hI : RI g2 := c2.1.ri hI0
    have kS : g2.kd src = (100, Ls) := by rw [c2.1.2.1]; exact ks
    have nS : src < g2.n := by rw [c2.1.1]; exact ns
    have vS : g2.vl src = h.vl src := c2.1.vl hsrc.1 (by simp only [List.mem_cons, List.not_mem_nil, or_false] at *; omega)
    have hr : h.vl src (start + k) = 2 := hrow 0 (by rw [hl]; omega)
    obtain ⟨⟨a1, a2, a3, a4⟩, ⟨b1, b2, b3, b4⟩, hst3⟩ := hst2
    have a3 : g2.vl 83 (st.length + 1) = (a1 : Int) := a3
    have hM2 : M2 ≤ N + y2 := c2.2.1.2
    have e49 : g2.vl 42 49 = (M2 : Int) := by obtain ⟨_, _, _, t1, _⟩ := c2.2.2.1; exact t1.2.1
    refine ev_iload dX11_makes_36 rfl ?_
    refine ev_iflt 163 dX11_makes_38 (fun h_no => (by exfalso; omega)) (fun hc => ?_)
    refine ev_aload_n dX11_makes_41 rfl ?_
    refine ev_iload_n dX11_makes_42 rfl ?_
    refine ev_iload dX11_makes_43 rfl ?_
    refine ev_iadd dX11_makes_45 (by unfold ir; omega) ?_
    refine ev_ild dX11_makes_46 kS nS rfl (by omega) (by omega) ?_
    rw [show ((start : Int) + (k : Int)).toNat = start + k by omega, vS, hr]
    refine ev_ist7 dX11_makes_47 ?_
    refine ev_iload dX11_makes_49 rfl ?_
    refine ev_iconst dX11_makes_51 ?_
    refine ev_icmplt 80 dX11_makes_52 (fun hc2 => ?_) (fun h_no => (by exfalso; omega))
    refine ev_iload dX11_makes_80 rfl ?_
    refine ev_iconst dX11_makes_82 ?_
    refine ev_icmpne 117 dX11_makes_83 (fun h_no => (by exfalso; omega)) (fun hc3 => ?_)
    refine ev_aload_n dX11_makes_86 rfl ?_
    refine ev_iconst dX11_makes_87 ?_
    refine ev_aload_n dX11_makes_88 rfl ?_
    refine ev_getrv dX11_makes_89 fX11_134 hI.o hI.n rfl hI.v_got ?_
    refine ev_iload dX11_makes_92 rfl ?_
    refine ev_iconst dX11_makes_94 ?_
    refine ev_isub dX11_makes_95 (by unfold ir; omega) ?_
    rw [show (st.length : Int) + 2 - 1 = ((st.length + 1 : Nat) : Int) by omega]
    refine ev_ildv dX11_makes_96 hI.k_got hI.n_got rfl (by omega) (by omega) a3 ?_
    refine ev_aload_n dX11_makes_97 rfl ?_
    refine ev_getrv dX11_makes_98 fX11_134 hI.o hI.n rfl hI.v_got ?_
    refine ev_iload dX11_makes_101 rfl ?_
    refine ev_iconst dX11_makes_103 ?_
    refine ev_isub dX11_makes_104 (by unfold ir; omega) ?_
    rw [show (st.length : Int) + 2 - 2 = (st.length : Int) by omega]
    refine ev_ildv dX11_makes_105 hI.k_got hI.n_got rfl (by omega) (by omega) b3 ?_
    refine ev_cvi dX11_makes_106 lX11_216 (s_part hI (by omega) (by omega)) (by decide) hI.o hI.n rfl rfl rfl (Nat.le_of_ble_eq_true rfl) rfl (fun r g3 q => ?_)
    obtain ⟨rfl, q⟩ := q
    have q : g3 = addH g2 M2 2 (a1 : Int) (b1 : Int) := by rw [q, e49]; rfl
    rw [e49]
    have c3 := c2.add (k := 2) (a := (a1 : Int)) (b := (b1 : Int)) (by omega) (by omega) (by omega) (fun w => by omega)
    rw [if_pos rfl, show ((a1 : Nat) : Int).toNat = a1 from rfl, show ((b1 : Nat) : Int).toNat = b1 from rfl, a4, b4, ← q] at c3
    have hI3 : RI g3 := c3.1.ri hI0
    refine ev_ist5 dX11_makes_109 ?_
    refine ev_iin4 dX11_makes_111 (by unfold ir; omega) ?_
    rw [show (st.length : Int) + 2 + (-2) = (st.length : Int) by omega]
    refine ev_gt 145 dX11_makes_114 ?_
    refine ev_aload_n dX11_makes_145 rfl ?_
    refine ev_getrv dX11_makes_146 fX11_134 hI3.o hI3.n rfl hI3.v_got ?_
    refine ev_iload dX11_makes_149 rfl ?_
    refine ev_iload dX11_makes_151 rfl ?_
    refine ev_istr dX11_makes_153 hI3.k_got hI3.n_got rfl (by omega) (by omega) ?_
    refine ev_iin4 dX11_makes_154 (by unfold ir; omega) ?_
    refine ev_iin6 dX11_makes_157 (by unfold ir; omega) ?_
    refine ev_gt 36 dX11_makes_160 ?_
    rw [show ((st.length : Nat) : Int).toNat = st.length from rfl]
    have eT : upT T3 M2 (.op (insR nv a) (insR nv b)) M2 = insR nv (.op a b) := upT_s
    refine kk _ (y2 + 1) (M2 + 1) _ M2 (iv 2) c3.got (by rw [hl]; omega) ⟨⟨M2, by omega, by rw [AH.put_vl, if_pos ⟨rfl, rfl⟩], eT⟩, hst3.mv (by omega) (fun i hi => upT_n (by omega)) (fun i hi => by rw [AH.put_vl, if_neg (by omega), q]; exact congrFun addH_83 i)⟩ (by omega) eT
set_option maxRecDepth 100000 in
theorem s_makesN {h : AH} {N aB nv src Ls start : Nat} {gn : Nat → Bool} {T : Nat → TE} {R : TE} (hI0 : RI h) (hR : RN h N aB nv gn T) (ks : h.kd src = (100, Ls)) (ns : src < h.n) (hsrc : src ≠ 42 ∧ src ∉ MkA) (hN : N + 210 ≤ 20000) (haB : aB + 210 ≤ 9800) (hgn : ∀ x, gn x = true → x < nv) (hL9 : start + 300 ≤ 100000) (hLs : start + sz R ≤ Ls ∧ sz R ≤ 200) (hrow : ∀ i (hi : i < (rowT R).length), h.vl src (start + i) = (rowT R)[i]) (hvar : ∀ x, 2 ≤ x → oc x R = true → x < 210) :
    CV mX11_makes 3 [rv 42, rv src, iv (start : Int), iv (sz R : Int)] h (oi fun r h1 => ∃ (c M : Nat) (T2 : Nat → TE), r = (c : Int) ∧ c < M ∧ (N ≤ M ∧ M ≤ N + sz R) ∧ KP h h1 MkA [49] ∧ RN h1 M (aB + sz R) (nv + 210) gn T2 ∧ (∀ k, k < N → T2 k = T k) ∧ T2 c = insR nv R) := by
  obtain ⟨rr, tr, τ, g1, g7⟩ := hR
  have hl : (rowT R).length = sz R := row_len R
  refine cv_of cdX11_makes ?_
  show EV _ _ 0 [rv 42, rv src, iv (start : Int), iv (sz R : Int), uv, uv, uv, uv] [] h _
  have L1 : ∀ (t i : Nat) (g : AH) (v5 v6 v7 : AV), i + t = 210 → KP h g [81] [] → (∀ j, j < i → g.vl 81 j = -1) → EV mX11_makes 3 3 [rv 42, rv src, iv (start : Int), iv (sz R : Int), iv (i : Int), v5, v6, v7] [] g (oi fun r h1 => ∃ (c M : Nat) (T2 : Nat → TE), r = (c : Int) ∧ c < M ∧ (N ≤ M ∧ M ≤ N + sz R) ∧ KP h h1 MkA [49] ∧ RN h1 M (aB + sz R) (nv + 210) gn T2 ∧ (∀ k, k < N → T2 k = T k) ∧ T2 c = insR nv R) := by
    intro t
    induction t with
    | zero =>
      intro i g v5 v6 v7 hi hK h81
      have hI : RI g := hK.ri hI0
      refine ev_iload dX11_makes_3 rfl ?_
      refine ev_sipush dX11_makes_5 ?_
      refine ev_icmpge 25 dX11_makes_8 (fun hc => ?_) (fun h_no => (by exfalso; omega))
      refine ev_iconst dX11_makes_25 ?_
      refine ev_ist4 dX11_makes_26 ?_
      refine ev_iconst dX11_makes_28 ?_
      refine ev_ist5 dX11_makes_29 ?_
      refine ev_iload_n dX11_makes_31 rfl ?_
      refine ev_iconst dX11_makes_32 ?_
      refine ev_isub dX11_makes_33 (by unfold ir; omega) ?_
      refine ev_ist6 dX11_makes_34 ?_
      rw [show (sz R : Int) - 1 = ((0 : Nat) : Int) + ((rowT R).length : Int) - 1 by rw [hl]; omega]
      have hK' : KP h g MkA [49] := hK.wk (by decide) (by decide)
      obtain ⟨t1, t2, t3, t4, t5, t6⟩ := g1.kp hK
      refine mk_tree (T := T) hI0 ks ns hsrc hN haB hgn hL9 hLs R 0 0 N [] g T (-1) _ ⟨hK', ⟨Nat.le_refl _, Nat.le_refl _⟩, ⟨rr, tr, τ, ⟨⟨t1.1, t1.2.1, t1.2.2.1, t1.2.2.2.1, fun u hu h3 => by have := t1.2.2.2.2 u hu h3; omega⟩, t2, t3, t4, t5, t6⟩, g7, fun c hc h3 => Or.inl (t1.2.2.2.2 c hc h3).2⟩, fun _ _ => rfl, fun j hj => Or.inl (h81 j (by omega))⟩ (by rw [hl]; omega) (fun i hi => by rw [Nat.add_zero]; exact hrow i hi) (by rw [hl]; omega) hvar trivial (by rw [hl]; show 0 + sz R ≤ 202; omega) (fun g2 y1 M1 T2 c v7 c2 hy1 hst hc hTc => ?_)
      obtain ⟨d1, d2, ⟨rr2, tr2, τ2, d3, d4, d5⟩, d6, d7⟩ := c2
      refine ev_iload dX11_makes_36 rfl ?_
      refine ev_iflt 163 dX11_makes_38 (fun hc3 => ?_) (fun h_no => (by exfalso; omega))
      refine ev_iload dX11_makes_163 rfl ?_
      rw [hl] at hy1
      obtain ⟨u1, u2, u3, u4, u5, u6⟩ := d3
      exact ev_iret dX11_makes_165 (⟨_, rfl, c, M1, T2, rfl, hc, by omega, d1, ⟨rr2, tr2, τ2, ⟨u1, u2, u3, u4, by omega, u6⟩, d4⟩, d6, hTc⟩)
    | succ t ih =>
      intro i g v5 v6 v7 hi hK h81
      have hI : RI g := hK.ri hI0
      refine ev_iload dX11_makes_3 rfl ?_
      refine ev_sipush dX11_makes_5 ?_
      refine ev_icmpge 25 dX11_makes_8 (fun h_no => (by exfalso; omega)) (fun hc => ?_)
      refine ev_aload_n dX11_makes_11 rfl ?_
      refine ev_getrv dX11_makes_12 fX11_128 hI.o hI.n rfl hI.v_named ?_
      refine ev_iload dX11_makes_15 rfl ?_
      refine ev_iconst dX11_makes_17 ?_
      refine ev_istr dX11_makes_18 hI.k_named hI.n_named rfl (by omega) (by omega) ?_
      refine ev_iin4 dX11_makes_19 (by unfold ir; omega) ?_
      refine ev_gt 3 dX11_makes_22 ?_
      rw [show ((i : Nat) : Int).toNat = i from rfl, show (i : Int) + 1 = ((i + 1 : Nat) : Int) from rfl]
      refine ih (i + 1) _ v5 v6 v7 (by omega) (hK.pr (by decide) (by decide)) (fun j hj => ?_)
      rw [AH.put_vl]
      by_cases e : j = i
      · rw [if_pos ⟨rfl, e⟩]
      · rw [if_neg (fun z => e z.2)]
        exact h81 j (by omega)
  refine ev_iconst dX11_makes_0 ?_
  refine ev_ist4 dX11_makes_1 ?_
  exact L1 210 0 h _ _ _ rfl KP.rf (fun j hj => absurd hj (Nat.not_lt_zero j))
