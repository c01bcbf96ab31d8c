/-! the reference writes a type as a row -/
def ixN (x : Nat) : List Nat → Nat
  | [] => 0
  | y :: s => if x = y then 0 else ixN x s + 1
/-- a tree as a row, its variables numbered as they come; those that came -/
def cnT : TE → List Nat → List Int × List Nat
  | .var x, s => if x < 2 then ([(x : Int)], s) else if x ∈ s then ([3 + (ixN x s : Int)], s) else ([3 + (s.length : Int)], s ++ [x])
  | .op a b, s => (2 :: ((cnT a s).1 ++ (cnT b (cnT a s).2).1), (cnT b (cnT a s).2).2)
theorem ix_lt {x : Nat} : ∀ {s : List Nat}, x ∈ s → ixN x s < s.length
  | [], h => absurd h List.not_mem_nil
  | y :: s, h => by
    rw [ixN, List.length_cons]
    by_cases e : x = y
    · rw [if_pos e]; omega
    · rw [if_neg e]
      have := ix_lt ((List.mem_cons.mp h).resolve_left e)
      omega
theorem ix_old {x y : Nat} : ∀ {s : List Nat}, x ∈ s → ixN x (s ++ [y]) = ixN x s
  | [], h => absurd h List.not_mem_nil
  | z :: s, h => by
    rw [List.cons_append, ixN, ixN]
    by_cases e : x = z
    · rw [if_pos e, if_pos e]
    · rw [if_neg e, if_neg e, ix_old ((List.mem_cons.mp h).resolve_left e)]
theorem ix_new {x : Nat} : ∀ {s : List Nat}, x ∉ s → ixN x (s ++ [x]) = s.length
  | [], h => by rw [List.nil_append, ixN, if_pos rfl]; rfl
  | z :: s, h => by
    have h2 : x ≠ z ∧ x ∉ s := ⟨fun e => h (by rw [e]; exact List.mem_cons_self), fun m => h (List.mem_cons_of_mem _ m)⟩
    rw [List.cons_append, ixN, if_neg h2.1, ix_new h2.2, List.length_cons]
theorem cn_len : ∀ (t : TE) (s : List Nat), (cnT t s).1.length = sz t
  | .var x, s => by
    rw [cnT]
    split
    · rfl
    · split <;> rfl
  | .op a b, s => by
    rw [cnT]
    show (2 :: ((cnT a s).1 ++ (cnT b (cnT a s).2).1)).length = _
    rw [List.length_cons, List.length_append, cn_len a, cn_len b]
    simp only [sz]
    omega
theorem cn_le : ∀ (t : TE) (s : List Nat), (cnT t s).2.length ≤ s.length + sz t
  | .var x, s => by
    rw [cnT]
    simp only [sz]
    split
    · show s.length ≤ _; omega
    · split
      · show s.length ≤ _; omega
      · show (s ++ [x]).length ≤ _; rw [List.length_append]; show s.length + 1 ≤ _; omega
  | .op a b, s => by
    rw [cnT]
    show (cnT b (cnT a s).2).2.length ≤ _
    have h1 := cn_le a s
    have h2 := cn_le b (cnT a s).2
    simp only [sz]
    omega
theorem ix_map {P : Nat → Prop} {ρ : Nat → Nat} (hρ : InjP P ρ) {x : Nat} (hx : P x) : ∀ {s : List Nat}, (∀ y ∈ s, P y) → ixN (ρ x) (s.map ρ) = ixN x s ∧ (ρ x ∈ s.map ρ ↔ x ∈ s)
  | [], _ => ⟨rfl, by simp⟩
  | y :: s, h => by
    obtain ⟨h1, h2⟩ := ix_map hρ hx (s := s) (fun z hz => h z (List.mem_cons_of_mem _ hz))
    have hy := h y List.mem_cons_self
    rw [List.map_cons, ixN, ixN, List.mem_cons, List.mem_cons, h2]
    by_cases e : x = y
    · rw [if_pos (by rw [e]), if_pos e]
      exact ⟨rfl, by rw [e]; simp⟩
    · have e2 : ¬ ρ x = ρ y := fun z => e (hρ.1 x y hx hy z)
      rw [if_neg e, if_neg e2, h1]
      exact ⟨rfl, by simp [e, e2]⟩
/-- the row does not tell the names -/
theorem cn_nm {P : Nat → Prop} {ρ : Nat → Nat} (hρ : InjP P ρ) : ∀ (t : TE) (s : List Nat), vsT P t → (∀ y ∈ s, P y) → (cnT (nmT ρ t) (s.map ρ) = ((cnT t s).1, (cnT t s).2.map ρ)) ∧ ∀ y ∈ (cnT t s).2, P y
  | .var x, s, ht, hs => by
    rw [nm_var]
    by_cases c : x < 2
    · rw [if_pos c, cnT, if_pos c, cnT, if_pos c]
      exact ⟨rfl, hs⟩
    · have hx := ht x (by omega) (by simp [oc])
      have c2 : ¬ ρ x < 2 := by have := (hρ.2 x hx).2; omega
      obtain ⟨e1, e2⟩ := ix_map hρ hx hs
      rw [if_neg c, cnT, if_neg c2, cnT, if_neg c]
      by_cases d : x ∈ s
      · rw [if_pos d, if_pos (e2.mpr d), e1]
        exact ⟨rfl, hs⟩
      · rw [if_neg d, if_neg (fun z => d (e2.mp z)), List.length_map]
        refine ⟨by rw [List.map_append]; rfl, fun y hy => ?_⟩
        rcases List.mem_append.mp hy with h | h
        · exact hs y h
        · rw [List.mem_singleton.mp h]; exact hx
  | .op a b, s, ht, hs => by
    obtain ⟨va, vb⟩ := vsT_op.mp ht
    obtain ⟨a1, a2⟩ := cn_nm hρ a s va hs
    obtain ⟨b1, b2⟩ := cn_nm hρ b _ vb a2
    rw [nm_op, cnT, cnT, a1]
    refine ⟨?_, b2⟩
    show (2 :: ((cnT a s).1 ++ (cnT (nmT ρ b) ((cnT a s).2.map ρ)).1), (cnT (nmT ρ b) ((cnT a s).2.map ρ)).2) = _
    rw [b1]
def SkL (v : Nat → Int) : List Nat → Prop
  | [] => True
  | a :: st => v st.length = (a : Int) ∧ SkL v st
theorem SkL.lo {v v1 : Nat → Int} : ∀ {st : List Nat}, (∀ i, i < st.length → v1 i = v i) → SkL v st → SkL v1 st
  | [], _, _ => trivial
  | a :: st, h, g => ⟨(h _ (by rw [List.length_cons]; omega)).trans g.1, SkL.lo (fun i hi => h i (by rw [List.length_cons]; omega)) g.2⟩
/-- a row on its way: what is on the stack, what stands in the row, the variables that came -/
def WrI (h : AH) (N : Nat) (st : List Nat) (sp : Int) (R : List Int) (s : List Nat) : Prop :=
  (h.vl 42 51 = (st.length : Int) ∧ SkL (h.vl 74) st) ∧ h.vl 42 50 = sp ∧ (h.vl 42 59 = (R.length : Int) ∧ ∀ i (hi : i < R.length), h.vl 78 i = R[i]) ∧ h.vl 42 60 = (s.length : Int) ∧ (∀ c, c < N → h.vl 66 c = 3 → ((h.vl 71 c = sp ↔ c + 2 ∈ s) ∧ (c + 2 ∈ s → h.vl 72 c = 3 + (ixN (c + 2) s : Int)))) ∧ ∀ k, h.vl 71 k ≤ sp
set_option maxRecDepth 100000 in
theorem wr_put {h : AH} {N c : Nat} {st s : List Nat} {R : List Int} {sp so e : Int} {v1 : AV} {Q : AV → AH → Prop} (hI : RI h) (hW : WrI h N st sp R s) (hc : c < 20000) (hso : h.vl 66 c = so) (he : (so = 3 ∧ h.vl 72 c = e) ∨ (so ≠ 3 ∧ so = e)) (hR : R.length < 210) (kk : ∀ h1, KP h h1 [78] [59] → WrI h1 N st sp (R ++ [e]) s → EV mX11_writesRow 3 155 [rv 42, v1, iv (c : Int)] [] h1 Q) : EV mX11_writesRow 3 111 [rv 42, v1, iv (c : Int)] [] h Q := by
  obtain ⟨⟨w1, w2⟩, w3, ⟨w4, w5⟩, w6, w7, w8⟩ := hW
  have fin : EV mX11_writesRow 3 155 [rv 42, v1, iv (c : Int)] [] ((h.put 78 R.length e).put 42 59 ((R.length : Int) + 1)) Q := by
    have k : KP h ((h.put 78 R.length e).put 42 59 ((R.length : Int) + 1)) [78] [59] := (KP.rf.pr (by decide) (by decide)).pf (by decide)
    refine kk _ k ⟨⟨by rw [k.fl]; exact w1, by rw [k.vl]; exact w2⟩, by rw [k.fl]; exact w3, ⟨?_, fun i hi => ?_⟩, by rw [k.fl]; exact w6, by rw [k.vl (r := 66), k.vl (r := 71), k.vl (r := 72)]; exact w7, by rw [k.vl (r := 71)]; exact w8⟩
    · rw [List.length_append]; rfl
    · rw [List.length_append] at hi
      have hi : i < R.length + 1 := hi
      rw [AH.put_vl, if_neg (by omega), AH.put_vl]
      by_cases z : i = R.length
      · rw [if_pos ⟨rfl, z⟩]
        subst z
        rw [List.getElem_append_right (Nat.le_refl _)]
        simp
      · rw [if_neg (fun w => z w.2), List.getElem_append_left (by omega)]
        exact w5 i (by omega)
  have ee : ((R.length : Nat) : Int).toNat = R.length := rfl
  refine ev_aload_n dX11_writesRow_111 rfl ?_
  refine ev_getrv dX11_writesRow_112 fX11_119 hI.o hI.n rfl hI.v_rowOfType ?_
  refine ev_aload_n dX11_writesRow_115 rfl ?_
  refine ev_getiv dX11_writesRow_116 fX11_262 hI.o hI.n rfl w4 ?_
  refine ev_aload_n dX11_writesRow_119 rfl ?_
  refine ev_getrv dX11_writesRow_120 fX11_83 hI.o hI.n rfl hI.v_sort ?_
  refine ev_iload_n dX11_writesRow_123 rfl ?_
  refine ev_ildv dX11_writesRow_124 hI.k_sort hI.n_sort rfl (by omega) (by omega) hso ?_
  refine ev_iconst dX11_writesRow_125 ?_
  rcases he with ⟨a, b⟩ | ⟨a, b⟩
  · skip
    refine ev_icmpne 138 dX11_writesRow_126 (fun h_no => (by exfalso; omega)) (fun hb => ?_)
    refine ev_aload_n dX11_writesRow_129 rfl ?_
    refine ev_getrv dX11_writesRow_130 fX11_101 hI.o hI.n rfl hI.v_memo ?_
    refine ev_iload_n dX11_writesRow_133 rfl ?_
    refine ev_ildv dX11_writesRow_134 hI.k_memo hI.n_memo rfl (by omega) (by omega) b ?_
    refine ev_gt 144 dX11_writesRow_135 ?_
    refine ev_istr dX11_writesRow_144 hI.k_rowOfType hI.n_rowOfType rfl (by omega) (by omega) ?_
    rw [ee]
    refine ev_aload_n dX11_writesRow_145 rfl ?_
    refine ev_dup dX11_writesRow_146 ?_
    refine ev_getiv dX11_writesRow_147 fX11_262 hI.o hI.n rfl w4 ?_
    refine ev_iconst dX11_writesRow_150 ?_
    refine ev_iadd dX11_writesRow_151 (by unfold ir; omega) ?_
    refine ev_pt dX11_writesRow_152 fX11_262 hI.o hI.n rfl ?_
    exact fin
  refine ev_icmpne 138 dX11_writesRow_126 (fun hb => ?_) (fun h_no => (by exfalso; omega))
  refine ev_aload_n dX11_writesRow_138 rfl ?_
  refine ev_getrv dX11_writesRow_139 fX11_83 hI.o hI.n rfl hI.v_sort ?_
  refine ev_iload_n dX11_writesRow_142 rfl ?_
  refine ev_ildv dX11_writesRow_143 hI.k_sort hI.n_sort rfl (by omega) (by omega) (hso.trans b) ?_
  refine ev_istr dX11_writesRow_144 hI.k_rowOfType hI.n_rowOfType rfl (by omega) (by omega) ?_
  rw [ee]
  refine ev_aload_n dX11_writesRow_145 rfl ?_
  refine ev_dup dX11_writesRow_146 ?_
  refine ev_getiv dX11_writesRow_147 fX11_262 hI.o hI.n rfl w4 ?_
  refine ev_iconst dX11_writesRow_150 ?_
  refine ev_iadd dX11_writesRow_151 (by unfold ir; omega) ?_
  refine ev_pt dX11_writesRow_152 fX11_262 hI.o hI.n rfl ?_
  exact fin
set_option maxRecDepth 100000 in
theorem wr_pop {h : AH} {N t : Nat} {rr : Nat → Nat} {tr : Nat → TE} {st s : List Nat} {R : List Int} {sp t0 : Int} {v2 : AV} {Q : AV → AH → Prop} (hI : RI h) (hG : GH h N rr tr) (ht0 : t < N) (hW : WrI h N (t :: st) sp R s) (hst : st.length ≤ 19990) (kk : ∀ h1, KP h h1 [] [51] → WrI h1 N st sp R s → EV mX11_writesRow 3 56 [rv 42, iv t0, iv (rr t : Int)] [] h1 Q) : EV mX11_writesRow 3 25 [rv 42, iv t0, v2] [] h Q := by
  obtain ⟨⟨w1, w2, w2'⟩, w3, ⟨w4, w5⟩, w6, w7, w8⟩ := hW
  have w1 : h.vl 42 51 = (st.length : Int) + 1 := w1
  have hN := hG.1
  refine ev_aload_n dX11_writesRow_25 rfl ?_
  refine ev_getiv dX11_writesRow_26 fX11_220 hI.o hI.n rfl w1 ?_
  refine ev_ifle 213 dX11_writesRow_29 (fun h_no => (by exfalso; omega)) (fun hb => ?_)
  refine ev_aload_n dX11_writesRow_32 rfl ?_
  refine ev_dup dX11_writesRow_33 ?_
  refine ev_getiv dX11_writesRow_34 fX11_220 hI.o hI.n rfl w1 ?_
  refine ev_iconst dX11_writesRow_37 ?_
  refine ev_isub dX11_writesRow_38 (by unfold ir; omega) ?_
  refine ev_pt dX11_writesRow_39 fX11_220 hI.o hI.n rfl ?_
  rw [show (st.length : Int) + 1 - 1 = (st.length : Int) by omega]
  obtain ⟨h1, e1⟩ : ∃ h1, h1 = h.put 42 51 (st.length : Int) := ⟨_, rfl⟩
  rw [← e1]
  have k1 : KP h h1 [] [51] := by rw [e1]; exact KP.rf.pf (by decide)
  have I1 : RI h1 := k1.ri hI
  have f51 : h1.vl 42 51 = (st.length : Int) := by rw [e1]; rfl
  have f74 : h1.vl 74 st.length = (t : Int) := by rw [k1.vl]; exact w2
  have hG1 := hG.on k1
  refine ev_aload_n dX11_writesRow_42 rfl ?_
  refine ev_aload_n dX11_writesRow_43 rfl ?_
  refine ev_getrv dX11_writesRow_44 fX11_107 I1.o I1.n rfl I1.v_stack ?_
  refine ev_aload_n dX11_writesRow_47 rfl ?_
  refine ev_getiv dX11_writesRow_48 fX11_220 I1.o I1.n rfl f51 ?_
  refine ev_ildv dX11_writesRow_51 I1.k_stack I1.n_stack rfl (by omega) (by omega) f74 ?_
  refine ev_cvi dX11_writesRow_52 lX11_223 (s_is' I1 hN hG1.2.1 (by omega) (by omega)) (by decide) I1.o I1.n rfl rfl rfl (Nat.le_of_ble_eq_true rfl) rfl (fun r z1 q => ?_)
  obtain ⟨rfl, ez⟩ := q
  rw [ez, show ((t : Nat) : Int).toNat = t from rfl]
  refine ev_ist2 dX11_writesRow_55 ?_
  exact kk h1 k1 ⟨⟨f51, by rw [k1.vl (r := 74)]; exact w2'⟩, by rw [k1.fl]; exact w3, ⟨by rw [k1.fl]; exact w4, by rw [k1.vl (r := 78)]; exact w5⟩, by rw [k1.fl]; exact w6, by rw [k1.vl (r := 66), k1.vl (r := 71), k1.vl (r := 72)]; exact w7, by rw [k1.vl (r := 71)]; exact w8⟩
set_option maxRecDepth 100000 in
theorem wr_tree {h0 : AH} {N : Nat} {rr : Nat → Nat} {tr : Nat → TE} {sp : Int} {t0 : Int} {Q : AV → AH → Prop} (hI0 : RI h0) (hG : GH h0 N rr tr) (hso : ∀ t, t < N → 0 ≤ h0.vl 66 t ∧ h0.vl 66 t ≤ 3) :
    ∀ (T : TE) (t : Nat) (st : List Nat) (R : List Int) (s : List Nat) (h : AH) (v2 : AV), t < N → tr t = T → KP h0 h [71, 72, 74, 78] [50, 51, 59, 60] → WrI h N (t :: st) sp R s → st.length + 2 * sz T ≤ 19990 → R.length + sz T ≤ 209 → s.length ≤ R.length →
    (∀ (h1 : AH) (v2 : AV), KP h0 h1 [71, 72, 74, 78] [50, 51, 59, 60] → WrI h1 N st sp (R ++ (cnT T s).1) (cnT T s).2 → EV mX11_writesRow 3 25 [rv 42, iv t0, v2] [] h1 Q) →
    EV mX11_writesRow 3 25 [rv 42, iv t0, v2] [] h Q := by
  intro T
  induction T with
  | var v =>
    intro t st R s h v2 ht0 hT hK hW hst hR hs kk
    have hI : RI h := hK.ri hI0
    have hG' := hG.on hK
    have e66 : h.vl 66 = h0.vl 66 := hK.vl
    obtain ⟨a1, a2, a3⟩ := hG.2.2 t ht0
    have hN := hG.1
    have hv := GT_va hG.2.2 ht0 hT
    rw [if_neg hv, hT] at a3
    have h4 := hso _ a1
    simp only [sz] at hR hst
    obtain ⟨so, hso'⟩ : ∃ so, h0.vl 66 (rr t) = so := ⟨_, rfl⟩
    rw [hso'] at a3 h4 hv
    refine wr_pop hI hG' ht0 hW (by omega) fun h1 k1 W1 => ?_
    obtain ⟨⟨w1, w2⟩, w3, ⟨w4, w5⟩, w6, w7, w8⟩ := id W1
    have I1 : RI h1 := k1.ri hI
    have f66 : h1.vl 66 (rr t) = so := by rw [k1.vl, e66]; exact hso'
    have K1 : KP h0 h1 [71, 72, 74, 78] [50, 51, 59, 60] := hK.tr (k1.wk (by decide) (by decide))
    have fin : ∀ h2, KP h0 h2 [71, 72, 74, 78] [50, 51, 59, 60] → WrI h2 N st sp (R ++ (cnT (.var v) s).1) (cnT (.var v) s).2 → EV mX11_writesRow 3 155 [rv 42, iv t0, iv (rr t : Int)] [] h2 Q := by
      intro h2 K2 W2
      have I2 : RI h2 := K2.ri hI0
      have g66 : h2.vl 66 (rr t) = so := by rw [K2.vl]; exact hso'
      refine ev_aload_n dX11_writesRow_155 rfl ?_
      refine ev_getrv dX11_writesRow_156 fX11_83 I2.o I2.n rfl I2.v_sort ?_
      refine ev_iload_n dX11_writesRow_159 rfl ?_
      refine ev_ildv dX11_writesRow_160 I2.k_sort I2.n_sort rfl (by omega) (by omega) g66 ?_
      refine ev_iconst dX11_writesRow_161 ?_
      refine ev_icmpeq 168 dX11_writesRow_162 (fun h_no => (by exfalso; omega)) (fun hb => ?_)
      refine ev_gt 25 dX11_writesRow_165 ?_
      exact kk h2 _ K2 W2
    refine ev_aload_n dX11_writesRow_56 rfl ?_
    refine ev_getrv dX11_writesRow_57 fX11_83 I1.o I1.n rfl I1.v_sort ?_
    refine ev_iload_n dX11_writesRow_60 rfl ?_
    refine ev_ildv dX11_writesRow_61 I1.k_sort I1.n_sort rfl (by omega) (by omega) f66 ?_
    refine ev_iconst dX11_writesRow_62 ?_
    by_cases c3 : so = 3
    · skip
      have a3' : v = rr t + 2 := by
        rw [c3] at a3
        exact Lean.Data.AC.Expr.var.inj a3
      have nv2 : ¬ v < 2 := by omega
      have cn : cnT (.var v) s = if v ∈ s then ([3 + (ixN v s : Int)], s) else ([3 + (s.length : Int)], s ++ [v]) := by rw [cnT, if_neg nv2]
      obtain ⟨x1, x2⟩ := w7 (rr t) a1 (by rw [f66, c3])
      rw [← a3'] at x1 x2
      obtain ⟨sn, hsn⟩ : ∃ sn, h1.vl 71 (rr t) = sn := ⟨_, rfl⟩
      rw [hsn] at x1
      refine ev_icmpne 111 dX11_writesRow_63 (fun h_no => (by exfalso; omega)) (fun hb2 => ?_)
      refine ev_aload_n dX11_writesRow_66 rfl ?_
      refine ev_getrv dX11_writesRow_67 fX11_98 I1.o I1.n rfl I1.v_seen ?_
      refine ev_iload_n dX11_writesRow_70 rfl ?_
      refine ev_ildv dX11_writesRow_71 I1.k_seen I1.n_seen rfl (by omega) (by omega) hsn ?_
      refine ev_aload_n dX11_writesRow_72 rfl ?_
      refine ev_getiv dX11_writesRow_73 fX11_226 I1.o I1.n rfl w3 ?_
      by_cases c4 : v ∈ s
      · skip
        have z := x1.mpr c4
        rw [if_pos c4] at cn
        refine ev_icmpeq 111 dX11_writesRow_76 (fun hb3 => ?_) (fun h_no => (by exfalso; omega))
        refine wr_put (e := 3 + (ixN v s : Int)) I1 W1 (by omega) f66 (Or.inl ⟨c3, x2 c4⟩) (by omega) fun h2 k2 W2 => ?_
        exact fin h2 (K1.tr (k2.wk (by decide) (by decide))) (by rw [cn]; exact W2)
      have z : ¬ sn = sp := fun y => c4 (x1.mp y)
      rw [if_neg c4] at cn
      refine ev_icmpeq 111 dX11_writesRow_76 (fun h_no => (by exfalso; omega)) (fun hb3 => ?_)
      refine ev_aload_n dX11_writesRow_79 rfl ?_
      refine ev_getrv dX11_writesRow_80 fX11_98 I1.o I1.n rfl I1.v_seen ?_
      refine ev_iload_n dX11_writesRow_83 rfl ?_
      refine ev_aload_n dX11_writesRow_84 rfl ?_
      refine ev_getiv dX11_writesRow_85 fX11_226 I1.o I1.n rfl w3 ?_
      refine ev_istr dX11_writesRow_88 I1.k_seen I1.n_seen rfl (by omega) (by omega) ?_
      refine ev_aload_n dX11_writesRow_89 rfl ?_
      refine ev_getrv dX11_writesRow_90 fX11_101 I1.o I1.n rfl I1.v_memo ?_
      refine ev_iload_n dX11_writesRow_93 rfl ?_
      refine ev_iconst dX11_writesRow_94 ?_
      refine ev_aload_n dX11_writesRow_95 rfl ?_
      refine ev_getiv dX11_writesRow_96 fX11_265 I1.o I1.n rfl w6 ?_
      refine ev_iadd dX11_writesRow_99 (by unfold ir; omega) ?_
      refine ev_istr dX11_writesRow_100 I1.k_memo I1.n_memo rfl (by omega) (by omega) ?_
      refine ev_aload_n dX11_writesRow_101 rfl ?_
      refine ev_dup dX11_writesRow_102 ?_
      refine ev_getiv dX11_writesRow_103 fX11_265 I1.o I1.n rfl w6 ?_
      refine ev_iconst dX11_writesRow_106 ?_
      refine ev_iadd dX11_writesRow_107 (by unfold ir; omega) ?_
      refine ev_pt dX11_writesRow_108 fX11_265 I1.o I1.n rfl ?_
      obtain ⟨h2, e2⟩ : ∃ h2, h2 = ((h1.put 71 (rr t) sp).put 72 (rr t) (3 + (s.length : Int))).put 42 60 ((s.length : Int) + 1) := ⟨_, rfl⟩
      have k2 : KP h1 h2 [71, 72] [60] := by rw [e2]; exact ((KP.rf.pr (by decide) (by decide)).pr (by decide) (by decide)).pf (by decide)
      have I2 : RI h2 := k2.ri I1
      have v71 : ∀ c, h2.vl 71 c = if c = rr t then sp else h1.vl 71 c := fun c => by
        rw [e2, AH.put_vl, if_neg (by omega), AH.put_vl, if_neg (by omega), AH.put_vl]
        by_cases q : c = rr t
        · rw [if_pos ⟨rfl, q⟩, if_pos q]
        · rw [if_neg (fun w => q w.2), if_neg q]
      have v72 : ∀ c, h2.vl 72 c = if c = rr t then 3 + (s.length : Int) else h1.vl 72 c := fun c => by
        rw [e2, AH.put_vl, if_neg (by omega), AH.put_vl]
        by_cases q : c = rr t
        · rw [if_pos ⟨rfl, q⟩, if_pos q]
        · rw [if_neg (fun w => q w.2), if_neg q, AH.put_vl, if_neg (by omega)]
      have W2 : WrI h2 N st sp R (s ++ [v]) := by
        refine ⟨⟨by rw [k2.fl]; exact w1, by rw [k2.vl (r := 74)]; exact w2⟩, by rw [k2.fl]; exact w3, ⟨by rw [k2.fl]; exact w4, by rw [k2.vl (r := 78)]; exact w5⟩, by rw [e2, List.length_append]; rfl, fun c hc h3 => ?_, fun k => ?_⟩
        · rw [k2.vl (r := 66)] at h3
          rw [v71, v72]
          by_cases q : c = rr t
          · rw [if_pos q, if_pos q, show c + 2 = v by omega]
            exact ⟨⟨fun _ => by simp, fun _ => rfl⟩, fun _ => by rw [ix_new c4]⟩
          · rw [if_neg q, if_neg q]
            obtain ⟨y1, y2⟩ := w7 c hc h3
            have ne : c + 2 ≠ v := by omega
            have me : c + 2 ∈ s ++ [v] ↔ c + 2 ∈ s := by simp [ne]
            rw [me]
            exact ⟨y1, fun m => by rw [ix_old m]; exact y2 m⟩
        · rw [v71]
          by_cases q : k = rr t
          · rw [if_pos q]; exact Int.le_refl _
          · rw [if_neg q]; exact w8 k
      rw [show ((rr t : Nat) : Int).toNat = rr t from rfl, ← e2]
      refine wr_put (e := 3 + (s.length : Int)) I2 W2 (by omega) ((congrFun k2.vl (rr t)).trans f66) (Or.inl ⟨c3, by rw [v72, if_pos rfl]⟩) (by omega) fun h3 k3 W3 => ?_
      exact fin h3 (K1.tr ((k2.wk (by decide) (by decide)).tr (k3.wk (by decide) (by decide)))) (by rw [cn]; exact W3)
    refine ev_icmpne 111 dX11_writesRow_63 (fun hb2 => ?_) (fun h_no => (by exfalso; omega))
    have a4 : v < 2 ∧ so = (v : Int) := by
      unfold lfc at a3
      by_cases k0 : so = 0
      · rw [if_pos k0] at a3
        have := Lean.Data.AC.Expr.var.inj a3
        omega
      · rw [if_neg k0, if_pos (by omega)] at a3
        have := Lean.Data.AC.Expr.var.inj a3
        omega
    have cn : cnT (.var v) s = ([(v : Int)], s) := by rw [cnT, if_pos a4.1]
    refine wr_put (e := (v : Int)) I1 W1 (by omega) f66 (Or.inr ⟨c3, a4.2⟩) (by omega) fun h2 k2 W2 => ?_
    exact fin h2 (K1.tr (k2.wk (by decide) (by decide))) (by rw [cn]; exact W2)
  | op a b iha ihb =>
    intro t st R s h v2 ht0 hT hK hW hst hR hs kk
    have hI : RI h := hK.ri hI0
    have hG' := hG.on hK
    have hN := hG.1
    obtain ⟨a1, a2, -⟩ := hG.2.2 t ht0
    obtain ⟨so2, ea, eb⟩ := GT_op hG.2.2 ht0 hT
    obtain ⟨f1, f2⟩ := hG.2.1.2.2 (rr t) a1 so2
    obtain ⟨x, hx⟩ : ∃ x : Nat, h0.vl 67 (rr t) = (x : Int) := ⟨(h0.vl 67 (rr t)).toNat, by omega⟩
    obtain ⟨y, hy⟩ : ∃ y : Nat, h0.vl 68 (rr t) = (y : Int) := ⟨(h0.vl 68 (rr t)).toNat, by omega⟩
    rw [hx] at f1 ea
    rw [hy] at f2 eb
    have ea : a = tr x := ea
    have eb : b = tr y := eb
    simp only [sz] at hR hst
    have sa := sz_pos a
    have sb' := sz_pos b
    refine wr_pop hI hG' ht0 hW (by omega) fun h1 k1 W1 => ?_
    have I1 : RI h1 := k1.ri hI
    have K1 : KP h0 h1 [71, 72, 74, 78] [50, 51, 59, 60] := hK.tr (k1.wk (by decide) (by decide))
    have f66 : h1.vl 66 (rr t) = 2 := by rw [K1.vl]; exact so2
    refine ev_aload_n dX11_writesRow_56 rfl ?_
    refine ev_getrv dX11_writesRow_57 fX11_83 I1.o I1.n rfl I1.v_sort ?_
    refine ev_iload_n dX11_writesRow_60 rfl ?_
    refine ev_ildv dX11_writesRow_61 I1.k_sort I1.n_sort rfl (by omega) (by omega) f66 ?_
    refine ev_iconst dX11_writesRow_62 ?_
    refine ev_icmpne 111 dX11_writesRow_63 (fun hb => ?_) (fun h_no => (by exfalso; omega))
    refine wr_put (e := 2) I1 W1 (by omega) f66 (Or.inr ⟨by decide, rfl⟩) (by omega) fun h2 k2 W2 => ?_
    obtain ⟨⟨w1, w2⟩, w3, ⟨w4, w5⟩, w6, w7, w8⟩ := id W2
    have I2 : RI h2 := k2.ri I1
    have K2 : KP h0 h2 [71, 72, 74, 78] [50, 51, 59, 60] := K1.tr (k2.wk (by decide) (by decide))
    have g66 : h2.vl 66 (rr t) = 2 := by rw [K2.vl]; exact so2
    have g67 : h2.vl 67 (rr t) = (x : Int) := by rw [K2.vl]; exact hx
    have g68 : h2.vl 68 (rr t) = (y : Int) := by rw [K2.vl]; exact hy
    refine ev_aload_n dX11_writesRow_155 rfl ?_
    refine ev_getrv dX11_writesRow_156 fX11_83 I2.o I2.n rfl I2.v_sort ?_
    refine ev_iload_n dX11_writesRow_159 rfl ?_
    refine ev_ildv dX11_writesRow_160 I2.k_sort I2.n_sort rfl (by omega) (by omega) g66 ?_
    refine ev_iconst dX11_writesRow_161 ?_
    refine ev_icmpeq 168 dX11_writesRow_162 (fun hb2 => ?_) (fun h_no => (by exfalso; omega))
    refine ev_aload_n dX11_writesRow_168 rfl ?_
    refine ev_getrv dX11_writesRow_169 fX11_107 I2.o I2.n rfl I2.v_stack ?_
    refine ev_aload_n dX11_writesRow_172 rfl ?_
    refine ev_getiv dX11_writesRow_173 fX11_220 I2.o I2.n rfl w1 ?_
    refine ev_aload_n dX11_writesRow_176 rfl ?_
    refine ev_getrv dX11_writesRow_177 fX11_89 I2.o I2.n rfl I2.v_to ?_
    refine ev_iload_n dX11_writesRow_180 rfl ?_
    refine ev_ildv dX11_writesRow_181 I2.k_to I2.n_to rfl (by omega) (by omega) g68 ?_
    refine ev_istr dX11_writesRow_182 I2.k_stack I2.n_stack rfl (by omega) (by omega) ?_
    rw [show ((st.length : Nat) : Int).toNat = st.length from rfl]
    obtain ⟨h3, e3⟩ : ∃ h3, h3 = h2.put 74 st.length (y : Int) := ⟨_, rfl⟩
    rw [← e3]
    have k3 : KP h2 h3 [74] [] := by rw [e3]; exact KP.rf.pr (by decide) (by decide)
    have I3 : RI h3 := k3.ri I2
    have g67' : h3.vl 67 (rr t) = (x : Int) := by rw [k3.vl]; exact g67
    have n3 : h3.vl 42 51 = (st.length : Int) := by rw [k3.fl]; exact w1
    refine ev_aload_n dX11_writesRow_183 rfl ?_
    refine ev_getrv dX11_writesRow_184 fX11_107 I3.o I3.n rfl I3.v_stack ?_
    refine ev_aload_n dX11_writesRow_187 rfl ?_
    refine ev_getiv dX11_writesRow_188 fX11_220 I3.o I3.n rfl n3 ?_
    refine ev_iconst dX11_writesRow_191 ?_
    refine ev_iadd dX11_writesRow_192 (by unfold ir; omega) ?_
    refine ev_aload_n dX11_writesRow_193 rfl ?_
    refine ev_getrv dX11_writesRow_194 fX11_86 I3.o I3.n rfl I3.v_from ?_
    refine ev_iload_n dX11_writesRow_197 rfl ?_
    refine ev_ildv dX11_writesRow_198 I3.k_from I3.n_from rfl (by omega) (by omega) g67' ?_
    refine ev_istr dX11_writesRow_199 I3.k_stack I3.n_stack rfl (by omega) (by omega) ?_
    rw [show ((st.length : Int) + 1).toNat = st.length + 1 from rfl]
    refine ev_aload_n dX11_writesRow_200 rfl ?_
    refine ev_dup dX11_writesRow_201 ?_
    refine ev_getiv dX11_writesRow_202 fX11_220 I3.o I3.n rfl n3 ?_
    refine ev_iconst dX11_writesRow_205 ?_
    refine ev_iadd dX11_writesRow_206 (by unfold ir; omega) ?_
    refine ev_pt dX11_writesRow_207 fX11_220 I3.o I3.n rfl ?_
    refine ev_gt 25 dX11_writesRow_210 ?_
    obtain ⟨h4, e4⟩ : ∃ h4, h4 = (h3.put 74 (st.length + 1) (x : Int)).put 42 51 ((st.length : Int) + 2) := ⟨_, rfl⟩
    rw [← e4]
    have k4 : KP h3 h4 [74] [51] := by rw [e4]; exact (KP.rf.pr (by decide) (by decide)).pf (by decide)
    have v74 : ∀ i, h4.vl 74 i = if i = st.length + 1 then (x : Int) else if i = st.length then (y : Int) else h2.vl 74 i := fun i => by
      rw [e4, AH.put_vl, if_neg (by omega), AH.put_vl]
      by_cases q : i = st.length + 1
      · rw [if_pos ⟨rfl, q⟩, if_pos q]
      · rw [if_neg (fun w => q w.2), if_neg q, e3, AH.put_vl]
        by_cases q2 : i = st.length
        · rw [if_pos ⟨rfl, q2⟩, if_pos q2]
        · rw [if_neg (fun w => q2 w.2), if_neg q2]
    have K4 : KP h0 h4 [71, 72, 74, 78] [50, 51, 59, 60] := K2.tr ((k3.wk (by decide) (by decide)).tr (k4.wk (by decide) (by decide)))
    have W4 : WrI h4 N (x :: y :: st) sp (R ++ [2]) s := by
      refine ⟨⟨by rw [e4]; show (st.length : Int) + 2 = ((st.length + 1 + 1 : Nat) : Int); omega, ?_, ?_, ?_⟩, by rw [k4.fl, k3.fl]; exact w3, ⟨by rw [k4.fl, k3.fl]; exact w4, by rw [k4.vl (r := 78), k3.vl (r := 78)]; exact w5⟩, by rw [k4.fl, k3.fl]; exact w6, by rw [k4.vl (r := 66), k4.vl (r := 71), k4.vl (r := 72), k3.vl (r := 66), k3.vl (r := 71), k3.vl (r := 72)]; exact w7, by rw [k4.vl (r := 71), k3.vl (r := 71)]; exact w8⟩
      · exact (v74 _).trans (if_pos rfl)
      · rw [v74, if_neg (by omega), if_pos rfl]
      · exact w2.lo fun i hi => by rw [v74, if_neg (by omega), if_neg (by omega)]
    have la := cn_len a s
    have le := cn_le a s
    refine iha x (y :: st) (R ++ [2]) s h4 _ (by omega) ea.symm K4 W4 (by rw [List.length_cons]; omega) (by rw [List.length_append]; show R.length + 1 + _ ≤ _; omega) (by rw [List.length_append]; omega) fun h5 v5 K5 W5 => ?_
    refine ihb y st (R ++ [2] ++ (cnT a s).1) (cnT a s).2 h5 v5 (by omega) eb.symm K5 W5 (by omega) (by rw [List.length_append, List.length_append, la]; show R.length + 1 + _ + _ ≤ _; omega) (by rw [List.length_append, List.length_append, la]; omega) fun h6 v6 K6 W6 => ?_
    refine kk h6 v6 K6 ?_
    rw [show R ++ [2] ++ (cnT a s).1 ++ (cnT b (cnT a s).2).1 = R ++ (cnT (.op a b) s).1 by rw [cnT]; simp] at W6
    exact W6
set_option maxRecDepth 100000 in
/-- a type written as a row: its row, its variables -/
theorem s_writesRow {h : AH} {N t : Nat} {rr : Nat → Nat} {tr : Nat → TE} (hI : RI h) (hG : GH h N rr tr) (hso : ∀ t, t < N → 0 ≤ h.vl 66 t ∧ h.vl 66 t ≤ 3) (ht0 : t < N) (hsz : sz (tr t) ≤ 200) (hst : ir (h.vl 42 50 + 1)) (hsn : ∀ k, h.vl 71 k ≤ h.vl 42 50) :
    CV mX11_writesRow 3 [rv 42, iv (t : Int)] h (on fun h1 => KP h h1 [71, 72, 74, 78] [50, 51, 59, 60] ∧ h1.vl 42 50 = h.vl 42 50 + 1 ∧ (∀ k, h1.vl 71 k ≤ h1.vl 42 50) ∧ h1.vl 42 59 = (sz (tr t) : Int) ∧ h1.vl 42 60 = ((cnT (tr t) []).2.length : Int) ∧ ∀ i (hi : i < (cnT (tr t) []).1.length), h1.vl 78 i = (cnT (tr t) []).1[i]) := by
  have hN := hG.1
  have hr := (hG.2.2 t ht0).1
  unfold ir at hst
  refine cv_of cdX11_writesRow ?_
  show EV _ _ 0 [rv 42, iv (t : Int), uv] [] h _
  refine ev_aload_n dX11_writesRow_0 rfl ?_
  refine ev_dup dX11_writesRow_1 ?_
  refine ev_geti dX11_writesRow_2 fX11_226 hI.o hI.n rfl ?_
  refine ev_iconst dX11_writesRow_5 ?_
  refine ev_iadd dX11_writesRow_6 (by unfold ir; omega) ?_
  refine ev_pt dX11_writesRow_7 fX11_226 hI.o hI.n rfl ?_
  refine ev_aload_n dX11_writesRow_10 rfl ?_
  refine ev_iconst dX11_writesRow_11 ?_
  refine ev_pt dX11_writesRow_12 fX11_262 hI.o hI.n rfl ?_
  refine ev_aload_n dX11_writesRow_15 rfl ?_
  refine ev_iconst dX11_writesRow_16 ?_
  refine ev_pt dX11_writesRow_17 fX11_265 hI.o hI.n rfl ?_
  obtain ⟨h1, e1⟩ : ∃ h1, h1 = ((h.put 42 50 (h.vl 42 50 + 1)).put 42 59 0).put 42 60 0 := ⟨_, rfl⟩
  rw [← e1]
  have k1 : KP h h1 [] [50, 59, 60] := by rw [e1]; exact ((KP.rf.pf (by decide)).pf (by decide)).pf (by decide)
  have I1 : RI h1 := k1.ri hI
  have G1 := hG.on k1
  have f50 : h1.vl 42 50 = h.vl 42 50 + 1 := by rw [e1]; rfl
  refine ev_aload_n dX11_writesRow_20 rfl ?_
  refine ev_iload_n dX11_writesRow_21 rfl ?_
  refine ev_cvv dX11_writesRow_22 lX11_229 (s_starts I1 hN G1.2.1 (by omega) (by omega)) (by decide) I1.o I1.n rfl rfl rfl (Nat.le_of_ble_eq_true rfl) rfl (fun h2 q => ?_)
  rw [show ((t : Nat) : Int).toNat = t from rfl] at q
  have k2 : KP h1 h2 [74] [51] := by rw [q]; exact (KP.rf.pr (by decide) (by decide)).pf (by decide)
  have K2 : KP h h2 [71, 72, 74, 78] [50, 51, 59, 60] := (k1.wk (by decide) (by decide)).tr (k2.wk (by decide) (by decide))
  have G2 := G1.on k2
  have s71 : ∀ k, h2.vl 71 k ≤ h.vl 42 50 := fun k => by rw [k2.vl, k1.vl]; exact hsn k
  have tt : tr (rr t) = tr t := hG.2.2.rr ht0
  refine wr_tree hI hG hso (tr t) (rr t) [] [] [] h2 _ hr tt K2 (sp := h.vl 42 50 + 1) ⟨⟨by rw [q]; rfl, by rw [q]; rfl, trivial⟩, by rw [k2.fl]; exact f50, ⟨by rw [k2.fl, e1]; rfl, fun i hi => absurd hi (Nat.not_lt_zero _)⟩, by rw [k2.fl, e1]; rfl, fun c hc h3 => ⟨⟨fun z => ?_, fun z => absurd z List.not_mem_nil⟩, fun z => absurd z List.not_mem_nil⟩, fun k => by have := s71 k; omega⟩ (by rw [List.length_nil]; omega) (by rw [List.length_nil]; omega) (Nat.le_refl _) fun h3 v3 K3 W3 => ?_
  · have := s71 c; omega
  obtain ⟨⟨w1, w2⟩, w3, ⟨w4, w5⟩, w6, w7, w8⟩ := W3
  have I3 : RI h3 := K3.ri hI
  have w1 : h3.vl 42 51 = 0 := w1
  rw [List.nil_append] at w4 w5
  refine ev_aload_n dX11_writesRow_25 rfl ?_
  refine ev_getiv dX11_writesRow_26 fX11_220 I3.o I3.n rfl w1 ?_
  refine ev_ifle 213 dX11_writesRow_29 (fun hb => ?_) (fun h_no => (by exfalso; omega))
  exact ev_vret dX11_writesRow_213 (⟨rfl, K3, w3, fun k => by rw [w3]; exact w8 k, by rw [w4, cn_len], w6, w5⟩)
