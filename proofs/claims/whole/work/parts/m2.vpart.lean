/-! the second way: functions, lets, applications -/
section VPt
variable {h0 : AH} {a0 K0 : Nat → Nat} {L : List Nd} {kp : Nat → Option TE} {tc : Nat} {h : AH} {a K : Nat → Nat} {nv : Nat} {G : Nat → TE} {Gn : Nat → Prop} {N e yl : Nat} {T : Nat → TE} {τ : Nat → Nat} {st : List (Nat × Int × Int)} {s x gz lz res : Int} {fv : Nat → Int} {Q1 : AH → Prop}
set_option maxRecDepth 100000 in
theorem gv_fun (q : AtV h0 a0 K0 L kp tc nv G Gn N T τ ((e, s, x) :: st) gz lz fv yl res h a K) (he : e < L.length) (hs : 0 ≤ s ∧ s ≤ 10) (hgz : 0 ≤ gz ∧ gz ≤ 1000) (h57 : TBL L 57 e = 4) (hm : ∀ h1, AtV h0 a0 K0 L kp tc nv G Gn N T τ ((e, s + 1, x) :: st) (gz + (if s = 0 then 1 else 0)) lz fv yl res h1 a K → CV mX0_goFunction 7 [rv 8, rv (tc : Int), iv (e : Int), iv s] h1 (on Q1)) : CV mX0_goOn 8 [rv 8, rv (tc : Int), rv 31, iv (e : Int)] h (on Q1) := by
  refine go_preV q he hs hgz (fun h1 q1 => ?_)
  have g1 := q1.1.g
  rw [h57]
  refine ev_tsI 134 (91) dX0_goOn_43 (by omega) (by omega) rfl ?_
  refine ev_aload_n dX0_goOn_134 rfl ?_
  refine ev_aload_n dX0_goOn_135 rfl ?_
  refine ev_iload_n dX0_goOn_136 rfl ?_
  refine ev_iload dX0_goOn_137 rfl ?_
  refine ev_cvv dX0_goOn_139 lX0_160 (hm h1 q1) (by decide) g1.1.k8 g1.1.n8 rfl rfl rfl (Nat.le_of_ble_eq_true rfl) rfl (fun h2 q2 => ?_)
  refine ev_gt 164 dX0_goOn_142 ?_
  exact ev_vret dX0_goOn_164 (⟨rfl, q2⟩)
set_option maxRecDepth 100000 in
theorem gv_let (q : AtV h0 a0 K0 L kp tc nv G Gn N T τ ((e, s, x) :: st) gz lz fv yl res h a K) (he : e < L.length) (hs : 0 ≤ s ∧ s ≤ 10) (hgz : 0 ≤ gz ∧ gz ≤ 1000) (h57 : TBL L 57 e = 5) (hm : ∀ h1, AtV h0 a0 K0 L kp tc nv G Gn N T τ ((e, s + 1, x) :: st) (gz + (if s = 0 then 1 else 0)) lz fv yl res h1 a K → CV mX0_goLet 7 [rv 8, rv (tc : Int), iv (e : Int), iv s] h1 (on Q1)) : CV mX0_goOn 8 [rv 8, rv (tc : Int), rv 31, iv (e : Int)] h (on Q1) := by
  refine go_preV q he hs hgz (fun h1 q1 => ?_)
  have g1 := q1.1.g
  rw [h57]
  refine ev_tsI 145 (102) dX0_goOn_43 (by omega) (by omega) rfl ?_
  refine ev_aload_n dX0_goOn_145 rfl ?_
  refine ev_aload_n dX0_goOn_146 rfl ?_
  refine ev_iload_n dX0_goOn_147 rfl ?_
  refine ev_iload dX0_goOn_148 rfl ?_
  refine ev_cvv dX0_goOn_150 lX0_163 (hm h1 q1) (by decide) g1.1.k8 g1.1.n8 rfl rfl rfl (Nat.le_of_ble_eq_true rfl) rfl (fun h2 q2 => ?_)
  refine ev_gt 164 dX0_goOn_153 ?_
  exact ev_vret dX0_goOn_164 (⟨rfl, q2⟩)
set_option maxRecDepth 100000 in
theorem gv_app (q : AtV h0 a0 K0 L kp tc nv G Gn N T τ ((e, s, x) :: st) gz lz fv yl res h a K) (he : e < L.length) (hs : 0 ≤ s ∧ s ≤ 10) (hgz : 0 ≤ gz ∧ gz ≤ 1000) (h57 : TBL L 57 e = 6) (hm : ∀ h1, AtV h0 a0 K0 L kp tc nv G Gn N T τ ((e, s + 1, x) :: st) (gz + (if s = 0 then 1 else 0)) lz fv yl res h1 a K → CV mX0_goApplication 7 [rv 8, rv (tc : Int), iv (e : Int), iv s] h1 (on Q1)) : CV mX0_goOn 8 [rv 8, rv (tc : Int), rv 31, iv (e : Int)] h (on Q1) := by
  refine go_preV q he hs hgz (fun h1 q1 => ?_)
  have g1 := q1.1.g
  rw [h57]
  refine ev_tsO 156 dX0_goOn_43 (Or.inr (by omega)) ?_
  refine ev_aload_n dX0_goOn_156 rfl ?_
  refine ev_aload_n dX0_goOn_157 rfl ?_
  refine ev_iload_n dX0_goOn_158 rfl ?_
  refine ev_iload dX0_goOn_159 rfl ?_
  refine ev_cvv dX0_goOn_161 lX0_166 (hm h1 q1) (by decide) g1.1.k8 g1.1.n8 rfl rfl rfl (Nat.le_of_ble_eq_true rfl) rfl (fun h2 q2 => ?_)
  exact ev_vret dX0_goOn_164 (⟨rfl, q2⟩)
set_option maxRecDepth 100000 in
theorem s_funV0 (q : AtV h0 a0 K0 L kp tc nv G Gn N T τ ((e, s, x) :: st) gz lz fv yl res h a K) (hN : N ≤ 40000) (he : e < L.length) (hL : L.length ≤ 120) (hst : st.length < 119) (hS2 : 2 ≤ nv) (hfe : TBL L 59 e = (fstN L e : Int)) : CV mX0_goFunction 7 [rv 8, rv (tc : Int), iv (e : Int), iv 0] h (on fun h1 => ∃ a1 K1 T1 τ1 yl1 fv1, AtV h0 a0 K0 L kp tc (nv + 1) (upT G e (.var nv)) (fun k => Gn k ∨ k = e) (N + 1) T1 τ1 ((fstN L e, 0, -1) :: (e, s, x) :: st) gz lz fv1 yl1 res h1 a1 K1 ∧ yl1 ≤ yl + 1 ∧ ∀ c, c < N → T1 c = T c) := by
  have g := q.1.g
  have hs := q.2.1
  have v0 := g.1.v8_0
  have v3 := g.1.v8_3
  refine cv_of cdX0_goFunction ?_
  show EV _ _ 0 [rv 8, rv (tc : Int), iv (e : Int), iv 0] [] h _
  refine ev_iload_n dX0_goFunction_0 rfl ?_
  refine ev_ifne 37 dX0_goFunction_1 (fun h_no => (by exfalso; omega)) (fun hb => ?_)
  refine ev_aload_n dX0_goFunction_4 rfl ?_
  refine ev_getrv dX0_goFunction_5 fX0_29 g.1.k8 g.1.n8 rfl v3 ?_
  refine ev_iload_n dX0_goFunction_8 rfl ?_
  refine ev_aload_n dX0_goFunction_9 rfl ?_
  refine ev_getrv dX0_goFunction_10 fX0_12 g.1.k8 g.1.n8 rfl v0 ?_
  refine ev_iconst dX0_goFunction_13 ?_
  refine ev_iconst dX0_goFunction_14 ?_
  refine ev_cvi dX0_goFunction_15 lX0_122 (s_addT g hs.1.2.1 (by omega)) (by decide) g.1.k9 g.1.n9 rfl rfl rfl (Nat.le_of_ble_eq_true rfl) rfl (fun r h1 q9 => ?_)
  obtain ⟨rfl, y1⟩ := q9
  obtain ⟨τ1, u1⟩ := hs.1.var (nm := nv) (nv' := nv + 1) ⟨Nat.le_refl _, hS2, Nat.lt_succ_self _⟩ y1
  obtain ⟨a1, K1, yl1, q1, n1, t1⟩ := q.gx u1
  have g1 := q1.1.g
  refine ev_csv dX0_goFunction_18 lX0_169 (s_putI g1.1.k24 g1.1.n24 (by decide)) (by decide) rfl rfl (Nat.le_of_ble_eq_true rfl) rfl (fun h2 q2 => ?_)
  rw [if_pos (by omega), show ((e : Nat) : Int).toNat = e from rfl] at q2
  have q3 := q1.gn (e := e) (c := N) (X := .var nv) (by omega) upT_s (by omega) q2
  have g2 := q3.1.g
  have w1 := g2.1.v8_1
  have hT2 := q3.1.2.2.2.1.l
  refine ev_aload_n dX0_goFunction_21 rfl ?_
  refine ev_getrv dX0_goFunction_22 fX0_21 g2.1.k8 g2.1.n8 rfl w1 ?_
  refine ev_aload_n dX0_goFunction_25 rfl ?_
  refine ev_iconst dX0_goFunction_26 ?_
  refine ev_iload_n dX0_goFunction_27 rfl ?_
  refine ev_cvi dX0_goFunction_28 lX0_137 (s_ofL (k := 2) hT2 (by decide) he) (by decide) hT2.t.o.1.1 hT2.t.o.1.2 rfl rfl rfl (Nat.le_of_ble_eq_true rfl) rfl (fun r z q9 => ?_)
  obtain ⟨r1, eq⟩ := q9
  rw [r1, eq, show TBL L (colC 2) e = TBL L 59 e from rfl, hfe]
  refine ev_cvv dX0_goFunction_31 lX0_112 (s_enter (n := fstN L e) g2 q3.2.2.1 (by rw [List.length_cons]; omega)) (by decide) g2.1.k19 g2.1.n19 rfl rfl rfl (Nat.le_of_ble_eq_true rfl) rfl (fun h3 q4 => ?_)
  obtain ⟨c3, p3⟩ := q4
  refine ev_gt 61 dX0_goFunction_34 ?_
  exact ev_vret dX0_goFunction_61 (⟨rfl, a1, K1, _, τ1, yl1, fv, q3.pt c3 p3, by omega, t1⟩)
set_option maxRecDepth 100000 in
theorem s_funV1 {c1 : Nat} (q : AtV h0 a0 K0 L kp tc nv G Gn N T τ ((e, s, x) :: st) gz lz fv yl (c1 : Int) h a K) (hN : N ≤ 40000) (he : e < L.length) (hL : L.length ≤ 120) (hG : Gn e) (hc1 : c1 < N) {sg : Int} (hsg : sg ≠ 0) : CV mX0_goFunction 7 [rv 8, rv (tc : Int), iv (e : Int), iv sg] h (on (EnV h0 a0 K0 L kp tc nv G Gn st gz lz yl N 1 T (.op (G e) (T c1)))) := by
  have g := q.1.g
  have hs := q.2.1
  have v0 := g.1.v8_0
  have v3 := g.1.v8_3
  have r8 := q.2.2.2.2.2.2.2
  obtain ⟨e9, cg, d1, d2, d3⟩ := hs.2.2 e hG
  refine cv_of cdX0_goFunction ?_
  show EV _ _ 0 [rv 8, rv (tc : Int), iv (e : Int), iv sg] [] h _
  refine ev_iload_n dX0_goFunction_0 rfl ?_
  refine ev_ifne 37 dX0_goFunction_1 (fun hb => ?_) (fun h_no => (by exfalso; omega))
  refine ev_aload_n dX0_goFunction_37 rfl ?_
  refine ev_iload_n dX0_goFunction_38 rfl ?_
  refine ev_aload_n dX0_goFunction_39 rfl ?_
  refine ev_getrv dX0_goFunction_40 fX0_12 g.1.k8 g.1.n8 rfl v0 ?_
  refine ev_aload_n dX0_goFunction_43 rfl ?_
  refine ev_getrv dX0_goFunction_44 fX0_29 g.1.k8 g.1.n8 rfl v3 ?_
  refine ev_iload_n dX0_goFunction_47 rfl ?_
  refine ev_csi dX0_goFunction_48 lX0_81 (s_atI g.1.k24 g.1.n24 (by decide)) (by decide) rfl rfl (Nat.le_of_ble_eq_true rfl) rfl (fun r z q9 => ?_)
  obtain ⟨r1, eq⟩ := q9
  rw [r1, eq, if_pos (by omega), show ((e : Nat) : Int).toNat = e from rfl, d2]
  refine ev_aload_n dX0_goFunction_51 rfl ?_
  refine ev_getiv dX0_goFunction_52 fX0_115 g.1.k8 g.1.n8 rfl r8 ?_
  refine ev_cvi dX0_goFunction_55 lX0_122 (s_addT g hs.1.2.1 (by omega)) (by decide) g.1.k9 g.1.n9 rfl rfl rfl (Nat.le_of_ble_eq_true rfl) rfl (fun r h1 q9 => ?_)
  obtain ⟨rfl, y1⟩ := q9
  obtain ⟨τ1, u1⟩ := hs.1.arr (x := cg) (y := c1) d1 hc1 y1
  obtain ⟨a1, K1, yl1, q1, n1, t1⟩ := q.gx u1
  have g1 := q1.1.g
  refine ev_cvv dX0_goFunction_58 lX0_154 (s_endE (N' := N) (yl' := yl) (b := 1) (T' := T) q1 (by omega) (Nat.lt_succ_self _) (upT_s.trans (by rw [d3])) ⟨n1.1, Nat.le_refl _, n1.2⟩ t1) (by decide) g1.1.k8 g1.1.n8 rfl rfl rfl (Nat.le_of_ble_eq_true rfl) rfl (fun h2 q2 => ?_)
  exact ev_vret dX0_goFunction_61 (⟨rfl, q2⟩)
set_option maxRecDepth 100000 in
theorem s_letV0 (q : AtV h0 a0 K0 L kp tc nv G Gn N T τ ((e, s, x) :: st) gz lz fv yl res h a K) (he : e < L.length) (hst : st.length < 119) (hfe : TBL L 59 e = (fstN L e : Int)) : CV mX0_goLet 7 [rv 8, rv (tc : Int), iv (e : Int), iv 0] h (on fun h1 => AtV h0 a0 K0 L kp tc nv G Gn N T τ ((fstN L e, 0, -1) :: (e, s, x) :: st) gz lz fv yl res h1 a K) := by
  have g := q.1.g
  have w1 := g.1.v8_1
  have hT2 := q.1.2.2.2.1.l
  refine cv_of cdX0_goLet ?_
  show EV _ _ 0 [rv 8, rv (tc : Int), iv (e : Int), iv 0, uv, uv] [] h _
  refine ev_iload_n dX0_goLet_0 rfl ?_
  refine ev_ifne 20 dX0_goLet_1 (fun h_no => (by exfalso; omega)) (fun hb => ?_)
  refine ev_aload_n dX0_goLet_4 rfl ?_
  refine ev_getrv dX0_goLet_5 fX0_21 g.1.k8 g.1.n8 rfl w1 ?_
  refine ev_aload_n dX0_goLet_8 rfl ?_
  refine ev_iconst dX0_goLet_9 ?_
  refine ev_iload_n dX0_goLet_10 rfl ?_
  refine ev_cvi dX0_goLet_11 lX0_137 (s_ofL (k := 2) hT2 (by decide) he) (by decide) hT2.t.o.1.1 hT2.t.o.1.2 rfl rfl rfl (Nat.le_of_ble_eq_true rfl) rfl (fun r z q9 => ?_)
  obtain ⟨r1, eq⟩ := q9
  rw [r1, eq, show TBL L (colC 2) e = TBL L 59 e from rfl, hfe]
  refine ev_cvv dX0_goLet_14 lX0_112 (s_enter (n := fstN L e) g q.2.2.1 (by rw [List.length_cons]; omega)) (by decide) g.1.k19 g.1.n19 rfl rfl rfl (Nat.le_of_ble_eq_true rfl) rfl (fun h3 q3 => ?_)
  obtain ⟨c3, p3⟩ := q3
  refine ev_gt 204 dX0_goLet_17 ?_
  exact ev_vret dX0_goLet_204 (⟨rfl, q.pt c3 p3⟩)
set_option maxRecDepth 100000 in
theorem s_letV1 (q : AtV h0 a0 K0 L kp tc nv G Gn N T τ ((e, s, x) :: st) gz lz fv yl res h a K) (he : e < L.length) (hst : st.length < 119) (hse : TBL L 60 e = (sndN L e : Int)) : CV mX0_goLet 7 [rv 8, rv (tc : Int), iv (e : Int), iv 1] h (on fun h1 => AtV h0 a0 K0 L kp tc nv G Gn N T τ ((sndN L e, 0, -1) :: (e, s, x) :: st) gz lz fv yl res h1 a K) := by
  have g := q.1.g
  have w1 := g.1.v8_1
  have f7 := q.1.2.2.2.2.2
  have hT2 := q.1.2.2.2.1.l
  refine cv_of cdX0_goLet ?_
  show EV _ _ 0 [rv 8, rv (tc : Int), iv (e : Int), iv 1, uv, uv] [] h _
  refine ev_iload_n dX0_goLet_0 rfl ?_
  refine ev_ifne 20 dX0_goLet_1 (fun hb => ?_) (fun h_no => (by exfalso; omega))
  refine ev_iload_n dX0_goLet_20 rfl ?_
  refine ev_iconst dX0_goLet_21 ?_
  refine ev_icmpne 37 dX0_goLet_22 (fun hb2 => ?_) (fun h_no => (by exfalso; omega))
  refine ev_aload_n dX0_goLet_37 rfl ?_
  refine ev_getiv dX0_goLet_38 fX0_77 g.1.k8 g.1.n8 rfl f7 ?_
  refine ev_ifeq 60 dX0_goLet_41 (fun h_no => (by exfalso; omega)) (fun hb3 => ?_)
  refine ev_aload_n dX0_goLet_44 rfl ?_
  refine ev_getrv dX0_goLet_45 fX0_21 g.1.k8 g.1.n8 rfl w1 ?_
  refine ev_aload_n dX0_goLet_48 rfl ?_
  refine ev_iconst dX0_goLet_49 ?_
  refine ev_iload_n dX0_goLet_50 rfl ?_
  refine ev_cvi dX0_goLet_51 lX0_137 (s_ofL (k := 3) hT2 (by decide) he) (by decide) hT2.t.o.1.1 hT2.t.o.1.2 rfl rfl rfl (Nat.le_of_ble_eq_true rfl) rfl (fun r z q9 => ?_)
  obtain ⟨r1, eq⟩ := q9
  rw [r1, eq, show TBL L (colC 3) e = TBL L 60 e from rfl, hse]
  refine ev_cvv dX0_goLet_54 lX0_112 (s_enter (n := sndN L e) g q.2.2.1 (by rw [List.length_cons]; omega)) (by decide) g.1.k19 g.1.n19 rfl rfl rfl (Nat.le_of_ble_eq_true rfl) rfl (fun h3 q3 => ?_)
  obtain ⟨c3, p3⟩ := q3
  refine ev_gt 204 dX0_goLet_57 ?_
  exact ev_vret dX0_goLet_204 (⟨rfl, q.pt c3 p3⟩)
set_option maxRecDepth 100000 in
theorem s_letV2 {c1 : Nat} (q : AtV h0 a0 K0 L kp tc nv G Gn N T τ ((e, s, x) :: st) gz lz fv yl (c1 : Int) h a K) (he : e < L.length) (hL : L.length ≤ 120) (hc1 : c1 < N) : CV mX0_goLet 7 [rv 8, rv (tc : Int), iv (e : Int), iv 2] h (on (EnV h0 a0 K0 L kp tc nv G Gn st gz lz yl N 0 T (T c1))) := by
  have g := q.1.g
  have hr := q.2.2.2.2.2.2.2
  refine cv_of cdX0_goLet ?_
  show EV _ _ 0 [rv 8, rv (tc : Int), iv (e : Int), iv 2, uv, uv] [] h _
  refine ev_iload_n dX0_goLet_0 rfl ?_
  refine ev_ifne 20 dX0_goLet_1 (fun hb => ?_) (fun h_no => (by exfalso; omega))
  refine ev_iload_n dX0_goLet_20 rfl ?_
  refine ev_iconst dX0_goLet_21 ?_
  refine ev_icmpne 37 dX0_goLet_22 (fun h_no => (by exfalso; omega)) (fun hb2 => ?_)
  refine ev_aload_n dX0_goLet_25 rfl ?_
  refine ev_iload_n dX0_goLet_26 rfl ?_
  refine ev_aload_n dX0_goLet_27 rfl ?_
  refine ev_getiv dX0_goLet_28 fX0_115 g.1.k8 g.1.n8 rfl hr ?_
  refine ev_cvv dX0_goLet_31 lX0_154 (s_endE (b := 0) (N' := N) (yl' := yl) (T' := T) q (by omega) hc1 rfl ⟨Nat.le_refl _, Nat.le_refl _, Nat.le_refl _⟩ (fun _ _ => rfl)) (by decide) g.1.k8 g.1.n8 rfl rfl rfl (Nat.le_of_ble_eq_true rfl) rfl (fun h2 q2 => ?_)
  refine ev_gt 204 dX0_goLet_34 ?_
  exact ev_vret dX0_goLet_204 (⟨rfl, q2⟩)
set_option maxRecDepth 100000 in
theorem s_appV0 (q : AtV h0 a0 K0 L kp tc nv G Gn N T τ ((e, s, x) :: st) gz lz fv yl res h a K) (he : e < L.length) (hst : st.length < 119) (hfe : TBL L 59 e = (fstN L e : Int)) : CV mX0_goApplication 7 [rv 8, rv (tc : Int), iv (e : Int), iv 0] h (on fun h1 => AtV h0 a0 K0 L kp tc nv G Gn N T τ ((fstN L e, 0, -1) :: (e, s, x) :: st) gz lz fv yl res h1 a K) := by
  have g := q.1.g
  have w1 := g.1.v8_1
  have hT2 := q.1.2.2.2.1.l
  refine cv_of cdX0_goApplication ?_
  show EV _ _ 0 [rv 8, rv (tc : Int), iv (e : Int), iv 0, uv] [] h _
  refine ev_iload_n dX0_goApplication_0 rfl ?_
  refine ev_tsI 28 (27) dX0_goApplication_1 (by omega) (by omega) rfl ?_
  refine ev_aload_n dX0_goApplication_28 rfl ?_
  refine ev_getrv dX0_goApplication_29 fX0_21 g.1.k8 g.1.n8 rfl w1 ?_
  refine ev_aload_n dX0_goApplication_32 rfl ?_
  refine ev_iconst dX0_goApplication_33 ?_
  refine ev_iload_n dX0_goApplication_34 rfl ?_
  refine ev_cvi dX0_goApplication_35 lX0_137 (s_ofL (k := 2) hT2 (by decide) he) (by decide) hT2.t.o.1.1 hT2.t.o.1.2 rfl rfl rfl (Nat.le_of_ble_eq_true rfl) rfl (fun r z q9 => ?_)
  obtain ⟨r1, eq⟩ := q9
  rw [r1, eq, show TBL L (colC 2) e = TBL L 59 e from rfl, hfe]
  refine ev_cvv dX0_goApplication_38 lX0_112 (s_enter (n := fstN L e) g q.2.2.1 (by rw [List.length_cons]; omega)) (by decide) g.1.k19 g.1.n19 rfl rfl rfl (Nat.le_of_ble_eq_true rfl) rfl (fun h3 q3 => ?_)
  obtain ⟨c3, p3⟩ := q3
  refine ev_gt 234 dX0_goApplication_41 ?_
  exact ev_vret dX0_goApplication_234 (⟨rfl, q.pt c3 p3⟩)
set_option maxRecDepth 100000 in
theorem s_appV1 (q : AtV h0 a0 K0 L kp tc nv G Gn N T τ ((e, s, x) :: st) gz lz fv yl res h a K) (he : e < L.length) (hst : st.length < 119) (hse : TBL L 60 e = (sndN L e : Int)) : CV mX0_goApplication 7 [rv 8, rv (tc : Int), iv (e : Int), iv 1] h (on fun h1 => AtV h0 a0 K0 L kp tc nv G Gn N T τ ((sndN L e, 0, -1) :: (e, s, res) :: st) gz lz fv yl res h1 a K) := by
  have g := q.1.g
  have w1 := g.1.v8_1
  have hr := q.2.2.2.2.2.2.2
  refine cv_of cdX0_goApplication ?_
  show EV _ _ 0 [rv 8, rv (tc : Int), iv (e : Int), iv 1, uv] [] h _
  refine ev_iload_n dX0_goApplication_0 rfl ?_
  refine ev_tsI 44 (43) dX0_goApplication_1 (by omega) (by omega) rfl ?_
  refine ev_aload_n dX0_goApplication_44 rfl ?_
  refine ev_getrv dX0_goApplication_45 fX0_21 g.1.k8 g.1.n8 rfl w1 ?_
  refine ev_aload_n dX0_goApplication_48 rfl ?_
  refine ev_getiv dX0_goApplication_49 fX0_115 g.1.k8 g.1.n8 rfl hr ?_
  refine ev_cvv dX0_goApplication_52 lX0_190 (s_hold (y := res) g q.2.2.1) (by decide) g.1.k19 g.1.n19 rfl rfl rfl (Nat.le_of_ble_eq_true rfl) rfl (fun h1 q1 => ?_)
  obtain ⟨c1, p1⟩ := q1
  have q2 := q.pt c1 p1
  have g1 := c1.1
  have w1' := g1.1.v8_1
  have hT2 := q2.1.2.2.2.1.l
  refine ev_aload_n dX0_goApplication_55 rfl ?_
  refine ev_getrv dX0_goApplication_56 fX0_21 g1.1.k8 g1.1.n8 rfl w1' ?_
  refine ev_aload_n dX0_goApplication_59 rfl ?_
  refine ev_iconst dX0_goApplication_60 ?_
  refine ev_iload_n dX0_goApplication_61 rfl ?_
  refine ev_cvi dX0_goApplication_62 lX0_137 (s_ofL (k := 3) hT2 (by decide) he) (by decide) hT2.t.o.1.1 hT2.t.o.1.2 rfl rfl rfl (Nat.le_of_ble_eq_true rfl) rfl (fun r z q9 => ?_)
  obtain ⟨r1, eq⟩ := q9
  rw [r1, eq, show TBL L (colC 3) e = TBL L 60 e from rfl, hse]
  refine ev_cvv dX0_goApplication_65 lX0_112 (s_enter (n := sndN L e) g1 p1 (by rw [List.length_cons]; omega)) (by decide) g1.1.k19 g1.1.n19 rfl rfl rfl (Nat.le_of_ble_eq_true rfl) rfl (fun h3 q3 => ?_)
  obtain ⟨c3, p3⟩ := q3
  refine ev_gt 234 dX0_goApplication_68 ?_
  exact ev_vret dX0_goApplication_234 (⟨rfl, q2.pt c3 p3⟩)
/-- a pair is to fit: x and y -/
def PrV (h0 : AH) (a0 K0 : Nat → Nat) (L : List Nd) (kp : Nat → Option TE) (tc : Nat) (nv : Nat) (G : Nat → TE) (Gn : Nat → Prop) (N : Nat) (T : Nat → TE) (τ : Nat → Nat) (st : List (Nat × Int × Int)) (gz lz : Int) (fv : Nat → Int) (yl : Nat) (res : Int) (x y : Nat) (h1 : AH) : Prop := ∃ h a K a1 K1, AtV h0 a0 K0 L kp tc nv G Gn N T τ st gz lz fv yl res h a K ∧ YC h a K h1 a1 K1 [6, 7, 8] [9] ∧ YPs h1 a1 K1 [(x, y, false)] ∧ (∀ k, k < 6 ∨ 8 < k → K1 k = K k)
set_option maxRecDepth 100000 in
theorem s_appV2 {c1 c2 : Nat} (q : AtV h0 a0 K0 L kp tc nv G Gn N T τ ((e, s, (c1 : Int)) :: st) gz lz fv yl (c2 : Int) h a K) (hN : N ≤ 40000) (he : e < L.length) (hL : L.length ≤ 120) (hS2 : 2 ≤ nv) (hc1 : c1 < N) (hc2 : c2 < N) :
    CV mX0_goApplication 7 [rv 8, rv (tc : Int), iv (e : Int), iv 2] h (on fun h1 => ∃ T1 τ1 yl1 fv1, PrV h0 a0 K0 L kp tc (nv + 1) G Gn (N + 2) T1 τ1 ((e, s, (c1 : Int)) :: st) gz lz fv1 yl1 (c2 : Int) c1 (N + 1) h1 ∧ fv1 e = (N : Int) ∧ yl1 ≤ yl + 2 ∧ T1 c1 = T c1 ∧ T1 (N + 1) = .op (T c2) (.var nv) ∧ T1 N = .var nv ∧ ∀ c, c < N → T1 c = T c) := by
  have g := q.1.g
  have v0 := g.1.v8_0
  have w1 := g.1.v8_1
  have v2 := g.1.v8_2
  have f7 := q.1.2.2.2.2.2
  refine cv_of cdX0_goApplication ?_
  show EV _ _ 0 [rv 8, rv (tc : Int), iv (e : Int), iv 2, uv] [] h _
  refine ev_iload_n dX0_goApplication_0 rfl ?_
  refine ev_tsI 71 (70) dX0_goApplication_1 (by omega) (by omega) rfl ?_
  refine ev_aload_n dX0_goApplication_71 rfl ?_
  refine ev_getiv dX0_goApplication_72 fX0_77 g.1.k8 g.1.n8 rfl f7 ?_
  refine ev_ifeq 82 dX0_goApplication_75 (fun h_no => (by exfalso; omega)) (fun hb => ?_)
  refine ev_iconst dX0_goApplication_78 ?_
  refine ev_gt 110 dX0_goApplication_79 ?_
  refine ev_ist4 dX0_goApplication_110 ?_
  refine ev_iload dX0_goApplication_112 rfl ?_
  refine ev_sipush dX0_goApplication_114 ?_
  refine ev_icmple 130 dX0_goApplication_117 (fun hb2 => ?_) (fun h_no => (by exfalso; omega))
  refine ev_aload_n dX0_goApplication_130 rfl ?_
  refine ev_getrv dX0_goApplication_131 fX0_25 g.1.k8 g.1.n8 rfl v2 ?_
  refine ev_iload_n dX0_goApplication_134 rfl ?_
  refine ev_aload_n dX0_goApplication_135 rfl ?_
  refine ev_getrv dX0_goApplication_136 fX0_12 g.1.k8 g.1.n8 rfl v0 ?_
  refine ev_iconst dX0_goApplication_139 ?_
  refine ev_iconst dX0_goApplication_140 ?_
  refine ev_cvi dX0_goApplication_141 lX0_122 (s_addT g q.2.1.1.2.1 (by omega)) (by decide) g.1.k9 g.1.n9 rfl rfl rfl (Nat.le_of_ble_eq_true rfl) rfl (fun r h3 q9 => ?_)
  obtain ⟨rfl, y3⟩ := q9
  obtain ⟨τ3, u3⟩ := q.2.1.1.var (nm := nv) (nv' := nv + 1) ⟨Nat.le_refl _, hS2, Nat.lt_succ_self _⟩ y3
  obtain ⟨a3, K3, yl3, q3, n3, t3⟩ := q.gx u3
  have g3 := q3.1.g
  refine ev_csv dX0_goApplication_144 lX0_169 (s_putI g3.1.k23 g3.1.n23 (by decide)) (by decide) rfl rfl (Nat.le_of_ble_eq_true rfl) rfl (fun h4 e4 => ?_)
  rw [if_pos (by omega), show ((e : Nat) : Int).toNat = e from rfl] at e4
  obtain ⟨q4, v4⟩ := q3.fnd e4
  have g4 := q4.1.g
  have v04 := g4.1.v8_0
  have w14 := g4.1.v8_1
  have v24 := g4.1.v8_2
  have r4 := q4.2.2.2.2.2.2.2
  refine ev_aload_n dX0_goApplication_147 rfl ?_
  refine ev_getrv dX0_goApplication_148 fX0_12 g4.1.k8 g4.1.n8 rfl v04 ?_
  refine ev_aload_n dX0_goApplication_151 rfl ?_
  refine ev_getrv dX0_goApplication_152 fX0_21 g4.1.k8 g4.1.n8 rfl w14 ?_
  refine ev_cvi dX0_goApplication_155 lX0_193 (s_holding g4 q4.2.2.1) (by decide) g4.1.k19 g4.1.n19 rfl rfl rfl (Nat.le_of_ble_eq_true rfl) rfl (fun r z q9 => ?_)
  obtain ⟨r1, eq⟩ := q9
  rw [r1, eq]
  refine ev_aload_n dX0_goApplication_158 rfl ?_
  refine ev_getrv dX0_goApplication_159 fX0_12 g4.1.k8 g4.1.n8 rfl v04 ?_
  refine ev_aload_n dX0_goApplication_162 rfl ?_
  refine ev_getiv dX0_goApplication_163 fX0_115 g4.1.k8 g4.1.n8 rfl r4 ?_
  refine ev_aload_n dX0_goApplication_166 rfl ?_
  refine ev_getrv dX0_goApplication_167 fX0_25 g4.1.k8 g4.1.n8 rfl v24 ?_
  refine ev_iload_n dX0_goApplication_170 rfl ?_
  refine ev_csi dX0_goApplication_171 lX0_81 (s_atI g4.1.k23 g4.1.n23 (by decide)) (by decide) rfl rfl (Nat.le_of_ble_eq_true rfl) rfl (fun r z q9 => ?_)
  obtain ⟨r1, eq⟩ := q9
  rw [r1, eq, if_pos (by omega), show ((e : Nat) : Int).toNat = e from rfl, v4]
  refine ev_cvi dX0_goApplication_174 lX0_122 (s_addT g4 q4.2.1.1.2.1 (by omega)) (by decide) g4.1.k9 g4.1.n9 rfl rfl rfl (Nat.le_of_ble_eq_true rfl) rfl (fun r h5 q9 => ?_)
  obtain ⟨rfl, y5⟩ := q9
  obtain ⟨τ5, u5⟩ := q4.2.1.1.arr (x := c2) (y := N) (by omega) (by omega) y5
  obtain ⟨a5, K5, yl5, q5, n5, t5⟩ := q4.gx u5
  have g5 := q5.1.g
  refine ev_iconst dX0_goApplication_177 ?_
  refine ev_cvv dX0_goApplication_178 lX0_130 (s_addPair (x := c1) (y := N + 1) (j := false) (st := []) g5 q5.2.1.2.1 (Nat.zero_le _)) (by decide) g5.1.k9 g5.1.n9 rfl rfl rfl (Nat.le_of_ble_eq_true rfl) rfl (fun h6 q6 => ?_)
  obtain ⟨a6, K6, d6, p6, k6, -⟩ := q6
  refine ev_gt 234 dX0_goApplication_181 ?_
  refine ev_vret dX0_goApplication_234 (⟨rfl, _, τ5, yl5, _, ⟨h5, a5, K5, a6, K6, q5, d6, p6, k6⟩, v4, by omega, ?_, ?_, ?_, fun c hc => ?_⟩)
  · rw [t5 c1 (by omega), t3 c1 hc1]
  · rw [upT_s, t3 c2 hc2, upT_s]
  · rw [t5 N (by omega), upT_s]
  · rw [t5 c (by omega), t3 c hc]
set_option maxRecDepth 100000 in
theorem s_appV3 {cf : Nat} (q : AtV h0 a0 K0 L kp tc nv G Gn N T τ ((e, s, x) :: st) gz lz fv yl res h a K) (he : e < L.length) (hL : L.length ≤ 120) (hf : fv e = (cf : Int)) (hc : cf < N) : CV mX0_goApplication 7 [rv 8, rv (tc : Int), iv (e : Int), iv 3] h (on (EnV h0 a0 K0 L kp tc nv G Gn st gz lz yl N 0 T (T cf))) := by
  have g := q.1.g
  have v2 := g.1.v8_2
  have f7 := q.1.2.2.2.2.2
  have hv := q.2.2.2.2.2.1
  refine cv_of cdX0_goApplication ?_
  show EV _ _ 0 [rv 8, rv (tc : Int), iv (e : Int), iv 3, uv] [] h _
  refine ev_iload_n dX0_goApplication_0 rfl ?_
  refine ev_tsO 184 dX0_goApplication_1 (Or.inr (by omega)) ?_
  refine ev_aload_n dX0_goApplication_184 rfl ?_
  refine ev_getiv dX0_goApplication_185 fX0_77 g.1.k8 g.1.n8 rfl f7 ?_
  refine ev_ifne 221 dX0_goApplication_188 (fun hb => ?_) (fun h_no => (by exfalso; omega))
  refine ev_aload_n dX0_goApplication_221 rfl ?_
  refine ev_iload_n dX0_goApplication_222 rfl ?_
  refine ev_aload_n dX0_goApplication_223 rfl ?_
  refine ev_getrv dX0_goApplication_224 fX0_25 g.1.k8 g.1.n8 rfl v2 ?_
  refine ev_iload_n dX0_goApplication_227 rfl ?_
  refine ev_csi dX0_goApplication_228 lX0_81 (s_atI g.1.k23 g.1.n23 (by decide)) (by decide) rfl rfl (Nat.le_of_ble_eq_true rfl) rfl (fun r z q9 => ?_)
  obtain ⟨r1, eq⟩ := q9
  rw [r1, eq, if_pos (by omega), show ((e : Nat) : Int).toNat = e from rfl, hv, hf]
  refine ev_cvv dX0_goApplication_231 lX0_154 (s_endE (b := 0) (N' := N) (yl' := yl) (T' := T) q (by omega) hc rfl ⟨Nat.le_refl _, Nat.le_refl _, Nat.le_refl _⟩ (fun _ _ => rfl)) (by decide) g.1.k8 g.1.n8 rfl rfl rfl (Nat.le_of_ble_eq_true rfl) rfl (fun h2 q2 => ?_)
  exact ev_vret dX0_goApplication_234 (⟨rfl, q2⟩)
end VPt
