/-! the second way: leaves -/
section VLf
variable {h0 : AH} {a0 K0 : Nat → Nat} {L : List Nd} {kp : Nat → Option TE} {tc : Nat} {h : AH} {a K : Nat → Nat} {nv : Nat} {G : Nat → TE} {Gn : Nat → Prop} {N e yl : Nat} {T : Nat → TE} {τ : Nat → Nat} {st : List (Nat × Int × Int)} {s x gz lz res : Int} {fv : Nat → Int}
set_option maxRecDepth 100000 in
/-- a kept name -/
theorem s_kepV0 (q : AtV h0 a0 K0 L kp tc nv G Gn N T τ ((e, s, x) :: st) gz lz fv yl res h a K) : CV mX0_goKept 6 [rv 8, iv (e : Int), rv (-1)] h (on (BaV h0 a0 K0 L kp tc)) := by
  have g := q.1.g
  have v0 := g.1.v8_0
  refine cv_of cdX0_goKept ?_
  show EV _ _ 0 [rv 8, iv (e : Int), rv (-1)] [] h _
  refine ev_aload_n dX0_goKept_0 rfl ?_
  refine ev_ifnonnull 13 dX0_goKept_1 (fun h_no => (by exfalso; omega)) (fun hb => ?_)
  refine ev_aload_n dX0_goKept_4 rfl ?_
  refine ev_iconst dX0_goKept_5 ?_
  refine ev_iload_n dX0_goKept_6 rfl ?_
  refine ev_cvv dX0_goKept_7 lX0_89 (s_failV (e := e) (k := 3) q (by decide)) (by decide) g.1.k8 g.1.n8 rfl rfl rfl (Nat.le_of_ble_eq_true rfl) rfl (fun h1 q => ?_)
  refine ev_gt 26 dX0_goKept_10 ?_
  exact ev_vret dX0_goKept_26 (⟨rfl, q⟩)
set_option maxRecDepth 100000 in
theorem s_kepV1 {sh b n : Nat} {R : TE} (q : AtV h0 a0 K0 L kp tc nv G Gn N T τ ((e, s, x) :: st) gz lz fv yl res h a K) (hN : N ≤ 40000) (he : e < 120) (k3 : ShW h a sh b n (rowT R)) (k5 : sz R ≤ 24) (k6 : ∀ x, 2 ≤ x → oc x R = true → x < 202) (hS2 : 2 ≤ nv) : CV mX0_goKept 6 [rv 8, iv (e : Int), rv (sh : Int)] h (on (EnV h0 a0 K0 L kp tc (nv + 210) G Gn st gz lz yl N 30 T (sbs (fun x => .var (nv + x)) R))) := by
  have g := q.1.g
  have v0 := g.1.v8_0
  refine cv_of cdX0_goKept ?_
  show EV _ _ 0 [rv 8, iv (e : Int), rv (sh : Int)] [] h _
  refine ev_aload_n dX0_goKept_0 rfl ?_
  refine ev_ifnonnull 13 dX0_goKept_1 (fun hb => ?_) (fun h_no => (by exfalso; omega))
  refine ev_aload_n dX0_goKept_13 rfl ?_
  refine ev_iload_n dX0_goKept_14 rfl ?_
  refine ev_aload_n dX0_goKept_15 rfl ?_
  refine ev_getrv dX0_goKept_16 fX0_12 g.1.k8 g.1.n8 rfl v0 ?_
  refine ev_aload_n dX0_goKept_19 rfl ?_
  have hx : ∀ y, 2 ≤ y → oc y R = true → MkX (fun x => nv + x) nv (nv + 210) N y := fun y y2 yo => Or.inl ⟨k6 y y2 yo, Nat.le_add_right _ _, Nat.le_trans y2 (Nat.le_add_left _ _), Nat.add_lt_add_left (by have := k6 y y2 yo; omega) _⟩
  refine ev_cvi dX0_goKept_20 lX0_126 (s_makeY (nm := fun x => nv + x) (nv' := nv + 210) q.2.1.1 (by omega) k3 (by omega) hx (fun y z _ _ _ _ e => Nat.add_left_cancel e) (Nat.le_add_right _ _)) (by decide) g.1.k9 g.1.n9 rfl rfl rfl (Nat.le_of_ble_eq_true rfl) rfl (fun r h1 q9 => ?_)
  obtain ⟨M, c, T1, τ1, rfl, u, hc, hM, hX⟩ := q9
  obtain ⟨a1, K1, yl1, q1, n1, t1⟩ := q.gx u
  have g1 := q1.1.g
  have eX : sbs (mkF (fun x => nv + x) T) R = sbs (fun x => .var (nv + x)) R := sbs_cg R (fun y y2 yo => by
    show (if y < 999 then _ else _) = _
    rw [if_pos (by have := k6 y y2 yo; omega)])
  refine ev_cvv dX0_goKept_23 lX0_154 (s_endE (b := 30) (N' := N) (yl' := yl) (T' := T) q1 he hc (hX.trans eX) ⟨n1.1, by omega, n1.2⟩ t1) (by decide) g1.1.k8 g1.1.n8 rfl rfl rfl (Nat.le_of_ble_eq_true rfl) rfl (fun h2 q => ?_)
  exact ev_vret dX0_goKept_26 (⟨rfl, q⟩)
set_option maxRecDepth 100000 in
/-- a name that is not bound -/
theorem s_namV0 {sg : Int} (q : AtV h0 a0 K0 L kp tc nv G Gn N T τ ((e, s, x) :: st) gz lz fv yl res h a K) (he : e < L.length) (h57 : TBL L 57 e = 0) (d : bd (TBL L) e < 0) : CV mX0_goName 6 [rv 8, rv (tc : Int), iv (e : Int), iv sg] h (on (BaV h0 a0 K0 L kp tc)) := by
  have g := q.1.g
  have hT := q.1.2.2.2.1.l
  refine cv_of cdX0_goName ?_
  show EV _ _ 0 [rv 8, rv (tc : Int), iv (e : Int), iv sg, uv] [] h _
  refine ev_aload_n dX0_goName_0 rfl ?_
  refine ev_bipush dX0_goName_1 ?_
  refine ev_iload_n dX0_goName_3 rfl ?_
  refine ev_cvi dX0_goName_4 lX0_137 (s_ofB hT he) (by decide) hT.t.o.1.1 hT.t.o.1.2 rfl rfl rfl (Nat.le_of_ble_eq_true rfl) rfl (fun r z q9 => ?_)
  obtain ⟨r1, eq⟩ := q9
  rw [r1, eq, if_pos h57]
  obtain ⟨bz, hbz⟩ : ∃ bz, bd (TBL L) e = bz := ⟨_, rfl⟩
  rw [hbz] at d ⊢
  refine ev_ist4 dX0_goName_7 ?_
  refine ev_iload dX0_goName_9 rfl ?_
  refine ev_ifge 23 dX0_goName_11 (fun h_no => (by exfalso; omega)) (fun hb => ?_)
  refine ev_aload_n dX0_goName_14 rfl ?_
  refine ev_iconst dX0_goName_15 ?_
  refine ev_iload_n dX0_goName_16 rfl ?_
  refine ev_cvv dX0_goName_17 lX0_89 (s_failV (e := e) (k := 3) q (by decide)) (by decide) g.1.k8 g.1.n8 rfl rfl rfl (Nat.le_of_ble_eq_true rfl) rfl (fun h1 q => ?_)
  refine ev_gt 116 dX0_goName_20 ?_
  exact ev_vret dX0_goName_116 (⟨rfl, q⟩)
set_option maxRecDepth 100000 in
/-- a name that a function binds -/
theorem s_namV1 {sg : Int} {b : Nat} (q : AtV h0 a0 K0 L kp tc nv G Gn N T τ ((e, s, x) :: st) gz lz fv yl res h a K) (he : e < L.length) (hL : L.length ≤ 120) (h57 : TBL L 57 e = 0) (hb0 : bd (TBL L) e = (b : Int)) (hbL : b < L.length) (h4 : TBL L 57 b = 4) (hg : Gn b) : CV mX0_goName 6 [rv 8, rv (tc : Int), iv (e : Int), iv sg] h (on (EnV h0 a0 K0 L kp tc nv G Gn st gz lz yl N 30 T (G b))) := by
  have g := q.1.g
  have hT := q.1.2.2.2.1.l
  have v3 := g.1.v8_3
  obtain ⟨b9, c, c1, c2, c3⟩ := q.2.1.2.2 b hg
  refine cv_of cdX0_goName ?_
  show EV _ _ 0 [rv 8, rv (tc : Int), iv (e : Int), iv sg, uv] [] h _
  refine ev_aload_n dX0_goName_0 rfl ?_
  refine ev_bipush dX0_goName_1 ?_
  refine ev_iload_n dX0_goName_3 rfl ?_
  refine ev_cvi dX0_goName_4 lX0_137 (s_ofB hT he) (by decide) hT.t.o.1.1 hT.t.o.1.2 rfl rfl rfl (Nat.le_of_ble_eq_true rfl) rfl (fun r z q9 => ?_)
  obtain ⟨r1, eq⟩ := q9
  rw [r1, eq, if_pos h57, hb0]
  refine ev_ist4 dX0_goName_7 ?_
  refine ev_iload dX0_goName_9 rfl ?_
  refine ev_ifge 23 dX0_goName_11 (fun hb => ?_) (fun h_no => (by exfalso; omega))
  refine ev_aload_n dX0_goName_23 rfl ?_
  refine ev_iconst dX0_goName_24 ?_
  refine ev_iload dX0_goName_25 rfl ?_
  refine ev_cvi dX0_goName_27 lX0_137 (s_ofL (k := 0) hT (by decide) hbL) (by decide) hT.t.o.1.1 hT.t.o.1.2 rfl rfl rfl (Nat.le_of_ble_eq_true rfl) rfl (fun r z q9 => ?_)
  obtain ⟨r1, eq⟩ := q9
  rw [r1, eq, show TBL L (colC 0) b = TBL L 57 b from rfl, h4]
  refine ev_iconst dX0_goName_30 ?_
  refine ev_icmpne 51 dX0_goName_31 (fun h_no => (by exfalso; omega)) (fun hb2 => ?_)
  refine ev_aload_n dX0_goName_34 rfl ?_
  refine ev_iload_n dX0_goName_35 rfl ?_
  refine ev_aload_n dX0_goName_36 rfl ?_
  refine ev_getrv dX0_goName_37 fX0_29 g.1.k8 g.1.n8 rfl v3 ?_
  refine ev_iload dX0_goName_40 rfl ?_
  refine ev_csi dX0_goName_42 lX0_81 (s_atI g.1.k24 g.1.n24 (by decide)) (by decide) rfl rfl (Nat.le_of_ble_eq_true rfl) rfl (fun r z q9 => ?_)
  obtain ⟨r1, eq⟩ := q9
  rw [r1, eq, if_pos (by omega), show ((b : Nat) : Int).toNat = b from rfl, c2]
  refine ev_cvv dX0_goName_45 lX0_154 (s_endE (b := 30) (N' := N) (yl' := yl) (T' := T) q (by omega) c1 c3 ⟨Nat.le_refl _, by omega, Nat.le_refl _⟩ (fun _ _ => rfl)) (by decide) g.1.k8 g.1.n8 rfl rfl rfl (Nat.le_of_ble_eq_true rfl) rfl (fun h2 q => ?_)
  refine ev_gt 116 dX0_goName_48 ?_
  exact ev_vret dX0_goName_116 (⟨rfl, q⟩)
set_option maxRecDepth 100000 in
/-- a name that a let binds: first it goes through what is bound -/
theorem s_namV2 {b : Nat} (q : AtV h0 a0 K0 L kp tc nv G Gn N T τ ((e, s, x) :: st) gz lz fv yl res h a K) (he : e < L.length) (hst : st.length < 119) (h57 : TBL L 57 e = 0) (hb0 : bd (TBL L) e = (b : Int)) (hbL : b < L.length) (h4 : TBL L 57 b ≠ 4) (hfe : TBL L 59 b = (fstN L b : Int)) : CV mX0_goName 6 [rv 8, rv (tc : Int), iv (e : Int), iv 0] h (on fun h1 => AtV h0 a0 K0 L kp tc nv G Gn N T τ ((fstN L b, 0, -1) :: (e, s, x) :: st) gz lz fv yl res h1 a K) := by
  have g := q.1.g
  have hT := q.1.2.2.2.1.l
  have w1 := g.1.v8_1
  have f7 := q.1.2.2.2.2.2
  obtain ⟨kb, hkb⟩ : ∃ kb, TBL L 57 b = kb := ⟨_, rfl⟩
  refine cv_of cdX0_goName ?_
  show EV _ _ 0 [rv 8, rv (tc : Int), iv (e : Int), iv 0, uv] [] h _
  refine ev_aload_n dX0_goName_0 rfl ?_
  refine ev_bipush dX0_goName_1 ?_
  refine ev_iload_n dX0_goName_3 rfl ?_
  refine ev_cvi dX0_goName_4 lX0_137 (s_ofB hT he) (by decide) hT.t.o.1.1 hT.t.o.1.2 rfl rfl rfl (Nat.le_of_ble_eq_true rfl) rfl (fun r z q9 => ?_)
  obtain ⟨r1, eq⟩ := q9
  rw [r1, eq, if_pos h57, hb0]
  refine ev_ist4 dX0_goName_7 ?_
  refine ev_iload dX0_goName_9 rfl ?_
  refine ev_ifge 23 dX0_goName_11 (fun hb => ?_) (fun h_no => (by exfalso; omega))
  refine ev_aload_n dX0_goName_23 rfl ?_
  refine ev_iconst dX0_goName_24 ?_
  refine ev_iload dX0_goName_25 rfl ?_
  refine ev_cvi dX0_goName_27 lX0_137 (s_ofL (k := 0) hT (by decide) hbL) (by decide) hT.t.o.1.1 hT.t.o.1.2 rfl rfl rfl (Nat.le_of_ble_eq_true rfl) rfl (fun r z q9 => ?_)
  obtain ⟨r1, eq⟩ := q9
  rw [r1, eq, show TBL L (colC 0) b = TBL L 57 b from rfl, hkb]
  rw [hkb] at h4
  refine ev_iconst dX0_goName_30 ?_
  refine ev_icmpne 51 dX0_goName_31 (fun hb2 => ?_) (fun h_no => (by exfalso; omega))
  refine ev_aload_n dX0_goName_51 rfl ?_
  refine ev_getiv dX0_goName_52 fX0_77 g.1.k8 g.1.n8 rfl f7 ?_
  refine ev_ifne 86 dX0_goName_55 (fun hb3 => ?_) (fun h_no => (by exfalso; omega))
  refine ev_iload_n dX0_goName_86 rfl ?_
  refine ev_ifne 107 dX0_goName_87 (fun h_no => (by exfalso; omega)) (fun hb4 => ?_)
  refine ev_aload_n dX0_goName_90 rfl ?_
  refine ev_getrv dX0_goName_91 fX0_21 g.1.k8 g.1.n8 rfl w1 ?_
  refine ev_aload_n dX0_goName_94 rfl ?_
  refine ev_iconst dX0_goName_95 ?_
  refine ev_iload dX0_goName_96 rfl ?_
  refine ev_cvi dX0_goName_98 lX0_137 (s_ofL (k := 2) hT (by decide) hbL) (by decide) hT.t.o.1.1 hT.t.o.1.2 rfl rfl rfl (Nat.le_of_ble_eq_true rfl) rfl (fun r z q9 => ?_)
  obtain ⟨r1, eq⟩ := q9
  rw [r1, eq, show TBL L (colC 2) b = TBL L 59 b from rfl, hfe]
  refine ev_cvv dX0_goName_101 lX0_112 (s_enter (n := fstN L b) g q.2.2.1 (by rw [List.length_cons]; omega)) (by decide) g.1.k19 g.1.n19 rfl rfl rfl (Nat.le_of_ble_eq_true rfl) rfl (fun h3 q3 => ?_)
  obtain ⟨c3, p3⟩ := q3
  refine ev_gt 116 dX0_goName_104 ?_
  exact ev_vret dX0_goName_116 (⟨rfl, q.pt c3 p3⟩)
set_option maxRecDepth 100000 in
theorem s_namV3 {b c : Nat} {sg : Int} (q : AtV h0 a0 K0 L kp tc nv G Gn N T τ ((e, s, x) :: st) gz lz fv yl (c : Int) h a K) (he : e < L.length) (hL : L.length ≤ 120) (h57 : TBL L 57 e = 0) (hb0 : bd (TBL L) e = (b : Int)) (hbL : b < L.length) (h4 : TBL L 57 b ≠ 4) (hsg : sg ≠ 0) (hc : c < N) : CV mX0_goName 6 [rv 8, rv (tc : Int), iv (e : Int), iv sg] h (on (EnV h0 a0 K0 L kp tc nv G Gn st gz lz yl N 0 T (T c))) := by
  have g := q.1.g
  have hT := q.1.2.2.2.1.l
  have f7 := q.1.2.2.2.2.2
  have r8 := q.2.2.2.2.2.2.2
  obtain ⟨kb, hkb⟩ : ∃ kb, TBL L 57 b = kb := ⟨_, rfl⟩
  refine cv_of cdX0_goName ?_
  show EV _ _ 0 [rv 8, rv (tc : Int), iv (e : Int), iv sg, uv] [] h _
  refine ev_aload_n dX0_goName_0 rfl ?_
  refine ev_bipush dX0_goName_1 ?_
  refine ev_iload_n dX0_goName_3 rfl ?_
  refine ev_cvi dX0_goName_4 lX0_137 (s_ofB hT he) (by decide) hT.t.o.1.1 hT.t.o.1.2 rfl rfl rfl (Nat.le_of_ble_eq_true rfl) rfl (fun r z q9 => ?_)
  obtain ⟨r1, eq⟩ := q9
  rw [r1, eq, if_pos h57, hb0]
  refine ev_ist4 dX0_goName_7 ?_
  refine ev_iload dX0_goName_9 rfl ?_
  refine ev_ifge 23 dX0_goName_11 (fun hb => ?_) (fun h_no => (by exfalso; omega))
  refine ev_aload_n dX0_goName_23 rfl ?_
  refine ev_iconst dX0_goName_24 ?_
  refine ev_iload dX0_goName_25 rfl ?_
  refine ev_cvi dX0_goName_27 lX0_137 (s_ofL (k := 0) hT (by decide) hbL) (by decide) hT.t.o.1.1 hT.t.o.1.2 rfl rfl rfl (Nat.le_of_ble_eq_true rfl) rfl (fun r z q9 => ?_)
  obtain ⟨r1, eq⟩ := q9
  rw [r1, eq, show TBL L (colC 0) b = TBL L 57 b from rfl, hkb]
  rw [hkb] at h4
  refine ev_iconst dX0_goName_30 ?_
  refine ev_icmpne 51 dX0_goName_31 (fun hb2 => ?_) (fun h_no => (by exfalso; omega))
  refine ev_aload_n dX0_goName_51 rfl ?_
  refine ev_getiv dX0_goName_52 fX0_77 g.1.k8 g.1.n8 rfl f7 ?_
  refine ev_ifne 86 dX0_goName_55 (fun hb3 => ?_) (fun h_no => (by exfalso; omega))
  refine ev_iload_n dX0_goName_86 rfl ?_
  refine ev_ifne 107 dX0_goName_87 (fun hb4 => ?_) (fun h_no => (by exfalso; omega))
  refine ev_aload_n dX0_goName_107 rfl ?_
  refine ev_iload_n dX0_goName_108 rfl ?_
  refine ev_aload_n dX0_goName_109 rfl ?_
  refine ev_getiv dX0_goName_110 fX0_115 g.1.k8 g.1.n8 rfl r8 ?_
  refine ev_cvv dX0_goName_113 lX0_154 (s_endE (b := 0) (N' := N) (yl' := yl) (T' := T) q (by omega) hc rfl ⟨Nat.le_refl _, Nat.le_refl _, Nat.le_refl _⟩ (fun _ _ => rfl)) (by decide) g.1.k8 g.1.n8 rfl rfl rfl (Nat.le_of_ble_eq_true rfl) rfl (fun h2 q => ?_)
  exact ev_vret dX0_goName_116 (⟨rfl, q⟩)
end VLf
/-! the second way goes on with a leaf -/
section VLg
variable {h0 : AH} {a0 K0 : Nat → Nat} {L : List Nd} {kp : Nat → Option TE} {tc : Nat} {h : AH} {a K : Nat → Nat} {nv : Nat} {G : Nat → TE} {Gn : Nat → Prop} {N e yl : Nat} {T : Nat → TE} {τ : Nat → Nat} {st : List (Nat × Int × Int)} {s x gz lz res : Int} {fv : Nat → Int} {Q1 : AH → Prop}
set_option maxRecDepth 100000 in
theorem gv_name (q : AtV h0 a0 K0 L kp tc nv G Gn N T τ ((e, s, x) :: st) gz lz fv yl res h a K) (he : e < L.length) (hs : 0 ≤ s ∧ s ≤ 10) (hgz : 0 ≤ gz ∧ gz ≤ 1000) (h57 : TBL L 57 e = 0) (hm : ∀ h1, AtV h0 a0 K0 L kp tc nv G Gn N T τ ((e, s + 1, x) :: st) (gz + (if s = 0 then 1 else 0)) lz fv yl res h1 a K → CV mX0_goName 6 [rv 8, rv (tc : Int), iv (e : Int), iv s] h1 (on Q1)) : CV mX0_goOn 8 [rv 8, rv (tc : Int), rv 31, iv (e : Int)] h (on Q1) := by
  refine go_preV q he hs hgz (fun h1 q1 => ?_)
  have g1 := q1.1.g
  rw [h57]
  refine ev_tsI 80 (37) dX0_goOn_43 (by omega) (by omega) rfl ?_
  refine ev_aload_n dX0_goOn_80 rfl ?_
  refine ev_aload_n dX0_goOn_81 rfl ?_
  refine ev_iload_n dX0_goOn_82 rfl ?_
  refine ev_iload dX0_goOn_83 rfl ?_
  refine ev_cvv dX0_goOn_85 lX0_140 (hm h1 q1) (by decide) g1.1.k8 g1.1.n8 rfl rfl rfl (Nat.le_of_ble_eq_true rfl) rfl (fun h2 q2 => ?_)
  refine ev_gt 164 dX0_goOn_88 ?_
  exact ev_vret dX0_goOn_164 (⟨rfl, q2⟩)
set_option maxRecDepth 100000 in
theorem gv_kept (q : AtV h0 a0 K0 L kp tc nv G Gn N T τ ((e, s, x) :: st) gz lz fv yl res h a K) (he : e < L.length) (hL : L.length ≤ 120) (hN : N ≤ 40000) (hs : 0 ≤ s ∧ s ≤ 10) (hgz : 0 ≤ gz ∧ gz ≤ 1000) (h57 : TBL L 57 e = 1) (h58 : 65 ≤ TBL L 58 e ∧ TBL L 58 e ≤ 72) (hS2 : 2 ≤ nv) : CV mX0_goOn 8 [rv 8, rv (tc : Int), rv 31, iv (e : Int)] h (on fun h1 => (kp (TBL L 58 e - 65).toNat = none ∧ BaV h0 a0 K0 L kp tc h1) ∨ ∃ R, kp (TBL L 58 e - 65).toNat = some R ∧ EnV h0 a0 K0 L kp tc (nv + 210) G Gn st (gz + (if s = 0 then 1 else 0)) lz yl N 30 T (sbs (fun x => .var (nv + x)) R) h1) := by
  refine go_preV q he hs hgz (fun h1 q1 => ?_)
  have g1 := q1.1.g
  obtain ⟨ci, hci⟩ : ∃ ci : Nat, TBL L 58 e - 65 = (ci : Int) := ⟨(TBL L 58 e - 65).toNat, by omega⟩
  have c8 : ci < 8 := by omega
  rw [h57]
  rw [hci, show ((ci : Nat) : Int).toNat = ci from rfl]
  have t58 : TBL L 58 e = (ci : Int) + 65 := by omega
  rw [t58]
  refine ev_tsI 91 (48) dX0_goOn_43 (by omega) (by omega) rfl ?_
  refine ev_aload_n dX0_goOn_91 rfl ?_
  refine ev_iload_n dX0_goOn_92 rfl ?_
  refine ev_aload_n dX0_goOn_93 rfl ?_
  refine ev_iload dX0_goOn_94 rfl ?_
  refine ev_bipush dX0_goOn_96 ?_
  refine ev_isub dX0_goOn_98 (by unfold ir; omega) ?_
  rw [show (ci : Int) + 65 - 65 = (ci : Int) by omega]
  refine ev_cvr dX0_goOn_99 lX0_144 (s_keptAtC g1.1.st31) (by decide) g1.1.k31 g1.1.n31 rfl rfl rfl (Nat.le_of_ble_eq_true rfl) rfl (fun r z q => ?_)
  obtain ⟨q1', q2⟩ := q
  rw [q1', q2, show kpAt h1 33 (ci : Int) = h1.vl 33 ci from by unfold kpAt; rw [if_pos (by omega)]; rfl]
  rcases q1.1.2.2.2.2.1.2 ci c8 with ⟨k1, k2⟩ | ⟨R, sh, b, n, k1, k2, k3, k4, k5, k6⟩
  · skip
    rw [k2]
    refine ev_cvv dX0_goOn_102 lX0_150 (s_kepV0 q1) (by decide) g1.1.k8 g1.1.n8 rfl rfl rfl (Nat.le_of_ble_eq_true rfl) rfl (fun h2 q => ?_)
    refine ev_gt 164 dX0_goOn_105 ?_
    exact ev_vret dX0_goOn_164 (⟨rfl, Or.inl ⟨k1, q⟩⟩)
  rw [k2]
  refine ev_cvv dX0_goOn_102 lX0_150 (s_kepV1 q1 hN (by omega) k3 k5 k6 hS2) (by decide) g1.1.k8 g1.1.n8 rfl rfl rfl (Nat.le_of_ble_eq_true rfl) rfl (fun h2 q => ?_)
  refine ev_gt 164 dX0_goOn_105 ?_
  exact ev_vret dX0_goOn_164 (⟨rfl, Or.inr ⟨R, k1, q⟩⟩)
set_option maxRecDepth 100000 in
theorem gv_num (q : AtV h0 a0 K0 L kp tc nv G Gn N T τ ((e, s, x) :: st) gz lz fv yl res h a K) (he : e < L.length) (hL : L.length ≤ 120) (hs : 0 ≤ s ∧ s ≤ 10) (hgz : 0 ≤ gz ∧ gz ≤ 1000) (h57 : TBL L 57 e = 2) : CV mX0_goOn 8 [rv 8, rv (tc : Int), rv 31, iv (e : Int)] h (on (EnV h0 a0 K0 L kp tc nv G Gn st (gz + (if s = 0 then 1 else 0)) lz yl N 30 T (.var 0))) := by
  refine go_preV q he hs hgz (fun h1 q1 => ?_)
  have g1 := q1.1.g
  have t0 : T 0 = .var 0 := q1.2.1.1.2.2.2.2.2.1
  have n0 := q1.2.1.1.2.2.2.2.1
  rw [h57]
  refine ev_tsI 108 (65) dX0_goOn_43 (by omega) (by omega) rfl ?_
  refine ev_aload_n dX0_goOn_108 rfl ?_
  refine ev_iload_n dX0_goOn_109 rfl ?_
  refine ev_iconst dX0_goOn_110 ?_
  refine ev_cvv dX0_goOn_111 lX0_154 (s_endE (c := 0) (b := 30) (N' := N) (yl' := yl) (T' := T) q1 (by omega) (by omega) t0 ⟨Nat.le_refl _, by omega, Nat.le_refl _⟩ (fun _ _ => rfl)) (by decide) g1.1.k8 g1.1.n8 rfl rfl rfl (Nat.le_of_ble_eq_true rfl) rfl (fun h2 q => ?_)
  refine ev_gt 164 dX0_goOn_114 ?_
  exact ev_vret dX0_goOn_164 (⟨rfl, q⟩)
set_option maxRecDepth 100000 in
theorem gv_sign (q : AtV h0 a0 K0 L kp tc nv G Gn N T τ ((e, s, x) :: st) gz lz fv yl res h a K) (he : e < L.length) (hL : L.length ≤ 120) (hN : N ≤ 40000) (hs : 0 ≤ s ∧ s ≤ 10) (hgz : 0 ≤ gz ∧ gz ≤ 1000) (h57 : TBL L 57 e = 3) (hS2 : 2 ≤ nv) : CV mX0_goOn 8 [rv 8, rv (tc : Int), rv 31, iv (e : Int)] h (on (EnV h0 a0 K0 L kp tc (nv + 1) G Gn st (gz + (if s = 0 then 1 else 0)) lz yl N 30 T (sgT (TBL L 58 e) nv))) := by
  refine go_preV q he hs hgz (fun h1 q1 => ?_)
  have g1 := q1.1.g
  have v0 := g1.1.v8_0
  rw [h57]
  refine ev_tsI 117 (74) dX0_goOn_43 (by omega) (by omega) rfl ?_
  refine ev_aload_n dX0_goOn_117 rfl ?_
  refine ev_iload_n dX0_goOn_118 rfl ?_
  refine ev_aload_n dX0_goOn_119 rfl ?_
  refine ev_getrv dX0_goOn_120 fX0_12 g1.1.k8 g1.1.n8 rfl v0 ?_
  refine ev_iload dX0_goOn_123 rfl ?_
  refine ev_cvi dX0_goOn_125 lX0_157 (s_ofSign q1.2.1.1 (by omega) hS2) (by decide) g1.1.k9 g1.1.n9 rfl rfl rfl (Nat.le_of_ble_eq_true rfl) rfl (fun r h2 q9 => ?_)
  obtain ⟨M, c3, T1, τ1, rfl, u, hc, hM, hX⟩ := q9
  obtain ⟨a1, K1, yl1, q2, n1, t1⟩ := q1.gx u
  have g2 := q2.1.g
  refine ev_cvv dX0_goOn_128 lX0_154 (s_endE (b := 30) (N' := N) (yl' := yl) (T' := T) q2 (by omega) hc hX ⟨n1.1, by omega, n1.2⟩ t1) (by decide) g2.1.k8 g2.1.n8 rfl rfl rfl (Nat.le_of_ble_eq_true rfl) rfl (fun h3 q => ?_)
  refine ev_gt 164 dX0_goOn_131 ?_
  exact ev_vret dX0_goOn_164 (⟨rfl, q⟩)
end VLg
