/-! the class goes through a leaf: number, sign, kept name, name -/
def KEq (K : Nat → Nat) : Prop := (K 1 = K 0 ∧ K 2 = K 0 ∧ K 3 = K 0) ∧ K 7 = K 6 ∧ K 8 = K 6
/-- what stands behind a node that has a type -/
def EdC (h0 : AH) (a0 K0 : Nat → Nat) (L : List Nd) (kp : Nat → Option TE) (tc : Nat) (S' : IS) (Dn Gn Sn : Nat → Prop) (sc : Nat) (st : List (Nat × Int × Int)) (e : Nat) (gz lz : Int) (fv : Nat → Int) (lo hi : Nat) (yl N : Nat) (h1 : AH) (N1 : Nat) : Prop := (∀ k, (k < lo ∨ hi ≤ k) → h1.vl 23 k = fv k) ∧ ∃ a1 K1 T1 τ1, ∃ c : Nat, FrW h0 a0 K0 L kp tc h1 a1 K1 ∧ CSt L S' Dn Gn Sn h1 a1 K1 N1 T1 τ1 sc ∧ PtH h1 st ∧ FlC h1 (0, -1, -1, -1) ∧ (c < N1 ∧ (h1.vl 8 8 = (c : Int) ∧ h1.vl 23 e = (c : Int)) ∧ T1 c = S'.2.1 e) ∧ (h1.vl 8 9 = gz ∧ h1.vl 9 5 = lz) ∧ N ≤ N1 ∧ YL h1 a1 N1 + N ≤ yl + N1
/-- what stands where it fails -/
def FaC (h0 : AH) (a0 K0 : Nat → Nat) (L : List Nd) (kp : Nat → Option TE) (tc : Nat) (r : IR) (h1 : AH) : Prop := FlC h1 r ∧ ∃ a1 K1, FrW h0 a0 K0 L kp tc h1 a1 K1 ∧ KEq K1 ∧ ∃ st, PtH h1 st
section GLs
variable {h0 : AH} {a0 K0 : Nat → Nat} {L : List Nd} {kp : Nat → Option TE} {tc : Nat} {h h1 : AH} {a K a1 K1 : Nat → Nat} {S : IS} {Dn Gn Sn : Nat → Prop} {N N1 sc e : Nat} {T T1 : Nat → TE} {τ τ1 : Nat → Nat} {st : List (Nat × Int × Int)} {s x gz : Int}
theorem CSt.ke (s : CSt L S Dn Gn Sn h a K N T τ sc) : KEq K := ⟨s.1.2.1.2.1, s.2.1.2.2.1⟩
/-- what a method of a node must do, its heap being h after the path was moved -/
def GdQ (h0 : AH) (a0 K0 : Nat → Nat) (L : List Nd) (kp : Nat → Option TE) (tc : Nat) (S : IS) (Dn Gn Sn : Nat → Prop) (sc : Nat) (st : List (Nat × Int × Int)) (e : Nat) (gz lz : Int) (fv : Nat → Int) (yl N b : Nat) (R : IR → IS → Prop) (h1 : AH) : Prop := ∃ r S' N1, R r S' ∧ N1 ≤ N + b ∧ (r.1 = 0 → EdC h0 a0 K0 L kp tc S' (fun k => Dn k ∨ k = e) Gn Sn sc st e gz lz fv e (e + 1) yl N h1 N1) ∧ (r.1 ≠ 0 → FaC h0 a0 K0 L kp tc r h1)
/-- a cell that is there already, or was made just now, ends the node -/
theorem s_endQ {fv : Nat → Int} {lz : Int} {h' : AH} {a' : Nat → Nat} {N' c b : Nat} {X : TE} {nv' : Nat} {R : IR → IS → Prop} (f : FrW h0 a0 K0 L kp tc h a K) (hs : CSt L (nv', S.2) Dn Gn Sn h a K N T τ sc) (hsc : sc ≤ 12) (p : PtH h ((e, s, x) :: st)) (he : e < 120) (hc : c < N) (hX : T c = X) (hSe : ∀ b, Sn b → fstN L b ≠ e) (hf : FlC h (0, -1, -1, -1)) (h9 : h.vl 8 9 = gz) (h5 : h.vl 9 5 = lz) (hv : h.vl 23 = fv) (hN : N' ≤ N ∧ YL h a N + N' ≤ YL h' a' N' + N) (hb : N ≤ N' + b) (hR : R (0, -1, -1, -1) (isF S e X nv')) :
    CV mX0_end 3 [rv 8, iv (e : Int), iv (c : Int)] h (on fun h1 => GdQ h0 a0 K0 L kp tc S Dn Gn Sn sc st e gz lz fv (YL h' a' N') N' b R h1) := by
  refine cv_mono (s_endC f hs hsc p he hc hX hSe) fun o h1 q => ?_
  obtain ⟨e0, q1, q2, q3, q4, q5, q6, q8, q7⟩ := q
  refine ⟨e0, (0, -1, -1, -1), _, N, hR, hb, fun _ => ⟨fun k hk => by rw [q7 k (by omega), hv], a, K, T, τ, c, q1, q2, q3, hf.xt (fun j j8 _ => q5 j j8), ⟨hc, ⟨q4, q8⟩, by rw [hX]; exact (upT_s (f := S.2.1)).symm⟩, ⟨(q5 9 (by decide)).trans h9, (q6.fl 5).trans h5⟩, hN.1, ?_⟩, fun z => absurd rfl z⟩
  rw [YL.x q6]
  exact hN.2
theorem s_failQ {fv : Nat → Int} {st0 : List (Nat × Int × Int)} {lz : Int} {yl N' b : Nat} {k : Int} {R : IR → IS → Prop} (f : FrW h0 a0 K0 L kp tc h a K) (hs : CSt L S Dn Gn Sn h a K N T τ sc) (p : PtH h st0) (hf : FlC h (0, -1, -1, -1)) (hk : k ≠ 0) (hR : ∀ S', R (k, (e : Int), -1, -1) S') : CV mX0_fail 2 [rv 8, iv k, iv (e : Int)] h (on fun h1 => GdQ h0 a0 K0 L kp tc S Dn Gn Sn sc st e gz lz fv yl N' b R h1) := by
  refine cv_mono (s_failF f.g) fun o h1 q => ?_
  obtain ⟨e0, c1, r1, r2, r3⟩ := q
  obtain ⟨f1, f2, f3, f4⟩ := hf
  exact ⟨e0, (k, (e : Int), -1, -1), S, 0, hR S, Nat.zero_le _, fun z => absurd z hk, fun _ => ⟨⟨r1, r2, (r3 12 (by decide) (by decide)).trans f3, (r3 13 (by decide) (by decide)).trans f4⟩, a, K, f.st c1 (r3 7 (by decide) (by decide)) (by decide) (fun s hs z => by have z : s = 8 := z; omega) (fun y z => Or.inl z), hs.ke, st0, p.x f.g c1 (by decide)⟩⟩
set_option maxRecDepth 100000 in
/-- a kept name -/
theorem s_goKept {lz : Int} {ci : Nat} (f : FrW h0 a0 K0 L kp tc h a K) (hs : CSt L S Dn Gn Sn h a K N T τ sc) (hsc : sc ≤ 12) (hN : N ≤ 40000) (p : PtH h ((e, s, x) :: st)) (he : e < 120) (hSe : ∀ b, Sn b → fstN L b ≠ e) (hf : FlC h (0, -1, -1, -1)) (h9 : h.vl 8 9 = gz) (h5 : h.vl 9 5 = lz) (h57 : TBL L 57 e = 1) (hci : TBL L 58 e - 65 = (ci : Int)) (hci8 : ci < 8) (hS2 : 2 ≤ S.1) :
    CV mX0_goKept 6 [rv 8, iv (e : Int), rv (h.vl 33 ci)] h (on fun h1 => GdQ h0 a0 K0 L kp tc S Dn Gn Sn sc st e gz lz (h.vl 23) (YL h a N) N 210 (lfR L kp e S) h1) := by
  have g := f.g
  have v0 := g.1.v8_0
  have hR : ∀ (r : IR) (S' : IS), (match kp ci with | none => r = (3, (e : Int), -1, -1) | some T => r = (0, -1, -1, -1) ∧ S' = isF S e (sbs (fun x => .var (S.1 + x)) T) (S.1 + 210)) → lfR L kp e S r S' := fun r S' z => by
    unfold lfR
    rw [if_neg (by omega), if_pos h57, hci]
    exact z
  refine cv_of cdX0_goKept ?_
  show EV _ _ 0 [rv 8, iv (e : Int), rv (h.vl 33 ci)] [] h _
  rcases f.2.2.2.2.1.2 ci hci8 with ⟨k1, k2⟩ | ⟨Rt, sh, b, n, k1, k2, k3, k4, k5, k6⟩
  · rw [k2]
    refine ev_aload_n dX0_goKept_0 rfl ?_
    refine ev_ifnonnull 13 dX0_goKept_1 (fun h_no => (by exfalso; omega)) (fun hb => ?_)
    refine ev_aload_n dX0_goKept_4 rfl ?_
    refine ev_iconst dX0_goKept_5 ?_
    refine ev_iload_n dX0_goKept_6 rfl ?_
    refine ev_cvv dX0_goKept_7 lX0_89 (s_failQ (fv := h.vl 23) (st := st) (lz := lz) (gz := gz) (yl := YL h a N) (N' := N) (b := 210) (e := e) (k := 3) (R := lfR L kp e S) f hs p hf (by decide) (fun S' => hR _ _ (by rw [k1]))) (by decide) g.1.k8 g.1.n8 rfl rfl rfl (Nat.le_of_ble_eq_true rfl) rfl (fun h1 q => ?_)
    refine ev_gt 26 dX0_goKept_10 ?_
    exact ev_vret dX0_goKept_26 (⟨rfl, q⟩)
  · rw [k2]
    refine ev_aload_n dX0_goKept_0 rfl ?_
    refine ev_ifnonnull 13 dX0_goKept_1 (fun hb => ?_) (fun h_no => (by exfalso; omega))
    refine ev_aload_n dX0_goKept_13 rfl ?_
    refine ev_iload_n dX0_goKept_14 rfl ?_
    refine ev_aload_n dX0_goKept_15 rfl ?_
    refine ev_getrv dX0_goKept_16 fX0_12 g.1.k8 g.1.n8 rfl v0 ?_
    refine ev_aload_n dX0_goKept_19 rfl ?_
    have hx : ∀ y, 2 ≤ y → oc y Rt = true → MkX (fun x => S.1 + x) S.1 (S.1 + 210) N y := fun y y2 yo => Or.inl ⟨k6 y y2 yo, Nat.le_add_right _ _, Nat.le_trans y2 (Nat.le_add_left _ _), Nat.add_lt_add_left (by have := k6 y y2 yo; omega) _⟩
    refine ev_cvi dX0_goKept_20 lX0_126 (s_makeY (nm := fun x => S.1 + x) (nv' := S.1 + 210) hs.1 (by omega) k3 (by omega) hx (fun y z _ _ _ _ e => Nat.add_left_cancel e) (Nat.le_add_right _ _)) (by decide) g.1.k9 g.1.n9 rfl rfl rfl (Nat.le_of_ble_eq_true rfl) rfl (fun q h1 q9 => ?_)
    obtain ⟨M, c, T1, τ1, rfl, u, hc, hM, hX⟩ := q9
    obtain ⟨a1, K1, cs1, f1, n1, t1, x1⟩ := hs.gr f hsc (Nat.le_add_right _ _) u
    have g1 := f1.g
    have v8 : h1.vl 8 = h.vl 8 := x1.v (g.no (Or.inl (by decide))) (fun z => z)
    have p1 := p.x g x1 ⟨fun z => z, fun z => z, fun z => z, fun z => z⟩
    have eX : sbs (mkF (fun x => S.1 + x) T) Rt = sbs (fun x => .var (S.1 + x)) Rt := sbs_cg Rt (fun y y2 yo => by
      show (if y < 999 then _ else _) = _
      rw [if_pos (by have := k6 y y2 yo; omega)])
    refine ev_cvv dX0_goKept_23 lX0_154 (s_endQ (lz := lz) (gz := gz) (h' := h) (a' := a) (N' := N) (b := 210) (R := lfR L kp e S) f1 cs1 hsc p1 he hc (hX.trans eX) hSe (hf.xt (fun j _ _ => by rw [v8])) (by rw [v8]; exact h9) ((x1.fl 5).trans h5) (x1.v (g.no (Or.inr (by decide))) (fun z => z)) n1 (by omega) (hR _ _ (by rw [k1]; exact ⟨rfl, rfl⟩))) (by decide) g1.1.k8 g1.1.n8 rfl rfl rfl (Nat.le_of_ble_eq_true rfl) rfl (fun h2 q => ?_)
    exact ev_vret dX0_goKept_26 (⟨rfl, q⟩)
set_option maxRecDepth 100000 in
/-- a name -/
theorem s_goName {lz : Int} {sg : Int} (f : FrW h0 a0 K0 L kp tc h a K) (hs : CSt L S Dn Gn Sn h a K N T τ sc) (hsc : sc ≤ 12) (hN : N ≤ 40000) (p : PtH h ((e, s, x) :: st)) (he : e < L.length) (hL : L.length ≤ 120) (hSe : ∀ b, Sn b → fstN L b ≠ e) (hf : FlC h (0, -1, -1, -1)) (h9 : h.vl 8 9 = gz) (h5 : h.vl 9 5 = lz) (h57 : TBL L 57 e = 0) (hbl : bd (TBL L) e < (L.length : Int)) (hb4 : 0 ≤ bd (TBL L) e → TBL L 57 (bd (TBL L) e).toNat = 4 → Gn (bd (TBL L) e).toNat) (hb5 : 0 ≤ bd (TBL L) e → TBL L 57 (bd (TBL L) e).toNat ≠ 4 → Sn (bd (TBL L) e).toNat ∧ ∀ y, 2 ≤ y → evV S (envN L (bd (TBL L) e).toNat) y → S.2.2.2 y = false) :
    CV mX0_goName 6 [rv 8, rv (tc : Int), iv (e : Int), iv sg] h (on fun h1 => GdQ h0 a0 K0 L kp tc S Dn Gn Sn sc st e gz lz (h.vl 23) (YL h a N) N 210 (lfR L kp e S) h1) := by
  have g := f.g
  have hT := f.2.2.2.1.l
  have v0 := g.1.v8_0
  have v3 := g.1.v8_3
  have v4 := g.1.v8_4
  have f7 := f.2.2.2.2.2
  refine cv_of cdX0_goName ?_
  show EV _ _ 0 [rv 8, rv (tc : Int), iv (e : Int), iv sg, uv] [] h _
  refine ev_aload_n dX0_goName_0 rfl ?_
  refine ev_bipush dX0_goName_1 ?_
  refine ev_iload_n dX0_goName_3 rfl ?_
  refine ev_cvi dX0_goName_4 lX0_137 (s_ofB hT he) (by decide) hT.t.o.1.1 hT.t.o.1.2 rfl rfl rfl (Nat.le_of_ble_eq_true rfl) rfl (fun q z q9 => ?_)
  obtain ⟨q1, eq⟩ := q9
  rw [q1, eq, if_pos h57]
  obtain ⟨bz, hbz⟩ : ∃ bz, bd (TBL L) e = bz := ⟨_, rfl⟩
  rw [hbz] at hbl hb4 hb5 ⊢
  refine ev_ist4 dX0_goName_7 ?_
  refine ev_iload dX0_goName_9 rfl ?_
  by_cases d : bz < 0
  · skip
    refine ev_ifge 23 dX0_goName_11 (fun h_no => (by exfalso; omega)) (fun hb => ?_)
    refine ev_aload_n dX0_goName_14 rfl ?_
    refine ev_iconst dX0_goName_15 ?_
    refine ev_iload_n dX0_goName_16 rfl ?_
    refine ev_cvv dX0_goName_17 lX0_89 (s_failQ (fv := h.vl 23) (st := st) (lz := lz) (gz := gz) (yl := YL h a N) (N' := N) (b := 210) (e := e) (k := 3) (R := lfR L kp e S) f hs p hf (by decide) (fun S' => by unfold lfR; rw [if_pos h57, if_pos (by rw [hbz]; exact d)])) (by decide) g.1.k8 g.1.n8 rfl rfl rfl (Nat.le_of_ble_eq_true rfl) rfl (fun h1 q => ?_)
    refine ev_gt 116 dX0_goName_20 ?_
    exact ev_vret dX0_goName_116 (⟨rfl, q⟩)
  have d0 : 0 ≤ bz := by omega
  obtain ⟨b, rfl⟩ : ∃ b : Nat, bz = (b : Int) := ⟨bz.toNat, by omega⟩
  have hbL : b < L.length := by omega
  have hb4 := hb4 d0
  have hb5 := hb5 d0
  rw [show ((b : Nat) : Int).toNat = b from rfl] at hb4 hb5
  have hR : ∀ (r : IR) (S' : IS), (r = (0, -1, -1, -1) ∧ S' = (if TBL L 57 b = 4 then isF S e (S.2.2.1 b) S.1 else isF S e (insT S (S.2.1 (fstN L b))) (S.1 + S.1))) → lfR L kp e S r S' := fun r S' z => by
    unfold lfR
    rw [if_pos h57, hbz, if_neg d]
    exact z
  refine ev_ifge 23 dX0_goName_11 (fun hb => ?_) (fun h_no => (by exfalso; omega))
  refine ev_aload_n dX0_goName_23 rfl ?_
  refine ev_iconst dX0_goName_24 ?_
  refine ev_iload dX0_goName_25 rfl ?_
  refine ev_cvi dX0_goName_27 lX0_137 (s_ofL (k := 0) hT (by decide) hbL) (by decide) hT.t.o.1.1 hT.t.o.1.2 rfl rfl rfl (Nat.le_of_ble_eq_true rfl) rfl (fun q z q9 => ?_)
  obtain ⟨q1, eq⟩ := q9
  rw [q1, eq, show TBL L (colC 0) b = TBL L 57 b from rfl]
  refine ev_iconst dX0_goName_30 ?_
  by_cases d4 : TBL L 57 b = 4
  · skip
    obtain ⟨b9, c, c1, c2, c3⟩ := hs.2.2.2.1 b (hb4 d4)
    refine ev_icmpne 51 dX0_goName_31 (fun h_no => (by exfalso; omega)) (fun hb2 => ?_)
    refine ev_aload_n dX0_goName_34 rfl ?_
    refine ev_iload_n dX0_goName_35 rfl ?_
    refine ev_aload_n dX0_goName_36 rfl ?_
    refine ev_getrv dX0_goName_37 fX0_29 g.1.k8 g.1.n8 rfl v3 ?_
    refine ev_iload dX0_goName_40 rfl ?_
    refine ev_csi dX0_goName_42 lX0_81 (s_atI g.1.k24 g.1.n24 (by decide)) (by decide) rfl rfl (Nat.le_of_ble_eq_true rfl) rfl (fun q z q9 => ?_)
    obtain ⟨q1, eq⟩ := q9
    rw [q1, eq, if_pos (by omega), show ((b : Nat) : Int).toNat = b from rfl, c2]
    refine ev_cvv dX0_goName_45 lX0_154 (s_endQ (S := S) (nv' := S.1) (lz := lz) (gz := gz) (h' := h) (a' := a) (N' := N) (b := 210) (R := lfR L kp e S) f hs hsc p (by omega) c1 c3 hSe hf h9 h5 rfl ⟨Nat.le_refl _, Nat.le_refl _⟩ (by omega) (hR _ _ ⟨rfl, by rw [if_pos d4]⟩)) (by decide) g.1.k8 g.1.n8 rfl rfl rfl (Nat.le_of_ble_eq_true rfl) rfl (fun h2 q => ?_)
    refine ev_gt 116 dX0_goName_48 ?_
    exact ev_vret dX0_goName_116 (⟨rfl, q⟩)
  obtain ⟨sb, gf⟩ := hb5 d4
  obtain ⟨b9, i, sh, bb, P, xs, i1, i2, i3, i4, i5⟩ := hs.2.2.2.2.1 b sb
  obtain ⟨j1, j2, j3⟩ := i5.ins gf
  refine ev_icmpne 51 dX0_goName_31 (fun hb2 => ?_) (fun h_no => (by exfalso; omega))
  refine ev_aload_n dX0_goName_51 rfl ?_
  refine ev_getiv dX0_goName_52 fX0_77 g.1.k8 g.1.n8 rfl f7 ?_
  refine ev_ifne 86 dX0_goName_55 (fun h_no => (by exfalso; omega)) (fun hb3 => ?_)
  refine ev_aload_n dX0_goName_58 rfl ?_
  refine ev_iload_n dX0_goName_59 rfl ?_
  refine ev_aload_n dX0_goName_60 rfl ?_
  refine ev_getrv dX0_goName_61 fX0_12 g.1.k8 g.1.n8 rfl v0 ?_
  refine ev_aload_n dX0_goName_64 rfl ?_
  refine ev_aload_n dX0_goName_65 rfl ?_
  refine ev_getrv dX0_goName_66 fX0_32 g.1.k8 g.1.n8 rfl v4 ?_
  refine ev_iload dX0_goName_69 rfl ?_
  refine ev_csi dX0_goName_71 lX0_81 (s_atI g.1.k25 g.1.n25 (by decide)) (by decide) rfl rfl (Nat.le_of_ble_eq_true rfl) rfl (fun q z q9 => ?_)
  obtain ⟨q1, eq⟩ := q9
  rw [q1, eq, if_pos (by omega), show ((b : Nat) : Int).toNat = b from rfl, i2]
  refine ev_cvr dX0_goName_74 lX0_178 (s_scheme1 g (by omega) i3) (by decide) g.1.k8 g.1.n8 rfl rfl rfl (Nat.le_of_ble_eq_true rfl) rfl (fun q z q9 => ?_)
  obtain ⟨q1, eq⟩ := q9
  rw [q1, eq]
  refine ev_cvi dX0_goName_77 lX0_126 (s_makeY (nm := scN S xs) (nv' := S.1 + S.1) hs.1 (by omega) i4 i5.1.1 j2 j3 (Nat.le_add_right _ _)) (by decide) g.1.k9 g.1.n9 rfl rfl rfl (Nat.le_of_ble_eq_true rfl) rfl (fun q h1 q9 => ?_)
  obtain ⟨M, c, T1, τ1, rfl, u, hc, hM, hX⟩ := q9
  obtain ⟨a1, K1, cs1, f1, n1, t1, x1⟩ := hs.gr f hsc (Nat.le_add_right _ _) u
  have g1 := f1.g
  have v8 : h1.vl 8 = h.vl 8 := x1.v (g.no (Or.inl (by decide))) (fun z => z)
  have p1 := p.x g x1 ⟨fun z => z, fun z => z, fun z => z, fun z => z⟩
  have szP := i5.1.1
  refine ev_cvv dX0_goName_80 lX0_154 (s_endQ (lz := lz) (gz := gz) (h' := h) (a' := a) (N' := N) (b := 210) (R := lfR L kp e S) f1 cs1 hsc p1 (by omega) hc (hX.trans j1.symm) hSe (hf.xt (fun j _ _ => by rw [v8])) (by rw [v8]; exact h9) ((x1.fl 5).trans h5) (x1.v (g.no (Or.inr (by decide))) (fun z => z)) n1 (by omega) (hR _ _ ⟨rfl, by rw [if_neg d4]⟩)) (by decide) g1.1.k8 g1.1.n8 rfl rfl rfl (Nat.le_of_ble_eq_true rfl) rfl (fun h2 q => ?_)
  refine ev_gt 116 dX0_goName_83 ?_
  exact ev_vret dX0_goName_116 (⟨rfl, q⟩)
end GLs
