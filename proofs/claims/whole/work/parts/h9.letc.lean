/-! lets in the class: the second stage -/
section Lt3
variable {h0 : AH} {a0 K0 : Nat → Nat} {L : List Nd} {kp : Nat → Option TE} {tc : Nat} {h : AH} {a K : Nat → Nat} {S : IS} {Dn Gn Sn : Nat → Prop} {N sc e yl : Nat} {T : Nat → TE} {τ : Nat → Nat} {st : List (Nat × Int × Int)} {s x gz lz res : Int} {fv : Nat → Int}
set_option maxRecDepth 100000 in
theorem s_let1 {c1 : Nat} (q : AtC h0 a0 K0 L kp tc S Dn Gn Sn N T τ sc ((e, s, x) :: st) gz lz fv yl res h a K) (hsc : sc < 12) (hN : N ≤ 40000) (he : e < L.length) (hL : L.length ≤ 120) (hst : st.length < 119) (hse : TBL L 60 e = (sndN L e : Int)) (hr' : res = (c1 : Int)) (hc1 : c1 < N) (hX1 : T c1 = S.2.1 (fstN L e)) (hlz : 0 ≤ lz ∧ lz ≤ 2000000000) (hGe : ∀ j ∈ ancN L e, TBL L 57 j = 4 → Gn j) (hSne : ¬ Sn e) :
    CV mX0_goLet 7 [rv 8, rv (tc : Int), iv (e : Int), iv 1] h (on fun h1 => (201 ≤ sz (S.2.1 (fstN L e)) ∧ FaC h0 a0 K0 L kp tc (10, (e : Int), -1, -1) h1) ∨ (¬ 201 ≤ sz (S.2.1 (fstN L e)) ∧ ∃ a1 K1, AtC h0 a0 K0 L kp tc (isGn L S e) Dn Gn (fun d => Sn d ∨ d = e) N T τ (sc + 1) ((sndN L e, 0, -1) :: (e, s, x) :: st) gz (lz + 1) fv yl res h1 a1 K1)) := by
  have hsc' : sc ≤ 12 := by omega
  subst hr'
  have g := q.1.g
  have v0 := g.1.v8_0
  have f7 := q.1.2.2.2.2.2
  have r8 := q.2.2.2.2.2.2.2
  refine cv_of cdX0_goLet ?_
  show EV _ _ 0 [rv 8, rv (tc : Int), iv (e : Int), iv 1, uv, uv] [] h _
  refine ev_iload_n dX0_goLet_0 rfl ?_
  refine ev_ifne 20 dX0_goLet_1 (fun hb => ?_) (fun h_no => (by exfalso; omega))
  refine ev_iload_n dX0_goLet_20 rfl ?_
  refine ev_iconst dX0_goLet_21 ?_
  refine ev_icmpne 37 dX0_goLet_22 (fun hb2 => ?_) (fun h_no => (by exfalso; omega))
  refine ev_aload_n dX0_goLet_37 rfl ?_
  refine ev_getiv dX0_goLet_38 fX0_77 g.1.k8 g.1.n8 rfl f7 ?_
  refine ev_ifeq 60 dX0_goLet_41 (fun hb3 => ?_) (fun h_no => (by exfalso; omega))
  refine ev_aload_n dX0_goLet_60 rfl ?_
  refine ev_getrv dX0_goLet_61 fX0_12 g.1.k8 g.1.n8 rfl v0 ?_
  refine ev_aload_n dX0_goLet_64 rfl ?_
  refine ev_getiv dX0_goLet_65 fX0_115 g.1.k8 g.1.n8 rfl r8 ?_
  refine ev_cvi dX0_goLet_68 lX0_85 (s_sizeA q hsc' (by omega) hc1) (by decide) g.1.k9 g.1.n9 rfl rfl rfl (Nat.le_of_ble_eq_true rfl) rfl (fun r h1 q9 => ?_)
  obtain ⟨r1, a1, K1, q1⟩ := q9
  rw [r1, hX1]
  have g1 := q1.1.g
  have sz1 : szc (S.2.1 (fstN L e)) = if sz (S.2.1 (fstN L e)) ≤ 201 then (sz (S.2.1 (fstN L e)) : Int) else 201 := rfl
  have v01 := g1.1.v8_0
  refine ev_sipush dX0_goLet_71 ?_
  by_cases d : 201 ≤ sz (S.2.1 (fstN L e))
  · skip
    obtain ⟨f2, hs2, hp2, ⟨i1, i2, i3, i4⟩, -⟩ := id q1
    refine ev_icmple 87 dX0_goLet_74 (fun h_no => (by exfalso; rw [sz1] at h_no; split at h_no <;> omega)) (fun hb4 => ?_)
    refine ev_aload_n dX0_goLet_77 rfl ?_
    refine ev_bipush dX0_goLet_78 ?_
    refine ev_iload_n dX0_goLet_80 rfl ?_
    refine ev_cvv dX0_goLet_81 lX0_89 (s_failF g1) (by decide) g1.1.k8 g1.1.n8 rfl rfl rfl (Nat.le_of_ble_eq_true rfl) rfl (fun h3 q3 => ?_)
    obtain ⟨c3, r1, r2, r3⟩ := q3
    refine ev_gt 204 dX0_goLet_84 ?_
    exact ev_vret dX0_goLet_204 (⟨rfl, Or.inl ⟨d, ⟨r1, r2, (r3 12 (by decide) (by decide)).trans i3, (r3 13 (by decide) (by decide)).trans i4⟩, a1, K1, f2.st c3 (r3 7 (by decide) (by decide)) (by decide) (fun s hs z => by have z : s = 8 := z; omega) (fun y z => Or.inl z), hs2.ke, _, hp2.x g1 c3 (by decide)⟩⟩)
  refine ev_icmple 87 dX0_goLet_74 (fun hb4 => ?_) (fun h_no => (by exfalso; rw [sz1] at h_no; split at h_no <;> omega))
  refine ev_aload_n dX0_goLet_87 rfl ?_
  refine ev_getrv dX0_goLet_88 fX0_12 g1.1.k8 g1.1.n8 rfl v01 ?_
  have l1 := q1.2.2.2.2.1.2
  refine ev_cvi dX0_goLet_91 lX0_181 (s_newMark g1 l1 (by omega)) (by decide) g1.1.k9 g1.1.n9 rfl rfl rfl (Nat.le_of_ble_eq_true rfl) rfl (fun r h2 q9 => ?_)
  obtain ⟨r1, e2⟩ := q9
  rw [r1]
  have d2 : YC h1 a1 K1 h2 a1 K1 [] [5] := by rw [e2]; exact g1.pf (by decide)
  have l2 : h2.vl 9 5 = lz + 1 := by rw [e2, AH.put_vl, if_pos ⟨rfl, rfl⟩]
  have mks := q1.2.1.1.2.2.2.1
  have er3 := d2.rw' 3
  have mk2 : YMk h2 a1 N := by
    refine ⟨by omega, fun c hc => ?_⟩
    rw [er3.2, l2]
    have := mks.2 c hc
    omega
  have q2 := q1.mk hsc' (d2.wk (by decide) (by decide) : YC h1 a1 K1 h2 a1 K1 [3, 10] [5]) (fun j hj => Or.inl (List.mem_singleton.mp hj)) (fun _ _ => rfl) mk2 l2
  have g2 := q2.1.g
  have hT2 := q2.1.2.2.2.1.l
  obtain ⟨rr, tr, G, hTr⟩ := q2.2.1.1.2.2.1
  have mr2 : MkR h2 a1 N rr (lz + 1) (fun c => ∃ j ∈ ([] : List Nat), oc (c + 2) (tr (h2.vl 24 j).toNat) = true) := by
    have no : ∀ c, c < N → h2.vl (a1 3) c ≠ lz + 1 := fun c hc => by
      rw [er3.2]
      have := mks.2 c hc
      omega
    exact ⟨fun c hc _ hm => absurd hm (no c hc), fun c hc _ _ => ⟨fun z => absurd z (no c hc), fun ⟨j, hj, _⟩ => nomatch hj⟩⟩
  refine ev_ist4 dX0_goLet_94 ?_
  refine ev_aload_n dX0_goLet_96 rfl ?_
  refine ev_iload_n dX0_goLet_97 rfl ?_
  refine ev_cvi dX0_goLet_98 lX0_184 (s_parT hT2.t he) (by decide) hT2.t.o.1.1 hT2.t.o.1.2 rfl rfl rfl (Nat.le_of_ble_eq_true rfl) rfl (fun r z q9 => ?_)
  obtain ⟨r1, eq⟩ := q9
  rw [r1, eq]
  refine ev_ist5 dX0_goLet_101 ?_
  have gd := (TBL_gd (L := L) e he).1
  refine let_marks (rr := rr) (tr := tr) (w24 := h2.vl 24) hsc' hN (by omega) 130 (TBL L 61 e) [] h2 a1 K1 (by omega) (by omega) hGe q2 G.w mr2 rfl (fun h3 a3 K3 v5 q3 w3 m3 h24 => ?_)
  rw [List.nil_append] at m3
  have g3 := q3.1.g
  have s3 := q3.2.1.1
  have v03 := g3.1.v8_0
  have r83 := q3.2.2.2.2.2.2.2
  have r63 := q3.2.1.2.2.2.2.2
  obtain ⟨am, ham⟩ : ∃ am : Nat → Bool, am = fun x => (envN L e).any (fun j => oc x (tr (h2.vl 24 j).toNat)) := ⟨_, rfl⟩
  have amE : ∀ c, (am (c + 2) = true ↔ ∃ j ∈ envN L e, oc (c + 2) (tr (h2.vl 24 j).toNat) = true) := fun c => by
    rw [ham]
    exact List.any_eq_true
  have hal : ∀ c, c < N → soY (h3.vl (a3 0)) c = 3 → rr c = c → (h3.vl (a3 3) c = lz + 1 ↔ am (c + 2) = true) := fun c hc hc3 hcr => (m3.2 c hc hc3 hcr).trans (amE c).symm
  have szt : sz (tr c1) ≤ 200 := by
    have e1 : sz (nmC τ (tr c1)) = sz (tr c1) := nm_sz _
    rw [hTr c1 hc1, hX1] at e1
    omega
  refine ev_aload_n dX0_goLet_148 rfl ?_
  refine ev_getrv dX0_goLet_149 fX0_12 g3.1.k8 g3.1.n8 rfl v03 ?_
  refine ev_aload_n dX0_goLet_152 rfl ?_
  refine ev_getiv dX0_goLet_153 fX0_115 g3.1.k8 g3.1.n8 rfl r83 ?_
  refine ev_aload_n dX0_goLet_156 rfl ?_
  refine ev_aload_n dX0_goLet_157 rfl ?_
  refine ev_getiv dX0_goLet_158 fX0_99 g3.1.k8 g3.1.n8 rfl r63 ?_
  refine ev_cvr dX0_goLet_161 lX0_178 (s_scheme g3 q3.1.2.1 hsc) (by decide) g3.1.k8 g3.1.n8 rfl rfl rfl (Nat.le_of_ble_eq_true rfl) rfl (fun r h4 q9 => ?_)
  obtain ⟨sh, b, e1, r1, c4, n4, w4, f4, v4, b4, o4, -, j4⟩ := q9
  rw [r1]
  have g4 := c4.1
  have v94 := g4.1.k9
  refine ev_iload dX0_goLet_164 rfl ?_
  have B4 : YB h4 K3 N := s3.2.1.x c4 (fun _ _ => rfl)
  have W4 : YW h4 a3 N rr tr := w3.x c4
  have r30 := c4.rw' 0
  have r33 := c4.rw' 3
  refine ev_cvv dX0_goLet_166 lX0_118 (s_spell (t := c1) (N := N) (sh := sh) (b := b) (R := 200) (rr := rr) (tr := tr) (am := am) g4 B4 W4 (by omega) hc1 szt w4 (Nat.le_refl _) (by rw [r30.2, r33.2]; exact hal)) (by decide) g4.1.k9 g4.1.n9 rfl rfl rfl (Nat.le_of_ble_eq_true rfl) rfl (fun h5 q9 => ?_)
  obtain ⟨a5, K5, c5, k5, w5⟩ := q9
  rw [← (tpA_row (am := am) (tr c1) []).1] at w5
  obtain ⟨q5, v5', F5⟩ := q3.sch hsc c4 n4 w4 f4 v4 b4 o4 j4 c5 k5 w5
  have g5 := q5.1.g
  have v55 := g5.1.v8_4
  have r65 := q5.2.1.2.2.2.2.2
  refine ev_aload_n dX0_goLet_169 rfl ?_
  refine ev_getrv dX0_goLet_170 fX0_32 g5.1.k8 g5.1.n8 rfl v55 ?_
  refine ev_iload_n dX0_goLet_173 rfl ?_
  refine ev_aload_n dX0_goLet_174 rfl ?_
  refine ev_getiv dX0_goLet_175 fX0_99 g5.1.k8 g5.1.n8 rfl r65 ?_
  refine ev_csv dX0_goLet_178 lX0_169 (s_putI g5.1.k25 g5.1.n25 (by decide)) (by decide) rfl rfl (Nat.le_of_ble_eq_true rfl) rfl (fun h6 e6 => ?_)
  rw [if_pos (by omega), show ((e : Nat) : Int).toNat = e from rfl] at e6
  have c6 : YX h5 a5 K5 h6 a5 K5 [] [] (fun y => y = 25) 0 := by rw [e6]; exact g5.pp ⟨by decide, cis_c (by decide)⟩
  have g6 := c6.1
  have r66 : h6.vl 8 6 = (sc : Int) := by rw [c6.v (g5.no (by decide)) (by decide)]; exact r65
  obtain ⟨h7, e7⟩ : ∃ h7, h7 = h6.put 8 6 ((sc : Int) + 1) := ⟨_, rfl⟩
  have hP : SchP L (isGn L S e) N T e (tpA am (tr c1) []).1 ((tpA am (tr c1) []).2.map (fun x => τ (x - 2))) := by
    refine SchP.mk G hTr hc1 hX1 (by rw [hX1]; omega) (fun c hc h3 hcr => ?_)
    rw [amE c]
    have one : ∀ j ∈ envN L e, (oc (c + 2) (tr (h2.vl 24 j).toNat) = true ↔ oc (τ c) (S.2.2.1 j) = true) := fun j hj => by
      obtain ⟨j1, j2⟩ := env_mem.mp hj
      obtain ⟨j9, cj, k1, k2, k3⟩ := q2.2.1.2.2.2.1 j (hGe j j1 j2)
      rw [k2, ← k3, ← hTr cj k1, show ((cj : Nat) : Int).toNat = cj from rfl]
      have := oc_nmC (P := VP (soY (h2.vl (a1 0))) N) (x := c + 2) G.inj ⟨by omega, by rw [Nat.add_sub_cancel]; exact hc, by rw [Nat.add_sub_cancel]; exact h3⟩ (tr cj) (G.vs k1)
      rw [Nat.add_sub_cancel] at this
      exact this.symm
    exact ⟨fun ⟨j, j1, j2⟩ => ⟨j, j1, (one j j1).mp j2⟩, fun ⟨j, j1, j2⟩ => ⟨j, j1, (one j j1).mpr j2⟩⟩
  have q7 := q5.sno hsc (by omega) hSne e6 e7 v5' w5 n4.2 hP
  have g7 := q7.1.g
  have hT7 := q7.1.2.2.2.1.l
  have w17 := g7.1.v8_1
  refine ev_aload_n dX0_goLet_181 rfl ?_
  refine ev_dup dX0_goLet_182 ?_
  refine ev_getiv dX0_goLet_183 fX0_99 g6.1.k8 g6.1.n8 rfl r66 ?_
  refine ev_iconst dX0_goLet_186 ?_
  refine ev_iadd dX0_goLet_187 (by unfold ir; omega) ?_
  refine ev_pt dX0_goLet_188 fX0_99 g6.1.k8 g6.1.n8 rfl ?_
  rw [← e7]
  refine ev_aload_n dX0_goLet_191 rfl ?_
  refine ev_getrv dX0_goLet_192 fX0_21 g7.1.k8 g7.1.n8 rfl w17 ?_
  refine ev_aload_n dX0_goLet_195 rfl ?_
  refine ev_iconst dX0_goLet_196 ?_
  refine ev_iload_n dX0_goLet_197 rfl ?_
  refine ev_cvi dX0_goLet_198 lX0_137 (s_ofL (k := 3) hT7 (by decide) he) (by decide) hT7.t.o.1.1 hT7.t.o.1.2 rfl rfl rfl (Nat.le_of_ble_eq_true rfl) rfl (fun r z q9 => ?_)
  obtain ⟨r1, eq⟩ := q9
  rw [r1, eq, show TBL L (colC 3) e = TBL L 60 e from rfl, hse]
  refine ev_cvv dX0_goLet_201 lX0_112 (s_enter (n := sndN L e) g7 q7.2.2.1 (by rw [List.length_cons]; omega)) (by decide) g7.1.k19 g7.1.n19 rfl rfl rfl (Nat.le_of_ble_eq_true rfl) rfl (fun h8 q8 => ?_)
  obtain ⟨c8, p8⟩ := q8
  exact ev_vret dX0_goLet_204 (⟨rfl, Or.inr ⟨d, a5, K5, q7.pt (by omega) c8 p8⟩⟩)
end Lt3
