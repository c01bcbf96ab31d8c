/-! applications in the class: what is to fit is laid down -/
section Ap2
variable {h0 : AH} {a0 K0 : Nat → Nat} {L : List Nd} {kp : Nat → Option TE} {tc : Nat} {h : AH} {a K : Nat → Nat} {S : IS} {Dn Gn Sn : Nat → Prop} {N sc e yl : Nat} {T : Nat → TE} {τ : Nat → Nat} {st : List (Nat × Int × Int)} {s x gz lz res : Int} {fv : Nat → Int}
/-- a type found for a node that goes on -/
theorem AtC.fnd {h1 : AH} {c nv' : Nat} {X : TE} (q : AtC h0 a0 K0 L kp tc (nv', S.2) Dn Gn Sn N T τ sc st gz lz fv yl res h a K) (hsc : sc ≤ 12) (he : e < 120) (hc : c < N) (hX : T c = X) (hSe : ∀ b, Sn b → fstN L b ≠ e) (hq : h1 = h.put 23 e (c : Int)) : AtC h0 a0 K0 L kp tc (isF S e X nv') (fun k => Dn k ∨ k = e) Gn Sn N T τ sc st gz lz (h1.vl 23) yl res h1 a K ∧ ∀ k, h1.vl 23 k = if k = e then (c : Int) else fv k := by
  obtain ⟨f, hs, hp, hf, ⟨h9, h5⟩, hv, hy, hr⟩ := q
  have g := f.g
  have c1 : YX h a K h1 a K [] [] (fun y => y = 23) 0 := by rw [hq]; exact g.pp ⟨by decide, cis_c (by decide)⟩
  have v8 : h1.vl 8 = h.vl 8 := c1.v (g.no (by decide)) (by decide)
  have v24 : h1.vl 24 = h.vl 24 := c1.v (g.no (by decide)) (by decide)
  have v23 : ∀ k, h1.vl 23 k = if k = e then (c : Int) else fv k := fun k => by
    rw [hq, AH.put_vl]
    by_cases z : k = e
    · rw [if_pos ⟨rfl, z⟩, if_pos z]
    · rw [if_neg (fun w => z w.2), if_neg z, hv]
  have no : (¬ (25 : Nat) = 23 ∧ ¬ (26 : Nat) = 23) ∧ ∀ s : Nat, 94 ≤ s → ¬ s = 23 := ⟨by decide, fun s hs => by omega⟩
  have s1 : CSt L (isF S e X nv') (fun k => Dn k ∧ k ≠ e) Gn Sn h1 a K N T τ sc := by
    refine (hs.wk (Dn' := fun k => Dn k ∧ k ≠ e) (fun k z => z.1) (fun _ z => z) (fun _ z => z)).go (S1 := isF S e X nv') (σ := []) c1 no (hs.1.xt c1 (fun _ _ => rfl)) ?_ (Nat.le_refl _) (fun _ _ => rfl) ⟨Nat.le_refl _, fun _ z => z⟩ (fun _ _ => rfl) (fun k z => ⟨by rw [v23, if_neg z.2, hv], upT_n z.2⟩) (fun k _ => ⟨by rw [v24], rfl⟩) (fun b z => ⟨upT_n (hSe b z), fun _ _ => rfl⟩) (by rw [v8]) f.2.1 hsc
    obtain ⟨t1, t2, t3, t4⟩ := hs.2.1
    exact ⟨(c1.fl 9).trans t1, trivial, t3, t4⟩
  obtain ⟨q1, q2, q3, q4⟩ := s1
  refine ⟨⟨f.st c1 (by rw [v8]) (by decide) no.2 (fun y z => Or.inr (by omega)), ⟨q1, q2, fun k z => ?_, q4⟩, hp.x g c1 (by decide), hf.xt (fun j _ _ => by rw [v8]), ⟨by rw [v8]; exact h9, (c1.fl 5).trans h5⟩, rfl, (YL.x c1 N).trans hy, by rw [v8]; exact hr⟩, v23⟩
  by_cases hk : k = e
  · subst hk
    exact ⟨he, c, hc, by rw [v23, if_pos rfl], by rw [hX]; exact (upT_s (f := S.2.1)).symm⟩
  · exact q3 k ⟨z.resolve_right hk, hk⟩
/-- a pair is to fit: x and y -/
def PrQ (h0 : AH) (a0 K0 : Nat → Nat) (L : List Nd) (kp : Nat → Option TE) (tc : Nat) (S : IS) (Dn Gn Sn : Nat → Prop) (N : Nat) (T : Nat → TE) (τ : Nat → Nat) (sc : Nat) (st : List (Nat × Int × Int)) (gz lz : Int) (fv : Nat → Int) (yl : Nat) (res : Int) (x y : Nat) (h1 : AH) : Prop := ∃ h a K a1 K1, AtC h0 a0 K0 L kp tc S Dn Gn Sn N T τ sc st gz lz fv yl res h a K ∧ YC h a K h1 a1 K1 [6, 7, 8] [9] ∧ YPs h1 a1 K1 [(x, y, false)] ∧ (∀ k, k < 6 ∨ 8 < k → K1 k = K k)
set_option maxRecDepth 100000 in
theorem s_app2 {c1 c2 : Nat} (q : AtC h0 a0 K0 L kp tc S Dn Gn Sn N T τ sc ((e, s, x) :: st) gz lz fv yl res h a K) (hsc : sc ≤ 12) (hN : N ≤ 40000) (he : e < L.length) (hL : L.length ≤ 120) (hSe : ∀ b, Sn b → fstN L b ≠ e) (hS2 : 2 ≤ S.1) (hx : x = (c1 : Int)) (hc1 : c1 < N) (hX1 : T c1 = S.2.1 (fstN L e)) (hr' : res = (c2 : Int)) (hc2 : c2 < N) (hX2 : T c2 = S.2.1 (sndN L e)) :
    CV mX0_goApplication 7 [rv 8, rv (tc : Int), iv (e : Int), iv 2] h (on fun h1 => ((201 ≤ sz (S.2.1 (fstN L e)) ∨ 201 ≤ sz (S.2.1 (sndN L e))) ∧ FaC h0 a0 K0 L kp tc (10, (e : Int), -1, -1) h1) ∨ (¬ (201 ≤ sz (S.2.1 (fstN L e)) ∨ 201 ≤ sz (S.2.1 (sndN L e))) ∧ ∃ T1 τ1 yl1 fv1, PrQ h0 a0 K0 L kp tc (isF S e (.var S.1) (S.1 + 1)) (fun k => Dn k ∨ k = e) Gn Sn (N + 2) T1 τ1 sc ((e, s, x) :: st) gz lz fv1 yl1 res c1 (N + 1) h1 ∧ (∀ k, k ≠ e → fv1 k = fv k) ∧ yl1 ≤ yl + 2 ∧ T1 c1 = S.2.1 (fstN L e) ∧ T1 (N + 1) = .op (S.2.1 (sndN L e)) (.var S.1) ∧ ∀ c, c < N → T1 c = T c)) := by
  obtain ⟨f, hs, hp, hf, ⟨h9, h5⟩, hv, hy, hr⟩ := id q
  have g := f.g
  have v0 := g.1.v8_0
  have w1 := g.1.v8_1
  have f7 := f.2.2.2.2.2
  subst hx hr'
  refine cv_of cdX0_goApplication ?_
  show EV _ _ 0 [rv 8, rv (tc : Int), iv (e : Int), iv 2, uv] [] h _
  refine ev_iload_n dX0_goApplication_0 rfl ?_
  refine ev_tsI 71 (70) dX0_goApplication_1 (by omega) (by omega) rfl ?_
  refine ev_aload_n dX0_goApplication_71 rfl ?_
  refine ev_getiv dX0_goApplication_72 fX0_77 g.1.k8 g.1.n8 rfl f7 ?_
  refine ev_ifeq 82 dX0_goApplication_75 (fun hb => ?_) (fun h_no => (by exfalso; omega))
  refine ev_aload_n dX0_goApplication_82 rfl ?_
  refine ev_getrv dX0_goApplication_83 fX0_12 g.1.k8 g.1.n8 rfl v0 ?_
  refine ev_aload_n dX0_goApplication_86 rfl ?_
  refine ev_getrv dX0_goApplication_87 fX0_21 g.1.k8 g.1.n8 rfl w1 ?_
  refine ev_cvi dX0_goApplication_90 lX0_193 (s_holding g hp) (by decide) g.1.k19 g.1.n19 rfl rfl rfl (Nat.le_of_ble_eq_true rfl) rfl (fun r z q9 => ?_)
  obtain ⟨r1, eq⟩ := q9
  rw [r1, eq]
  refine ev_cvi dX0_goApplication_93 lX0_85 (s_sizeA q hsc (by omega) hc1) (by decide) g.1.k9 g.1.n9 rfl rfl rfl (Nat.le_of_ble_eq_true rfl) rfl (fun r h1 q9 => ?_)
  obtain ⟨r1, a1, K1, q1⟩ := q9
  rw [r1, hX1]
  have g1 := q1.1.g
  have v1 := g1.1.v8_0
  have rs1 := q1.2.2.2.2.2.2.2
  refine ev_aload_n dX0_goApplication_96 rfl ?_
  refine ev_getrv dX0_goApplication_97 fX0_12 g1.1.k8 g1.1.n8 rfl v1 ?_
  refine ev_aload_n dX0_goApplication_100 rfl ?_
  refine ev_getiv dX0_goApplication_101 fX0_115 g1.1.k8 g1.1.n8 rfl rs1 ?_
  refine ev_cvi dX0_goApplication_104 lX0_85 (s_sizeA q1 hsc (by omega) hc2) (by decide) g1.1.k9 g1.1.n9 rfl rfl rfl (Nat.le_of_ble_eq_true rfl) rfl (fun r h2 q9 => ?_)
  obtain ⟨r1, a2, K2, q2⟩ := q9
  rw [r1, hX2]
  obtain ⟨f2, hs2, hp2, hf2, ⟨h92, h52⟩, hv2, hy2, hr2⟩ := id q2
  have g2 := f2.g
  have sz1 : szc (S.2.1 (fstN L e)) = if sz (S.2.1 (fstN L e)) ≤ 201 then (sz (S.2.1 (fstN L e)) : Int) else 201 := rfl
  have sz2 : szc (S.2.1 (sndN L e)) = if sz (S.2.1 (sndN L e)) ≤ 201 then (sz (S.2.1 (sndN L e)) : Int) else 201 := rfl
  obtain ⟨m, hm⟩ : ∃ m, m = (if szc (S.2.1 (fstN L e)) < szc (S.2.1 (sndN L e)) then szc (S.2.1 (sndN L e)) else szc (S.2.1 (fstN L e))) := ⟨_, rfl⟩
  have hm2 : 200 < m ↔ (201 ≤ sz (S.2.1 (fstN L e)) ∨ 201 ≤ sz (S.2.1 (sndN L e))) := by
    rw [hm, sz1, sz2]
    split <;> split <;> split <;> omega
  refine ev_mmax dX0_goApplication_107 q_703 q_689 q_169 q_690 rfl ?_
  rw [← hm]
  have v02 := g2.1.v8_0
  have v22 := g2.1.v8_2
  refine ev_ist4 dX0_goApplication_110 ?_
  refine ev_iload dX0_goApplication_112 rfl ?_
  refine ev_sipush dX0_goApplication_114 ?_
  by_cases d : 200 < m
  · skip
    refine ev_icmple 130 dX0_goApplication_117 (fun h_no => (by exfalso; omega)) (fun hb2 => ?_)
    refine ev_aload_n dX0_goApplication_120 rfl ?_
    refine ev_bipush dX0_goApplication_121 ?_
    refine ev_iload_n dX0_goApplication_123 rfl ?_
    refine ev_cvv dX0_goApplication_124 lX0_89 (s_failF g2) (by decide) g2.1.k8 g2.1.n8 rfl rfl rfl (Nat.le_of_ble_eq_true rfl) rfl (fun h3 q3 => ?_)
    obtain ⟨c3, r1, r2, r3⟩ := q3
    obtain ⟨i1, i2, i3, i4⟩ := hf2
    refine ev_gt 234 dX0_goApplication_127 ?_
    exact ev_vret dX0_goApplication_234 (⟨rfl, Or.inl ⟨hm2.mp d, ⟨r1, r2, (r3 12 (by decide) (by decide)).trans i3, (r3 13 (by decide) (by decide)).trans i4⟩, a2, K2, f2.st c3 (r3 7 (by decide) (by decide)) (by decide) (fun s hs z => by have z : s = 8 := z; omega) (fun y z => Or.inl z), hs2.ke, _, hp2.x g2 c3 (by decide)⟩⟩)
  refine ev_icmple 130 dX0_goApplication_117 (fun hb2 => ?_) (fun h_no => (by exfalso; omega))
  refine ev_aload_n dX0_goApplication_130 rfl ?_
  refine ev_getrv dX0_goApplication_131 fX0_25 g2.1.k8 g2.1.n8 rfl v22 ?_
  refine ev_iload_n dX0_goApplication_134 rfl ?_
  refine ev_aload_n dX0_goApplication_135 rfl ?_
  refine ev_getrv dX0_goApplication_136 fX0_12 g2.1.k8 g2.1.n8 rfl v02 ?_
  refine ev_iconst dX0_goApplication_139 ?_
  refine ev_iconst dX0_goApplication_140 ?_
  refine ev_cvi dX0_goApplication_141 lX0_122 (s_addT g2 hs2.1.2.1 (by omega)) (by decide) g2.1.k9 g2.1.n9 rfl rfl rfl (Nat.le_of_ble_eq_true rfl) rfl (fun r h3 q9 => ?_)
  obtain ⟨rfl, y3⟩ := q9
  obtain ⟨τ3, u3⟩ := hs2.1.var (nm := S.1) (nv' := S.1 + 1) ⟨Nat.le_refl _, hS2, Nat.lt_succ_self _⟩ y3
  obtain ⟨a3, K3, yl3, q3, n3, t3⟩ := q2.gx hsc (Nat.le_succ _) u3
  have g3 := q3.1.g
  refine ev_csv dX0_goApplication_144 lX0_169 (s_putI g3.1.k23 g3.1.n23 (by decide)) (by decide) rfl rfl (Nat.le_of_ble_eq_true rfl) rfl (fun h4 e4 => ?_)
  rw [if_pos (by omega), show ((e : Nat) : Int).toNat = e from rfl] at e4
  obtain ⟨q4, v4⟩ := q3.fnd (c := N) (e := e) (X := .var S.1) hsc (by omega) (by omega) upT_s hSe e4
  have g4 := q4.1.g
  have v04 := g4.1.v8_0
  have w14 := g4.1.v8_1
  have v24 := g4.1.v8_2
  have r4 := q4.2.2.2.2.2.2.2
  refine ev_aload_n dX0_goApplication_147 rfl ?_
  refine ev_getrv dX0_goApplication_148 fX0_12 g4.1.k8 g4.1.n8 rfl v04 ?_
  refine ev_aload_n dX0_goApplication_151 rfl ?_
  refine ev_getrv dX0_goApplication_152 fX0_21 g4.1.k8 g4.1.n8 rfl w14 ?_
  refine ev_cvi dX0_goApplication_155 lX0_193 (s_holding g4 q4.2.2.1) (by decide) g4.1.k19 g4.1.n19 rfl rfl rfl (Nat.le_of_ble_eq_true rfl) rfl (fun r z q9 => ?_)
  obtain ⟨r1, eq⟩ := q9
  rw [r1, eq]
  refine ev_aload_n dX0_goApplication_158 rfl ?_
  refine ev_getrv dX0_goApplication_159 fX0_12 g4.1.k8 g4.1.n8 rfl v04 ?_
  refine ev_aload_n dX0_goApplication_162 rfl ?_
  refine ev_getiv dX0_goApplication_163 fX0_115 g4.1.k8 g4.1.n8 rfl r4 ?_
  refine ev_aload_n dX0_goApplication_166 rfl ?_
  refine ev_getrv dX0_goApplication_167 fX0_25 g4.1.k8 g4.1.n8 rfl v24 ?_
  refine ev_iload_n dX0_goApplication_170 rfl ?_
  refine ev_csi dX0_goApplication_171 lX0_81 (s_atI g4.1.k23 g4.1.n23 (by decide)) (by decide) rfl rfl (Nat.le_of_ble_eq_true rfl) rfl (fun r z q9 => ?_)
  obtain ⟨r1, eq⟩ := q9
  rw [r1, eq, if_pos (by omega), show ((e : Nat) : Int).toNat = e from rfl, v4, if_pos rfl]
  refine ev_cvi dX0_goApplication_174 lX0_122 (s_addT g4 q4.2.1.1.2.1 (by omega)) (by decide) g4.1.k9 g4.1.n9 rfl rfl rfl (Nat.le_of_ble_eq_true rfl) rfl (fun r h5 q9 => ?_)
  obtain ⟨rfl, y5⟩ := q9
  obtain ⟨τ5, u5⟩ := q4.2.1.1.arr (x := c2) (y := N) (by omega) (by omega) y5
  obtain ⟨a5, K5, yl5, q5, n5, t5⟩ := q4.gx hsc (Nat.le_refl _) u5
  have g5 := q5.1.g
  refine ev_iconst dX0_goApplication_177 ?_
  refine ev_cvv dX0_goApplication_178 lX0_130 (s_addPair (x := c1) (y := N + 1) (j := false) (st := []) g5 q5.2.1.2.1 (Nat.zero_le _)) (by decide) g5.1.k9 g5.1.n9 rfl rfl rfl (Nat.le_of_ble_eq_true rfl) rfl (fun h6 q6 => ?_)
  obtain ⟨a6, K6, d6, p6, k6, -⟩ := q6
  refine ev_gt 234 dX0_goApplication_181 ?_
  refine ev_vret dX0_goApplication_234 (⟨rfl, Or.inr ⟨fun z => d (hm2.mpr z), _, τ5, yl5, _, ⟨h5, a5, K5, a6, K6, q5, d6, p6, k6⟩, fun k hk => by rw [v4, if_neg hk], by omega, ?_, ?_, fun c hc => ?_⟩⟩)
  · rw [t5 c1 (by omega), t3 c1 hc1, hX1]
  · rw [upT_s, t3 c2 hc2, hX2, upT_s]
  · rw [t5 c (by omega), t3 c hc]
end Ap2
