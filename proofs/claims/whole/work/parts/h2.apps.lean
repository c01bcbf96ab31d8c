/-! applications in the class: their stages -/
section App
variable {h0 : AH} {a0 K0 : Nat → Nat} {L : List Nd} {kp : Nat → Option TE} {tc : Nat} {h : AH} {a K : Nat → Nat} {S : IS} {Dn Gn Sn : Nat → Prop} {N sc e yl : Nat} {T : Nat → TE} {τ : Nat → Nat} {st : List (Nat × Int × Int)} {s x gz lz res : Int} {fv : Nat → Int}
set_option maxRecDepth 100000 in
theorem s_app0 (q : AtC h0 a0 K0 L kp tc S Dn Gn Sn N T τ sc ((e, s, x) :: st) gz lz fv yl res h a K) (hsc : sc ≤ 12) (he : e < L.length) (hst : st.length < 119) (hfe : TBL L 59 e = (fstN L e : Int)) : CV mX0_goApplication 7 [rv 8, rv (tc : Int), iv (e : Int), iv 0] h (on fun h1 => AtC h0 a0 K0 L kp tc S Dn Gn Sn N T τ sc ((fstN L e, 0, -1) :: (e, s, x) :: st) gz lz fv yl res h1 a K) := by
  obtain ⟨f, hs, hp, -⟩ := id q
  have g := f.g
  have w1 := g.1.v8_1
  have hT2 := f.2.2.2.1.l
  refine cv_of cdX0_goApplication ?_
  show EV _ _ 0 [rv 8, rv (tc : Int), iv (e : Int), iv 0, uv] [] h _
  refine ev_iload_n dX0_goApplication_0 rfl ?_
  refine ev_tsI 28 (27) dX0_goApplication_1 (by omega) (by omega) rfl ?_
  refine ev_aload_n dX0_goApplication_28 rfl ?_
  refine ev_getrv dX0_goApplication_29 fX0_21 g.1.k8 g.1.n8 rfl w1 ?_
  refine ev_aload_n dX0_goApplication_32 rfl ?_
  refine ev_iconst dX0_goApplication_33 ?_
  refine ev_iload_n dX0_goApplication_34 rfl ?_
  refine ev_cvi dX0_goApplication_35 lX0_137 (s_ofL (k := 2) hT2 (by decide) he) (by decide) hT2.t.o.1.1 hT2.t.o.1.2 rfl rfl rfl (Nat.le_of_ble_eq_true rfl) rfl (fun r z q9 => ?_)
  obtain ⟨r1, eq⟩ := q9
  rw [r1, eq, show TBL L (colC 2) e = TBL L 59 e from rfl, hfe]
  refine ev_cvv dX0_goApplication_38 lX0_112 (s_enter (n := fstN L e) g hp (by rw [List.length_cons]; omega)) (by decide) g.1.k19 g.1.n19 rfl rfl rfl (Nat.le_of_ble_eq_true rfl) rfl (fun h3 q3 => ?_)
  obtain ⟨c3, p3⟩ := q3
  refine ev_gt 234 dX0_goApplication_41 ?_
  exact ev_vret dX0_goApplication_234 (⟨rfl, q.pt hsc c3 p3⟩)
set_option maxRecDepth 100000 in
theorem s_app1 (q : AtC h0 a0 K0 L kp tc S Dn Gn Sn N T τ sc ((e, s, x) :: st) gz lz fv yl res h a K) (hsc : sc ≤ 12) (he : e < L.length) (hst : st.length < 119) (hse : TBL L 60 e = (sndN L e : Int)) : CV mX0_goApplication 7 [rv 8, rv (tc : Int), iv (e : Int), iv 1] h (on fun h1 => AtC h0 a0 K0 L kp tc S Dn Gn Sn N T τ sc ((sndN L e, 0, -1) :: (e, s, res) :: st) gz lz fv yl res h1 a K) := by
  obtain ⟨f, hs, hp, hf, h95, hv, hy, hr⟩ := id q
  have g := f.g
  have w1 := g.1.v8_1
  refine cv_of cdX0_goApplication ?_
  show EV _ _ 0 [rv 8, rv (tc : Int), iv (e : Int), iv 1, uv] [] h _
  refine ev_iload_n dX0_goApplication_0 rfl ?_
  refine ev_tsI 44 (43) dX0_goApplication_1 (by omega) (by omega) rfl ?_
  refine ev_aload_n dX0_goApplication_44 rfl ?_
  refine ev_getrv dX0_goApplication_45 fX0_21 g.1.k8 g.1.n8 rfl w1 ?_
  refine ev_aload_n dX0_goApplication_48 rfl ?_
  refine ev_getiv dX0_goApplication_49 fX0_115 g.1.k8 g.1.n8 rfl hr ?_
  refine ev_cvv dX0_goApplication_52 lX0_190 (s_hold (y := res) g hp) (by decide) g.1.k19 g.1.n19 rfl rfl rfl (Nat.le_of_ble_eq_true rfl) rfl (fun h1 q1 => ?_)
  obtain ⟨c1, p1⟩ := q1
  have q2 := q.pt hsc c1 p1
  have g1 := c1.1
  have w1' := g1.1.v8_1
  have hT2 := q2.1.2.2.2.1.l
  refine ev_aload_n dX0_goApplication_55 rfl ?_
  refine ev_getrv dX0_goApplication_56 fX0_21 g1.1.k8 g1.1.n8 rfl w1' ?_
  refine ev_aload_n dX0_goApplication_59 rfl ?_
  refine ev_iconst dX0_goApplication_60 ?_
  refine ev_iload_n dX0_goApplication_61 rfl ?_
  refine ev_cvi dX0_goApplication_62 lX0_137 (s_ofL (k := 3) hT2 (by decide) he) (by decide) hT2.t.o.1.1 hT2.t.o.1.2 rfl rfl rfl (Nat.le_of_ble_eq_true rfl) rfl (fun r z q9 => ?_)
  obtain ⟨r1, eq⟩ := q9
  rw [r1, eq, show TBL L (colC 3) e = TBL L 60 e from rfl, hse]
  refine ev_cvv dX0_goApplication_65 lX0_112 (s_enter (n := sndN L e) g1 p1 (by rw [List.length_cons]; omega)) (by decide) g1.1.k19 g1.1.n19 rfl rfl rfl (Nat.le_of_ble_eq_true rfl) rfl (fun h3 q3 => ?_)
  obtain ⟨c3, p3⟩ := q3
  refine ev_gt 234 dX0_goApplication_68 ?_
  exact ev_vret dX0_goApplication_234 (⟨rfl, q2.pt hsc c3 p3⟩)
theorem upT_id {f : Nat → TE} {e : Nat} : upT f e (f e) = f := by
  funext j
  unfold upT
  split
  · rename_i z; rw [z]
  · rfl
set_option maxRecDepth 100000 in
theorem s_app3 {c1 : Nat} (q : AtC h0 a0 K0 L kp tc S Dn Gn Sn N T τ sc ((e, s, x) :: st) gz lz fv yl res h a K) (hsc : sc ≤ 12) (hN : N ≤ 40000) (he : e < L.length) (hL : L.length ≤ 120) (hSe : ∀ b, Sn b → fstN L b ≠ e) (hx : x = (c1 : Int)) (hc1 : c1 < N) (hX1 : T c1 = S.2.1 (fstN L e)) (hD : Dn e) : CV mX0_goApplication 7 [rv 8, rv (tc : Int), iv (e : Int), iv 3] h (on fun h1 => GdQ h0 a0 K0 L kp tc S Dn Gn Sn sc st e gz lz fv yl N 0 (fun r S' => if 201 ≤ sz (S.2.1 (fstN L e)) then r = (10, (e : Int), -1, -1) else r = (0, -1, -1, -1) ∧ S' = S) h1) := by
  obtain ⟨f, hs, hp, hf, ⟨h9, h5⟩, hv, hy, hr⟩ := id q
  have g := f.g
  have v0 := g.1.v8_0
  have w1 := g.1.v8_1
  have f7 := f.2.2.2.2.2
  subst hx
  refine cv_of cdX0_goApplication ?_
  show EV _ _ 0 [rv 8, rv (tc : Int), iv (e : Int), iv 3, uv] [] h _
  refine ev_iload_n dX0_goApplication_0 rfl ?_
  refine ev_tsO 184 dX0_goApplication_1 (Or.inr (by omega)) ?_
  refine ev_aload_n dX0_goApplication_184 rfl ?_
  refine ev_getiv dX0_goApplication_185 fX0_77 g.1.k8 g.1.n8 rfl f7 ?_
  refine ev_ifne 221 dX0_goApplication_188 (fun h_no => (by exfalso; omega)) (fun hb => ?_)
  refine ev_aload_n dX0_goApplication_191 rfl ?_
  refine ev_getrv dX0_goApplication_192 fX0_12 g.1.k8 g.1.n8 rfl v0 ?_
  refine ev_aload_n dX0_goApplication_195 rfl ?_
  refine ev_getrv dX0_goApplication_196 fX0_21 g.1.k8 g.1.n8 rfl w1 ?_
  refine ev_cvi dX0_goApplication_199 lX0_193 (s_holding g hp) (by decide) g.1.k19 g.1.n19 rfl rfl rfl (Nat.le_of_ble_eq_true rfl) rfl (fun r z q9 => ?_)
  obtain ⟨r1, eq⟩ := q9
  rw [r1, eq]
  refine ev_cvi dX0_goApplication_202 lX0_85 (s_sizeA q hsc (by omega) hc1) (by decide) g.1.k9 g.1.n9 rfl rfl rfl (Nat.le_of_ble_eq_true rfl) rfl (fun r h1 q9 => ?_)
  obtain ⟨r1, a1, K1, q1⟩ := q9
  rw [r1, hX1]
  obtain ⟨f1, hs1, hp1, hf1, ⟨h91, h51⟩, hv1, hy1, hr1⟩ := id q1
  have g1 := f1.g
  have v2 := g1.1.v8_2
  refine ev_sipush dX0_goApplication_205 ?_
  have sc1 : szc (S.2.1 (fstN L e)) = if sz (S.2.1 (fstN L e)) ≤ 201 then (sz (S.2.1 (fstN L e)) : Int) else 201 := rfl
  by_cases d : 201 ≤ sz (S.2.1 (fstN L e))
  · skip
    refine ev_icmple 221 dX0_goApplication_208 (fun h_no => (by exfalso; rw [sc1] at h_no; split at h_no <;> omega)) (fun hb2 => ?_)
    refine ev_aload_n dX0_goApplication_211 rfl ?_
    refine ev_bipush dX0_goApplication_212 ?_
    refine ev_iload_n dX0_goApplication_214 rfl ?_
    refine ev_cvv dX0_goApplication_215 lX0_89 (s_failQ (fv := fv) (st := st) (lz := lz) (gz := gz) (yl := yl) (N' := N) (b := 0) (e := e) (k := 10) (R := fun r S' => if 201 ≤ sz (S.2.1 (fstN L e)) then r = (10, (e : Int), -1, -1) else r = (0, -1, -1, -1) ∧ S' = S) f1 hs1 hp1 hf1 (by decide) (fun S' => by rw [if_pos d])) (by decide) g1.1.k8 g1.1.n8 rfl rfl rfl (Nat.le_of_ble_eq_true rfl) rfl (fun h2 q2 => ?_)
    refine ev_gt 234 dX0_goApplication_218 ?_
    exact ev_vret dX0_goApplication_234 (⟨rfl, q2⟩)
  obtain ⟨e9, cf, d1, d2, d3⟩ := hs1.2.2.1 e hD
  refine ev_icmple 221 dX0_goApplication_208 (fun hb2 => ?_) (fun h_no => (by exfalso; rw [sc1] at h_no; split at h_no <;> omega))
  refine ev_aload_n dX0_goApplication_221 rfl ?_
  refine ev_iload_n dX0_goApplication_222 rfl ?_
  refine ev_aload_n dX0_goApplication_223 rfl ?_
  refine ev_getrv dX0_goApplication_224 fX0_25 g1.1.k8 g1.1.n8 rfl v2 ?_
  refine ev_iload_n dX0_goApplication_227 rfl ?_
  refine ev_csi dX0_goApplication_228 lX0_81 (s_atI g1.1.k23 g1.1.n23 (by decide)) (by decide) rfl rfl (Nat.le_of_ble_eq_true rfl) rfl (fun r z q9 => ?_)
  obtain ⟨r1, eq⟩ := q9
  rw [r1, eq, if_pos (by omega), show ((e : Nat) : Int).toNat = e from rfl, d2]
  refine ev_cvv dX0_goApplication_231 lX0_154 (s_endA (S := S) (nv' := S.1) (N' := N) (yl' := yl) (b := 0) (R := fun r S' => if 201 ≤ sz (S.2.1 (fstN L e)) then r = (10, (e : Int), -1, -1) else r = (0, -1, -1, -1) ∧ S' = S) q1 hsc (by omega) d1 d3 hSe ⟨Nat.le_refl _, Nat.le_refl _⟩ (Nat.le_refl _) (by rw [if_neg d]; exact ⟨rfl, by unfold isF; rw [upT_id]⟩)) (by decide) g1.1.k8 g1.1.n8 rfl rfl rfl (Nat.le_of_ble_eq_true rfl) rfl (fun h2 q2 => ?_)
  exact ev_vret dX0_goApplication_234 (⟨rfl, q2⟩)
end App
