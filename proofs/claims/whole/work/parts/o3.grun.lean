/-! the class: run -/
section Grn
variable {h h1 h2 : AH} {a K a1 K1 : Nat → Nat} {v bv sv : Nat → Int} {isS : Int} {c : Nat} {pv : Nat → Nat → Int} {w d cw cd : Int} {X1 X3 : List Int} {b1 N1 b3 N3 : Nat}
/-- now takes before -/
theorem s_nowJ (j : JC h a K v bv isS sv c pv w d cw cd X1 X3 b1 N1 b3 N3) : CV mX6_take 2 [rv 31, rv 34] h (on fun h1 => JQ h K N1 N3 0 0 bv bv isS sv c pv w d cw cd X1 X3 h1) := by
  obtain ⟨ga, k, f⟩ := j.1
  have hC := ga.1
  obtain ⟨N, LL, kp, r1, r2⟩ := j.2.1.2.1
  refine cv_mono (s_take (a := 31) (ta := 32) (ka := 33) (b := 34) (tb := 35) (kb := 36) hC.st31 hC.st34 (by decide) r2.ok.1 r2.ok.2) fun o h1 q => ?_
  obtain ⟨e0, q⟩ := q
  obtain ⟨gc, okt⟩ := tk_gc (s := 31) (b := 34) (by decide) q
  have ok : ∀ x i, ((x = 31 ∧ 2 ≤ i) ∨ x = 31 + 1 ∨ x = 31 + 2) → OkC h x i := fun x i z => (okt x i z).okc
  have p := gc.1.pr ok ga f
  exact ⟨e0, a, K, b1, N1, b3, N3, OkT.fj gc ga okt, j.st gc.1 okt ⟨N, LL, kp, r1, r2.tk (N' := N) (LL' := LL) (kp' := kp) (g' := 0) (e' := 0) (tb := 0) (kb := 0) hC.st31 q p⟩ (j.2.1.2.1.st ga f gc.1 okt (by decide) (fun x i z => by omega)) (fun z => (j.2.1.2.2.2.2 z).st ga f gc.1 okt (by decide) (fun x i z => by omega))⟩
set_option maxRecDepth 100000 in
theorem run_bad {m : Nat} {i1 : Int} {u4 u5 : AV} (j : JC h a K v bv isS sv c pv w d cw cd X1 X3 b1 N1 b3 N3) (hw : w ≠ 0) : EV mX10_run 13 182 [rv 0, iv (m : Int), iv (-1), iv i1, u4, u5] [] h (fun oo h1 => oo = xv 1 ∧ JQ h K N1 N3 2 9 bv bv isS sv c pv 9 (m : Int) w d [] X3 h1) := by
  have hC := j.1.1.1
  refine ev_aload_n dX10_run_182 rfl ?_
  refine ev_getrv dX10_run_183 fX10_12 hC.k0 hC.n0 rfl hC.v0_0 ?_
  refine ev_iconst dX10_run_186 ?_
  refine ev_cvv dX10_run_187 lX10_73 (s_empty j) (by decide) hC.k1 hC.n1 rfl rfl rfl (Nat.le_of_ble_eq_true rfl) rfl (fun h1 q => ?_)
  obtain ⟨a1, K1, b2, M2, b4, M4, f1, j1⟩ := q
  have hC1 := j1.1.1.1
  have n1 := hC1.1
  obtain ⟨z, hz⟩ : ∃ z, h1.vl 0 12 = z := ⟨_, rfl⟩
  refine ev_iload_n dX10_run_190 rfl ?_
  refine ev_ifge 234 dX10_run_191 (fun h_no => (by exfalso; omega)) (fun hb => ?_)
  refine ev_aload_n dX10_run_194 rfl ?_
  refine ev_new dX10_run_195 nX10_258 ?_
  refine ev_dup dX10_run_198 ?_
  refine ev_bipush dX10_run_199 ?_
  refine ev_iload_n dX10_run_201 rfl ?_
  have kn : (h1.new (4, 3)).kd h1.n = (4, 3) := by rw [AH.new_kd, if_pos rfl]
  have nn1 : h1.n < (h1.new (4, 3)).n := Nat.lt_succ_self _
  have k0 : (h1.new (4, 3)).kd 0 = (10, 13) := by rw [AH.new_kd, if_neg (by omega)]; exact hC1.k0
  have n0 : 0 < (h1.new (4, 3)).n := Nat.succ_pos _
  have z0 : (h1.new (4, 3)).vl 0 12 = z := by rw [AH.new_vl, if_neg (by omega)]; exact hz
  refine ev_aload_n dX10_run_202 rfl ?_
  refine ev_getrv dX10_run_203 fX10_260 k0 n0 rfl z0 ?_
  refine ev_ci dX10_run_206 lX10_264 (s_X4i kn nn1) (by decide) (by omega) rfl rfl (Nat.le_of_ble_eq_true rfl) rfl (fun h2 q => ?_)
  have k02 : h2.kd 0 = (10, 13) := by rw [q]; exact k0
  have n02 : 0 < h2.n := by rw [q]; exact n0
  refine ev_pt dX10_run_209 fX10_260 k02 n02 rfl ?_
  obtain ⟨h3, e3⟩ : ∃ h3, h3 = eRef 9 (m : Int) (h1.vl 0 12) h1 := ⟨_, rfl⟩
  rw [show h2.put 0 12 (h1.n : Int) = h3 by rw [e3, q, hz]; rfl]
  have jq3 : JQ h1 K1 M2 M4 1 3 v bv isS sv c pv 9 (m : Int) w d [] X3 h3 := by
    rw [e3]
    exact j1.rf eRef_gc (fun _ _ z => z) (eRef_rf2 n1 (by decide) j1.2.2.2.1 hw)
  obtain ⟨a3, K3, b5, M5, b6, M6, f3, j3⟩ := jq3
  have hC3 := j3.1.1.1
  refine ev_aload_n dX10_run_212 rfl ?_
  refine ev_getrv dX10_run_213 fX10_48 hC3.k0 hC3.n0 rfl hC3.v0_6 ?_
  refine ev_aload_n dX10_run_216 rfl ?_
  refine ev_getrv dX10_run_217 fX10_52 hC3.k0 hC3.n0 rfl hC3.v0_7 ?_
  refine ev_cvv dX10_run_220 lX10_95 (s_nowJ j3) (by decide) hC3.k31 hC3.n31 rfl rfl rfl (Nat.le_of_ble_eq_true rfl) rfl (fun h4 q => ?_)
  exact ev_throww _ tk_1 (List.mem_of_getElem? (i := 18) rfl) dX10_run_223 dX10_run_226 dX10_run_227 dX10_run_230 dX10_run_233 rfl (Nat.le_of_ble_eq_true rfl) (⟨rfl, (((f1.tr f3).jq q).wk (dc' := 1) (ds' := 3) (by omega) (by omega)).th⟩)
set_option maxRecDepth 100000 in
theorem g_run (j : JC h a K v bv isS sv c pv w d cw cd X1 X3 b1 N1 b3 N3) (hv2 : -2147483648 ≤ v 2 ∧ v 2 + 61 ≤ 2147483647) : CV mX10_run 13 [rv 0] h (fun oo h1 => ((aos (cX X1) X1.length).1 = false ∧ oo = xv 0 ∧ JQ (h.put 0 11 ((aos (cX X1) X1.length).2.1 : Int)) K N1 N3 1 6 v bv isS sv c pv w d cw cd [] X3 h1) ∨ ((aos (cX X1) X1.length).1 = true ∧ ∃ why det m v', runR (cX X1) X1.length (X1.length + 1) 0 0 v why det m v' ∧ ((why = 0 ∧ oo = iv ((m : Int) + 1) ∧ JQ (h.put 0 11 (-1)) K N1 N3 70 600 v' v isS sv (if c = 8 then 8 else c + 1) (pvN c pv v) w d cw cd [] X3 h1) ∨ (why ≠ 0 ∧ oo = xv 1 ∧ JQ (h.put 0 11 (-1)) K N1 N3 70 600 v v isS sv c pv 9 (m : Int) why det [] X3 h1)))) := by
  have hC := j.1.1.1
  have n94 := hC.1
  have n60 := j.2.2.2.2.1.2.2
  refine cv_of cdX10_run ?_
  show EV _ _ 0 [rv 0, uv, uv, uv, uv, uv] [] h _
  refine ev_aload_n dX10_run_0 rfl ?_
  refine ev_aload_n dX10_run_1 rfl ?_
  refine ev_getrv dX10_run_2 fX10_12 hC.k0 hC.n0 rfl hC.v0_0 ?_
  refine ev_csi dX10_run_5 lX10_245 (s_ordFault hC j.tx) (by decide) rfl rfl (Nat.le_of_ble_eq_true rfl) rfl (fun r h1 q => ?_)
  obtain ⟨er, e⟩ := q
  rw [e, er, ord_eq]
  obtain ⟨fl, hfl⟩ : ∃ fl : Int, fl = (if (aos (cX X1) X1.length).1 = true then -1 else ((aos (cX X1) X1.length).2.1 : Int)) := ⟨_, rfl⟩
  rw [← hfl]
  refine ev_pt dX10_run_8 fX10_65 hC.k0 hC.n0 rfl ?_
  obtain ⟨h2, e2⟩ : ∃ h2, h2 = h.put 0 11 fl := ⟨_, rfl⟩
  rw [← e2]
  have j2 : JC h2 a K v bv isS sv c pv w d cw cd X1 X3 b1 N1 b3 N3 := by
    rw [e2]
    exact j.gf (C := fun x i => x = 0 ∧ i = 11) (GF.rf.pu (fun _ => ⟨rfl, rfl⟩)) (fun x i z => Or.inl z)
  have fv : h2.vl 0 11 = fl := by rw [e2, AH.put_vl, if_pos ⟨rfl, rfl⟩]
  have hC2 := j2.1.1.1
  refine ev_aload_n dX10_run_11 rfl ?_
  refine ev_getiv dX10_run_12 fX10_65 hC2.k0 hC2.n0 rfl fv ?_
  by_cases f0 : (aos (cX X1) X1.length).1 = true
  rotate_left
  · skip
    rw [if_neg f0] at hfl
    refine ev_iflt 36 dX10_run_15 (fun h_no => (by exfalso; omega)) (fun hb => ?_)
    refine ev_aload_n dX10_run_18 rfl ?_
    refine ev_getrv dX10_run_19 fX10_12 hC2.k0 hC2.n0 rfl hC2.v0_0 ?_
    refine ev_iconst dX10_run_22 ?_
    refine ev_cvv dX10_run_23 lX10_73 (s_empty j2) (by decide) hC2.k1 hC2.n1 rfl rfl rfl (Nat.le_of_ble_eq_true rfl) rfl (fun h3 q => ?_)
    exact ev_throw _ tk_0 (List.mem_of_getElem? (i := 17) rfl) dX10_run_26 dX10_run_29 dX10_run_30 dX10_run_32 dX10_run_35 rfl (Nat.le_of_ble_eq_true rfl) (Or.inl ⟨by cases hz : (aos (cX X1) X1.length).1 with | false => rfl | true => exact absurd hz f0, rfl, by rw [← hfl, ← e2]; exact q.th⟩)
  rw [if_pos f0] at hfl
  have hio : (io (cX X1) X1.length 0).1 = true := by
    unfold aos at f0
    by_cases z : (io (cX X1) X1.length 0).1 = true
    · exact z
    · rw [if_neg z] at f0; exact Bool.noConfusion (show false = true from f0)
  have hao : (ao (cX X1) X1.length X1.length (io (cX X1) X1.length 0).2 0).1 = true := by
    unfold aos at f0
    rw [if_pos hio] at f0
    exact f0
  rw [← hfl, ← e2]
  refine ev_iflt 36 dX10_run_15 (fun hb => ?_) (fun h_no => (by exfalso; omega))
  refine ev_aload_n dX10_run_36 rfl ?_
  refine ev_getrv dX10_run_37 fX10_52 hC2.k0 hC2.n0 rfl hC2.v0_7 ?_
  refine ev_aload_n dX10_run_40 rfl ?_
  refine ev_getrv dX10_run_41 fX10_48 hC2.k0 hC2.n0 rfl hC2.v0_6 ?_
  obtain ⟨N, LL, kp, hv, hs⟩ := j2.2.1.1
  refine ev_cvv dX10_run_44 lX10_95 (s_befJ j2 hs) (by decide) hC2.k34 hC2.n34 rfl rfl rfl (Nat.le_of_ble_eq_true rfl) rfl (fun h3 q => ?_)
  obtain ⟨f3, j3, -⟩ := q
  have hC3 := j3.1.1.1
  refine ev_iconst dX10_run_47 ?_
  refine ev_ist1 dX10_run_48 ?_
  refine ev_iconst dX10_run_49 ?_
  refine ev_ist2 dX10_run_50 ?_
  refine ev_iconst dX10_run_51 ?_
  refine ev_ist3 dX10_run_52 ?_
  refine run_loop X1.length 0 0 0 h3 a K v b1 N1 b3 N3 0 uv uv j3 (by decide) ⟨hv2.1, by omega⟩ (by omega) (by omega) hio hao (fun h4 a4 K4 v' det m b5 M5 b6 M6 an i1 u4 u5 r4 j4 f4 a0 => ?_) (fun h4 a4 K4 v' why det m b5 M5 b6 M6 i1 u4 u5 w0 r4 j4 f4 => ?_)
  · have hC4 := j4.1.1.1
    refine ev_aload_n dX10_run_182 rfl ?_
    refine ev_getrv dX10_run_183 fX10_12 hC4.k0 hC4.n0 rfl hC4.v0_0 ?_
    refine ev_iconst dX10_run_186 ?_
    refine ev_cvv dX10_run_187 lX10_73 (s_empty j4) (by decide) hC4.k1 hC4.n1 rfl rfl rfl (Nat.le_of_ble_eq_true rfl) rfl (fun h5 q => ?_)
    obtain ⟨a5, K5, b7, M7, b8, M8, f5, j5⟩ := q
    have hC5 := j5.1.1.1
    refine ev_iload_n dX10_run_190 rfl ?_
    refine ev_ifge 234 dX10_run_191 (fun hb => ?_) (fun h_no => (by exfalso; omega))
    refine ev_aload_n dX10_run_234 rfl ?_
    refine ev_getrv dX10_run_235 fX10_61 hC5.k0 hC5.n0 rfl hC5.v0_9 ?_
    refine ev_aload_n dX10_run_238 rfl ?_
    refine ev_getrv dX10_run_239 fX10_52 hC5.k0 hC5.n0 rfl hC5.v0_7 ?_
    refine ev_cvv dX10_run_242 lX10_107 (s_pushJ j5) (by decide) hC5.k40 hC5.n40 rfl rfl rfl (Nat.le_of_ble_eq_true rfl) rfl (fun h6 q => ?_)
    refine ev_iload_n dX10_run_245 rfl ?_
    exact ev_iret dX10_run_246 (Or.inr ⟨f0, 0, det, m, v', r4, Or.inl ⟨rfl, rfl, (((f3.tr f4).tr f5).jq q).wk (by omega) (by omega)⟩⟩)
  · refine ev_mono (run_bad j4 w0) fun oo h5 q => ?_
    exact Or.inr ⟨f0, why, det, m, v', r4, Or.inr ⟨w0, q.1, ((f3.tr f4).jq q.2).wk (by omega) (by omega)⟩⟩
end Grn
