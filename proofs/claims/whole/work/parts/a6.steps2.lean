/-! the reference's steps at a let; one round of the loop -/
section StepsL
variable {h : AH} {N aB : Nat} {L : List Nd} {S : IS} {Dn Gn : Nat → Prop} {e : Nat} {st : List (Nat × Nat)}
set_option maxRecDepth 100000 in
theorem st_l2 (hI : RI h) (hT : NT h L) (he : e < L.length) (h4 : TBL L 57 e = 5) (h60 : 0 ≤ TBL L 60 e) (hS : RS h N aB S Dn Gn) (hd : Dn (sndN L e)) (haB : aB ≤ 9800) :
    CV mX11_steps 8 [rv 42, iv (e : Int), iv 2] h (on fun h1 => KP h h1 [84] [] ∧ RS h1 N aB (isF S e (S.2.1 (sndN L e)) S.1) (fun k => Dn k ∨ k = e) Gn) := by
  have hlen := hT.2.2.2
  have d57 : h.vl 57 e = TBL L 57 e := hT.1 57 e (by decide) (by decide) (Or.inl he)
  have d60 : h.vl 60 e = ((sndN L e : Nat) : Int) := by rw [hT.1 60 e (by decide) (by decide) (Or.inl he)]; unfold sndN; omega
  obtain ⟨T, hR, s2, s3, s4, s5⟩ := hS
  obtain ⟨fl, a, a1, a2, a3⟩ := s2 _ hd
  refine cv_of cdX11_steps ?_
  show EV _ _ 0 [rv 42, iv (e : Int), iv 2] [] h _
  refine ev_aload_n dX11_steps_0 rfl ?_
  refine ev_getrv dX11_steps_1 fX11_56 hI.o hI.n rfl hI.v_kind ?_
  refine ev_iload_n dX11_steps_4 rfl ?_
  refine ev_ildv dX11_steps_5 hI.k_kind hI.n_kind rfl (by omega) (by omega) d57 ?_
  refine ev_iconst dX11_steps_6 ?_
  refine ev_icmpge 18 dX11_steps_7 (fun hb => ?_) (fun h_no => (by exfalso; omega))
  refine ev_iload_n dX11_steps_18 rfl ?_
  refine ev_ifne 84 dX11_steps_19 (fun hb2 => ?_) (fun h_no => (by exfalso; omega))
  refine ev_aload_n dX11_steps_84 rfl ?_
  refine ev_getrv dX11_steps_85 fX11_56 hI.o hI.n rfl hI.v_kind ?_
  refine ev_iload_n dX11_steps_88 rfl ?_
  refine ev_ildv dX11_steps_89 hI.k_kind hI.n_kind rfl (by omega) (by omega) d57 ?_
  refine ev_iconst dX11_steps_90 ?_
  refine ev_icmpne 124 dX11_steps_91 (fun hb3 => ?_) (fun h_no => (by exfalso; omega))
  refine ev_aload_n dX11_steps_124 rfl ?_
  refine ev_getrv dX11_steps_125 fX11_56 hI.o hI.n rfl hI.v_kind ?_
  refine ev_iload_n dX11_steps_128 rfl ?_
  refine ev_ildv dX11_steps_129 hI.k_kind hI.n_kind rfl (by omega) (by omega) d57 ?_
  refine ev_bipush dX11_steps_130 ?_
  refine ev_icmpne 143 dX11_steps_132 (fun hb4 => ?_) (fun h_no => (by exfalso; omega))
  refine ev_iload_n dX11_steps_143 rfl ?_
  refine ev_iconst dX11_steps_144 ?_
  refine ev_icmpne 168 dX11_steps_145 (fun h_no => (by exfalso; omega)) (fun hb5 => ?_)
  refine ev_aload_n dX11_steps_148 rfl ?_
  refine ev_getrv dX11_steps_149 fX11_137 hI.o hI.n rfl hI.v_type ?_
  refine ev_iload_n dX11_steps_152 rfl ?_
  refine ev_aload_n dX11_steps_153 rfl ?_
  refine ev_getrv dX11_steps_154 fX11_137 hI.o hI.n rfl hI.v_type ?_
  refine ev_aload_n dX11_steps_157 rfl ?_
  refine ev_getrv dX11_steps_158 fX11_65 hI.o hI.n rfl hI.v_second ?_
  refine ev_iload_n dX11_steps_161 rfl ?_
  refine ev_ildv dX11_steps_162 hI.k_second hI.n_second rfl (by omega) (by omega) d60 ?_
  refine ev_ildv dX11_steps_163 hI.k_type hI.n_type rfl (by omega) (by omega) a2 ?_
  refine ev_istr dX11_steps_164 hI.k_type hI.n_type rfl (by omega) (by omega) ?_
  rw [show ((e : Nat) : Int).toNat = e from rfl]
  refine ev_gt 221 dX11_steps_165 ?_
  exact ev_vret dX11_steps_221 (⟨rfl, KP.rf.pr (by decide) (by decide), RS_put (A := []) (F := []) s2 s3 s4 s5 KP.rf (by decide) (by decide) hR (Nat.le_refl _) (fun _ _ => rfl) (Nat.le_refl _) (by omega) a1 a3⟩)
set_option maxRecDepth 100000 in
theorem st_l1 (hI : RI h) (hT : NT h L) (he : e < L.length) (h4 : TBL L 57 e = 5) (h59 : 0 ≤ TBL L 59 e ∧ TBL L 59 e < (L.length : Int)) (h60 : 0 ≤ TBL L 60 e) (hS : RS h N aB S Dn Gn) (hd : Dn (fstN L e)) (hG : ∀ k ∈ envN L e, Gn k) (hW : WkS h st) (hl : st.length < 390) (hf : h.vl 42 52 = 0) (hst0 : 0 ≤ h.vl 42 50) (hst9 : h.vl 42 50 + 10 ≤ 2147483000) :
    CV mX11_steps 8 [rv 42, iv (e : Int), iv 1] h (on fun h1 => (201 ≤ sz (S.2.1 (fstN L e)) ∧ FlQ h1 (10, (e : Int), -1, -1) ∧ KP h h1 TyA TyF ∧ h1.vl 42 50 = h.vl 42 50 + 1) ∨ (¬ 201 ≤ sz (S.2.1 (fstN L e)) ∧ KP h h1 [70, 71, 72, 73, 74, 86, 87] [50, 51, 68] ∧ h1.vl 42 50 = h.vl 42 50 + 2 ∧ RS h1 N aB (isGn L S e) Dn Gn ∧ WkS h1 ((sndN L e, 0) :: (e, 2) :: st))) := by
  have hlen := hT.2.2.2
  have d57 : h.vl 57 e = TBL L 57 e := hT.1 57 e (by decide) (by decide) (Or.inl he)
  have d59 : h.vl 59 e = ((fstN L e : Nat) : Int) := by rw [hT.1 59 e (by decide) (by decide) (Or.inl he)]; unfold fstN; omega
  have d60 : h.vl 60 e = ((sndN L e : Nat) : Int) := by rw [hT.1 60 e (by decide) (by decide) (Or.inl he)]; unfold sndN; omega
  obtain ⟨T, hR, s2, s3, s4, s5⟩ := id hS
  obtain ⟨fl, a, a1, a2, a3⟩ := s2 _ hd
  refine cv_of cdX11_steps ?_
  show EV _ _ 0 [rv 42, iv (e : Int), iv 1] [] h _
  refine ev_aload_n dX11_steps_0 rfl ?_
  refine ev_getrv dX11_steps_1 fX11_56 hI.o hI.n rfl hI.v_kind ?_
  refine ev_iload_n dX11_steps_4 rfl ?_
  refine ev_ildv dX11_steps_5 hI.k_kind hI.n_kind rfl (by omega) (by omega) d57 ?_
  refine ev_iconst dX11_steps_6 ?_
  refine ev_icmpge 18 dX11_steps_7 (fun hb => ?_) (fun h_no => (by exfalso; omega))
  refine ev_iload_n dX11_steps_18 rfl ?_
  refine ev_ifne 84 dX11_steps_19 (fun hb2 => ?_) (fun h_no => (by exfalso; omega))
  refine ev_aload_n dX11_steps_84 rfl ?_
  refine ev_getrv dX11_steps_85 fX11_56 hI.o hI.n rfl hI.v_kind ?_
  refine ev_iload_n dX11_steps_88 rfl ?_
  refine ev_ildv dX11_steps_89 hI.k_kind hI.n_kind rfl (by omega) (by omega) d57 ?_
  refine ev_iconst dX11_steps_90 ?_
  refine ev_icmpne 124 dX11_steps_91 (fun hb3 => ?_) (fun h_no => (by exfalso; omega))
  refine ev_aload_n dX11_steps_124 rfl ?_
  refine ev_getrv dX11_steps_125 fX11_56 hI.o hI.n rfl hI.v_kind ?_
  refine ev_iload_n dX11_steps_128 rfl ?_
  refine ev_ildv dX11_steps_129 hI.k_kind hI.n_kind rfl (by omega) (by omega) d57 ?_
  refine ev_bipush dX11_steps_130 ?_
  refine ev_icmpne 143 dX11_steps_132 (fun hb4 => ?_) (fun h_no => (by exfalso; omega))
  refine ev_iload_n dX11_steps_143 rfl ?_
  refine ev_iconst dX11_steps_144 ?_
  refine ev_icmpne 168 dX11_steps_145 (fun hb5 => ?_) (fun h_no => (by exfalso; omega))
  refine ev_aload_n dX11_steps_168 rfl ?_
  refine ev_aload_n dX11_steps_169 rfl ?_
  refine ev_getrv dX11_steps_170 fX11_137 hI.o hI.n rfl hI.v_type ?_
  refine ev_aload_n dX11_steps_173 rfl ?_
  refine ev_getrv dX11_steps_174 fX11_62 hI.o hI.n rfl hI.v_first ?_
  refine ev_iload_n dX11_steps_177 rfl ?_
  refine ev_ildv dX11_steps_178 hI.k_first hI.n_first rfl (by omega) (by omega) d59 ?_
  refine ev_ildv dX11_steps_179 hI.k_type hI.n_type rfl (by omega) (by omega) a2 ?_
  refine ev_cvi dX11_steps_180 lX11_297 (s_sizeN (t := a) hI hR a1 (by unfold ir; omega)) (by decide) hI.o hI.n rfl rfl rfl (Nat.le_of_ble_eq_true rfl) rfl (fun r h1 q => ?_)
  obtain ⟨rfl, k1, t1, g1⟩ := q
  have I1 : RI h1 := k1.ri hI
  rw [a3]
  refine ev_sipush dX11_steps_183 ?_
  by_cases c1 : 201 ≤ sz (S.2.1 (fstN L e))
  · skip
    have z1 := szc_201.mpr c1
    refine ev_icmpne 199 dX11_steps_186 (fun h_no => (by exfalso; omega)) (fun hb6 => ?_)
    refine ev_aload_n dX11_steps_189 rfl ?_
    refine ev_bipush dX11_steps_190 ?_
    refine ev_iload_n dX11_steps_192 rfl ?_
    refine ev_cvv dX11_steps_193 lX11_281 (s_failsAt I1) (by decide) I1.o I1.n rfl rfl rfl (Nat.le_of_ble_eq_true rfl) rfl (fun h2 q => ?_)
    refine ev_gt 221 dX11_steps_196 ?_
    exact ev_vret dX11_steps_221 (⟨rfl, Or.inl ⟨c1, by rw [q]; exact ⟨rfl, fun _ => ⟨rfl, rfl, rfl⟩, fun k => g1.sn k⟩, by rw [q]; exact ((((k1.wk (by decide) (by decide)).pf (by decide)).pf (by decide)).pf (by decide)).pf (by decide), by rw [q]; exact t1⟩⟩)
  have z1 : ¬ szc (S.2.1 (fstN L e)) = 201 := fun z => c1 (szc_201.mp z)
  have S1 : RS h1 N aB S Dn Gn := ⟨T, g1, by rw [k1.vl (r := 84)]; exact s2, by rw [k1.vl (r := 85)]; exact s3, s4, s5⟩
  have T1 : NT h1 L := hT.kp k1
  refine ev_icmpne 199 dX11_steps_186 (fun hb6 => ?_) (fun h_no => (by exfalso; omega))
  refine ev_aload_n dX11_steps_199 rfl ?_
  refine ev_iload_n dX11_steps_200 rfl ?_
  refine ev_cvv dX11_steps_201 lX11_312 (s_generN I1 T1 he S1 h59 hd hG (by omega) (by omega)) (by decide) I1.o I1.n rfl rfl rfl (Nat.le_of_ble_eq_true rfl) rfl (fun h2 q => ?_)
  obtain ⟨k2, t2, S2⟩ := q
  have I2 : RI h2 := k2.ri I1
  have W2 : WkS h2 st := (hW.kp k1).kp k2
  refine ev_aload_n dX11_steps_204 rfl ?_
  refine ev_iload_n dX11_steps_205 rfl ?_
  refine ev_iconst dX11_steps_206 ?_
  refine ev_cvv dX11_steps_207 lX11_306 (s_goesW (a := e) (p := 2) I2 W2 (by omega)) (by decide) I2.o I2.n rfl rfl rfl (Nat.le_of_ble_eq_true rfl) rfl (fun h3 q => ?_)
  obtain ⟨k3, W3⟩ := q
  have I3 : RI h3 := k3.ri I2
  have e60 : h3.vl 60 e = ((sndN L e : Nat) : Int) := by rw [congrFun k3.vl e, congrFun k2.vl e, congrFun k1.vl e]; exact d60
  refine ev_aload_n dX11_steps_210 rfl ?_
  refine ev_aload_n dX11_steps_211 rfl ?_
  refine ev_getrv dX11_steps_212 fX11_65 I3.o I3.n rfl I3.v_second ?_
  refine ev_iload_n dX11_steps_215 rfl ?_
  refine ev_ildv dX11_steps_216 I3.k_second I3.n_second rfl (by omega) (by omega) e60 ?_
  refine ev_iconst dX11_steps_217 ?_
  refine ev_cvv dX11_steps_218 lX11_306 (s_goesW (a := sndN L e) (p := 0) I3 W3 (by rw [List.length_cons]; omega)) (by decide) I3.o I3.n rfl rfl rfl (Nat.le_of_ble_eq_true rfl) rfl (fun h4 q => ?_)
  obtain ⟨k4, W4⟩ := q
  exact ev_vret dX11_steps_221 (⟨rfl, Or.inr ⟨c1, ((k1.wk (by decide) (by decide)).tr (k2.wk (by decide) (by decide))).tr ((k3.wk (by decide) (by decide)).tr (k4.wk (by decide) (by decide))), by rw [k4.fl, k3.fl, t2, t1]; omega, (S2.kp k3).kp k4, W4⟩⟩)
end StepsL
set_option maxRecDepth 100000 in
theorem fin_it {h : AH} {e p : Nat} {st : List (Nat × Nat)} {l : Int} {v2 : AV} {Q : AV → AH → Prop} {Q1 : AH → Prop} (hI : RI h) (hW : WkS h ((e, p) :: st)) (hf : h.vl 42 52 = 0) (hl : st.length < 399) (cs : ∀ h0, KP h h0 [] [68] → WkS h0 st → CV mX11_steps 8 [rv 42, iv (e : Int), iv (p : Int)] h0 (on Q1)) (kk : ∀ h1, Q1 h1 → EV mX11_finds 9 26 [rv 42, iv l, v2] [] h1 Q) : EV mX11_finds 9 26 [rv 42, iv l, v2] [] h Q := by
  obtain ⟨w1, w2, w3, w4⟩ := hW
  have w1 : h.vl 42 68 = (st.length : Int) + 1 := w1
  refine ev_aload_n dX11_finds_26 rfl ?_
  refine ev_getiv dX11_finds_27 fX11_268 hI.o hI.n rfl w1 ?_
  refine ev_ifle 75 dX11_finds_30 (fun h_no => (by exfalso; omega)) (fun hb => ?_)
  refine ev_aload_n dX11_finds_33 rfl ?_
  refine ev_getiv dX11_finds_34 fX11_242 hI.o hI.n rfl hf ?_
  refine ev_ifne 75 dX11_finds_37 (fun h_no => (by exfalso; omega)) (fun hb2 => ?_)
  refine ev_aload_n dX11_finds_40 rfl ?_
  refine ev_dup dX11_finds_41 ?_
  refine ev_getiv dX11_finds_42 fX11_268 hI.o hI.n rfl w1 ?_
  refine ev_iconst dX11_finds_45 ?_
  refine ev_isub dX11_finds_46 (by unfold ir; omega) ?_
  refine ev_pt dX11_finds_47 fX11_268 hI.o hI.n rfl ?_
  rw [show (st.length : Int) + 1 - 1 = (st.length : Int) by omega]
  obtain ⟨h0, e0⟩ : ∃ h0, h0 = h.put 42 68 (st.length : Int) := ⟨_, rfl⟩
  rw [← e0]
  have k0 : KP h h0 [] [68] := by rw [e0]; exact KP.rf.pf (by decide)
  have I0 : RI h0 := k0.ri hI
  have f68 : h0.vl 42 68 = (st.length : Int) := by rw [e0]; rfl
  have f86 : h0.vl 86 st.length = (e : Int) := by rw [k0.vl]; exact w2
  have f87 : h0.vl 87 st.length = (p : Int) := by rw [k0.vl]; exact w3
  refine ev_aload_n dX11_finds_50 rfl ?_
  refine ev_aload_n dX11_finds_51 rfl ?_
  refine ev_getrv dX11_finds_52 fX11_143 I0.o I0.n rfl I0.v_walk ?_
  refine ev_aload_n dX11_finds_55 rfl ?_
  refine ev_getiv dX11_finds_56 fX11_268 I0.o I0.n rfl f68 ?_
  refine ev_ildv dX11_finds_59 I0.k_walk I0.n_walk rfl (by omega) (by omega) f86 ?_
  refine ev_aload_n dX11_finds_60 rfl ?_
  refine ev_getrv dX11_finds_61 fX11_146 I0.o I0.n rfl I0.v_phase ?_
  refine ev_aload_n dX11_finds_64 rfl ?_
  refine ev_getiv dX11_finds_65 fX11_268 I0.o I0.n rfl f68 ?_
  refine ev_ildv dX11_finds_68 I0.k_phase I0.n_phase rfl (by omega) (by omega) f87 ?_
  refine ev_cvv dX11_finds_69 lX11_318 (cs h0 k0 ⟨f68, w4.lo (fun i _ => by rw [k0.vl, k0.vl]; exact ⟨rfl, rfl⟩)⟩) (by decide) I0.o I0.n rfl rfl rfl (Nat.le_of_ble_eq_true rfl) rfl (fun h1 q => ?_)
  refine ev_gt 26 dX11_finds_72 ?_
  exact kk h1 q
