/-! the reference applies a type -/
theorem szc_201 {T : TE} : szc T = 201 ↔ 201 ≤ sz T := by
  unfold szc
  split <;> omega
set_option maxRecDepth 100000 in
theorem s_appliesN {h : AH} {N aB : Nat} {L : List Nd} {S : IS} {Dn Gn : Nat → Prop} {e : Nat} (hI : RI h) (hT : NT h L) (he : e < L.length) (h59 : 0 ≤ TBL L 59 e) (h60 : 0 ≤ TBL L 60 e) (hS : RS h N aB S Dn Gn) (hd1 : Dn (fstN L e)) (hd2 : Dn (sndN L e)) (hne : fstN L e ≠ e ∧ sndN L e ≠ e) (hf : h.vl 42 52 = 0) (hN : N + 10 ≤ 20000) (haB : aB + 10 ≤ 9800) (hst0 : 0 ≤ h.vl 42 50) (hst9 : h.vl 42 50 + 1700 ≤ 2147483000) :
    CV mX11_applies 7 [rv 42, iv (e : Int)] h (on fun h1 => ∃ (r : IR) (S' : IS), apR S L e r S' ∧ FlQ h1 r ∧ KP h h1 TyA TyF ∧ (h.vl 42 50 ≤ h1.vl 42 50 ∧ h1.vl 42 50 ≤ h.vl 42 50 + 1700) ∧ (r.1 = 0 → RS h1 (N + 2) (aB + 1) S' (fun k => Dn k ∨ k = e) Gn)) := by
  obtain ⟨T, hR, s2, s3, s4, s5⟩ := id hS
  have hlen := hT.2.2.2
  obtain ⟨fl, a, a1, a2, a3⟩ := s2 _ hd1
  obtain ⟨sl, b, b1, b2, b3⟩ := s2 _ hd2
  have d59 : h.vl 59 e = ((fstN L e : Nat) : Int) := by rw [hT.1 59 e (by decide) (by decide) (Or.inl he)]; unfold fstN; omega
  have d60 : h.vl 60 e = ((sndN L e : Nat) : Int) := by rw [hT.1 60 e (by decide) (by decide) (Or.inl he)]; unfold sndN; omega
  have ee : ((e : Nat) : Int).toNat = e := rfl
  have gnf : S.2.2.2 S.1 = false := by
    cases hz : S.2.2.2 S.1 with
    | false => rfl
    | true => have := s4 _ hz; omega
  have bad : ∀ (g g1 : AH), (∀ k, g.vl 71 k ≤ g.vl 42 50) → KP h g TyA TyF → (h.vl 42 50 ≤ g.vl 42 50 ∧ g.vl 42 50 ≤ h.vl 42 50 + 1700) → g1 = (((g.put 42 52 10).put 42 54 (-1)).put 42 55 (-1)).put 42 53 (e : Int) → apR S L e (10, (e : Int), -1, -1) S → ∃ (r : IR) (S' : IS), apR S L e r S' ∧ FlQ g1 r ∧ KP h g1 TyA TyF ∧ (h.vl 42 50 ≤ g1.vl 42 50 ∧ g1.vl 42 50 ≤ h.vl 42 50 + 1700) ∧ (r.1 = 0 → RS g1 (N + 2) (aB + 1) S' (fun k => Dn k ∨ k = e) Gn) := by
    intro g g1 hsn k hs e1 ha
    refine ⟨_, S, ha, ?_, ?_, ?_, fun z => absurd (show (10 : Int) = 0 from z) (by decide)⟩
    · rw [e1]; exact ⟨rfl, fun _ => ⟨rfl, rfl, rfl⟩, fun k => hsn k⟩
    · rw [e1]; exact (((k.pf (by decide)).pf (by decide)).pf (by decide)).pf (by decide)
    · rw [e1]; exact hs
  refine cv_of cdX11_applies ?_
  show EV _ _ 0 [rv 42, iv (e : Int), uv] [] h _
  refine ev_aload_n dX11_applies_0 rfl ?_
  refine ev_getrv dX11_applies_1 fX11_137 hI.o hI.n rfl hI.v_type ?_
  refine ev_aload_n dX11_applies_4 rfl ?_
  refine ev_getrv dX11_applies_5 fX11_62 hI.o hI.n rfl hI.v_first ?_
  refine ev_iload_n dX11_applies_8 rfl ?_
  refine ev_ildv dX11_applies_9 hI.k_first hI.n_first rfl (by omega) (by omega) d59 ?_
  refine ev_ildv dX11_applies_10 hI.k_type hI.n_type rfl (by omega) (by omega) a2 ?_
  refine ev_ist2 dX11_applies_11 ?_
  refine ev_aload_n dX11_applies_12 rfl ?_
  refine ev_iload_n dX11_applies_13 rfl ?_
  refine ev_cvi dX11_applies_14 lX11_297 (s_sizeN (t := a) hI hR a1 (by unfold ir; omega)) (by decide) hI.o hI.n rfl rfl rfl (Nat.le_of_ble_eq_true rfl) rfl (fun r h1 q => ?_)
  obtain ⟨rfl, k1, st1, g1⟩ := q
  have K1 : KP h h1 TyA TyF := k1.wk (by decide) (by decide)
  have I1 : RI h1 := K1.ri hI
  rw [a3]
  refine ev_sipush dX11_applies_17 ?_
  by_cases c1 : 201 ≤ sz (S.2.1 (fstN L e))
  · skip
    have z1 := szc_201.mpr c1
    refine ev_icmpeq 44 dX11_applies_20 (fun hb => ?_) (fun h_no => (by exfalso; omega))
    refine ev_aload_n dX11_applies_44 rfl ?_
    refine ev_bipush dX11_applies_45 ?_
    refine ev_iload_n dX11_applies_47 rfl ?_
    refine ev_cvv dX11_applies_48 lX11_281 (s_failsAt I1) (by decide) I1.o I1.n rfl rfl rfl (Nat.le_of_ble_eq_true rfl) rfl (fun h2 q => ?_)
    exact ev_vret dX11_applies_51 (⟨rfl, bad h1 h2 g1.sn K1 (by omega) q (by unfold apR; rw [if_pos (Or.inl c1)])⟩)
  have z1 : ¬ szc (S.2.1 (fstN L e)) = 201 := fun z => c1 (szc_201.mp z)
  have e60 : h1.vl 60 e = ((sndN L e : Nat) : Int) := (congrFun k1.vl e).trans d60
  have e84 : h1.vl 84 (sndN L e) = (b : Int) := (congrFun k1.vl _).trans b2
  refine ev_icmpeq 44 dX11_applies_20 (fun h_no => (by exfalso; omega)) (fun hb => ?_)
  refine ev_aload_n dX11_applies_23 rfl ?_
  refine ev_aload_n dX11_applies_24 rfl ?_
  refine ev_getrv dX11_applies_25 fX11_137 I1.o I1.n rfl I1.v_type ?_
  refine ev_aload_n dX11_applies_28 rfl ?_
  refine ev_getrv dX11_applies_29 fX11_65 I1.o I1.n rfl I1.v_second ?_
  refine ev_iload_n dX11_applies_32 rfl ?_
  refine ev_ildv dX11_applies_33 I1.k_second I1.n_second rfl (by omega) (by omega) e60 ?_
  refine ev_ildv dX11_applies_34 I1.k_type I1.n_type rfl (by omega) (by omega) e84 ?_
  refine ev_cvi dX11_applies_35 lX11_297 (s_sizeN (t := b) I1 g1 b1 (by unfold ir; omega)) (by decide) I1.o I1.n rfl rfl rfl (Nat.le_of_ble_eq_true rfl) rfl (fun r h2 q => ?_)
  obtain ⟨rfl, k2, st2, g2⟩ := q
  have K2 : KP h h2 TyA TyF := K1.tr (k2.wk (by decide) (by decide))
  have I2 : RI h2 := K2.ri hI
  rw [b3]
  refine ev_sipush dX11_applies_38 ?_
  by_cases c2 : 201 ≤ sz (S.2.1 (sndN L e))
  · skip
    have z2 := szc_201.mpr c2
    refine ev_icmpne 52 dX11_applies_41 (fun h_no => (by exfalso; omega)) (fun hb2 => ?_)
    refine ev_aload_n dX11_applies_44 rfl ?_
    refine ev_bipush dX11_applies_45 ?_
    refine ev_iload_n dX11_applies_47 rfl ?_
    refine ev_cvv dX11_applies_48 lX11_281 (s_failsAt I2) (by decide) I2.o I2.n rfl rfl rfl (Nat.le_of_ble_eq_true rfl) rfl (fun h3 q => ?_)
    exact ev_vret dX11_applies_51 (⟨rfl, bad h2 h3 g2.sn K2 (by omega) q (by unfold apR; rw [if_pos (Or.inr c2)])⟩)
  have z2 : ¬ szc (S.2.1 (sndN L e)) = 201 := fun z => c2 (szc_201.mp z)
  have hc : ¬ (201 ≤ sz (S.2.1 (fstN L e)) ∨ 201 ≤ sz (S.2.1 (sndN L e))) := fun z => z.elim c1 c2
  refine ev_icmpne 52 dX11_applies_41 (fun hb2 => ?_) (fun h_no => (by exfalso; omega))
  refine ev_aload_n dX11_applies_52 rfl ?_
  refine ev_getrv dX11_applies_53 fX11_137 I2.o I2.n rfl I2.v_type ?_
  refine ev_iload_n dX11_applies_56 rfl ?_
  refine ev_aload_n dX11_applies_57 rfl ?_
  refine ev_cvi dX11_applies_58 lX11_239 (s_freshN I2 g2 (by omega) s5 gnf) (by decide) I2.o I2.n rfl rfl rfl (Nat.le_of_ble_eq_true rfl) rfl (fun r h3 q => ?_)
  obtain ⟨rfl, k3, g3⟩ := q
  have K3 : KP h h3 TyA TyF := K2.tr (k3.wk (by decide) (by decide))
  have I3 : RI h3 := K3.ri hI
  refine ev_istr dX11_applies_61 I3.k_type I3.n_type rfl (by omega) (by omega) ?_
  rw [ee]
  have kp4 : KP h3 (h3.put 84 e (N : Int)) [84] [] := KP.rf.pr (by decide) (by decide)
  obtain ⟨h4, e4⟩ : ∃ h4, h4 = h3.put 84 e (N : Int) := ⟨_, rfl⟩
  rw [← e4] at kp4 ⊢
  have K4 : KP h h4 TyA TyF := K3.tr (kp4.wk (by decide) (by decide))
  have I4 : RI h4 := K4.ri hI
  have g4 := g3.kp' kp4
  have v84 : ∀ j, h4.vl 84 j = if j = e then (N : Int) else h.vl 84 j := fun j => by
    rw [e4, AH.put_vl]
    by_cases z : j = e
    · rw [if_pos ⟨rfl, z⟩, if_pos z]
    · rw [if_neg (fun w => z w.2), if_neg z, congrFun k3.vl j, congrFun k2.vl j, congrFun k1.vl j]
  have f60 : h4.vl 60 e = ((sndN L e : Nat) : Int) := by rw [e4, put_ne _ (by decide), k3.vl, k2.vl]; exact e60
  have f84 : h4.vl 84 (sndN L e) = (b : Int) := by rw [v84, if_neg hne.2]; exact b2
  have f84e : h4.vl 84 e = (N : Int) := by rw [v84, if_pos rfl]
  refine ev_aload_n dX11_applies_62 rfl ?_
  refine ev_iload_n dX11_applies_63 rfl ?_
  refine ev_aload_n dX11_applies_64 rfl ?_
  refine ev_aload_n dX11_applies_65 rfl ?_
  refine ev_getrv dX11_applies_66 fX11_137 I4.o I4.n rfl I4.v_type ?_
  refine ev_aload_n dX11_applies_69 rfl ?_
  refine ev_getrv dX11_applies_70 fX11_65 I4.o I4.n rfl I4.v_second ?_
  refine ev_iload_n dX11_applies_73 rfl ?_
  refine ev_ildv dX11_applies_74 I4.k_second I4.n_second rfl (by omega) (by omega) f60 ?_
  refine ev_ildv dX11_applies_75 I4.k_type I4.n_type rfl (by omega) (by omega) f84 ?_
  refine ev_aload_n dX11_applies_76 rfl ?_
  refine ev_getrv dX11_applies_77 fX11_137 I4.o I4.n rfl I4.v_type ?_
  refine ev_iload_n dX11_applies_80 rfl ?_
  refine ev_ildv dX11_applies_81 I4.k_type I4.n_type rfl (by omega) (by omega) f84e ?_
  refine ev_cvi dX11_applies_82 lX11_271 (s_arrowN (a := b) (b := N) I4 g4 (by omega) (by omega) (by omega) (by omega)) (by decide) I4.o I4.n rfl rfl rfl (Nat.le_of_ble_eq_true rfl) rfl (fun r h5 q => ?_)
  obtain ⟨rfl, k5, g5⟩ := q
  have K5 : KP h h5 TyA TyF := K4.tr (k5.wk (by decide) (by decide))
  have I5 : RI h5 := K5.ri hI
  have st5 : h5.vl 42 50 = h.vl 42 50 + 2 := by
    rw [k5.fl, kp4.fl, k3.fl, st2, st1]
    omega
  have eTa : upT (upT T N (.var S.1)) (N + 1) (.op (upT T N (.var S.1) b) (upT T N (.var S.1) N)) a = S.2.1 (fstN L e) := by rw [upT_n (by omega), upT_n (by omega), a3]
  have eTu : upT (upT T N (.var S.1)) (N + 1) (.op (upT T N (.var S.1) b) (upT T N (.var S.1) N)) (N + 1) = .op (S.2.1 (sndN L e)) (.var S.1) := by rw [upT_s, upT_s, upT_n (by omega), b3]
  have o1 := ops_sz (S.2.1 (fstN L e))
  have o2 := ops_sz (S.2.1 (sndN L e))
  refine ev_cvi dX11_applies_85 lX11_300 (s_fitsN (t := a) (u := N + 1) I5 g5 (by omega) (by omega) (by rw [eTa, eTu]; simp only [sz]; omega) (by rw [eTa, eTu]; simp only [sz]; omega) (by omega)) (by decide) I5.o I5.n rfl rfl rfl (Nat.le_of_ble_eq_true rfl) rfl (fun r h6 q => ?_)
  obtain ⟨F, R, σ, q1, rfl, k6, t1, t2, t3, t4, t5⟩ := q
  rw [eTa, eTu] at q1 t2
  simp only [sz] at t2
  have K6 : KP h h6 TyA TyF := K5.tr (k6.wk (by decide) (by decide))
  have I6 : RI h6 := K6.ri hI
  by_cases c3 : R.1 = 0
  · skip
    obtain ⟨g6, t52⟩ := t4 c3
    refine ev_ifeq 99 dX11_applies_88 (fun hb3 => ?_) (fun h_no => (by exfalso; omega))
    refine ev_aload_n dX11_applies_99 rfl ?_
    refine ev_iload_n dX11_applies_100 rfl ?_
    refine ev_cvi dX11_applies_101 lX11_297 (s_sizeN (t := a) I6 g6 (by omega) (by unfold ir; omega)) (by decide) I6.o I6.n rfl rfl rfl (Nat.le_of_ble_eq_true rfl) rfl (fun r h7 q => ?_)
    obtain ⟨rfl, k7, st7, g7⟩ := q
    have K7 : KP h h7 TyA TyF := K6.tr (k7.wk (by decide) (by decide))
    have I7 : RI h7 := K7.ri hI
    rw [eTa]
    refine ev_sipush dX11_applies_104 ?_
    by_cases c4 : 201 ≤ sz (ap σ (S.2.1 (fstN L e)))
    · skip
      have z4 := szc_201.mpr c4
      refine ev_icmpne 117 dX11_applies_107 (fun h_no => (by exfalso; omega)) (fun hb4 => ?_)
      refine ev_aload_n dX11_applies_110 rfl ?_
      refine ev_bipush dX11_applies_111 ?_
      refine ev_iload_n dX11_applies_113 rfl ?_
      refine ev_cvv dX11_applies_114 lX11_281 (s_failsAt I7) (by decide) I7.o I7.n rfl rfl rfl (Nat.le_of_ble_eq_true rfl) rfl (fun h8 q => ?_)
      exact ev_vret dX11_applies_117 (⟨rfl, bad h7 h8 g7.sn K7 (by omega) q (by unfold apR; rw [if_neg hc]; exact ⟨F, R, σ, q1, fun z => absurd c3 z, fun _ => ⟨fun _ => rfl, fun z => absurd c4 z⟩⟩)⟩)
    have z4 : ¬ szc (ap σ (S.2.1 (fstN L e))) = 201 := fun z => c4 (szc_201.mp z)
    refine ev_icmpne 117 dX11_applies_107 (fun hb4 => ?_) (fun h_no => (by exfalso; omega))
    refine ev_vret dX11_applies_117 (⟨rfl, (0, -1, -1, -1), isA (isF S e (.var S.1) (S.1 + 1)) σ, ?_, ⟨?_, fun z => absurd rfl z, g7.sn⟩, K7, by omega, fun _ => ⟨_, g7, fun k hk => ?_, fun k hk => ?_, fun x hx => ?_, ?_⟩⟩)
    · unfold apR
      rw [if_neg hc]
      exact ⟨F, R, σ, q1, fun z => absurd c3 z, fun _ => ⟨fun z => absurd z c4, fun _ => ⟨rfl, rfl⟩⟩⟩
    · have w52 : h5.vl 42 52 = 0 := by rw [k5.fl, kp4.fl, k3.fl, k2.fl, k1.fl]; exact hf
      show h7.vl 42 52 = 0
      rw [k7.fl, t52]; exact w52
    · have w84 : h7.vl 84 = h4.vl 84 := k7.vl.trans (k6.vl.trans k5.vl)
      rw [w84, v84]
      by_cases z : k = e
      · rw [if_pos z, z]
        refine ⟨by omega, N, by omega, rfl, ?_⟩
        show ap σ _ = ap σ (upT S.2.1 e (.var S.1) e)
        rw [upT_n (by omega), upT_s, upT_s]
      · rw [if_neg z]
        obtain ⟨k0, c, c1, c2, c3⟩ := s2 k (hk.resolve_right z)
        refine ⟨k0, c, by omega, c2, ?_⟩
        show ap σ _ = ap σ (upT S.2.1 e (.var S.1) k)
        rw [upT_n (by omega), upT_n (by omega), upT_n z, c3]
    · obtain ⟨k0, c, c1, c2, c3⟩ := s3 k hk
      have w85 : h7.vl 85 = h.vl 85 := k7.vl.trans (k6.vl.trans (k5.vl.trans (kp4.vl.trans (k3.vl.trans (k2.vl.trans k1.vl)))))
      rw [w85]
      refine ⟨k0, c, by omega, c2, ?_⟩
      show ap σ _ = ap σ (S.2.2.1 k)
      rw [upT_n (by omega), upT_n (by omega), c3]
    · have := s4 x hx
      show x < S.1 + 1
      omega
    · show 2 ≤ S.1 + 1
      omega
  obtain ⟨t6, t7, t8⟩ := t5 c3
  refine ev_ifeq 99 dX11_applies_88 (fun h_no => (by exfalso; omega)) (fun hb3 => ?_)
  refine ev_aload_n dX11_applies_91 rfl ?_
  refine ev_iload_n dX11_applies_92 rfl ?_
  refine ev_pt dX11_applies_93 fX11_275 I6.o I6.n rfl ?_
  refine ev_gt 117 dX11_applies_96 ?_
  refine ev_vret dX11_applies_117 (⟨rfl, (R.1, (e : Int), R.2.1, R.2.2), S, ?_, ⟨?_, fun _ => ⟨?_, ?_, ?_⟩, fun k => t3 k⟩, K6.pf (by decide), ?_, fun z => absurd z c3⟩)
  · unfold apR
    rw [if_neg hc]
    exact ⟨F, R, σ, q1, fun _ => rfl, fun z => absurd z c3⟩
  · exact t6
  · rfl
  · exact t7
  · exact t8
  · show h.vl 42 50 ≤ h6.vl 42 50 ∧ h6.vl 42 50 ≤ _
    omega
