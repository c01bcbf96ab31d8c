/-! accounts: the reference -/
def acR (v : Nat → Int) (inN cN : Int) (N : Nat) (LL : Nat → List Nd) (kp : Nat → Option TE) (p x : Int) : Prop :=
  if p = 0 then x = (N : Int) else if p = 1 then ofR LL kp 0 N x else if 2 ≤ p ∧ p ≤ 4 then ofR LL kp (p + 1) N x else if p = 5 then x = (sumL LL N : Int) else if p = 6 then x = (kpN v 8 : Int) else if p = 7 then x = v 1 else if p = 8 then x = v 2 else if p = 9 then ofR LL kp 2 N x else if p = 10 then x = inN else if p = 11 then x = cN else ofR LL kp 10 N x
abbrev AcF : List Nat := 0 :: OfF
set_option maxRecDepth 100000 in
theorem r_account {p : Int} {N : Nat} {LL : Nat → List Nd} {kp : Nat → Option TE} {h : AH} (hI0 : RI h) (hN0 : NV h N LL) (hK0 : KpJ h kp) (hst0 : 0 ≤ h.vl 42 50 ∧ h.vl 42 50 + 206010 * 6 ≤ 2147483000) :
    CV mX11_account 12 [rv 42, iv p] h (oi fun x h1 => KP h h1 RfA AcF ∧ KpJ h1 kp ∧ (h.vl 42 50 ≤ h1.vl 42 50 ∧ h1.vl 42 50 ≤ h.vl 42 50 + 206010 * 6) ∧ ((¬ (0 ≤ p ∧ p ≤ 12) ∧ h1.vl 42 0 = 1) ∨ ((0 ≤ p ∧ p ≤ 12) ∧ h1.vl 42 0 = 0 ∧ acR (h.vl 43) (h.vl 42 71) (h.vl 42 2) N LL kp p x))) := by
  refine cv_of cdX11_account ?_
  show EV _ _ 0 [rv 42, iv p] [] h _
  obtain ⟨g, eg⟩ : ∃ g, g = h.put 42 0 0 := ⟨_, rfl⟩
  have kg : KP h g [] [0] := by rw [eg]; exact KP.rf.pf (by decide)
  have hI : RI g := kg.ri hI0
  have hN : NV g N LL := hN0.kp kg
  have hK : KpJ g kp := hK0.kp kg
  have f50 : g.vl 42 50 = h.vl 42 50 := kg.fl
  have f71 : g.vl 42 71 = h.vl 42 71 := kg.fl
  have f2 : g.vl 42 2 = h.vl 42 2 := kg.fl
  have f43 : g.vl 43 = h.vl 43 := kg.vl
  have t0 : g.vl 42 0 = 0 := by rw [eg]; rfl
  have v0 : g.vl 43 0 = (N : Int) := hN.1
  have hst : 0 ≤ g.vl 42 50 ∧ g.vl 42 50 + 206010 * 6 ≤ 2147483000 := by omega
  refine ev_aload_n dX11_account_0 rfl ?_
  refine ev_iconst dX11_account_1 ?_
  refine ev_pt dX11_account_2 fX11_161 hI0.o hI0.n rfl ?_
  rw [← eg]
  refine ev_iload_n dX11_account_5 rfl ?_
  by_cases hp0 : p = 0
  · subst hp0
    refine ev_tsI 72 (66) dX11_account_6 (by omega) (by omega) rfl ?_
    refine ev_aload_n dX11_account_72 rfl ?_
    refine ev_getrv dX11_account_73 fX11_13 hI.o hI.n rfl hI.v_v ?_
    refine ev_iconst dX11_account_76 ?_
    refine ev_ildv dX11_account_77 hI.k_v hI.n_v rfl (by omega) (by omega) v0 ?_
    exact ev_iret dX11_account_78 (⟨_, rfl, kg.wk (by decide) (by decide), hK, by omega, Or.inr ⟨by omega, t0, rfl⟩⟩)
  by_cases hp1 : p = 1
  · subst hp1
    refine ev_tsI 79 (73) dX11_account_6 (by omega) (by omega) rfl ?_
    refine ev_aload_n dX11_account_79 rfl ?_
    refine ev_iconst dX11_account_80 ?_
    refine ev_cvi dX11_account_81 lX11_458 (s_ofLessons hI hN hK (by omega) hst) (by decide) hI.o hI.n rfl rfl rfl (Nat.le_of_ble_eq_true rfl) rfl (fun x h1 q => ?_)
    obtain ⟨q1, q2, q3, q4⟩ := q
    exact ev_iret dX11_account_84 (⟨_, rfl, (kg.wk (by decide) (by decide)).tr (q1.wk (by decide) (by decide)), q2, by omega, Or.inr ⟨by omega, by rw [q1.fl]; exact t0, q4⟩⟩)
  by_cases hp2 : p = 2
  · subst hp2
    refine ev_tsI 85 (79) dX11_account_6 (by omega) (by omega) rfl ?_
    refine ev_aload_n dX11_account_85 rfl ?_
    refine ev_iload_n dX11_account_86 rfl ?_
    refine ev_iconst dX11_account_87 ?_
    refine ev_iadd dX11_account_88 (by unfold ir; omega) ?_
    refine ev_cvi dX11_account_89 lX11_458 (s_ofLessons hI hN hK (by omega) hst) (by decide) hI.o hI.n rfl rfl rfl (Nat.le_of_ble_eq_true rfl) rfl (fun x h1 q => ?_)
    obtain ⟨q1, q2, q3, q4⟩ := q
    exact ev_iret dX11_account_92 (⟨_, rfl, (kg.wk (by decide) (by decide)).tr (q1.wk (by decide) (by decide)), q2, by omega, Or.inr ⟨by omega, by rw [q1.fl]; exact t0, q4⟩⟩)
  by_cases hp3 : p = 3
  · subst hp3
    refine ev_tsI 85 (79) dX11_account_6 (by omega) (by omega) rfl ?_
    refine ev_aload_n dX11_account_85 rfl ?_
    refine ev_iload_n dX11_account_86 rfl ?_
    refine ev_iconst dX11_account_87 ?_
    refine ev_iadd dX11_account_88 (by unfold ir; omega) ?_
    refine ev_cvi dX11_account_89 lX11_458 (s_ofLessons hI hN hK (by omega) hst) (by decide) hI.o hI.n rfl rfl rfl (Nat.le_of_ble_eq_true rfl) rfl (fun x h1 q => ?_)
    obtain ⟨q1, q2, q3, q4⟩ := q
    exact ev_iret dX11_account_92 (⟨_, rfl, (kg.wk (by decide) (by decide)).tr (q1.wk (by decide) (by decide)), q2, by omega, Or.inr ⟨by omega, by rw [q1.fl]; exact t0, q4⟩⟩)
  by_cases hp4 : p = 4
  · subst hp4
    refine ev_tsI 85 (79) dX11_account_6 (by omega) (by omega) rfl ?_
    refine ev_aload_n dX11_account_85 rfl ?_
    refine ev_iload_n dX11_account_86 rfl ?_
    refine ev_iconst dX11_account_87 ?_
    refine ev_iadd dX11_account_88 (by unfold ir; omega) ?_
    refine ev_cvi dX11_account_89 lX11_458 (s_ofLessons hI hN hK (by omega) hst) (by decide) hI.o hI.n rfl rfl rfl (Nat.le_of_ble_eq_true rfl) rfl (fun x h1 q => ?_)
    obtain ⟨q1, q2, q3, q4⟩ := q
    exact ev_iret dX11_account_92 (⟨_, rfl, (kg.wk (by decide) (by decide)).tr (q1.wk (by decide) (by decide)), q2, by omega, Or.inr ⟨by omega, by rw [q1.fl]; exact t0, q4⟩⟩)
  by_cases hp5 : p = 5
  · subst hp5
    refine ev_tsI 93 (87) dX11_account_6 (by omega) (by omega) rfl ?_
    refine ev_aload_n dX11_account_93 rfl ?_
    refine ev_cvi dX11_account_94 lX11_461 (s_allNodes hI hN (fun l hl => hN.len hl)) (by decide) hI.o hI.n rfl rfl rfl (Nat.le_of_ble_eq_true rfl) rfl (fun x h1 q => ?_)
    obtain ⟨q1, q2⟩ := q
    have e50 : h1.vl 42 50 = g.vl 42 50 := q2.fl
    exact ev_iret dX11_account_97 (⟨_, rfl, (kg.wk (by decide) (by decide)).tr (q2.wk (by decide) (by decide)), hK.kp q2, by omega, Or.inr ⟨by omega, by rw [q2.fl]; exact t0, q1⟩⟩)
  by_cases hp6 : p = 6
  · subst hp6
    refine ev_tsI 98 (92) dX11_account_6 (by omega) (by omega) rfl ?_
    refine ev_aload_n dX11_account_98 rfl ?_
    refine ev_cvi dX11_account_99 lX11_464 (s_keptNow hI) (by decide) hI.o hI.n rfl rfl rfl (Nat.le_of_ble_eq_true rfl) rfl (fun x h1 q => ?_)
    obtain ⟨q1, rfl⟩ := q
    exact ev_iret dX11_account_102 (⟨_, rfl, kg.wk (by decide) (by decide), hK, by omega, Or.inr ⟨by omega, t0, by rw [f43] at q1; exact q1⟩⟩)
  by_cases hp7 : p = 7
  · subst hp7
    refine ev_tsI 103 (97) dX11_account_6 (by omega) (by omega) rfl ?_
    obtain ⟨w, hw⟩ : ∃ w, g.vl 43 1 = w := ⟨_, rfl⟩
    refine ev_aload_n dX11_account_103 rfl ?_
    refine ev_getrv dX11_account_104 fX11_13 hI.o hI.n rfl hI.v_v ?_
    refine ev_iconst dX11_account_107 ?_
    refine ev_iload_n dX11_account_108 rfl ?_
    refine ev_iadd dX11_account_109 (by unfold ir; omega) ?_
    refine ev_bipush dX11_account_110 ?_
    refine ev_isub dX11_account_112 (by unfold ir; omega) ?_
    refine ev_ildv dX11_account_113 hI.k_v hI.n_v rfl (by omega) (by omega) hw ?_
    exact ev_iret dX11_account_114 (⟨_, rfl, kg.wk (by decide) (by decide), hK, by omega, Or.inr ⟨by omega, t0, by rw [← hw, f43]; rfl⟩⟩)
  by_cases hp8 : p = 8
  · subst hp8
    refine ev_tsI 103 (97) dX11_account_6 (by omega) (by omega) rfl ?_
    obtain ⟨w, hw⟩ : ∃ w, g.vl 43 2 = w := ⟨_, rfl⟩
    refine ev_aload_n dX11_account_103 rfl ?_
    refine ev_getrv dX11_account_104 fX11_13 hI.o hI.n rfl hI.v_v ?_
    refine ev_iconst dX11_account_107 ?_
    refine ev_iload_n dX11_account_108 rfl ?_
    refine ev_iadd dX11_account_109 (by unfold ir; omega) ?_
    refine ev_bipush dX11_account_110 ?_
    refine ev_isub dX11_account_112 (by unfold ir; omega) ?_
    refine ev_ildv dX11_account_113 hI.k_v hI.n_v rfl (by omega) (by omega) hw ?_
    exact ev_iret dX11_account_114 (⟨_, rfl, kg.wk (by decide) (by decide), hK, by omega, Or.inr ⟨by omega, t0, by rw [← hw, f43]; rfl⟩⟩)
  by_cases hp9 : p = 9
  · subst hp9
    refine ev_tsI 115 (109) dX11_account_6 (by omega) (by omega) rfl ?_
    refine ev_aload_n dX11_account_115 rfl ?_
    refine ev_iconst dX11_account_116 ?_
    refine ev_cvi dX11_account_117 lX11_458 (s_ofLessons hI hN hK (by omega) hst) (by decide) hI.o hI.n rfl rfl rfl (Nat.le_of_ble_eq_true rfl) rfl (fun x h1 q => ?_)
    obtain ⟨q1, q2, q3, q4⟩ := q
    exact ev_iret dX11_account_120 (⟨_, rfl, (kg.wk (by decide) (by decide)).tr (q1.wk (by decide) (by decide)), q2, by omega, Or.inr ⟨by omega, by rw [q1.fl]; exact t0, q4⟩⟩)
  by_cases hp10 : p = 10
  · subst hp10
    refine ev_tsI 121 (115) dX11_account_6 (by omega) (by omega) rfl ?_
    refine ev_aload_n dX11_account_121 rfl ?_
    refine ev_geti dX11_account_122 fX11_353 hI.o hI.n rfl ?_
    exact ev_iret dX11_account_125 (⟨_, rfl, kg.wk (by decide) (by decide), hK, by omega, Or.inr ⟨by omega, t0, f71⟩⟩)
  by_cases hp11 : p = 11
  · subst hp11
    refine ev_tsI 126 (120) dX11_account_6 (by omega) (by omega) rfl ?_
    refine ev_aload_n dX11_account_126 rfl ?_
    refine ev_geti dX11_account_127 fX11_347 hI.o hI.n rfl ?_
    exact ev_iret dX11_account_130 (⟨_, rfl, kg.wk (by decide) (by decide), hK, by omega, Or.inr ⟨by omega, t0, f2⟩⟩)
  by_cases hp12 : p = 12
  · subst hp12
    refine ev_tsI 131 (125) dX11_account_6 (by omega) (by omega) rfl ?_
    refine ev_aload_n dX11_account_131 rfl ?_
    refine ev_bipush dX11_account_132 ?_
    refine ev_cvi dX11_account_134 lX11_458 (s_ofLessons hI hN hK (by omega) hst) (by decide) hI.o hI.n rfl rfl rfl (Nat.le_of_ble_eq_true rfl) rfl (fun x h1 q => ?_)
    obtain ⟨q1, q2, q3, q4⟩ := q
    exact ev_iret dX11_account_137 (⟨_, rfl, (kg.wk (by decide) (by decide)).tr (q1.wk (by decide) (by decide)), q2, by omega, Or.inr ⟨by omega, by rw [q1.fl]; exact t0, q4⟩⟩)
  refine ev_tsO 138 dX11_account_6 (by omega) ?_
  refine ev_aload_n dX11_account_138 rfl ?_
  refine ev_iconst dX11_account_139 ?_
  refine ev_cvi dX11_account_140 lX11_344 (s_no hI) (by decide) hI.o hI.n rfl rfl rfl (Nat.le_of_ble_eq_true rfl) rfl (fun x h1 q => ?_)
  obtain ⟨-, e1⟩ := q
  have k1 : KP g h1 [] [0] := by rw [e1]; exact KP.rf.pf (by decide)
  have e50 : h1.vl 42 50 = g.vl 42 50 := k1.fl
  exact ev_iret dX11_account_143 (⟨_, rfl, (kg.wk (by decide) (by decide)).tr (k1.wk (by decide) (by decide)), hK.kp k1, by omega, Or.inl ⟨by omega, by rw [e1]; rfl⟩⟩)
