/-! the class: why a lesson has no type, the numbers of a node's type -/
section Ty2
variable {h : AH} {a K : Nat → Nat} {N : Nat} {tc : Nat → Nat} {LL : Nat → List Nd} {kp : Nat → Option TE} {p w nd : Int}
set_option maxRecDepth 100000 in
theorem g_failure (n : QN h a K N tc LL kp) (o : LkO N LL kp) : CV mX10_failure 10 [rv 0, iv p, iv w] h (fun oo h1 => (¬ (0 ≤ p ∧ p < (N : Int)) ∧ oo = xv 2 ∧ h1 = h.thr) ∨ ((0 ≤ p ∧ p < (N : Int)) ∧ ¬ (0 ≤ w ∧ w ≤ 3) ∧ oo = xv 0 ∧ h1 = h.thr) ∨ ((0 ≤ p ∧ p < (N : Int)) ∧ (0 ≤ w ∧ w ≤ 3) ∧ ∃ r S, fnR (LL p.toNat) kp r S ∧ ((r.1 = 0 ∧ oo = xv 3 ∧ QR h a K QY h1) ∨ (r.1 ≠ 0 ∧ oo = iv (irF r w) ∧ ∃ a1 K1, QF h a K h1 a1 K1 QY)))) := by
  have hC := n.1.1
  have hS := n.sn
  refine cv_of cdX10_failure ?_
  show EV _ _ 0 [rv 0, iv p, iv w, uv] [] h _
  by_cases hp : 0 ≤ p ∧ p < (N : Int)
  · skip
    refine ev_aload_n dX10_failure_0 rfl ?_
    refine ev_iload_n dX10_failure_1 rfl ?_
    refine ev_cvr dX10_failure_2 lX10_126 (g_termOf1 hS hp) (by decide) hC.k0 hC.n0 rfl rfl rfl (Nat.le_of_ble_eq_true rfl) rfl (fun r h1 q => ?_)
    obtain ⟨rfl, e⟩ := q
    rw [e]
    refine ev_ast3 dX10_failure_5 ?_
    refine ev_iload_n dX10_failure_6 rfl ?_
    by_cases w0 : w < 0
    · skip
      refine ev_iflt 15 dX10_failure_7 (fun hb => ?_) (fun h_no => (by exfalso; omega))
      exact ev_throw _ tk_0 (List.mem_of_getElem? (i := 9) rfl) dX10_failure_15 dX10_failure_18 dX10_failure_19 dX10_failure_21 dX10_failure_24 rfl (Nat.le_of_ble_eq_true rfl) (Or.inr (Or.inl ⟨hp, by omega, rfl, rfl⟩))
    refine ev_iflt 15 dX10_failure_7 (fun h_no => (by exfalso; omega)) (fun hb => ?_)
    refine ev_iload_n dX10_failure_10 rfl ?_
    refine ev_iconst dX10_failure_11 ?_
    by_cases w3 : 3 < w
    · skip
      refine ev_icmple 25 dX10_failure_12 (fun h_no => (by exfalso; omega)) (fun hb2 => ?_)
      exact ev_throw _ tk_0 (List.mem_of_getElem? (i := 9) rfl) dX10_failure_15 dX10_failure_18 dX10_failure_19 dX10_failure_21 dX10_failure_24 rfl (Nat.le_of_ble_eq_true rfl) (Or.inr (Or.inl ⟨hp, by omega, rfl, rfl⟩))
    have hw : 0 ≤ w ∧ w ≤ 3 := by omega
    refine ev_icmple 25 dX10_failure_12 (fun hb2 => ?_) (fun h_no => (by exfalso; omega))
    refine ev_aload_n dX10_failure_25 rfl ?_
    refine ev_getrv dX10_failure_26 fX10_29 hC.k0 hC.n0 rfl hC.v0_3 ?_
    refine ev_aload_n dX10_failure_29 rfl ?_
    refine ev_aload_n dX10_failure_30 rfl ?_
    refine ev_getrv dX10_failure_31 fX10_48 hC.k0 hC.n0 rfl hC.v0_6 ?_
    refine ev_iconst dX10_failure_34 ?_
    refine ev_cvi dX10_failure_35 lX10_154 (q_go n o (l := p.toNat) (by omega)) (by decide) hC.k8 hC.n8 rfl rfl rfl (Nat.le_of_ble_eq_true rfl) rfl (fun x h1 q => ?_)
    obtain ⟨r, S, a1, K1, q1, q2, q3, q4, q5⟩ := q
    have hC1 := q3.g.1
    have q9 : QF h a K h1 a1 K1 QY := q3.wk (fun _ z => z.elim)
    by_cases r0 : r.1 = 0
    · skip
      rw [if_pos r0] at q2
      refine ev_ifeq 51 dX10_failure_38 (fun h_no => (by exfalso; omega)) (fun hb3 => ?_)
      exact ev_throwx _ tk_3 (List.mem_of_getElem? (i := 10) rfl) dX10_failure_41 dX10_failure_44 dX10_failure_45 dX10_failure_47 dX10_failure_50 rfl (Nat.le_of_ble_eq_true rfl) (Or.inr (Or.inr ⟨hp, hw, r, S, q1, Or.inl ⟨r0, rfl, h1, a1, K1, rfl, q9⟩⟩))
    rw [if_neg r0] at q2
    refine ev_ifeq 51 dX10_failure_38 (fun hb3 => ?_) (fun h_no => (by exfalso; omega))
    obtain ⟨u1, u2, u3, u4⟩ := q4
    refine ev_iload_n dX10_failure_51 rfl ?_
    by_cases c0 : w = 0
    · subst c0
      refine ev_tsI 80 (28) dX10_failure_52 (by omega) (by omega) rfl ?_
      refine ev_aload_n dX10_failure_80 rfl ?_
      refine ev_getrv dX10_failure_81 fX10_29 hC1.k0 hC1.n0 rfl hC1.v0_3 ?_
      refine ev_getiv dX10_failure_84 fX10_162 hC1.k8 hC1.n8 rfl u1 ?_
      exact ev_iret dX10_failure_87 (Or.inr (Or.inr ⟨hp, hw, r, S, q1, Or.inr ⟨r0, by rw [irF, if_pos rfl], a1, K1, q9⟩⟩))
    by_cases c1 : w = 1
    · subst c1
      refine ev_tsI 88 (36) dX10_failure_52 (by omega) (by omega) rfl ?_
      refine ev_aload_n dX10_failure_88 rfl ?_
      refine ev_getrv dX10_failure_89 fX10_29 hC1.k0 hC1.n0 rfl hC1.v0_3 ?_
      refine ev_getiv dX10_failure_92 fX10_165 hC1.k8 hC1.n8 rfl u2 ?_
      exact ev_iret dX10_failure_95 (Or.inr (Or.inr ⟨hp, hw, r, S, q1, Or.inr ⟨r0, by rw [irF, if_neg (by decide), if_pos rfl], a1, K1, q9⟩⟩))
    by_cases c2 : w = 2
    · subst c2
      refine ev_tsI 96 (44) dX10_failure_52 (by omega) (by omega) rfl ?_
      refine ev_aload_n dX10_failure_96 rfl ?_
      refine ev_getrv dX10_failure_97 fX10_29 hC1.k0 hC1.n0 rfl hC1.v0_3 ?_
      refine ev_getiv dX10_failure_100 fX10_168 hC1.k8 hC1.n8 rfl u3 ?_
      exact ev_iret dX10_failure_103 (Or.inr (Or.inr ⟨hp, hw, r, S, q1, Or.inr ⟨r0, by rw [irF, if_neg (by decide), if_neg (by decide), if_pos rfl], a1, K1, q9⟩⟩))
    obtain rfl : w = 3 := by omega
    refine ev_tsO 104 dX10_failure_52 (by omega) ?_
    refine ev_aload_n dX10_failure_104 rfl ?_
    refine ev_getrv dX10_failure_105 fX10_29 hC1.k0 hC1.n0 rfl hC1.v0_3 ?_
    refine ev_getiv dX10_failure_108 fX10_171 hC1.k8 hC1.n8 rfl u4 ?_
    exact ev_iret dX10_failure_111 (Or.inr (Or.inr ⟨hp, hw, r, S, q1, Or.inr ⟨r0, by rw [irF, if_neg (by decide), if_neg (by decide), if_neg (by decide)], a1, K1, q9⟩⟩))
  · skip
    refine ev_aload_n dX10_failure_0 rfl ?_
    refine ev_iload_n dX10_failure_1 rfl ?_
    refine ev_callv dX10_failure_2 lX10_126 (g_termOf0 hS hp) (by decide) (by decide) (by have := hC.n0; omega) hC.k0 rfl rfl (Nat.le_of_ble_eq_true rfl) rfl (fun o h1 q => by obtain ⟨rfl, rfl⟩ := q; exact ⟨fun _ => Or.inl ⟨hp, rfl, rfl⟩, fun e => absurd rfl e⟩) (Or.inr q_1326)
set_option maxRecDepth 100000 in
theorem g_nodeType (n : QN h a K N tc LL kp) (o : LkO N LL kp) : CV mX10_nodeType 11 [rv 0, iv p, iv nd, iv w] h (fun oo h1 => (¬ ((0 ≤ p ∧ p < (N : Int)) ∧ (0 ≤ nd ∧ nd < ((LL p.toNat).length : Int))) ∧ oo = xv 2 ∧ h1 = h.thr) ∨ (((0 ≤ p ∧ p < (N : Int)) ∧ (0 ≤ nd ∧ nd < ((LL p.toNat).length : Int))) ∧ ¬ (0 ≤ w ∧ w ≤ 4) ∧ oo = xv 0 ∧ h1 = h.thr) ∨ (((0 ≤ p ∧ p < (N : Int)) ∧ (0 ≤ nd ∧ nd < ((LL p.toNat).length : Int))) ∧ (0 ≤ w ∧ w ≤ 4) ∧ ∃ r S, fnR (LL p.toNat) kp r S ∧ ((r.1 ≠ 0 ∧ oo = xv 4 ∧ QR h a K QY h1) ∨ (r.1 = 0 ∧ oo = iv (nuF (S.2.1 nd.toNat) w) ∧ ∃ a1 K1, QF h a K h1 a1 K1 QY)))) := by
  have hC := n.1.1
  have hS := n.sn
  refine cv_of cdX10_nodeType ?_
  show EV _ _ 0 [rv 0, iv p, iv nd, iv w, uv] [] h _
  by_cases hp : (0 ≤ p ∧ p < (N : Int)) ∧ (0 ≤ nd ∧ nd < ((LL p.toNat).length : Int))
  · skip
    refine ev_aload_n dX10_nodeType_0 rfl ?_
    refine ev_iload_n dX10_nodeType_1 rfl ?_
    refine ev_iload_n dX10_nodeType_2 rfl ?_
    refine ev_cvr dX10_nodeType_3 lX10_133 (g_with1 hS hp) (by decide) hC.k0 hC.n0 rfl rfl rfl (Nat.le_of_ble_eq_true rfl) rfl (fun r h1 q => ?_)
    obtain ⟨rfl, e⟩ := q
    rw [e]
    refine ev_ast4 dX10_nodeType_6 ?_
    refine ev_iload_n dX10_nodeType_8 rfl ?_
    by_cases hw : 0 ≤ w ∧ w ≤ 4
    · skip
      refine ev_csv dX10_nodeType_9 lX10_174 (s_needM1 hw) (by decide) rfl rfl (Nat.le_of_ble_eq_true rfl) rfl (fun h1 q => ?_)
      rw [q]
      refine ev_aload_n dX10_nodeType_12 rfl ?_
      refine ev_aload dX10_nodeType_13 rfl ?_
      refine ev_aload_n dX10_nodeType_15 rfl ?_
      refine ev_getrv dX10_nodeType_16 fX10_38 hC.k0 hC.n0 rfl hC.v0_4 ?_
      by_cases ok : TyP (LL p.toNat) kp
      · skip
        refine ev_cvv dX10_nodeType_19 lX10_177 (g_needT1 n o (l := p.toNat) (by omega) (sh := 27) (by decide) ok) (by decide) hC.k0 hC.n0 rfl rfl rfl (Nat.le_of_ble_eq_true rfl) rfl (fun h1 q => ?_)
        obtain ⟨r, S, M, T, τ, a1, K1, q1, q2, q3, q4, q5, q6⟩ := q
        have hC1 := q4.g.1
        obtain ⟨e, rfl⟩ : ∃ e : Nat, nd = (e : Int) := ⟨nd.toNat, by omega⟩
        have he : e < (LL p.toNat).length := by omega
        refine ev_aload_n dX10_nodeType_22 rfl ?_
        refine ev_getrv dX10_nodeType_23 fX10_29 hC1.k0 hC1.n0 rfl hC1.v0_3 ?_
        refine ev_iload_n dX10_nodeType_26 rfl ?_
        refine ev_aload_n dX10_nodeType_27 rfl ?_
        refine ev_getrv dX10_nodeType_28 fX10_38 hC1.k0 hC1.n0 rfl hC1.v0_4 ?_
        refine ev_cvv dX10_nodeType_31 lX10_193 (q_node q5 q4.2.1 q4.2.2.2 he (fnR_sz q1 q2 e he) (sh := 27) (by decide)) (by decide) hC1.k8 hC1.n8 rfl rfl rfl (Nat.le_of_ble_eq_true rfl) rfl (fun h2 q => ?_)
        obtain ⟨a2, K2, t1, t2, t3⟩ := q
        have hC2 := t1.g.1
        refine ev_aload_n dX10_nodeType_34 rfl ?_
        refine ev_getrv dX10_nodeType_35 fX10_38 hC2.k0 hC2.n0 rfl hC2.v0_4 ?_
        refine ev_iload_n dX10_nodeType_38 rfl ?_
        refine ev_cvi dX10_nodeType_39 lX10_181 (s_measure t3.t hw) (by decide) hC2.k27 hC2.n27 rfl rfl rfl (Nat.le_of_ble_eq_true rfl) rfl (fun x h3 q => ?_)
        obtain ⟨rfl, e2⟩ := q
        rw [e2]
        exact ev_iret dX10_nodeType_42 (Or.inr (Or.inr ⟨hp, hw, r, S, q1, Or.inr ⟨q2, rfl, a2, K2, (q4.tr t1).wk (shY_q (by decide))⟩⟩))
      · skip
        refine ev_callv dX10_nodeType_19 lX10_177 (g_needT0 n o (l := p.toNat) (by omega) ok) (by decide) (by decide) (by have := hC.n0; omega) hC.k0 rfl rfl (Nat.le_of_ble_eq_true rfl) rfl (fun o h1 q => by obtain ⟨rfl, q⟩ := q; exact ⟨fun _ => Or.inr (Or.inr ⟨hp, hw, by obtain ⟨r, S, q1, q2, q3⟩ := q; exact ⟨r, S, q1, Or.inl ⟨q2, rfl, q3.wk (fun _ z => z.elim)⟩⟩⟩), fun e => absurd rfl e⟩) (Or.inr q_1437)
    · skip
      refine ev_calls dX10_nodeType_9 lX10_174 (s_needM0 hw) (by decide) rfl rfl (Nat.le_of_ble_eq_true rfl) rfl (fun o h1 q => by obtain ⟨rfl, rfl⟩ := q; exact ⟨fun _ => Or.inr (Or.inl ⟨hp, hw, rfl, rfl⟩), fun e => absurd rfl e⟩) (Or.inr q_1433)
  · skip
    refine ev_aload_n dX10_nodeType_0 rfl ?_
    refine ev_iload_n dX10_nodeType_1 rfl ?_
    refine ev_iload_n dX10_nodeType_2 rfl ?_
    refine ev_callv dX10_nodeType_3 lX10_133 (g_with0 hS hp) (by decide) (by decide) (by have := hC.n0; omega) hC.k0 rfl rfl (Nat.le_of_ble_eq_true rfl) rfl (fun o h1 q => by obtain ⟨rfl, rfl⟩ := q; exact ⟨fun _ => Or.inl ⟨hp, rfl, rfl⟩, fun e => absurd rfl e⟩) (Or.inr q_1350)
end Ty2
