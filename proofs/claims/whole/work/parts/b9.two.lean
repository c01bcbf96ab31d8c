/-! two lessons: the reference -/
theorem BoR_01 {L L' : List Nd} {kp : Nat → Option TE} {x : Int} {h1 : AH} (h : BoR L L' kp x h1) : x = 0 ∨ x = 1 := by
  obtain ⟨r, S, a, h | ⟨b, r', S', c, h | h⟩⟩ := h
  · exact Or.inl h.2
  · exact Or.inl h.2
  · exact Or.inr h.2.1
set_option maxRecDepth 100000 in
theorem s_twoLessons {p q : Int} {N : Nat} {LL : Nat → List Nd} {kp : Nat → Option TE} {h : AH} (hI : RI h) (hN : NV h N LL) (hK : KpJ h kp) (hst : 0 ≤ h.vl 42 50 ∧ h.vl 42 50 + 412020 ≤ 2147483000) :
    CV mX11_twoLessons 11 [rv 42, iv p, iv q] h (oi fun x h1 => KP h h1 BoA BoF ∧ KpJ h1 kp ∧ (h.vl 42 50 ≤ h1.vl 42 50 ∧ h1.vl 42 50 ≤ h.vl 42 50 + 412020) ∧ ((¬ ((0 ≤ p ∧ p < (N : Int)) ∧ (0 ≤ q ∧ q < (N : Int))) ∧ x = 1) ∨ (((0 ≤ p ∧ p < (N : Int)) ∧ (0 ≤ q ∧ q < (N : Int))) ∧ ((x = 0 ∧ BoR (LL p.toNat) (LL q.toNat) kp 1 h1) ∨ (x = 2 ∧ BoR (LL p.toNat) (LL q.toNat) kp 0 h1))))) := by
  refine cv_of cdX11_twoLessons ?_
  show EV _ _ 0 [rv 42, iv p, iv q] [] h _
  refine ev_aload_n dX11_twoLessons_0 rfl ?_
  refine ev_iload_n dX11_twoLessons_1 rfl ?_
  by_cases hp : 0 ≤ p ∧ p < (N : Int)
  · skip
    refine ev_cvi dX11_twoLessons_2 lX11_361 (i_les1 hI hN hp) (by decide) hI.o hI.n rfl rfl rfl (Nat.le_of_ble_eq_true rfl) rfl (fun r z1 q => ?_)
    obtain ⟨rfl, e⟩ := q
    rw [e]
    refine ev_ifeq 16 dX11_twoLessons_5 (fun h_no => (by exfalso; omega)) (fun hbr => ?_)
    refine ev_aload_n dX11_twoLessons_8 rfl ?_
    refine ev_iload_n dX11_twoLessons_9 rfl ?_
    by_cases hq : 0 ≤ q ∧ q < (N : Int)
    · skip
      refine ev_cvi dX11_twoLessons_10 lX11_361 (i_les1 hI hN hq) (by decide) hI.o hI.n rfl rfl rfl (Nat.le_of_ble_eq_true rfl) rfl (fun r z1 q => ?_)
      obtain ⟨rfl, e⟩ := q
      rw [e]
      refine ev_ifne 20 dX11_twoLessons_13 (fun hbr => ?_) (fun h_no => (by exfalso; omega))
      refine ev_aload_n dX11_twoLessons_20 rfl ?_
      refine ev_iload_n dX11_twoLessons_21 rfl ?_
      refine ev_iload_n dX11_twoLessons_22 rfl ?_
      refine ev_cvi dX11_twoLessons_23 lX11_400 (s_both hI hN hK hp hq hst) (by decide) hI.o hI.n rfl rfl rfl (Nat.le_of_ble_eq_true rfl) rfl (fun x h1 q0 => ?_)
      obtain ⟨q1, q2, q3, q4⟩ := q0
      have I1 : RI h1 := q1.ri hI
      rcases BoR_01 q4 with rfl | rfl
      · skip
        refine ev_ifeq 33 dX11_twoLessons_26 (fun hb => ?_) (fun h_no => (by exfalso; omega))
        refine ev_iconst dX11_twoLessons_33 ?_
        exact ev_iret dX11_twoLessons_34 (⟨_, rfl, q1, q2, q3, Or.inr ⟨⟨hp, hq⟩, Or.inr ⟨rfl, q4⟩⟩⟩)
      refine ev_ifeq 33 dX11_twoLessons_26 (fun h_no => (by exfalso; omega)) (fun hb => ?_)
      refine ev_iconst dX11_twoLessons_29 ?_
      refine ev_gt 34 dX11_twoLessons_30 ?_
      exact ev_iret dX11_twoLessons_34 (⟨_, rfl, q1, q2, q3, Or.inr ⟨⟨hp, hq⟩, Or.inl ⟨rfl, q4⟩⟩⟩)
    refine ev_cvi dX11_twoLessons_10 lX11_361 (i_les0 hI hN hq) (by decide) hI.o hI.n rfl rfl rfl (Nat.le_of_ble_eq_true rfl) rfl (fun r z1 q => ?_)
    obtain ⟨rfl, e⟩ := q
    rw [e]
    refine ev_ifne 20 dX11_twoLessons_13 (fun h_no => (by exfalso; omega)) (fun hbr => ?_)
    refine ev_iconst dX11_twoLessons_16 ?_
    refine ev_gt 34 dX11_twoLessons_17 ?_
    exact ev_iret dX11_twoLessons_34 (⟨_, rfl, KP.rf, hK, by omega, Or.inl ⟨fun z => hq z.2, rfl⟩⟩)
  refine ev_cvi dX11_twoLessons_2 lX11_361 (i_les0 hI hN hp) (by decide) hI.o hI.n rfl rfl rfl (Nat.le_of_ble_eq_true rfl) rfl (fun r z1 q => ?_)
  obtain ⟨rfl, e⟩ := q
  rw [e]
  refine ev_ifeq 16 dX11_twoLessons_5 (fun hbr => ?_) (fun h_no => (by exfalso; omega))
  refine ev_iconst dX11_twoLessons_16 ?_
  refine ev_gt 34 dX11_twoLessons_17 ?_
  exact ev_iret dX11_twoLessons_34 (⟨_, rfl, KP.rf, hK, by omega, Or.inl ⟨fun z => hp z.1, rfl⟩⟩)
