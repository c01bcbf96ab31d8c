/-! keep: the reference -/
/-- the stamps behind a call -/
def StQ (h h1 : AH) (n : Int) : Prop := (∀ k, h1.vl 71 k ≤ h1.vl 42 50) ∧ (h.vl 42 50 ≤ h1.vl 42 50 ∧ h1.vl 42 50 ≤ h.vl 42 50 + n)
set_option maxRecDepth 100000 in
theorem r_keep {p q : Int} {N c : Nat} {LL : Nat → List Nd} {kp : Nat → Option TE} {h : AH} (hI : RI h) (hS : VS (h.vl 43) N LL kp) (hsn : ∀ k, h.vl 71 k ≤ h.vl 42 50) (hst : 0 ≤ h.vl 42 50 ∧ h.vl 42 50 + 206010 ≤ 2147483000) (hv2 : -2147483648 ≤ h.vl 43 2 + 1 ∧ h.vl 43 2 + 1 ≤ 2147483647) (hc : h.vl 42 2 = (c : Int)) (hc8 : c ≤ 8) :
    CV mX11_keep 11 [rv 42, iv p, iv q] h (oi fun r h1 => StQ h h1 206010 ∧ ((∃ w d, keN N LL kp p q w d ∧ RfQ h 1 w d h1) ∨ ∃ T, keO N LL kp p q T ∧ r = ((cnT T []).2.length : Int) ∧ CgQ h c (keV (h.vl 43) q.toNat (cnT T []).1) h1)) := by
  refine cv_of cdX11_keep ?_
  show EV _ _ 0 [rv 42, iv p, iv q] [] h _
  refine ev_aload_n dX11_keep_0 rfl ?_
  refine ev_cvv dX11_keep_1 lX11_350 (s_begins hI) (by decide) hI.o hI.n rfl rfl rfl (Nat.le_of_ble_eq_true rfl) rfl (fun g0 q0 => ?_)
  have b0 : BgQ h g0 := q0
  have hI0 : RI g0 := b0.1.ri hI
  have ev : g0.vl 43 = h.vl 43 := b0.1.vl
  have f50 : g0.vl 42 50 = h.vl 42 50 := b0.1.fl
  have f71 : g0.vl 71 = h.vl 71 := b0.1.vl
  have sn0 : ∀ k, g0.vl 71 k ≤ g0.vl 42 50 := fun k => by rw [f71, f50]; exact hsn k
  have hS0 : VS (g0.vl 43) N LL kp := by rw [ev]; exact hS
  refine ev_aload_n dX11_keep_4 rfl ?_
  refine ev_aload_n dX11_keep_5 rfl ?_
  refine ev_iload_n dX11_keep_6 rfl ?_
  refine ev_iload_n dX11_keep_7 rfl ?_
  refine ev_cvi dX11_keep_8 lX11_373 (s_keeps hI0 hS0.nv (hS0.kj sn0) (by omega) (by rw [ev]; exact hv2)) (by decide) hI0.o hI0.n rfl rfl rfl (Nat.le_of_ble_eq_true rfl) rfl (fun r g1 q1 => ?_)
  obtain ⟨k1, sn1, st1, q1⟩ := q1
  have hI1 : RI g1 := k1.ri hI0
  rcases q1 with ⟨w, d, hk, rfl, r1, w1, d1, v1⟩ | ⟨T, hk, rfl, r1, v1⟩
  · skip
    refine ev_iconst dX11_keep_11 ?_
    refine ev_cvi dX11_keep_12 lX11_359 (s_endsB hI1 r1) (by decide) hI1.o hI1.n rfl rfl rfl (Nat.le_of_ble_eq_true rfl) rfl (fun r h1 q => ?_)
    obtain ⟨rfl, q⟩ := q
    have e50 : h1.vl 42 50 = g1.vl 42 50 := q.1.fl
    have e71 : h1.vl 71 = g1.vl 71 := q.1.vl
    exact ev_iret dX11_keep_15 (⟨_, rfl, ⟨fun k => by rw [e71, e50]; exact sn1 k, by omega⟩, Or.inl ⟨w, d, hk, chg_r b0 k1 (by decide) (by decide) w1 d1 q⟩⟩)
  · skip
    have hr1 : g1.vl 42 69 = 0 := r1.trans b0.2.2.1
    have hc1 : g1.vl 42 2 = (c : Int) := (k1.fl).trans ((b0.1.fl).trans hc)
    refine ev_iconst dX11_keep_11 ?_
    refine ev_cvi dX11_keep_12 lX11_359 (s_endsO hI1 hr1 hc1 hc8) (by decide) hI1.o hI1.n rfl rfl rfl (Nat.le_of_ble_eq_true rfl) rfl (fun r h1 q => ?_)
    obtain ⟨rfl, q⟩ := q
    have e50 : h1.vl 42 50 = g1.vl 42 50 := q.1.fl
    have e71 : h1.vl 71 = g1.vl 71 := q.1.vl
    exact ev_iret dX11_keep_15 (⟨_, rfl, ⟨fun k => by rw [e71, e50]; exact sn1 k, by omega⟩, Or.inr ⟨T, hk, rfl, chg_o b0 k1 (by decide) (by decide) (fun j _ => by rw [v1, ev]) q⟩⟩)
