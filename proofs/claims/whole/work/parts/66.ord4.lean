/-! the reference reads all orders without doing them -/
def AoQ (h : AH) (p : Bool × Nat × Nat) (r : Int) (h1 : AH) : Prop := r = (if p.1 = true then 1 else 0) ∧ KP h h1 [] [75, 77] ∧ h1.vl 42 75 = (p.2.1 : Int) ∧ h1.vl 42 77 = (p.2.2 : Int)
theorem ao_0 {c : Nat → Int} {n i k t : Nat} (h : ¬ i < n) : ao c n (t + 1) i k = (true, i, k) := by rw [ao, if_neg h]
theorem ao_1 {c : Nat → Int} {n i k t : Nat} (h : i < n) (h2 : ¬ c i = 59) : ao c n (t + 1) i k = (false, i, k) := by rw [ao, if_pos h, if_neg h2]
theorem ao_2 {c : Nat → Int} {n i k t : Nat} (h : i < n) (h2 : c i = 59) (h3 : (io c n (i + 1)).1 = true) : ao c n (t + 1) i k = ao c n t (io c n (i + 1)).2 (k + 1) := by rw [ao, if_pos h, if_pos h2, if_pos h3]
theorem ao_3 {c : Nat → Int} {n i k t : Nat} (h : i < n) (h2 : c i = 59) (h3 : ¬ (io c n (i + 1)).1 = true) : ao c n (t + 1) i k = (false, (io c n (i + 1)).2, k + 1) := by rw [ao, if_pos h, if_pos h2, if_neg h3]
set_option maxRecDepth 100000 in
theorem ord_l {n : Nat} {h : AH} (hI : RI h) (h2 : h.vl 42 76 = (n : Int)) (hr : h.vl 42 69 = 0) (hn : n ≤ 60) : ∀ (t i k : Nat) (g : AH), i ≤ n → n ≤ i + t → KP h g [] [75, 77] → g.vl 42 75 = (i : Int) → g.vl 42 77 = (k : Int) → k ≤ i → EV mX11_areOrders 5 20 [rv 42, iv 0] [] g (oi (AoQ h (ao (h.vl 88) n t i k))) := by
  obtain ⟨c, hc⟩ : ∃ c, c = h.vl 88 := ⟨_, rfl⟩
  rw [← hc]
  have done : ∀ (t i k : Nat) (g : AH), ¬ i < n → KP h g [] [75, 77] → g.vl 42 75 = (i : Int) → g.vl 42 77 = (k : Int) → ao c n t i k = (true, i, k) → EV mX11_areOrders 5 20 [rv 42, iv 0] [] g (oi (AoQ h (ao c n t i k))) := by
    intro t i k g hin kg hi hk e
    have hIg : RI g := kg.ri hI
    have eg : g.vl 42 76 = (n : Int) := (kg.fl).trans h2
    refine ev_aload_n dX11_areOrders_20 rfl ?_
    refine ev_getiv dX11_areOrders_21 fX11_418 hIg.o hIg.n rfl hi ?_
    refine ev_aload_n dX11_areOrders_24 rfl ?_
    refine ev_getiv dX11_areOrders_25 fX11_421 hIg.o hIg.n rfl eg ?_
    refine ev_icmpge 79 dX11_areOrders_28 (fun hb => ?_) (fun h_no => (by exfalso; omega))
    refine ev_iconst dX11_areOrders_79 ?_
    exact ev_zret dX11_areOrders_80 (⟨_, rfl, by rw [e]; rfl, kg, by rw [e]; exact hi, by rw [e]; exact hk⟩) (Or.inr rfl)
  intro t
  induction t with
  | zero =>
    intro i k g h1 h3 kg hi hk hki
    exact done 0 i k g (by omega) kg hi hk rfl
  | succ t ih =>
    intro i k g h1 h3 kg hi hk hki
    by_cases hin : i < n
    · have hIg : RI g := kg.ri hI
      have eg : g.vl 42 76 = (n : Int) := (kg.fl).trans h2
      have er : g.vl 42 69 = 0 := (kg.fl).trans hr
      have ei : g.vl 88 = c := (kg.vl).trans hc.symm
      refine ev_aload_n dX11_areOrders_20 rfl ?_
      refine ev_getiv dX11_areOrders_21 fX11_418 hIg.o hIg.n rfl hi ?_
      refine ev_aload_n dX11_areOrders_24 rfl ?_
      refine ev_getiv dX11_areOrders_25 fX11_421 hIg.o hIg.n rfl eg ?_
      refine ev_icmpge 79 dX11_areOrders_28 (fun h_no => (by exfalso; omega)) (fun hb => ?_)
      refine ev_aload_n dX11_areOrders_31 rfl ?_
      refine ev_getiv dX11_areOrders_32 fX11_321 hIg.o hIg.n rfl er ?_
      refine ev_ifne 79 dX11_areOrders_35 (fun h_no => (by exfalso; exact h_no rfl)) (fun hb2 => ?_)
      refine ev_aload_n dX11_areOrders_38 rfl ?_
      refine ev_cvi dX11_areOrders_39 lX11_424 (s_next2 hIg hi eg hn) (by decide) hIg.o hIg.n rfl rfl rfl (Nat.le_of_ble_eq_true rfl) rfl (fun r z1 q => ?_)
      obtain ⟨rfl, e⟩ := q
      rw [e, ei, nxt2_lt hin]
      refine ev_bipush dX11_areOrders_42 ?_
      by_cases s59 : c i = 59
      · skip
        refine ev_icmpeq 49 dX11_areOrders_44 (fun hb3 => ?_) (fun h_no => (by exfalso; omega))
        refine ev_aload_n dX11_areOrders_49 rfl ?_
        refine ev_dup dX11_areOrders_50 ?_
        refine ev_getiv dX11_areOrders_51 fX11_418 hIg.o hIg.n rfl hi ?_
        refine ev_iconst dX11_areOrders_54 ?_
        refine ev_iadd dX11_areOrders_55 (by unfold ir; omega) ?_
        refine ev_pt dX11_areOrders_56 fX11_418 hIg.o hIg.n rfl ?_
        refine ev_aload_n dX11_areOrders_59 rfl ?_
        refine ev_dup dX11_areOrders_60 ?_
        refine ev_getiv dX11_areOrders_61 fX11_427 hIg.o hIg.n rfl hk ?_
        refine ev_iconst dX11_areOrders_64 ?_
        refine ev_iadd dX11_areOrders_65 (by unfold ir; omega) ?_
        refine ev_pt dX11_areOrders_66 fX11_427 hIg.o hIg.n rfl ?_
        rw [show (i : Int) + 1 = ((i + 1 : Nat) : Int) from rfl, show (k : Int) + 1 = ((k + 1 : Nat) : Int) from rfl]
        have kg2 : KP g ((g.put 42 75 ((i + 1 : Nat) : Int)).put 42 77 ((k + 1 : Nat) : Int)) [] [75, 77] := (KP.rf.pf (by decide)).pf (by decide)
        have hI2 := kg2.ri hIg
        refine ev_aload_n dX11_areOrders_69 rfl ?_
        refine ev_iload_n dX11_areOrders_70 rfl ?_
        refine ev_cvi dX11_areOrders_71 lX11_430 (s_isOrd0 hI2 rfl (show _ = (n : Int) from eg) hn (by omega)) (by decide) hIg.o hIg.n rfl rfl rfl (Nat.le_of_ble_eq_true rfl) rfl (fun r g3 q => ?_)
        obtain ⟨q1, q2, q3⟩ := q
        have ei2 : ((g.put 42 75 ((i + 1 : Nat) : Int)).put 42 77 ((k + 1 : Nat) : Int)).vl 88 = c := ei
        rw [ei2] at q1 q3
        have kg3 : KP h g3 [] [75, 77] := (kg.tr kg2).tr (q2.wk (by decide) (by decide))
        have ho3 : g3.vl 42 77 = ((k + 1 : Nat) : Int) := (q2.fl).trans rfl
        obtain ⟨ss, hss⟩ : ∃ ss, ss = n - (i + 1) := ⟨_, rfl⟩
        have bnd := (io_oF (c := c) (n := n) ss (i + 1) (by omega)).2
        by_cases ok : (io c n (i + 1)).1 = true
        · skip
          rw [if_pos ok] at q1
          rw [ao_2 hin s59 ok, q1]
          refine ev_ifne 20 dX11_areOrders_74 (fun hb4 => ?_) (fun h_no => (by exfalso; exact absurd h_no (by decide)))
          have b9 := bnd ok
          exact ih _ _ g3 (by omega) (by omega) kg3 q3 ho3 (by omega)
        · skip
          rw [if_neg ok] at q1
          rw [ao_3 hin s59 ok, q1]
          refine ev_ifne 20 dX11_areOrders_74 (fun h_no => (by exfalso; exact h_no rfl)) (fun hb4 => ?_)
          refine ev_iconst dX11_areOrders_77 ?_
          exact ev_zret dX11_areOrders_78 (⟨_, rfl, rfl, kg3, q3, ho3⟩) (Or.inl rfl)
      · skip
        refine ev_icmpeq 49 dX11_areOrders_44 (fun h_no => (by exfalso; omega)) (fun hb3 => ?_)
        refine ev_iconst dX11_areOrders_47 ?_
        rw [ao_1 hin s59]
        exact ev_zret dX11_areOrders_48 (⟨_, rfl, rfl, kg, hi, hk⟩) (Or.inl rfl)
    · exact done (t + 1) i k g hin kg hi hk (ao_0 hin)
set_option maxRecDepth 100000 in
theorem s_areOrd0 {n : Nat} {h : AH} (hI : RI h) (h2 : h.vl 42 76 = (n : Int)) (hr : h.vl 42 69 = 0) (hn : n ≤ 60) : CV mX11_areOrders 5 [rv 42, iv 0] h (oi (AoQ h (aos (h.vl 88) n))) := by
  refine cv_of cdX11_areOrders ?_
  show EV _ _ 0 [rv 42, iv 0] [] h _
  obtain ⟨c, hc⟩ : ∃ c, c = h.vl 88 := ⟨_, rfl⟩
  rw [← hc]
  have kg2 : KP h ((h.put 42 75 0).put 42 77 0) [] [75, 77] := (KP.rf.pf (by decide)).pf (by decide)
  have hI2 := kg2.ri hI
  refine ev_aload_n dX11_areOrders_0 rfl ?_
  refine ev_iconst dX11_areOrders_1 ?_
  refine ev_pt dX11_areOrders_2 fX11_418 hI.o hI.n rfl ?_
  refine ev_aload_n dX11_areOrders_5 rfl ?_
  refine ev_iconst dX11_areOrders_6 ?_
  refine ev_pt dX11_areOrders_7 fX11_427 hI.o hI.n rfl ?_
  refine ev_aload_n dX11_areOrders_10 rfl ?_
  refine ev_iload_n dX11_areOrders_11 rfl ?_
  refine ev_cvi dX11_areOrders_12 lX11_430 (s_isOrd0 (i := 0) hI2 rfl (show _ = (n : Int) from h2) hn (Nat.zero_le _)) (by decide) hI.o hI.n rfl rfl rfl (Nat.le_of_ble_eq_true rfl) rfl (fun r g3 q => ?_)
  obtain ⟨q1, q2, q3⟩ := q
  have ei2 : ((h.put 42 75 0).put 42 77 0).vl 88 = c := hc.symm
  rw [ei2] at q1 q3
  have kg3 : KP h g3 [] [75, 77] := kg2.tr (q2.wk (by decide) (by decide))
  have ho3 : g3.vl 42 77 = ((0 : Nat) : Int) := (q2.fl).trans rfl
  have bnd := (io_oF (c := c) (n := n) n 0 (by omega)).2
  rw [aos]
  by_cases ok : (io c n 0).1 = true
  · skip
    rw [if_pos ok] at q1
    rw [if_pos ok, q1]
    refine ev_ifne 20 dX11_areOrders_15 (fun hb4 => ?_) (fun h_no => (by exfalso; exact absurd h_no (by decide)))
    have b9 := bnd ok
    rw [hc] at b9 q3 ⊢
    exact ord_l hI h2 hr hn n _ 0 g3 b9.2 (by omega) kg3 q3 ho3 (Nat.zero_le _)
  · skip
    rw [if_neg ok] at q1
    rw [if_neg ok, q1]
    refine ev_ifne 20 dX11_areOrders_15 (fun h_no => (by exfalso; exact h_no rfl)) (fun hb4 => ?_)
    refine ev_iconst dX11_areOrders_18 ?_
    exact ev_zret dX11_areOrders_19 (⟨_, rfl, rfl, kg3, q3, ho3⟩) (Or.inl rfl)
