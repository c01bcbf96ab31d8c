/-! all orders are done, or up to the first that is refused: the reference -/
def runR (c : Nat → Int) (n : Nat) : Nat → Nat → Nat → (Nat → Int) → Int → Int → Nat → (Nat → Int) → Prop
  | 0, _, _, _, _, _, _, _ => False
  | t + 1, i, k, v, why, det, m, v' => ∃ w d v1, odR v (nxt2 c n i) (oD c n i) (oC c n i) w d v1 ∧ ((w ≠ 0 ∧ why = w ∧ det = d ∧ m = k ∧ v' = v1) ∨ (w = 0 ∧ (((io c n i).2 < n ∧ runR c n t ((io c n i).2 + 1) (k + 1) v1 why det m v') ∨ (¬ (io c n i).2 < n ∧ why = 0 ∧ m = k ∧ v' = v1))))
def conR (c : Nat → Int) (n t i k : Nat) (v : Nat → Int) (why det : Int) (m : Nat) (v' : Nat → Int) : Prop := (i < n ∧ runR c n t (i + 1) (k + 1) v why det m v') ∨ (¬ i < n ∧ why = 0 ∧ m = k ∧ v' = v)
def RrQ (h1 : AH) (why det : Int) (m : Nat) : Prop := h1.vl 42 77 = (m : Int) ∧ ((why = 0 ∧ h1.vl 42 69 = 0) ∨ (why ≠ 0 ∧ h1.vl 42 69 = 1 ∧ h1.vl 42 7 = why ∧ h1.vl 42 8 = det))
theorem io_2 {c : Nat → Int} {n i : Nat} (h : (io c n i).1 = true) : i + 2 ≤ (io c n i).2 := by
  unfold io at h ⊢
  by_cases a : ¬ (nxt2 c n i = 107 ∨ nxt2 c n i = 117 ∨ nxt2 c n i = 120)
  · rw [if_pos a] at h; exact Bool.noConfusion h
  rw [if_neg a] at h ⊢
  by_cases b : nxt2 c n i ≠ 117 ∧ ¬ (48 ≤ nxt2 c n (i + 1) ∧ nxt2 c n (i + 1) ≤ 57)
  · rw [if_pos b] at h; exact Bool.noConfusion h
  rw [if_neg b] at h ⊢
  by_cases d : nxt2 c n i ≠ 120 ∧ ¬ (65 ≤ nxt2 c n (io1 c n i) ∧ nxt2 c n (io1 c n i) ≤ 72)
  · rw [if_pos d] at h; exact Bool.noConfusion h
  rw [if_neg d]
  show i + 2 ≤ if nxt2 c n i = 120 then io1 c n i else io1 c n i + 1
  unfold io1
  split <;> split <;> omega
theorem od_2 {v v' : Nat → Int} {w d c why det : Int} (h : odR v w d c why det v') : v 2 ≤ v' 2 ∧ v' 2 ≤ v 2 + 1 := by
  have e : ∀ l N, drV v l N 2 = v 2 := fun l N => by unfold drV; rw [if_neg (by omega), if_neg (by omega), if_neg (by omega)]
  have f : ∀ l, ukV v l 2 = v 2 := fun l => by unfold ukV; rw [if_neg (by omega)]
  have g : ∀ l r, keV v l r 2 = v 2 + 1 := fun l r => by unfold keV; rw [if_pos rfl]
  obtain ⟨N, LL, kp, s, h | h | h⟩ := h
  · rcases h with ⟨-, ⟨-, rfl⟩ | ⟨T, -, -, rfl⟩⟩
    · omega
    · rw [g]; omega
  · rcases h with ⟨-, ⟨-, -, -, rfl⟩ | ⟨-, -, -, -, rfl⟩ | ⟨h1, -, -, rfl⟩⟩
    · omega
    · omega
    · rw [f]; omega
  · rcases h with ⟨-, -, ⟨-, -, -, rfl⟩ | ⟨h1, -, rfl⟩⟩
    · omega
    · rw [e]; omega
abbrev OeF : List Nat := 77 :: OdF
set_option maxRecDepth 100000 in
theorem ord1_l {n : Nat} {h : AH} {s0 : Int} (hI : RI h) (h2 : h.vl 42 76 = (n : Int)) (hn : n ≤ 60) (hst0 : 0 ≤ h.vl 42 50 ∧ h.vl 42 50 + 4120200 ≤ 2147483000) (hs0 : -2147483648 ≤ s0 ∧ s0 + 61 ≤ 2147483647) : ∀ (t i k : Nat) (g : AH), i ≤ n → n ≤ i + t → (ao (h.vl 88) n t i k).1 = true → KP h g OdA OeF → g.vl 42 75 = (i : Int) → g.vl 42 77 = (k : Int) → 3 * k + 2 ≤ i → g.vl 42 69 = 0 → (∃ N LL kp, VS (g.vl 43) N LL kp) → (∀ x, g.vl 71 x ≤ g.vl 42 50) → (h.vl 42 50 ≤ g.vl 42 50 ∧ g.vl 42 50 ≤ h.vl 42 50 + 206010 * ((k : Int) + 1)) → (s0 ≤ g.vl 43 2 ∧ g.vl 43 2 ≤ s0 + (k : Int) + 1) →
    EV mX11_areOrders 12 20 [rv 42, iv 1] [] g (oi fun x h1 => x = 1 ∧ KP h h1 OdA OeF ∧ StQ h h1 4120200 ∧ ∃ why det m, RrQ h1 why det m ∧ conR (h.vl 88) n t i k (g.vl 43) why det m (h1.vl 43)) := by
  obtain ⟨c, hc⟩ : ∃ c, c = h.vl 88 := ⟨_, rfl⟩
  rw [← hc]
  have done : ∀ (t i k : Nat) (g : AH), ¬ i < n → KP h g OdA OeF → g.vl 42 75 = (i : Int) → g.vl 42 77 = (k : Int) → g.vl 42 69 = 0 → (∀ x, g.vl 71 x ≤ g.vl 42 50) → (h.vl 42 50 ≤ g.vl 42 50 ∧ g.vl 42 50 ≤ h.vl 42 50 + 4120200) → EV mX11_areOrders 12 20 [rv 42, iv 1] [] g (oi fun x h1 => x = 1 ∧ KP h h1 OdA OeF ∧ StQ h h1 4120200 ∧ ∃ why det m, RrQ h1 why det m ∧ conR c n t i k (g.vl 43) why det m (h1.vl 43)) := by
    intro t i k g hin kg hi hk h0 sn st
    have hIg : RI g := kg.ri hI
    have eg : g.vl 42 76 = (n : Int) := (kg.fl).trans h2
    refine ev_aload_n dX11_areOrders_20 rfl ?_
    refine ev_getiv dX11_areOrders_21 fX11_418 hIg.o hIg.n rfl hi ?_
    refine ev_aload_n dX11_areOrders_24 rfl ?_
    refine ev_getiv dX11_areOrders_25 fX11_421 hIg.o hIg.n rfl eg ?_
    refine ev_icmpge 79 dX11_areOrders_28 (fun hb => ?_) (fun h_no => (by exfalso; omega))
    refine ev_iconst dX11_areOrders_79 ?_
    exact ev_zret dX11_areOrders_80 (⟨_, rfl, rfl, kg, ⟨sn, st⟩, 0, 0, k, ⟨hk, Or.inl ⟨rfl, h0⟩⟩, Or.inr ⟨hin, rfl, rfl, rfl⟩⟩) (Or.inr rfl)
  have refd : ∀ (j m : Nat) (g g3 : AH) (why det : Int) (P : Int → Int → Nat → (Nat → Int) → Prop), KP h g3 OdA OeF → g3.vl 42 75 = (j : Int) → j ≤ n → g3.vl 42 77 = (m : Int) → why ≠ 0 → g3.vl 42 69 = 1 → g3.vl 42 7 = why → g3.vl 42 8 = det → (∀ x, g3.vl 71 x ≤ g3.vl 42 50) → (h.vl 42 50 ≤ g3.vl 42 50 ∧ g3.vl 42 50 ≤ h.vl 42 50 + 4120200) → P why det m (g3.vl 43) → EV mX11_areOrders 12 20 [rv 42, iv 1] [] g3 (oi fun x h1 => x = 1 ∧ KP h h1 OdA OeF ∧ StQ h h1 4120200 ∧ ∃ why det m, RrQ h1 why det m ∧ P why det m (h1.vl 43)) := by
    intro j m g g3 why det P kg hj hjn hm hw r1 w1 d1 sn st hP
    have hIg : RI g3 := kg.ri hI
    have eg : g3.vl 42 76 = (n : Int) := (kg.fl).trans h2
    refine ev_aload_n dX11_areOrders_20 rfl ?_
    refine ev_getiv dX11_areOrders_21 fX11_418 hIg.o hIg.n rfl hj ?_
    refine ev_aload_n dX11_areOrders_24 rfl ?_
    refine ev_getiv dX11_areOrders_25 fX11_421 hIg.o hIg.n rfl eg ?_
    by_cases z : j < n
    · skip
      refine ev_icmpge 79 dX11_areOrders_28 (fun h_no => (by exfalso; omega)) (fun hb => ?_)
      refine ev_aload_n dX11_areOrders_31 rfl ?_
      refine ev_getiv dX11_areOrders_32 fX11_321 hIg.o hIg.n rfl r1 ?_
      refine ev_ifne 79 dX11_areOrders_35 (fun hb2 => ?_) (fun h_no => (by exfalso; omega))
      refine ev_iconst dX11_areOrders_79 ?_
      exact ev_zret dX11_areOrders_80 (⟨_, rfl, rfl, kg, ⟨sn, st⟩, why, det, m, ⟨hm, Or.inr ⟨hw, r1, w1, d1⟩⟩, hP⟩) (Or.inr rfl)
    refine ev_icmpge 79 dX11_areOrders_28 (fun hb => ?_) (fun h_no => (by exfalso; omega))
    refine ev_iconst dX11_areOrders_79 ?_
    exact ev_zret dX11_areOrders_80 (⟨_, rfl, rfl, kg, ⟨sn, st⟩, why, det, m, ⟨hm, Or.inr ⟨hw, r1, w1, d1⟩⟩, hP⟩) (Or.inr rfl)
  intro t
  induction t with
  | zero =>
    intro i k g h1 h3 hao kg hi hk hki h0 hv sn st hs
    exact done 0 i k g (by omega) kg hi hk h0 sn (by omega)
  | succ t ih =>
    intro i k g h1 h3 hao kg hi hk hki h0 hv sn st hs
    by_cases hin : i < n
    · have hIg : RI g := kg.ri hI
      have eg : g.vl 42 76 = (n : Int) := (kg.fl).trans h2
      have ei : g.vl 88 = c := (kg.vl).trans hc.symm
      have s59 : c i = 59 := Decidable.byContradiction fun z => by
        rw [ao_1 hin z] at hao; exact Bool.noConfusion hao
      have ok : (io c n (i + 1)).1 = true := Decidable.byContradiction fun z => by
        rw [ao_3 hin s59 z] at hao; exact Bool.noConfusion hao
      rw [ao_2 hin s59 ok] at hao
      obtain ⟨ss, hss⟩ : ∃ ss, ss = n - (i + 1) := ⟨_, rfl⟩
      have b9 := (io_oF (c := c) (n := n) ss (i + 1) (by omega)).2 ok
      have b8 := io_2 ok
      refine ev_aload_n dX11_areOrders_20 rfl ?_
      refine ev_getiv dX11_areOrders_21 fX11_418 hIg.o hIg.n rfl hi ?_
      refine ev_aload_n dX11_areOrders_24 rfl ?_
      refine ev_getiv dX11_areOrders_25 fX11_421 hIg.o hIg.n rfl eg ?_
      refine ev_icmpge 79 dX11_areOrders_28 (fun h_no => (by exfalso; omega)) (fun hb => ?_)
      refine ev_aload_n dX11_areOrders_31 rfl ?_
      refine ev_getiv dX11_areOrders_32 fX11_321 hIg.o hIg.n rfl h0 ?_
      refine ev_ifne 79 dX11_areOrders_35 (fun h_no => (by exfalso; exact h_no rfl)) (fun hb2 => ?_)
      refine ev_aload_n dX11_areOrders_38 rfl ?_
      refine ev_cvi dX11_areOrders_39 lX11_424 (s_next2 hIg hi eg hn) (by decide) hIg.o hIg.n rfl rfl rfl (Nat.le_of_ble_eq_true rfl) rfl (fun r z1 q => ?_)
      obtain ⟨rfl, e⟩ := q
      rw [e, ei, nxt2_lt hin]
      refine ev_bipush dX11_areOrders_42 ?_
      refine ev_icmpeq 49 dX11_areOrders_44 (fun hb3 => ?_) (fun h_no => (by exfalso; omega))
      refine ev_aload_n dX11_areOrders_49 rfl ?_
      refine ev_dup dX11_areOrders_50 ?_
      refine ev_getiv dX11_areOrders_51 fX11_418 hIg.o hIg.n rfl hi ?_
      refine ev_iconst dX11_areOrders_54 ?_
      refine ev_iadd dX11_areOrders_55 (by unfold ir; omega) ?_
      refine ev_pt dX11_areOrders_56 fX11_418 hIg.o hIg.n rfl ?_
      refine ev_aload_n dX11_areOrders_59 rfl ?_
      refine ev_dup dX11_areOrders_60 ?_
      refine ev_getiv dX11_areOrders_61 fX11_427 hIg.o hIg.n rfl hk ?_
      refine ev_iconst dX11_areOrders_64 ?_
      refine ev_iadd dX11_areOrders_65 (by unfold ir; omega) ?_
      refine ev_pt dX11_areOrders_66 fX11_427 hIg.o hIg.n rfl ?_
      rw [show (i : Int) + 1 = ((i + 1 : Nat) : Int) from rfl, show (k : Int) + 1 = ((k + 1 : Nat) : Int) from rfl]
      obtain ⟨g2, hg2⟩ : ∃ g2, g2 = (g.put 42 75 ((i + 1 : Nat) : Int)).put 42 77 ((k + 1 : Nat) : Int) := ⟨_, rfl⟩
      rw [← hg2]
      have kg2 : KP g g2 [] [75, 77] := by rw [hg2]; exact (KP.rf.pf (by decide)).pf (by decide)
      have hI2 := kg2.ri hIg
      have e75 : g2.vl 42 75 = ((i + 1 : Nat) : Int) := by rw [hg2]; rfl
      have e77 : g2.vl 42 77 = ((k + 1 : Nat) : Int) := by rw [hg2]; rfl
      have e76 : g2.vl 42 76 = (n : Int) := (kg2.fl).trans eg
      have e43 : g2.vl 43 = g.vl 43 := kg2.vl
      have e50 : g2.vl 42 50 = g.vl 42 50 := kg2.fl
      have e71 : g2.vl 71 = g.vl 71 := kg2.vl
      have e88 : g2.vl 88 = c := (kg2.vl).trans ei
      have e69 : g2.vl 42 69 = 0 := (kg2.fl).trans h0
      obtain ⟨N, LL, kp, hS⟩ := hv
      refine ev_aload_n dX11_areOrders_69 rfl ?_
      refine ev_iload_n dX11_areOrders_70 rfl ?_
      refine ev_cvi dX11_areOrders_71 lX11_430 (s_isOrd1 hI2 e75 e76 hn (by omega) (by rw [e88]; exact ok) (show VS (g2.vl 43) N LL kp by rw [e43]; exact hS) (fun x => by rw [e71, e50]; exact sn x) (by omega) (by rw [e43]; omega)) (by decide) hI2.o hI2.n rfl rfl rfl (Nat.le_of_ble_eq_true rfl) rfl (fun r g3 q => ?_)
      obtain ⟨rfl, q2, q3, ⟨sn3, st3⟩, why, det, ho, hr⟩ := q
      rw [e88, e43] at ho
      rw [e88] at q3
      have kg3 : KP h g3 OdA OeF := (kg.tr (kg2.wk (by decide) (by decide))).tr (q2.wk (by decide) (by decide))
      have ho3 : g3.vl 42 77 = ((k + 1 : Nat) : Int) := (q2.fl).trans e77
      have v2 := od_2 ho
      refine ev_ifne 20 dX11_areOrders_74 (fun hb4 => ?_) (fun h_no => (by exfalso; exact absurd h_no (by decide)))
      rcases hr with ⟨w0, r0⟩ | ⟨w0, r1, w1, d1⟩
      · have := ih (io c n (i + 1)).2 (k + 1) g3 (by omega) (by omega) hao kg3 q3 ho3 (by omega) (r0.trans e69) (od_vs ho) sn3 (by omega) (by omega)
        refine ev_mono this fun o h4 q => ?_
        obtain ⟨x, rfl, y1, y2, y3, why', det', m, y4, y5⟩ := q
        refine ⟨x, rfl, y1, y2, y3, why', det', m, y4, Or.inl ⟨hin, why, det, g3.vl 43, ho, Or.inr ⟨w0, ?_⟩⟩⟩
        rcases y5 with ⟨y6, y7⟩ | ⟨y6, y7, y8, y9⟩
        · exact Or.inl ⟨y6, y7⟩
        · exact Or.inr ⟨y6, y7, y8, y9⟩
      · exact refd (io c n (i + 1)).2 (k + 1) g g3 why det (fun why det m v' => conR c n (t + 1) i k (g.vl 43) why det m v') kg3 q3 (by omega) ho3 w0 r1 w1 d1 sn3 (by omega) (Or.inl ⟨hin, why, det, g3.vl 43, ho, Or.inl ⟨w0, rfl, rfl, rfl, rfl⟩⟩)
    · exact done (t + 1) i k g hin kg hi hk h0 sn (by omega)
set_option maxRecDepth 100000 in
theorem s_areOrd1 {n : Nat} {h : AH} (hI : RI h) (h2 : h.vl 42 76 = (n : Int)) (hn : n ≤ 60) (hst0 : 0 ≤ h.vl 42 50 ∧ h.vl 42 50 + 4120200 ≤ 2147483000) (hs0 : -2147483648 ≤ h.vl 43 2 ∧ h.vl 43 2 + 61 ≤ 2147483647) (hao : (aos (h.vl 88) n).1 = true) (h0 : h.vl 42 69 = 0) (hv : ∃ N LL kp, VS (h.vl 43) N LL kp) (sn : ∀ x, h.vl 71 x ≤ h.vl 42 50) :
    CV mX11_areOrders 12 [rv 42, iv 1] h (oi fun x h1 => x = 1 ∧ KP h h1 OdA OeF ∧ StQ h h1 4120200 ∧ ∃ why det m, RrQ h1 why det m ∧ runR (h.vl 88) n (n + 1) 0 0 (h.vl 43) why det m (h1.vl 43)) := by
  refine cv_of cdX11_areOrders ?_
  show EV _ _ 0 [rv 42, iv 1] [] h _
  obtain ⟨c, hc⟩ : ∃ c, c = h.vl 88 := ⟨_, rfl⟩
  rw [← hc] at hao ⊢
  unfold aos at hao
  have ok : (io c n 0).1 = true := Decidable.byContradiction fun z => by
    rw [if_neg z] at hao; exact Bool.noConfusion hao
  rw [if_pos ok] at hao
  have b9 := (io_oF (c := c) (n := n) n 0 (by omega)).2 ok
  have b8 := io_2 ok
  obtain ⟨g2, hg2⟩ : ∃ g2, g2 = (h.put 42 75 0).put 42 77 0 := ⟨_, rfl⟩
  have kg2 : KP h g2 [] [75, 77] := by rw [hg2]; exact (KP.rf.pf (by decide)).pf (by decide)
  have hI2 := kg2.ri hI
  have e75 : g2.vl 42 75 = ((0 : Nat) : Int) := by rw [hg2]; rfl
  have e77 : g2.vl 42 77 = ((0 : Nat) : Int) := by rw [hg2]; rfl
  have e76 : g2.vl 42 76 = (n : Int) := (kg2.fl).trans h2
  have e43 : g2.vl 43 = h.vl 43 := kg2.vl
  have e50 : g2.vl 42 50 = h.vl 42 50 := kg2.fl
  have e71 : g2.vl 71 = h.vl 71 := kg2.vl
  have e88 : g2.vl 88 = c := (kg2.vl).trans hc.symm
  have e69 : g2.vl 42 69 = 0 := (kg2.fl).trans h0
  obtain ⟨N, LL, kp, hS⟩ := hv
  refine ev_aload_n dX11_areOrders_0 rfl ?_
  refine ev_iconst dX11_areOrders_1 ?_
  refine ev_pt dX11_areOrders_2 fX11_418 hI.o hI.n rfl ?_
  refine ev_aload_n dX11_areOrders_5 rfl ?_
  refine ev_iconst dX11_areOrders_6 ?_
  refine ev_pt dX11_areOrders_7 fX11_427 hI.o hI.n rfl ?_
  rw [← hg2]
  refine ev_aload_n dX11_areOrders_10 rfl ?_
  refine ev_iload_n dX11_areOrders_11 rfl ?_
  refine ev_cvi dX11_areOrders_12 lX11_430 (s_isOrd1 (i := 0) hI2 e75 e76 hn (Nat.zero_le _) (by rw [e88]; exact ok) (show VS (g2.vl 43) N LL kp by rw [e43]; exact hS) (fun x => by rw [e71, e50]; exact sn x) (by omega) (by rw [e43]; omega)) (by decide) hI2.o hI2.n rfl rfl rfl (Nat.le_of_ble_eq_true rfl) rfl (fun r g3 q => ?_)
  obtain ⟨rfl, q2, q3, ⟨sn3, st3⟩, why, det, ho, hr⟩ := q
  rw [e88, e43] at ho
  rw [e88] at q3
  have kg3 : KP h g3 OdA OeF := (kg2.wk (by decide) (by decide)).tr (q2.wk (by decide) (by decide))
  have ho3 : g3.vl 42 77 = ((0 : Nat) : Int) := (q2.fl).trans e77
  have v2 := od_2 ho
  refine ev_ifne 20 dX11_areOrders_15 (fun hb4 => ?_) (fun h_no => (by exfalso; exact absurd h_no (by decide)))
  rcases hr with ⟨w0, r0⟩ | ⟨w0, r1, w1, d1⟩
  · have := ord1_l (s0 := h.vl 43 2) hI h2 hn hst0 (by omega) n (io c n 0).2 0 g3 (by omega) (by omega) (by rw [← hc]; exact hao) kg3 q3 ho3 (by omega) (r0.trans e69) (od_vs ho) sn3 (by omega) (by omega)
    refine ev_mono this fun o h4 q => ?_
    obtain ⟨x, rfl, y1, y2, y3, why', det', m, y4, y5⟩ := q
    rw [← hc] at y5
    refine ⟨x, rfl, y1, y2, y3, why', det', m, y4, why, det, g3.vl 43, ho, Or.inr ⟨w0, ?_⟩⟩
    rcases y5 with ⟨y6, y7⟩ | ⟨y6, y7, y8, y9⟩
    · exact Or.inl ⟨y6, y7⟩
    · exact Or.inr ⟨y6, y7, y8, y9⟩
  · have hIg : RI g3 := kg3.ri hI
    have eg : g3.vl 42 76 = (n : Int) := (kg3.fl).trans h2
    refine ev_aload_n dX11_areOrders_20 rfl ?_
    refine ev_getiv dX11_areOrders_21 fX11_418 hIg.o hIg.n rfl q3 ?_
    refine ev_aload_n dX11_areOrders_24 rfl ?_
    refine ev_getiv dX11_areOrders_25 fX11_421 hIg.o hIg.n rfl eg ?_
    by_cases z : (io c n 0).2 < n
    · skip
      refine ev_icmpge 79 dX11_areOrders_28 (fun h_no => (by exfalso; omega)) (fun hb => ?_)
      refine ev_aload_n dX11_areOrders_31 rfl ?_
      refine ev_getiv dX11_areOrders_32 fX11_321 hIg.o hIg.n rfl r1 ?_
      refine ev_ifne 79 dX11_areOrders_35 (fun hb2 => ?_) (fun h_no => (by exfalso; omega))
      refine ev_iconst dX11_areOrders_79 ?_
      exact ev_zret dX11_areOrders_80 (⟨_, rfl, rfl, kg3, ⟨sn3, by omega⟩, why, det, 0, ⟨ho3, Or.inr ⟨w0, r1, w1, d1⟩⟩, why, det, g3.vl 43, ho, Or.inl ⟨w0, rfl, rfl, rfl, rfl⟩⟩) (Or.inr rfl)
    refine ev_icmpge 79 dX11_areOrders_28 (fun hb => ?_) (fun h_no => (by exfalso; omega))
    refine ev_iconst dX11_areOrders_79 ?_
    exact ev_zret dX11_areOrders_80 (⟨_, rfl, rfl, kg3, ⟨sn3, by omega⟩, why, det, 0, ⟨ho3, Or.inr ⟨w0, r1, w1, d1⟩⟩, why, det, g3.vl 43, ho, Or.inl ⟨w0, rfl, rfl, rfl, rfl⟩⟩) (Or.inr rfl)
