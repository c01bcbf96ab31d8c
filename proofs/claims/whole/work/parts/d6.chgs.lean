/-! drop, unkeep, lesson: the stamps stay -/
theorem stq_o {h g0 g1 h1 : AH} {A F B G : List Nat} (b : KP h g0 [44] [0, 69]) (k : KP g0 g1 A F) (p : KP g1 h1 B G) (sn : ∀ k, h.vl 71 k ≤ h.vl 42 50) (hA : 71 ∉ A) (hF : 50 ∉ F) (hB : 71 ∉ B) (hG : 50 ∉ G) : StQ h h1 0 := by
  have e50 : h1.vl 42 50 = h.vl 42 50 := by rw [p.fl hG, k.fl hF, b.fl]
  have e71 : h1.vl 71 = h.vl 71 := by rw [p.vl (by decide) hB, k.vl (by decide) hA, b.vl]
  exact ⟨fun k => by rw [e71, e50]; exact sn k, by omega⟩
set_option maxRecDepth 100000 in
theorem r_dropS {p : Int} {N c : Nat} {LL : Nat → List Nd} {h : AH} (hI : RI h) (hN : NV h N LL) (hc : h.vl 42 2 = (c : Int)) (hc8 : c ≤ 8) (hsn : ∀ k, h.vl 71 k ≤ h.vl 42 50) : CV mX11_drop 9 [rv 42, iv p] h (oi fun r h1 => StQ h h1 0 ∧ ((¬ (0 ≤ p ∧ p < (N : Int)) ∧ RfQ h 1 2 p h1) ∨ ((0 ≤ p ∧ p < (N : Int)) ∧ r = ((LL p.toNat).length : Int) ∧ CgQ h c (drV (h.vl 43) p.toNat N) h1))) := by
  refine cv_of cdX11_drop ?_
  show EV _ _ 0 [rv 42, iv p] [] h _
  refine ev_aload_n dX11_drop_0 rfl ?_
  refine ev_cvv dX11_drop_1 lX11_350 (s_begins hI) (by decide) hI.o hI.n rfl rfl rfl (Nat.le_of_ble_eq_true rfl) rfl (fun g0 q => ?_)
  have b0 : BgQ h g0 := q
  have hI0 : RI g0 := b0.1.ri hI
  have hN0 : NV g0 N LL := hN.kp b0.1
  have ev : g0.vl 43 = h.vl 43 := b0.1.vl
  refine ev_aload_n dX11_drop_4 rfl ?_
  refine ev_aload_n dX11_drop_5 rfl ?_
  refine ev_iload_n dX11_drop_6 rfl ?_
  refine ev_cvi dX11_drop_7 lX11_364 (s_drops hI0 hN0) (by decide) hI0.o hI0.n rfl rfl rfl (Nat.le_of_ble_eq_true rfl) rfl (fun r g1 q => ?_)
  rcases q with ⟨hp, rfl, hg1⟩ | ⟨hp, rfl, k1, hv1⟩
  · skip
    have k1 : KP g0 g1 [] [7, 8, 69] := by rw [hg1]; exact ((KP.rf.pf (by decide)).pf (by decide)).pf (by decide)
    have hI1 : RI g1 := k1.ri hI0
    have hr1 : g1.vl 42 69 = 1 := by rw [hg1]; rfl
    have hw1 : g1.vl 42 7 = 2 := by rw [hg1]; rfl
    have hd1 : g1.vl 42 8 = p := by rw [hg1]; rfl
    refine ev_iconst dX11_drop_10 ?_
    refine ev_cvi dX11_drop_11 lX11_359 (s_endsB hI1 hr1) (by decide) hI1.o hI1.n rfl rfl rfl (Nat.le_of_ble_eq_true rfl) rfl (fun r h1 q => ?_)
    obtain ⟨rfl, q⟩ := q
    exact ev_iret dX11_drop_14 (⟨_, rfl, stq_o b0.1 k1 q.1 hsn (by decide) (by decide) (by decide) (by decide), Or.inl ⟨hp, chg_r b0 k1 (by decide) (by decide) hw1 hd1 q⟩⟩)
  · skip
    have hI1 : RI g1 := k1.ri hI0
    have hr1 : g1.vl 42 69 = 0 := (k1.fl).trans b0.2.2.1
    have hc1 : g1.vl 42 2 = (c : Int) := (k1.fl).trans ((b0.1.fl).trans hc)
    refine ev_iconst dX11_drop_10 ?_
    refine ev_cvi dX11_drop_11 lX11_359 (s_endsO hI1 hr1 hc1 hc8) (by decide) hI1.o hI1.n rfl rfl rfl (Nat.le_of_ble_eq_true rfl) rfl (fun r h1 q => ?_)
    obtain ⟨rfl, q⟩ := q
    exact ev_iret dX11_drop_14 (⟨_, rfl, stq_o b0.1 k1 q.1 hsn (by decide) (by decide) (by decide) (by decide), Or.inr ⟨hp, rfl, chg_o b0 k1 (by decide) (by decide) (fun j _ => by rw [hv1, ev]) q⟩⟩)
set_option maxRecDepth 100000 in
theorem r_unkeepS {p : Int} {c : Nat} {h : AH} (hI : RI h) (hc : h.vl 42 2 = (c : Int)) (hc8 : c ≤ 8) (hsn : ∀ k, h.vl 71 k ≤ h.vl 42 50) : CV mX11_unkeep 9 [rv 42, iv p] h (oi fun r h1 => StQ h h1 0 ∧ ((¬ (0 ≤ p ∧ p ≤ 7) ∧ RfQ h 1 8 p h1) ∨ ((0 ≤ p ∧ p ≤ 7) ∧ h.vl 43 (369 + 25 * p.toNat) = 0 ∧ RfQ h 1 6 p h1) ∨ ((0 ≤ p ∧ p ≤ 7) ∧ h.vl 43 (369 + 25 * p.toNat) ≠ 0 ∧ r = h.vl 43 (369 + 25 * p.toNat) ∧ CgQ h c (ukV (h.vl 43) p.toNat) h1))) := by
  refine cv_of cdX11_unkeep ?_
  show EV _ _ 0 [rv 42, iv p] [] h _
  refine ev_aload_n dX11_unkeep_0 rfl ?_
  refine ev_cvv dX11_unkeep_1 lX11_350 (s_begins hI) (by decide) hI.o hI.n rfl rfl rfl (Nat.le_of_ble_eq_true rfl) rfl (fun g0 q => ?_)
  have b0 : BgQ h g0 := q
  have hI0 : RI g0 := b0.1.ri hI
  have ev : g0.vl 43 = h.vl 43 := b0.1.vl
  refine ev_aload_n dX11_unkeep_4 rfl ?_
  refine ev_aload_n dX11_unkeep_5 rfl ?_
  refine ev_iload_n dX11_unkeep_6 rfl ?_
  refine ev_cvi dX11_unkeep_7 lX11_376 (s_unkeeps hI0) (by decide) hI0.o hI0.n rfl rfl rfl (Nat.le_of_ble_eq_true rfl) rfl (fun r g1 q => ?_)
  rw [ev] at q
  have ref : ∀ (w : Int), g1 = ((g0.put 42 69 1).put 42 7 w).put 42 8 p → (∀ h1, StQ h h1 0 → RfQ h 1 w p h1 → (oi fun r h1 => StQ h h1 0 ∧ ((¬ (0 ≤ p ∧ p ≤ 7) ∧ RfQ h 1 8 p h1) ∨ ((0 ≤ p ∧ p ≤ 7) ∧ h.vl 43 (369 + 25 * p.toNat) = 0 ∧ RfQ h 1 6 p h1) ∨ ((0 ≤ p ∧ p ≤ 7) ∧ h.vl 43 (369 + 25 * p.toNat) ≠ 0 ∧ r = h.vl 43 (369 + 25 * p.toNat) ∧ CgQ h c (ukV (h.vl 43) p.toNat) h1))) (iv 0) h1) → EV mX11_unkeep 9 10 [rv 42, iv p] [iv 0, rv 42] g1 (oi fun r h1 => StQ h h1 0 ∧ ((¬ (0 ≤ p ∧ p ≤ 7) ∧ RfQ h 1 8 p h1) ∨ ((0 ≤ p ∧ p ≤ 7) ∧ h.vl 43 (369 + 25 * p.toNat) = 0 ∧ RfQ h 1 6 p h1) ∨ ((0 ≤ p ∧ p ≤ 7) ∧ h.vl 43 (369 + 25 * p.toNat) ≠ 0 ∧ r = h.vl 43 (369 + 25 * p.toNat) ∧ CgQ h c (ukV (h.vl 43) p.toNat) h1))) := by
    intro w hg1 K
    have k1 : KP g0 g1 [] [7, 8, 69] := by rw [hg1]; exact ((KP.rf.pf (by decide)).pf (by decide)).pf (by decide)
    have hI1 : RI g1 := k1.ri hI0
    have hr1 : g1.vl 42 69 = 1 := by rw [hg1]; rfl
    have hw1 : g1.vl 42 7 = w := by rw [hg1]; rfl
    have hd1 : g1.vl 42 8 = p := by rw [hg1]; rfl
    refine ev_iconst dX11_unkeep_10 ?_
    refine ev_cvi dX11_unkeep_11 lX11_359 (s_endsB hI1 hr1) (by decide) hI1.o hI1.n rfl rfl rfl (Nat.le_of_ble_eq_true rfl) rfl (fun r h1 q => ?_)
    obtain ⟨rfl, q⟩ := q
    exact ev_iret dX11_unkeep_14 (K _ (stq_o b0.1 k1 q.1 hsn (by decide) (by decide) (by decide) (by decide)) (chg_r b0 k1 (by decide) (by decide) hw1 hd1 q))
  rcases q with ⟨hp, rfl, hg1⟩ | ⟨hp, hz, rfl, hg1⟩ | ⟨hp, hz, rfl, k1, hv1⟩
  · exact ref 8 hg1 (fun h1 y z => ⟨_, rfl, y, Or.inl ⟨hp, z⟩⟩)
  · exact ref 6 hg1 (fun h1 y z => ⟨_, rfl, y, Or.inr (Or.inl ⟨hp, hz, z⟩)⟩)
  · have hI1 : RI g1 := k1.ri hI0
    have hr1 : g1.vl 42 69 = 0 := (k1.fl).trans b0.2.2.1
    have hc1 : g1.vl 42 2 = (c : Int) := (k1.fl).trans ((b0.1.fl).trans hc)
    refine ev_iconst dX11_unkeep_10 ?_
    refine ev_cvi dX11_unkeep_11 lX11_359 (s_endsO hI1 hr1 hc1 hc8) (by decide) hI1.o hI1.n rfl rfl rfl (Nat.le_of_ble_eq_true rfl) rfl (fun r h1 q => ?_)
    obtain ⟨rfl, q⟩ := q
    exact ev_iret dX11_unkeep_14 (⟨_, rfl, stq_o b0.1 k1 q.1 hsn (by decide) (by decide) (by decide) (by decide), Or.inr (Or.inr ⟨hp, hz, rfl, chg_o b0 k1 (by decide) (by decide) (fun j _ => by rw [hv1]) q⟩)⟩)
set_option maxRecDepth 100000 in
theorem r_lessonS {n N c : Nat} {LL : Nat → List Nd} {h : AH} (hI : RI h) (hN : NV h N LL) (hc : h.vl 42 2 = (c : Int)) (hc8 : c ≤ 8) (hn0 : h.vl 42 71 = (n : Int)) (hn : n ≤ 60) (hg : ir (h.vl 43 1 + 1)) (hsn : ∀ k, h.vl 71 k ≤ h.vl 42 50) : CV mX11_lesson 9 [rv 42] h (oi fun r h1 => StQ h h1 0 ∧ (((rd (h.vl 88) n).1 ≠ -1 ∧ 0 ≤ (rd (h.vl 88) n).1 ∧ KP ((h.put 42 9 (rd (h.vl 88) n).1).put 42 71 0) h1 AQ FQ ∧ h1.vl 42 0 = 1) ∨ ((rd (h.vl 88) n).1 = -1 ∧ N = 6 ∧ RfQ ((h.put 42 9 (-1)).put 42 71 0) 2 1 6 h1) ∨ ((rd (h.vl 88) n).1 = -1 ∧ N < 6 ∧ r = (N : Int) ∧ CgQ ((h.put 42 9 (-1)).put 42 71 0) c (leV (h.vl 43) (h.vl 88) n N) h1))) := by
  have hN6 := hN.2.1
  have hg' := hg
  unfold ir at hg'
  refine cv_of cdX11_lesson ?_
  show EV _ _ 0 [rv 42, uv, uv, uv] [] h _
  refine ev_aload_n dX11_lesson_0 rfl ?_
  refine ev_cvv dX11_lesson_1 lX11_350 (s_begins hI) (by decide) hI.o hI.n rfl rfl rfl (Nat.le_of_ble_eq_true rfl) rfl (fun g0 q => ?_)
  have b0 : BgQ h g0 := q
  have hI0 : RI g0 := b0.1.ri hI
  have einp : g0.vl 88 = h.vl 88 := b0.1.vl
  have en0 : g0.vl 42 71 = (n : Int) := (b0.1.fl).trans hn0
  refine ev_aload_n dX11_lesson_4 rfl ?_
  refine ev_aload_n dX11_lesson_5 rfl ?_
  refine ev_aload_n dX11_lesson_6 rfl ?_
  refine ev_getrv dX11_lesson_7 fX11_149 hI0.o hI0.n rfl hI0.v_input ?_
  refine ev_iconst dX11_lesson_10 ?_
  refine ev_aload_n dX11_lesson_11 rfl ?_
  refine ev_getiv dX11_lesson_12 fX11_353 hI0.o hI0.n rfl en0 ?_
  refine ev_cvi dX11_lesson_15 lX11_209 (s_reads (src := 88) (b := 0) (Ls := 60) hI0 hI0.k_input hI0.n_input (Or.inr (by decide)) (by decide) hn (by omega) (by decide)) (by decide) hI0.o hI0.n rfl rfl rfl (Nat.le_of_ble_eq_true rfl) rfl (fun r g1 q => ?_)
  obtain ⟨q1, k1, q3⟩ := q
  have ec : (fun j => g0.vl 88 (0 + j)) = h.vl 88 := funext fun j => by rw [Nat.zero_add, einp]
  rw [ec] at q1
  obtain ⟨ft, hft⟩ : ∃ ft, ft = (rd (h.vl 88) n).1 := ⟨_, rfl⟩
  rw [← hft] at q1
  rw [← hft]
  subst q1
  have hI1 : RI g1 := k1.ri hI0
  have en1 : g1.vl 42 71 = (n : Int) := (k1.fl).trans en0
  refine ev_pt dX11_lesson_18 fX11_7 hI1.o hI1.n rfl ?_
  refine ev_aload_n dX11_lesson_21 rfl ?_
  refine ev_getiv dX11_lesson_22 fX11_353 hI1.o hI1.n rfl en1 ?_
  refine ev_ist1 dX11_lesson_25 ?_
  refine ev_aload_n dX11_lesson_26 rfl ?_
  refine ev_iconst dX11_lesson_27 ?_
  refine ev_pt dX11_lesson_28 fX11_353 hI1.o hI1.n rfl ?_
  refine ev_aload_n dX11_lesson_31 rfl ?_
  refine ev_getiv dX11_lesson_32 fX11_7 hI1.o hI1.n rfl (show _ = r from rfl) ?_
  have hf : r = -1 ∨ 0 ≤ r := by rw [hft]; exact rd_rng
  have kq : KP ((h.put 42 9 r).put 42 71 0) ((g1.put 42 9 r).put 42 71 0) [44, 47, 48, 49, 50, 51, 52, 53, 54, 55, 56, 57, 58, 59, 60, 61, 62, 63, 64, 65] [0, 34, 35, 36, 69] := ((b0.1.wk (by decide) (by decide)).tr (k1.wk (by decide) (by decide))).put2
  have kI : KP g1 ((g1.put 42 9 r).put 42 71 0) [] [9, 71] := (KP.rf.pf (by decide)).pf (by decide)
  rcases hf with hf | hf
  · skip
    have hbg : BgQ ((h.put 42 9 (-1)).put 42 71 0) ((g0.put 42 9 (-1)).put 42 71 0) := ⟨b0.1.put2, b0.2.1, b0.2.2.1, b0.2.2.2⟩
    subst hf
    have k1' : KP ((g0.put 42 9 (-1)).put 42 71 0) ((g1.put 42 9 (-1)).put 42 71 0) ANn [34, 35, 36] := k1.put2
    have hI2 : RI ((g1.put 42 9 (-1)).put 42 71 0) := (kI.wk (A' := []) (F' := [9, 71]) (by decide) (by decide)).ri2 hI1
    have hv0 : ((g1.put 42 9 (-1)).put 42 71 0).vl 43 0 = (N : Int) := (congrFun (k1.vl (r := 43)) 0).trans ((congrFun (b0.1.vl (r := 43)) 0).trans hN.1)
    obtain ⟨g2, hg2⟩ : ∃ g2, g2 = (g1.put 42 9 (-1)).put 42 71 0 := ⟨_, rfl⟩
    have kI0 : KP g0 g2 (43 :: 44 :: ANn) [0, 2, 3, 4, 5, 7, 8, 9, 34, 35, 36, 69, 71] := by rw [hg2]; exact (k1.wk (by decide) (by decide)).tr (kI.wk (by decide) (by decide))
    rw [← hg2] at k1' hI2 hv0
    refine ev_iflt 44 dX11_lesson_35 (fun hb => ?_) (fun h_no => (by exfalso; omega))
    rw [← hg2]
    refine ev_aload_n dX11_lesson_44 rfl ?_
    refine ev_getrv dX11_lesson_45 fX11_13 hI2.o hI2.n rfl hI2.v_v ?_
    refine ev_iconst dX11_lesson_48 ?_
    refine ev_ildv dX11_lesson_49 hI2.k_v hI2.n_v rfl (by omega) (by omega) hv0 ?_
    refine ev_ist2 dX11_lesson_50 ?_
    refine ev_iload_n dX11_lesson_51 rfl ?_
    refine ev_bipush dX11_lesson_52 ?_
    by_cases h6 : N = 6
    · skip
      refine ev_icmpne 70 dX11_lesson_54 (fun h_no => (by exfalso; omega)) (fun hb2 => ?_)
      refine ev_aload_n dX11_lesson_57 rfl ?_
      refine ev_aload_n dX11_lesson_58 rfl ?_
      refine ev_iconst dX11_lesson_59 ?_
      refine ev_bipush dX11_lesson_60 ?_
      refine ev_cvi dX11_lesson_62 lX11_356 (s_refuses hI2) (by decide) hI2.o hI2.n rfl rfl rfl (Nat.le_of_ble_eq_true rfl) rfl (fun r9 g3 q => ?_)
      obtain ⟨rfl, hg3⟩ := q
      have k3 : KP g2 g3 [] [7, 8, 69] := by rw [hg3]; exact ((KP.rf.pf (by decide)).pf (by decide)).pf (by decide)
      have hI3 : RI g3 := k3.ri hI2
      refine ev_iconst dX11_lesson_65 ?_
      refine ev_cvi dX11_lesson_66 lX11_359 (s_endsB hI3 (by rw [hg3]; rfl)) (by decide) hI3.o hI3.n rfl rfl rfl (Nat.le_of_ble_eq_true rfl) rfl (fun r8 h1 q => ?_)
      obtain ⟨rfl, q⟩ := q
      exact ev_iret dX11_lesson_69 (⟨_, rfl, stq_o b0.1 ((kI0.tr (k3.wk (by decide) (by decide))).tr (q.1.wk (by decide) (by decide))) (KP.rf (A := []) (F := [])) hsn (by decide) (by decide) (by decide) (by decide), Or.inr (Or.inl ⟨rfl, h6, chg_r (A := ANn) (F := [7, 8, 34, 35, 36, 69]) hbg ((k1'.wk (by decide) (by decide)).tr (k3.wk (by decide) (by decide))) (by decide) (by decide) (by rw [hg3]; rfl) (by rw [hg3]; rfl) q⟩)⟩)
    · skip
      refine ev_icmpne 70 dX11_lesson_54 (fun hb2 => ?_) (fun h_no => (by exfalso; omega))
      have hin2 : g2.vl 88 = h.vl 88 := by rw [hg2]; exact (k1.vl (r := 88)).trans einp
      have hv2 : g2.vl 43 = h.vl 43 := by rw [hg2]; exact (k1.vl (r := 43)).trans (b0.1.vl)
      refine ev_aload_n dX11_lesson_70 rfl ?_
      refine ev_getrv dX11_lesson_71 fX11_13 hI2.o hI2.n rfl hI2.v_v ?_
      refine ev_iload_n dX11_lesson_74 rfl ?_
      refine ev_csi dX11_lesson_75 lX11_206 (s_lessonAt (by omega) (by omega)) (by decide) rfl rfl (Nat.le_of_ble_eq_true rfl) rfl (fun r7 z1 q => ?_)
      obtain ⟨rfl, e⟩ := q
      rw [e]
      rw [show (3 : Int) + 61 * (N : Int) = ((3 + 61 * N : Nat) : Int) from by omega]
      refine ev_iload_n dX11_lesson_78 rfl ?_
      refine ev_istr dX11_lesson_79 hI2.k_v hI2.n_v rfl (by omega) (by omega) ?_
      refine ev_iconst dX11_lesson_80 ?_
      refine ev_ist3 dX11_lesson_81 ?_
      have kw : KP g2 (g2.put 43 (3 + 61 * N) (n : Int)) [43] [] := KP.rf.pr (by decide) (by decide)
      refine lesson_loop (h0 := g2) (n := n) (N := N) hI2 (by omega) hn (fun g k ev i => ?_) 60 0 _ (by omega) kw (funext fun k => ?_)
      · have hIg : RI g := k.ri hI2
        have w0 : g.vl 43 0 = (N : Int) := by
          rw [ev]
          unfold leW
          rw [if_neg (by omega), if_neg (by omega)]
          exact hv0
        have w1 : g.vl 43 1 = h.vl 43 1 := by
          rw [ev]
          unfold leW
          rw [if_neg (by omega), if_neg (by omega), hv2]
        refine ev_aload_n dX11_lesson_122 rfl ?_
        refine ev_getrv dX11_lesson_123 fX11_13 hIg.o hIg.n rfl hIg.v_v ?_
        refine ev_iconst dX11_lesson_126 ?_
        refine ev_dup2 dX11_lesson_127 ?_
        refine ev_ildv dX11_lesson_128 hIg.k_v hIg.n_v rfl (by omega) (by omega) w0 ?_
        refine ev_iconst dX11_lesson_129 ?_
        refine ev_iadd dX11_lesson_130 (by unfold ir; omega) ?_
        refine ev_istr dX11_lesson_131 hIg.k_v hIg.n_v rfl (by omega) (by omega) ?_
        refine ev_aload_n dX11_lesson_132 rfl ?_
        refine ev_getrv dX11_lesson_133 fX11_13 hIg.o hIg.n rfl hIg.v_v ?_
        refine ev_iconst dX11_lesson_136 ?_
        refine ev_dup2 dX11_lesson_137 ?_
        refine ev_ildv dX11_lesson_138 hIg.k_v hIg.n_v rfl (by decide) (by decide) (show _ = h.vl 43 1 from (put_vlne (by omega)).trans w1) ?_
        refine ev_iconst dX11_lesson_139 ?_
        refine ev_iadd dX11_lesson_140 (by unfold ir; omega) ?_
        refine ev_istr dX11_lesson_141 hIg.k_v hIg.n_v rfl (by omega) (by omega) ?_
        refine ev_aload_n dX11_lesson_142 rfl ?_
        refine ev_iload_n dX11_lesson_143 rfl ?_
        refine ev_iconst dX11_lesson_144 ?_
        have k5 : KP g ((g.put 43 0 ((N : Int) + 1)).put 43 1 (h.vl 43 1 + 1)) [43] [] := (KP.rf.pr (by decide) (by decide)).pr (by decide) (by decide)
        have k6 : KP ((g0.put 42 9 (-1)).put 42 71 0) ((g.put 43 0 ((N : Int) + 1)).put 43 1 (h.vl 43 1 + 1)) (43 :: ANn) [34, 35, 36] := ((k1'.wk (by decide) (by decide)).tr (k.wk (by decide) (by decide))).tr (k5.wk (by decide) (by decide))
        have hI5 := k5.ri hIg
        refine ev_cvi dX11_lesson_145 lX11_359 (s_endsO hI5 ?_ ?_ hc8) (by decide) hIg.o hIg.n rfl rfl rfl (Nat.le_of_ble_eq_true rfl) rfl (fun r8 h1 q => ?_)
        · exact (k5.fl (j := 69)).trans ((k.fl).trans ((k1'.fl).trans b0.2.2.1))
        · exact (k5.fl (j := 2)).trans ((k.fl).trans ((k1'.fl).trans ((b0.1.fl (j := 2)).trans hc)))
        · obtain ⟨rfl, q⟩ := q
          refine ev_iret dX11_lesson_148 (⟨_, rfl, stq_o b0.1 ((kI0.tr (k.wk (by decide) (by decide))).tr (k5.wk (by decide) (by decide))) q.1 hsn (by decide) (by decide) (by decide) (by decide), Or.inr (Or.inr ⟨rfl, by omega, rfl, chg_o hbg k6 (by decide) (by decide) (fun j _ => ?_) q⟩)⟩)
          show (if (43 : Nat) = 43 ∧ j = 1 then h.vl 43 1 + 1 else if (43 : Nat) = 43 ∧ j = 0 then (N : Int) + 1 else g.vl 43 j) = leV (h.vl 43) (h.vl 88) n N j
          unfold leV
          by_cases j0 : j = 0
          · rw [if_neg (by omega), if_pos ⟨rfl, j0⟩, if_pos j0]
          · rw [if_neg j0]
            by_cases j1 : j = 1
            · rw [if_pos ⟨rfl, j1⟩, if_pos j1]
            · rw [if_neg (fun z => j1 z.2), if_neg (fun z => j0 z.2), if_neg j1, ev, hv2, hin2]
      · rw [AH.put_vl]
        unfold leW
        by_cases e3 : k = 3 + 61 * N
        · rw [if_pos ⟨rfl, e3⟩, if_pos e3]
        · rw [if_neg (fun z => e3 z.2), if_neg e3, if_neg (by omega)]
  · skip
    refine ev_iflt 44 dX11_lesson_35 (fun h_no => (by exfalso; omega)) (fun hb => ?_)
    refine ev_aload_n dX11_lesson_38 rfl ?_
    refine ev_iconst dX11_lesson_39 ?_
    refine ev_cvi dX11_lesson_40 lX11_344 (s_no (kI.ri2 hI1)) (by decide) hI1.o hI1.n rfl rfl rfl (Nat.le_of_ble_eq_true rfl) rfl (fun r9 g3 q => ?_)
    obtain ⟨rfl, rfl⟩ := q
    exact ev_iret dX11_lesson_43 (⟨_, rfl, stq_o (A := ANn) (F := [9, 34, 35, 36, 71]) b0.1 ((k1.wk (by decide) (by decide)).tr (kI.wk (by decide) (by decide))) ((KP.rf (A := []) (F := [0])).pf (by decide)) hsn (by decide) (by decide) (by decide) (by decide), Or.inl ⟨by omega, hf, (kq.wk (by decide) (by decide)).pf (by decide), rfl⟩⟩)
