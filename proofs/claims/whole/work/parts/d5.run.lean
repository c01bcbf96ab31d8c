/-! a text of orders is run: the reference -/
theorem kp_B {h g : AH} {A F : List Nat} {f x : Int} (k : KP h g A (9 :: 71 :: F)) (e9 : g.vl 42 9 = f) (e71 : g.vl 42 71 = x) : KP ((h.put 42 9 f).put 42 71 x) g A F := by
  obtain ⟨k1, k2, k3, k4, k5, k6⟩ := k
  refine ⟨k1, k2, k3, k4, fun b hb hA => ?_, fun j hj => ?_⟩
  · rw [k5 b hb hA]
    funext i
    rw [AH.put_vl, if_neg (fun z => hb z.1), AH.put_vl, if_neg (fun z => hb z.1)]
  · rw [AH.put_vl]
    by_cases e : j = 71
    · rw [if_pos ⟨rfl, e⟩, e, e71]
    · rw [if_neg (fun z => e z.2), AH.put_vl]
      by_cases e2 : j = 9
      · rw [if_pos ⟨rfl, e2⟩, e2, e9]
      · rw [if_neg (fun z => e2 z.2)]
        exact k6 j (fun hm => by
          rcases List.mem_cons.mp hm with a | hm
          · exact e2 a
          · rcases List.mem_cons.mp hm with a | hm
            · exact e a
            · exact hj hm)
theorem run_m {c : Nat → Int} {n : Nat} : ∀ (t i k : Nat) (v : Nat → Int) (why det : Int) (m : Nat) (v' : Nat → Int), runR c n t i k v why det m v' → k ≤ m ∧ m < k + t
  | 0, _, _, _, _, _, _, _, h => False.elim h
  | t + 1, i, k, v, why, det, m, v', h => by
    obtain ⟨w, d, v1, -, ⟨-, -, -, e, -⟩ | ⟨-, ⟨-, h2⟩ | ⟨-, -, e, -⟩⟩⟩ := h
    · omega
    · have := run_m t _ _ _ _ _ _ _ h2; omega
    · omega
/-- an order of a text is refused -/
def RnQ (h : AH) (why det : Int) (m : Nat) (h1 : AH) : Prop := KP h h1 AN2 (6 :: FN2) ∧ h1.vl 42 0 = 2 ∧ h1.vl 42 3 = 9 ∧ h1.vl 42 4 = (m : Int) ∧ h1.vl 42 5 = why ∧ h1.vl 42 6 = det ∧ (∀ j, j < 569 → h1.vl 43 j = h.vl 43 j) ∧ h1.vl 42 2 = h.vl 42 2 ∧ h1.vl 46 = h.vl 46
def hB (h : AH) (f : Int) : AH := (h.put 42 9 f).put 42 71 0
set_option maxRecDepth 100000 in
theorem r_run {n N c : Nat} {LL : Nat → List Nd} {kp : Nat → Option TE} {h : AH} (hI : RI h) (hS : VS (h.vl 43) N LL kp) (hsn : ∀ k, h.vl 71 k ≤ h.vl 42 50) (hst : 0 ≤ h.vl 42 50 ∧ h.vl 42 50 + 4120200 ≤ 2147483000) (hs0 : -2147483648 ≤ h.vl 43 2 ∧ h.vl 43 2 + 61 ≤ 2147483647) (hc : h.vl 42 2 = (c : Int)) (hc8 : c ≤ 8) (hn0 : h.vl 42 71 = (n : Int)) (hn : n ≤ 60) :
    CV mX11_run 13 [rv 42] h (oi fun r h1 => StQ h h1 4120200 ∧ (((aos (h.vl 88) n).1 = false ∧ KP (hB h ((aos (h.vl 88) n).2.1 : Int)) h1 AQ FQ ∧ h1.vl 42 0 = 1) ∨ ((aos (h.vl 88) n).1 = true ∧ ∃ why det m v', runR (h.vl 88) n (n + 1) 0 0 (h.vl 43) why det m v' ∧ ((why = 0 ∧ r = (m : Int) + 1 ∧ CgQ (hB h (-1)) c v' h1) ∨ (why ≠ 0 ∧ RnQ (hB h (-1)) why det m h1))))) := by
  refine cv_of cdX11_run ?_
  show EV _ _ 0 [rv 42, uv, uv, uv, uv] [] h _
  refine ev_aload_n dX11_run_0 rfl ?_
  refine ev_cvv dX11_run_1 lX11_350 (s_begins hI) (by decide) hI.o hI.n rfl rfl rfl (Nat.le_of_ble_eq_true rfl) rfl (fun g0 q => ?_)
  have b0 : BgQ h g0 := q
  have hI0 : RI g0 := b0.1.ri hI
  have einp : g0.vl 88 = h.vl 88 := b0.1.vl
  have e43 : g0.vl 43 = h.vl 43 := b0.1.vl
  have e50 : g0.vl 42 50 = h.vl 42 50 := b0.1.fl
  have eS : g0.vl 71 = h.vl 71 := b0.1.vl
  have en0 : g0.vl 42 71 = (n : Int) := (b0.1.fl).trans hn0
  refine ev_aload_n dX11_run_4 rfl ?_
  refine ev_aload_n dX11_run_5 rfl ?_
  refine ev_getiv dX11_run_6 fX11_353 hI0.o hI0.n rfl en0 ?_
  refine ev_pt dX11_run_9 fX11_421 hI0.o hI0.n rfl ?_
  refine ev_aload_n dX11_run_12 rfl ?_
  refine ev_iconst dX11_run_13 ?_
  refine ev_pt dX11_run_14 fX11_353 hI0.o hI0.n rfl ?_
  obtain ⟨g1, hg1⟩ : ∃ g1, g1 = (g0.put 42 76 (n : Int)).put 42 71 0 := ⟨_, rfl⟩
  rw [← hg1]
  have k1 : KP g0 g1 [] [71, 76] := by rw [hg1]; exact (KP.rf.pf (by decide)).pf (by decide)
  have hI1 : RI g1 := k1.ri hI0
  have f76 : g1.vl 42 76 = (n : Int) := by rw [hg1]; rfl
  have f69 : g1.vl 42 69 = 0 := (k1.fl).trans b0.2.2.1
  have f71 : g1.vl 42 71 = 0 := by rw [hg1]; rfl
  have f88 : g1.vl 88 = h.vl 88 := (k1.vl).trans einp
  refine ev_aload_n dX11_run_17 rfl ?_
  refine ev_aload_n dX11_run_18 rfl ?_
  refine ev_iconst dX11_run_19 ?_
  refine ev_cvi dX11_run_20 lX11_434 (s_areOrd0 hI1 f76 f69 hn) (by decide) hI1.o hI1.n rfl rfl rfl (Nat.le_of_ble_eq_true rfl) rfl (fun r g2 q => ?_)
  obtain ⟨q1, k2, q3, q4⟩ := q
  rw [f88] at q1 q3 q4
  have hI2 : RI g2 := k2.ri hI1
  have K02 : KP g0 g2 [] [71, 75, 76, 77] := (k1.wk (by decide) (by decide)).tr (k2.wk (by decide) (by decide))
  have fin : ∀ (ft : Int) (g3 : AH), g3 = g2.put 42 9 ft → KP ((g0.put 42 9 ft).put 42 71 0) g3 [] [75, 76, 77] ∧ g3.vl 42 9 = ft := by
    intro ft g3 e3
    have k3 : KP g2 g3 [] [9] := by rw [e3]; exact KP.rf.pf (by decide)
    have f9 : g3.vl 42 9 = ft := by rw [e3]; rfl
    exact ⟨kp_B ((K02.wk (by decide) (by decide)).tr (k3.wk (by decide) (by decide))) f9 ((k3.fl).trans ((k2.fl).trans f71)), f9⟩
  by_cases ok : (aos (h.vl 88) n).1 = true
  · skip
    rw [if_pos ok] at q1
    rw [q1]
    refine ev_ifeq 30 dX11_run_23 (fun h_no => (by exfalso; exact absurd h_no (by decide))) (fun hb => ?_)
    refine ev_iconst dX11_run_26 ?_
    refine ev_gt 34 dX11_run_27 ?_
    refine ev_pt dX11_run_34 fX11_7 hI2.o hI2.n rfl ?_
    obtain ⟨g3, hg3⟩ : ∃ g3, g3 = g2.put 42 9 (-1) := ⟨_, rfl⟩
    rw [← hg3]
    obtain ⟨k3, f9⟩ := fin (-1) g3 hg3
    have k3' : KP g2 g3 [] [9] := by rw [hg3]; exact KP.rf.pf (by decide)
    have hI3 : RI g3 := k3'.ri hI2
    have hbg : BgQ (hB h (-1)) ((g0.put 42 9 (-1)).put 42 71 0) := ⟨b0.1.put2, b0.2.1, b0.2.2.1, b0.2.2.2⟩
    have K03 : KP g0 g3 [] [9, 71, 75, 76, 77] := (K02.wk (by decide) (by decide)).tr (k3'.wk (by decide) (by decide))
    have u76 : g3.vl 42 76 = (n : Int) := by rw [k3'.fl, k2.fl]; exact f76
    have u69 : g3.vl 42 69 = 0 := by rw [K03.fl]; exact b0.2.2.1
    have u88 : g3.vl 88 = h.vl 88 := by rw [K03.vl]; exact einp
    have u43 : g3.vl 43 = h.vl 43 := by rw [K03.vl]; exact e43
    have u50 : g3.vl 42 50 = h.vl 42 50 := by rw [K03.fl]; exact e50
    have uS : g3.vl 71 = h.vl 71 := by rw [K03.vl]; exact eS
    have hc3 : g3.vl 42 2 = (c : Int) := by rw [K03.fl]; exact (b0.1.fl).trans hc
    refine ev_aload_n dX11_run_37 rfl ?_
    refine ev_getiv dX11_run_38 fX11_7 hI3.o hI3.n rfl f9 ?_
    refine ev_iflt 50 dX11_run_41 (fun hb2 => ?_) (fun h_no => (by exfalso; omega))
    refine ev_aload_n dX11_run_50 rfl ?_
    refine ev_iconst dX11_run_51 ?_
    refine ev_cvi dX11_run_52 lX11_434 (s_areOrd1 hI3 u76 hn (by omega) (by rw [u43]; omega) (by rw [u88]; exact ok) u69 ⟨N, LL, kp, by rw [u43]; exact hS⟩ (fun x => by rw [uS, u50]; exact hsn x)) (by decide) hI3.o hI3.n rfl rfl rfl (Nat.le_of_ble_eq_true rfl) rfl (fun r g4 q => ?_)
    obtain ⟨rfl, k4, ⟨sn4, st4⟩, why, det, m, ⟨q5, q6⟩, q7⟩ := q
    rw [u88, u43] at q7
    have m9 := run_m _ _ _ _ _ _ _ _ q7
    have hI4 : RI g4 := k4.ri hI3
    have hc4 : g4.vl 42 2 = (c : Int) := (k4.fl).trans hc3
    have K4 : KP ((g0.put 42 9 (-1)).put 42 71 0) g4 OdA (76 :: OeF) := (k3.wk (by decide) (by decide)).tr (k4.wk (by decide) (by decide))
    rcases q6 with ⟨w0, r0⟩ | ⟨w0, r1, w1, d1⟩
    · skip
      refine ev_ist1 dX11_run_55 ?_
      refine ev_aload_n dX11_run_56 rfl ?_
      refine ev_getiv dX11_run_57 fX11_321 hI4.o hI4.n rfl r0 ?_
      refine ev_ifne 75 dX11_run_60 (fun h_no => (by exfalso; exact h_no rfl)) (fun hb3 => ?_)
      refine ev_aload_n dX11_run_63 rfl ?_
      refine ev_aload_n dX11_run_64 rfl ?_
      refine ev_getiv dX11_run_65 fX11_427 hI4.o hI4.n rfl q5 ?_
      refine ev_iconst dX11_run_68 ?_
      refine ev_iadd dX11_run_69 (by unfold ir; omega) ?_
      refine ev_iconst dX11_run_70 ?_
      refine ev_cvi dX11_run_71 lX11_359 (s_endsO hI4 r0 hc4 hc8) (by decide) hI4.o hI4.n rfl rfl rfl (Nat.le_of_ble_eq_true rfl) rfl (fun r h1 q => ?_)
      obtain ⟨rfl, q⟩ := q
      have z50 : h1.vl 42 50 = g4.vl 42 50 := q.1.fl
      have z71 : h1.vl 71 = g4.vl 71 := q.1.vl
      exact ev_iret dX11_run_74 (⟨_, rfl, ⟨fun k => by rw [z71, z50]; exact sn4 k, by omega⟩, Or.inr ⟨ok, why, det, m, g4.vl 43, q7, Or.inl ⟨w0, rfl, chg_o hbg K4 (by decide) (by decide) (fun j _ => rfl) q⟩⟩⟩)
    refine ev_ist1 dX11_run_55 ?_
    refine ev_aload_n dX11_run_56 rfl ?_
    refine ev_getiv dX11_run_57 fX11_321 hI4.o hI4.n rfl r1 ?_
    refine ev_ifne 75 dX11_run_60 (fun hb3 => ?_) (fun h_no => (by exfalso; omega))
    refine ev_aload_n dX11_run_75 rfl ?_
    refine ev_getiv dX11_run_76 fX11_325 hI4.o hI4.n rfl w1 ?_
    refine ev_ist2 dX11_run_79 ?_
    refine ev_aload_n dX11_run_80 rfl ?_
    refine ev_getiv dX11_run_81 fX11_328 hI4.o hI4.n rfl d1 ?_
    refine ev_ist3 dX11_run_84 ?_
    refine ev_aload_n dX11_run_85 rfl ?_
    refine ev_aload_n dX11_run_86 rfl ?_
    refine ev_bipush dX11_run_87 ?_
    refine ev_aload_n dX11_run_89 rfl ?_
    refine ev_getiv dX11_run_90 fX11_427 hI4.o hI4.n rfl q5 ?_
    refine ev_cvi dX11_run_93 lX11_356 (s_refuses hI4) (by decide) hI4.o hI4.n rfl rfl rfl (Nat.le_of_ble_eq_true rfl) rfl (fun r9 g5 q => ?_)
    obtain ⟨rfl, hg5⟩ := q
    have k5 : KP g4 g5 [] [7, 8, 69] := by rw [hg5]; exact ((KP.rf.pf (by decide)).pf (by decide)).pf (by decide)
    have hI5 : RI g5 := k5.ri hI4
    refine ev_iconst dX11_run_96 ?_
    refine ev_cvi dX11_run_97 lX11_359 (s_endsB hI5 (by rw [hg5]; rfl)) (by decide) hI5.o hI5.n rfl rfl rfl (Nat.le_of_ble_eq_true rfl) rfl (fun r8 h1 q => ?_)
    obtain ⟨rfl, q⟩ := q
    have R0 : RfQ (hB h (-1)) 2 9 (m : Int) h1 := chg_r hbg (K4.tr (k5.wk (by decide) (by decide))) (by decide) (by decide) (by rw [hg5]; rfl) (by rw [hg5]; rfl) q
    obtain ⟨p1, p2, p3, p4, p5, p6, p7, p8⟩ := R0
    have z50 : h1.vl 42 50 = g4.vl 42 50 := by rw [q.1.fl, k5.fl]
    have z71 : h1.vl 71 = g4.vl 71 := by rw [q.1.vl, k5.vl]
    refine ev_ist4 dX11_run_100 ?_
    refine ev_aload_n dX11_run_102 rfl ?_
    refine ev_iload_n dX11_run_103 rfl ?_
    refine ev_pt dX11_run_104 fX11_341 (q.1.ri hI5).o (q.1.ri hI5).n rfl ?_
    refine ev_aload_n dX11_run_107 rfl ?_
    refine ev_iload_n dX11_run_108 rfl ?_
    refine ev_pt dX11_run_109 fX11_437 (q.1.ri hI5).o (q.1.ri hI5).n rfl ?_
    refine ev_iload dX11_run_112 rfl ?_
    refine ev_iret dX11_run_114 (⟨_, rfl, ⟨fun k => by rw [show ((h1.put 42 5 why).put 42 6 det).vl 71 = h1.vl 71 from (put_ne _ (by decide)).trans (put_ne _ (by decide))]; show h1.vl 71 k ≤ h1.vl 42 50; rw [z71, z50]; exact sn4 k, by show h.vl 42 50 ≤ h1.vl 42 50 ∧ h1.vl 42 50 ≤ _; omega⟩, Or.inr ⟨ok, why, det, m, g4.vl 43, q7, Or.inr ⟨w0, ((p1.wk (by decide) (by decide)).pf (by decide)).pf (by decide), p2, p3, p4, rfl, rfl, fun j hj => p6 j hj, p7, ?_⟩⟩⟩)
    rw [show ((h1.put 42 5 why).put 42 6 det).vl 46 = h1.vl 46 from (put_ne _ (by decide)).trans (put_ne _ (by decide))]
    exact p8
  have ok' : (aos (h.vl 88) n).1 = false := by
    cases hz : (aos (h.vl 88) n).1 with
    | false => rfl
    | true => exact absurd hz ok
  rw [if_neg ok] at q1
  rw [q1]
  refine ev_ifeq 30 dX11_run_23 (fun hb => ?_) (fun h_no => (by exfalso; exact h_no rfl))
  refine ev_aload_n dX11_run_30 rfl ?_
  refine ev_getiv dX11_run_31 fX11_418 hI2.o hI2.n rfl q3 ?_
  refine ev_pt dX11_run_34 fX11_7 hI2.o hI2.n rfl ?_
  refine ev_aload_n dX11_run_37 rfl ?_
  refine ev_getiv dX11_run_38 fX11_7 hI2.o hI2.n rfl (show _ = ((aos (h.vl 88) n).2.1 : Int) from rfl) ?_
  obtain ⟨g3, hg3⟩ : ∃ g3, g3 = g2.put 42 9 ((aos (h.vl 88) n).2.1 : Int) := ⟨_, rfl⟩
  rw [← hg3]
  obtain ⟨k3, f9⟩ := fin ((aos (h.vl 88) n).2.1 : Int) g3 hg3
  have k3' : KP g2 g3 [] [9] := by rw [hg3]; exact KP.rf.pf (by decide)
  have hI3 : RI g3 := k3'.ri hI2
  refine ev_iflt 50 dX11_run_41 (fun h_no => (by exfalso; omega)) (fun hb2 => ?_)
  refine ev_aload_n dX11_run_44 rfl ?_
  refine ev_iconst dX11_run_45 ?_
  refine ev_cvi dX11_run_46 lX11_344 (s_no hI3) (by decide) hI3.o hI3.n rfl rfl rfl (Nat.le_of_ble_eq_true rfl) rfl (fun r h1 q => ?_)
  obtain ⟨-, e1⟩ := q
  have k4 : KP g3 h1 [] [0] := by rw [e1]; exact KP.rf.pf (by decide)
  have K03 : KP g0 g3 [] [9, 71, 75, 76, 77] := (K02.wk (by decide) (by decide)).tr (k3'.wk (by decide) (by decide))
  have z50 : h1.vl 42 50 = h.vl 42 50 := by rw [k4.fl, K03.fl]; exact e50
  have z71 : h1.vl 71 = h.vl 71 := by rw [k4.vl, K03.vl]; exact eS
  have kb : KP (hB h ((aos (h.vl 88) n).2.1 : Int)) ((g0.put 42 9 ((aos (h.vl 88) n).2.1 : Int)).put 42 71 0) [44] [0, 69] := b0.1.put2
  exact ev_iret dX11_run_49 (⟨_, rfl, ⟨fun k => by rw [z71, z50]; exact hsn k, by omega⟩, Or.inl ⟨ok', ((kb.wk (by decide) (by decide)).tr (k3.wk (by decide) (by decide))).tr (k4.wk (by decide) (by decide)), by rw [e1]; rfl⟩⟩)
