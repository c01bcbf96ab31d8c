/-! the reference takes a lesson -/
theorem KP.put2 {h h1 : AH} {A F : List Nat} {x y : Int} (k : KP h h1 A F) : KP ((h.put 42 9 x).put 42 71 y) ((h1.put 42 9 x).put 42 71 y) A F := by
  refine ⟨k.1, k.2.1, k.2.2.1, k.2.2.2.1, fun b hb hA => funext fun j => ?_, fun j hj => ?_⟩
  · rw [AH.put_vl, if_neg (fun z => hb z.1), AH.put_vl, if_neg (fun z => hb z.1), AH.put_vl, if_neg (fun z => hb z.1), AH.put_vl, if_neg (fun z => hb z.1), k.vl hb hA]
  · rw [AH.put_vl, AH.put_vl, AH.put_vl, AH.put_vl, k.fl hj]
theorem KP.ri2 {h h1 : AH} (k : KP h h1 [] [9, 71]) (hI : RI h) : RI h1 := k.ri hI
theorem put_vlne {g : AH} {a i : Nat} {x : Int} {b j : Nat} (h : ¬ (b = a ∧ j = i)) : (g.put a i x).vl b j = g.vl b j := by rw [AH.put_vl, if_neg h]
theorem rdF_rng {c : Nat → Int} {n : Nat} : ∀ (t : Nat) (f : Fr) (r : List Fr) (i : Nat), (rdF c n t f r i).1 = -1 ∨ 0 ≤ (rdF c n t f r i).1 := by
  intro t
  induction t with
  | zero => intro f r i; exact Or.inr (Int.natCast_nonneg _)
  | succ t ih =>
    intro f r i
    obtain ⟨ch, hch⟩ : ∃ ch, ch = (if i < n then c i else -1) := ⟨_, rfl⟩
    rw [rdF, ← hch]
    by_cases c1 : f.2.2.2.2 = [] ∧ (ch = 94 ∨ ch = 33)
    · rw [if_pos c1]
      by_cases c2 : ¬ (i + 1 < n ∧ 97 ≤ c (i + 1) ∧ c (i + 1) ≤ 122)
      · rw [if_pos c2]; exact Or.inr (Int.natCast_nonneg _)
      · rw [if_neg c2]
        by_cases c3 : ¬ (i + 2 < n ∧ c (i + 2) = (if ch = 94 then 46 else 61))
        · rw [if_pos c3]; exact Or.inr (Int.natCast_nonneg _)
        · rw [if_neg c3]; exact ih _ _ _
    · rw [if_neg c1]
      by_cases c2 : ch = 40
      · rw [if_pos c2]; exact ih _ _ _
      · rw [if_neg c2]
        by_cases c3 : 0 ≤ lk ch
        · rw [if_pos c3]; exact ih _ _ _
        · rw [if_neg c3]
          by_cases c4 : f.2.2.2.2 = [] ∨ ¬ (ch = 41 ∨ ch = 59 ∨ ch = -1)
          · rw [if_pos c4]; exact Or.inr (Int.natCast_nonneg _)
          · rw [if_neg c4]
            by_cases c5 : ch = -1 ∧ (clH f r).1.1 = 0
            · rw [if_pos c5]; exact Or.inl rfl
            · rw [if_neg c5]
              by_cases c6 : ch = 41 ∧ (clH f r).1.1 = 1
              · rw [if_pos c6]
                cases hq : (clH f r).2 with
                | nil => exact Or.inr (Int.natCast_nonneg _)
                | cons g s => exact ih _ _ _
              · rw [if_neg c6]
                by_cases c7 : ch = 59 ∧ (clH f r).1.1 = 3
                · rw [if_pos c7]; exact ih _ _ _
                · rw [if_neg c7]; exact Or.inr (Int.natCast_nonneg _)
theorem rd_rng {c : Nat → Int} {n : Nat} : (rd c n).1 = -1 ∨ 0 ≤ (rd c n).1 := rdF_rng _ _ _ _
def AQ : List Nat := [44, 47, 48, 49, 50, 51, 52, 53, 54, 55, 56, 57, 58, 59, 60, 61, 62, 63, 64, 65, 66, 67, 68, 69, 70, 71, 72, 73, 74, 75, 76, 77, 78, 79, 80, 81, 82, 83, 84, 85, 86, 87, 89]
def FQ : List Nat := [0, 1, 7, 8, 34, 35, 36, 49, 50, 51, 52, 53, 54, 55, 59, 60, 68, 69, 73, 74, 75, 76, 77, 81]
def leW (v : Nat → Int) (inp : Nat → Int) (n N i : Nat) : Nat → Int := fun k => if k = 3 + 61 * N then (n : Int) else if 4 + 61 * N ≤ k ∧ k < 4 + 61 * N + i then (if k - (4 + 61 * N) < n then inp (k - (4 + 61 * N)) else 0) else v k
/-- the state with one lesson more -/
def leV (v : Nat → Int) (inp : Nat → Int) (n N : Nat) : Nat → Int := fun k => if k = 0 then (N : Int) + 1 else if k = 1 then v 1 + 1 else leW v inp n N 60 k
set_option maxRecDepth 100000 in
theorem lesson_loop {h0 : AH} {n N : Nat} {Q : AV → AH → Prop} (hI0 : RI h0) (hN : N < 6) (hn : n ≤ 60) (K : ∀ g : AH, KP h0 g [43] [] → g.vl 43 = leW (h0.vl 43) (h0.vl 88) n N 60 → ∀ i : Int, EV mX11_lesson 9 122 [rv 42, iv (n : Int), iv (N : Int), iv i] [] g Q) : ∀ (m i : Nat) (g : AH), i + m = 60 → KP h0 g [43] [] → g.vl 43 = leW (h0.vl 43) (h0.vl 88) n N i → EV mX11_lesson 9 82 [rv 42, iv (n : Int), iv (N : Int), iv (i : Int)] [] g Q := by
  intro m
  induction m with
  | zero =>
    intro i g hi hk h1
    have e : i = 60 := by omega
    subst e
    have hI : RI g := hk.ri hI0
    refine ev_iload_n dX11_lesson_82 rfl ?_
    refine ev_bipush dX11_lesson_83 ?_
    refine ev_icmpge 122 dX11_lesson_85 (fun hc => ?_) (fun h_no => (by exfalso; omega))
    exact K g hk h1 _
  | succ m ih =>
    intro i g hi hk h1
    have hI : RI g := hk.ri hI0
    have stp : ∀ x : Int, x = (if i < n then h0.vl 88 i else 0) → EV mX11_lesson 9 115 [rv 42, iv (n : Int), iv (N : Int), iv (i : Int)] [iv x, iv ((4 + 61 * N + i : Nat) : Int), rv 43] g Q := by
      intro x hx
      obtain ⟨e2, he2⟩ : ∃ e2, e2 = 4 + 61 * N + i := ⟨_, rfl⟩
      rw [← he2]
      refine ev_istr dX11_lesson_115 hI.k_v hI.n_v rfl (by omega) (by omega) ?_
      refine ev_iin3 dX11_lesson_116 (by unfold ir; omega) ?_
      refine ev_gt 82 dX11_lesson_119 ?_
      rw [show (i : Int) + 1 = ((i + 1 : Nat) : Int) from rfl]
      refine ih (i + 1) _ (by omega) (hk.pr (by decide) (by decide)) (funext fun k => ?_)
      rw [show ((e2 : Nat) : Int).toNat = e2 from rfl, AH.put_vl, h1]
      unfold leW
      by_cases e3 : k = e2
      · rw [if_pos ⟨rfl, e3⟩, if_neg (by omega), if_pos (by omega), hx, show k - (4 + 61 * N) = i from by omega]
      · rw [if_neg (fun z => e3 z.2)]
        by_cases e4 : k = 3 + 61 * N
        · rw [if_pos e4, if_pos e4]
        · rw [if_neg e4, if_neg e4]
          by_cases e5 : 4 + 61 * N ≤ k ∧ k < 4 + 61 * N + i
          · rw [if_pos e5, if_pos (show 4 + 61 * N ≤ k ∧ k < 4 + 61 * N + (i + 1) from by omega)]
          · rw [if_neg e5, if_neg (show ¬ (4 + 61 * N ≤ k ∧ k < 4 + 61 * N + (i + 1)) from by omega)]
    refine ev_iload_n dX11_lesson_82 rfl ?_
    refine ev_bipush dX11_lesson_83 ?_
    refine ev_icmpge 122 dX11_lesson_85 (fun h_no => (by exfalso; omega)) (fun hc => ?_)
    refine ev_aload_n dX11_lesson_88 rfl ?_
    refine ev_getrv dX11_lesson_89 fX11_13 hI.o hI.n rfl hI.v_v ?_
    refine ev_iload_n dX11_lesson_92 rfl ?_
    refine ev_csi dX11_lesson_93 lX11_206 (s_lessonAt (by omega) (by omega)) (by decide) rfl rfl (Nat.le_of_ble_eq_true rfl) rfl (fun r z1 q => ?_)
    obtain ⟨rfl, e⟩ := q
    rw [e]
    refine ev_iconst dX11_lesson_96 ?_
    refine ev_iadd dX11_lesson_97 (by unfold ir; omega) ?_
    refine ev_iload_n dX11_lesson_98 rfl ?_
    refine ev_iadd dX11_lesson_99 (by unfold ir; omega) ?_
    refine ev_iload_n dX11_lesson_100 rfl ?_
    refine ev_iload_n dX11_lesson_101 rfl ?_
    rw [show (3 : Int) + 61 * (N : Int) + 1 + (i : Int) = ((4 + 61 * N + i : Nat) : Int) from by omega]
    by_cases hin : i < n
    · skip
      refine ev_icmpge 114 dX11_lesson_102 (fun h_no => (by exfalso; omega)) (fun hc2 => ?_)
      refine ev_aload_n dX11_lesson_105 rfl ?_
      refine ev_getrv dX11_lesson_106 fX11_149 hI.o hI.n rfl hI.v_input ?_
      refine ev_iload_n dX11_lesson_109 rfl ?_
      refine ev_ildv dX11_lesson_110 hI.k_input hI.n_input rfl (by omega) (by omega) (show _ = g.vl 88 i from rfl) ?_
      refine ev_gt 115 dX11_lesson_111 ?_
      exact stp _ (by rw [if_pos hin]; exact congrFun (hk.vl (r := 88)) i)
    · skip
      refine ev_icmpge 114 dX11_lesson_102 (fun hc2 => ?_) (fun h_no => (by exfalso; omega))
      refine ev_iconst dX11_lesson_114 ?_
      exact stp 0 (by rw [if_neg hin])
set_option maxRecDepth 100000 in
theorem r_lesson {n N c : Nat} {LL : Nat → List Nd} {h : AH} (hI : RI h) (hN : NV h N LL) (hc : h.vl 42 2 = (c : Int)) (hc8 : c ≤ 8) (hn0 : h.vl 42 71 = (n : Int)) (hn : n ≤ 60) (hg : ir (h.vl 43 1 + 1)) : CV mX11_lesson 9 [rv 42] h (oi fun r h1 => ((rd (h.vl 88) n).1 ≠ -1 ∧ 0 ≤ (rd (h.vl 88) n).1 ∧ KP ((h.put 42 9 (rd (h.vl 88) n).1).put 42 71 0) h1 AQ FQ ∧ h1.vl 42 0 = 1) ∨ ((rd (h.vl 88) n).1 = -1 ∧ N = 6 ∧ RfQ ((h.put 42 9 (-1)).put 42 71 0) 2 1 6 h1) ∨ ((rd (h.vl 88) n).1 = -1 ∧ N < 6 ∧ r = (N : Int) ∧ CgQ ((h.put 42 9 (-1)).put 42 71 0) c (leV (h.vl 43) (h.vl 88) n N) h1)) := by
  have hN6 := hN.2.1
  have hg' := hg
  unfold ir at hg'
  refine cv_of cdX11_lesson ?_
  show EV _ _ 0 [rv 42, uv, uv, uv] [] h _
  refine ev_aload_n dX11_lesson_0 rfl ?_
  refine ev_cvv dX11_lesson_1 lX11_350 (s_begins hI) (by decide) hI.o hI.n rfl rfl rfl (Nat.le_of_ble_eq_true rfl) rfl (fun g0 q => ?_)
  have b0 : BgQ h g0 := q
  have hI0 : RI g0 := b0.1.ri hI
  have einp : g0.vl 88 = h.vl 88 := b0.1.vl
  have en0 : g0.vl 42 71 = (n : Int) := (b0.1.fl).trans hn0
  refine ev_aload_n dX11_lesson_4 rfl ?_
  refine ev_aload_n dX11_lesson_5 rfl ?_
  refine ev_aload_n dX11_lesson_6 rfl ?_
  refine ev_getrv dX11_lesson_7 fX11_149 hI0.o hI0.n rfl hI0.v_input ?_
  refine ev_iconst dX11_lesson_10 ?_
  refine ev_aload_n dX11_lesson_11 rfl ?_
  refine ev_getiv dX11_lesson_12 fX11_353 hI0.o hI0.n rfl en0 ?_
  refine ev_cvi dX11_lesson_15 lX11_209 (s_reads (src := 88) (b := 0) (Ls := 60) hI0 hI0.k_input hI0.n_input (Or.inr (by decide)) (by decide) hn (by omega) (by decide)) (by decide) hI0.o hI0.n rfl rfl rfl (Nat.le_of_ble_eq_true rfl) rfl (fun r g1 q => ?_)
  obtain ⟨q1, k1, q3⟩ := q
  have ec : (fun j => g0.vl 88 (0 + j)) = h.vl 88 := funext fun j => by rw [Nat.zero_add, einp]
  rw [ec] at q1
  obtain ⟨ft, hft⟩ : ∃ ft, ft = (rd (h.vl 88) n).1 := ⟨_, rfl⟩
  rw [← hft] at q1
  rw [← hft]
  subst q1
  have hI1 : RI g1 := k1.ri hI0
  have en1 : g1.vl 42 71 = (n : Int) := (k1.fl).trans en0
  refine ev_pt dX11_lesson_18 fX11_7 hI1.o hI1.n rfl ?_
  refine ev_aload_n dX11_lesson_21 rfl ?_
  refine ev_getiv dX11_lesson_22 fX11_353 hI1.o hI1.n rfl en1 ?_
  refine ev_ist1 dX11_lesson_25 ?_
  refine ev_aload_n dX11_lesson_26 rfl ?_
  refine ev_iconst dX11_lesson_27 ?_
  refine ev_pt dX11_lesson_28 fX11_353 hI1.o hI1.n rfl ?_
  refine ev_aload_n dX11_lesson_31 rfl ?_
  refine ev_getiv dX11_lesson_32 fX11_7 hI1.o hI1.n rfl (show _ = r from rfl) ?_
  have hf : r = -1 ∨ 0 ≤ r := by rw [hft]; exact rd_rng
  have kq : KP ((h.put 42 9 r).put 42 71 0) ((g1.put 42 9 r).put 42 71 0) [44, 47, 48, 49, 50, 51, 52, 53, 54, 55, 56, 57, 58, 59, 60, 61, 62, 63, 64, 65] [0, 34, 35, 36, 69] := ((b0.1.wk (by decide) (by decide)).tr (k1.wk (by decide) (by decide))).put2
  have kI : KP g1 ((g1.put 42 9 r).put 42 71 0) [] [9, 71] := (KP.rf.pf (by decide)).pf (by decide)
  rcases hf with hf | hf
  · skip
    have hbg : BgQ ((h.put 42 9 (-1)).put 42 71 0) ((g0.put 42 9 (-1)).put 42 71 0) := ⟨b0.1.put2, b0.2.1, b0.2.2.1, b0.2.2.2⟩
    subst hf
    have k1' : KP ((g0.put 42 9 (-1)).put 42 71 0) ((g1.put 42 9 (-1)).put 42 71 0) ANn [34, 35, 36] := k1.put2
    have hI2 : RI ((g1.put 42 9 (-1)).put 42 71 0) := (kI.wk (A' := []) (F' := [9, 71]) (by decide) (by decide)).ri2 hI1
    have hv0 : ((g1.put 42 9 (-1)).put 42 71 0).vl 43 0 = (N : Int) := (congrFun (k1.vl (r := 43)) 0).trans ((congrFun (b0.1.vl (r := 43)) 0).trans hN.1)
    obtain ⟨g2, hg2⟩ : ∃ g2, g2 = (g1.put 42 9 (-1)).put 42 71 0 := ⟨_, rfl⟩
    rw [← hg2] at k1' hI2 hv0
    refine ev_iflt 44 dX11_lesson_35 (fun hb => ?_) (fun h_no => (by exfalso; omega))
    rw [← hg2]
    refine ev_aload_n dX11_lesson_44 rfl ?_
    refine ev_getrv dX11_lesson_45 fX11_13 hI2.o hI2.n rfl hI2.v_v ?_
    refine ev_iconst dX11_lesson_48 ?_
    refine ev_ildv dX11_lesson_49 hI2.k_v hI2.n_v rfl (by omega) (by omega) hv0 ?_
    refine ev_ist2 dX11_lesson_50 ?_
    refine ev_iload_n dX11_lesson_51 rfl ?_
    refine ev_bipush dX11_lesson_52 ?_
    by_cases h6 : N = 6
    · skip
      refine ev_icmpne 70 dX11_lesson_54 (fun h_no => (by exfalso; omega)) (fun hb2 => ?_)
      refine ev_aload_n dX11_lesson_57 rfl ?_
      refine ev_aload_n dX11_lesson_58 rfl ?_
      refine ev_iconst dX11_lesson_59 ?_
      refine ev_bipush dX11_lesson_60 ?_
      refine ev_cvi dX11_lesson_62 lX11_356 (s_refuses hI2) (by decide) hI2.o hI2.n rfl rfl rfl (Nat.le_of_ble_eq_true rfl) rfl (fun r9 g3 q => ?_)
      obtain ⟨rfl, hg3⟩ := q
      have k3 : KP g2 g3 [] [7, 8, 69] := by rw [hg3]; exact ((KP.rf.pf (by decide)).pf (by decide)).pf (by decide)
      have hI3 : RI g3 := k3.ri hI2
      refine ev_iconst dX11_lesson_65 ?_
      refine ev_cvi dX11_lesson_66 lX11_359 (s_endsB hI3 (by rw [hg3]; rfl)) (by decide) hI3.o hI3.n rfl rfl rfl (Nat.le_of_ble_eq_true rfl) rfl (fun r8 h1 q => ?_)
      obtain ⟨rfl, q⟩ := q
      exact ev_iret dX11_lesson_69 (⟨_, rfl, Or.inr (Or.inl ⟨rfl, h6, chg_r (A := ANn) (F := [7, 8, 34, 35, 36, 69]) hbg ((k1'.wk (by decide) (by decide)).tr (k3.wk (by decide) (by decide))) (by decide) (by decide) (by rw [hg3]; rfl) (by rw [hg3]; rfl) q⟩)⟩)
    · skip
      refine ev_icmpne 70 dX11_lesson_54 (fun hb2 => ?_) (fun h_no => (by exfalso; omega))
      have hin2 : g2.vl 88 = h.vl 88 := by rw [hg2]; exact (k1.vl (r := 88)).trans einp
      have hv2 : g2.vl 43 = h.vl 43 := by rw [hg2]; exact (k1.vl (r := 43)).trans (b0.1.vl)
      refine ev_aload_n dX11_lesson_70 rfl ?_
      refine ev_getrv dX11_lesson_71 fX11_13 hI2.o hI2.n rfl hI2.v_v ?_
      refine ev_iload_n dX11_lesson_74 rfl ?_
      refine ev_csi dX11_lesson_75 lX11_206 (s_lessonAt (by omega) (by omega)) (by decide) rfl rfl (Nat.le_of_ble_eq_true rfl) rfl (fun r7 z1 q => ?_)
      obtain ⟨rfl, e⟩ := q
      rw [e]
      rw [show (3 : Int) + 61 * (N : Int) = ((3 + 61 * N : Nat) : Int) from by omega]
      refine ev_iload_n dX11_lesson_78 rfl ?_
      refine ev_istr dX11_lesson_79 hI2.k_v hI2.n_v rfl (by omega) (by omega) ?_
      refine ev_iconst dX11_lesson_80 ?_
      refine ev_ist3 dX11_lesson_81 ?_
      have kw : KP g2 (g2.put 43 (3 + 61 * N) (n : Int)) [43] [] := KP.rf.pr (by decide) (by decide)
      refine lesson_loop (h0 := g2) (n := n) (N := N) hI2 (by omega) hn (fun g k ev i => ?_) 60 0 _ (by omega) kw (funext fun k => ?_)
      · have hIg : RI g := k.ri hI2
        have w0 : g.vl 43 0 = (N : Int) := by
          rw [ev]
          unfold leW
          rw [if_neg (by omega), if_neg (by omega)]
          exact hv0
        have w1 : g.vl 43 1 = h.vl 43 1 := by
          rw [ev]
          unfold leW
          rw [if_neg (by omega), if_neg (by omega), hv2]
        refine ev_aload_n dX11_lesson_122 rfl ?_
        refine ev_getrv dX11_lesson_123 fX11_13 hIg.o hIg.n rfl hIg.v_v ?_
        refine ev_iconst dX11_lesson_126 ?_
        refine ev_dup2 dX11_lesson_127 ?_
        refine ev_ildv dX11_lesson_128 hIg.k_v hIg.n_v rfl (by omega) (by omega) w0 ?_
        refine ev_iconst dX11_lesson_129 ?_
        refine ev_iadd dX11_lesson_130 (by unfold ir; omega) ?_
        refine ev_istr dX11_lesson_131 hIg.k_v hIg.n_v rfl (by omega) (by omega) ?_
        refine ev_aload_n dX11_lesson_132 rfl ?_
        refine ev_getrv dX11_lesson_133 fX11_13 hIg.o hIg.n rfl hIg.v_v ?_
        refine ev_iconst dX11_lesson_136 ?_
        refine ev_dup2 dX11_lesson_137 ?_
        refine ev_ildv dX11_lesson_138 hIg.k_v hIg.n_v rfl (by decide) (by decide) (show _ = h.vl 43 1 from (put_vlne (by omega)).trans w1) ?_
        refine ev_iconst dX11_lesson_139 ?_
        refine ev_iadd dX11_lesson_140 (by unfold ir; omega) ?_
        refine ev_istr dX11_lesson_141 hIg.k_v hIg.n_v rfl (by omega) (by omega) ?_
        refine ev_aload_n dX11_lesson_142 rfl ?_
        refine ev_iload_n dX11_lesson_143 rfl ?_
        refine ev_iconst dX11_lesson_144 ?_
        have k5 : KP g ((g.put 43 0 ((N : Int) + 1)).put 43 1 (h.vl 43 1 + 1)) [43] [] := (KP.rf.pr (by decide) (by decide)).pr (by decide) (by decide)
        have k6 : KP ((g0.put 42 9 (-1)).put 42 71 0) ((g.put 43 0 ((N : Int) + 1)).put 43 1 (h.vl 43 1 + 1)) (43 :: ANn) [34, 35, 36] := ((k1'.wk (by decide) (by decide)).tr (k.wk (by decide) (by decide))).tr (k5.wk (by decide) (by decide))
        have hI5 := k5.ri hIg
        refine ev_cvi dX11_lesson_145 lX11_359 (s_endsO hI5 ?_ ?_ hc8) (by decide) hIg.o hIg.n rfl rfl rfl (Nat.le_of_ble_eq_true rfl) rfl (fun r8 h1 q => ?_)
        · exact (k5.fl (j := 69)).trans ((k.fl).trans ((k1'.fl).trans b0.2.2.1))
        · exact (k5.fl (j := 2)).trans ((k.fl).trans ((k1'.fl).trans ((b0.1.fl (j := 2)).trans hc)))
        · obtain ⟨rfl, q⟩ := q
          refine ev_iret dX11_lesson_148 (⟨_, rfl, Or.inr (Or.inr ⟨rfl, by omega, rfl, chg_o hbg k6 (by decide) (by decide) (fun j _ => ?_) q⟩)⟩)
          show (if (43 : Nat) = 43 ∧ j = 1 then h.vl 43 1 + 1 else if (43 : Nat) = 43 ∧ j = 0 then (N : Int) + 1 else g.vl 43 j) = leV (h.vl 43) (h.vl 88) n N j
          unfold leV
          by_cases j0 : j = 0
          · rw [if_neg (by omega), if_pos ⟨rfl, j0⟩, if_pos j0]
          · rw [if_neg j0]
            by_cases j1 : j = 1
            · rw [if_pos ⟨rfl, j1⟩, if_pos j1]
            · rw [if_neg (fun z => j1 z.2), if_neg (fun z => j0 z.2), if_neg j1, ev, hv2, hin2]
      · rw [AH.put_vl]
        unfold leW
        by_cases e3 : k = 3 + 61 * N
        · rw [if_pos ⟨rfl, e3⟩, if_pos e3]
        · rw [if_neg (fun z => e3 z.2), if_neg e3, if_neg (by omega)]
  · skip
    refine ev_iflt 44 dX11_lesson_35 (fun h_no => (by exfalso; omega)) (fun hb => ?_)
    refine ev_aload_n dX11_lesson_38 rfl ?_
    refine ev_iconst dX11_lesson_39 ?_
    refine ev_cvi dX11_lesson_40 lX11_344 (s_no (kI.ri2 hI1)) (by decide) hI1.o hI1.n rfl rfl rfl (Nat.le_of_ble_eq_true rfl) rfl (fun r9 g3 q => ?_)
    obtain ⟨rfl, rfl⟩ := q
    exact ev_iret dX11_lesson_43 (⟨_, rfl, Or.inl ⟨by omega, hf, (kq.wk (by decide) (by decide)).pf (by decide), rfl⟩⟩)
