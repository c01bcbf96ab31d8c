/-! the class finds the first fault of a text of orders -/
def oB (pl c : Int) : Int :=
  if pl = 0 then (if c = 107 then 2 else if c = 117 then 3 else if c = 120 then 1 else 5)
  else if pl = 1 then (if 48 ≤ c ∧ c ≤ 57 then 4 else 5)
  else if pl = 2 then (if 48 ≤ c ∧ c ≤ 57 then 3 else 5)
  else if pl = 3 then (if 65 ≤ c ∧ c ≤ 72 then 4 else 5)
  else (if c = 59 then 0 else 5)
def oF (c : Nat → Int) (n : Nat) : Nat → Nat → Int → Int
  | 0, _, pl => if pl = 4 then -1 else (n : Int)
  | t + 1, i, pl => if oB pl (c i) = 5 then (i : Int) else oF c n t (i + 1) (oB pl (c i))
theorem oB_rng (pl c : Int) : 0 ≤ oB pl c ∧ oB pl c ≤ 5 := by
  unfold oB
  by_cases p0 : pl = 0
  · rw [if_pos p0]
    by_cases c1 : c = 107
    · rw [if_pos c1]; decide
    · rw [if_neg c1]
      by_cases c2 : c = 117
      · rw [if_pos c2]; decide
      · rw [if_neg c2]
        by_cases c3 : c = 120
        · rw [if_pos c3]; decide
        · rw [if_neg c3]; decide
  · rw [if_neg p0]
    by_cases p1 : pl = 1
    · rw [if_pos p1]
      by_cases c1 : 48 ≤ c ∧ c ≤ 57
      · rw [if_pos c1]; decide
      · rw [if_neg c1]; decide
    · rw [if_neg p1]
      by_cases p2 : pl = 2
      · rw [if_pos p2]
        by_cases c1 : 48 ≤ c ∧ c ≤ 57
        · rw [if_pos c1]; decide
        · rw [if_neg c1]; decide
      · rw [if_neg p2]
        by_cases p3 : pl = 3
        · rw [if_pos p3]
          by_cases c1 : 65 ≤ c ∧ c ≤ 72
          · rw [if_pos c1]; decide
          · rw [if_neg c1]; decide
        · rw [if_neg p3]
          by_cases c1 : c = 59
          · rw [if_pos c1]; decide
          · rw [if_neg c1]; decide
set_option maxRecDepth 100000 in
theorem s_oB {pl c : Int} {h : AH} (hp : 0 ≤ pl ∧ pl ≤ 4) : CV mX2_placeBehind 2 [iv pl, iv c] h (oi fun r h1 => r = oB pl c ∧ h1 = h) := by
  refine cv_of cdX2_placeBehind ?_
  show EV _ _ 0 [iv pl, iv c] [] h _
  unfold oB
  refine ev_iload_n dX2_placeBehind_0 rfl ?_
  by_cases p0 : pl = 0
  · skip
    subst p0
    refine ev_tsI 32 (31) dX2_placeBehind_1 (by decide) (by decide) rfl ?_
    rw [if_pos rfl]
    refine ev_iload_n dX2_placeBehind_32 rfl ?_
    refine ev_bipush dX2_placeBehind_33 ?_
    by_cases c107 : c = 107
    · skip
      rw [if_pos c107]
      refine ev_icmpne 42 dX2_placeBehind_35 (fun h_no => (by exfalso; omega)) (fun hc107 => ?_)
      refine ev_iconst dX2_placeBehind_38 ?_
      refine ev_gt 63 dX2_placeBehind_39 ?_
      exact ev_iret dX2_placeBehind_63 (⟨_, rfl, rfl, rfl⟩)
    · skip
      rw [if_neg c107]
      refine ev_icmpne 42 dX2_placeBehind_35 (fun hc107 => ?_) (fun h_no => (by exfalso; omega))
      refine ev_iload_n dX2_placeBehind_42 rfl ?_
      refine ev_bipush dX2_placeBehind_43 ?_
      by_cases c117 : c = 117
      · skip
        rw [if_pos c117]
        refine ev_icmpne 52 dX2_placeBehind_45 (fun h_no => (by exfalso; omega)) (fun hc117 => ?_)
        refine ev_iconst dX2_placeBehind_48 ?_
        refine ev_gt 63 dX2_placeBehind_49 ?_
        exact ev_iret dX2_placeBehind_63 (⟨_, rfl, rfl, rfl⟩)
      · skip
        rw [if_neg c117]
        refine ev_icmpne 52 dX2_placeBehind_45 (fun hc117 => ?_) (fun h_no => (by exfalso; omega))
        refine ev_iload_n dX2_placeBehind_52 rfl ?_
        refine ev_bipush dX2_placeBehind_53 ?_
        by_cases c120 : c = 120
        · skip
          rw [if_pos c120]
          refine ev_icmpne 62 dX2_placeBehind_55 (fun h_no => (by exfalso; omega)) (fun hc120 => ?_)
          refine ev_iconst dX2_placeBehind_58 ?_
          refine ev_gt 63 dX2_placeBehind_59 ?_
          exact ev_iret dX2_placeBehind_63 (⟨_, rfl, rfl, rfl⟩)
        · skip
          rw [if_neg c120]
          refine ev_icmpne 62 dX2_placeBehind_55 (fun hc120 => ?_) (fun h_no => (by exfalso; omega))
          refine ev_iconst dX2_placeBehind_62 ?_
          exact ev_iret dX2_placeBehind_63 (⟨_, rfl, rfl, rfl⟩)
  · skip
    by_cases p1 : pl = 1
    · skip
      subst p1
      refine ev_tsI 64 (63) dX2_placeBehind_1 (by decide) (by decide) rfl ?_
      rw [if_neg (by decide), if_pos rfl]
      refine ev_iload_n dX2_placeBehind_64 rfl ?_
      refine ev_csi dX2_placeBehind_65 lX2_23 (s_isDigit) (by decide) rfl rfl (Nat.le_of_ble_eq_true rfl) rfl (fun r z1 q => ?_)
      obtain ⟨rfl, e⟩ := q
      rw [e]
      by_cases cl : 48 ≤ c ∧ c ≤ 57
      · skip
        rw [if_pos cl, if_pos cl]
        refine ev_ifeq 75 dX2_placeBehind_68 (fun h_no => (by exfalso; omega)) (fun hbr => ?_)
        refine ev_iconst dX2_placeBehind_71 ?_
        refine ev_gt 76 dX2_placeBehind_72 ?_
        exact ev_iret dX2_placeBehind_76 (⟨_, rfl, rfl, rfl⟩)
      · skip
        rw [if_neg cl, if_neg cl]
        refine ev_ifeq 75 dX2_placeBehind_68 (fun hbr => ?_) (fun h_no => (by exfalso; omega))
        refine ev_iconst dX2_placeBehind_75 ?_
        exact ev_iret dX2_placeBehind_76 (⟨_, rfl, rfl, rfl⟩)
    · skip
      by_cases p2 : pl = 2
      · skip
        subst p2
        refine ev_tsI 77 (76) dX2_placeBehind_1 (by decide) (by decide) rfl ?_
        rw [if_neg (by decide), if_neg (by decide), if_pos rfl]
        refine ev_iload_n dX2_placeBehind_77 rfl ?_
        refine ev_csi dX2_placeBehind_78 lX2_23 (s_isDigit) (by decide) rfl rfl (Nat.le_of_ble_eq_true rfl) rfl (fun r z1 q => ?_)
        obtain ⟨rfl, e⟩ := q
        rw [e]
        by_cases cl : 48 ≤ c ∧ c ≤ 57
        · skip
          rw [if_pos cl, if_pos cl]
          refine ev_ifeq 88 dX2_placeBehind_81 (fun h_no => (by exfalso; omega)) (fun hbr => ?_)
          refine ev_iconst dX2_placeBehind_84 ?_
          refine ev_gt 89 dX2_placeBehind_85 ?_
          exact ev_iret dX2_placeBehind_89 (⟨_, rfl, rfl, rfl⟩)
        · skip
          rw [if_neg cl, if_neg cl]
          refine ev_ifeq 88 dX2_placeBehind_81 (fun hbr => ?_) (fun h_no => (by exfalso; omega))
          refine ev_iconst dX2_placeBehind_88 ?_
          exact ev_iret dX2_placeBehind_89 (⟨_, rfl, rfl, rfl⟩)
      · skip
        by_cases p3 : pl = 3
        · skip
          subst p3
          refine ev_tsI 90 (89) dX2_placeBehind_1 (by decide) (by decide) rfl ?_
          rw [if_neg (by decide), if_neg (by decide), if_neg (by decide), if_pos rfl]
          refine ev_iload_n dX2_placeBehind_90 rfl ?_
          refine ev_csi dX2_placeBehind_91 lX2_29 (s_isCapS) (by decide) rfl rfl (Nat.le_of_ble_eq_true rfl) rfl (fun r z1 q => ?_)
          obtain ⟨rfl, e⟩ := q
          rw [e]
          by_cases cl : 65 ≤ c ∧ c ≤ 72
          · skip
            rw [if_pos cl, if_pos cl]
            refine ev_ifeq 101 dX2_placeBehind_94 (fun h_no => (by exfalso; omega)) (fun hbr => ?_)
            refine ev_iconst dX2_placeBehind_97 ?_
            refine ev_gt 102 dX2_placeBehind_98 ?_
            exact ev_iret dX2_placeBehind_102 (⟨_, rfl, rfl, rfl⟩)
          · skip
            rw [if_neg cl, if_neg cl]
            refine ev_ifeq 101 dX2_placeBehind_94 (fun hbr => ?_) (fun h_no => (by exfalso; omega))
            refine ev_iconst dX2_placeBehind_101 ?_
            exact ev_iret dX2_placeBehind_102 (⟨_, rfl, rfl, rfl⟩)
        · skip
          have p4 : pl = 4 := by omega
          subst p4
          refine ev_tsO 103 dX2_placeBehind_1 (by decide) ?_
          rw [if_neg (by decide), if_neg (by decide), if_neg (by decide), if_neg (by decide)]
          refine ev_iload_n dX2_placeBehind_103 rfl ?_
          refine ev_bipush dX2_placeBehind_104 ?_
          by_cases cl : c = 59
          · skip
            rw [if_pos cl]
            refine ev_icmpne 113 dX2_placeBehind_106 (fun h_no => (by exfalso; omega)) (fun hc => ?_)
            refine ev_iconst dX2_placeBehind_109 ?_
            refine ev_gt 114 dX2_placeBehind_110 ?_
            exact ev_iret dX2_placeBehind_114 (⟨_, rfl, rfl, rfl⟩)
          · skip
            rw [if_neg cl]
            refine ev_icmpne 113 dX2_placeBehind_106 (fun hc => ?_) (fun h_no => (by exfalso; omega))
            refine ev_iconst dX2_placeBehind_113 ?_
            exact ev_iret dX2_placeBehind_114 (⟨_, rfl, rfl, rfl⟩)
set_option maxRecDepth 100000 in
theorem ord_loop {c : Nat → Int} {n : Nat} {h : AH} (hC : CI h) (hT : TXs h c n) : ∀ (t i : Nat) (pl : Int), i + t = n → (0 ≤ pl ∧ pl ≤ 4) → EV mX2_faultIn 6 4 [rv 1, iv pl, iv (i : Int)] [] h (oi fun r h1 => r = oF c n t i pl ∧ h1 = h) := by
  obtain ⟨⟨bb, N, hbb, hs, hv⟩, hn, hc⟩ := id hT
  intro t
  induction t with
  | zero =>
    intro i pl hi hp
    refine ev_iload_n dX2_faultIn_4 rfl ?_
    refine ev_aload_n dX2_faultIn_5 rfl ?_
    refine ev_cvi dX2_faultIn_6 lX2_9 (s_J4len hs) (by decide) hC.k1 hC.n1 rfl rfl rfl (Nat.le_of_ble_eq_true rfl) rfl (fun r z1 q => ?_)
    obtain ⟨rfl, e⟩ := q
    rw [e]
    refine ev_icmpge 35 dX2_faultIn_9 (fun hc1 => ?_) (fun h_no => (by exfalso; omega))
    refine ev_iload_n dX2_faultIn_35 rfl ?_
    refine ev_iconst dX2_faultIn_36 ?_
    rw [oF]
    by_cases p4 : pl = 4
    · skip
      rw [if_pos p4]
      refine ev_icmpne 44 dX2_faultIn_37 (fun h_no => (by exfalso; omega)) (fun hc2 => ?_)
      refine ev_iconst dX2_faultIn_40 ?_
      refine ev_gt 48 dX2_faultIn_41 ?_
      exact ev_iret dX2_faultIn_48 (⟨_, rfl, rfl, rfl⟩)
    · skip
      rw [if_neg p4]
      refine ev_icmpne 44 dX2_faultIn_37 (fun hc2 => ?_) (fun h_no => (by exfalso; omega))
      refine ev_aload_n dX2_faultIn_44 rfl ?_
      refine ev_cvi dX2_faultIn_45 lX2_9 (s_J4len hs) (by decide) hC.k1 hC.n1 rfl rfl rfl (Nat.le_of_ble_eq_true rfl) rfl (fun r z1 q => ?_)
      obtain ⟨rfl, e⟩ := q
      rw [e]
      exact ev_iret dX2_faultIn_48 (⟨_, rfl, rfl, rfl⟩)
  | succ t ih =>
    intro i pl hi hp
    have g1 := hv i (by omega)
    obtain ⟨g2, g3⟩ := hc i (by omega)
    have e2 : ((i : Nat) : Int).toNat = i := rfl
    refine ev_iload_n dX2_faultIn_4 rfl ?_
    refine ev_aload_n dX2_faultIn_5 rfl ?_
    refine ev_cvi dX2_faultIn_6 lX2_9 (s_J4len hs) (by decide) hC.k1 hC.n1 rfl rfl rfl (Nat.le_of_ble_eq_true rfl) rfl (fun r z1 q => ?_)
    obtain ⟨rfl, e⟩ := q
    rw [e]
    refine ev_icmpge 35 dX2_faultIn_9 (fun h_no => (by exfalso; omega)) (fun hc1 => ?_)
    refine ev_iload_n dX2_faultIn_12 rfl ?_
    refine ev_aload_n dX2_faultIn_13 rfl ?_
    refine ev_iload_n dX2_faultIn_14 rfl ?_
    refine ev_cvi dX2_faultIn_15 lX2_15 (s_charAt hs (by omega) (by omega) (by rw [e2, g1]; exact g2) (by rw [e2, g1]; exact g3)) (by decide) hC.k1 hC.n1 rfl rfl rfl (Nat.le_of_ble_eq_true rfl) rfl (fun r z1 q => ?_)
    obtain ⟨rfl, e⟩ := q
    rw [e, e2, g1]
    refine ev_csi dX2_faultIn_18 lX2_19 (s_oB hp) (by decide) rfl rfl (Nat.le_of_ble_eq_true rfl) rfl (fun r z2 q => ?_)
    obtain ⟨rfl, e⟩ := q
    rw [e]
    refine ev_ist1 dX2_faultIn_21 ?_
    refine ev_iload_n dX2_faultIn_22 rfl ?_
    refine ev_iconst dX2_faultIn_23 ?_
    rw [oF]
    by_cases h5 : oB pl (c i) = 5
    · skip
      rw [if_pos h5]
      refine ev_icmpne 29 dX2_faultIn_24 (fun h_no => (by exfalso; omega)) (fun hc2 => ?_)
      refine ev_iload_n dX2_faultIn_27 rfl ?_
      exact ev_iret dX2_faultIn_28 (⟨_, rfl, rfl, rfl⟩)
    · skip
      rw [if_neg h5]
      refine ev_icmpne 29 dX2_faultIn_24 (fun hc2 => ?_) (fun h_no => (by exfalso; omega))
      refine ev_iin2 dX2_faultIn_29 (by unfold ir; omega) ?_
      refine ev_gt 4 dX2_faultIn_32 ?_
      have r1 := oB_rng pl (c i)
      rw [show (i : Int) + 1 = ((i + 1 : Nat) : Int) from rfl]
      exact ih (i + 1) _ (by omega) (by omega)
set_option maxRecDepth 100000 in
theorem s_ordFault {c : Nat → Int} {n : Nat} {h : AH} (hC : CI h) (hT : TXs h c n) : CV mX2_faultIn 6 [rv 1] h (oi fun r h1 => r = oF c n n 0 0 ∧ h1 = h) := by
  refine cv_of cdX2_faultIn ?_
  show EV _ _ 0 [rv 1, uv, uv] [] h _
  refine ev_iconst dX2_faultIn_0 ?_
  refine ev_ist1 dX2_faultIn_1 ?_
  refine ev_iconst dX2_faultIn_2 ?_
  refine ev_ist2 dX2_faultIn_3 ?_
  exact ord_loop hC hT n 0 0 (by omega) (by decide)
