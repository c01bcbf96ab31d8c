/-! the class looks for a fault in a term -/
set_option maxRecDepth 100000 in
theorem s_atI {r N : Nat} {j : Int} {h : AH} (hk : h.kd r = (100, N)) (hn : r < h.n) (hN : N ≤ 100000) : CV mX10_at 1 [rv r, iv j] h (oi fun x h1 => x = (if 0 ≤ j ∧ j < (N : Int) then h.vl r j.toNat else -1) ∧ h1 = h) := by
  refine cv_of cdX10_at ?_
  show EV _ _ 0 [rv r, iv j] [] h _
  by_cases hj : 0 ≤ j ∧ j < (N : Int)
  · skip
    rw [if_pos hj]
    refine ev_iload_n dX10_at_0 rfl ?_
    refine ev_iflt 16 dX10_at_1 (fun h_no => (by exfalso; omega)) (fun hc => ?_)
    refine ev_iload_n dX10_at_4 rfl ?_
    refine ev_aload_n dX10_at_5 rfl ?_
    refine ev_al dX10_at_6 hk hn rfl (by decide) (by omega) ?_
    refine ev_icmpge 16 dX10_at_7 (fun h_no => (by exfalso; omega)) (fun hc2 => ?_)
    refine ev_aload_n dX10_at_10 rfl ?_
    refine ev_iload_n dX10_at_11 rfl ?_
    refine ev_ild dX10_at_12 hk hn rfl (by omega) (by omega) ?_
    refine ev_gt 17 dX10_at_13 ?_
    exact ev_iret dX10_at_17 (⟨_, rfl, rfl, rfl⟩)
  · skip
    rw [if_neg hj]
    refine ev_iload_n dX10_at_0 rfl ?_
    by_cases h0 : j < 0
    · skip
      refine ev_iflt 16 dX10_at_1 (fun hc => ?_) (fun h_no => (by exfalso; omega))
      refine ev_iconst dX10_at_16 ?_
      exact ev_iret dX10_at_17 (⟨_, rfl, rfl, rfl⟩)
    · skip
      refine ev_iflt 16 dX10_at_1 (fun h_no => (by exfalso; omega)) (fun hc => ?_)
      refine ev_iload_n dX10_at_4 rfl ?_
      refine ev_aload_n dX10_at_5 rfl ?_
      refine ev_al dX10_at_6 hk hn rfl (by decide) (by omega) ?_
      refine ev_icmpge 16 dX10_at_7 (fun hc2 => ?_) (fun h_no => (by exfalso; omega))
      refine ev_iconst dX10_at_16 ?_
      exact ev_iret dX10_at_17 (⟨_, rfl, rfl, rfl⟩)
set_option maxRecDepth 100000 in
theorem s_putI {r N : Nat} {j x : Int} {h : AH} (hk : h.kd r = (100, N)) (hn : r < h.n) (hN : N ≤ 100000) : CV mX10_put 1 [rv r, iv j, iv x] h (on fun h1 => h1 = (if 0 ≤ j ∧ j < (N : Int) then h.put r j.toNat x else h)) := by
  refine cv_of cdX10_put ?_
  show EV _ _ 0 [rv r, iv j, iv x] [] h _
  by_cases hj : 0 ≤ j ∧ j < (N : Int)
  · skip
    rw [if_pos hj]
    refine ev_iload_n dX10_put_0 rfl ?_
    refine ev_iflt 14 dX10_put_1 (fun h_no => (by exfalso; omega)) (fun hc => ?_)
    refine ev_iload_n dX10_put_4 rfl ?_
    refine ev_aload_n dX10_put_5 rfl ?_
    refine ev_al dX10_put_6 hk hn rfl (by decide) (by omega) ?_
    refine ev_icmpge 14 dX10_put_7 (fun h_no => (by exfalso; omega)) (fun hc2 => ?_)
    refine ev_aload_n dX10_put_10 rfl ?_
    refine ev_iload_n dX10_put_11 rfl ?_
    refine ev_iload_n dX10_put_12 rfl ?_
    refine ev_istr dX10_put_13 hk hn rfl (by omega) (by omega) ?_
    exact ev_vret dX10_put_14 (⟨rfl, rfl⟩)
  · skip
    rw [if_neg hj]
    refine ev_iload_n dX10_put_0 rfl ?_
    by_cases h0 : j < 0
    · skip
      refine ev_iflt 14 dX10_put_1 (fun hc => ?_) (fun h_no => (by exfalso; omega))
      exact ev_vret dX10_put_14 (⟨rfl, rfl⟩)
    · skip
      refine ev_iflt 14 dX10_put_1 (fun h_no => (by exfalso; omega)) (fun hc => ?_)
      refine ev_iload_n dX10_put_4 rfl ?_
      refine ev_aload_n dX10_put_5 rfl ?_
      refine ev_al dX10_put_6 hk hn rfl (by decide) (by omega) ?_
      refine ev_icmpge 14 dX10_put_7 (fun hc2 => ?_) (fun h_no => (by exfalso; omega))
      exact ev_vret dX10_put_14 (⟨rfl, rfl⟩)
set_option maxRecDepth 100000 in
theorem s_isLetter {c : Int} {h : AH} : CV mX10_isLetter 1 [iv c] h (oi fun r h1 => r = (if 97 ≤ c ∧ c ≤ 122 then 1 else 0) ∧ h1 = h) := by
  refine cv_of cdX10_isLetter ?_
  show EV _ _ 0 [iv c] [] h _
  refine ev_iload_n dX10_isLetter_0 rfl ?_
  refine ev_bipush dX10_isLetter_1 ?_
  refine ev_icmplt 16 dX10_isLetter_3 (fun hb0 => ?_) (fun hb0 => ?_)
  · refine ev_iconst dX10_isLetter_16 ?_
    refine ev_zret dX10_isLetter_17 (by (refine ⟨_, rfl, ?_, rfl⟩; (first | rw [if_pos (by omega)] | rw [if_neg (by omega)]))) (by omega)
  · refine ev_iload_n dX10_isLetter_6 rfl ?_
    refine ev_bipush dX10_isLetter_7 ?_
    refine ev_icmpgt 16 dX10_isLetter_9 (fun hb1 => ?_) (fun hb1 => ?_)
    · refine ev_iconst dX10_isLetter_16 ?_
      refine ev_zret dX10_isLetter_17 (by (refine ⟨_, rfl, ?_, rfl⟩; (first | rw [if_pos (by omega)] | rw [if_neg (by omega)]))) (by omega)
    · refine ev_iconst dX10_isLetter_12 ?_
      refine ev_gt 17 dX10_isLetter_13 ?_
      refine ev_zret dX10_isLetter_17 (by (refine ⟨_, rfl, ?_, rfl⟩; (first | rw [if_pos (by omega)] | rw [if_neg (by omega)]))) (by omega)
set_option maxRecDepth 100000 in
theorem s_isDigit {c : Int} {h : AH} : CV mX10_isDigit 1 [iv c] h (oi fun r h1 => r = (if 48 ≤ c ∧ c ≤ 57 then 1 else 0) ∧ h1 = h) := by
  refine cv_of cdX10_isDigit ?_
  show EV _ _ 0 [iv c] [] h _
  refine ev_iload_n dX10_isDigit_0 rfl ?_
  refine ev_bipush dX10_isDigit_1 ?_
  refine ev_icmplt 16 dX10_isDigit_3 (fun hb0 => ?_) (fun hb0 => ?_)
  · refine ev_iconst dX10_isDigit_16 ?_
    refine ev_zret dX10_isDigit_17 (by (refine ⟨_, rfl, ?_, rfl⟩; (first | rw [if_pos (by omega)] | rw [if_neg (by omega)]))) (by omega)
  · refine ev_iload_n dX10_isDigit_6 rfl ?_
    refine ev_bipush dX10_isDigit_7 ?_
    refine ev_icmpgt 16 dX10_isDigit_9 (fun hb1 => ?_) (fun hb1 => ?_)
    · refine ev_iconst dX10_isDigit_16 ?_
      refine ev_zret dX10_isDigit_17 (by (refine ⟨_, rfl, ?_, rfl⟩; (first | rw [if_pos (by omega)] | rw [if_neg (by omega)]))) (by omega)
    · refine ev_iconst dX10_isDigit_12 ?_
      refine ev_gt 17 dX10_isDigit_13 ?_
      refine ev_zret dX10_isDigit_17 (by (refine ⟨_, rfl, ?_, rfl⟩; (first | rw [if_pos (by omega)] | rw [if_neg (by omega)]))) (by omega)
set_option maxRecDepth 100000 in
theorem s_isCapS {c : Int} {h : AH} : CV mX10_isCapitalSign 1 [iv c] h (oi fun r h1 => r = (if 65 ≤ c ∧ c ≤ 72 then 1 else 0) ∧ h1 = h) := by
  refine cv_of cdX10_isCapitalSign ?_
  show EV _ _ 0 [iv c] [] h _
  refine ev_iload_n dX10_isCapitalSign_0 rfl ?_
  refine ev_bipush dX10_isCapitalSign_1 ?_
  refine ev_icmplt 16 dX10_isCapitalSign_3 (fun hb0 => ?_) (fun hb0 => ?_)
  · refine ev_iconst dX10_isCapitalSign_16 ?_
    refine ev_zret dX10_isCapitalSign_17 (by (refine ⟨_, rfl, ?_, rfl⟩; (first | rw [if_pos (by omega)] | rw [if_neg (by omega)]))) (by omega)
  · refine ev_iload_n dX10_isCapitalSign_6 rfl ?_
    refine ev_bipush dX10_isCapitalSign_7 ?_
    refine ev_icmpge 16 dX10_isCapitalSign_9 (fun hb1 => ?_) (fun hb1 => ?_)
    · refine ev_iconst dX10_isCapitalSign_16 ?_
      refine ev_zret dX10_isCapitalSign_17 (by (refine ⟨_, rfl, ?_, rfl⟩; (first | rw [if_pos (by omega)] | rw [if_neg (by omega)]))) (by omega)
    · refine ev_iconst dX10_isCapitalSign_12 ?_
      refine ev_gt 17 dX10_isCapitalSign_13 ?_
      refine ev_zret dX10_isCapitalSign_17 (by (refine ⟨_, rfl, ?_, rfl⟩; (first | rw [if_pos (by omega)] | rw [if_neg (by omega)]))) (by omega)
theorem if10 {p : Prop} [Decidable p] : (if p then (1 : Int) else 0) = 0 ↔ ¬ p := by
  by_cases h : p
  · rw [if_pos h]; exact ⟨fun z => absurd z (by decide), fun z => absurd h z⟩
  · rw [if_neg h]; exact ⟨fun _ => h, fun _ => rfl⟩
set_option maxRecDepth 100000 in
theorem s_kindOf {c : Int} {h : AH} : CV mX8_kindOf 2 [iv c] h (oi fun r h1 => r = lk c ∧ h1 = h) := by
  refine cv_of cdX8_kindOf ?_
  show EV _ _ 0 [iv c] [] h _
  unfold lk
  refine ev_iload_n dX8_kindOf_0 rfl ?_
  refine ev_csi dX8_kindOf_1 lX8_40 (s_isLetter) (by decide) rfl rfl (Nat.le_of_ble_eq_true rfl) rfl (fun r z1 q => ?_)
  obtain ⟨rfl, e⟩ := q
  rw [e]
  by_cases h1 : 97 ≤ c ∧ c ≤ 122
  · skip
    rw [if_pos h1, if_pos h1]
    refine ev_ifeq 11 dX8_kindOf_4 (fun h_no => (by exfalso; omega)) (fun hbr => ?_)
    refine ev_iconst dX8_kindOf_7 ?_
    refine ev_gt 56 dX8_kindOf_8 ?_
    exact ev_iret dX8_kindOf_56 (⟨_, rfl, rfl, rfl⟩)
  · skip
    rw [if_neg h1, if_neg h1]
    refine ev_ifeq 11 dX8_kindOf_4 (fun hbr => ?_) (fun h_no => (by exfalso; omega))
    refine ev_iload_n dX8_kindOf_11 rfl ?_
    refine ev_csi dX8_kindOf_12 lX8_62 (s_isCapS) (by decide) rfl rfl (Nat.le_of_ble_eq_true rfl) rfl (fun r z2 q => ?_)
    obtain ⟨rfl, e⟩ := q
    rw [e]
    by_cases h2 : 65 ≤ c ∧ c ≤ 72
    · skip
      rw [if_pos h2, if_pos h2]
      refine ev_ifeq 22 dX8_kindOf_15 (fun h_no => (by exfalso; omega)) (fun hbr => ?_)
      refine ev_iconst dX8_kindOf_18 ?_
      refine ev_gt 56 dX8_kindOf_19 ?_
      exact ev_iret dX8_kindOf_56 (⟨_, rfl, rfl, rfl⟩)
    · skip
      rw [if_neg h2, if_neg h2]
      refine ev_ifeq 22 dX8_kindOf_15 (fun hbr => ?_) (fun h_no => (by exfalso; omega))
      refine ev_iload_n dX8_kindOf_22 rfl ?_
      refine ev_csi dX8_kindOf_23 lX8_65 (s_isDigit) (by decide) rfl rfl (Nat.le_of_ble_eq_true rfl) rfl (fun r z3 q => ?_)
      obtain ⟨rfl, e⟩ := q
      rw [e]
      by_cases h3 : 48 ≤ c ∧ c ≤ 57
      · skip
        rw [if_pos h3, if_pos h3]
        refine ev_ifeq 33 dX8_kindOf_26 (fun h_no => (by exfalso; omega)) (fun hbr => ?_)
        refine ev_iconst dX8_kindOf_29 ?_
        refine ev_gt 56 dX8_kindOf_30 ?_
        exact ev_iret dX8_kindOf_56 (⟨_, rfl, rfl, rfl⟩)
      · skip
        rw [if_neg h3, if_neg h3]
        refine ev_ifeq 33 dX8_kindOf_26 (fun hbr => ?_) (fun h_no => (by exfalso; omega))
        refine ev_iload_n dX8_kindOf_33 rfl ?_
        refine ev_bipush dX8_kindOf_34 ?_
        refine ev_icmpeq 51 dX8_kindOf_36 (fun hb0 => ?_) (fun hb0 => ?_)
        · refine ev_iconst dX8_kindOf_51 ?_
          refine ev_gt 56 dX8_kindOf_52 ?_
          refine ev_iret dX8_kindOf_56 (by (refine ⟨_, rfl, ?_, rfl⟩; (first | rw [if_pos (by omega)] | rw [if_neg (by omega)])))
        · refine ev_iload_n dX8_kindOf_39 rfl ?_
          refine ev_bipush dX8_kindOf_40 ?_
          refine ev_icmpeq 51 dX8_kindOf_42 (fun hb1 => ?_) (fun hb1 => ?_)
          · refine ev_iconst dX8_kindOf_51 ?_
            refine ev_gt 56 dX8_kindOf_52 ?_
            refine ev_iret dX8_kindOf_56 (by (refine ⟨_, rfl, ?_, rfl⟩; (first | rw [if_pos (by omega)] | rw [if_neg (by omega)])))
          · refine ev_iload_n dX8_kindOf_45 rfl ?_
            refine ev_bipush dX8_kindOf_46 ?_
            refine ev_icmpne 55 dX8_kindOf_48 (fun hb2 => ?_) (fun hb2 => ?_)
            · refine ev_iconst dX8_kindOf_55 ?_
              refine ev_iret dX8_kindOf_56 (by (refine ⟨_, rfl, ?_, rfl⟩; (first | rw [if_pos (by omega)] | rw [if_neg (by omega)])))
            · refine ev_iconst dX8_kindOf_51 ?_
              refine ev_gt 56 dX8_kindOf_52 ?_
              refine ev_iret dX8_kindOf_56 (by (refine ⟨_, rfl, ?_, rfl⟩; (first | rw [if_pos (by omega)] | rw [if_neg (by omega)])))
/-- what is open, for the class -/
def OSt (h : AH) : List Int → Prop
  | [] => True
  | x :: s => h.vl 6 s.length = x ∧ OSt h s
def RdS (h : AH) (o : List Int) : Prop := CI h ∧ h.vl 5 1 = (o.length : Int) ∧ OSt h o ∧ o.length ≤ 60
theorem OSt.lo {h h1 : AH} : ∀ {o : List Int}, (∀ i, i < o.length → h1.vl 6 i = h.vl 6 i) → OSt h o → OSt h1 o
  | [], _, _ => trivial
  | x :: s, hk, ⟨a, b⟩ => ⟨(hk _ (Nat.lt_succ_self _)).trans a, OSt.lo (fun i hi => hk i (Nat.lt_succ_of_lt hi)) b⟩
set_option maxRecDepth 100000 in
theorem s_placeIn {x : Int} {o : List Int} {h : AH} (hR : RdS h o) (ho : o.length < 60) : CV mX8_placeInside 2 [rv 5, iv x] h (oi fun r h1 => r = 0 ∧ KS h h1 [6] [(5, 1)] ∧ RdS h1 (x :: o)) := by
  obtain ⟨hC, a1, a2, a3⟩ := hR
  refine cv_of cdX8_placeInside ?_
  show EV _ _ 0 [rv 5, iv x] [] h _
  refine ev_aload_n dX8_placeInside_0 rfl ?_
  refine ev_getrv dX8_placeInside_1 fX8_9 hC.k5 hC.n5 rfl hC.v5_0 ?_
  refine ev_aload_n dX8_placeInside_4 rfl ?_
  refine ev_getiv dX8_placeInside_5 fX8_18 hC.k5 hC.n5 rfl a1 ?_
  refine ev_iload_n dX8_placeInside_8 rfl ?_
  refine ev_csv dX8_placeInside_9 lX8_54 (s_putI hC.k6 hC.n6 (by decide)) (by decide) rfl rfl (Nat.le_of_ble_eq_true rfl) rfl (fun h1 q => ?_)
  rw [if_pos (by omega), show ((o.length : Nat) : Int).toNat = o.length from rfl] at q
  have k1 : KS h h1 [6] [(5, 1)] := by rw [q]; exact KS.rf.pa (by decide)
  have hC1 : CI h1 := hC.ks k1
  have b1 : h1.vl 5 1 = (o.length : Int) := by rw [q]; exact a1
  refine ev_aload_n dX8_placeInside_12 rfl ?_
  refine ev_dup dX8_placeInside_13 ?_
  refine ev_getiv dX8_placeInside_14 fX8_18 hC1.k5 hC1.n5 rfl b1 ?_
  refine ev_iconst dX8_placeInside_17 ?_
  refine ev_iadd dX8_placeInside_18 (by unfold ir; omega) ?_
  refine ev_pt dX8_placeInside_19 fX8_18 hC1.k5 hC1.n5 rfl ?_
  refine ev_iconst dX8_placeInside_22 ?_
  refine ev_iret dX8_placeInside_23 (⟨_, rfl, rfl, k1.pf (by decide), hC1.ks (A := [6]) (F := [(5, 1)]) (KS.rf.pf (by decide)), ?_, ⟨?_, ?_⟩, by simp only [List.length_cons]; omega⟩)
  · rw [AH.put_vl, if_pos ⟨rfl, rfl⟩]; rfl
  · rw [AH.put_vl, if_neg (by omega), q, AH.put_vl, if_pos ⟨rfl, rfl⟩]
  · refine OSt.lo (fun i hi => ?_) a2
    rw [AH.put_vl, if_neg (by omega), q, AH.put_vl, if_neg (by omega)]
set_option maxRecDepth 100000 in
theorem s_placeOut {x pl : Int} {o : List Int} {h : AH} (hR : RdS h o) (hx : x ≠ -1) : CV mX8_placeOutside 2 [rv 5, iv x, iv pl] h (oi fun r h1 => r = (pO o x pl).1 ∧ KS h h1 [6] [(5, 1)] ∧ RdS h1 (pO o x pl).2) := by
  obtain ⟨hC, a1, a2, a3⟩ := id hR
  refine cv_of cdX8_placeOutside ?_
  show EV _ _ 0 [rv 5, iv x, iv pl] [] h _
  refine ev_aload_n dX8_placeOutside_0 rfl ?_
  refine ev_getrv dX8_placeOutside_1 fX8_9 hC.k5 hC.n5 rfl hC.v5_0 ?_
  refine ev_aload_n dX8_placeOutside_4 rfl ?_
  refine ev_getiv dX8_placeOutside_5 fX8_18 hC.k5 hC.n5 rfl a1 ?_
  refine ev_iconst dX8_placeOutside_8 ?_
  refine ev_isub dX8_placeOutside_9 (by unfold ir; omega) ?_
  refine ev_csi dX8_placeOutside_10 lX8_58 (s_atI hC.k6 hC.n6 (by decide)) (by decide) rfl rfl (Nat.le_of_ble_eq_true rfl) rfl (fun r z1 q => ?_)
  obtain ⟨rfl, e⟩ := q
  rw [e]
  cases o with
  | nil =>
    rw [if_neg (by simp)]
    refine ev_iload_n dX8_placeOutside_13 rfl ?_
    refine ev_icmpeq 20 dX8_placeOutside_14 (fun h_no => (by exfalso; omega)) (fun hc => ?_)
    refine ev_bipush dX8_placeOutside_17 ?_
    exact ev_iret dX8_placeOutside_19 (⟨_, rfl, rfl, KS.rf, hR⟩)
  | cons y s =>
    obtain ⟨b1, b2⟩ := a2
    have hs : s.length < 60 := by simp only [List.length_cons] at a3; omega
    have a1' : h.vl 5 1 = (s.length : Int) + 1 := a1
    rw [if_pos (by simp only [List.length_cons]; omega), show (((y :: s).length : Nat) : Int) - 1 = (s.length : Int) from by simp only [List.length_cons]; omega, show ((s.length : Nat) : Int).toNat = s.length from rfl, b1]
    refine ev_iload_n dX8_placeOutside_13 rfl ?_
    by_cases hy : y = x
    · skip
      have ep : pO (y :: s) x pl = (pl, s) := by rw [pO, if_pos hy]
      rw [ep]
      refine ev_icmpeq 20 dX8_placeOutside_14 (fun hc => ?_) (fun h_no => (by exfalso; omega))
      refine ev_aload_n dX8_placeOutside_20 rfl ?_
      refine ev_dup dX8_placeOutside_21 ?_
      refine ev_getiv dX8_placeOutside_22 fX8_18 hC.k5 hC.n5 rfl a1' ?_
      refine ev_iconst dX8_placeOutside_25 ?_
      refine ev_isub dX8_placeOutside_26 (by unfold ir; omega) ?_
      refine ev_pt dX8_placeOutside_27 fX8_18 hC.k5 hC.n5 rfl ?_
      refine ev_iload_n dX8_placeOutside_30 rfl ?_
      refine ev_iret dX8_placeOutside_31 (⟨_, rfl, rfl, KS.rf.pf (by decide), hC.ks (A := [6]) (F := [(5, 1)]) (KS.rf.pf (by decide)), ?_, OSt.lo (fun i hi => by rw [AH.put_vl, if_neg (by omega)]) b2, by show s.length ≤ 60; omega⟩)
      rw [AH.put_vl, if_pos ⟨rfl, rfl⟩]
      show (s.length : Int) + 1 - 1 = (s.length : Int)
      omega
    · skip
      have ep : pO (y :: s) x pl = (6, y :: s) := by rw [pO, if_neg hy]
      rw [ep]
      refine ev_icmpeq 20 dX8_placeOutside_14 (fun h_no => (by exfalso; omega)) (fun hc => ?_)
      refine ev_bipush dX8_placeOutside_17 ?_
      exact ev_iret dX8_placeOutside_19 (⟨_, rfl, rfl, KS.rf, hR⟩)
set_option maxRecDepth 100000 in
theorem s_placePart {c : Int} {o : List Int} {h : AH} (hR : RdS h o) (ho : o.length < 60) : CV mX8_placeBehindPart 3 [rv 5, iv c] h (oi fun r h1 => r = (pP o c).1 ∧ KS h h1 [6] [(5, 1)] ∧ RdS h1 (pP o c).2) := by
  have hC := hR.1
  refine cv_of cdX8_placeBehindPart ?_
  show EV _ _ 0 [rv 5, iv c] [] h _
  refine ev_iload_n dX8_placeBehindPart_0 rfl ?_
  refine ev_bipush dX8_placeBehindPart_1 ?_
  by_cases c40 : c = 40
  · skip
    have ep : pP o c = (0, 40 :: o) := by rw [pP, if_pos c40]
    rw [ep]
    refine ev_icmpne 15 dX8_placeBehindPart_3 (fun h_no => (by exfalso; omega)) (fun hc => ?_)
    refine ev_aload_n dX8_placeBehindPart_6 rfl ?_
    refine ev_bipush dX8_placeBehindPart_7 ?_
    refine ev_cvi dX8_placeBehindPart_9 lX8_44 (s_placeIn hR ho) (by decide) hC.k5 hC.n5 rfl rfl rfl (Nat.le_of_ble_eq_true rfl) rfl (fun r h1 q => ?_)
    obtain ⟨rfl, q1, q2⟩ := q
    refine ev_gt 28 dX8_placeBehindPart_12 ?_
    exact ev_iret dX8_placeBehindPart_28 (⟨_, rfl, rfl, q1, q2⟩)
  · skip
    refine ev_icmpne 15 dX8_placeBehindPart_3 (fun hc => ?_) (fun h_no => (by exfalso; omega))
    refine ev_iload_n dX8_placeBehindPart_15 rfl ?_
    refine ev_csi dX8_placeBehindPart_16 lX8_51 (s_kindOf) (by decide) rfl rfl (Nat.le_of_ble_eq_true rfl) rfl (fun r z1 q => ?_)
    obtain ⟨rfl, e⟩ := q
    rw [e]
    by_cases hl : 0 ≤ lk c
    · skip
      have ep : pP o c = (5, o) := by rw [pP, if_neg c40, if_pos hl]
      rw [ep]
      refine ev_iflt 26 dX8_placeBehindPart_19 (fun h_no => (by exfalso; omega)) (fun hc2 => ?_)
      refine ev_iconst dX8_placeBehindPart_22 ?_
      refine ev_gt 28 dX8_placeBehindPart_23 ?_
      exact ev_iret dX8_placeBehindPart_28 (⟨_, rfl, rfl, KS.rf, hR⟩)
    · skip
      have ep : pP o c = (6, o) := by rw [pP, if_neg c40, if_neg hl]
      rw [ep]
      refine ev_iflt 26 dX8_placeBehindPart_19 (fun hc2 => ?_) (fun h_no => (by exfalso; omega))
      refine ev_bipush dX8_placeBehindPart_26 ?_
      exact ev_iret dX8_placeBehindPart_28 (⟨_, rfl, rfl, KS.rf, hR⟩)
