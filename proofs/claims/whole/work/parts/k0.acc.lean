/-! the class: ranked; accounts -/
section Acc
variable {h : AH} {a K : Nat → Nat} {N : Nat} {tc : Nat → Nat} {LL : Nat → List Nd} {kp : Nat → Option TE} {p w : Int}
set_option maxRecDepth 100000 in
theorem s_nodesOfC (hS : SNw h N tc LL) {l : Nat} (hl : l < N) : CV mX6_nodesOf 3 [rv 31, iv (l : Int)] h (oi fun r h1 => r = ((LL l).length : Int) ∧ h1 = h) := by
  have hC := hS.1
  obtain ⟨⟨ka, na⟩, hcnt⟩ := ((hS.2.2.2 l hl).2).t.o
  refine cv_of cdX6_nodesOf ?_
  show EV _ _ 0 [rv 31, iv (l : Int), uv] [] h _
  refine ev_aload_n dX6_nodesOf_0 rfl ?_
  refine ev_iload_n dX6_nodesOf_1 rfl ?_
  refine ev_cvr dX6_nodesOf_2 lX6_23 (s_termAt hC.st31) (by decide) hC.k31 hC.n31 rfl rfl rfl (Nat.le_of_ble_eq_true rfl) rfl (fun r h1 q9 => ?_)
  obtain ⟨er, e⟩ := q9
  rw [e, er, hS.tm (p := (l : Int)) (by omega), show ((l : Nat) : Int).toNat = l from rfl]
  refine ev_ast2 dX6_nodesOf_5 ?_
  refine ev_aload_n dX6_nodesOf_6 rfl ?_
  refine ev_ifnonnull 14 dX6_nodesOf_7 (fun hb => ?_) (fun h_no => (by exfalso; omega))
  refine ev_aload_n dX6_nodesOf_14 rfl ?_
  refine ev_getiv dX6_nodesOf_15 fX6_47 ka na rfl hcnt ?_
  exact ev_iret dX6_nodesOf_18 (⟨_, rfl, rfl, rfl⟩)
theorem ahd_st {l k : Nat} : ahd LL l (k + 1) = ahd LL l k + (if (LL l).length < (LL k).length ∨ ((LL k).length = (LL l).length ∧ k < l) then 1 else 0) := by
  rw [ahd]
  congr 1
  by_cases c : (LL l).length < (LL k).length ∨ ((LL k).length = (LL l).length ∧ k < l)
  · rw [if_pos c, if_pos ⟨fun z => by rw [z] at c; omega, c⟩]
  · rw [if_neg c, if_neg (fun z => c z.2)]
set_option maxRecDepth 100000 in
theorem plo_loop (hS : SNw h N tc LL) {l : Nat} (hl : l < N) : ∀ (m k : Nat), k + m = N → EV mX6_placeOf 4 4 [rv 31, iv (l : Int), iv (ahd LL l k : Int), iv (k : Int)] [] h (oi fun r h1 => r = (ahd LL l N : Int) ∧ h1 = h)
  | 0, k, hk => by
    obtain rfl : k = N := by omega
    have hC := hS.1
    have hN := hS.2.1
    refine ev_iload_n dX6_placeOf_4 rfl ?_
    refine ev_aload_n dX6_placeOf_5 rfl ?_
    refine ev_getiv dX6_placeOf_6 fX6_31 hC.k31 hC.n31 rfl hN ?_
    refine ev_icmpge 52 dX6_placeOf_9 (fun hb => ?_) (fun h_no => (by exfalso; omega))
    refine ev_iload_n dX6_placeOf_52 rfl ?_
    exact ev_iret dX6_placeOf_53 (⟨_, rfl, rfl, rfl⟩)
  | m + 1, k, hk => by
    have hC := hS.1
    have hN := hS.2.1
    have h6 := hS.2.2.1
    have a9 := ahd_le (LL := LL) (l := l) k
    have as := ahd_st (LL := LL) (l := l) (k := k)
    have nx : ∀ (x : Nat), x = ahd LL l (k + 1) → EV mX6_placeOf 4 46 [rv 31, iv (l : Int), iv (x : Int), iv (k : Int)] [] h (oi fun r h1 => r = (ahd LL l N : Int) ∧ h1 = h) := by
      intro x hx
      refine ev_iin3 dX6_placeOf_46 (by unfold ir; omega) ?_
      refine ev_gt 4 dX6_placeOf_49 ?_
      rw [show (k : Int) + 1 = ((k + 1 : Nat) : Int) by omega, hx]
      exact plo_loop hS hl m (k + 1) (by omega)
    have up : ahd LL l (k + 1) = ahd LL l k + 1 → EV mX6_placeOf 4 43 [rv 31, iv (l : Int), iv (ahd LL l k : Int), iv (k : Int)] [] h (oi fun r h1 => r = (ahd LL l N : Int) ∧ h1 = h) := by
      intro e
      refine ev_iin2 dX6_placeOf_43 (by unfold ir; omega) ?_
      rw [show (ahd LL l k : Int) + 1 = ((ahd LL l k + 1 : Nat) : Int) by omega]
      exact nx _ e.symm
    refine ev_iload_n dX6_placeOf_4 rfl ?_
    refine ev_aload_n dX6_placeOf_5 rfl ?_
    refine ev_getiv dX6_placeOf_6 fX6_31 hC.k31 hC.n31 rfl hN ?_
    refine ev_icmpge 52 dX6_placeOf_9 (fun h_no => (by exfalso; omega)) (fun hb => ?_)
    refine ev_aload_n dX6_placeOf_12 rfl ?_
    refine ev_iload_n dX6_placeOf_13 rfl ?_
    refine ev_cvi dX6_placeOf_14 lX6_48 (s_nodesOfC hS (l := k) (by omega)) (by decide) hC.k31 hC.n31 rfl rfl rfl (Nat.le_of_ble_eq_true rfl) rfl (fun r z q => ?_)
    obtain ⟨r1, e⟩ := q
    rw [e]
    refine ev_aload_n dX6_placeOf_17 rfl ?_
    refine ev_iload_n dX6_placeOf_18 rfl ?_
    refine ev_cvi dX6_placeOf_19 lX6_48 (s_nodesOfC hS hl) (by decide) hC.k31 hC.n31 rfl rfl rfl (Nat.le_of_ble_eq_true rfl) rfl (fun r' z q => ?_)
    obtain ⟨r2, e⟩ := q
    rw [e]
    by_cases c : (LL l).length < (LL k).length
    · skip
      rw [if_pos (Or.inl c)] at as
      refine ev_icmpgt 43 dX6_placeOf_22 (fun hb2 => ?_) (fun h_no => (by exfalso; omega))
      exact up as
    refine ev_icmpgt 43 dX6_placeOf_22 (fun h_no => (by exfalso; omega)) (fun hb2 => ?_)
    refine ev_aload_n dX6_placeOf_25 rfl ?_
    refine ev_iload_n dX6_placeOf_26 rfl ?_
    refine ev_cvi dX6_placeOf_27 lX6_48 (s_nodesOfC hS (l := k) (by omega)) (by decide) hC.k31 hC.n31 rfl rfl rfl (Nat.le_of_ble_eq_true rfl) rfl (fun r3 z q => ?_)
    obtain ⟨r3', e⟩ := q
    rw [e]
    refine ev_aload_n dX6_placeOf_30 rfl ?_
    refine ev_iload_n dX6_placeOf_31 rfl ?_
    refine ev_cvi dX6_placeOf_32 lX6_48 (s_nodesOfC hS hl) (by decide) hC.k31 hC.n31 rfl rfl rfl (Nat.le_of_ble_eq_true rfl) rfl (fun r4 z q => ?_)
    obtain ⟨r4', e⟩ := q
    rw [e]
    by_cases d : (LL k).length = (LL l).length
    · skip
      refine ev_icmpne 46 dX6_placeOf_35 (fun h_no => (by exfalso; omega)) (fun hb3 => ?_)
      refine ev_iload_n dX6_placeOf_38 rfl ?_
      refine ev_iload_n dX6_placeOf_39 rfl ?_
      by_cases f : k < l
      · skip
        rw [if_pos (Or.inr ⟨d, f⟩)] at as
        refine ev_icmpge 46 dX6_placeOf_40 (fun h_no => (by exfalso; omega)) (fun hb4 => ?_)
        exact up as
      rw [if_neg (by omega)] at as
      refine ev_icmpge 46 dX6_placeOf_40 (fun hb4 => ?_) (fun h_no => (by exfalso; omega))
      exact nx _ as.symm
    rw [if_neg (by omega)] at as
    refine ev_icmpne 46 dX6_placeOf_35 (fun hb3 => ?_) (fun h_no => (by exfalso; omega))
    exact nx _ as.symm
set_option maxRecDepth 100000 in
theorem s_placeOf (hS : SNw h N tc LL) {l : Nat} (hl : l < N) : CV mX6_placeOf 4 [rv 31, iv (l : Int)] h (oi fun r h1 => r = (ahd LL l N : Int) ∧ h1 = h) := by
  refine cv_of cdX6_placeOf ?_
  show EV _ _ 0 [rv 31, iv (l : Int), uv, uv] [] h _
  refine ev_iconst dX6_placeOf_0 ?_
  refine ev_ist2 dX6_placeOf_1 ?_
  refine ev_iconst dX6_placeOf_2 ?_
  refine ev_ist3 dX6_placeOf_3 ?_
  exact plo_loop hS hl N 0 (Nat.zero_add _)
set_option maxRecDepth 100000 in
theorem ra_loop (hS : SNw h N tc LL) : ∀ (m l : Nat), l + m = N → (∀ x, x = rkF LL N p m l → EV mX10_ranked 5 2 [rv 0, iv p, iv (l : Int)] [] h (fun oo h1 => (x = -1 ∧ oo = xv 3 ∧ h1 = h.thr) ∨ (x ≠ -1 ∧ oo = iv x ∧ h1 = h)))
  | 0, l, hl, x, hx => by
    obtain rfl : l = N := by omega
    have hC := hS.1
    have hN := hS.2.1
    rw [rkF] at hx
    refine ev_iload_n dX10_ranked_2 rfl ?_
    refine ev_aload_n dX10_ranked_3 rfl ?_
    refine ev_getrv dX10_ranked_4 fX10_48 hC.k0 hC.n0 rfl hC.v0_6 ?_
    refine ev_getiv dX10_ranked_7 fX10_83 hC.k31 hC.n31 rfl hN ?_
    refine ev_icmpge 33 dX10_ranked_10 (fun hb => ?_) (fun h_no => (by exfalso; omega))
    exact ev_throwx _ tk_3 (List.mem_of_getElem? (i := 14) rfl) dX10_ranked_33 dX10_ranked_36 dX10_ranked_37 dX10_ranked_39 dX10_ranked_42 rfl (Nat.le_of_ble_eq_true rfl) (Or.inl ⟨hx, rfl, rfl⟩)
  | m + 1, l, hl, x, hx => by
    have hC := hS.1
    have hN := hS.2.1
    have h6 := hS.2.2.1
    rw [rkF] at hx
    refine ev_iload_n dX10_ranked_2 rfl ?_
    refine ev_aload_n dX10_ranked_3 rfl ?_
    refine ev_getrv dX10_ranked_4 fX10_48 hC.k0 hC.n0 rfl hC.v0_6 ?_
    refine ev_getiv dX10_ranked_7 fX10_83 hC.k31 hC.n31 rfl hN ?_
    refine ev_icmpge 33 dX10_ranked_10 (fun h_no => (by exfalso; omega)) (fun hb => ?_)
    refine ev_aload_n dX10_ranked_13 rfl ?_
    refine ev_getrv dX10_ranked_14 fX10_48 hC.k0 hC.n0 rfl hC.v0_6 ?_
    refine ev_iload_n dX10_ranked_17 rfl ?_
    refine ev_cvi dX10_ranked_18 lX10_229 (s_placeOf hS (l := l) (by omega)) (by decide) hC.k31 hC.n31 rfl rfl rfl (Nat.le_of_ble_eq_true rfl) rfl (fun r z q => ?_)
    obtain ⟨rfl, e⟩ := q
    rw [e]
    refine ev_iload_n dX10_ranked_21 rfl ?_
    by_cases c : (ahd LL l N : Int) = p
    · skip
      rw [if_pos c] at hx
      refine ev_icmpne 27 dX10_ranked_22 (fun h_no => (by exfalso; omega)) (fun hb2 => ?_)
      refine ev_iload_n dX10_ranked_25 rfl ?_
      exact ev_iret dX10_ranked_26 (Or.inr ⟨by omega, by rw [hx], rfl⟩)
    rw [if_neg c] at hx
    refine ev_icmpne 27 dX10_ranked_22 (fun hb2 => ?_) (fun h_no => (by exfalso; omega))
    refine ev_iin2 dX10_ranked_27 (by unfold ir; omega) ?_
    refine ev_gt 2 dX10_ranked_30 ?_
    rw [show (l : Int) + 1 = ((l + 1 : Nat) : Int) by omega]
    exact ra_loop hS m (l + 1) (by omega) x hx
set_option maxRecDepth 100000 in
theorem g_ranked (hS : SNw h N tc LL) : CV mX10_ranked 5 [rv 0, iv p] h (fun oo h1 => (rkF LL N p N 0 = -1 ∧ oo = xv 3 ∧ h1 = h.thr) ∨ (rkF LL N p N 0 ≠ -1 ∧ oo = iv (rkF LL N p N 0) ∧ h1 = h)) := by
  refine cv_of cdX10_ranked ?_
  show EV _ _ 0 [rv 0, iv p, uv] [] h _
  refine ev_iconst dX10_ranked_0 ?_
  refine ev_ist2 dX10_ranked_1 ?_
  exact ra_loop hS N 0 (Nat.zero_add _) _ rfl
theorem sumL_le : ∀ k, (∀ l, l < k → (LL l).length ≤ 120) → sumL LL k ≤ 120 * k
  | 0, _ => Nat.le_refl _
  | k + 1, h => by
    have := sumL_le k (fun l hl => h l (by omega))
    have := h k (by omega)
    rw [sumL]
    omega
set_option maxRecDepth 100000 in
theorem an_loop (hS : SNw h N tc LL) (hb9 : ∀ l, l < N → (LL l).length ≤ 120) : ∀ (m l : Nat), l + m = N → EV mX6_allNodes 4 4 [rv 31, iv (sumL LL l : Int), iv (l : Int)] [] h (oi fun r h1 => r = (sumL LL N : Int) ∧ h1 = h)
  | 0, l, hl => by
    obtain rfl : l = N := by omega
    have hC := hS.1
    have hN := hS.2.1
    refine ev_iload_n dX6_allNodes_4 rfl ?_
    refine ev_aload_n dX6_allNodes_5 rfl ?_
    refine ev_getiv dX6_allNodes_6 fX6_31 hC.k31 hC.n31 rfl hN ?_
    refine ev_icmpge 26 dX6_allNodes_9 (fun hb => ?_) (fun h_no => (by exfalso; omega))
    refine ev_iload_n dX6_allNodes_26 rfl ?_
    exact ev_iret dX6_allNodes_27 (⟨_, rfl, rfl, rfl⟩)
  | m + 1, l, hl => by
    have hC := hS.1
    have hN := hS.2.1
    have h6 := hS.2.2.1
    have b1 := sumL_le (LL := LL) l (fun k hk => hb9 k (by omega))
    have b2 := hb9 l (by omega)
    refine ev_iload_n dX6_allNodes_4 rfl ?_
    refine ev_aload_n dX6_allNodes_5 rfl ?_
    refine ev_getiv dX6_allNodes_6 fX6_31 hC.k31 hC.n31 rfl hN ?_
    refine ev_icmpge 26 dX6_allNodes_9 (fun h_no => (by exfalso; omega)) (fun hb => ?_)
    refine ev_iload_n dX6_allNodes_12 rfl ?_
    refine ev_aload_n dX6_allNodes_13 rfl ?_
    refine ev_iload_n dX6_allNodes_14 rfl ?_
    refine ev_cvi dX6_allNodes_15 lX6_48 (s_nodesOfC hS (l := l) (by omega)) (by decide) hC.k31 hC.n31 rfl rfl rfl (Nat.le_of_ble_eq_true rfl) rfl (fun r z q => ?_)
    obtain ⟨rfl, e⟩ := q
    rw [e]
    refine ev_iadd dX6_allNodes_18 (by unfold ir; omega) ?_
    refine ev_ist1 dX6_allNodes_19 ?_
    refine ev_iin2 dX6_allNodes_20 (by unfold ir; omega) ?_
    refine ev_gt 4 dX6_allNodes_23 ?_
    rw [show (sumL LL l : Int) + ((LL l).length : Int) = (sumL LL (l + 1) : Int) by rw [sumL]; omega, show (l : Int) + 1 = ((l + 1 : Nat) : Int) by omega]
    exact an_loop hS hb9 m (l + 1) (by omega)
set_option maxRecDepth 100000 in
theorem s_allNodesC (hS : SNw h N tc LL) (hb9 : ∀ l, l < N → (LL l).length ≤ 120) : CV mX6_allNodes 4 [rv 31] h (oi fun r h1 => r = (sumL LL N : Int) ∧ h1 = h) := by
  refine cv_of cdX6_allNodes ?_
  show EV _ _ 0 [rv 31, uv, uv] [] h _
  refine ev_iconst dX6_allNodes_0 ?_
  refine ev_ist1 dX6_allNodes_1 ?_
  refine ev_iconst dX6_allNodes_2 ?_
  refine ev_ist2 dX6_allNodes_3 ?_
  exact an_loop hS hb9 N 0 (Nat.zero_add _)
/-- how many of the first capitals keep a type -/
def kcN (kp : Nat → Option TE) : Nat → Nat
  | 0 => 0
  | k + 1 => kcN kp k + (if kp k = none then 0 else 1)
theorem kcN_le : ∀ k, kcN kp k ≤ k
  | 0 => Nat.le_refl _
  | k + 1 => by
    have := kcN_le k
    rw [kcN]
    split <;> omega
theorem kcN_v {v : Nat → Int} (hK : KpV v kp) : ∀ k, k ≤ 8 → kpN v k = kcN kp k
  | 0, _ => rfl
  | k + 1, hk => by
    rw [kpN, kcN, kcN_v hK k (by omega)]
    rcases hK k (by omega) with ⟨b1, b2⟩ | ⟨R, b1, b2, -⟩
    · rw [if_neg (by omega), if_pos b1]
    · have := sz_pos R
      rw [if_pos (by omega), b1, if_neg (fun z => nomatch z)]
theorem KpP.n (k : KpP h a 33 kp) {c : Nat} (hc : c < 8) : (kpAt h 33 (c : Int) < 0 ↔ kp c = none) ∧ (kpAt h 33 (c : Int) < 0 → kpAt h 33 (c : Int) = -1) := by
  unfold kpAt
  rw [if_pos (by omega), show ((c : Nat) : Int).toNat = c from rfl]
  rcases k c hc with ⟨b1, b2⟩ | ⟨R, s, b, n, b1, b2, -⟩
  · exact ⟨⟨fun _ => b1, fun _ => by omega⟩, fun _ => b2⟩
  · exact ⟨⟨fun z => by omega, fun z => by rw [b1] at z; exact nomatch z⟩, fun z => by omega⟩
set_option maxRecDepth 100000 in
theorem ck_loop (hC : CI h) (k9 : KpP h a 33 kp) : ∀ (m l : Nat), l + m = 8 → EV mX6_capitalsKeeping 4 4 [rv 31, iv (kcN kp l : Int), iv (l : Int)] [] h (oi fun r h1 => r = (kcN kp 8 : Int) ∧ h1 = h)
  | 0, l, hl => by
    obtain rfl : l = 8 := by omega
    refine ev_iload_n dX6_capitalsKeeping_4 rfl ?_
    refine ev_bipush dX6_capitalsKeeping_5 ?_
    refine ev_icmpge 27 dX6_capitalsKeeping_7 (fun hb => ?_) (fun h_no => (by exfalso; omega))
    refine ev_iload_n dX6_capitalsKeeping_27 rfl ?_
    exact ev_iret dX6_capitalsKeeping_28 (⟨_, rfl, rfl, rfl⟩)
  | m + 1, l, hl => by
    have b1 := kcN_le (kp := kp) l
    have kn := (k9.n (c := l) (by omega)).1
    refine ev_iload_n dX6_capitalsKeeping_4 rfl ?_
    refine ev_bipush dX6_capitalsKeeping_5 ?_
    refine ev_icmpge 27 dX6_capitalsKeeping_7 (fun h_no => (by exfalso; omega)) (fun hb => ?_)
    refine ev_aload_n dX6_capitalsKeeping_10 rfl ?_
    refine ev_iload_n dX6_capitalsKeeping_11 rfl ?_
    refine ev_cvr dX6_capitalsKeeping_12 lX6_27 (s_keptAtC hC.st31) (by decide) hC.k31 hC.n31 rfl rfl rfl (Nat.le_of_ble_eq_true rfl) rfl (fun r z q => ?_)
    obtain ⟨rfl, e⟩ := q
    rw [e]
    by_cases c : kp l = none
    · skip
      have e1 : kcN kp (l + 1) = kcN kp l := by rw [kcN, if_pos c]; rfl
      refine ev_ifnull 21 dX6_capitalsKeeping_15 (fun hb2 => ?_) (fun h_no => (by exfalso; exact h_no (kn.mpr c)))
      refine ev_iin2 dX6_capitalsKeeping_21 (by unfold ir; omega) ?_
      refine ev_gt 4 dX6_capitalsKeeping_24 ?_
      rw [show (l : Int) + 1 = ((l + 1 : Nat) : Int) by omega, ← e1]
      exact ck_loop hC k9 m (l + 1) (by omega)
    have e1 : kcN kp (l + 1) = kcN kp l + 1 := by rw [kcN, if_neg c]
    refine ev_ifnull 21 dX6_capitalsKeeping_15 (fun h_no => (by exfalso; exact c (kn.mp h_no))) (fun hb2 => ?_)
    refine ev_iin1 dX6_capitalsKeeping_18 (by unfold ir; omega) ?_
    refine ev_iin2 dX6_capitalsKeeping_21 (by unfold ir; omega) ?_
    refine ev_gt 4 dX6_capitalsKeeping_24 ?_
    rw [show (kcN kp l : Int) + 1 = (kcN kp (l + 1) : Int) by omega, show (l : Int) + 1 = ((l + 1 : Nat) : Int) by omega]
    exact ck_loop hC k9 m (l + 1) (by omega)
set_option maxRecDepth 100000 in
theorem s_capKeep (hC : CI h) (k9 : KpP h a 33 kp) : CV mX6_capitalsKeeping 4 [rv 31] h (oi fun r h1 => r = (kcN kp 8 : Int) ∧ h1 = h) := by
  refine cv_of cdX6_capitalsKeeping ?_
  show EV _ _ 0 [rv 31, uv, uv] [] h _
  refine ev_iconst dX6_capitalsKeeping_0 ?_
  refine ev_ist1 dX6_capitalsKeeping_1 ?_
  refine ev_iconst dX6_capitalsKeeping_2 ?_
  refine ev_ist2 dX6_capitalsKeeping_3 ?_
  exact ck_loop hC k9 8 0 rfl
/-- what accounts tell -/
def acC (g e inN cN : Int) (N : Nat) (LL : Nat → List Nd) (kp : Nat → Option TE) (p x : Int) : Prop :=
  if p = 0 then x = (N : Int) else if p = 1 then ofR LL kp 0 N x else if 2 ≤ p ∧ p ≤ 4 then ofR LL kp (p + 1) N x else if p = 5 then x = (sumL LL N : Int) else if p = 6 then x = (kcN kp 8 : Int) else if p = 7 then x = g else if p = 8 then x = e else if p = 9 then ofR LL kp 2 N x else if p = 10 then x = inN else if p = 11 then x = cN else ofR LL kp 10 N x
set_option maxRecDepth 100000 in
theorem g_account {b B : Nat} {inN : Int} (n : QN h a K N tc LL kp) (o : LkO N LL kp) (hi : SBI h 1 b B inN) : CV mX10_account 11 [rv 0, iv p] h (fun oo h1 => (¬ (0 ≤ p ∧ p ≤ 12) ∧ oo = xv 0 ∧ h1 = h.thr) ∨ ((0 ≤ p ∧ p ≤ 12) ∧ ∃ x, oo = iv x ∧ acC (h.vl 31 3) (h.vl 31 4) inN (h.vl 40 2) N LL kp p x ∧ ∃ a1 K1, QF h a K h1 a1 K1 QY)) := by
  have hC := n.1.1
  have hS := n.sn
  have hN := n.2.2.2.1.1
  have RF : ∃ a1 K1, QF h a K h a1 K1 QY := ⟨a, K, QF.rf n.1 n.2.2.1 n.2.1⟩
  refine cv_of cdX10_account ?_
  show EV _ _ 0 [rv 0, iv p] [] h _
  refine ev_iload_n dX10_account_0 rfl ?_
  by_cases c : 0 ≤ p ∧ p ≤ 12
  · skip
    obtain ⟨k, rfl⟩ : ∃ k : Nat, p = (k : Int) := ⟨p.toNat, by omega⟩
    have hk : k = 0 ∨ k = 1 ∨ k = 2 ∨ k = 3 ∨ k = 4 ∨ k = 5 ∨ k = 6 ∨ k = 7 ∨ k = 8 ∨ k = 9 ∨ k = 10 ∨ k = 11 ∨ k = 12 := by omega
    rcases hk with rfl | rfl | rfl | rfl | rfl | rfl | rfl | rfl | rfl | rfl | rfl | rfl | rfl
    · skip
      refine ev_tsI 68 (67) dX10_account_1 (by omega) (by omega) rfl ?_
      refine ev_aload_n dX10_account_68 rfl ?_
      refine ev_getrv dX10_account_69 fX10_48 hC.k0 hC.n0 rfl hC.v0_6 ?_
      refine ev_getiv dX10_account_72 fX10_83 hC.k31 hC.n31 rfl hN ?_
      exact ev_iret dX10_account_75 (Or.inr ⟨c, _, rfl, rfl, RF⟩)
    · skip
      refine ev_tsI 76 (75) dX10_account_1 (by omega) (by omega) rfl ?_
      refine ev_aload_n dX10_account_76 rfl ?_
      refine ev_iconst dX10_account_77 ?_
      refine ev_cvi dX10_account_78 lX10_301 (s_lesFail n o (w := 0) (by decide)) (by decide) hC.k0 hC.n0 rfl rfl rfl (Nat.le_of_ble_eq_true rfl) rfl (fun x h1 q => ?_)
      obtain ⟨o1, q1⟩ := q
      exact ev_iret dX10_account_81 (Or.inr ⟨c, _, rfl, o1, q1⟩)
    · skip
      refine ev_tsI 82 (81) dX10_account_1 (by omega) (by omega) rfl ?_
      refine ev_aload_n dX10_account_82 rfl ?_
      refine ev_iconst dX10_account_83 ?_
      refine ev_cvi dX10_account_84 lX10_301 (s_lesFail n o (w := 3) (by decide)) (by decide) hC.k0 hC.n0 rfl rfl rfl (Nat.le_of_ble_eq_true rfl) rfl (fun x h1 q => ?_)
      obtain ⟨o1, q1⟩ := q
      exact ev_iret dX10_account_87 (Or.inr ⟨c, _, rfl, o1, q1⟩)
    · skip
      refine ev_tsI 88 (87) dX10_account_1 (by omega) (by omega) rfl ?_
      refine ev_aload_n dX10_account_88 rfl ?_
      refine ev_iconst dX10_account_89 ?_
      refine ev_cvi dX10_account_90 lX10_301 (s_lesFail n o (w := 4) (by decide)) (by decide) hC.k0 hC.n0 rfl rfl rfl (Nat.le_of_ble_eq_true rfl) rfl (fun x h1 q => ?_)
      obtain ⟨o1, q1⟩ := q
      exact ev_iret dX10_account_93 (Or.inr ⟨c, _, rfl, o1, q1⟩)
    · skip
      refine ev_tsI 94 (93) dX10_account_1 (by omega) (by omega) rfl ?_
      refine ev_aload_n dX10_account_94 rfl ?_
      refine ev_iconst dX10_account_95 ?_
      refine ev_cvi dX10_account_96 lX10_301 (s_lesFail n o (w := 5) (by decide)) (by decide) hC.k0 hC.n0 rfl rfl rfl (Nat.le_of_ble_eq_true rfl) rfl (fun x h1 q => ?_)
      obtain ⟨o1, q1⟩ := q
      exact ev_iret dX10_account_99 (Or.inr ⟨c, _, rfl, o1, q1⟩)
    · skip
      refine ev_tsI 100 (99) dX10_account_1 (by omega) (by omega) rfl ?_
      refine ev_aload_n dX10_account_100 rfl ?_
      refine ev_getrv dX10_account_101 fX10_48 hC.k0 hC.n0 rfl hC.v0_6 ?_
      refine ev_cvi dX10_account_104 lX10_304 (s_allNodesC hS (fun l hl => by have := (o.1 l hl).2.2.1; omega)) (by decide) hC.k31 hC.n31 rfl rfl rfl (Nat.le_of_ble_eq_true rfl) rfl (fun x h1 q => ?_)
      obtain ⟨rfl, e⟩ := q
      rw [e]
      exact ev_iret dX10_account_107 (Or.inr ⟨c, _, rfl, rfl, RF⟩)
    · skip
      refine ev_tsI 108 (107) dX10_account_1 (by omega) (by omega) rfl ?_
      refine ev_aload_n dX10_account_108 rfl ?_
      refine ev_getrv dX10_account_109 fX10_48 hC.k0 hC.n0 rfl hC.v0_6 ?_
      refine ev_cvi dX10_account_112 lX10_307 (s_capKeep hC n.2.2.2.2) (by decide) hC.k31 hC.n31 rfl rfl rfl (Nat.le_of_ble_eq_true rfl) rfl (fun x h1 q => ?_)
      obtain ⟨rfl, e⟩ := q
      rw [e]
      exact ev_iret dX10_account_115 (Or.inr ⟨c, _, rfl, rfl, RF⟩)
    · skip
      refine ev_tsI 116 (115) dX10_account_1 (by omega) (by omega) rfl ?_
      refine ev_aload_n dX10_account_116 rfl ?_
      refine ev_getrv dX10_account_117 fX10_48 hC.k0 hC.n0 rfl hC.v0_6 ?_
      refine ev_geti dX10_account_120 fX10_310 hC.k31 hC.n31 rfl ?_
      exact ev_iret dX10_account_123 (Or.inr ⟨c, _, rfl, rfl, RF⟩)
    · skip
      refine ev_tsI 124 (123) dX10_account_1 (by omega) (by omega) rfl ?_
      refine ev_aload_n dX10_account_124 rfl ?_
      refine ev_getrv dX10_account_125 fX10_48 hC.k0 hC.n0 rfl hC.v0_6 ?_
      refine ev_geti dX10_account_128 fX10_313 hC.k31 hC.n31 rfl ?_
      exact ev_iret dX10_account_131 (Or.inr ⟨c, _, rfl, rfl, RF⟩)
    · skip
      refine ev_tsI 132 (131) dX10_account_1 (by omega) (by omega) rfl ?_
      refine ev_aload_n dX10_account_132 rfl ?_
      refine ev_cvi dX10_account_133 lX10_316 (s_lesVar n o) (by decide) hC.k0 hC.n0 rfl rfl rfl (Nat.le_of_ble_eq_true rfl) rfl (fun x h1 q => ?_)
      obtain ⟨o1, q1⟩ := q
      exact ev_iret dX10_account_136 (Or.inr ⟨c, _, rfl, o1, q1⟩)
    · skip
      refine ev_tsI 137 (136) dX10_account_1 (by omega) (by omega) rfl ?_
      refine ev_aload_n dX10_account_137 rfl ?_
      refine ev_getrv dX10_account_138 fX10_12 hC.k0 hC.n0 rfl hC.v0_0 ?_
      refine ev_cvi dX10_account_141 lX10_236 (s_J4len hi) (by decide) hC.k1 hC.n1 rfl rfl rfl (Nat.le_of_ble_eq_true rfl) rfl (fun x h1 q => ?_)
      obtain ⟨rfl, e⟩ := q
      rw [e]
      exact ev_iret dX10_account_144 (Or.inr ⟨c, _, rfl, rfl, RF⟩)
    · skip
      refine ev_tsI 145 (144) dX10_account_1 (by omega) (by omega) rfl ?_
      refine ev_aload_n dX10_account_145 rfl ?_
      refine ev_getrv dX10_account_146 fX10_61 hC.k0 hC.n0 rfl hC.v0_9 ?_
      refine ev_geti dX10_account_149 fX10_319 hC.k40 hC.n40 rfl ?_
      exact ev_iret dX10_account_152 (Or.inr ⟨c, _, rfl, rfl, RF⟩)
    · skip
      refine ev_tsI 153 (152) dX10_account_1 (by omega) (by omega) rfl ?_
      refine ev_aload_n dX10_account_153 rfl ?_
      refine ev_bipush dX10_account_154 ?_
      refine ev_cvi dX10_account_156 lX10_301 (s_lesFail n o (w := 10) (by decide)) (by decide) hC.k0 hC.n0 rfl rfl rfl (Nat.le_of_ble_eq_true rfl) rfl (fun x h1 q => ?_)
      obtain ⟨o1, q1⟩ := q
      exact ev_iret dX10_account_159 (Or.inr ⟨c, _, rfl, o1, q1⟩)
  have : True := trivial
  refine ev_tsO 160 dX10_account_1 (by omega) ?_
  exact ev_throww _ tk_0 (List.mem_of_getElem? (i := 23) rfl) dX10_account_160 dX10_account_163 dX10_account_164 dX10_account_167 dX10_account_170 rfl (Nat.le_of_ble_eq_true rfl) (Or.inl ⟨c, rfl, rfl⟩)
end Acc
