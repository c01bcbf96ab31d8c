/-! the class counts what stands side by side -/
def pfd (c d : Int) : Int := d + (if c = 40 then 1 else if c = 41 then -1 else 0)
def pfF (c : Nat → Int) : Nat → Nat → Int → Int → Int
  | 0, _, _, q => q
  | t + 1, i, d, q => if d = 0 ∧ (c i = 41 ∨ c i = 59) then q else pfF c t (i + 1) (pfd (c i) d) (if pfd (c i) d = 0 then q + 1 else q)
set_option maxRecDepth 100000 in
theorem pf_loop {c : Nat → Int} {n : Nat} {st : Int} {h : AH} (hC : CI h) (hT : TXs h c n) : ∀ (t i : Nat) (q d : Int) (v5 : AV), i + t = n → (-(i : Int) ≤ d ∧ d ≤ (i : Int)) → (0 ≤ q ∧ q ≤ (i : Int)) → EV mX8_partsFrom 5 7 [rv 1, iv st, iv q, iv d, iv (i : Int), v5] [] h (oi fun r h1 => r = pfF c t i d q ∧ h1 = h) := by
  obtain ⟨⟨bb, N, hbb, hs, hv⟩, hn, hc⟩ := id hT
  intro t
  induction t with
  | zero =>
    intro i q d v5 hi hd hq
    refine ev_iload dX8_partsFrom_7 rfl ?_
    refine ev_aload_n dX8_partsFrom_9 rfl ?_
    refine ev_cvi dX8_partsFrom_10 lX8_22 (s_J4len hs) (by decide) hC.k1 hC.n1 rfl rfl rfl (Nat.le_of_ble_eq_true rfl) rfl (fun r z1 q => ?_)
    obtain ⟨rfl, e⟩ := q
    rw [e]
    refine ev_icmpge 83 dX8_partsFrom_13 (fun hb => ?_) (fun h_no => (by exfalso; omega))
    refine ev_iload_n dX8_partsFrom_83 rfl ?_
    exact ev_iret dX8_partsFrom_84 (⟨_, rfl, rfl, rfl⟩)
  | succ t ih =>
    intro i q d v5 hi hd hq
    have g1 := hv i (by omega)
    obtain ⟨g2, g3⟩ := hc i (by omega)
    have e2 : ((i : Nat) : Int).toNat = i := rfl
    have p44 : ¬ (d = 0 ∧ (c i = 41 ∨ c i = 59)) → EV mX8_partsFrom 5 44 [rv 1, iv st, iv q, iv d, iv (i : Int), iv (c i)] [] h (oi fun r h1 => r = pfF c (t + 1) i d q ∧ h1 = h) := by
      intro hno
      rw [pfF, if_neg hno]
      have p68 : ∀ x : Int, x = (if c i = 40 then 1 else if c i = 41 then -1 else 0) → EV mX8_partsFrom 5 68 [rv 1, iv st, iv q, iv d, iv (i : Int), iv (c i)] [iv x, iv d] h (oi fun r h1 => r = pfF c t (i + 1) (pfd (c i) d) (if pfd (c i) d = 0 then q + 1 else q) ∧ h1 = h) := by
        intro x hx
        have hx1 : -1 ≤ x ∧ x ≤ 1 := by
          rw [hx]
          by_cases a : c i = 40
          · rw [if_pos a]; decide
          · rw [if_neg a]
            by_cases b : c i = 41
            · rw [if_pos b]; decide
            · rw [if_neg b]; decide
        have ed : pfd (c i) d = d + x := by rw [pfd, hx]
        rw [ed]
        refine ev_iadd dX8_partsFrom_68 (by unfold ir; omega) ?_
        refine ev_ist3 dX8_partsFrom_69 ?_
        refine ev_iload_n dX8_partsFrom_70 rfl ?_
        by_cases z : d + x = 0
        · skip
          rw [if_pos z]
          refine ev_ifne 77 dX8_partsFrom_71 (fun h_no => (by exfalso; omega)) (fun hb => ?_)
          refine ev_iin2 dX8_partsFrom_74 (by unfold ir; omega) ?_
          refine ev_iin4 dX8_partsFrom_77 (by unfold ir; omega) ?_
          refine ev_gt 7 dX8_partsFrom_80 ?_
          rw [show (i : Int) + 1 = ((i + 1 : Nat) : Int) from rfl]
          exact ih (i + 1) _ _ _ (by omega) (by omega) (by omega)
        · skip
          rw [if_neg z]
          refine ev_ifne 77 dX8_partsFrom_71 (fun hb => ?_) (fun h_no => (by exfalso; omega))
          refine ev_iin4 dX8_partsFrom_77 (by unfold ir; omega) ?_
          refine ev_gt 7 dX8_partsFrom_80 ?_
          rw [show (i : Int) + 1 = ((i + 1 : Nat) : Int) from rfl]
          exact ih (i + 1) _ _ _ (by omega) (by omega) (by omega)
      refine ev_iload_n dX8_partsFrom_44 rfl ?_
      refine ev_iload dX8_partsFrom_45 rfl ?_
      refine ev_bipush dX8_partsFrom_47 ?_
      by_cases a : c i = 40
      · skip
        refine ev_icmpne 56 dX8_partsFrom_49 (fun h_no => (by exfalso; omega)) (fun hb => ?_)
        refine ev_iconst dX8_partsFrom_52 ?_
        refine ev_gt 68 dX8_partsFrom_53 ?_
        exact p68 1 (by rw [if_pos a])
      · skip
        refine ev_icmpne 56 dX8_partsFrom_49 (fun hb => ?_) (fun h_no => (by exfalso; omega))
        refine ev_iload dX8_partsFrom_56 rfl ?_
        refine ev_bipush dX8_partsFrom_58 ?_
        by_cases b : c i = 41
        · skip
          refine ev_icmpne 67 dX8_partsFrom_60 (fun h_no => (by exfalso; omega)) (fun hb2 => ?_)
          refine ev_iconst dX8_partsFrom_63 ?_
          refine ev_gt 68 dX8_partsFrom_64 ?_
          exact p68 (-1) (by rw [if_neg a, if_pos b])
        · skip
          refine ev_icmpne 67 dX8_partsFrom_60 (fun hb2 => ?_) (fun h_no => (by exfalso; omega))
          refine ev_iconst dX8_partsFrom_67 ?_
          exact p68 0 (by rw [if_neg a, if_neg b])
    refine ev_iload dX8_partsFrom_7 rfl ?_
    refine ev_aload_n dX8_partsFrom_9 rfl ?_
    refine ev_cvi dX8_partsFrom_10 lX8_22 (s_J4len hs) (by decide) hC.k1 hC.n1 rfl rfl rfl (Nat.le_of_ble_eq_true rfl) rfl (fun r z1 q => ?_)
    obtain ⟨rfl, e⟩ := q
    rw [e]
    refine ev_icmpge 83 dX8_partsFrom_13 (fun h_no => (by exfalso; omega)) (fun hb => ?_)
    refine ev_aload_n dX8_partsFrom_16 rfl ?_
    refine ev_iload dX8_partsFrom_17 rfl ?_
    refine ev_cvi dX8_partsFrom_19 lX8_28 (s_charAt hs (by omega) (by omega) (by rw [e2, g1]; exact g2) (by rw [e2, g1]; exact g3)) (by decide) hC.k1 hC.n1 rfl rfl rfl (Nat.le_of_ble_eq_true rfl) rfl (fun r z1 q => ?_)
    obtain ⟨rfl, e⟩ := q
    rw [e, e2, g1]
    refine ev_ist5 dX8_partsFrom_22 ?_
    refine ev_iload_n dX8_partsFrom_24 rfl ?_
    by_cases d0 : d = 0
    · skip
      refine ev_ifne 44 dX8_partsFrom_25 (fun h_no => (by exfalso; omega)) (fun hb1 => ?_)
      refine ev_iload dX8_partsFrom_28 rfl ?_
      refine ev_bipush dX8_partsFrom_30 ?_
      by_cases c1 : c i = 41
      · skip
        refine ev_icmpeq 42 dX8_partsFrom_32 (fun hb2 => ?_) (fun h_no => (by exfalso; omega))
        refine ev_iload_n dX8_partsFrom_42 rfl ?_
        exact ev_iret dX8_partsFrom_43 (⟨_, rfl, by rw [pfF, if_pos ⟨d0, Or.inl c1⟩], rfl⟩)
      · skip
        refine ev_icmpeq 42 dX8_partsFrom_32 (fun h_no => (by exfalso; omega)) (fun hb2 => ?_)
        refine ev_iload dX8_partsFrom_35 rfl ?_
        refine ev_bipush dX8_partsFrom_37 ?_
        by_cases c2 : c i = 59
        · skip
          refine ev_icmpne 44 dX8_partsFrom_39 (fun h_no => (by exfalso; omega)) (fun hb3 => ?_)
          refine ev_iload_n dX8_partsFrom_42 rfl ?_
          exact ev_iret dX8_partsFrom_43 (⟨_, rfl, by rw [pfF, if_pos ⟨d0, Or.inr c2⟩], rfl⟩)
        · skip
          refine ev_icmpne 44 dX8_partsFrom_39 (fun hb3 => ?_) (fun h_no => (by exfalso; omega))
          exact p44 (fun z => z.2.elim c1 c2)
    · skip
      refine ev_ifne 44 dX8_partsFrom_25 (fun hb1 => ?_) (fun h_no => (by exfalso; omega))
      exact p44 (fun z => d0 z.1)
set_option maxRecDepth 100000 in
theorem s_partsFrom {c : Nat → Int} {n s : Nat} {h : AH} (hC : CI h) (hT : TXs h c n) (hs0 : s ≤ n) : CV mX8_partsFrom 5 [rv 1, iv (s : Int)] h (oi fun r h1 => r = pfF c (n - s) s 0 0 ∧ h1 = h) := by
  refine cv_of cdX8_partsFrom ?_
  show EV _ _ 0 [rv 1, iv (s : Int), uv, uv, uv, uv] [] h _
  refine ev_iconst dX8_partsFrom_0 ?_
  refine ev_ist2 dX8_partsFrom_1 ?_
  refine ev_iconst dX8_partsFrom_2 ?_
  refine ev_ist3 dX8_partsFrom_3 ?_
  refine ev_iload_n dX8_partsFrom_4 rfl ?_
  refine ev_ist4 dX8_partsFrom_5 ?_
  exact pf_loop hC hT (n - s) s 0 0 uv (by omega) (by omega) (by omega)
set_option maxRecDepth 100000 in
theorem s_signAt {c : Nat → Int} {n : Nat} {i : Int} {h : AH} (hC : CI h) (hT : TXs h c n) : CV mX10_signAt 5 [rv 1, iv i] h (oi fun r h1 => r = (if 0 ≤ i ∧ i < (n : Int) then c i.toNat else 0) ∧ h1 = h) := by
  obtain ⟨⟨bb, N, hbb, hs, hv⟩, hn, hc⟩ := id hT
  refine cv_of cdX10_signAt ?_
  show EV _ _ 0 [rv 1, iv i] [] h _
  refine ev_iload_n dX10_signAt_0 rfl ?_
  by_cases i0 : i < 0
  · skip
    rw [if_neg (by omega)]
    refine ev_iflt 20 dX10_signAt_1 (fun hb => ?_) (fun h_no => (by exfalso; omega))
    refine ev_iconst dX10_signAt_20 ?_
    exact ev_cret dX10_signAt_21 (⟨_, rfl, rfl, rfl⟩) (by omega) (by omega)
  · skip
    refine ev_iflt 20 dX10_signAt_1 (fun h_no => (by exfalso; omega)) (fun hb => ?_)
    refine ev_iload_n dX10_signAt_4 rfl ?_
    refine ev_aload_n dX10_signAt_5 rfl ?_
    refine ev_cvi dX10_signAt_6 lX10_236 (s_J4len hs) (by decide) hC.k1 hC.n1 rfl rfl rfl (Nat.le_of_ble_eq_true rfl) rfl (fun r z1 q => ?_)
    obtain ⟨rfl, e⟩ := q
    rw [e]
    by_cases hin : i < (n : Int)
    · skip
      rw [if_pos ⟨by omega, hin⟩]
      have g1 := hv i.toNat (by omega)
      obtain ⟨g2, g3⟩ := hc i.toNat (by omega)
      refine ev_icmpge 20 dX10_signAt_9 (fun h_no => (by exfalso; omega)) (fun hb1 => ?_)
      refine ev_aload_n dX10_signAt_12 rfl ?_
      refine ev_iload_n dX10_signAt_13 rfl ?_
      refine ev_cvi dX10_signAt_14 lX10_297 (s_charAt hs (by omega) (by omega) (by rw [g1]; exact g2) (by rw [g1]; exact g3)) (by decide) hC.k1 hC.n1 rfl rfl rfl (Nat.le_of_ble_eq_true rfl) rfl (fun r z1 q => ?_)
      obtain ⟨rfl, e⟩ := q
      rw [e, g1]
      refine ev_gt 21 dX10_signAt_17 ?_
      exact ev_cret dX10_signAt_21 (⟨_, rfl, rfl, rfl⟩) (by omega) (by omega)
    · skip
      rw [if_neg (by omega)]
      refine ev_icmpge 20 dX10_signAt_9 (fun hb1 => ?_) (fun h_no => (by exfalso; omega))
      refine ev_iconst dX10_signAt_20 ?_
      exact ev_cret dX10_signAt_21 (⟨_, rfl, rfl, rfl⟩) (by omega) (by omega)
