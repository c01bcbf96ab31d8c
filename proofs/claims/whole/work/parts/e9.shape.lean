/-! a shape: a type as a row, its numbers; the class -/
def ShI (h : AH) (s b R n : Nat) : Prop := (h.kd s = (5, 2) ∧ s < h.n) ∧ (h.vl s 0 = (b : Int) ∧ h.kd b = (100, R) ∧ b < h.n) ∧ h.vl s 1 = (n : Int) ∧ n ≤ R ∧ R ≤ 100000
section ShS
variable {h : AH} {s b R n : Nat}
set_option maxRecDepth 100000 in
theorem s_sign {i : Int} (g : ShI h s b R n) (hi : i < 2147483647) : CV mX5_sign 2 [rv s, iv i] h (oi fun r h1 => r = (if 0 ≤ i ∧ i < (n : Int) then h.vl b i.toNat else -1) ∧ h1 = h) := by
  obtain ⟨⟨g1, g2⟩, ⟨g3, g4, g5⟩, g6, g7, g8⟩ := g
  refine cv_of cdX5_sign ?_
  show EV _ _ 0 [rv s, iv i] [] h _
  refine ev_iload_n dX5_sign_0 rfl ?_
  refine ev_aload_n dX5_sign_1 rfl ?_
  refine ev_getiv dX5_sign_2 fX5_15 g1 g2 rfl g6 ?_
  by_cases c : i < (n : Int)
  · skip
    refine ev_icmpge 19 dX5_sign_5 (fun h_no => (by exfalso; omega)) (fun hb => ?_)
    refine ev_aload_n dX5_sign_8 rfl ?_
    refine ev_getrv dX5_sign_9 fX5_9 g1 g2 rfl g3 ?_
    refine ev_iload_n dX5_sign_12 rfl ?_
    refine ev_csi dX5_sign_13 lX5_23 (s_atI g4 g5 g8) (by decide) rfl rfl (Nat.le_of_ble_eq_true rfl) rfl (fun r z q => ?_)
    obtain ⟨rfl, e⟩ := q
    rw [e]
    refine ev_gt 20 dX5_sign_16 ?_
    refine ev_iret dX5_sign_20 (⟨_, rfl, ?_, rfl⟩)
    by_cases d : 0 ≤ i
    · rw [if_pos ⟨d, by omega⟩, if_pos ⟨d, c⟩]
    · rw [if_neg (fun z => d z.1), if_neg (fun z => d z.1)]
  refine ev_icmpge 19 dX5_sign_5 (fun hb => ?_) (fun h_no => (by exfalso; omega))
  refine ev_iconst dX5_sign_19 ?_
  exact ev_iret dX5_sign_20 (⟨_, rfl, by rw [if_neg (fun z => c z.2)], rfl⟩)
theorem s_sgS {i : Nat} (g : ShI h s b R n) (hi : i < n) {x : Int} (hx : h.vl b i = x) : CV mX5_sign 2 [rv s, iv (i : Int)] h (oi fun r h1 => r = x ∧ h1 = h) := by
  have g8 := g.2.2.2.2
  have g7 := g.2.2.2.1
  refine cv_mono (s_sign g (by omega)) fun o h1 q => ?_
  obtain ⟨r, rfl, q1, q2⟩ := q
  rw [if_pos (by omega)] at q1
  exact ⟨r, rfl, q1.trans hx, q2⟩
/-- one letter of a tree's row -/
theorem row_hd (T : TE) : ∃ x l, rowT T = x :: l ∧ (x = 2 ↔ ∃ A B, T = .op A B) := by
  cases T with
  | var v =>
    obtain ⟨e, e1, e2, -⟩ := row_leaf (v := v)
    exact ⟨e, [], e1, ⟨fun z => absurd z e2, fun ⟨A, B, z⟩ => nomatch z⟩⟩
  | op A B => exact ⟨2, rowT A ++ rowT B, rfl, ⟨fun _ => ⟨A, B, rfl⟩, fun _ => rfl⟩⟩
set_option maxRecDepth 100000 in
theorem ar_walk {Q : AV → AH → Prop} (g : ShI h s b R n) : ∀ (T : TE) (k x : Nat), RwA (h.vl b) k (rowT T) → k + sz T ≤ n → x + sz T ≤ 200000 → EV mX5_arrows 3 4 [rv s, iv ((x + opsT T : Nat) : Int), iv ((k + sz T : Nat) : Int)] [] h Q → EV mX5_arrows 3 4 [rv s, iv (x : Int), iv (k : Int)] [] h Q
  | .var v, k, x, hr, hk, hx, K => by
    obtain ⟨e, e1, e2, -⟩ := row_leaf (v := v)
    rw [e1] at hr
    have h0 := hr.tl.1
    simp only [sz, opsT] at hk hx K
    have g6 := g.2.2.1
    have g7 := g.2.2.2
    refine ev_iload_n dX5_arrows_4 rfl ?_
    refine ev_aload_n dX5_arrows_5 rfl ?_
    refine ev_getiv dX5_arrows_6 fX5_15 g.1.1 g.1.2 rfl g6 ?_
    refine ev_icmpge 30 dX5_arrows_9 (fun h_no => (by exfalso; omega)) (fun hb => ?_)
    refine ev_aload_n dX5_arrows_12 rfl ?_
    refine ev_iload_n dX5_arrows_13 rfl ?_
    refine ev_cvi dX5_arrows_14 lX5_30 (s_sgS g (by omega) h0) (by decide) g.1.1 g.1.2 rfl rfl rfl (Nat.le_of_ble_eq_true rfl) rfl (fun r z q => ?_)
    obtain ⟨rfl, eq⟩ := q
    rw [eq]
    refine ev_iconst dX5_arrows_17 ?_
    refine ev_icmpne 24 dX5_arrows_18 (fun hb2 => ?_) (fun h_no => (by exfalso; omega))
    refine ev_iin2 dX5_arrows_24 (by unfold ir; omega) ?_
    refine ev_gt 4 dX5_arrows_27 ?_
    rw [show (k : Int) + 1 = ((k + 1 : Nat) : Int) by omega]
    exact K
  | .op A B, k, x, hr, hk, hx, K => by
    rw [rowT] at hr
    obtain ⟨h0, h1⟩ := hr.tl
    obtain ⟨h2, h3⟩ := h1.app
    rw [row_len] at h3
    simp only [sz, opsT] at hk hx K
    have g6 := g.2.2.1
    have g7 := g.2.2.2
    refine ev_iload_n dX5_arrows_4 rfl ?_
    refine ev_aload_n dX5_arrows_5 rfl ?_
    refine ev_getiv dX5_arrows_6 fX5_15 g.1.1 g.1.2 rfl g6 ?_
    refine ev_icmpge 30 dX5_arrows_9 (fun h_no => (by exfalso; omega)) (fun hb => ?_)
    refine ev_aload_n dX5_arrows_12 rfl ?_
    refine ev_iload_n dX5_arrows_13 rfl ?_
    refine ev_cvi dX5_arrows_14 lX5_30 (s_sgS g (by omega) h0) (by decide) g.1.1 g.1.2 rfl rfl rfl (Nat.le_of_ble_eq_true rfl) rfl (fun r z q => ?_)
    obtain ⟨rfl, eq⟩ := q
    rw [eq]
    refine ev_iconst dX5_arrows_17 ?_
    refine ev_icmpne 24 dX5_arrows_18 (fun h_no => (by exfalso; omega)) (fun hb2 => ?_)
    refine ev_iin1 dX5_arrows_21 (by unfold ir; omega) ?_
    refine ev_iin2 dX5_arrows_24 (by unfold ir; omega) ?_
    refine ev_gt 4 dX5_arrows_27 ?_
    rw [show (k : Int) + 1 = ((k + 1 : Nat) : Int) by omega, show (x : Int) + 1 = ((x + 1 : Nat) : Int) by omega]
    refine ar_walk g A (k + 1) (x + 1) h2 (by omega) (by omega) ?_
    have oA := ops_sz A
    refine ar_walk g B (k + 1 + sz A) (x + 1 + opsT A) h3 (by omega) (by omega) ?_
    rw [show k + 1 + sz A + sz B = k + (1 + sz A + sz B) by omega, show x + 1 + opsT A + opsT B = x + (1 + opsT A + opsT B) by omega]
    exact K
set_option maxRecDepth 100000 in
theorem s_arrows {T : TE} (g : ShI h s b R n) (hr : RwA (h.vl b) 0 (rowT T)) (hn : n = sz T) : CV mX5_arrows 3 [rv s] h (oi fun r h1 => r = (sz T : Int) / 2 ∧ h1 = h) := by
  have oT := ops_sz T
  have g6 := g.2.2.1
  have g7 := g.2.2.2
  refine cv_of cdX5_arrows ?_
  show EV _ _ 0 [rv s, uv, uv] [] h _
  refine ev_iconst dX5_arrows_0 ?_
  refine ev_ist1 dX5_arrows_1 ?_
  refine ev_iconst dX5_arrows_2 ?_
  refine ev_ist2 dX5_arrows_3 ?_
  refine ar_walk g T 0 0 hr (by omega) (by omega) ?_
  rw [Nat.zero_add, Nat.zero_add]
  refine ev_iload_n dX5_arrows_4 rfl ?_
  refine ev_aload_n dX5_arrows_5 rfl ?_
  refine ev_getiv dX5_arrows_6 fX5_15 g.1.1 g.1.2 rfl g6 ?_
  refine ev_icmpge 30 dX5_arrows_9 (fun hb => ?_) (fun h_no => (by exfalso; omega))
  refine ev_iload_n dX5_arrows_30 rfl ?_
  exact ev_iret dX5_arrows_31 (⟨_, rfl, by omega, rfl⟩)
set_option maxRecDepth 100000 in
theorem va_walk {Q : AV → AH → Prop} (g : ShI h s b R n) : ∀ (T : TE) (l : List Nat) (k : Nat), RwA (h.vl b) k (cnT T l).1 → k + sz T ≤ n → l.length + sz T ≤ 200000 → EV mX5_variables 3 4 [rv s, iv ((cnT T l).2.length : Int), iv ((k + sz T : Nat) : Int)] [] h Q → EV mX5_variables 3 4 [rv s, iv (l.length : Int), iv (k : Int)] [] h Q
  | .var v, l, k, hr, hk, hx, K => by
    obtain ⟨e, e1, e2, e3⟩ : ∃ e, (cnT (.var v) l).1 = [e] ∧ (if (l.length : Int) < e - 3 + 1 then e - 3 + 1 else (l.length : Int)) = ((cnT (.var v) l).2.length : Int) ∧ (0 ≤ e ∧ e ≤ 3 + (l.length : Int)) := by
      rw [cnT]
      by_cases c : v < 2
      · rw [if_pos c]
        exact ⟨(v : Int), rfl, by rw [if_neg (by omega)], by omega⟩
      · rw [if_neg c]
        by_cases d : v ∈ l
        · rw [if_pos d]
          have := ix_lt d
          exact ⟨_, rfl, by rw [if_neg (by omega)], by omega⟩
        · rw [if_neg d]
          refine ⟨_, rfl, ?_, by omega⟩
          rw [if_pos (by omega), List.length_append]
          show 3 + (l.length : Int) - 3 + 1 = ((l.length + 1 : Nat) : Int)
          omega
    rw [e1] at hr
    have h0 := hr.tl.1
    simp only [sz] at hk hx K
    have g6 := g.2.2.1
    have g7 := g.2.2.2
    refine ev_iload_n dX5_variables_4 rfl ?_
    refine ev_aload_n dX5_variables_5 rfl ?_
    refine ev_getiv dX5_variables_6 fX5_15 g.1.1 g.1.2 rfl g6 ?_
    refine ev_icmpge 32 dX5_variables_9 (fun h_no => (by exfalso; omega)) (fun hb => ?_)
    refine ev_iload_n dX5_variables_12 rfl ?_
    refine ev_aload_n dX5_variables_13 rfl ?_
    refine ev_iload_n dX5_variables_14 rfl ?_
    refine ev_cvi dX5_variables_15 lX5_30 (s_sgS g (by omega) h0) (by decide) g.1.1 g.1.2 rfl rfl rfl (Nat.le_of_ble_eq_true rfl) rfl (fun r z q => ?_)
    obtain ⟨rfl, eq⟩ := q
    rw [eq]
    refine ev_iconst dX5_variables_18 ?_
    refine ev_isub dX5_variables_19 (by unfold ir; omega) ?_
    refine ev_iconst dX5_variables_20 ?_
    refine ev_iadd dX5_variables_21 (by unfold ir; omega) ?_
    refine ev_mmax dX5_variables_22 q_1289 q_689 q_169 q_690 rfl ?_
    rw [e2]
    refine ev_ist1 dX5_variables_25 ?_
    refine ev_iin2 dX5_variables_26 (by unfold ir; omega) ?_
    refine ev_gt 4 dX5_variables_29 ?_
    rw [show (k : Int) + 1 = ((k + 1 : Nat) : Int) by omega]
    exact K
  | .op A B, l, k, hr, hk, hx, K => by
    rw [cn_op] at hr
    obtain ⟨h0, h1⟩ := hr.tl
    obtain ⟨h2, h3⟩ := h1.app
    rw [cn_len] at h3
    have c1 := cn_le A l
    simp only [sz] at hk hx K
    have g6 := g.2.2.1
    have g7 := g.2.2.2
    refine ev_iload_n dX5_variables_4 rfl ?_
    refine ev_aload_n dX5_variables_5 rfl ?_
    refine ev_getiv dX5_variables_6 fX5_15 g.1.1 g.1.2 rfl g6 ?_
    refine ev_icmpge 32 dX5_variables_9 (fun h_no => (by exfalso; omega)) (fun hb => ?_)
    refine ev_iload_n dX5_variables_12 rfl ?_
    refine ev_aload_n dX5_variables_13 rfl ?_
    refine ev_iload_n dX5_variables_14 rfl ?_
    refine ev_cvi dX5_variables_15 lX5_30 (s_sgS g (by omega) h0) (by decide) g.1.1 g.1.2 rfl rfl rfl (Nat.le_of_ble_eq_true rfl) rfl (fun r z q => ?_)
    obtain ⟨rfl, eq⟩ := q
    rw [eq]
    refine ev_iconst dX5_variables_18 ?_
    refine ev_isub dX5_variables_19 (by unfold ir; omega) ?_
    refine ev_iconst dX5_variables_20 ?_
    refine ev_iadd dX5_variables_21 (by unfold ir; omega) ?_
    refine ev_mmax dX5_variables_22 q_1289 q_689 q_169 q_690 rfl ?_
    rw [show (if (l.length : Int) < 2 - 3 + 1 then 2 - 3 + 1 else (l.length : Int)) = (l.length : Int) from if_neg (by omega)]
    refine ev_ist1 dX5_variables_25 ?_
    refine ev_iin2 dX5_variables_26 (by unfold ir; omega) ?_
    refine ev_gt 4 dX5_variables_29 ?_
    rw [show (k : Int) + 1 = ((k + 1 : Nat) : Int) by omega]
    refine va_walk g A l (k + 1) h2 (by omega) (by omega) ?_
    refine va_walk g B _ (k + 1 + sz A) h3 (by omega) (by omega) ?_
    rw [show k + 1 + sz A + sz B = k + (1 + sz A + sz B) by omega]
    exact K
set_option maxRecDepth 100000 in
theorem s_variables {T : TE} (g : ShI h s b R n) (hr : RwA (h.vl b) 0 (cnT T []).1) (hn : n = sz T) : CV mX5_variables 3 [rv s] h (oi fun r h1 => r = ((cnT T []).2.length : Int) ∧ h1 = h) := by
  have g6 := g.2.2.1
  have g7 := g.2.2.2
  refine cv_of cdX5_variables ?_
  show EV _ _ 0 [rv s, uv, uv] [] h _
  refine ev_iconst dX5_variables_0 ?_
  refine ev_ist1 dX5_variables_1 ?_
  refine ev_iconst dX5_variables_2 ?_
  refine ev_ist2 dX5_variables_3 ?_
  refine va_walk g T [] 0 hr (by omega) (by rw [List.length_nil]; omega) ?_
  rw [Nat.zero_add]
  refine ev_iload_n dX5_variables_4 rfl ?_
  refine ev_aload_n dX5_variables_5 rfl ?_
  refine ev_getiv dX5_variables_6 fX5_15 g.1.1 g.1.2 rfl g6 ?_
  refine ev_icmpge 32 dX5_variables_9 (fun hb => ?_) (fun h_no => (by exfalso; omega))
  refine ev_iload_n dX5_variables_32 rfl ?_
  exact ev_iret dX5_variables_33 (⟨_, rfl, rfl, rfl⟩)
theorem od_le : ∀ T : TE, od T ≤ sz T
  | .var _ => Nat.zero_le _
  | .op a b => by
    have := od_le a
    have := od_le b
    simp only [od, sz]
    split <;> omega
set_option maxRecDepth 100000 in
theorem or_walk {Q : AV → AH → Prop} (g : ShI h s b R n) : ∀ (T : TE) (k w x : Nat), RwA (h.vl b) k (rowT T) → k + sz T ≤ n → w + sz T ≤ 200000 → w ≤ x → x + sz T ≤ 200000 → EV mX5_order 3 6 [rv s, iv ((w : Int) - 1), iv ((if x < w + od T then w + od T else x : Nat) : Int), iv ((k + sz T : Nat) : Int)] [] h Q → EV mX5_order 3 6 [rv s, iv (w : Int), iv (x : Int), iv (k : Int)] [] h Q
  | .var v, k, w, x, hr, hk, hw, hwx, hx, K => by
    obtain ⟨e, e1, e2, -⟩ := row_leaf (v := v)
    rw [e1] at hr
    have h0 := hr.tl.1
    rw [show (if x < w + od (.var v) then w + od (.var v) else x) = x from if_neg (by show ¬ x < w + 0; omega)] at K
    simp only [sz] at hk hw hx K
    have g6 := g.2.2.1
    have g7 := g.2.2.2
    refine ev_iload_n dX5_order_6 rfl ?_
    refine ev_aload_n dX5_order_7 rfl ?_
    refine ev_getiv dX5_order_8 fX5_15 g.1.1 g.1.2 rfl g6 ?_
    refine ev_icmpge 43 dX5_order_11 (fun h_no => (by exfalso; omega)) (fun hb => ?_)
    refine ev_iload_n dX5_order_14 rfl ?_
    refine ev_aload_n dX5_order_15 rfl ?_
    refine ev_iload_n dX5_order_16 rfl ?_
    refine ev_cvi dX5_order_17 lX5_30 (s_sgS g (by omega) h0) (by decide) g.1.1 g.1.2 rfl rfl rfl (Nat.le_of_ble_eq_true rfl) rfl (fun r z q => ?_)
    obtain ⟨rfl, eq⟩ := q
    rw [eq]
    refine ev_iconst dX5_order_20 ?_
    refine ev_icmpne 28 dX5_order_21 (fun hb2 => ?_) (fun h_no => (by exfalso; omega))
    refine ev_iconst dX5_order_28 ?_
    refine ev_iadd dX5_order_29 (by unfold ir; omega) ?_
    refine ev_ist1 dX5_order_30 ?_
    refine ev_iload_n dX5_order_31 rfl ?_
    refine ev_iload_n dX5_order_32 rfl ?_
    refine ev_mmax dX5_order_33 q_1289 q_689 q_169 q_690 rfl ?_
    rw [show (w : Int) + -1 = (w : Int) - 1 by omega, show (if (x : Int) < (w : Int) - 1 then (w : Int) - 1 else (x : Int)) = (x : Int) from if_neg (by omega)]
    refine ev_ist2 dX5_order_36 ?_
    refine ev_iin3 dX5_order_37 (by unfold ir; omega) ?_
    refine ev_gt 6 dX5_order_40 ?_
    rw [show (k : Int) + 1 = ((k + 1 : Nat) : Int) by omega]
    exact K
  | .op A B, k, w, x, hr, hk, hw, hwx, hx, K => by
    rw [rowT] at hr
    obtain ⟨h0, h1⟩ := hr.tl
    obtain ⟨h2, h3⟩ := h1.app
    rw [row_len] at h3
    simp only [sz, od] at hk hw hx K
    have g6 := g.2.2.1
    have g7 := g.2.2.2
    refine ev_iload_n dX5_order_6 rfl ?_
    refine ev_aload_n dX5_order_7 rfl ?_
    refine ev_getiv dX5_order_8 fX5_15 g.1.1 g.1.2 rfl g6 ?_
    refine ev_icmpge 43 dX5_order_11 (fun h_no => (by exfalso; omega)) (fun hb => ?_)
    refine ev_iload_n dX5_order_14 rfl ?_
    refine ev_aload_n dX5_order_15 rfl ?_
    refine ev_iload_n dX5_order_16 rfl ?_
    refine ev_cvi dX5_order_17 lX5_30 (s_sgS g (by omega) h0) (by decide) g.1.1 g.1.2 rfl rfl rfl (Nat.le_of_ble_eq_true rfl) rfl (fun r z q => ?_)
    obtain ⟨rfl, eq⟩ := q
    rw [eq]
    refine ev_iconst dX5_order_20 ?_
    refine ev_icmpne 28 dX5_order_21 (fun h_no => (by exfalso; omega)) (fun hb2 => ?_)
    refine ev_iconst dX5_order_24 ?_
    refine ev_gt 29 dX5_order_25 ?_
    refine ev_iadd dX5_order_29 (by unfold ir; omega) ?_
    refine ev_ist1 dX5_order_30 ?_
    refine ev_iload_n dX5_order_31 rfl ?_
    refine ev_iload_n dX5_order_32 rfl ?_
    refine ev_mmax dX5_order_33 q_1289 q_689 q_169 q_690 rfl ?_
    obtain ⟨x1, hx1⟩ : ∃ x1 : Nat, x1 = if x < w + 1 then w + 1 else x := ⟨_, rfl⟩
    have e9 : (if (x : Int) < (w : Int) + 1 then (w : Int) + 1 else (x : Int)) = (x1 : Int) := by
      rw [hx1]
      by_cases c : x < w + 1
      · rw [if_pos c, if_pos (by omega)]; rfl
      · rw [if_neg c, if_neg (by omega)]
    rw [e9]
    refine ev_ist2 dX5_order_36 ?_
    refine ev_iin3 dX5_order_37 (by unfold ir; omega) ?_
    refine ev_gt 6 dX5_order_40 ?_
    rw [show (k : Int) + 1 = ((k + 1 : Nat) : Int) by omega, show (w : Int) + 1 = ((w + 1 : Nat) : Int) by omega]
    have b1 : w + 1 ≤ x1 ∧ x1 ≤ x + 1 := by rw [hx1]; split <;> omega
    have sA := sz_pos A
    have sB := sz_pos B
    refine or_walk g A (k + 1) (w + 1) x1 h2 (by omega) (by omega) b1.1 (by omega) ?_
    obtain ⟨x2, hx2⟩ : ∃ x2 : Nat, x2 = if x1 < w + 1 + od A then w + 1 + od A else x1 := ⟨_, rfl⟩
    have oA : od A ≤ sz A := od_le A
    have oB : od B ≤ sz B := od_le B
    have b2 : w ≤ x2 ∧ x2 + sz B ≤ 200000 := by rw [hx2]; split <;> omega
    rw [← hx2, show ((w + 1 : Nat) : Int) - 1 = (w : Int) by omega]
    refine or_walk g B (k + 1 + sz A) w x2 h3 (by omega) (by omega) b2.1 b2.2 ?_
    rw [show k + 1 + sz A + sz B = k + (1 + sz A + sz B) by omega]
    have ee : (if x2 < w + od B then w + od B else x2) = (if x < w + (if od A + 1 > od B then od A + 1 else od B) then w + (if od A + 1 > od B then od A + 1 else od B) else x) := by
      rw [hx2, hx1]
      repeat' split
      all_goals omega
    rw [ee]
    exact K
set_option maxRecDepth 100000 in
theorem s_order {T : TE} (g : ShI h s b R n) (hr : RwA (h.vl b) 0 (rowT T)) (hn : n = sz T) : CV mX5_order 3 [rv s] h (oi fun r h1 => r = (od T : Int) ∧ h1 = h) := by
  have g6 := g.2.2.1
  have g7 := g.2.2.2
  refine cv_of cdX5_order ?_
  show EV _ _ 0 [rv s, uv, uv, uv] [] h _
  refine ev_iconst dX5_order_0 ?_
  refine ev_ist1 dX5_order_1 ?_
  refine ev_iconst dX5_order_2 ?_
  refine ev_ist2 dX5_order_3 ?_
  refine ev_iconst dX5_order_4 ?_
  refine ev_ist3 dX5_order_5 ?_
  refine or_walk g T 0 0 0 hr (by omega) (by omega) (Nat.le_refl _) (by omega) ?_
  rw [Nat.zero_add, Nat.zero_add, show (if 0 < od T then od T else 0) = od T by split <;> omega]
  refine ev_iload_n dX5_order_6 rfl ?_
  refine ev_aload_n dX5_order_7 rfl ?_
  refine ev_getiv dX5_order_8 fX5_15 g.1.1 g.1.2 rfl g6 ?_
  refine ev_icmpge 43 dX5_order_11 (fun hb => ?_) (fun h_no => (by exfalso; omega))
  refine ev_iload_n dX5_order_43 rfl ?_
  exact ev_iret dX5_order_44 (⟨_, rfl, rfl, rfl⟩)
set_option maxRecDepth 100000 in
theorem pl_walk {Q : AV → AH → Prop} (g : ShI h s b R n) : ∀ (T : TE) (k w x : Nat), RwA (h.vl b) k (rowT T) → k + sz T ≤ n → w + sz T ≤ 200000 → x + sz T ≤ 200000 → EV mX5_places 3 6 [rv s, iv ((w : Int) - 1), iv ((if w = 0 then x + plc T else x : Nat) : Int), iv ((k + sz T : Nat) : Int)] [] h Q → EV mX5_places 3 6 [rv s, iv (w : Int), iv (x : Int), iv (k : Int)] [] h Q
  | .var v, k, w, x, hr, hk, hw, hx, K => by
    obtain ⟨e, e1, e2, -⟩ := row_leaf (v := v)
    rw [e1] at hr
    have h0 := hr.tl.1
    simp only [sz, plc] at hk hw hx K
    have g6 := g.2.2.1
    have g7 := g.2.2.2
    refine ev_iload_n dX5_places_6 rfl ?_
    refine ev_aload_n dX5_places_7 rfl ?_
    refine ev_getiv dX5_places_8 fX5_15 g.1.1 g.1.2 rfl g6 ?_
    refine ev_icmpge 50 dX5_places_11 (fun h_no => (by exfalso; omega)) (fun hb => ?_)
    refine ev_aload_n dX5_places_14 rfl ?_
    refine ev_iload_n dX5_places_15 rfl ?_
    refine ev_cvi dX5_places_16 lX5_30 (s_sgS g (by omega) h0) (by decide) g.1.1 g.1.2 rfl rfl rfl (Nat.le_of_ble_eq_true rfl) rfl (fun r z q => ?_)
    obtain ⟨rfl, eq⟩ := q
    rw [eq]
    refine ev_iconst dX5_places_19 ?_
    refine ev_icmpne 41 dX5_places_20 (fun hb2 => ?_) (fun h_no => (by exfalso; omega))
    refine ev_iin1 dX5_places_41 (by unfold ir; omega) ?_
    refine ev_iin3 dX5_places_44 (by unfold ir; omega) ?_
    refine ev_gt 6 dX5_places_47 ?_
    rw [show (w : Int) + -1 = (w : Int) - 1 by omega, show (k : Int) + 1 = ((k + 1 : Nat) : Int) by omega]
    rw [Nat.add_zero, ite_self] at K
    exact K
  | .op A B, k, w, x, hr, hk, hw, hx, K => by
    rw [rowT] at hr
    obtain ⟨h0, h1⟩ := hr.tl
    obtain ⟨h2, h3⟩ := h1.app
    rw [row_len] at h3
    simp only [sz, plc] at hk hw hx K
    have g6 := g.2.2.1
    have g7 := g.2.2.2
    have sA := sz_pos A
    have sB := sz_pos B
    have p33 : ∀ y : Nat, y = (if w = 0 then 1 else 0) → EV mX5_places 3 33 [rv s, iv (w : Int), iv (x : Int), iv (k : Int)] [iv (y : Int), iv (x : Int)] h Q := by
      intro y hy
      have hy1 : y ≤ 1 := by rw [hy]; split <;> omega
      refine ev_iadd dX5_places_33 (by unfold ir; omega) ?_
      refine ev_ist2 dX5_places_34 ?_
      refine ev_iin1 dX5_places_35 (by unfold ir; omega) ?_
      refine ev_gt 44 dX5_places_38 ?_
      refine ev_iin3 dX5_places_44 (by unfold ir; omega) ?_
      refine ev_gt 6 dX5_places_47 ?_
      rw [show (w : Int) + 1 = ((w + 1 : Nat) : Int) by omega, show (k : Int) + 1 = ((k + 1 : Nat) : Int) by omega, show (x : Int) + (y : Int) = ((x + y : Nat) : Int) by omega]
      refine pl_walk g A (k + 1) (w + 1) (x + y) h2 (by omega) (by omega) (by omega) ?_
      rw [if_neg (by omega), show ((w + 1 : Nat) : Int) - 1 = (w : Int) by omega]
      refine pl_walk g B (k + 1 + sz A) w (x + y) h3 (by omega) (by omega) (by omega) ?_
      rw [show k + 1 + sz A + sz B = k + (1 + sz A + sz B) by omega]
      have ee : (if w = 0 then x + y + plc B else x + y) = (if w = 0 then x + (plc B + 1) else x) := by
        rw [hy]
        by_cases c : w = 0
        · rw [if_pos c, if_pos c, if_pos c]; omega
        · rw [if_neg c, if_neg c, if_neg c]; omega
      rw [ee]
      exact K
    refine ev_iload_n dX5_places_6 rfl ?_
    refine ev_aload_n dX5_places_7 rfl ?_
    refine ev_getiv dX5_places_8 fX5_15 g.1.1 g.1.2 rfl g6 ?_
    refine ev_icmpge 50 dX5_places_11 (fun h_no => (by exfalso; omega)) (fun hb => ?_)
    refine ev_aload_n dX5_places_14 rfl ?_
    refine ev_iload_n dX5_places_15 rfl ?_
    refine ev_cvi dX5_places_16 lX5_30 (s_sgS g (by omega) h0) (by decide) g.1.1 g.1.2 rfl rfl rfl (Nat.le_of_ble_eq_true rfl) rfl (fun r z q => ?_)
    obtain ⟨rfl, eq⟩ := q
    rw [eq]
    refine ev_iconst dX5_places_19 ?_
    refine ev_icmpne 41 dX5_places_20 (fun h_no => (by exfalso; omega)) (fun hb2 => ?_)
    refine ev_iload_n dX5_places_23 rfl ?_
    refine ev_iload_n dX5_places_24 rfl ?_
    by_cases c : w = 0
    · skip
      refine ev_ifne 32 dX5_places_25 (fun h_no => (by exfalso; omega)) (fun hb3 => ?_)
      refine ev_iconst dX5_places_28 ?_
      refine ev_gt 33 dX5_places_29 ?_
      exact p33 1 (by rw [if_pos c])
    refine ev_ifne 32 dX5_places_25 (fun hb3 => ?_) (fun h_no => (by exfalso; omega))
    refine ev_iconst dX5_places_32 ?_
    exact p33 0 (by rw [if_neg c])
set_option maxRecDepth 100000 in
theorem s_plcC {T : TE} (g : ShI h s b R n) (hr : RwA (h.vl b) 0 (rowT T)) (hn : n = sz T) : CV mX5_places 3 [rv s] h (oi fun r h1 => r = (plc T : Int) ∧ h1 = h) := by
  have g6 := g.2.2.1
  have g7 := g.2.2.2
  refine cv_of cdX5_places ?_
  show EV _ _ 0 [rv s, uv, uv, uv] [] h _
  refine ev_iconst dX5_places_0 ?_
  refine ev_ist1 dX5_places_1 ?_
  refine ev_iconst dX5_places_2 ?_
  refine ev_ist2 dX5_places_3 ?_
  refine ev_iconst dX5_places_4 ?_
  refine ev_ist3 dX5_places_5 ?_
  refine pl_walk g T 0 0 0 hr (by omega) (by omega) (by omega) ?_
  rw [Nat.zero_add, Nat.zero_add, if_pos rfl]
  refine ev_iload_n dX5_places_6 rfl ?_
  refine ev_aload_n dX5_places_7 rfl ?_
  refine ev_getiv dX5_places_8 fX5_15 g.1.1 g.1.2 rfl g6 ?_
  refine ev_icmpge 50 dX5_places_11 (fun hb => ?_) (fun h_no => (by exfalso; omega))
  refine ev_iload_n dX5_places_50 rfl ?_
  exact ev_iret dX5_places_51 (⟨_, rfl, rfl, rfl⟩)
/-- a shape holds a type: its canonical row -/
def ShT (h : AH) (s : Nat) (T : TE) : Prop := ∃ b R, ShI h s b R (sz T) ∧ RwA (h.vl b) 0 (cnT T []).1
theorem cn_plc : ∀ (T : TE) (l : List Nat), plc (cnR T l) = plc T
  | .var x, l => by
    rw [cnR]
    split
    · rfl
    · split <;> rfl
  | .op a b, l => by
    rw [cnR, plc, plc, cn_plc b]
theorem cn_od : ∀ (T : TE) (l : List Nat), od (cnR T l) = od T
  | .var x, l => by
    rw [cnR]
    split
    · rfl
    · split <;> rfl
  | .op a b, l => by
    rw [cnR, od, od, cn_od a, cn_od b]
set_option maxRecDepth 100000 in
theorem s_measure {T : TE} {w : Int} (g : ShT h s T) (hw : 0 ≤ w ∧ w ≤ 4) : CV mX5_measure 4 [rv s, iv w] h (oi fun r h1 => r = nuF T w ∧ h1 = h) := by
  obtain ⟨b, R, g, hr⟩ := g
  have hr' : RwA (h.vl b) 0 (rowT (cnR T [])) := by rw [cnR_row]; exact hr
  have ez : sz T = sz (cnR T []) := (cnR_sz T []).symm
  have g6 := g.2.2.1
  refine cv_of cdX5_measure ?_
  show EV _ _ 0 [rv s, iv w] [] h _
  refine ev_iload_n dX5_measure_0 rfl ?_
  by_cases h0 : w = 0
  · subst h0
    refine ev_tsI 32 (31) dX5_measure_1 (by omega) (by omega) rfl ?_
    refine ev_aload_n dX5_measure_32 rfl ?_
    refine ev_getiv dX5_measure_33 fX5_15 g.1.1 g.1.2 rfl g6 ?_
    exact ev_iret dX5_measure_36 (⟨_, rfl, by rw [nuF, if_pos rfl], rfl⟩)
  by_cases h1 : w = 1
  · subst h1
    refine ev_tsI 37 (36) dX5_measure_1 (by omega) (by omega) rfl ?_
    refine ev_aload_n dX5_measure_37 rfl ?_
    refine ev_cvi dX5_measure_38 lX5_37 (s_arrows g hr' ez) (by decide) g.1.1 g.1.2 rfl rfl rfl (Nat.le_of_ble_eq_true rfl) rfl (fun r z q => ?_)
    obtain ⟨rfl, e⟩ := q
    rw [e]
    exact ev_iret dX5_measure_41 (⟨_, rfl, by rw [nuF, if_neg (by decide), if_pos rfl, ez], rfl⟩)
  by_cases h2 : w = 2
  · subst h2
    refine ev_tsI 42 (41) dX5_measure_1 (by omega) (by omega) rfl ?_
    refine ev_aload_n dX5_measure_42 rfl ?_
    refine ev_cvi dX5_measure_43 lX5_41 (s_variables g hr rfl) (by decide) g.1.1 g.1.2 rfl rfl rfl (Nat.le_of_ble_eq_true rfl) rfl (fun r z q => ?_)
    obtain ⟨rfl, e⟩ := q
    rw [e]
    exact ev_iret dX5_measure_46 (⟨_, rfl, by rw [nuF, if_neg (by decide), if_neg (by decide), if_pos rfl], rfl⟩)
  by_cases h3 : w = 3
  · subst h3
    refine ev_tsI 47 (46) dX5_measure_1 (by omega) (by omega) rfl ?_
    refine ev_aload_n dX5_measure_47 rfl ?_
    refine ev_cvi dX5_measure_48 lX5_44 (s_order g hr' ez) (by decide) g.1.1 g.1.2 rfl rfl rfl (Nat.le_of_ble_eq_true rfl) rfl (fun r z q => ?_)
    obtain ⟨rfl, e⟩ := q
    rw [e]
    exact ev_iret dX5_measure_51 (⟨_, rfl, by rw [nuF, if_neg (by decide), if_neg (by decide), if_neg (by decide), if_pos rfl, cn_od], rfl⟩)
  obtain rfl : w = 4 := by omega
  refine ev_tsO 52 dX5_measure_1 (by omega) ?_
  refine ev_aload_n dX5_measure_52 rfl ?_
  refine ev_cvi dX5_measure_53 lX5_47 (s_plcC g hr' ez) (by decide) g.1.1 g.1.2 rfl rfl rfl (Nat.le_of_ble_eq_true rfl) rfl (fun r z q => ?_)
  obtain ⟨rfl, e⟩ := q
  rw [e]
  exact ev_iret dX5_measure_56 (⟨_, rfl, by rw [nuF, if_neg (by decide), if_neg (by decide), if_neg (by decide), if_neg (by decide), cn_plc], rfl⟩)
end ShS
