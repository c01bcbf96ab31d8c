/-! the class: a shape is written -/
theorem ShI.sb {h h1 : AH} {s sb R n a b N b1 N1 : Nat} {X : List Int} (g : ShI h s sb R n) (t : TbI h a b N X) (q : SbQ h a b N h1 b1 N1) : ShI h1 s sb R n ∧ h1.vl sb = h.vl sb ∧ h1.vl s = h.vl s := by
  obtain ⟨⟨g1, g2⟩, ⟨g3, g4, g5⟩, g6, g7⟩ := g
  obtain ⟨⟨⟨ka, an⟩, ⟨va, kb, bn⟩, -⟩, -⟩ := t
  obtain ⟨q1, q2, q3, -⟩ := q
  have e1 : s ≠ a := fun z => by rw [z, ka] at g1; exact absurd (congrArg Prod.fst g1) (by simp)
  have e2 : s ≠ b := fun z => by rw [z, kb] at g1; exact absurd (congrArg Prod.fst g1) (by simp)
  have e3 : sb ≠ a := fun z => by rw [z, ka] at g4; exact absurd (congrArg Prod.fst g4) (by simp)
  have e4 : sb ≠ b := fun z => by rw [z, kb] at g4; exact absurd (congrArg Prod.fst g4) (by simp)
  have v1 := q3 s g2 e1 e2
  have v2 := q3 sb g5 e3 e4
  exact ⟨⟨⟨(q2 s g2).trans g1, by omega⟩, ⟨by rw [v1]; exact g3, (q2 sb g5).trans g4, by omega⟩, by rw [v1]; exact g6, g7⟩, v2, v1⟩
section Wsg
variable {h : AH} {a b N : Nat} {X : List Int}
/-- what appending some letters leaves -/
def ApQ (h : AH) (a b N : Nat) (X Y : List Int) (h1 : AH) : Prop := ∃ b1 N1, TbI h1 a b1 N1 (X ++ Y) ∧ SbQ h a b N h1 b1 N1
theorem ApQ.of {h1 : AH} {b1 N1 : Nat} {Y : List Int} (t : TbI h1 a b1 N1 (X ++ Y)) (q : SbQ h a b N h1 b1 N1) : ApQ h a b N X Y h1 := ⟨b1, N1, t, q⟩
set_option maxRecDepth 100000 in
theorem s_wSign {e : Int} (t : TbI h a b N X) (hl : X.length ≤ 1390) (he : 0 ≤ e ∧ e ≤ 210) (h2 : e ≠ 2) : CV mX5_writeSign 6 [iv e, rv a] h (on (ApQ h a b N X (lfX e))) := by
  have ta := t.1.1
  refine cv_of cdX5_writeSign ?_
  show EV _ _ 0 [iv e, rv a, uv] [] h _
  by_cases c : e < 2
  · have p21 : ∀ x : Int, (0 ≤ x ∧ x ≤ 127) → lfX e = [x] → EV mX5_writeSign 6 21 [iv e, rv a, uv] [iv x, rv a] h (on (ApQ h a b N X (lfX e))) := by
      intro x hx hlf
      refine ev_cvr dX5_writeSign_21 lX5_69 (s_appG t (by omega) hx) (by decide) ta.1 ta.2 rfl rfl rfl (Nat.le_of_ble_eq_true rfl) rfl (fun r h1 q => ?_)
      obtain ⟨-, b1, N1, t1, s1⟩ := q
      refine ev_pop dX5_writeSign_24 ?_
      exact ev_vret dX5_writeSign_25 (⟨rfl, by rw [hlf]; exact ⟨b1, N1, t1, s1⟩⟩)
    refine ev_iload_n dX5_writeSign_0 rfl ?_
    by_cases c0 : e = 0
    · skip
      refine ev_ifeq 9 dX5_writeSign_1 (fun hb => ?_) (fun h_no => (by exfalso; omega))
      refine ev_aload_n dX5_writeSign_9 rfl ?_
      refine ev_iload_n dX5_writeSign_10 rfl ?_
      refine ev_ifne 19 dX5_writeSign_11 (fun h_no => (by exfalso; omega)) (fun hb2 => ?_)
      refine ev_bipush dX5_writeSign_14 ?_
      refine ev_gt 21 dX5_writeSign_16 ?_
      refine p21 78 (by decide) ?_
      rw [lfX, if_pos c0, if_pos (by omega)]
    have c1 : e = 1 := by omega
    refine ev_ifeq 9 dX5_writeSign_1 (fun h_no => (by exfalso; omega)) (fun hb => ?_)
    refine ev_iload_n dX5_writeSign_4 rfl ?_
    refine ev_iconst dX5_writeSign_5 ?_
    refine ev_icmpne 26 dX5_writeSign_6 (fun h_no => (by exfalso; omega)) (fun hb3 => ?_)
    refine ev_aload_n dX5_writeSign_9 rfl ?_
    refine ev_iload_n dX5_writeSign_10 rfl ?_
    refine ev_ifne 19 dX5_writeSign_11 (fun hb2 => ?_) (fun h_no => (by exfalso; omega))
    refine ev_bipush dX5_writeSign_19 ?_
    refine p21 66 (by decide) ?_
    rw [lfX, if_neg c0, if_pos c1, if_pos (by omega)]
  · have m0 : 0 ≤ (e - 3) % 26 := Int.emod_nonneg _ (by decide)
    have m1 : (e - 3) % 26 < 26 := Int.emod_lt_of_pos _ (by decide)
    have lf : lfX e = (97 + (e - 3) % 26) :: (if e < 29 then [] else [48 + (e - 3) / 26]) := by
      rw [lfX, if_neg (by omega), if_neg (by omega)]
    refine ev_iload_n dX5_writeSign_0 rfl ?_
    refine ev_ifeq 9 dX5_writeSign_1 (fun h_no => (by exfalso; omega)) (fun hb => ?_)
    refine ev_iload_n dX5_writeSign_4 rfl ?_
    refine ev_iconst dX5_writeSign_5 ?_
    refine ev_icmpne 26 dX5_writeSign_6 (fun hb3 => ?_) (fun h_no => (by exfalso; omega))
    refine ev_iload_n dX5_writeSign_26 rfl ?_
    refine ev_iconst dX5_writeSign_27 ?_
    refine ev_isub dX5_writeSign_28 (by unfold ir; omega) ?_
    refine ev_ist2 dX5_writeSign_29 ?_
    refine ev_aload_n dX5_writeSign_30 rfl ?_
    refine ev_bipush dX5_writeSign_31 ?_
    refine ev_iload_n dX5_writeSign_33 rfl ?_
    refine ev_bipush dX5_writeSign_34 ?_
    refine ev_mfm dX5_writeSign_36 q_1634 (by decide) rfl rfl (by omega) (by omega) ?_
    refine ev_iadd dX5_writeSign_39 (by unfold ir; omega) ?_
    refine ev_i2c dX5_writeSign_40 ?_
    rw [show (97 + (e - 3) % 26) % 65536 = 97 + (e - 3) % 26 by omega]
    refine ev_cvr dX5_writeSign_41 lX5_69 (s_appG t (by omega) (show 0 ≤ 97 + (e - 3) % 26 ∧ 97 + (e - 3) % 26 ≤ 127 by omega)) (by decide) ta.1 ta.2 rfl rfl rfl (Nat.le_of_ble_eq_true rfl) rfl (fun r h1 q => ?_)
    obtain ⟨-, b1, N1, t1, s1⟩ := q
    have ta1 := t1.1.1
    refine ev_pop dX5_writeSign_44 ?_
    refine ev_iload_n dX5_writeSign_45 rfl ?_
    refine ev_bipush dX5_writeSign_46 ?_
    by_cases d : e < 29
    · skip
      rw [if_pos d] at lf
      refine ev_icmplt 60 dX5_writeSign_48 (fun hb4 => ?_) (fun h_no => (by exfalso; omega))
      exact ev_vret dX5_writeSign_60 (⟨rfl, by rw [lf]; exact ⟨b1, N1, t1, s1⟩⟩)
    rw [if_neg d] at lf
    refine ev_icmplt 60 dX5_writeSign_48 (fun h_no => (by exfalso; omega)) (fun hb4 => ?_)
    refine ev_aload_n dX5_writeSign_51 rfl ?_
    refine ev_iload_n dX5_writeSign_52 rfl ?_
    refine ev_bipush dX5_writeSign_53 ?_
    refine ev_idiv dX5_writeSign_55 (by omega) (by omega) ?_
    refine ev_cvr dX5_writeSign_56 lX5_82 (s_appI t1 (by rw [List.length_append]; show X.length + 1 ≤ 1400; omega) (show 0 ≤ (e - 3) / 26 ∧ (e - 3) / 26 ≤ 9 by omega)) (by decide) ta1.1 ta1.2 rfl rfl rfl (Nat.le_of_ble_eq_true rfl) rfl (fun r h2 q => ?_)
    obtain ⟨-, b2, N2, t2, s2⟩ := q
    refine ev_pop dX5_writeSign_59 ?_
    exact ev_vret dX5_writeSign_60 (⟨rfl, by rw [lf]; exact ⟨b2, N2, by rw [List.append_assoc] at t2; exact t2, s1.tr s2⟩⟩)
end Wsg
/-- how the text of a part ends -/
def enX (T : TE) (pr : Prop) [Decidable pr] (w : Nat) : List Int := if w = 0 then [] else (if pr then [] else [41]) ++ [62]
theorem tx_op {a b : TE} : txR (.op a b) (-1) = txR a (-2) ++ (62 :: txR b (-1)) := by
  rw [txR, if_neg (by decide), if_neg (by decide), List.nil_append, List.append_nil]
theorem tx_fr : ∀ (a : TE), txR a (-2) = (if kdT a = 2 then [40] else []) ++ (txR a (-1) ++ (if kdT a = 2 then [41] else []))
  | .var x => by
    have : kdT (.var x) ≠ 2 := by
      rw [kdT]
      split
      · decide
      · split <;> decide
    rw [if_neg this, if_neg this, List.nil_append, List.append_nil]
    rfl
  | .op a b => by
    have : kdT (.op a b) = 2 := rfl
    rw [if_pos this, if_pos this, tx_op, txR, if_pos rfl, if_pos rfl, List.append_assoc]
    rfl
section Wsh
variable {s sb R n a b0 N0 : Nat} {h0 : AH} {X0 : List Int}
theorem lf_len (e : Int) : (lfX e).length ≤ 2 := by
  rw [lfX, List.length_cons]
  split
  · show 0 + 1 ≤ 2; omega
  · show 1 + 1 ≤ 2; omega
set_option maxRecDepth 100000 in
theorem sw_walk {Q : AV → AH → Prop} (g0 : ShI h0 s sb R n) (t0 : TbI h0 a b0 N0 X0) (hn : n ≤ 200) (hk9 : ∀ i, i < n → 0 ≤ h0.vl sb i ∧ h0.vl sb i ≤ 210) : ∀ (T : TE) (k w : Nat) (pr : Bool) (Y : List Int) (h : AH) (b N : Nat), RwA (h0.vl sb) k (rowT T) → k + sz T ≤ n → (∀ z, 0 < k → h0.vl sb (k - 1) = z → (z = 2 ↔ pr = true)) → (k = 0 → w = 0) → w ≤ k → Y.length ≤ 4 * k → X0.length ≤ 10 → TbI h a b N (X0 ++ Y) → SbQ h0 a b0 N0 h b N →
    (∀ (h1 : AH) (b1 N1 : Nat), TbI h1 a b1 N1 (X0 ++ (Y ++ (txR T (-1) ++ enX T (kdT T ≠ 2 ∧ pr = true) w))) → SbQ h0 a b0 N0 h1 b1 N1 → EV mX5_write 7 4 [rv s, rv a, iv ((w - 1 : Nat) : Int), iv ((k + sz T : Nat) : Int)] [] h1 Q) →
    EV mX5_write 7 4 [rv s, rv a, iv (w : Int), iv (k : Int)] [] h Q
  | .var v, k, w, pr, Y, h, b, N, hr, hk, hpr, hw0, hwk, hY, hX, t, q, K => by
    obtain ⟨g, vs, -⟩ := g0.sb t0 q
    obtain ⟨e, e1, e2, e3, e4⟩ := row_leaf (v := v)
    have ee : e = rwE v := by
      rw [rwE]
      by_cases c : v < 2
      · rw [if_pos c]; exact e3 c
      · rw [if_neg c]; exact e4 (by omega)
    rw [e1] at hr
    have u0 : h.vl sb k = e := by rw [vs]; exact hr.tl.1
    have g6 := g.2.2.1
    have g7 := g.2.2.2
    simp only [sz] at hk K
    have r9 := hk9 k (by omega)
    rw [hr.tl.1] at r9
    have nk : kdT (.var v) ≠ 2 := by
      rw [kdT]
      split
      · decide
      · split <;> decide
    have ta := t.1.1
    have tx : txR (.var v) (-1) = lfX e := by rw [txR, ee]
    have xl : (X0 ++ Y).length ≤ 810 := by rw [List.length_append]; omega
    refine ev_iload_n dX5_write_4 rfl ?_
    refine ev_aload_n dX5_write_5 rfl ?_
    refine ev_getiv dX5_write_6 fX5_15 g.1.1 g.1.2 rfl g6 ?_
    refine ev_icmpge 92 dX5_write_9 (fun h_no => (by exfalso; omega)) (fun hb => ?_)
    refine ev_aload_n dX5_write_12 rfl ?_
    refine ev_iload_n dX5_write_13 rfl ?_
    refine ev_cvi dX5_write_14 lX5_30 (s_sgS g (by omega) u0) (by decide) g.1.1 g.1.2 rfl rfl rfl (Nat.le_of_ble_eq_true rfl) rfl (fun r z q9 => ?_)
    obtain ⟨rfl, eq⟩ := q9
    rw [eq]
    refine ev_iconst dX5_write_17 ?_
    refine ev_icmpne 45 dX5_write_18 (fun hb2 => ?_) (fun h_no => (by exfalso; omega))
    refine ev_aload_n dX5_write_45 rfl ?_
    refine ev_iload_n dX5_write_46 rfl ?_
    refine ev_cvi dX5_write_47 lX5_30 (s_sgS g (by omega) u0) (by decide) g.1.1 g.1.2 rfl rfl rfl (Nat.le_of_ble_eq_true rfl) rfl (fun r' z q9 => ?_)
    obtain ⟨er, eq⟩ := q9
    rw [eq, er]
    refine ev_aload_n dX5_write_50 rfl ?_
    refine ev_csv dX5_write_51 lX5_75 (s_wSign (e := r) t (by omega) r9 e2) (by decide) rfl rfl (Nat.le_of_ble_eq_true rfl) rfl (fun h1 q9 => ?_)
    obtain ⟨b1, N1, t1, q1⟩ := q9
    have q1' := q.tr q1
    obtain ⟨g1, vs1, -⟩ := g0.sb t0 q1'
    have ta1 := t1.1.1
    have l1 := lf_len r
    rw [List.append_assoc] at t1
    have xl1 : (X0 ++ (Y ++ lfX r)).length ≤ 812 := by rw [List.length_append, List.length_append]; omega
    refine ev_iload_n dX5_write_54 rfl ?_
    have fin : ∀ (h2 : AH) (b2 N2 : Nat), TbI h2 a b2 N2 (X0 ++ (Y ++ (lfX r ++ enX (.var v) (kdT (.var v) ≠ 2 ∧ pr = true) w))) → SbQ h0 a b0 N0 h2 b2 N2 → EV mX5_write 7 86 [rv s, rv a, iv ((w - 1 : Nat) : Int), iv (k : Int)] [] h2 Q := by
      intro h2 b2 N2 t2 q2
      refine ev_iin3 dX5_write_86 (by unfold ir; omega) ?_
      refine ev_gt 4 dX5_write_89 ?_
      rw [show (k : Int) + 1 = ((k + 1 : Nat) : Int) by omega]
      exact K h2 b2 N2 (by rw [tx]; exact t2) q2
    by_cases c0 : w = 0
    · skip
      refine ev_ifle 86 dX5_write_55 (fun hb3 => ?_) (fun h_no => (by exfalso; omega))
      have f := fin h1 b1 N1 (by rw [enX, if_pos c0, List.append_nil]; exact t1) q1'
      rw [show ((w - 1 : Nat) : Int) = (w : Int) by omega] at f
      exact f
    refine ev_ifle 86 dX5_write_55 (fun h_no => (by exfalso; omega)) (fun hb3 => ?_)
    refine ev_iin2 dX5_write_58 (by unfold ir; omega) ?_
    refine ev_aload_n dX5_write_61 rfl ?_
    refine ev_iload_n dX5_write_62 rfl ?_
    refine ev_iconst dX5_write_63 ?_
    refine ev_isub dX5_write_64 (by unfold ir; omega) ?_
    have kp : 0 < k := by omega
    obtain ⟨z0, hz0⟩ : ∃ z0, h1.vl sb (k - 1) = z0 := ⟨_, rfl⟩
    have pz := hpr z0 kp (by rw [← vs1]; exact hz0)
    rw [show (k : Int) - 1 = ((k - 1 : Nat) : Int) by omega, show (w : Int) + -1 = ((w - 1 : Nat) : Int) by omega]
    refine ev_cvi dX5_write_65 lX5_30 (s_sgS g1 (i := k - 1) (by omega) hz0) (by decide) g1.1.1 g1.1.2 rfl rfl rfl (Nat.le_of_ble_eq_true rfl) rfl (fun r2 z q9 => ?_)
    obtain ⟨er2, eq⟩ := q9
    rw [eq, er2]
    refine ev_iconst dX5_write_68 ?_
    -- behind the closing parenthesis
    have p79 : ∀ (h2 : AH) (b2 N2 : Nat) (Z : List Int), TbI h2 a b2 N2 (X0 ++ (Y ++ (lfX r ++ Z))) → SbQ h0 a b0 N0 h2 b2 N2 → Z.length ≤ 1 → Z = (if kdT (.var v) ≠ 2 ∧ pr = true then [] else [41]) → EV mX5_write 7 79 [rv s, rv a, iv ((w - 1 : Nat) : Int), iv (k : Int)] [] h2 Q := by
      intro h2 b2 N2 Z t2 q2 lz hZ
      have ta2 := t2.1.1
      refine ev_aload_n dX5_write_79 rfl ?_
      refine ev_bipush dX5_write_80 ?_
      refine ev_cvr dX5_write_82 lX5_69 (s_appG t2 (by rw [List.length_append, List.length_append, List.length_append]; omega) (c := 62) (by decide)) (by decide) ta2.1 ta2.2 rfl rfl rfl (Nat.le_of_ble_eq_true rfl) rfl (fun r3 h3 q9 => ?_)
      obtain ⟨-, b3, N3, t3, q3⟩ := q9
      refine ev_pop dX5_write_85 ?_
      refine fin h3 b3 N3 ?_ (q2.tr q3)
      rw [enX, if_neg c0, ← hZ]
      simp only [List.append_assoc] at t3 ⊢
      exact t3
    by_cases c2 : pr = true
    · skip
      have z2 := pz.mpr c2
      refine ev_icmpeq 79 dX5_write_69 (fun hb4 => ?_) (fun h_no => (by exfalso; omega))
      exact p79 h1 b1 N1 [] (by rw [List.append_nil]; exact t1) q1' (by decide) (by rw [if_pos ⟨nk, c2⟩])
    have z2 : ¬ z0 = 2 := fun y => c2 (pz.mp y)
    refine ev_icmpeq 79 dX5_write_69 (fun h_no => (by exfalso; omega)) (fun hb4 => ?_)
    refine ev_aload_n dX5_write_72 rfl ?_
    refine ev_bipush dX5_write_73 ?_
    refine ev_cvr dX5_write_75 lX5_69 (s_appG t1 (by omega) (c := 41) (by decide)) (by decide) ta1.1 ta1.2 rfl rfl rfl (Nat.le_of_ble_eq_true rfl) rfl (fun r3 h3 q9 => ?_)
    obtain ⟨-, b3, N3, t3, q3⟩ := q9
    refine ev_pop dX5_write_78 ?_
    refine p79 h3 b3 N3 [41] ?_ (q1'.tr q3) (by decide) (by rw [if_neg (fun y => c2 y.2)])
    simp only [List.append_assoc] at t3 ⊢
    exact t3
  | .op A B, k, w, pr, Y, h, b, N, hr, hk, hpr, hw0, hwk, hY, hX, t, q, K => by
    obtain ⟨g, vs, -⟩ := g0.sb t0 q
    rw [rowT] at hr
    obtain ⟨u0, u1⟩ := hr.tl
    obtain ⟨ua, ub⟩ := u1.app
    rw [row_len] at ub
    simp only [sz] at hk K
    have sA := sz_pos A
    have sB := sz_pos B
    have u0' : h.vl sb k = 2 := by rw [vs]; exact u0
    have g6 := g.2.2.1
    have g7 := g.2.2.2
    have ta := t.1.1
    have xl : (X0 ++ Y).length ≤ 810 := by rw [List.length_append]; omega
    -- the first sign of A
    obtain ⟨z0, hz0, hz2⟩ : ∃ z0, h.vl sb (k + 1) = z0 ∧ (z0 = 2 ↔ kdT A = 2) := by
      refine ⟨_, rfl, ?_⟩
      rw [vs]
      cases A with
      | var x =>
        obtain ⟨e, e1, e2, -⟩ := row_leaf (v := x)
        rw [e1] at ua
        rw [ua.tl.1]
        refine ⟨fun y => absurd y e2, fun y => ?_⟩
        rw [kdT] at y
        split at y
        · exact absurd y (by decide)
        · split at y <;> exact absurd y (by decide)
      | op x y =>
        rw [rowT] at ua
        rw [ua.tl.1]
        exact ⟨fun _ => rfl, fun _ => rfl⟩
    -- the last sign of A is no arrow
    have lastA : ∀ z, h0.vl sb (k + 1 + sz A - 1) = z → (z = 2 ↔ false = true) := fun z hz => by
      refine ⟨fun y => ?_, fun y => Bool.noConfusion y⟩
      have hla : ∀ (T : TE) (j : Nat), RwA (h0.vl sb) j (rowT T) → h0.vl sb (j + sz T - 1) ≠ 2 := fun T => by
        induction T with
        | var x =>
          intro j hj
          obtain ⟨e, e1, e2, -⟩ := row_leaf (v := x)
          rw [e1] at hj
          rw [show j + sz (.var x) - 1 = j from rfl, hj.tl.1]
          exact e2
        | op x y _ ihy =>
          intro j hj
          rw [rowT] at hj
          have := ihy _ hj.tl.2.app.2
          rw [row_len] at this
          have sy := sz_pos y
          rw [show j + 1 + sz x + sz y - 1 = j + sz (.op x y) - 1 by simp only [sz]; omega] at this
          exact this
      exact (hla A (k + 1) ua (by rw [hz]; exact y)).elim
    -- behind the opening parenthesis
    have p39 : ∀ (h1 : AH) (b1 N1 : Nat) (Z : List Int), TbI h1 a b1 N1 (X0 ++ (Y ++ Z)) → SbQ h0 a b0 N0 h1 b1 N1 → Z.length ≤ 1 → Z = (if kdT A = 2 then [40] else []) → EV mX5_write 7 39 [rv s, rv a, iv (w : Int), iv (k : Int)] [] h1 Q := by
      intro h1 b1 N1 Z t1 q1 lz hZ
      refine ev_iin2 dX5_write_39 (by unfold ir; omega) ?_
      refine ev_gt 86 dX5_write_42 ?_
      refine ev_iin3 dX5_write_86 (by unfold ir; omega) ?_
      refine ev_gt 4 dX5_write_89 ?_
      rw [show (w : Int) + 1 = ((w + 1 : Nat) : Int) by omega, show (k : Int) + 1 = ((k + 1 : Nat) : Int) by omega]
      refine sw_walk g0 t0 hn hk9 A (k + 1) (w + 1) true (Y ++ Z) h1 b1 N1 ua (by omega) (fun z _ hz => ?_) (fun y => by omega) (by omega) (by rw [List.length_append]; omega) hX t1 q1 (fun h2 b2 N2 t2 q2 => ?_)
      · rw [Nat.add_sub_cancel, u0] at hz
        exact ⟨fun _ => rfl, fun _ => hz.symm⟩
      have eA : enX A (kdT A ≠ 2 ∧ true = true) (w + 1) = (if kdT A = 2 then [41] else []) ++ [62] := by
        rw [enX, if_neg (by omega)]
        by_cases c : kdT A = 2
        · rw [if_neg (fun z => z.1 c), if_pos c]
        · rw [if_pos ⟨c, rfl⟩, if_neg c]
      rw [Nat.add_sub_cancel, show k + 1 + sz A = k + 1 + sz A from rfl]
      have ly : (Y ++ Z ++ (txR A (-1) ++ enX A (kdT A ≠ 2 ∧ true = true) (w + 1))).length ≤ 4 * (k + 1 + sz A) := by
        have := tx_len A (-1)
        have : (enX A (kdT A ≠ 2 ∧ true = true) (w + 1)).length ≤ 2 := by
          rw [eA, List.length_append]
          split <;> decide
        rw [List.length_append, List.length_append, List.length_append]
        omega
      refine sw_walk g0 t0 hn hk9 B (k + 1 + sz A) w false _ h2 b2 N2 ub (by omega) (fun z _ hz => lastA z hz) (fun y => by omega) (by omega) ly hX t2 q2 (fun h3 b3 N3 t3 q3 => ?_)
      rw [show k + 1 + sz A + sz B = k + (1 + sz A + sz B) by omega]
      refine K h3 b3 N3 ?_ q3
      have e1 : enX B (kdT B ≠ 2 ∧ false = true) w = enX (.op A B) (kdT (.op A B) ≠ 2 ∧ pr = true) w := by
        unfold enX
        by_cases c : w = 0
        · rw [if_pos c, if_pos c]
        · rw [if_neg c, if_neg c, if_neg (fun z => Bool.noConfusion z.2), if_neg (fun z => z.1 rfl)]
      rw [e1, eA, hZ] at t3
      rw [tx_op, tx_fr]
      simp only [List.append_assoc, List.cons_append, List.nil_append] at t3 ⊢
      exact t3
    refine ev_iload_n dX5_write_4 rfl ?_
    refine ev_aload_n dX5_write_5 rfl ?_
    refine ev_getiv dX5_write_6 fX5_15 g.1.1 g.1.2 rfl g6 ?_
    refine ev_icmpge 92 dX5_write_9 (fun h_no => (by exfalso; omega)) (fun hb => ?_)
    refine ev_aload_n dX5_write_12 rfl ?_
    refine ev_iload_n dX5_write_13 rfl ?_
    refine ev_cvi dX5_write_14 lX5_30 (s_sgS g (by omega) u0') (by decide) g.1.1 g.1.2 rfl rfl rfl (Nat.le_of_ble_eq_true rfl) rfl (fun r z q9 => ?_)
    obtain ⟨er, eq⟩ := q9
    rw [eq, er]
    refine ev_iconst dX5_write_17 ?_
    refine ev_icmpne 45 dX5_write_18 (fun h_no => (by exfalso; omega)) (fun hb2 => ?_)
    refine ev_aload_n dX5_write_21 rfl ?_
    refine ev_iload_n dX5_write_22 rfl ?_
    refine ev_iconst dX5_write_23 ?_
    refine ev_iadd dX5_write_24 (by unfold ir; omega) ?_
    rw [show (k : Int) + 1 = ((k + 1 : Nat) : Int) by omega]
    refine ev_cvi dX5_write_25 lX5_30 (s_sgS g (i := k + 1) (by omega) hz0) (by decide) g.1.1 g.1.2 rfl rfl rfl (Nat.le_of_ble_eq_true rfl) rfl (fun r2 z q9 => ?_)
    obtain ⟨er2, eq⟩ := q9
    rw [eq, er2]
    refine ev_iconst dX5_write_28 ?_
    by_cases c : kdT A = 2
    · skip
      have z2 := hz2.mpr c
      refine ev_icmpne 39 dX5_write_29 (fun h_no => (by exfalso; omega)) (fun hb3 => ?_)
      refine ev_aload_n dX5_write_32 rfl ?_
      refine ev_bipush dX5_write_33 ?_
      refine ev_cvr dX5_write_35 lX5_69 (s_appG t (by omega) (c := 40) (by decide)) (by decide) ta.1 ta.2 rfl rfl rfl (Nat.le_of_ble_eq_true rfl) rfl (fun r3 h3 q9 => ?_)
      obtain ⟨-, b3, N3, t3, q3⟩ := q9
      refine ev_pop dX5_write_38 ?_
      exact p39 h3 b3 N3 [40] (by rw [List.append_assoc] at t3; exact t3) (q.tr q3) (by decide) (by rw [if_pos c])
    have z2 : ¬ z0 = 2 := fun y => c (hz2.mp y)
    refine ev_icmpne 39 dX5_write_29 (fun hb3 => ?_) (fun h_no => (by exfalso; omega))
    exact p39 h b N [] (by rw [List.append_nil]; exact t) q (by decide) (by rw [if_neg c])
end Wsh
