/-! small questions to the reference -/
set_option maxRecDepth 100000 in
theorem r_isKept {p : Int} {h : AH} (hI : RI h) : CV mX11_isKept 3 [rv 42, iv p] h (oi fun r h1 => KP h h1 [] [0] ∧ ((¬ (0 ≤ p ∧ p ≤ 7) ∧ h1.vl 42 0 = 1) ∨ ((0 ≤ p ∧ p ≤ 7) ∧ h1.vl 42 0 = 0 ∧ r = (if 0 < h.vl 43 (369 + 25 * p.toNat) then 1 else 0)))) := by
  refine cv_of cdX11_isKept ?_
  show EV _ _ 0 [rv 42, iv p] [] h _
  refine ev_aload_n dX11_isKept_0 rfl ?_
  refine ev_iload_n dX11_isKept_1 rfl ?_
  refine ev_iconst dX11_isKept_2 ?_
  refine ev_bipush dX11_isKept_3 ?_
  by_cases hp : 0 ≤ p ∧ p ≤ 7
  · skip
    obtain ⟨c, rfl⟩ : ∃ c : Nat, p = (c : Int) := ⟨p.toNat, by omega⟩
    refine ev_csi dX11_isKept_5 lX11_164 (f_isIn1 hp) (by decide) rfl rfl (Nat.le_of_ble_eq_true rfl) rfl (fun r z1 q => ?_)
    obtain ⟨rfl, e⟩ := q
    rw [e]
    refine ev_ifeq 15 dX11_isKept_8 (fun h_no => (by exfalso; omega)) (fun hbr => ?_)
    refine ev_iconst dX11_isKept_11 ?_
    refine ev_gt 16 dX11_isKept_12 ?_
    refine ev_pt dX11_isKept_16 fX11_161 hI.o hI.n rfl ?_
    refine ev_aload_n dX11_isKept_19 rfl ?_
    refine ev_getiv dX11_isKept_20 fX11_161 hI.o hI.n rfl (show _ = 0 from rfl) ?_
    refine ev_ifne 42 dX11_isKept_23 (fun h_no => (by exfalso; omega)) (fun hbr => ?_)
    refine ev_aload_n dX11_isKept_26 rfl ?_
    refine ev_getrv dX11_isKept_27 fX11_13 hI.o hI.n rfl hI.v_v ?_
    refine ev_iload_n dX11_isKept_30 rfl ?_
    have hI2 : RI (h.put 42 0 0) := (KP.rf.pf (A := []) (F := [0]) (by decide)).ri hI
    refine ev_csi dX11_isKept_31 lX11_278 (s_keptAt (by omega) (by omega)) (by decide) rfl rfl (Nat.le_of_ble_eq_true rfl) rfl (fun r z2 q => ?_)
    obtain ⟨rfl, e⟩ := q
    rw [e, show (369 : Int) + 25 * (c : Int) = ((369 + 25 * c : Nat) : Int) from by omega]
    refine ev_ildv dX11_isKept_34 hI.k_v hI.n_v rfl (by omega) (by omega) (show _ = h.vl 43 _ from rfl) ?_
    by_cases hz : 0 < h.vl 43 (369 + 25 * c)
    · skip
      refine ev_ifle 42 dX11_isKept_35 (fun h_no => (by exfalso; exact absurd (show h.vl 43 (369 + 25 * c) ≤ 0 from h_no) (by omega))) (fun hb => ?_)
      refine ev_iconst dX11_isKept_38 ?_
      refine ev_gt 43 dX11_isKept_39 ?_
      exact ev_zret dX11_isKept_43 (⟨_, rfl, KP.rf.pf (by decide), Or.inr ⟨hp, rfl, by rw [show ((c : Nat) : Int).toNat = c from rfl, if_pos hz]⟩⟩) (Or.inr rfl)
    · skip
      refine ev_ifle 42 dX11_isKept_35 (fun hb => ?_) (fun h_no => (by exfalso; exact absurd (show ¬ h.vl 43 (369 + 25 * c) ≤ 0 from h_no) (by omega)))
      refine ev_iconst dX11_isKept_42 ?_
      exact ev_zret dX11_isKept_43 (⟨_, rfl, KP.rf.pf (by decide), Or.inr ⟨hp, rfl, by rw [show ((c : Nat) : Int).toNat = c from rfl, if_neg hz]⟩⟩) (Or.inl rfl)
  · skip
    refine ev_csi dX11_isKept_5 lX11_164 (f_isIn0 hp) (by decide) rfl rfl (Nat.le_of_ble_eq_true rfl) rfl (fun r z1 q => ?_)
    obtain ⟨rfl, e⟩ := q
    rw [e]
    refine ev_ifeq 15 dX11_isKept_8 (fun hbr => ?_) (fun h_no => (by exfalso; omega))
    refine ev_iconst dX11_isKept_15 ?_
    refine ev_pt dX11_isKept_16 fX11_161 hI.o hI.n rfl ?_
    refine ev_aload_n dX11_isKept_19 rfl ?_
    refine ev_getiv dX11_isKept_20 fX11_161 hI.o hI.n rfl (show _ = 1 from rfl) ?_
    refine ev_ifne 42 dX11_isKept_23 (fun hbr => ?_) (fun h_no => (by exfalso; omega))
    refine ev_iconst dX11_isKept_42 ?_
    exact ev_zret dX11_isKept_43 (⟨_, rfl, KP.rf.pf (by decide), Or.inl ⟨hp, rfl⟩⟩) (Or.inl rfl)
set_option maxRecDepth 100000 in
theorem r_reason {p q : Int} {h : AH} (hI : RI h) : CV mX11_reason 3 [rv 42, iv p, iv q] h (oi fun r h1 => KP h h1 [] [0] ∧ ((¬ (0 ≤ p ∧ p ≤ 1) ∧ h1.vl 42 0 = 1) ∨ ((0 ≤ p ∧ p ≤ 1) ∧ (h.vl 42 3 = 0 ∨ (p = 1 ∧ h.vl 42 5 = 0)) ∧ h1.vl 42 0 = 2) ∨ ((0 ≤ p ∧ p ≤ 1) ∧ ¬ (h.vl 42 3 = 0 ∨ (p = 1 ∧ h.vl 42 5 = 0)) ∧ h1.vl 42 0 = 0 ∧ r = (if p = 0 then (if q = 0 then h.vl 42 3 else h.vl 42 4) else if q = 0 then h.vl 42 5 else h.vl 42 6)))) := by
  refine cv_of cdX11_reason ?_
  show EV _ _ 0 [rv 42, iv p, iv q] [] h _
  refine ev_aload_n dX11_reason_0 rfl ?_
  refine ev_iload_n dX11_reason_1 rfl ?_
  refine ev_iconst dX11_reason_2 ?_
  refine ev_iconst dX11_reason_3 ?_
  by_cases hp : 0 ≤ p ∧ p ≤ 1
  · skip
    refine ev_csi dX11_reason_4 lX11_164 (f_isIn1 hp) (by decide) rfl rfl (Nat.le_of_ble_eq_true rfl) rfl (fun r z1 q9 => ?_)
    obtain ⟨rfl, e⟩ := q9
    rw [e]
    refine ev_ifne 14 dX11_reason_7 (fun hbr => ?_) (fun h_no => (by exfalso; omega))
    refine ev_aload_n dX11_reason_14 rfl ?_
    refine ev_geti dX11_reason_15 fX11_335 hI.o hI.n rfl ?_
    by_cases w0 : h.vl 42 3 = 0
    · skip
      refine ev_ifeq 33 dX11_reason_18 (fun hb => ?_) (fun h_no => (by exfalso; omega))
      refine ev_iconst dX11_reason_33 ?_
      refine ev_gt 38 dX11_reason_34 ?_
      refine ev_pt dX11_reason_38 fX11_161 hI.o hI.n rfl ?_
      refine ev_aload_n dX11_reason_41 rfl ?_
      refine ev_getiv dX11_reason_42 fX11_161 hI.o hI.n rfl (show _ = 2 from rfl) ?_
      refine ev_ifeq 50 dX11_reason_45 (fun h_no => (by exfalso; omega)) (fun hbr => ?_)
      refine ev_iconst dX11_reason_48 ?_
      exact ev_iret dX11_reason_49 (⟨_, rfl, KP.rf.pf (by decide), Or.inr (Or.inl ⟨hp, Or.inl w0, rfl⟩)⟩)
    · skip
      refine ev_ifeq 33 dX11_reason_18 (fun h_no => (by exfalso; omega)) (fun hb => ?_)
      refine ev_iload_n dX11_reason_21 rfl ?_
      refine ev_iconst dX11_reason_22 ?_
      by_cases p1 : p = 1
      · skip
        refine ev_icmpne 37 dX11_reason_23 (fun h_no => (by exfalso; omega)) (fun hb2 => ?_)
        refine ev_aload_n dX11_reason_26 rfl ?_
        refine ev_geti dX11_reason_27 fX11_341 hI.o hI.n rfl ?_
        by_cases c0 : h.vl 42 5 = 0
        · skip
          refine ev_ifne 37 dX11_reason_30 (fun h_no => (by exfalso; omega)) (fun hb3 => ?_)
          refine ev_iconst dX11_reason_33 ?_
          refine ev_gt 38 dX11_reason_34 ?_
          refine ev_pt dX11_reason_38 fX11_161 hI.o hI.n rfl ?_
          refine ev_aload_n dX11_reason_41 rfl ?_
          refine ev_getiv dX11_reason_42 fX11_161 hI.o hI.n rfl (show _ = 2 from rfl) ?_
          refine ev_ifeq 50 dX11_reason_45 (fun h_no => (by exfalso; omega)) (fun hbr => ?_)
          refine ev_iconst dX11_reason_48 ?_
          exact ev_iret dX11_reason_49 (⟨_, rfl, KP.rf.pf (by decide), Or.inr (Or.inl ⟨hp, Or.inr ⟨p1, c0⟩, rfl⟩)⟩)
        · skip
          refine ev_ifne 37 dX11_reason_30 (fun hb3 => ?_) (fun h_no => (by exfalso; omega))
          refine ev_iconst dX11_reason_37 ?_
          refine ev_pt dX11_reason_38 fX11_161 hI.o hI.n rfl ?_
          refine ev_aload_n dX11_reason_41 rfl ?_
          refine ev_getiv dX11_reason_42 fX11_161 hI.o hI.n rfl (show _ = 0 from rfl) ?_
          refine ev_ifeq 50 dX11_reason_45 (fun hbr => ?_) (fun h_no => (by exfalso; omega))
          refine ev_iload_n dX11_reason_50 rfl ?_
          refine ev_ifne 72 dX11_reason_51 (fun hb4 => ?_) (fun h_no => (by exfalso; omega))
          refine ev_iload_n dX11_reason_72 rfl ?_
          by_cases q0 : q = 0
          · skip
            refine ev_ifeq 83 dX11_reason_73 (fun hb5 => ?_) (fun h_no => (by exfalso; omega))
            refine ev_aload_n dX11_reason_83 rfl ?_
            refine ev_getiv dX11_reason_84 fX11_341 hI.o hI.n rfl (show _ = h.vl 42 5 from rfl) ?_
            exact ev_iret dX11_reason_87 (⟨_, rfl, KP.rf.pf (by decide), Or.inr (Or.inr ⟨hp, fun z => z.elim w0 (fun z => c0 z.2), rfl, by rw [if_neg (by omega), if_pos q0]⟩)⟩)
          · skip
            refine ev_ifeq 83 dX11_reason_73 (fun h_no => (by exfalso; omega)) (fun hb5 => ?_)
            refine ev_aload_n dX11_reason_76 rfl ?_
            refine ev_getiv dX11_reason_77 fX11_437 hI.o hI.n rfl (show _ = h.vl 42 6 from rfl) ?_
            refine ev_gt 87 dX11_reason_80 ?_
            exact ev_iret dX11_reason_87 (⟨_, rfl, KP.rf.pf (by decide), Or.inr (Or.inr ⟨hp, fun z => z.elim w0 (fun z => c0 z.2), rfl, by rw [if_neg (by omega), if_neg q0]⟩)⟩)
      · skip
        refine ev_icmpne 37 dX11_reason_23 (fun hb2 => ?_) (fun h_no => (by exfalso; omega))
        refine ev_iconst dX11_reason_37 ?_
        refine ev_pt dX11_reason_38 fX11_161 hI.o hI.n rfl ?_
        refine ev_aload_n dX11_reason_41 rfl ?_
        refine ev_getiv dX11_reason_42 fX11_161 hI.o hI.n rfl (show _ = 0 from rfl) ?_
        refine ev_ifeq 50 dX11_reason_45 (fun hbr => ?_) (fun h_no => (by exfalso; omega))
        refine ev_iload_n dX11_reason_50 rfl ?_
        refine ev_ifne 72 dX11_reason_51 (fun h_no => (by exfalso; omega)) (fun hb4 => ?_)
        refine ev_iload_n dX11_reason_54 rfl ?_
        by_cases q0 : q = 0
        · skip
          refine ev_ifeq 65 dX11_reason_55 (fun hb5 => ?_) (fun h_no => (by exfalso; omega))
          refine ev_aload_n dX11_reason_65 rfl ?_
          refine ev_getiv dX11_reason_66 fX11_335 hI.o hI.n rfl (show _ = h.vl 42 3 from rfl) ?_
          refine ev_gt 87 dX11_reason_69 ?_
          exact ev_iret dX11_reason_87 (⟨_, rfl, KP.rf.pf (by decide), Or.inr (Or.inr ⟨hp, fun z => z.elim w0 (fun z => p1 z.1), rfl, by rw [if_pos (by omega), if_pos q0]⟩)⟩)
        · skip
          refine ev_ifeq 65 dX11_reason_55 (fun h_no => (by exfalso; omega)) (fun hb5 => ?_)
          refine ev_aload_n dX11_reason_58 rfl ?_
          refine ev_getiv dX11_reason_59 fX11_338 hI.o hI.n rfl (show _ = h.vl 42 4 from rfl) ?_
          refine ev_gt 87 dX11_reason_62 ?_
          exact ev_iret dX11_reason_87 (⟨_, rfl, KP.rf.pf (by decide), Or.inr (Or.inr ⟨hp, fun z => z.elim w0 (fun z => p1 z.1), rfl, by rw [if_pos (by omega), if_neg q0]⟩)⟩)
  · skip
    refine ev_csi dX11_reason_4 lX11_164 (f_isIn0 hp) (by decide) rfl rfl (Nat.le_of_ble_eq_true rfl) rfl (fun r z1 q9 => ?_)
    obtain ⟨rfl, e⟩ := q9
    rw [e]
    refine ev_ifne 14 dX11_reason_7 (fun h_no => (by exfalso; omega)) (fun hbr => ?_)
    refine ev_iconst dX11_reason_10 ?_
    refine ev_gt 38 dX11_reason_11 ?_
    refine ev_pt dX11_reason_38 fX11_161 hI.o hI.n rfl ?_
    refine ev_aload_n dX11_reason_41 rfl ?_
    refine ev_getiv dX11_reason_42 fX11_161 hI.o hI.n rfl (show _ = 1 from rfl) ?_
    refine ev_ifeq 50 dX11_reason_45 (fun h_no => (by exfalso; omega)) (fun hbr => ?_)
    refine ev_iconst dX11_reason_48 ?_
    exact ev_iret dX11_reason_49 (⟨_, rfl, KP.rf.pf (by decide), Or.inl ⟨hp, rfl⟩⟩)
set_option maxRecDepth 100000 in
theorem r_character {p : Int} {n : Nat} {h : AH} (hI : RI h) (hn0 : h.vl 42 80 = (n : Int)) (hn : n ≤ 900) (hc : ∀ j, j < n → 0 ≤ h.vl 90 j ∧ h.vl 90 j ≤ 127) : CV mX11_character 3 [rv 42, iv p] h (oi fun r h1 => KP h h1 [] [0] ∧ ((¬ (0 ≤ p ∧ p < (n : Int)) ∧ h1.vl 42 0 = 1) ∨ ((0 ≤ p ∧ p < (n : Int)) ∧ h1.vl 42 0 = 0 ∧ r = h.vl 90 p.toNat))) := by
  refine cv_of cdX11_character ?_
  show EV _ _ 0 [rv 42, iv p] [] h _
  refine ev_aload_n dX11_character_0 rfl ?_
  refine ev_iload_n dX11_character_1 rfl ?_
  refine ev_iconst dX11_character_2 ?_
  refine ev_aload_n dX11_character_3 rfl ?_
  refine ev_getiv dX11_character_4 fX11_440 hI.o hI.n rfl hn0 ?_
  refine ev_iconst dX11_character_7 ?_
  refine ev_isub dX11_character_8 (by unfold ir; omega) ?_
  by_cases hp : 0 ≤ p ∧ p < (n : Int)
  · skip
    obtain ⟨j, rfl⟩ : ∃ j : Nat, p = (j : Int) := ⟨p.toNat, by omega⟩
    refine ev_csi dX11_character_9 lX11_164 (f_isIn1 (by omega)) (by decide) rfl rfl (Nat.le_of_ble_eq_true rfl) rfl (fun r z1 q9 => ?_)
    obtain ⟨rfl, e⟩ := q9
    rw [e]
    refine ev_ifeq 19 dX11_character_12 (fun h_no => (by exfalso; omega)) (fun hbr => ?_)
    refine ev_iconst dX11_character_15 ?_
    refine ev_gt 20 dX11_character_16 ?_
    refine ev_pt dX11_character_20 fX11_161 hI.o hI.n rfl ?_
    refine ev_aload_n dX11_character_23 rfl ?_
    refine ev_getiv dX11_character_24 fX11_161 hI.o hI.n rfl (show _ = 0 from rfl) ?_
    refine ev_ifne 40 dX11_character_27 (fun h_no => (by exfalso; omega)) (fun hbr => ?_)
    refine ev_aload_n dX11_character_30 rfl ?_
    refine ev_getrv dX11_character_31 fX11_155 hI.o hI.n rfl hI.v_line ?_
    refine ev_iload_n dX11_character_34 rfl ?_
    refine ev_ildv dX11_character_35 hI.k_line hI.n_line rfl (by omega) (by omega) (show _ = h.vl 90 j from rfl) ?_
    refine ev_i2c dX11_character_36 ?_
    refine ev_gt 41 dX11_character_37 ?_
    have := hc j (by omega)
    rw [show h.vl 90 j % 65536 = h.vl 90 j from by omega]
    exact ev_cret dX11_character_41 (⟨_, rfl, KP.rf.pf (by decide), Or.inr ⟨hp, rfl, rfl⟩⟩) (by omega) (by omega)
  · skip
    refine ev_csi dX11_character_9 lX11_164 (f_isIn0 (by omega)) (by decide) rfl rfl (Nat.le_of_ble_eq_true rfl) rfl (fun r z1 q9 => ?_)
    obtain ⟨rfl, e⟩ := q9
    rw [e]
    refine ev_ifeq 19 dX11_character_12 (fun hbr => ?_) (fun h_no => (by exfalso; omega))
    refine ev_iconst dX11_character_19 ?_
    refine ev_pt dX11_character_20 fX11_161 hI.o hI.n rfl ?_
    refine ev_aload_n dX11_character_23 rfl ?_
    refine ev_getiv dX11_character_24 fX11_161 hI.o hI.n rfl (show _ = 1 from rfl) ?_
    refine ev_ifne 40 dX11_character_27 (fun hbr => ?_) (fun h_no => (by exfalso; omega))
    refine ev_iconst dX11_character_40 ?_
    exact ev_cret dX11_character_41 (⟨_, rfl, KP.rf.pf (by decide), Or.inl ⟨hp, rfl⟩⟩) (by omega) (by omega)
set_option maxRecDepth 100000 in
theorem r_faultPos {h : AH} (hI : RI h) : CV mX11_faultPosition 3 [rv 42] h (oi fun r h1 => KP h h1 [] [0] ∧ h1.vl 42 0 = 0 ∧ r = h.vl 42 9) := by
  refine cv_of cdX11_faultPosition ?_
  show EV _ _ 0 [rv 42] [] h _
  refine ev_aload_n dX11_faultPosition_0 rfl ?_
  refine ev_iconst dX11_faultPosition_1 ?_
  refine ev_pt dX11_faultPosition_2 fX11_161 hI.o hI.n rfl ?_
  refine ev_aload_n dX11_faultPosition_5 rfl ?_
  refine ev_getiv dX11_faultPosition_6 fX11_7 hI.o hI.n rfl (show _ = h.vl 42 9 from rfl) ?_
  exact ev_iret dX11_faultPosition_9 (⟨_, rfl, KP.rf.pf (by decide), rfl, rfl⟩)
set_option maxRecDepth 100000 in
theorem r_isTold {h : AH} (hI : RI h) : CV mX11_isTold 3 [rv 42] h (oi fun r h1 => KP h h1 [] [0] ∧ h1.vl 42 0 = 0 ∧ r = 1) := by
  refine cv_of cdX11_isTold ?_
  show EV _ _ 0 [rv 42] [] h _
  refine ev_aload_n dX11_isTold_0 rfl ?_
  refine ev_iconst dX11_isTold_1 ?_
  refine ev_pt dX11_isTold_2 fX11_161 hI.o hI.n rfl ?_
  refine ev_iconst dX11_isTold_5 ?_
  exact ev_zret dX11_isTold_6 (⟨_, rfl, KP.rf.pf (by decide), rfl, rfl⟩) (Or.inr rfl)
