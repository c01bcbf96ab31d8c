/-! states of a tutor -/
/-- a state at a: its row of lessons, its row of kept types -/
def ST (h : AH) (a ta ka : Nat) : Prop := h.kd a = (6, 5) ∧ a < h.n ∧ h.vl a 0 = (ta : Int) ∧ h.kd ta = (107, 6) ∧ ta < h.n ∧ h.vl a 1 = (ka : Int) ∧ h.kd ka = (105, 8) ∧ ka < h.n
/-- the lesson at a place of a state, -1 for none -/
def tmAt (h : AH) (b tb : Nat) (i : Int) : Int := if 0 ≤ i ∧ i < h.vl b 2 ∧ i < 6 then h.vl tb i.toNat else -1
def kpAt (h : AH) (kb : Nat) (i : Int) : Int := if 0 ≤ i ∧ i < 8 then h.vl kb i.toNat else -1
set_option maxRecDepth 100000 in
theorem s_termAt {a ta ka : Nat} {i : Int} {h : AH} (hs : ST h a ta ka) : CV mX6_termAt 1 [rv a, iv i] h (oa fun r h1 => r = tmAt h a ta i ∧ h1 = h) := by
  obtain ⟨k0, n0, v0, k1, n1, v1, k2, n2⟩ := hs
  refine cv_of cdX6_termAt ?_
  show EV _ _ 0 [rv a, iv i] [] h _
  refine ev_iload_n dX6_termAt_0 rfl ?_
  refine ev_iflt 30 dX6_termAt_1 (fun hc => ?_) (fun hc => ?_)
  · refine ev_null dX6_termAt_30 ?_
    exact ev_aret dX6_termAt_31 (⟨_, rfl, by unfold tmAt; rw [if_neg (by omega)], rfl⟩) rfl (Or.inl ⟨_, rfl⟩)
  · refine ev_iload_n dX6_termAt_4 rfl ?_
    refine ev_aload_n dX6_termAt_5 rfl ?_
    refine ev_geti dX6_termAt_6 fX6_31 k0 n0 rfl ?_
    refine ev_icmpge 30 dX6_termAt_9 (fun hc2 => ?_) (fun hc2 => ?_)
    · refine ev_null dX6_termAt_30 ?_
      exact ev_aret dX6_termAt_31 (⟨_, rfl, by unfold tmAt; rw [if_neg (by omega)], rfl⟩) rfl (Or.inl ⟨_, rfl⟩)
    · refine ev_iload_n dX6_termAt_12 rfl ?_
      refine ev_aload_n dX6_termAt_13 rfl ?_
      refine ev_getrv dX6_termAt_14 fX6_11 k0 n0 rfl v0 ?_
      refine ev_al dX6_termAt_17 k1 n1 rfl (by decide) (by omega) ?_
      refine ev_icmpge 30 dX6_termAt_18 (fun hc3 => ?_) (fun hc3 => ?_)
      · refine ev_null dX6_termAt_30 ?_
        exact ev_aret dX6_termAt_31 (⟨_, rfl, by unfold tmAt; rw [if_neg (by omega)], rfl⟩) rfl (Or.inl ⟨_, rfl⟩)
      · refine ev_aload_n dX6_termAt_21 rfl ?_
        refine ev_getrv dX6_termAt_22 fX6_11 k0 n0 rfl v0 ?_
        refine ev_iload_n dX6_termAt_25 rfl ?_
        refine ev_aald dX6_termAt_26 rfl (by decide) k1 n1 rfl (by omega) (by omega) ?_
        refine ev_gt 31 dX6_termAt_27 ?_
        exact ev_aret dX6_termAt_31 (⟨_, rfl, by unfold tmAt; rw [if_pos (by omega)], rfl⟩) rfl (Or.inl ⟨_, rfl⟩)
set_option maxRecDepth 100000 in
theorem s_keptAtC {a ta ka : Nat} {i : Int} {h : AH} (hs : ST h a ta ka) : CV mX6_keptAt 1 [rv a, iv i] h (oa fun r h1 => r = kpAt h ka i ∧ h1 = h) := by
  obtain ⟨k0, n0, v0, k1, n1, v1, k2, n2⟩ := hs
  refine cv_of cdX6_keptAt ?_
  show EV _ _ 0 [rv a, iv i] [] h _
  refine ev_iload_n dX6_keptAt_0 rfl ?_
  refine ev_iflt 22 dX6_keptAt_1 (fun hc => ?_) (fun hc => ?_)
  · refine ev_null dX6_keptAt_22 ?_
    exact ev_aret dX6_keptAt_23 (⟨_, rfl, by unfold kpAt; rw [if_neg (by omega)], rfl⟩) rfl (Or.inl ⟨_, rfl⟩)
  · refine ev_iload_n dX6_keptAt_4 rfl ?_
    refine ev_aload_n dX6_keptAt_5 rfl ?_
    refine ev_getrv dX6_keptAt_6 fX6_19 k0 n0 rfl v1 ?_
    refine ev_al dX6_keptAt_9 k2 n2 rfl (by decide) (by omega) ?_
    refine ev_icmpge 22 dX6_keptAt_10 (fun hc3 => ?_) (fun hc3 => ?_)
    · refine ev_null dX6_keptAt_22 ?_
      exact ev_aret dX6_keptAt_23 (⟨_, rfl, by unfold kpAt; rw [if_neg (by omega)], rfl⟩) rfl (Or.inl ⟨_, rfl⟩)
    · refine ev_aload_n dX6_keptAt_13 rfl ?_
      refine ev_getrv dX6_keptAt_14 fX6_19 k0 n0 rfl v1 ?_
      refine ev_iload_n dX6_keptAt_17 rfl ?_
      refine ev_aald dX6_keptAt_18 rfl (by decide) k2 n2 rfl (by omega) (by omega) ?_
      refine ev_gt 23 dX6_keptAt_19 ?_
      exact ev_aret dX6_keptAt_23 (⟨_, rfl, by unfold kpAt; rw [if_pos (by omega)], rfl⟩) rfl (Or.inl ⟨_, rfl⟩)
theorem ST.ks {h h1 : AH} {a ta ka : Nat} {A : List Nat} {F : List (Nat × Nat)} (hs : ST h a ta ka) (k : KS h h1 A F) (hA : a ∉ A) (h0 : (a, 0) ∉ F) (h1' : (a, 1) ∉ F) : ST h1 a ta ka := by
  obtain ⟨k0, n0, v0, k1, n1, v1, k2, n2⟩ := hs
  have d : h1.kd = h.kd := k.2.1
  exact ⟨by rw [d]; exact k0, by rw [k.1]; exact n0, (k.2.2.2.2 a 0 hA h0).trans v0, by rw [d]; exact k1, by rw [k.1]; exact n1, (k.2.2.2.2 a 1 hA h1').trans v1, by rw [d]; exact k2, by rw [k.1]; exact n2⟩
/-- a state becomes as another one is -/
def TKQ (h h1 : AH) (a ta ka b tb kb : Nat) : Prop := KS h h1 [ta, ka] [(a, 2), (a, 3), (a, 4)] ∧ (∀ j : Nat, j < 6 → h1.vl ta j = tmAt h b tb j) ∧ (∀ j : Nat, j < 8 → h1.vl ka j = kpAt h kb j) ∧ h1.vl a 2 = h.vl b 2 ∧ h1.vl a 3 = h.vl b 3 ∧ h1.vl a 4 = h.vl b 4
set_option maxRecDepth 100000 in
theorem s_take {a ta ka b tb kb : Nat} {h : AH} (ha : ST h a ta ka) (hb : ST h b tb kb) (hne : tb ≠ ta ∧ tb ≠ ka ∧ kb ≠ ta ∧ kb ≠ ka ∧ a ≠ ta ∧ a ≠ ka ∧ b ≠ ta ∧ b ≠ ka ∧ a ≠ b ∧ ta ≠ ka)
    (hT : ∀ j : Nat, j < 6 → 0 ≤ h.vl tb j → h.kd (h.vl tb j).toNat = (7, 2)) (hS : ∀ j : Nat, j < 8 → 0 ≤ h.vl kb j → h.kd (h.vl kb j).toNat = (5, 2)) :
    CV mX6_take 2 [rv a, rv b] h (on fun h1 => TKQ h h1 a ta ka b tb kb) := by
  obtain ⟨d1, d2, d3, d4, d5, d6, d7, d8, d9, d10⟩ := hne
  refine cv_of cdX6_take ?_
  show EV _ _ 0 [rv a, rv b, uv] [] h _
  have tms : ∀ g, KS h g [ta, ka] [] → ∀ i : Nat, tmAt g b tb i = tmAt h b tb i := fun g k i => by
    unfold tmAt
    rw [k.2.2.2.2 b 2 (by simp [d7, d8]) (by simp), k.2.2.2.2 tb _ (by simp [d1, d2]) (by simp)]
  have kps : ∀ g, KS h g [ta, ka] [] → ∀ i : Nat, kpAt g kb i = kpAt h kb i := fun g k i => by
    unfold kpAt
    rw [k.2.2.2.2 kb _ (by simp [d3, d4]) (by simp)]
  have K2 : ∀ (m i : Nat) (g : AH), i + m = 8 → KS h g [ta, ka] [] → (∀ j : Nat, j < 6 → g.vl ta j = tmAt h b tb j) → (∀ j : Nat, j < i → g.vl ka j = kpAt h kb j) → EV mX6_take 2 30 [rv a, rv b, iv i] [] g (on fun h1 => TKQ h h1 a ta ka b tb kb) := by
    intro m
    induction m with
    | zero =>
      intro i g hi hk h6 h8
      have hga := ha.ks hk (by simp [d5, d6]) (by simp) (by simp)
      have hgb := hb.ks hk (by simp [d7, d8]) (by simp) (by simp)
      refine ev_iload_n dX6_take_30 rfl ?_
      refine ev_aload_n dX6_take_31 rfl ?_
      refine ev_getrv dX6_take_32 fX6_19 hga.1 hga.2.1 rfl hga.2.2.2.2.2.1 ?_
      refine ev_al dX6_take_35 hga.2.2.2.2.2.2.1 hga.2.2.2.2.2.2.2 rfl (by decide) (by omega) ?_
      refine ev_icmpge 56 dX6_take_36 (fun hc => ?_) (fun h_no => (by exfalso; omega))
      refine ev_aload_n dX6_take_56 rfl ?_
      refine ev_aload_n dX6_take_57 rfl ?_
      refine ev_geti dX6_take_58 fX6_31 hgb.1 hgb.2.1 rfl ?_
      refine ev_pt dX6_take_61 fX6_31 hga.1 hga.2.1 rfl ?_
      refine ev_aload_n dX6_take_64 rfl ?_
      refine ev_aload_n dX6_take_65 rfl ?_
      refine ev_geti dX6_take_66 fX6_35 hgb.1 hgb.2.1 rfl ?_
      refine ev_pt dX6_take_69 fX6_35 hga.1 hga.2.1 rfl ?_
      refine ev_aload_n dX6_take_72 rfl ?_
      refine ev_aload_n dX6_take_73 rfl ?_
      refine ev_geti dX6_take_74 fX6_38 hgb.1 hgb.2.1 rfl ?_
      refine ev_pt dX6_take_77 fX6_38 hga.1 hga.2.1 rfl ?_
      refine ev_vret dX6_take_80 (⟨rfl, (((hk.wk (fun _ z => z) (fun _ z => nomatch z)).pf (by simp)).pf (by simp)).pf (by simp), fun j hj => ?_, fun j hj => ?_, ?_, ?_, ?_⟩)
      · rw [AH.put_vl, if_neg (by omega), AH.put_vl, if_neg (by omega), AH.put_vl, if_neg (by omega)]
        exact h6 j hj
      · rw [AH.put_vl, if_neg (by omega), AH.put_vl, if_neg (by omega), AH.put_vl, if_neg (by omega)]
        exact h8 j (by omega)
      · rw [AH.put_vl, if_neg (by omega), AH.put_vl, if_neg (by omega), AH.put_vl, if_pos ⟨rfl, rfl⟩]
        exact hk.2.2.2.2 b 2 (by simp [d7, d8]) (by simp)
      · rw [AH.put_vl, if_neg (by omega), AH.put_vl, if_pos ⟨rfl, rfl⟩, AH.put_vl, if_neg (by omega)]
        exact hk.2.2.2.2 b 3 (by simp [d7, d8]) (by simp)
      · rw [AH.put_vl, if_pos ⟨rfl, rfl⟩, AH.put_vl, if_neg (by omega), AH.put_vl, if_neg (by omega)]
        exact hk.2.2.2.2 b 4 (by simp [d7, d8]) (by simp)
    | succ m ih =>
      intro i g hi hk h6 h8
      have hga := ha.ks hk (by simp [d5, d6]) (by simp) (by simp)
      have hgb := hb.ks hk (by simp [d7, d8]) (by simp) (by simp)
      refine ev_iload_n dX6_take_30 rfl ?_
      refine ev_aload_n dX6_take_31 rfl ?_
      refine ev_getrv dX6_take_32 fX6_19 hga.1 hga.2.1 rfl hga.2.2.2.2.2.1 ?_
      refine ev_al dX6_take_35 hga.2.2.2.2.2.2.1 hga.2.2.2.2.2.2.2 rfl (by decide) (by omega) ?_
      refine ev_icmpge 56 dX6_take_36 (fun h_no => (by exfalso; omega)) (fun hc => ?_)
      refine ev_aload_n dX6_take_39 rfl ?_
      refine ev_getrv dX6_take_40 fX6_19 hga.1 hga.2.1 rfl hga.2.2.2.2.2.1 ?_
      refine ev_iload_n dX6_take_43 rfl ?_
      refine ev_aload_n dX6_take_44 rfl ?_
      refine ev_iload_n dX6_take_45 rfl ?_
      refine ev_cvr dX6_take_46 lX6_27 (s_keptAtC hgb) (by decide) hgb.1 hgb.2.1 rfl rfl rfl (Nat.le_of_ble_eq_true rfl) rfl (fun r g1 q => ?_)
      obtain ⟨rfl, rfl⟩ := q
      rw [kps _ hk]
      have hx : 0 ≤ kpAt h kb i → g1.kd (kpAt h kb i).toNat = (5, 2) := fun z => by
        rw [show g1.kd = h.kd from hk.2.1]
        have e : kpAt h kb i = h.vl kb i := by unfold kpAt; rw [if_pos (by omega)]; rfl
        rw [e] at z ⊢
        exact hS i (by omega) z
      refine ev_aast dX6_take_49 rfl (by decide) kc_X5 hga.2.2.2.2.2.2.1 hga.2.2.2.2.2.2.2 rfl (by omega) (by omega) hx ?_
      refine ev_iin2 dX6_take_50 (by unfold ir; omega) ?_
      refine ev_gt 30 dX6_take_53 ?_
      refine ih (i + 1) _ (by omega) (hk.pa (by simp)) (fun j hj => ?_) (fun j hj => ?_)
      · rw [AH.put_vl, if_neg (by omega)]
        exact h6 j hj
      · by_cases e : j = i
        · rw [e, AH.put_vl, if_pos ⟨rfl, by simp⟩]
        · rw [AH.put_vl, if_neg (by simp; omega)]
          exact h8 j (by omega)
  have K1 : ∀ (m i : Nat) (g : AH), i + m = 6 → KS h g [ta, ka] [] → (∀ j : Nat, j < i → g.vl ta j = tmAt h b tb j) → EV mX6_take 2 2 [rv a, rv b, iv i] [] g (on fun h1 => TKQ h h1 a ta ka b tb kb) := by
    intro m
    induction m with
    | zero =>
      intro i g hi hk h6
      have hga := ha.ks hk (by simp [d5, d6]) (by simp) (by simp)
      refine ev_iload_n dX6_take_2 rfl ?_
      refine ev_aload_n dX6_take_3 rfl ?_
      refine ev_getrv dX6_take_4 fX6_11 hga.1 hga.2.1 rfl hga.2.2.1 ?_
      refine ev_al dX6_take_7 hga.2.2.2.1 hga.2.2.2.2.1 rfl (by decide) (by omega) ?_
      refine ev_icmpge 28 dX6_take_8 (fun hc => ?_) (fun h_no => (by exfalso; omega))
      refine ev_iconst dX6_take_28 ?_
      refine ev_ist2 dX6_take_29 ?_
      exact K2 8 0 g rfl hk (fun j hj => h6 j (by omega)) (fun j hj => absurd hj (Nat.not_lt_zero j))
    | succ m ih =>
      intro i g hi hk h6
      have hga := ha.ks hk (by simp [d5, d6]) (by simp) (by simp)
      have hgb := hb.ks hk (by simp [d7, d8]) (by simp) (by simp)
      refine ev_iload_n dX6_take_2 rfl ?_
      refine ev_aload_n dX6_take_3 rfl ?_
      refine ev_getrv dX6_take_4 fX6_11 hga.1 hga.2.1 rfl hga.2.2.1 ?_
      refine ev_al dX6_take_7 hga.2.2.2.1 hga.2.2.2.2.1 rfl (by decide) (by omega) ?_
      refine ev_icmpge 28 dX6_take_8 (fun h_no => (by exfalso; omega)) (fun hc => ?_)
      refine ev_aload_n dX6_take_11 rfl ?_
      refine ev_getrv dX6_take_12 fX6_11 hga.1 hga.2.1 rfl hga.2.2.1 ?_
      refine ev_iload_n dX6_take_15 rfl ?_
      refine ev_aload_n dX6_take_16 rfl ?_
      refine ev_iload_n dX6_take_17 rfl ?_
      refine ev_cvr dX6_take_18 lX6_23 (s_termAt hgb) (by decide) hgb.1 hgb.2.1 rfl rfl rfl (Nat.le_of_ble_eq_true rfl) rfl (fun r g1 q => ?_)
      obtain ⟨rfl, rfl⟩ := q
      rw [tms _ hk]
      have hx : 0 ≤ tmAt h b tb i → g1.kd (tmAt h b tb i).toNat = (7, 2) := fun z => by
        rw [show g1.kd = h.kd from hk.2.1]
        have e : tmAt h b tb i = h.vl tb i := by
          unfold tmAt at z ⊢
          split
          · rfl
          · rename_i q
            rw [if_neg q] at z
            exact absurd z (by decide)
        rw [e] at z ⊢
        exact hT i (by omega) z
      refine ev_aast dX6_take_21 rfl (by decide) kc_X7 hga.2.2.2.1 hga.2.2.2.2.1 rfl (by omega) (by omega) hx ?_
      refine ev_iin2 dX6_take_22 (by unfold ir; omega) ?_
      refine ev_gt 2 dX6_take_25 ?_
      refine ih (i + 1) _ (by omega) (hk.pa (by simp)) (fun j hj => ?_)
      by_cases e : j = i
      · rw [e, AH.put_vl, if_pos ⟨rfl, by simp⟩]
      · rw [AH.put_vl, if_neg (by simp; omega)]
        exact h6 j (by omega)
  refine ev_iconst dX6_take_0 ?_
  refine ev_ist2 dX6_take_1 ?_
  exact K1 6 0 h rfl KS.rf (fun j hj => absurd hj (Nat.not_lt_zero j))
