/-! is a lesson's type as general as another one's: the reference -/
theorem row_inj : ∀ (A B : TE) (x y : List Int), rowT A ++ x = rowT B ++ y → A = B ∧ x = y
  | .var a, .var b, x, y, h => by
    rw [rowT, rowT] at h
    obtain ⟨h1, h2⟩ := List.cons.inj h
    refine ⟨?_, h2⟩
    have : a = b := by
      by_cases c : a < 2
      · by_cases d : b < 2
        · rw [if_pos c, if_pos d] at h1; omega
        · rw [if_pos c, if_neg d] at h1; omega
      · by_cases d : b < 2
        · rw [if_neg c, if_pos d] at h1; omega
        · rw [if_neg c, if_neg d] at h1; omega
    rw [this]
  | .var a, .op b c, x, y, h => by
    rw [rowT, rowT] at h
    obtain ⟨h1, h2⟩ := List.cons.inj h
    exfalso
    by_cases c : a < 2
    · rw [if_pos c] at h1; omega
    · rw [if_neg c] at h1; omega
  | .op a c, .var b, x, y, h => by
    rw [rowT, rowT] at h
    obtain ⟨h1, h2⟩ := List.cons.inj h
    exfalso
    by_cases c : b < 2
    · rw [if_pos c] at h1; omega
    · rw [if_neg c] at h1; omega
  | .op a b, .op c d, x, y, h => by
    rw [rowT, rowT, List.cons_append, List.cons_append, List.append_assoc, List.append_assoc] at h
    obtain ⟨-, h2⟩ := List.cons.inj h
    obtain ⟨e1, h3⟩ := row_inj a c _ _ h2
    obtain ⟨e2, h4⟩ := row_inj b d _ _ h3
    rw [e1, e2]
    exact ⟨rfl, h4⟩
theorem row_eq {A B : TE} : rowT A = rowT B ↔ A = B := ⟨fun h => (row_inj A B [] [] (by rw [h])).1, fun h => by rw [h]⟩
theorem row_leaf {v : Nat} : ∃ e : Int, rowT (.var v) = [e] ∧ e ≠ 2 ∧ (v < 2 → e = (v : Int)) ∧ (2 ≤ v → e = (v : Int) + 1) := by
  by_cases c : v < 2
  · exact ⟨(v : Int), by rw [rowT, if_pos c], by omega, fun _ => rfl, fun z => absurd z (by omega)⟩
  · exact ⟨(v : Int) + 1, by rw [rowT, if_neg c], by omega, fun z => absurd z c, fun _ => rfl⟩
set_option maxRecDepth 100000 in
theorem en_skipR {h : AH} {a : Int} {Q : AV → AH → Prop} (hI : RI h) : ∀ (T : TE) (k : Nat) (o : Int), RwA (h.vl 80) k (rowT T) → k + sz T ≤ 209 → 1 ≤ o → o + (sz T : Int) ≤ 5000 → EV mX11_endOf 1 4 [rv 42, iv a, iv ((k + sz T : Nat) : Int), iv (o - 1)] [] h Q → EV mX11_endOf 1 4 [rv 42, iv a, iv (k : Int), iv o] [] h Q
  | .var v, k, o, hr, hk, ho, ho9, K => by
    obtain ⟨e, e1, e2, -⟩ := row_leaf (v := v)
    rw [e1] at hr
    have h0 := hr.tl.1
    simp only [sz] at hk K
    refine ev_iload_n dX11_endOf_4 rfl ?_
    refine ev_ifle 32 dX11_endOf_5 (fun h_no => (by exfalso; omega)) (fun hb => ?_)
    refine ev_iload_n dX11_endOf_8 rfl ?_
    refine ev_aload_n dX11_endOf_9 rfl ?_
    refine ev_getrv dX11_endOf_10 fX11_125 hI.o hI.n rfl hI.v_two ?_
    refine ev_iload_n dX11_endOf_13 rfl ?_
    refine ev_ildv dX11_endOf_14 hI.k_two hI.n_two rfl (by omega) (by omega) h0 ?_
    refine ev_iconst dX11_endOf_15 ?_
    refine ev_icmpne 23 dX11_endOf_16 (fun hb2 => ?_) (fun h_no => (by exfalso; omega))
    refine ev_iconst dX11_endOf_23 ?_
    refine ev_iadd dX11_endOf_24 (by unfold ir; omega) ?_
    refine ev_ist3 dX11_endOf_25 ?_
    refine ev_iin2 dX11_endOf_26 (by unfold ir; omega) ?_
    refine ev_gt 4 dX11_endOf_29 ?_
    rw [show o + -1 = o - 1 by omega]
    exact K
  | .op x y, k, o, hr, hk, ho, ho9, K => by
    rw [rowT] at hr
    obtain ⟨h0, h1⟩ := hr.tl
    obtain ⟨h2, h3⟩ := h1.app
    rw [row_len] at h3
    simp only [sz] at hk K ho9
    refine ev_iload_n dX11_endOf_4 rfl ?_
    refine ev_ifle 32 dX11_endOf_5 (fun h_no => (by exfalso; omega)) (fun hb => ?_)
    refine ev_iload_n dX11_endOf_8 rfl ?_
    refine ev_aload_n dX11_endOf_9 rfl ?_
    refine ev_getrv dX11_endOf_10 fX11_125 hI.o hI.n rfl hI.v_two ?_
    refine ev_iload_n dX11_endOf_13 rfl ?_
    refine ev_ildv dX11_endOf_14 hI.k_two hI.n_two rfl (by omega) (by omega) h0 ?_
    refine ev_iconst dX11_endOf_15 ?_
    refine ev_icmpne 23 dX11_endOf_16 (fun h_no => (by exfalso; omega)) (fun hb2 => ?_)
    refine ev_iconst dX11_endOf_19 ?_
    refine ev_gt 24 dX11_endOf_20 ?_
    refine ev_iadd dX11_endOf_24 (by unfold ir; omega) ?_
    refine ev_ist3 dX11_endOf_25 ?_
    refine ev_iin2 dX11_endOf_26 (by unfold ir; omega) ?_
    refine ev_gt 4 dX11_endOf_29 ?_
    refine en_skipR hI x (k + 1) (o + 1) h2 (by omega) (by omega) (by omega) ?_
    rw [show o + 1 - 1 = o by omega]
    refine en_skipR hI y (k + 1 + sz x) o h3 (by omega) (by omega) (by omega) ?_
    rw [show k + 1 + sz x + sz y = k + (1 + sz x + sz y) by omega]
    exact K
set_option maxRecDepth 100000 in
theorem s_endR {h : AH} {T : TE} {k : Nat} (hI : RI h) (hr : RwA (h.vl 80) k (rowT T)) (hk : k + sz T ≤ 209) : CV mX11_endOf 1 [rv 42, iv (k : Int)] h (oi fun r h1 => r = ((k + sz T : Nat) : Int) ∧ h1 = h) := by
  refine cv_of cdX11_endOf ?_
  show EV _ _ 0 [rv 42, iv (k : Int), uv, uv] [] h _
  refine ev_iload_n dX11_endOf_0 rfl ?_
  refine ev_ist2 dX11_endOf_1 ?_
  refine ev_iconst dX11_endOf_2 ?_
  refine ev_ist3 dX11_endOf_3 ?_
  refine en_skipR hI T k 1 hr hk (by omega) (by omega) ?_
  refine ev_iload_n dX11_endOf_4 rfl ?_
  refine ev_ifle 32 dX11_endOf_5 (fun hb => ?_) (fun h_no => (by exfalso; omega))
  refine ev_iload_n dX11_endOf_32 rfl ?_
  exact ev_iret dX11_endOf_33 (⟨_, rfl, rfl, rfl⟩)
set_option maxRecDepth 100000 in
theorem s_sameR {h : AH} {A B : TE} {k m : Nat} (hI : RI h) (hr : RwA (h.vl 80) k (rowT A)) (hr' : RwA (h.vl 80) m (rowT B)) (hk : k + sz A ≤ 209) (hm : m + sz B ≤ 209) : CV mX11_isSame 2 [rv 42, iv (k : Int), iv (m : Int)] h (oi fun x h1 => (x = 0 ∨ x = 1) ∧ (x = 1 ↔ A = B) ∧ h1 = h) := by
  refine cv_of cdX11_isSame ?_
  show EV _ _ 0 [rv 42, iv (k : Int), iv (m : Int), uv, uv, uv] [] h _
  refine ev_aload_n dX11_isSame_0 rfl ?_
  refine ev_iload_n dX11_isSame_1 rfl ?_
  refine ev_cvi dX11_isSame_2 lX11_406 (s_endR (T := A) (k := k) hI hr hk) (by decide) hI.o hI.n rfl rfl rfl (Nat.le_of_ble_eq_true rfl) rfl (fun r z1 q => ?_)
  obtain ⟨rfl, e1⟩ := q
  rw [e1]
  refine ev_iload_n dX11_isSame_5 rfl ?_
  refine ev_isub dX11_isSame_6 (by unfold ir; omega) ?_
  refine ev_ist3 dX11_isSame_7 ?_
  rw [show ((k + sz A : Nat) : Int) - (k : Int) = (sz A : Int) by omega]
  refine ev_aload_n dX11_isSame_8 rfl ?_
  refine ev_iload_n dX11_isSame_9 rfl ?_
  refine ev_cvi dX11_isSame_10 lX11_406 (s_endR (T := B) (k := m) hI hr' hm) (by decide) hI.o hI.n rfl rfl rfl (Nat.le_of_ble_eq_true rfl) rfl (fun r z1 q => ?_)
  obtain ⟨rfl, e2⟩ := q
  rw [e2]
  refine ev_iload_n dX11_isSame_13 rfl ?_
  refine ev_isub dX11_isSame_14 (by unfold ir; omega) ?_
  refine ev_iload_n dX11_isSame_15 rfl ?_
  by_cases c : sz B = sz A
  · skip
    refine ev_icmpeq 21 dX11_isSame_16 (fun hb => ?_) (fun h_no => (by exfalso; omega))
    refine ev_iconst dX11_isSame_21 ?_
    refine ev_ist4 dX11_isSame_22 ?_
    refine ev_iconst dX11_isSame_24 ?_
    refine ev_ist5 dX11_isSame_25 ?_
    refine ev_mono (sm_loop hI hk (by omega) (sz A) 0 1 (by omega) (Or.inr rfl) ⟨fun _ j hj => absurd hj (Nat.not_lt_zero _), fun _ => rfl⟩) fun o h1 q => ?_
    obtain ⟨x, rfl, q1, q2, q3⟩ := q
    refine ⟨x, rfl, q1, ?_, q3⟩
    have := rows_eq hr hr' (by rw [row_len, row_len, c])
    rw [row_len] at this
    rw [q2, this, row_eq]
  refine ev_icmpeq 21 dX11_isSame_16 (fun h_no => (by exfalso; omega)) (fun hb => ?_)
  refine ev_iconst dX11_isSame_19 ?_
  exact ev_zret dX11_isSame_20 (⟨_, rfl, Or.inl rfl, ⟨fun z => absurd z (by decide), fun z => absurd (by rw [z]) c⟩, rfl⟩) (by omega)
/-- what stands for the variables of the one type, so that it becomes the other -/
def agS (σ : Nat → Option TE) (x : Nat) (B : TE) : Nat → Option TE := fun y => if y = x then some B else σ y
def agT : TE → TE → (Nat → Option TE) → Option (Nat → Option TE)
  | .var x, B, σ => if x < 2 then (if teq B (.var x) = true then some σ else none) else match σ x with
    | none => some (agS σ x B)
    | some t => if teq t B = true then some σ else none
  | .op a b, B, σ => match B with
    | .op c d => (agT a c σ).bind (fun σ1 => agT b d σ1)
    | .var _ => none
/-- the places of what stands for variables -/
def AgN (w : Nat → Int) (nm : Nat → Int) (σ : Nat → Option TE) : Prop := ∀ x, 2 ≤ x → x < 210 → (nm (x - 2) = -1 ∧ σ x = none) ∨ ∃ (c : Nat) (t : TE), nm (x - 2) = (c : Int) ∧ σ x = some t ∧ RwA w c (rowT t) ∧ c + sz t ≤ 209
set_option maxRecDepth 100000 in
theorem ag_walk {h0 : AH} {p q : Int} {n : Nat} {Q : AV → AH → Prop} (hI0 : RI h0) (h73 : h0.vl 42 73 = (n : Int)) (hn : n ≤ 209) :
    ∀ (A : TE) (k m : Nat) (B : TE) (σ : Nat → Option TE) (h : AH) (v5 : AV), KP h0 h [81] [] → RwA (h0.vl 79) k (rowT A) → RwA (h0.vl 80) m (rowT B) → k + sz A ≤ n → m + sz B ≤ 209 → AgN (h0.vl 80) (h.vl 81) σ → vsT (fun x => x < 210) A →
    (∀ h1, agT A B σ = none → KP h0 h1 [81] [] → Q (iv 0) h1) →
    (∀ σ' h1 v5, agT A B σ = some σ' → KP h0 h1 [81] [] → AgN (h0.vl 80) (h1.vl 81) σ' → EV mX11_isAsGeneral 12 46 [rv 42, iv p, iv q, iv ((m + sz B : Nat) : Int), iv ((k + sz A : Nat) : Int), v5] [] h1 Q) →
    EV mX11_isAsGeneral 12 46 [rv 42, iv p, iv q, iv (m : Int), iv (k : Int), v5] [] h Q
  | .var v, k, m, B, σ, h, v5, hK, hu, hw, hk, hm, hA, hv, no, ok => by
    have hI : RI h := hK.ri hI0
    have f73 : h.vl 42 73 = (n : Int) := (hK.fl).trans h73
    obtain ⟨e, e1, e2, e3, e4⟩ := row_leaf (v := v)
    rw [e1] at hu
    have u0 : h.vl 79 k = e := by rw [hK.vl]; exact hu.tl.1
    simp only [sz] at hk ok
    refine ev_iload dX11_isAsGeneral_46 rfl ?_
    refine ev_aload_n dX11_isAsGeneral_48 rfl ?_
    refine ev_getiv dX11_isAsGeneral_49 fX11_394 hI.o hI.n rfl f73 ?_
    refine ev_icmpge 145 dX11_isAsGeneral_52 (fun h_no => (by exfalso; omega)) (fun hb => ?_)
    refine ev_aload_n dX11_isAsGeneral_55 rfl ?_
    refine ev_getrv dX11_isAsGeneral_56 fX11_122 hI.o hI.n rfl hI.v_one ?_
    refine ev_iload dX11_isAsGeneral_59 rfl ?_
    refine ev_ildv dX11_isAsGeneral_61 hI.k_one hI.n_one rfl (by omega) (by omega) u0 ?_
    refine ev_ist5 dX11_isAsGeneral_62 ?_
    refine ev_iload dX11_isAsGeneral_64 rfl ?_
    refine ev_iconst dX11_isAsGeneral_66 ?_
    by_cases c : v < 2
    · skip
      have ev := e3 c
      refine ev_icmpge 89 dX11_isAsGeneral_67 (fun h_no => (by exfalso; omega)) (fun hb2 => ?_)
      refine ev_iload dX11_isAsGeneral_70 rfl ?_
      refine ev_aload_n dX11_isAsGeneral_72 rfl ?_
      refine ev_getrv dX11_isAsGeneral_73 fX11_125 hI.o hI.n rfl hI.v_two ?_
      refine ev_iload_n dX11_isAsGeneral_76 rfl ?_
      obtain ⟨b0, hb0, hbe⟩ : ∃ b0, h.vl 80 m = b0 ∧ (b0 = e ↔ B = .var v) := by
        refine ⟨_, rfl, ?_⟩
        rw [hK.vl]
        cases B with
        | var y =>
          obtain ⟨y0, y1, y2, y3, y4⟩ := row_leaf (v := y)
          rw [y1] at hw
          rw [hw.tl.1]
          constructor
          · intro z
            have : y = v := by
              by_cases d : y < 2
              · have := y3 d; omega
              · have := y4 (by omega); omega
            rw [this]
          · intro z
            have : y = v := Lean.Data.AC.Expr.var.inj z
            subst this
            rw [y3 c, ev]
        | op y z =>
          rw [rowT] at hw
          rw [hw.tl.1]
          exact ⟨fun z => by omega, fun z => nomatch z⟩
      refine ev_ildv dX11_isAsGeneral_77 hI.k_two hI.n_two rfl (by omega) (by omega) hb0 ?_
      by_cases d : B = .var v
      · skip
        have d1 := hbe.mpr d
        have ha : agT (.var v) B σ = some σ := by
          rw [agT, if_pos c, if_pos ((teq_iff _ _).mpr d)]
        refine ev_icmpeq 83 dX11_isAsGeneral_78 (fun hb3 => ?_) (fun h_no => (by exfalso; omega))
        refine ev_iin3 dX11_isAsGeneral_83 (by unfold ir; omega) ?_
        refine ev_gt 139 dX11_isAsGeneral_86 ?_
        refine ev_iin4 dX11_isAsGeneral_139 (by unfold ir; omega) ?_
        refine ev_gt 46 dX11_isAsGeneral_142 ?_
        have := ok σ h (iv e) ha hK hA
        rw [d] at this
        simp only [sz] at this
        exact this
      have d1 : ¬ b0 = e := fun z => d (hbe.mp z)
      have ha : agT (.var v) B σ = none := by
        rw [agT, if_pos c, if_neg (fun z => d ((teq_iff _ _).mp z))]
      refine ev_icmpeq 83 dX11_isAsGeneral_78 (fun h_no => (by exfalso; omega)) (fun hb3 => ?_)
      refine ev_iconst dX11_isAsGeneral_81 ?_
      exact ev_zret dX11_isAsGeneral_82 (no h ha hK) (by omega)
    have ev := e4 (by omega)
    have v9 : v < 210 := hv v (by omega) (by simp [oc])
    refine ev_icmpge 89 dX11_isAsGeneral_67 (fun hb2 => ?_) (fun h_no => (by exfalso; omega))
    refine ev_aload_n dX11_isAsGeneral_89 rfl ?_
    refine ev_getrv dX11_isAsGeneral_90 fX11_128 hI.o hI.n rfl hI.v_named ?_
    refine ev_iload dX11_isAsGeneral_93 rfl ?_
    refine ev_iconst dX11_isAsGeneral_95 ?_
    refine ev_isub dX11_isAsGeneral_96 (by unfold ir; omega) ?_
    rw [show e - 3 = ((v - 2 : Nat) : Int) by omega]
    obtain ⟨nx, hnx⟩ : ∃ nx, h.vl 81 (v - 2) = nx := ⟨_, rfl⟩
    have fin : ∀ (σ' : Nat → Option TE) (h1 : AH), agT (.var v) B σ = some σ' → KP h0 h1 [81] [] → AgN (h0.vl 80) (h1.vl 81) σ' → EV mX11_isAsGeneral 12 133 [rv 42, iv p, iv q, iv (m : Int), iv (k : Int), iv e] [] h1 Q := by
      intro σ' h1 a1 a2 a3
      have I1 : RI h1 := a2.ri hI0
      refine ev_aload_n dX11_isAsGeneral_133 rfl ?_
      refine ev_iload_n dX11_isAsGeneral_134 rfl ?_
      refine ev_cvi dX11_isAsGeneral_135 lX11_406 (s_endR (T := B) (k := m) I1 (by rw [a2.vl]; exact hw) hm) (by decide) I1.o I1.n rfl rfl rfl (Nat.le_of_ble_eq_true rfl) rfl (fun r z1 q => ?_)
      obtain ⟨rfl, e9⟩ := q
      rw [e9]
      refine ev_ist3 dX11_isAsGeneral_138 ?_
      refine ev_iin4 dX11_isAsGeneral_139 (by unfold ir; omega) ?_
      refine ev_gt 46 dX11_isAsGeneral_142 ?_
      rw [show (k : Int) + 1 = ((k + 1 : Nat) : Int) by omega]
      exact ok σ' h1 (iv e) a1 a2 a3
    refine ev_ildv dX11_isAsGeneral_97 hI.k_named hI.n_named rfl (by omega) (by omega) hnx ?_
    rcases hA v (by omega) v9 with ⟨n1, n2⟩ | ⟨c0, t, n1, n2, n3, n4⟩
    · skip
      rw [hnx] at n1
      have ha : agT (.var v) B σ = some (agS σ v B) := by
        rw [agT, if_neg c, n2]
      refine ev_ifge 114 dX11_isAsGeneral_98 (fun h_no => (by exfalso; omega)) (fun hb3 => ?_)
      refine ev_aload_n dX11_isAsGeneral_101 rfl ?_
      refine ev_getrv dX11_isAsGeneral_102 fX11_128 hI.o hI.n rfl hI.v_named ?_
      refine ev_iload dX11_isAsGeneral_105 rfl ?_
      refine ev_iconst dX11_isAsGeneral_107 ?_
      refine ev_isub dX11_isAsGeneral_108 (by unfold ir; omega) ?_
      rw [show e - 3 = ((v - 2 : Nat) : Int) by omega]
      refine ev_iload_n dX11_isAsGeneral_109 rfl ?_
      refine ev_istr dX11_isAsGeneral_110 hI.k_named hI.n_named rfl (by omega) (by omega) ?_
      rw [show ((v - 2 : Nat) : Int).toNat = v - 2 from rfl]
      refine ev_gt 133 dX11_isAsGeneral_111 ?_
      refine fin _ _ ha (hK.pr (by decide) (by decide)) (fun x x2 x9 => ?_)
      rw [AH.put_vl]
      by_cases z : x = v
      · rw [if_pos ⟨rfl, by omega⟩, agS, if_pos z]
        exact Or.inr ⟨m, B, rfl, rfl, hw, hm⟩
      · rw [if_neg (fun y => by omega), agS, if_neg z]
        exact hA x x2 x9
    rw [hnx] at n1
    refine ev_ifge 114 dX11_isAsGeneral_98 (fun hb3 => ?_) (fun h_no => (by exfalso; omega))
    refine ev_aload_n dX11_isAsGeneral_114 rfl ?_
    refine ev_aload_n dX11_isAsGeneral_115 rfl ?_
    refine ev_getrv dX11_isAsGeneral_116 fX11_128 hI.o hI.n rfl hI.v_named ?_
    refine ev_iload dX11_isAsGeneral_119 rfl ?_
    refine ev_iconst dX11_isAsGeneral_121 ?_
    refine ev_isub dX11_isAsGeneral_122 (by unfold ir; omega) ?_
    rw [show e - 3 = ((v - 2 : Nat) : Int) by omega]
    refine ev_ildv dX11_isAsGeneral_123 hI.k_named hI.n_named rfl (by omega) (by omega) hnx ?_
    rw [n1]
    refine ev_iload_n dX11_isAsGeneral_124 rfl ?_
    refine ev_cvi dX11_isAsGeneral_125 lX11_409 (s_sameR (A := t) (B := B) (k := c0) (m := m) hI (by rw [hK.vl]; exact n3) (by rw [hK.vl]; exact hw) n4 hm) (by decide) hI.o hI.n rfl rfl rfl (Nat.le_of_ble_eq_true rfl) rfl (fun r z1 q => ?_)
    obtain ⟨q1, q2, e9⟩ := q
    rw [e9]
    by_cases d : t = B
    · skip
      have r1 := q2.mpr d
      have ha : agT (.var v) B σ = some σ := by
        rw [agT, if_neg c, n2]
        show (if teq t B = true then some σ else none) = _
        rw [if_pos ((teq_iff _ _).mpr d)]
      refine ev_ifne 133 dX11_isAsGeneral_128 (fun hb4 => ?_) (fun h_no => (by exfalso; omega))
      exact fin σ h ha hK hA
    have r1 : r = 0 := q1.resolve_right (fun z => d (q2.mp z))
    have ha : agT (.var v) B σ = none := by
      rw [agT, if_neg c, n2]
      show (if teq t B = true then some σ else none) = _
      rw [if_neg (fun z => d ((teq_iff _ _).mp z))]
    refine ev_ifne 133 dX11_isAsGeneral_128 (fun h_no => (by exfalso; omega)) (fun hb4 => ?_)
    refine ev_iconst dX11_isAsGeneral_131 ?_
    exact ev_zret dX11_isAsGeneral_132 (no h ha hK) (by omega)
  | .op a b, k, m, B, σ, h, v5, hK, hu, hw, hk, hm, hA, hv, no, ok => by
    have hI : RI h := hK.ri hI0
    have f73 : h.vl 42 73 = (n : Int) := (hK.fl).trans h73
    rw [rowT] at hu
    obtain ⟨u0, u1⟩ := hu.tl
    obtain ⟨ua, ub⟩ := u1.app
    rw [row_len] at ub
    obtain ⟨va, vb⟩ := vsT_op.mp hv
    have u0 : h.vl 79 k = 2 := by rw [hK.vl]; exact u0
    simp only [sz] at hk ok
    refine ev_iload dX11_isAsGeneral_46 rfl ?_
    refine ev_aload_n dX11_isAsGeneral_48 rfl ?_
    refine ev_getiv dX11_isAsGeneral_49 fX11_394 hI.o hI.n rfl f73 ?_
    refine ev_icmpge 145 dX11_isAsGeneral_52 (fun h_no => (by exfalso; omega)) (fun hb => ?_)
    refine ev_aload_n dX11_isAsGeneral_55 rfl ?_
    refine ev_getrv dX11_isAsGeneral_56 fX11_122 hI.o hI.n rfl hI.v_one ?_
    refine ev_iload dX11_isAsGeneral_59 rfl ?_
    refine ev_ildv dX11_isAsGeneral_61 hI.k_one hI.n_one rfl (by omega) (by omega) u0 ?_
    refine ev_ist5 dX11_isAsGeneral_62 ?_
    refine ev_iload dX11_isAsGeneral_64 rfl ?_
    refine ev_iconst dX11_isAsGeneral_66 ?_
    refine ev_icmpge 89 dX11_isAsGeneral_67 (fun h_no => (by exfalso; omega)) (fun hb2 => ?_)
    refine ev_iload dX11_isAsGeneral_70 rfl ?_
    refine ev_aload_n dX11_isAsGeneral_72 rfl ?_
    refine ev_getrv dX11_isAsGeneral_73 fX11_125 hI.o hI.n rfl hI.v_two ?_
    refine ev_iload_n dX11_isAsGeneral_76 rfl ?_
    cases B with
    | var y =>
      obtain ⟨y0, y1, y2, -⟩ := row_leaf (v := y)
      rw [y1] at hw
      have w0 : h.vl 80 m = y0 := by rw [hK.vl]; exact hw.tl.1
      refine ev_ildv dX11_isAsGeneral_77 hI.k_two hI.n_two rfl (by omega) (by omega) w0 ?_
      refine ev_icmpeq 83 dX11_isAsGeneral_78 (fun h_no => (by exfalso; omega)) (fun hb3 => ?_)
      refine ev_iconst dX11_isAsGeneral_81 ?_
      exact ev_zret dX11_isAsGeneral_82 (no h rfl hK) (by omega)
    | op c d =>
      rw [rowT] at hw
      obtain ⟨w0, w1⟩ := hw.tl
      obtain ⟨wc, wd⟩ := w1.app
      rw [row_len] at wd
      have w0 : h.vl 80 m = 2 := by rw [hK.vl]; exact w0
      simp only [sz] at hm ok
      refine ev_ildv dX11_isAsGeneral_77 hI.k_two hI.n_two rfl (by omega) (by omega) w0 ?_
      refine ev_icmpeq 83 dX11_isAsGeneral_78 (fun hb3 => ?_) (fun h_no => (by exfalso; omega))
      refine ev_iin3 dX11_isAsGeneral_83 (by unfold ir; omega) ?_
      refine ev_gt 139 dX11_isAsGeneral_86 ?_
      refine ev_iin4 dX11_isAsGeneral_139 (by unfold ir; omega) ?_
      refine ev_gt 46 dX11_isAsGeneral_142 ?_
      rw [show (m : Int) + 1 = ((m + 1 : Nat) : Int) by omega, show (k : Int) + 1 = ((k + 1 : Nat) : Int) by omega]
      refine ag_walk hI0 h73 hn a (k + 1) (m + 1) c σ h _ hK ua wc (by omega) (by omega) hA va (fun h1 a1 a2 => no h1 ?_ a2) (fun σ1 h1 v5 a1 a2 a3 => ?_)
      · rw [agT]
        show (agT a c σ).bind _ = none
        rw [a1]; rfl
      rw [show m + 1 + sz c = m + 1 + sz c from rfl]
      refine ag_walk hI0 h73 hn b (k + 1 + sz a) (m + 1 + sz c) d σ1 h1 _ a2 ub wd (by omega) (by omega) a3 vb (fun h2 b1 b2 => no h2 ?_ b2) (fun σ2 h2 v5 b1 b2 b3 => ?_)
      · rw [agT]
        show (agT a c σ).bind _ = none
        rw [a1]
        exact b1
      rw [show m + 1 + sz c + sz d = m + (1 + sz c + sz d) by omega, show k + 1 + sz a + sz b = k + (1 + sz a + sz b) by omega]
      refine ok σ2 h2 _ ?_ b2 b3
      rw [agT]
      show (agT a c σ).bind _ = some σ2
      rw [a1]
      exact b1
set_option maxRecDepth 100000 in
theorem ag_init {h0 : AH} {p q : Int} {Q : AV → AH → Prop} (hI0 : RI h0) (K : ∀ h1, KP h0 h1 [81] [] → (∀ j, j < 210 → h1.vl 81 j = -1) → EV mX11_isAsGeneral 12 41 [rv 42, iv p, iv q, iv (210 : Int), uv, uv] [] h1 Q) : ∀ (n i : Nat) (h : AH), i + n = 210 → KP h0 h [81] [] → (∀ j, j < i → h.vl 81 j = -1) → EV mX11_isAsGeneral 12 21 [rv 42, iv p, iv q, iv (i : Int), uv, uv] [] h Q
  | 0, i, h, hi, hK, hr => by
    obtain rfl : i = 210 := by omega
    have hI : RI h := hK.ri hI0
    refine ev_iload_n dX11_isAsGeneral_21 rfl ?_
    refine ev_sipush dX11_isAsGeneral_22 ?_
    refine ev_icmpge 41 dX11_isAsGeneral_25 (fun hb => ?_) (fun h_no => (by exfalso; omega))
    exact K h hK hr
  | n + 1, i, h, hi, hK, hr => by
    have hI : RI h := hK.ri hI0
    refine ev_iload_n dX11_isAsGeneral_21 rfl ?_
    refine ev_sipush dX11_isAsGeneral_22 ?_
    refine ev_icmpge 41 dX11_isAsGeneral_25 (fun h_no => (by exfalso; omega)) (fun hb => ?_)
    refine ev_aload_n dX11_isAsGeneral_28 rfl ?_
    refine ev_getrv dX11_isAsGeneral_29 fX11_128 hI.o hI.n rfl hI.v_named ?_
    refine ev_iload_n dX11_isAsGeneral_32 rfl ?_
    refine ev_iconst dX11_isAsGeneral_33 ?_
    refine ev_istr dX11_isAsGeneral_34 hI.k_named hI.n_named rfl (by omega) (by omega) ?_
    refine ev_iin3 dX11_isAsGeneral_35 (by unfold ir; omega) ?_
    refine ev_gt 21 dX11_isAsGeneral_38 ?_
    rw [show ((i : Nat) : Int).toNat = i from rfl, show (i : Int) + 1 = ((i + 1 : Nat) : Int) by omega]
    refine ag_init hI0 K n (i + 1) _ (by omega) (hK.pr (by decide) (by decide)) (fun j hj => ?_)
    rw [AH.put_vl]
    by_cases z : j = i
    · rw [if_pos ⟨rfl, z⟩]
    · rw [if_neg (fun y => z y.2)]
      exact hr j (by omega)
set_option maxRecDepth 100000 in
theorem r_isAsGeneral {p q : Int} {N : Nat} {LL : Nat → List Nd} {kp : Nat → Option TE} {h : AH} (hI : RI h) (hN : NV h N LL) (hK : KpJ h kp) (hst : 0 ≤ h.vl 42 50 ∧ h.vl 42 50 + 412020 ≤ 2147483000) :
    CV mX11_isAsGeneral 12 [rv 42, iv p, iv q] h (oi fun x h1 => KP h h1 BoA (0 :: BoF) ∧ KpJ h1 kp ∧ (h.vl 42 50 ≤ h1.vl 42 50 ∧ h1.vl 42 50 ≤ h.vl 42 50 + 412020) ∧ ((¬ ((0 ≤ p ∧ p < (N : Int)) ∧ (0 ≤ q ∧ q < (N : Int))) ∧ h1.vl 42 0 = 1) ∨ (((0 ≤ p ∧ p < (N : Int)) ∧ (0 ≤ q ∧ q < (N : Int))) ∧ ((h1.vl 42 0 = 2 ∧ ∃ g, BoR (LL p.toNat) (LL q.toNat) kp 0 g) ∨ (h1.vl 42 0 = 0 ∧ ∃ r S r' S', fnR (LL p.toNat) kp r S ∧ r.1 = 0 ∧ fnR (LL q.toNat) kp r' S' ∧ r'.1 = 0 ∧ x = (if agT (cnR (S.2.1 0) []) (cnR (S'.2.1 0) []) (fun _ => none) = none then 0 else 1)))))) := by
  refine cv_of cdX11_isAsGeneral ?_
  show EV _ _ 0 [rv 42, iv p, iv q, uv, uv, uv] [] h _
  refine ev_aload_n dX11_isAsGeneral_0 rfl ?_
  refine ev_aload_n dX11_isAsGeneral_1 rfl ?_
  refine ev_iload_n dX11_isAsGeneral_2 rfl ?_
  refine ev_iload_n dX11_isAsGeneral_3 rfl ?_
  refine ev_cvi dX11_isAsGeneral_4 lX11_403 (s_twoLessons hI hN hK hst) (by decide) hI.o hI.n rfl rfl rfl (Nat.le_of_ble_eq_true rfl) rfl (fun x h1 q0 => ?_)
  obtain ⟨k1, J1, t1, q0⟩ := q0
  have I1 : RI h1 := k1.ri hI
  obtain ⟨h2, e2⟩ : ∃ h2, h2 = h1.put 42 0 x := ⟨_, rfl⟩
  have k2 : KP h1 h2 [] [0] := by rw [e2]; exact KP.rf.pf (by decide)
  have I2 : RI h2 := k2.ri I1
  have t0 : h2.vl 42 0 = x := by rw [e2]; rfl
  have f50 : h2.vl 42 50 = h1.vl 42 50 := k2.fl
  have K2 : KP h h2 BoA (0 :: BoF) := (k1.wk (by decide) (by decide)).tr (k2.wk (by decide) (by decide))
  have J2 : KpJ h2 kp := J1.kp k2
  refine ev_pt dX11_isAsGeneral_7 fX11_161 I1.o I1.n rfl ?_
  rw [← e2]
  refine ev_aload_n dX11_isAsGeneral_10 rfl ?_
  refine ev_getiv dX11_isAsGeneral_11 fX11_161 I2.o I2.n rfl t0 ?_
  by_cases c : x = 0
  · skip
    obtain ⟨hin, r, S, w1, w⟩ : ((0 ≤ p ∧ p < (N : Int)) ∧ (0 ≤ q ∧ q < (N : Int))) ∧ BoR (LL p.toNat) (LL q.toNat) kp 1 h1 := by
      rcases q0 with ⟨_, z⟩ | ⟨a, ⟨z, b⟩ | ⟨z, b⟩⟩
      · omega
      · exact ⟨a, b⟩
      · omega
    obtain ⟨c1, r', S', w2, w⟩ := w.resolve_left (fun z => absurd z.2 (by decide))
    obtain ⟨c2, -, ⟨⟨u1, u2⟩, u3, u4⟩, z1, z2⟩ := w.resolve_left (fun z => absurd z.2 (by decide))
    have v1 : h2.vl 42 73 = (sz (S.2.1 0) : Int) := (k2.fl).trans u1
    have r1 : RwA (h2.vl 79) 0 (rowT (cnR (S.2.1 0) [])) := by rw [k2.vl, cnR_row]; exact u2
    have r2 : RwA (h2.vl 80) 0 (rowT (cnR (S'.2.1 0) [])) := by rw [k2.vl, cnR_row]; exact u4
    have y1 : sz (cnR (S.2.1 0) []) = sz (S.2.1 0) := cnR_sz _ _
    have y2 : sz (cnR (S'.2.1 0) []) = sz (S'.2.1 0) := cnR_sz _ _
    have fin : ∀ (x9 : Int) (h3 : AH), x9 = (if agT (cnR (S.2.1 0) []) (cnR (S'.2.1 0) []) (fun _ => none) = none then 0 else 1) → KP h2 h3 [81] [] → oi (fun x h1 => KP h h1 BoA (0 :: BoF) ∧ KpJ h1 kp ∧ (h.vl 42 50 ≤ h1.vl 42 50 ∧ h1.vl 42 50 ≤ h.vl 42 50 + 412020) ∧ ((¬ ((0 ≤ p ∧ p < (N : Int)) ∧ (0 ≤ q ∧ q < (N : Int))) ∧ h1.vl 42 0 = 1) ∨ (((0 ≤ p ∧ p < (N : Int)) ∧ (0 ≤ q ∧ q < (N : Int))) ∧ ((h1.vl 42 0 = 2 ∧ ∃ g, BoR (LL p.toNat) (LL q.toNat) kp 0 g) ∨ (h1.vl 42 0 = 0 ∧ ∃ r S r' S', fnR (LL p.toNat) kp r S ∧ r.1 = 0 ∧ fnR (LL q.toNat) kp r' S' ∧ r'.1 = 0 ∧ x = (if agT (cnR (S.2.1 0) []) (cnR (S'.2.1 0) []) (fun _ => none) = none then 0 else 1)))))) (iv x9) h3 := by
      intro x9 h3 e9 k3
      have f3 : h3.vl 42 50 = h2.vl 42 50 := k3.fl
      exact ⟨x9, rfl, K2.tr (k3.wk (by decide) (by decide)), J2.kp k3, by omega, Or.inr ⟨hin, Or.inr ⟨by rw [k3.fl]; exact t0.trans c, r, S, r', S', w1, c1, w2, c2, e9⟩⟩⟩
    refine ev_ifeq 19 dX11_isAsGeneral_14 (fun hb => ?_) (fun h_no => (by exfalso; omega))
    refine ev_iconst dX11_isAsGeneral_19 ?_
    refine ev_ist3 dX11_isAsGeneral_20 ?_
    refine ag_init I2 (fun h3 k3 n3 => ?_) 210 0 h2 (by omega) KP.rf (fun j hj => absurd hj (Nat.not_lt_zero _))
    have I3 : RI h3 := k3.ri I2
    refine ev_iconst dX11_isAsGeneral_41 ?_
    refine ev_ist3 dX11_isAsGeneral_42 ?_
    refine ev_iconst dX11_isAsGeneral_43 ?_
    refine ev_ist4 dX11_isAsGeneral_44 ?_
    refine ag_walk I2 v1 (by omega) (cnR (S.2.1 0) []) 0 0 (cnR (S'.2.1 0) []) (fun _ => none) h3 _ k3 r1 r2 (by omega) (by omega) (fun y y2 y9 => Or.inl ⟨n3 _ (by omega), rfl⟩) (fun y yy yo => ?_) (fun h4 a1 a2 => fin _ _ (by rw [if_pos a1]) a2) (fun σ' h4 v5 a1 a2 a3 => ?_)
    · have := cnR_vs (S.2.1 0) [] y yy yo
      have h9 : ([] : List Nat).length = 0 := rfl
      show y < 210
      omega
    have I4 : RI h4 := a2.ri I2
    have v4 : h4.vl 42 73 = (sz (S.2.1 0) : Int) := (a2.fl).trans v1
    rw [show (0 + sz (cnR (S.2.1 0) []) : Nat) = sz (S.2.1 0) by omega]
    refine ev_iload dX11_isAsGeneral_46 rfl ?_
    refine ev_aload_n dX11_isAsGeneral_48 rfl ?_
    refine ev_getiv dX11_isAsGeneral_49 fX11_394 I4.o I4.n rfl v4 ?_
    refine ev_icmpge 145 dX11_isAsGeneral_52 (fun hb2 => ?_) (fun h_no => (by exfalso; omega))
    refine ev_iconst dX11_isAsGeneral_145 ?_
    exact ev_zret dX11_isAsGeneral_146 (fin _ _ (by rw [if_neg (by rw [a1]; exact fun z => nomatch z)]) a2) (by omega)
  refine ev_ifeq 19 dX11_isAsGeneral_14 (fun h_no => (by exfalso; omega)) (fun hb => ?_)
  refine ev_iconst dX11_isAsGeneral_17 ?_
  exact ev_zret dX11_isAsGeneral_18 (⟨_, rfl, K2, J2, by omega, q0.imp (fun z => ⟨z.1, t0.trans z.2⟩) (fun z => ⟨z.1, Or.inl (z.2.elim (fun y => absurd y.1 c) (fun y => ⟨t0.trans y.1, _, y.2⟩))⟩)⟩) (by omega)
