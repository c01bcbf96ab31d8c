/-! orders: what they say is one thing; reason, character -/
theorem io_in {c : Nat → Int} {n i : Nat} (h : (io c n i).1 = true) : (c i = 107 ∧ i + 2 < n ∧ (io c n i).2 = i + 3) ∨ (c i = 117 ∧ i + 1 < n ∧ (io c n i).2 = i + 2) ∨ (c i = 120 ∧ i + 1 < n ∧ (io c n i).2 = i + 2) := by
  have nx : ∀ j, 0 ≤ nxt2 c n j → j < n ∧ nxt2 c n j = c j := fun j hj => by
    unfold nxt2 at hj ⊢
    by_cases z : j < n
    · rw [if_pos z]; exact ⟨z, rfl⟩
    · rw [if_neg z] at hj; omega
  unfold io at h ⊢
  by_cases c1 : ¬ (nxt2 c n i = 107 ∨ nxt2 c n i = 117 ∨ nxt2 c n i = 120)
  · rw [if_pos c1] at h; exact Bool.noConfusion (show false = true from h)
  rw [if_neg c1] at h ⊢
  by_cases c2 : nxt2 c n i ≠ 117 ∧ ¬ (48 ≤ nxt2 c n (i + 1) ∧ nxt2 c n (i + 1) ≤ 57)
  · rw [if_pos c2] at h; exact Bool.noConfusion (show false = true from h)
  rw [if_neg c2] at h ⊢
  by_cases c3 : nxt2 c n i ≠ 120 ∧ ¬ (65 ≤ nxt2 c n (io1 c n i) ∧ nxt2 c n (io1 c n i) ≤ 72)
  · rw [if_pos c3] at h; exact Bool.noConfusion (show false = true from h)
  rw [if_neg c3]
  have c0 := nx i (by omega)
  have e1 : io1 c n i = if nxt2 c n i = 117 then i + 1 else i + 2 := rfl
  show _ ∨ _ ∨ _
  by_cases k7 : nxt2 c n i = 117
  · rw [if_pos k7] at e1
    have := nx (i + 1) (by rw [e1] at c3; omega)
    rw [if_neg (by omega), e1]
    exact Or.inr (Or.inl ⟨by omega, this.1, rfl⟩)
  · rw [if_neg k7] at e1
    have w1 := nx (i + 1) (by omega)
    by_cases k0 : nxt2 c n i = 120
    · rw [if_pos k0, e1]
      exact Or.inr (Or.inr ⟨by omega, w1.1, rfl⟩)
    · rw [if_neg k0, e1]
      have := nx (i + 2) (by rw [e1] at c3; omega)
      exact Or.inl ⟨by omega, this.1, rfl⟩
theorem keN_det {N : Nat} {LL : Nat → List Nd} {kp : Nat → Option TE} {p q w d w' d' : Int} (h : keN N LL kp p q w d) (h' : keN N LL kp p q w' d') : w = w' ∧ d = d' := by
  rcases h with ⟨a1, a2, a3⟩ | ⟨a1, a2, a3, a4⟩ | ⟨a1, a2, r, S, a3, a4⟩ <;> rcases h' with ⟨b1, b2, b3⟩ | ⟨b1, b2, b3, b4⟩ | ⟨b1, b2, r', S', b3, b4⟩
  · omega
  · exact absurd b1 a1
  · exact absurd b1 a1
  · exact absurd a1 b1
  · omega
  · exact absurd b2 a2
  · exact absurd a1 b1
  · exact absurd a2 b2
  · obtain ⟨e1, e2⟩ := fnR_det a3 b3
    subst e1
    rcases a4 with ⟨x1, x2, x3⟩ | ⟨x1, x2, x3, x4⟩ <;> rcases b4 with ⟨y1, y2, y3⟩ | ⟨y1, y2, y3, y4⟩
    · omega
    · exact absurd y1 x1
    · exact absurd x1 y1
    · rw [e2 x1] at x4
      omega
theorem keNO {N : Nat} {LL : Nat → List Nd} {kp : Nat → Option TE} {p q w d : Int} {T : TE} (h : keN N LL kp p q w d) (h' : keO N LL kp p q T) : False := by
  obtain ⟨b1, b2, r', S', b3, b4, b5, -⟩ := h'
  rcases h with ⟨a1, a2, a3⟩ | ⟨a1, a2, a3, a4⟩ | ⟨a1, a2, r, S, a3, a4⟩
  · exact a1 b1
  · exact a2 b2
  · obtain ⟨e1, e2⟩ := fnR_det a3 b3
    subst e1
    rcases a4 with ⟨x1, x2, x3⟩ | ⟨x1, x2, x3, x4⟩
    · exact x1 b4
    · rw [e2 x1] at x2; omega
theorem keO_det {N : Nat} {LL : Nat → List Nd} {kp : Nat → Option TE} {p q : Int} {T T' : TE} (h : keO N LL kp p q T) (h' : keO N LL kp p q T') : T = T' := by
  obtain ⟨a1, a2, r, S, a3, a4, a5, a6⟩ := h
  obtain ⟨b1, b2, r', S', b3, b4, b5, b6⟩ := h'
  obtain ⟨e1, e2⟩ := fnR_det a3 b3
  rw [a6, b6, e2 a4]
theorem keN_cg {N : Nat} {LL LL' : Nat → List Nd} {kp : Nat → Option TE} (e : ∀ l, l < N → LL l = LL' l) {p q w d : Int} (h : keN N LL kp p q w d) : keN N LL' kp p q w d := by
  rcases h with h | h | ⟨a1, a2, r, S, a3, a4⟩
  · exact Or.inl h
  · exact Or.inr (Or.inl h)
  · exact Or.inr (Or.inr ⟨a1, a2, r, S, by rw [← e p.toNat (by omega)]; exact a3, a4⟩)
theorem keO_cg {N : Nat} {LL LL' : Nat → List Nd} {kp : Nat → Option TE} (e : ∀ l, l < N → LL l = LL' l) {p q : Int} {T : TE} (h : keO N LL kp p q T) : keO N LL' kp p q T := by
  obtain ⟨a1, a2, r, S, a3, a4⟩ := h
  exact ⟨a1, a2, r, S, by rw [← e p.toNat (by omega)]; exact a3, a4⟩
theorem od_det {v v1 v2 : Nat → Int} {w d c y1 y2 z1 z2 : Int} (h : odR v w d c y1 z1 v1) (h' : odR v w d c y2 z2 v2) : y1 = y2 ∧ (y1 ≠ 0 → z1 = z2) ∧ v1 = v2 := by
  obtain ⟨N, LL, kp, s, h⟩ := h
  obtain ⟨N', LL', kp', s', h'⟩ := h'
  obtain ⟨rfl, e2, rfl⟩ := s.det s'
  rcases h with ⟨a0, h⟩ | ⟨a0, h⟩ | ⟨a0, a1, h⟩ <;> rcases h' with ⟨b0, h'⟩ | ⟨b0, h'⟩ | ⟨b0, b1, h'⟩
  · rcases h with ⟨x, rfl⟩ | ⟨T, x, x2, rfl⟩ <;> rcases h' with ⟨y, rfl⟩ | ⟨T', y, y2', rfl⟩
    · obtain ⟨q1, q2⟩ := keN_det (keN_cg e2 x) y
      exact ⟨q1, fun _ => q2, rfl⟩
    · exact (keNO (keN_cg e2 x) y).elim
    · exact (keNO y (keO_cg e2 x)).elim
    · rw [keO_det (keO_cg e2 x) y]
      exact ⟨by omega, fun z => absurd x2 z, rfl⟩
  · omega
  · omega
  · omega
  · rcases h with ⟨x1, x2, x3, rfl⟩ | ⟨x1, x2, x3, x4, rfl⟩ | ⟨x1, x2, x3, rfl⟩ <;> rcases h' with ⟨u1, u2, u3, rfl⟩ | ⟨u1, u2, u3, u4, rfl⟩ | ⟨u1, u2, u3, rfl⟩
    · exact ⟨by omega, fun _ => by omega, rfl⟩
    · exact absurd u1 x1
    · exact absurd u1 x1
    · exact absurd x1 u1
    · exact ⟨by omega, fun _ => by omega, rfl⟩
    · exact absurd x2 u2
    · exact absurd x1 u1
    · exact absurd u2 x2
    · exact ⟨by omega, fun z => absurd x3 z, rfl⟩
  · omega
  · omega
  · omega
  · rcases h with ⟨x1, x2, x3, rfl⟩ | ⟨x1, x2, rfl⟩ <;> rcases h' with ⟨u1, u2, u3, rfl⟩ | ⟨u1, u2, rfl⟩
    · exact ⟨by omega, fun _ => by omega, rfl⟩
    · exact absurd u1 x1
    · exact absurd x1 u1
    · exact ⟨by omega, fun z => absurd x2 z, rfl⟩
theorem run_det {c : Nat → Int} {n : Nat} : ∀ (t i k : Nat) (v : Nat → Int) (y1 y2 z1 z2 : Int) (m1 m2 : Nat) (v1 v2 : Nat → Int), runR c n t i k v y1 z1 m1 v1 → runR c n t i k v y2 z2 m2 v2 → y1 = y2 ∧ (y1 ≠ 0 → z1 = z2) ∧ m1 = m2 ∧ v1 = v2
  | 0, _, _, _, _, _, _, _, _, _, _, _, h, _ => h.elim
  | t + 1, i, k, v, y1, y2, z1, z2, m1, m2, v1, v2, h, h' => by
    obtain ⟨w, d, u, h1, h2⟩ := h
    obtain ⟨w', d', u', h1', h2'⟩ := h'
    obtain ⟨e1, e2, e3⟩ := od_det h1 h1'
    subst e1 e3
    rcases h2 with ⟨a1, a2, a3, a4, a5⟩ | ⟨a1, a2⟩ <;> rcases h2' with ⟨b1, b2, b3, b4, b5⟩ | ⟨b1, b2⟩
    · have := e2 a1
      exact ⟨by omega, fun _ => by omega, by omega, by rw [a5, b5]⟩
    · omega
    · omega
    · rcases a2 with ⟨x1, x2⟩ | ⟨x1, x2, x3, x4⟩ <;> rcases b2 with ⟨u1, u2⟩ | ⟨u1, u2, u3, u4⟩
      · exact run_det t _ _ _ _ _ _ _ _ _ _ _ x2 u2
      · omega
      · omega
      · exact ⟨by omega, fun z => absurd x2 z, by omega, by rw [x4, u4]⟩
section Rea
variable {h h1 h2 : AH} {a K a1 K1 : Nat → Nat} {v bv sv : Nat → Int} {isS : Int} {c : Nat} {pv : Nat → Nat → Int} {w d cw cd : Int} {X1 X3 : List Int} {b1 N1 b3 N3 : Nat} {p q9 : Int}
set_option maxRecDepth 100000 in
theorem s_lenOf {x : Int} : CV mX2_lengthOf 1 [iv x] h (oi fun r h1 => r = (if x = 107 then 3 else 2) ∧ h1 = h) := by
  refine cv_of cdX2_lengthOf ?_
  show EV _ _ 0 [iv x] [] h _
  refine ev_iload_n dX2_lengthOf_0 rfl ?_
  refine ev_bipush dX2_lengthOf_1 ?_
  refine ev_icmpne 10 dX2_lengthOf_3 (fun hc => ?_) (fun hc => ?_)
  · refine ev_iconst dX2_lengthOf_10 ?_
    exact ev_iret dX2_lengthOf_11 (⟨_, rfl, by rw [if_neg (by omega)], rfl⟩)
  · refine ev_iconst dX2_lengthOf_6 ?_
    refine ev_gt 11 dX2_lengthOf_7 ?_
    exact ev_iret dX2_lengthOf_11 (⟨_, rfl, by rw [if_pos (by omega)], rfl⟩)
set_option maxRecDepth 100000 in
theorem g_character (j : JC h a K v bv isS sv c pv w d cw cd X1 X3 b1 N1 b3 N3) : CV mX10_character 6 [rv 0, iv p] h (fun oo h1 => (¬ (0 ≤ p ∧ p < (X3.length : Int)) ∧ oo = xv 2 ∧ h1 = h.thr) ∨ ((0 ≤ p ∧ p < (X3.length : Int)) ∧ oo = iv (cX X3 p.toNat) ∧ h1 = h)) := by
  have hC := j.1.1.1
  obtain ⟨t1, t2⟩ := j.2.2.2.2.2.1
  have ts := t1.1
  refine cv_of cdX10_character ?_
  show EV _ _ 0 [rv 0, iv p] [] h _
  refine ev_iload_n dX10_character_0 rfl ?_
  by_cases h1 : p < 0
  · skip
    refine ev_iflt 15 dX10_character_1 (fun hb => ?_) (fun h_no => (by exfalso; omega))
    exact ev_throww _ tk_2 (List.mem_of_getElem? (i := 22) rfl) dX10_character_15 dX10_character_18 dX10_character_19 dX10_character_22 dX10_character_25 rfl (Nat.le_of_ble_eq_true rfl) (Or.inl ⟨by omega, rfl, rfl⟩)
  refine ev_iflt 15 dX10_character_1 (fun h_no => (by exfalso; omega)) (fun hb => ?_)
  refine ev_iload_n dX10_character_4 rfl ?_
  refine ev_aload_n dX10_character_5 rfl ?_
  refine ev_getrv dX10_character_6 fX10_16 hC.k0 hC.n0 rfl hC.v0_1 ?_
  refine ev_cvi dX10_character_9 lX10_236 (s_J4len ts) (by decide) hC.k3 hC.n3 rfl rfl rfl (Nat.le_of_ble_eq_true rfl) rfl (fun r z q => ?_)
  obtain ⟨rfl, e⟩ := q
  rw [e]
  by_cases h2 : p < (X3.length : Int)
  rotate_left
  · skip
    refine ev_icmplt 26 dX10_character_12 (fun h_no => (by exfalso; omega)) (fun hb2 => ?_)
    exact ev_throww _ tk_2 (List.mem_of_getElem? (i := 22) rfl) dX10_character_15 dX10_character_18 dX10_character_19 dX10_character_22 dX10_character_25 rfl (Nat.le_of_ble_eq_true rfl) (Or.inl ⟨by omega, rfl, rfl⟩)
  obtain ⟨l, rfl⟩ : ∃ l : Nat, p = (l : Int) := ⟨p.toNat, by omega⟩
  have hl : l < X3.length := by omega
  have ev : h.vl b3 l = X3[l] := t1.2.2.1 l hl
  have e9 : cX X3 l = X3[l] := by
    show X3.getD l 0 = _
    rw [List.getD_eq_getElem?_getD, List.getElem?_eq_getElem hl]
    rfl
  have rg := t1.2.2.2.2.1 _ (List.getElem_mem hl)
  refine ev_icmplt 26 dX10_character_12 (fun hb2 => ?_) (fun h_no => (by exfalso; omega))
  refine ev_aload_n dX10_character_26 rfl ?_
  refine ev_getrv dX10_character_27 fX10_16 hC.k0 hC.n0 rfl hC.v0_1 ?_
  refine ev_iload_n dX10_character_30 rfl ?_
  refine ev_cvi dX10_character_31 lX10_297 (s_charAt (i := (l : Int)) ts (by omega) (by omega) (by show 0 ≤ h.vl b3 l; omega) (by show h.vl b3 l ≤ 127; omega)) (by decide) hC.k3 hC.n3 rfl rfl rfl (Nat.le_of_ble_eq_true rfl) rfl (fun r z q => ?_)
  obtain ⟨er, e⟩ := q
  have rg9 : 0 ≤ cX X3 l ∧ cX X3 l ≤ 127 := by rw [e9]; exact rg
  have er2 : r = cX X3 l := by rw [er]; show h.vl b3 l = _; rw [ev, e9]
  rw [e, er2]
  exact ev_cret dX10_character_34 (Or.inr ⟨by omega, rfl, rfl⟩) (by omega) (by omega)
set_option maxRecDepth 100000 in
theorem g_reason (j : JC h a K v bv isS sv c pv w d cw cd X1 X3 b1 N1 b3 N3) (hq : q9 = 0 ∨ q9 = 1) : CV mX10_reason 4 [rv 0, iv p, iv q9] h (fun oo h1 => (¬ (0 ≤ p ∧ p ≤ 1) ∧ oo = xv 0 ∧ h1 = h.thr) ∨ ((0 ≤ p ∧ p ≤ 1) ∧ (w = 0 ∨ (p = 1 ∧ cw = 0)) ∧ oo = xv 3 ∧ h1 = h.thr) ∨ ((0 ≤ p ∧ p ≤ 1) ∧ ¬ (w = 0 ∨ (p = 1 ∧ cw = 0)) ∧ oo = iv (if p = 0 then (if q9 = 0 then w else d) else if q9 = 0 then cw else cd) ∧ h1 = h)) := by
  have hC := j.1.1.1
  have n94 := hC.1
  have rf := j.2.2.2.1
  refine cv_of cdX10_reason ?_
  show EV _ _ 0 [rv 0, iv p, iv q9, uv] [] h _
  -- from the refusal that is told
  have told : ∀ (x : Nat) (e1 e2 : Int), (x < h.n ∧ h.kd x = (4, 3)) → h.vl x 0 = e1 → h.vl x 1 = e2 → EV mX10_reason 4 46 [rv 0, iv p, iv q9, uv] [rv (x : Int)] h (fun oo h1 => oo = iv (if q9 = 0 then e1 else e2) ∧ h1 = h) := by
    intro x e1 e2 hx v1 v2
    refine ev_ast3 dX10_reason_46 ?_
    refine ev_aload_n dX10_reason_47 rfl ?_
    refine ev_ifnonnull 62 dX10_reason_48 (fun hb => ?_) (fun h_no => (by exfalso; omega))
    refine ev_iload_n dX10_reason_62 rfl ?_
    rcases hq with z | z
    · skip
      refine ev_ifeq 73 dX10_reason_63 (fun hb2 => ?_) (fun h_no => (by exfalso; omega))
      refine ev_aload_n dX10_reason_73 rfl ?_
      refine ev_getiv dX10_reason_74 fX10_279 hx.2 hx.1 rfl v1 ?_
      exact ev_iret dX10_reason_77 (⟨by rw [if_pos z], rfl⟩)
    refine ev_ifeq 73 dX10_reason_63 (fun h_no => (by exfalso; omega)) (fun hb2 => ?_)
    refine ev_aload_n dX10_reason_66 rfl ?_
    refine ev_getiv dX10_reason_67 fX10_276 hx.2 hx.1 rfl v2 ?_
    refine ev_gt 77 dX10_reason_70 ?_
    exact ev_iret dX10_reason_77 (⟨by rw [if_neg (by omega)], rfl⟩)
  have none1 : EV mX10_reason 4 46 [rv 0, iv p, iv q9, uv] [rv (-1)] h (fun oo h1 => oo = xv 3 ∧ h1 = h.thr) := by
    refine ev_ast3 dX10_reason_46 ?_
    refine ev_aload_n dX10_reason_47 rfl ?_
    refine ev_ifnonnull 62 dX10_reason_48 (fun h_no => (by exfalso; omega)) (fun hb => ?_)
    exact ev_throwxw _ tk_3 (List.mem_of_getElem? (i := 20) rfl) dX10_reason_51 dX10_reason_54 dX10_reason_55 dX10_reason_58 dX10_reason_61 rfl (Nat.le_of_ble_eq_true rfl) (⟨rfl, rfl⟩)
  by_cases p0 : p = 0
  · subst p0
    refine ev_iload_n dX10_reason_0 rfl ?_
    refine ev_ifeq 20 dX10_reason_1 (fun hb => ?_) (fun h_no => (by exfalso; omega))
    refine ev_iload_n dX10_reason_20 rfl ?_
    refine ev_iconst dX10_reason_21 ?_
    refine ev_icmpne 42 dX10_reason_22 (fun hb2 => ?_) (fun h_no => (by exfalso; omega))
    refine ev_aload_n dX10_reason_42 rfl ?_
    refine ev_getr dX10_reason_43 fX10_260 hC.k0 hC.n0 rfl ?_
    rcases rf with ⟨r1, r2⟩ | ⟨r, r1, r2, r3, r4, r5, r6⟩
    · rw [r1]
      refine ev_mono none1 fun o h1 q => ?_
      exact Or.inr (Or.inl ⟨by decide, Or.inl r2, q.1, q.2⟩)
    · rw [r1]
      refine ev_mono (told r w d r2.2 r4 r5) fun o h1 q => ?_
      exact Or.inr (Or.inr ⟨by decide, by omega, by rw [if_pos rfl]; exact q.1, q.2⟩)
  by_cases p1 : p = 1
  · subst p1
    rcases rf with ⟨r1, r2⟩ | ⟨r, r1, r2, r3, r4, r5, r6⟩
    · skip
      refine ev_iload_n dX10_reason_0 rfl ?_
      refine ev_ifeq 20 dX10_reason_1 (fun h_no => (by exfalso; omega)) (fun hb => ?_)
      refine ev_iload_n dX10_reason_4 rfl ?_
      refine ev_iconst dX10_reason_5 ?_
      refine ev_icmpeq 20 dX10_reason_6 (fun hb2 => ?_) (fun h_no => (by exfalso; omega))
      refine ev_iload_n dX10_reason_20 rfl ?_
      refine ev_iconst dX10_reason_21 ?_
      refine ev_icmpne 42 dX10_reason_22 (fun h_no => (by exfalso; omega)) (fun hb3 => ?_)
      refine ev_aload_n dX10_reason_25 rfl ?_
      refine ev_getr dX10_reason_26 fX10_260 hC.k0 hC.n0 rfl ?_
      rw [r1]
      refine ev_ifnull 42 dX10_reason_29 (fun hb4 => ?_) (fun h_no => (by exfalso; omega))
      refine ev_aload_n dX10_reason_42 rfl ?_
      refine ev_getr dX10_reason_43 fX10_260 hC.k0 hC.n0 rfl ?_
      rw [r1]
      refine ev_mono none1 fun o h1 q => ?_
      exact Or.inr (Or.inl ⟨by decide, Or.inl r2, q.1, q.2⟩)
    · skip
      refine ev_iload_n dX10_reason_0 rfl ?_
      refine ev_ifeq 20 dX10_reason_1 (fun h_no => (by exfalso; omega)) (fun hb => ?_)
      refine ev_iload_n dX10_reason_4 rfl ?_
      refine ev_iconst dX10_reason_5 ?_
      refine ev_icmpeq 20 dX10_reason_6 (fun hb2 => ?_) (fun h_no => (by exfalso; omega))
      refine ev_iload_n dX10_reason_20 rfl ?_
      refine ev_iconst dX10_reason_21 ?_
      refine ev_icmpne 42 dX10_reason_22 (fun h_no => (by exfalso; omega)) (fun hb3 => ?_)
      refine ev_aload_n dX10_reason_25 rfl ?_
      refine ev_getrv dX10_reason_26 fX10_260 hC.k0 hC.n0 rfl r1 ?_
      refine ev_ifnull 42 dX10_reason_29 (fun h_no => (by exfalso; omega)) (fun hb4 => ?_)
      refine ev_aload_n dX10_reason_32 rfl ?_
      refine ev_getrv dX10_reason_33 fX10_260 hC.k0 hC.n0 rfl r1 ?_
      refine ev_getr dX10_reason_36 fX10_271 r2.2.2 r2.2.1 rfl ?_
      refine ev_gt 46 dX10_reason_39 ?_
      rcases r6 with ⟨u1, u2⟩ | ⟨u, u1, u2, u3, u4, u5⟩
      · rw [u1]
        refine ev_mono none1 fun o h1 q => ?_
        exact Or.inr (Or.inl ⟨by decide, Or.inr ⟨rfl, u2⟩, q.1, q.2⟩)
      · rw [u1]
        refine ev_mono (told u cw cd u2.2 u4 u5) fun o h1 q => ?_
        exact Or.inr (Or.inr ⟨by decide, by omega, by rw [if_neg (by decide)]; exact q.1, q.2⟩)
  refine ev_iload_n dX10_reason_0 rfl ?_
  refine ev_ifeq 20 dX10_reason_1 (fun h_no => (by exfalso; omega)) (fun hb => ?_)
  refine ev_iload_n dX10_reason_4 rfl ?_
  refine ev_iconst dX10_reason_5 ?_
  refine ev_icmpeq 20 dX10_reason_6 (fun h_no => (by exfalso; omega)) (fun hb2 => ?_)
  exact ev_throww _ tk_0 (List.mem_of_getElem? (i := 19) rfl) dX10_reason_9 dX10_reason_12 dX10_reason_13 dX10_reason_16 dX10_reason_19 rfl (Nat.le_of_ble_eq_true rfl) (Or.inl ⟨by omega, rfl, rfl⟩)
end Rea
