/-! the class: is a type as general as another one -/
theorem row_uq {v : Nat → Int} : ∀ (A B : TE) (m : Nat), RwA v m (rowT A) → RwA v m (rowT B) → A = B
  | .var x, .var y, m, h, h' => by
    obtain ⟨e, e1, e2, e3, e4⟩ := row_leaf (v := x)
    obtain ⟨f, f1, f2, f3, f4⟩ := row_leaf (v := y)
    rw [e1] at h
    rw [f1] at h'
    have := h.tl.1.symm.trans h'.tl.1
    have : x = y := by
      by_cases c : x < 2
      · have := e3 c
        by_cases d : y < 2
        · have := f3 d; omega
        · have := f4 (by omega); omega
      · have := e4 (by omega)
        by_cases d : y < 2
        · have := f3 d; omega
        · have := f4 (by omega); omega
    rw [this]
  | .var x, .op c d, m, h, h' => by
    obtain ⟨e, e1, e2, -⟩ := row_leaf (v := x)
    rw [e1] at h
    rw [rowT] at h'
    exact absurd (h.tl.1.symm.trans h'.tl.1) e2
  | .op a b, .var y, m, h, h' => by
    obtain ⟨e, e1, e2, -⟩ := row_leaf (v := y)
    rw [e1] at h'
    rw [rowT] at h
    exact absurd (h'.tl.1.symm.trans h.tl.1) e2
  | .op a b, .op c d, m, h, h' => by
    rw [rowT] at h h'
    obtain ⟨h1, h2⟩ := h.tl.2.app
    obtain ⟨g1, g2⟩ := h'.tl.2.app
    have e1 := row_uq a c (m + 1) h1 g1
    rw [e1] at h2
    rw [e1, row_uq b d _ h2 g2]
theorem row_nn : ∀ (A : TE), ∀ x ∈ rowT A, 0 ≤ x
  | .var v, x, hx => by
    obtain ⟨e, e1, e2, e3, e4⟩ := row_leaf (v := v)
    rw [e1] at hx
    have hx := List.mem_singleton.mp hx
    by_cases c : v < 2
    · have := e3 c; omega
    · have := e4 (by omega); omega
  | .op a b, x, hx => by
    rw [rowT] at hx
    rcases List.mem_cons.mp hx with z | z
    · omega
    · exact (List.mem_append.mp z).elim (row_nn a x) (row_nn b x)
section Gen
variable {h : AH} {s b R n : Nat}
theorem en_walk {Q : AV → AH → Prop} {x1 : Int} (g : ShI h s b R n) : ∀ (T : TE) (k w : Nat), RwA (h.vl b) k (rowT T) → k + sz T ≤ n → w + sz T ≤ 200000 → EV mX5_endOf 3 4 [rv s, iv x1, iv (w : Int), iv ((k + sz T : Nat) : Int)] [] h Q → EV mX5_endOf 3 4 [rv s, iv x1, iv ((w : Int) + 1), iv (k : Int)] [] h Q
  | .var v, k, w, hr, hk, hw, K => by
    obtain ⟨e, e1, e2, -⟩ := row_leaf (v := v)
    rw [e1] at hr
    have h0 := hr.tl.1
    simp only [sz] at hk hw K
    have g6 := g.2.2.1
    have g7 := g.2.2.2
    refine ev_iload_n dX5_endOf_4 rfl ?_
    refine ev_ifle 39 dX5_endOf_5 (fun h_no => (by exfalso; omega)) (fun hb => ?_)
    refine ev_iload_n dX5_endOf_8 rfl ?_
    refine ev_aload_n dX5_endOf_9 rfl ?_
    refine ev_getiv dX5_endOf_10 fX5_15 g.1.1 g.1.2 rfl g6 ?_
    refine ev_icmpge 39 dX5_endOf_13 (fun h_no => (by exfalso; omega)) (fun hb1 => ?_)
    refine ev_iload_n dX5_endOf_16 rfl ?_
    refine ev_aload_n dX5_endOf_17 rfl ?_
    refine ev_iload_n dX5_endOf_18 rfl ?_
    refine ev_cvi dX5_endOf_19 lX5_30 (s_sgS g (by omega) h0) (by decide) g.1.1 g.1.2 rfl rfl rfl (Nat.le_of_ble_eq_true rfl) rfl (fun r z q => ?_)
    obtain ⟨rfl, eq⟩ := q
    rw [eq]
    refine ev_iconst dX5_endOf_22 ?_
    refine ev_icmpne 30 dX5_endOf_23 (fun hb2 => ?_) (fun h_no => (by exfalso; omega))
    refine ev_iconst dX5_endOf_30 ?_
    refine ev_iadd dX5_endOf_31 (by unfold ir; omega) ?_
    refine ev_ist2 dX5_endOf_32 ?_
    refine ev_iin3 dX5_endOf_33 (by unfold ir; omega) ?_
    refine ev_gt 4 dX5_endOf_36 ?_
    rw [show (w : Int) + 1 + -1 = (w : Int) by omega, show (k : Int) + 1 = ((k + 1 : Nat) : Int) by omega]
    exact K
  | .op A B, k, w, hr, hk, hw, K => by
    rw [rowT] at hr
    obtain ⟨h0, h1⟩ := hr.tl
    obtain ⟨h2, h3⟩ := h1.app
    rw [row_len] at h3
    simp only [sz] at hk hw K
    have g6 := g.2.2.1
    have g7 := g.2.2.2
    have sA := sz_pos A
    have sB := sz_pos B
    refine ev_iload_n dX5_endOf_4 rfl ?_
    refine ev_ifle 39 dX5_endOf_5 (fun h_no => (by exfalso; omega)) (fun hb => ?_)
    refine ev_iload_n dX5_endOf_8 rfl ?_
    refine ev_aload_n dX5_endOf_9 rfl ?_
    refine ev_getiv dX5_endOf_10 fX5_15 g.1.1 g.1.2 rfl g6 ?_
    refine ev_icmpge 39 dX5_endOf_13 (fun h_no => (by exfalso; omega)) (fun hb1 => ?_)
    refine ev_iload_n dX5_endOf_16 rfl ?_
    refine ev_aload_n dX5_endOf_17 rfl ?_
    refine ev_iload_n dX5_endOf_18 rfl ?_
    refine ev_cvi dX5_endOf_19 lX5_30 (s_sgS g (by omega) h0) (by decide) g.1.1 g.1.2 rfl rfl rfl (Nat.le_of_ble_eq_true rfl) rfl (fun r z q => ?_)
    obtain ⟨rfl, eq⟩ := q
    rw [eq]
    refine ev_iconst dX5_endOf_22 ?_
    refine ev_icmpne 30 dX5_endOf_23 (fun h_no => (by exfalso; omega)) (fun hb2 => ?_)
    refine ev_iconst dX5_endOf_26 ?_
    refine ev_gt 31 dX5_endOf_27 ?_
    refine ev_iadd dX5_endOf_31 (by unfold ir; omega) ?_
    refine ev_ist2 dX5_endOf_32 ?_
    refine ev_iin3 dX5_endOf_33 (by unfold ir; omega) ?_
    refine ev_gt 4 dX5_endOf_36 ?_
    rw [show (w : Int) + 1 + 1 = ((w + 1 : Nat) : Int) + 1 by omega, show (k : Int) + 1 = ((k + 1 : Nat) : Int) by omega]
    refine en_walk g A (k + 1) (w + 1) h2 (by omega) (by omega) ?_
    rw [show ((w + 1 : Nat) : Int) = (w : Int) + 1 by omega]
    refine en_walk g B (k + 1 + sz A) w h3 (by omega) (by omega) ?_
    rw [show k + 1 + sz A + sz B = k + (1 + sz A + sz B) by omega]
    exact K
set_option maxRecDepth 100000 in
theorem s_endS {T : TE} {k : Nat} (g : ShI h s b R n) (hr : RwA (h.vl b) k (rowT T)) (hk : k + sz T ≤ n) : CV mX5_endOf 3 [rv s, iv (k : Int)] h (oi fun r h1 => r = ((k + sz T : Nat) : Int) ∧ h1 = h) := by
  have g7 := g.2.2.2
  refine cv_of cdX5_endOf ?_
  show EV _ _ 0 [rv s, iv (k : Int), uv, uv] [] h _
  refine ev_iconst dX5_endOf_0 ?_
  refine ev_ist2 dX5_endOf_1 ?_
  refine ev_iload_n dX5_endOf_2 rfl ?_
  refine ev_ist3 dX5_endOf_3 ?_
  refine en_walk g T k 0 hr hk (by omega) ?_
  refine ev_iload_n dX5_endOf_4 rfl ?_
  refine ev_ifle 39 dX5_endOf_5 (fun hb => ?_) (fun h_no => (by exfalso; omega))
  refine ev_iload_n dX5_endOf_39 rfl ?_
  exact ev_iret dX5_endOf_40 (⟨_, rfl, rfl, rfl⟩)
/-- the same signs stand behind two places -/
def RpP (v : Nat → Int) (n k m : Nat) (i : Nat) : Prop := ∀ j, j < i → m + j < n ∧ v (k + j) = v (m + j)
set_option maxRecDepth 100000 in
theorem rp_loop {k m z : Nat} (g : ShI h s b R n) (hk : k + z ≤ n) (hm : m ≤ n) (hnn : ∀ j, j < z → 0 ≤ h.vl b (k + j)) : ∀ (t i : Nat), i + t = z → RpP (h.vl b) n k m i → EV mX5_isRepeated 4 11 [rv s, iv (k : Int), iv (m : Int), iv (z : Int), iv (i : Int)] [] h (oi fun x h1 => (x = 0 ∨ x = 1) ∧ (x = 1 ↔ RpP (h.vl b) n k m z) ∧ h1 = h)
  | 0, i, hi, hp => by
    obtain rfl : i = z := by omega
    refine ev_iload dX5_isRepeated_11 rfl ?_
    refine ev_iload_n dX5_isRepeated_13 rfl ?_
    refine ev_icmpge 44 dX5_isRepeated_14 (fun hb => ?_) (fun h_no => (by exfalso; omega))
    refine ev_iconst dX5_isRepeated_44 ?_
    exact ev_zret dX5_isRepeated_45 (⟨_, rfl, Or.inr rfl, ⟨fun _ => hp, fun _ => rfl⟩, rfl⟩) (Or.inr rfl)
  | t + 1, i, hi, hp => by
    have g7 := g.2.2.2
    refine ev_iload dX5_isRepeated_11 rfl ?_
    refine ev_iload_n dX5_isRepeated_13 rfl ?_
    refine ev_icmpge 44 dX5_isRepeated_14 (fun h_no => (by exfalso; omega)) (fun hb => ?_)
    refine ev_aload_n dX5_isRepeated_17 rfl ?_
    refine ev_iload_n dX5_isRepeated_18 rfl ?_
    refine ev_iload dX5_isRepeated_19 rfl ?_
    refine ev_iadd dX5_isRepeated_21 (by unfold ir; omega) ?_
    obtain ⟨x, hx⟩ : ∃ x, h.vl b (k + i) = x := ⟨_, rfl⟩
    rw [show (k : Int) + (i : Int) = ((k + i : Nat) : Int) by omega]
    refine ev_cvi dX5_isRepeated_22 lX5_30 (s_sgS g (by omega) hx) (by decide) g.1.1 g.1.2 rfl rfl rfl (Nat.le_of_ble_eq_true rfl) rfl (fun r z9 q => ?_)
    obtain ⟨rfl, eq⟩ := q
    rw [eq]
    refine ev_aload_n dX5_isRepeated_25 rfl ?_
    refine ev_iload_n dX5_isRepeated_26 rfl ?_
    refine ev_iload dX5_isRepeated_27 rfl ?_
    refine ev_iadd dX5_isRepeated_29 (by unfold ir; omega) ?_
    rw [show (m : Int) + (i : Int) = ((m + i : Nat) : Int) by omega]
    refine ev_cvi dX5_isRepeated_30 lX5_30 (s_sign g (by omega)) (by decide) g.1.1 g.1.2 rfl rfl rfl (Nat.le_of_ble_eq_true rfl) rfl (fun r' z9 q => ?_)
    obtain ⟨er, eq⟩ := q
    rw [eq]
    have x0 := hnn i (by omega)
    rw [show ((m + i : Nat) : Int).toNat = m + i from rfl] at er
    by_cases c : m + i < n ∧ h.vl b (m + i) = r
    · skip
      rw [if_pos (by omega)] at er
      refine ev_icmpeq 38 dX5_isRepeated_33 (fun hb2 => ?_) (fun h_no => (by exfalso; omega))
      refine ev_iin4 dX5_isRepeated_38 (by unfold ir; omega) ?_
      refine ev_gt 11 dX5_isRepeated_41 ?_
      rw [show (i : Int) + 1 = ((i + 1 : Nat) : Int) by omega]
      refine rp_loop g hk hm hnn t (i + 1) (by omega) (fun j hj => ?_)
      by_cases e : j = i
      · rw [e]
        exact ⟨c.1, by omega⟩
      · exact hp j (by omega)
    have ne : ¬ r = r' := fun z => by
      by_cases d : m + i < n
      · rw [if_pos (by omega)] at er
        exact c ⟨d, by omega⟩
      · rw [if_neg (by omega)] at er
        omega
    refine ev_icmpeq 38 dX5_isRepeated_33 (fun h_no => (by exfalso; omega)) (fun hb2 => ?_)
    refine ev_iconst dX5_isRepeated_36 ?_
    exact ev_zret dX5_isRepeated_37 (⟨_, rfl, Or.inl rfl, ⟨fun z => absurd z (by decide), fun z => absurd ⟨(z i (by omega)).1, by have := (z i (by omega)).2; omega⟩ c⟩, rfl⟩) (Or.inl rfl)
set_option maxRecDepth 100000 in
theorem s_repC {A B : TE} {k m : Nat} (g : ShI h s b R n) (hr : RwA (h.vl b) k (rowT A)) (hr' : RwA (h.vl b) m (rowT B)) (hk : k + sz A ≤ n) (hm : m + sz B ≤ n) : CV mX5_isRepeated 4 [rv s, iv (k : Int), iv (m : Int)] h (oi fun x h1 => (x = 0 ∨ x = 1) ∧ (x = 1 ↔ A = B) ∧ h1 = h) := by
  have g7 := g.2.2.2
  refine cv_of cdX5_isRepeated ?_
  show EV _ _ 0 [rv s, iv (k : Int), iv (m : Int), uv, uv] [] h _
  refine ev_aload_n dX5_isRepeated_0 rfl ?_
  refine ev_iload_n dX5_isRepeated_1 rfl ?_
  refine ev_cvi dX5_isRepeated_2 lX5_66 (s_endS (T := A) g hr hk) (by decide) g.1.1 g.1.2 rfl rfl rfl (Nat.le_of_ble_eq_true rfl) rfl (fun r z1 q => ?_)
  obtain ⟨rfl, e1⟩ := q
  rw [e1]
  refine ev_iload_n dX5_isRepeated_5 rfl ?_
  refine ev_isub dX5_isRepeated_6 (by unfold ir; omega) ?_
  rw [show ((k + sz A : Nat) : Int) - (k : Int) = (sz A : Int) by omega]
  refine ev_ist3 dX5_isRepeated_7 ?_
  refine ev_iconst dX5_isRepeated_8 ?_
  refine ev_ist4 dX5_isRepeated_9 ?_
  have nn : ∀ j, j < sz A → 0 ≤ h.vl b (k + j) := fun j hj => by
    have hj' : j < (rowT A).length := by rw [row_len]; exact hj
    rw [hr j hj']
    exact row_nn A _ (List.getElem_mem _)
  refine ev_mono (rp_loop g hk (by omega) nn (sz A) 0 (Nat.zero_add _) (fun j hj => absurd hj (Nat.not_lt_zero _))) fun o h1 q => ?_
  obtain ⟨x, rfl, q1, q2, q3⟩ := q
  refine ⟨x, rfl, q1, q2.trans ⟨fun z => ?_, fun z j hj => ?_⟩, q3⟩
  · refine row_uq (v := h.vl b) A B m (fun i hi => ?_) hr'
    rw [← (z i (by rw [← row_len]; exact hi)).2]
    exact hr i hi
  · subst z
    have hj' : j < (rowT A).length := by rw [row_len]; exact hj
    exact ⟨by omega, by rw [hr j hj', hr' j hj']⟩
end Gen
/-- the places of what stands for variables -/
def AgB (w : Nat → Int) (n V : Nat) (nm : Nat → Int) (σ : Nat → Option TE) : Prop := ∀ x, 2 ≤ x → x < 2 + V → (nm (x - 2) = -1 ∧ σ x = none) ∨ ∃ (c : Nat) (t : TE), nm (x - 2) = (c : Int) ∧ σ x = some t ∧ RwA w c (rowT t) ∧ c + sz t ≤ n
/-- all stays but one cell -/
def OnC (h h1 : AH) (r : Nat) : Prop := h1.n = h.n ∧ h1.kd = h.kd ∧ h1.cs = h.cs ∧ h1.ss = h.ss ∧ ∀ b, b ≠ r → h1.vl b = h.vl b
theorem OnC.rf {h : AH} {r : Nat} : OnC h h r := ⟨rfl, rfl, rfl, rfl, fun _ _ => rfl⟩
theorem OnC.pt {h h1 : AH} {r i : Nat} {x : Int} (p : OnC h h1 r) : OnC h (h1.put r i x) r := ⟨p.1, p.2.1, p.2.2.1, p.2.2.2.1, fun b hb => (put_ne _ hb).trans (p.2.2.2.2 b hb)⟩
theorem OnC.si {h h1 : AH} {r s b R n : Nat} (p : OnC h h1 r) (g : ShI h s b R n) (hs : s ≠ r) : ShI h1 s b R n := by
  obtain ⟨⟨g1, g2⟩, ⟨g3, g4, g5⟩, g6, g7⟩ := g
  obtain ⟨p1, p2, -, -, p5⟩ := p
  exact ⟨⟨by rw [p2]; exact g1, by omega⟩, ⟨by rw [p5 s hs]; exact g3, by rw [p2]; exact g4, by omega⟩, by rw [p5 s hs]; exact g6, g7⟩
set_option maxRecDepth 100000 in
theorem ab_walk {h0 : AH} {s b R n s' b' R' n' r V : Nat} {Q : AV → AH → Prop} (g : ShI h0 s b R n) (g' : ShI h0 s' b' R' n') (hr : h0.kd r = (100, V) ∧ r < h0.n ∧ V ≤ 1000) (hne : (s ≠ r ∧ b ≠ r) ∧ s' ≠ r ∧ b' ≠ r) :
    ∀ (A : TE) (k m : Nat) (B : TE) (σ : Nat → Option TE) (h : AH) (v5 : AV), OnC h0 h r → RwA (h0.vl b) k (rowT A) → RwA (h0.vl b') m (rowT B) → k + sz A ≤ n → m + sz B ≤ n' → AgB (h0.vl b') n' V (h.vl r) σ → vsT (fun x => x < 2 + V) A →
    (∀ h1, agT A B σ = none → OnC h0 h1 r → Q (iv 0) h1) →
    (∀ σ' h1 v5, agT A B σ = some σ' → OnC h0 h1 r → AgB (h0.vl b') n' V (h1.vl r) σ' → EV mX5_becomes 5 17 [rv s, rv s', rv r, iv ((m + sz B : Nat) : Int), iv ((k + sz A : Nat) : Int), v5] [] h1 Q) →
    EV mX5_becomes 5 17 [rv s, rv s', rv r, iv (m : Int), iv (k : Int), v5] [] h Q
  | .var v, k, m, B, σ, h, v5, hK, hu, hw, hk, hm, hA, hv, no, ok => by
    have gh := hK.si g hne.1.1
    have gh' := hK.si g' hne.2.1
    have g6 := gh.2.2.1
    have g7 := gh.2.2.2
    have g7' := gh'.2.2.2
    have ub := hK.2.2.2.2 b hne.1.2
    have ub' := hK.2.2.2.2 b' hne.2.2
    have kr : h.kd r = (100, V) := by rw [hK.2.1]; exact hr.1
    have nr : r < h.n := by rw [hK.1]; exact hr.2.1
    have hr9 := hr.2.2
    obtain ⟨e, e1, e2, e3, e4⟩ := row_leaf (v := v)
    have e9 : 0 ≤ e ∧ e ≤ 1003 := by
      by_cases c : v < 2
      · have := e3 c; omega
      · have := e4 (by omega)
        have h9 : v < 2 + V := hv v (by omega) (by simp [oc])
        omega
    rw [e1] at hu
    have u0 : h.vl b k = e := by rw [ub]; exact hu.tl.1
    simp only [sz] at hk ok
    refine ev_iload dX5_becomes_17 rfl ?_
    refine ev_aload_n dX5_becomes_19 rfl ?_
    refine ev_getiv dX5_becomes_20 fX5_15 gh.1.1 gh.1.2 rfl g6 ?_
    refine ev_icmpge 107 dX5_becomes_23 (fun h_no => (by exfalso; omega)) (fun hb => ?_)
    refine ev_aload_n dX5_becomes_26 rfl ?_
    refine ev_iload dX5_becomes_27 rfl ?_
    refine ev_cvi dX5_becomes_29 lX5_30 (s_sgS gh (by omega) u0) (by decide) gh.1.1 gh.1.2 rfl rfl rfl (Nat.le_of_ble_eq_true rfl) rfl (fun r0 z q => ?_)
    obtain ⟨rfl, eq⟩ := q
    rw [eq]
    refine ev_iconst dX5_becomes_32 ?_
    refine ev_isub dX5_becomes_33 (by unfold ir; omega) ?_
    refine ev_ist5 dX5_becomes_34 ?_
    refine ev_iload dX5_becomes_36 rfl ?_
    by_cases c : v < 2
    · skip
      have ev := e3 c
      refine ev_ifge 63 dX5_becomes_38 (fun h_no => (by exfalso; omega)) (fun hb2 => ?_)
      refine ev_aload_n dX5_becomes_41 rfl ?_
      refine ev_iload dX5_becomes_42 rfl ?_
      refine ev_cvi dX5_becomes_44 lX5_30 (s_sgS gh (by omega) u0) (by decide) gh.1.1 gh.1.2 rfl rfl rfl (Nat.le_of_ble_eq_true rfl) rfl (fun r1 z q => ?_)
      obtain ⟨er1, eq⟩ := q
      rw [eq]
      refine ev_aload_n dX5_becomes_47 rfl ?_
      refine ev_iload_n dX5_becomes_48 rfl ?_
      obtain ⟨b0, hb0, hbe⟩ : ∃ b0, h.vl b' m = b0 ∧ (b0 = r0 ↔ B = .var v) := by
        refine ⟨_, rfl, ?_⟩
        rw [ub']
        cases B with
        | var y =>
          obtain ⟨y0, y1, y2, y3, y4⟩ := row_leaf (v := y)
          rw [y1] at hw
          rw [hw.tl.1]
          constructor
          · intro z
            have : y = v := by
              by_cases d : y < 2
              · have := y3 d; omega
              · have := y4 (by omega); omega
            rw [this]
          · intro z
            have : y = v := Lean.Data.AC.Expr.var.inj z
            subst this
            rw [y3 c, ev]
        | op y z =>
          rw [rowT] at hw
          rw [hw.tl.1]
          exact ⟨fun z => by omega, fun z => nomatch z⟩
      have sB := sz_pos B
      refine ev_cvi dX5_becomes_49 lX5_30 (s_sgS gh' (by omega) hb0) (by decide) gh'.1.1 gh'.1.2 rfl rfl rfl (Nat.le_of_ble_eq_true rfl) rfl (fun r2 z q => ?_)
      obtain ⟨rfl, eq⟩ := q
      rw [eq]
      by_cases d : B = .var v
      · skip
        have d1 := hbe.mpr d
        have ha : agT (.var v) B σ = some σ := by
          rw [agT, if_pos c, if_pos ((teq_iff _ _).mpr d)]
        refine ev_icmpeq 57 dX5_becomes_52 (fun hb3 => ?_) (fun h_no => (by exfalso; omega))
        refine ev_iin3 dX5_becomes_57 (by unfold ir; omega) ?_
        refine ev_gt 101 dX5_becomes_60 ?_
        refine ev_iin4 dX5_becomes_101 (by unfold ir; omega) ?_
        refine ev_gt 17 dX5_becomes_104 ?_
        have := ok σ h (iv (r0 - 3)) ha hK hA
        rw [d] at this
        simp only [sz] at this
        exact this
      have d1 : ¬ r2 = r0 := fun z => d (hbe.mp z)
      have ha : agT (.var v) B σ = none := by
        rw [agT, if_pos c, if_neg (fun z => d ((teq_iff _ _).mp z))]
      refine ev_icmpeq 57 dX5_becomes_52 (fun h_no => (by exfalso; omega)) (fun hb3 => ?_)
      refine ev_iconst dX5_becomes_55 ?_
      exact ev_zret dX5_becomes_56 (no h ha hK) (Or.inl rfl)
    have ev := e4 (by omega)
    have v9 : v < 2 + V := hv v (by omega) (by simp [oc])
    refine ev_ifge 63 dX5_becomes_38 (fun hb2 => ?_) (fun h_no => (by exfalso; omega))
    refine ev_aload_n dX5_becomes_63 rfl ?_
    refine ev_iload dX5_becomes_64 rfl ?_
    rw [show r0 - 3 = ((v - 2 : Nat) : Int) by omega]
    obtain ⟨nx, hnx⟩ : ∃ nx, h.vl r (v - 2) = nx := ⟨_, rfl⟩
    -- behind what is put
    have fin : ∀ (σ' : Nat → Option TE) (h1 : AH), agT (.var v) B σ = some σ' → OnC h0 h1 r → AgB (h0.vl b') n' V (h1.vl r) σ' → EV mX5_becomes 5 95 [rv s, rv s', rv r, iv (m : Int), iv (k : Int), iv ((v - 2 : Nat) : Int)] [] h1 Q := by
      intro σ' h1 a1 a2 a3
      have i' := a2.si g' hne.2.1
      have i7 := i'.2.2.2
      refine ev_aload_n dX5_becomes_95 rfl ?_
      refine ev_iload_n dX5_becomes_96 rfl ?_
      refine ev_cvi dX5_becomes_97 lX5_66 (s_endS (T := B) (k := m) i' (by rw [a2.2.2.2.2 b' hne.2.2]; exact hw) hm) (by decide) i'.1.1 i'.1.2 rfl rfl rfl (Nat.le_of_ble_eq_true rfl) rfl (fun r3 z1 q => ?_)
      obtain ⟨rfl, e9⟩ := q
      rw [e9]
      refine ev_ist3 dX5_becomes_100 ?_
      refine ev_iin4 dX5_becomes_101 (by unfold ir; omega) ?_
      refine ev_gt 17 dX5_becomes_104 ?_
      rw [show (k : Int) + 1 = ((k + 1 : Nat) : Int) by omega]
      exact ok σ' h1 _ a1 a2 a3
    -- the second look
    have p79 : ∀ (h1 : AH) (c0 : Nat) (t : TE), OnC h0 h1 r → h1.vl r (v - 2) = (c0 : Int) → RwA (h0.vl b') c0 (rowT t) → c0 + sz t ≤ n' → (∀ σ', t = B → agT (.var v) B σ = some σ' ∧ AgB (h0.vl b') n' V (h1.vl r) σ' → EV mX5_becomes 5 95 [rv s, rv s', rv r, iv (m : Int), iv (k : Int), iv ((v - 2 : Nat) : Int)] [] h1 Q) → (t = B → ∃ σ', agT (.var v) B σ = some σ' ∧ AgB (h0.vl b') n' V (h1.vl r) σ') → (t ≠ B → agT (.var v) B σ = none) → EV mX5_becomes 5 79 [rv s, rv s', rv r, iv (m : Int), iv (k : Int), iv ((v - 2 : Nat) : Int)] [] h1 Q := by
      intro h1 c0 t a2 a3 a4 a5 a6 a7 a8
      have i' := a2.si g' hne.2.1
      have i7 := i'.2.2.2
      have kr1 : h1.kd r = (100, V) := by rw [a2.2.1]; exact hr.1
      have nr1 : r < h1.n := by rw [a2.1]; exact hr.2.1
      refine ev_aload_n dX5_becomes_79 rfl ?_
      refine ev_aload_n dX5_becomes_80 rfl ?_
      refine ev_iload dX5_becomes_81 rfl ?_
      refine ev_csi dX5_becomes_83 lX5_23 (s_atI kr1 nr1 (by omega)) (by decide) rfl rfl (Nat.le_of_ble_eq_true rfl) rfl (fun r4 z1 q => ?_)
      obtain ⟨er, e9⟩ := q
      rw [if_pos (by omega), show ((v - 2 : Nat) : Int).toNat = v - 2 from rfl, a3] at er
      rw [e9, er]
      refine ev_iload_n dX5_becomes_86 rfl ?_
      refine ev_cvi dX5_becomes_87 lX5_62 (s_repC (A := t) (B := B) (k := c0) (m := m) i' (by rw [a2.2.2.2.2 b' hne.2.2]; exact a4) (by rw [a2.2.2.2.2 b' hne.2.2]; exact hw) a5 hm) (by decide) i'.1.1 i'.1.2 rfl rfl rfl (Nat.le_of_ble_eq_true rfl) rfl (fun x z1 q => ?_)
      obtain ⟨q1, q2, e9⟩ := q
      rw [e9]
      by_cases d : t = B
      · skip
        have r1 := q2.mpr d
        refine ev_ifne 95 dX5_becomes_90 (fun hb4 => ?_) (fun h_no => (by exfalso; omega))
        obtain ⟨σ', b1, b2⟩ := a7 d
        exact a6 σ' d ⟨b1, b2⟩
      have r1 : x = 0 := q1.resolve_right (fun z => d (q2.mp z))
      refine ev_ifne 95 dX5_becomes_90 (fun h_no => (by exfalso; omega)) (fun hb4 => ?_)
      refine ev_iconst dX5_becomes_93 ?_
      exact ev_zret dX5_becomes_94 (no h1 (a8 d) a2) (Or.inl rfl)
    refine ev_csi dX5_becomes_66 lX5_23 (s_atI kr nr (by omega)) (by decide) rfl rfl (Nat.le_of_ble_eq_true rfl) rfl (fun r4 z1 q => ?_)
    obtain ⟨er, e9⟩ := q
    rw [if_pos (by omega), show ((v - 2 : Nat) : Int).toNat = v - 2 from rfl, hnx] at er
    rw [e9, er]
    rcases hA v (by omega) v9 with ⟨n1, n2⟩ | ⟨c0, t, n1, n2, n3, n4⟩
    · skip
      rw [hnx] at n1
      have ha : agT (.var v) B σ = some (agS σ v B) := by
        rw [agT, if_neg c, n2]
      refine ev_ifge 79 dX5_becomes_69 (fun h_no => (by exfalso; omega)) (fun hb3 => ?_)
      refine ev_aload_n dX5_becomes_72 rfl ?_
      refine ev_iload dX5_becomes_73 rfl ?_
      refine ev_iload_n dX5_becomes_75 rfl ?_
      refine ev_csv dX5_becomes_76 lX5_19 (s_putI kr nr (by omega)) (by decide) rfl rfl (Nat.le_of_ble_eq_true rfl) rfl (fun h1 q => ?_)
      rw [if_pos (by omega), show ((v - 2 : Nat) : Int).toNat = v - 2 from rfl] at q
      have A1 : AgB (h0.vl b') n' V (h1.vl r) (agS σ v B) := fun x x2 x9 => by
        rw [q, AH.put_vl]
        by_cases z : x = v
        · rw [if_pos ⟨rfl, by omega⟩, agS, if_pos z]
          exact Or.inr ⟨m, B, rfl, rfl, hw, hm⟩
        · rw [if_neg (fun y => by omega), agS, if_neg z]
          exact hA x x2 x9
      have O1 : OnC h0 h1 r := by rw [q]; exact hK.pt
      exact p79 h1 m B O1 (by rw [q, AH.put_vl, if_pos ⟨rfl, rfl⟩]) hw hm (fun σ' _ w => fin σ' h1 w.1 O1 w.2) (fun _ => ⟨_, ha, A1⟩) (fun z => absurd rfl z)
    rw [hnx] at n1
    refine ev_ifge 79 dX5_becomes_69 (fun hb3 => ?_) (fun h_no => (by exfalso; omega))
    refine p79 h c0 t hK (hnx.trans n1) n3 n4 (fun σ' _ w => fin σ' h w.1 hK w.2) (fun d => ⟨σ, ?_, hA⟩) (fun d => ?_)
    · rw [agT, if_neg c, n2]
      show (if teq t B = true then some σ else none) = _
      rw [if_pos ((teq_iff _ _).mpr d)]
    · rw [agT, if_neg c, n2]
      show (if teq t B = true then some σ else none) = _
      rw [if_neg (fun z => d ((teq_iff _ _).mp z))]
  | .op a c9, k, m, B, σ, h, v5, hK, hu, hw, hk, hm, hA, hv, no, ok => by
    have gh := hK.si g hne.1.1
    have gh' := hK.si g' hne.2.1
    have g6 := gh.2.2.1
    have g7 := gh.2.2.2
    have g7' := gh'.2.2.2
    have ub := hK.2.2.2.2 b hne.1.2
    have ub' := hK.2.2.2.2 b' hne.2.2
    rw [rowT] at hu
    obtain ⟨u0, u1⟩ := hu.tl
    obtain ⟨ua, uc⟩ := u1.app
    rw [row_len] at uc
    obtain ⟨va, vb⟩ := vsT_op.mp hv
    have u0 : h.vl b k = 2 := by rw [ub]; exact u0
    simp only [sz] at hk ok
    refine ev_iload dX5_becomes_17 rfl ?_
    refine ev_aload_n dX5_becomes_19 rfl ?_
    refine ev_getiv dX5_becomes_20 fX5_15 gh.1.1 gh.1.2 rfl g6 ?_
    refine ev_icmpge 107 dX5_becomes_23 (fun h_no => (by exfalso; omega)) (fun hb => ?_)
    refine ev_aload_n dX5_becomes_26 rfl ?_
    refine ev_iload dX5_becomes_27 rfl ?_
    refine ev_cvi dX5_becomes_29 lX5_30 (s_sgS gh (by omega) u0) (by decide) gh.1.1 gh.1.2 rfl rfl rfl (Nat.le_of_ble_eq_true rfl) rfl (fun r0 z q => ?_)
    obtain ⟨rfl, eq⟩ := q
    rw [eq]
    refine ev_iconst dX5_becomes_32 ?_
    refine ev_isub dX5_becomes_33 (by unfold ir; omega) ?_
    refine ev_ist5 dX5_becomes_34 ?_
    refine ev_iload dX5_becomes_36 rfl ?_
    refine ev_ifge 63 dX5_becomes_38 (fun h_no => (by exfalso; omega)) (fun hb2 => ?_)
    refine ev_aload_n dX5_becomes_41 rfl ?_
    refine ev_iload dX5_becomes_42 rfl ?_
    refine ev_cvi dX5_becomes_44 lX5_30 (s_sgS gh (by omega) u0) (by decide) gh.1.1 gh.1.2 rfl rfl rfl (Nat.le_of_ble_eq_true rfl) rfl (fun r1 z q => ?_)
    obtain ⟨er1, eq⟩ := q
    rw [eq, er1]
    refine ev_aload_n dX5_becomes_47 rfl ?_
    refine ev_iload_n dX5_becomes_48 rfl ?_
    cases B with
    | var y =>
      obtain ⟨y0, y1, y2, -⟩ := row_leaf (v := y)
      rw [y1] at hw
      have w0 : h.vl b' m = y0 := by rw [ub']; exact hw.tl.1
      simp only [sz] at hm
      refine ev_cvi dX5_becomes_49 lX5_30 (s_sgS gh' (by omega) w0) (by decide) gh'.1.1 gh'.1.2 rfl rfl rfl (Nat.le_of_ble_eq_true rfl) rfl (fun r2 z q => ?_)
      obtain ⟨rfl, eq⟩ := q
      rw [eq]
      refine ev_icmpeq 57 dX5_becomes_52 (fun h_no => (by exfalso; omega)) (fun hb3 => ?_)
      refine ev_iconst dX5_becomes_55 ?_
      exact ev_zret dX5_becomes_56 (no h rfl hK) (Or.inl rfl)
    | op c d =>
      rw [rowT] at hw
      obtain ⟨w0, w1⟩ := hw.tl
      obtain ⟨wc, wd⟩ := w1.app
      rw [row_len] at wd
      have w0 : h.vl b' m = 2 := by rw [ub']; exact w0
      simp only [sz] at hm ok
      refine ev_cvi dX5_becomes_49 lX5_30 (s_sgS gh' (by omega) w0) (by decide) gh'.1.1 gh'.1.2 rfl rfl rfl (Nat.le_of_ble_eq_true rfl) rfl (fun r2 z q => ?_)
      obtain ⟨rfl, eq⟩ := q
      rw [eq]
      refine ev_icmpeq 57 dX5_becomes_52 (fun hb3 => ?_) (fun h_no => (by exfalso; omega))
      refine ev_iin3 dX5_becomes_57 (by unfold ir; omega) ?_
      refine ev_gt 101 dX5_becomes_60 ?_
      refine ev_iin4 dX5_becomes_101 (by unfold ir; omega) ?_
      refine ev_gt 17 dX5_becomes_104 ?_
      rw [show (m : Int) + 1 = ((m + 1 : Nat) : Int) by omega, show (k : Int) + 1 = ((k + 1 : Nat) : Int) by omega]
      refine ab_walk g g' hr hne a (k + 1) (m + 1) c σ h _ hK ua wc (by omega) (by omega) hA va (fun h1 a1 a2 => no h1 ?_ a2) (fun σ1 h1 v5 a1 a2 a3 => ?_)
      · rw [agT]
        show (agT a c σ).bind _ = none
        rw [a1]; rfl
      refine ab_walk g g' hr hne c9 (k + 1 + sz a) (m + 1 + sz c) d σ1 h1 _ a2 uc wd (by omega) (by omega) a3 vb (fun h2 b1 b2 => no h2 ?_ b2) (fun σ2 h2 v5 b1 b2 b3 => ?_)
      · rw [agT]
        show (agT a c σ).bind _ = none
        rw [a1]
        exact b1
      rw [show m + 1 + sz c + sz d = m + (1 + sz c + sz d) by omega, show k + 1 + sz a + sz c9 = k + (1 + sz a + sz c9) by omega]
      refine ok σ2 h2 _ ?_ b2 b3
      rw [agT]
      show (agT a c σ).bind _ = some σ2
      rw [a1]
      exact b1
