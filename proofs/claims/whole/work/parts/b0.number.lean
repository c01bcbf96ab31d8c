/-! the numbers of a type: its size, arrows, variables, order, places -/
theorem ofI_div {x y : Int} (hx : ir x) (hy : ir y) (h0 : 0 ≤ x) (h1 : 0 < y) : Int32.ofInt x / Int32.ofInt y = Int32.ofInt (x / y) ∧ ir (x / y) := by
  have d0 : 0 ≤ x / y := Int.ediv_nonneg h0 (by omega)
  have d1 : x / y ≤ x := Int.ediv_le_self _ h0
  have hr : ir (x / y) := by unfold ir at hx ⊢; omega
  refine ⟨?_, hr⟩
  rw [← Int32.toInt_inj, ofI_t hr, lg_idiv_nonneg (by rw [ofI_t hx]; exact h0) (by rw [ofI_t hy]; exact h1), ofI_t hx, ofI_t hy]
theorem ofI_rem {x y : Int} (hx : ir x) (hy : ir y) (h0 : 0 ≤ x) (h1 : 0 < y) : Int32.ofInt x - Int32.ofInt x / Int32.ofInt y * Int32.ofInt y = Int32.ofInt (x % y) ∧ ir (x % y) := by
  have d0 : 0 ≤ x % y := Int.emod_nonneg _ (by omega)
  have d1 : x % y < y := Int.emod_lt_of_pos _ h1
  have hr : ir (x % y) := by unfold ir at hy ⊢; omega
  refine ⟨?_, hr⟩
  rw [(ofI_div hx hy h0 h1).1, ← Int32.ofInt_mul, ← Int32.ofInt_sub, Int.emod_def, Int.mul_comm]
theorem ofI_n0 {y : Int} (hy : ir y) (h1 : 0 < y) : ¬ Int32.ofInt y = 0 := fun z => by
  have := congrArg Int32.toInt z
  rw [ofI_t hy] at this
  have e0 : (0 : Int32).toInt = 0 := rfl
  omega
theorem ev_idiv {M : MD} {d pc : Nat} {L S : List AV} {h : AH} {Q : AV → AH → Prop} {x y : Int} (hd : decode M.cc pc = .ok (.idiv, 1)) (h0 : 0 ≤ x) (h1 : 0 < y) (k : EV M d (pc + 1) L (iv (x / y) :: S) h Q) : EV M d pc L (iv y :: iv x :: S) h Q :=
  ev_pure k (fun _ hS _ => SR_c (VR_i (ofI_div (SR_hi (SR_t hS)) (SR_hi hS) h0 h1).2) (SR_t (SR_t hS))) (fun _ hS _ C _ _ k => lv_idiv C.1 C.2.1 hd (ofI_n0 (SR_hi hS) h1) (by rw [(ofI_div (SR_hi (SR_t hS)) (SR_hi hS) h0 h1).1]; exact k))
theorem ev_irem {M : MD} {d pc : Nat} {L S : List AV} {h : AH} {Q : AV → AH → Prop} {x y : Int} (hd : decode M.cc pc = .ok (.irem, 1)) (h0 : 0 ≤ x) (h1 : 0 < y) (k : EV M d (pc + 1) L (iv (x % y) :: S) h Q) : EV M d pc L (iv y :: iv x :: S) h Q :=
  ev_pure k (fun _ hS _ => SR_c (VR_i (ofI_rem (SR_hi (SR_t hS)) (SR_hi hS) h0 h1).2) (SR_t (SR_t hS))) (fun _ hS _ C _ _ k => lv_irem C.1 C.2.1 hd (ofI_n0 (SR_hi hS) h1) (by rw [(ofI_rem (SR_hi (SR_t hS)) (SR_hi hS) h0 h1).1]; exact k))
theorem cn_nmC {so fr to li : Nat → Int} {N : Nat} {rr : Nat → Nat} {tr : Nat → TE} {τ : Nat → Nat} {nv : Nat} (hg : NG so fr to li N rr tr τ nv) {t : Nat} (ht0 : t < N) : (cnT (nmC τ (tr t)) []).1 = (cnT (tr t) []).1 ∧ (cnT (nmC τ (tr t)) []).2.length = (cnT (tr t) []).2.length := by
  have h := (cn_nm hg.inj (tr t) [] (hg.vs ht0) (fun y hy => absurd hy List.not_mem_nil)).1
  have h : cnT (nmC τ (tr t)) [] = ((cnT (tr t) []).1, (cnT (tr t) []).2.map (fun x => τ (x - 2))) := h
  rw [h]
  exact ⟨rfl, List.length_map _⟩
/-- a type's row stands in the reference -/
def RowQ (h1 : AH) (T : TE) : Prop := h1.vl 42 59 = (sz T : Int) ∧ h1.vl 42 60 = ((cnT T []).2.length : Int) ∧ ∀ i (hi : i < (cnT T []).1.length), h1.vl 78 i = (cnT T []).1[i]
theorem s_writesN {h : AH} {N aB nv t : Nat} {gn : Nat → Bool} {T : Nat → TE} (hI : RI h) (g : RN h N aB nv gn T) (ht0 : t < N) (hsz : sz (T t) ≤ 200) (hst : ir (h.vl 42 50 + 1)) :
    CV mX11_writesRow 3 [rv 42, iv (t : Int)] h (on fun h1 => KP h h1 [71, 72, 74, 78] [50, 51, 59, 60] ∧ h1.vl 42 50 = h.vl 42 50 + 1 ∧ RN h1 N aB nv gn T ∧ RowQ h1 (T t)) := by
  obtain ⟨rr, tr, τ, g1, g7⟩ := id g
  have e := g7 t ht0
  have es : sz (T t) = sz (tr t) := by rw [← e]; exact nm_sz _
  obtain ⟨c1, c2⟩ := cn_nmC g1.1 ht0
  rw [e] at c1 c2
  refine cv_mono (s_writesRow hI g1.gh g1.1.2.2.1 ht0 (by omega) hst g1.2.2.2.1) fun o h1 q => ?_
  obtain ⟨rfl, q1, q2, q3, q4, q5, q6⟩ := q
  refine ⟨rfl, q1, q2, g.kp q1 (by decide) (by decide) q3, by rw [q4, es], by rw [q5, c2], ?_⟩
  rw [c1]
  exact q6
/-- the arrows on the right of a type -/
def plc : TE → Nat
  | .var _ => 0
  | .op _ b => plc b + 1
/-- what stands in a row from a place on -/
def RwA (v : Nat → Int) (k : Nat) (r : List Int) : Prop := ∀ i (hi : i < r.length), v (k + i) = r[i]
theorem RwA.app {v : Nat → Int} {k : Nat} {r s : List Int} (h : RwA v k (r ++ s)) : RwA v k r ∧ RwA v (k + r.length) s := by
  refine ⟨fun i hi => ?_, fun i hi => ?_⟩
  · have := h i (by rw [List.length_append]; omega)
    rw [this, List.getElem_append_left hi]
  · have := h (r.length + i) (by rw [List.length_append]; omega)
    rw [show k + r.length + i = k + (r.length + i) by omega, this, List.getElem_append_right (by omega)]
    congr 1
    omega
theorem RwA.tl {v : Nat → Int} {k : Nat} {a : Int} {r : List Int} (h : RwA v k (a :: r)) : v k = a ∧ RwA v (k + 1) r := by
  refine ⟨h 0 (by rw [List.length_cons]; omega), fun i hi => ?_⟩
  have := h (i + 1) (by rw [List.length_cons]; omega)
  rw [show k + 1 + i = k + (i + 1) by omega, this]
  rfl
theorem cn_leaf {v : Nat} {s : List Nat} : ∃ e, (cnT (.var v) s).1 = [e] ∧ e ≠ 2 := by
  rw [cnT]
  by_cases c : v < 2
  · rw [if_pos c]; exact ⟨_, rfl, by omega⟩
  · rw [if_neg c]
    by_cases d : v ∈ s
    · rw [if_pos d]; exact ⟨_, rfl, by omega⟩
    · rw [if_neg d]; exact ⟨_, rfl, by omega⟩
theorem cn_op {a b : TE} {s : List Nat} : (cnT (.op a b) s).1 = 2 :: ((cnT a s).1 ++ (cnT b (cnT a s).2).1) := rfl
set_option maxRecDepth 100000 in
theorem pl_skip {h : AH} {m : Int} {Q : AV → AH → Prop} (hI : RI h) : ∀ (T : TE) (s : List Nat) (k : Nat) (o : Int), RwA (h.vl 78) k (cnT T s).1 → k + sz T ≤ 209 → 1 ≤ o → o + (sz T : Int) ≤ 5000 → EV mX11_places 4 22 [rv 42, iv m, iv ((k + sz T : Nat) : Int), iv (o - 1)] [] h Q → EV mX11_places 4 22 [rv 42, iv m, iv (k : Int), iv o] [] h Q
  | .var v, s, k, o, hr, hk, ho, ho9, K => by
    obtain ⟨e, e1, e2⟩ := cn_leaf (v := v) (s := s)
    rw [e1] at hr
    have h0 := hr.tl.1
    simp only [sz] at hk K
    refine ev_iload_n dX11_places_22 rfl ?_
    refine ev_ifle 50 dX11_places_23 (fun h_no => (by exfalso; omega)) (fun hb => ?_)
    refine ev_iload_n dX11_places_26 rfl ?_
    refine ev_aload_n dX11_places_27 rfl ?_
    refine ev_getrv dX11_places_28 fX11_119 hI.o hI.n rfl hI.v_rowOfType ?_
    refine ev_iload_n dX11_places_31 rfl ?_
    refine ev_ildv dX11_places_32 hI.k_rowOfType hI.n_rowOfType rfl (by omega) (by omega) h0 ?_
    refine ev_iconst dX11_places_33 ?_
    refine ev_icmpne 41 dX11_places_34 (fun hb2 => ?_) (fun h_no => (by exfalso; omega))
    refine ev_iconst dX11_places_41 ?_
    refine ev_iadd dX11_places_42 (by unfold ir; omega) ?_
    refine ev_ist3 dX11_places_43 ?_
    refine ev_iin2 dX11_places_44 (by unfold ir; omega) ?_
    refine ev_gt 22 dX11_places_47 ?_
    rw [show o + -1 = o - 1 by omega]
    exact K
  | .op a b, s, k, o, hr, hk, ho, ho9, K => by
    rw [cn_op] at hr
    obtain ⟨h0, h1⟩ := hr.tl
    obtain ⟨h2, h3⟩ := h1.app
    rw [cn_len] at h3
    simp only [sz] at hk K ho9
    refine ev_iload_n dX11_places_22 rfl ?_
    refine ev_ifle 50 dX11_places_23 (fun h_no => (by exfalso; omega)) (fun hb => ?_)
    refine ev_iload_n dX11_places_26 rfl ?_
    refine ev_aload_n dX11_places_27 rfl ?_
    refine ev_getrv dX11_places_28 fX11_119 hI.o hI.n rfl hI.v_rowOfType ?_
    refine ev_iload_n dX11_places_31 rfl ?_
    refine ev_ildv dX11_places_32 hI.k_rowOfType hI.n_rowOfType rfl (by omega) (by omega) h0 ?_
    refine ev_iconst dX11_places_33 ?_
    refine ev_icmpne 41 dX11_places_34 (fun h_no => (by exfalso; omega)) (fun hb2 => ?_)
    refine ev_iconst dX11_places_37 ?_
    refine ev_gt 42 dX11_places_38 ?_
    refine ev_iadd dX11_places_42 (by unfold ir; omega) ?_
    refine ev_ist3 dX11_places_43 ?_
    refine ev_iin2 dX11_places_44 (by unfold ir; omega) ?_
    refine ev_gt 22 dX11_places_47 ?_
    refine pl_skip hI a s (k + 1) (o + 1) h2 (by omega) (by omega) (by omega) ?_
    rw [show o + 1 - 1 = o by omega]
    refine pl_skip hI b _ (k + 1 + sz a) o h3 (by omega) (by omega) (by omega) ?_
    rw [show k + 1 + sz a + sz b = k + (1 + sz a + sz b) by omega]
    exact K
set_option maxRecDepth 100000 in
theorem pl_loop {h : AH} (hI : RI h) : ∀ (T : TE) (s : List Nat) (k : Nat) (m : Int) (v3 : AV), RwA (h.vl 78) k (cnT T s).1 → k + sz T ≤ 209 → 0 ≤ m → m + (sz T : Int) ≤ 5000 → EV mX11_places 4 4 [rv 42, iv m, iv (k : Int), v3] [] h (oi fun r h1 => r = m + (plc T : Int) ∧ h1 = h)
  | .var v, s, k, m, v3, hr, hk, hm, hm9 => by
    obtain ⟨e, e1, e2⟩ := cn_leaf (v := v) (s := s)
    rw [e1] at hr
    have h0 := hr.tl.1
    refine ev_aload_n dX11_places_4 rfl ?_
    refine ev_getrv dX11_places_5 fX11_119 hI.o hI.n rfl hI.v_rowOfType ?_
    refine ev_iload_n dX11_places_8 rfl ?_
    refine ev_ildv dX11_places_9 hI.k_rowOfType hI.n_rowOfType rfl (by omega) (by omega) h0 ?_
    refine ev_iconst dX11_places_10 ?_
    refine ev_icmpne 53 dX11_places_11 (fun hb => ?_) (fun h_no => (by exfalso; omega))
    refine ev_iload_n dX11_places_53 rfl ?_
    exact ev_iret dX11_places_54 (⟨_, rfl, by rw [plc]; omega, rfl⟩)
  | .op a b, s, k, m, v3, hr, hk, hm, hm9 => by
    rw [cn_op] at hr
    obtain ⟨h0, h1⟩ := hr.tl
    obtain ⟨h2, h3⟩ := h1.app
    rw [cn_len] at h3
    simp only [sz] at hk hm9
    refine ev_aload_n dX11_places_4 rfl ?_
    refine ev_getrv dX11_places_5 fX11_119 hI.o hI.n rfl hI.v_rowOfType ?_
    refine ev_iload_n dX11_places_8 rfl ?_
    refine ev_ildv dX11_places_9 hI.k_rowOfType hI.n_rowOfType rfl (by omega) (by omega) h0 ?_
    refine ev_iconst dX11_places_10 ?_
    refine ev_icmpne 53 dX11_places_11 (fun h_no => (by exfalso; omega)) (fun hb => ?_)
    refine ev_iin1 dX11_places_14 (by unfold ir; omega) ?_
    refine ev_iin2 dX11_places_17 (by unfold ir; omega) ?_
    refine ev_iconst dX11_places_20 ?_
    refine ev_ist3 dX11_places_21 ?_
    refine pl_skip hI a s (k + 1) 1 h2 (by omega) (by omega) (by omega) ?_
    refine ev_iload_n dX11_places_22 rfl ?_
    refine ev_ifle 50 dX11_places_23 (fun hb2 => ?_) (fun h_no => (by exfalso; omega))
    refine ev_gt 4 dX11_places_50 ?_
    refine ev_mono (pl_loop hI b _ (k + 1 + sz a) (m + 1) _ h3 (by omega) (by omega) (by omega)) fun o h1 q => ?_
    obtain ⟨r, rfl, q1, q2⟩ := q
    exact ⟨r, rfl, by rw [q1, plc]; omega, q2⟩
/-- the numbers of a type -/
def nuF (T : TE) (w : Int) : Int := if w = 0 then (sz T : Int) else if w = 1 then (sz T : Int) / 2 else if w = 2 then ((cnT T []).2.length : Int) else if w = 3 then (od T : Int) else (plc T : Int)
theorem pl_sz : ∀ T : TE, plc T ≤ sz T
  | .var _ => Nat.zero_le _
  | .op a b => by
    have := pl_sz b
    simp only [plc, sz]
    omega
set_option maxRecDepth 100000 in
theorem s_places {h : AH} {T : TE} (hI : RI h) (hr : RwA (h.vl 78) 0 (cnT T []).1) (hsz : sz T ≤ 200) : CV mX11_places 4 [rv 42] h (oi fun r h1 => r = (plc T : Int) ∧ h1 = h) := by
  refine cv_of cdX11_places ?_
  show EV _ _ 0 [rv 42, uv, uv, uv] [] h _
  refine ev_iconst dX11_places_0 ?_
  refine ev_ist1 dX11_places_1 ?_
  refine ev_iconst dX11_places_2 ?_
  refine ev_ist2 dX11_places_3 ?_
  refine ev_mono (pl_loop hI T [] 0 0 _ hr (by omega) (by omega) (by omega)) fun o h1 q => ?_
  obtain ⟨r, rfl, q1, q2⟩ := q
  exact ⟨r, rfl, by omega, q2⟩
set_option maxRecDepth 100000 in
theorem s_numberN {h : AH} {N aB nv t : Nat} {gn : Nat → Bool} {T : Nat → TE} {w : Int} (hI : RI h) (g : RN h N aB nv gn T) (ht0 : t < N) (hsz : sz (T t) ≤ 200) (hw : 0 ≤ w ∧ w ≤ 4) (hst : 0 ≤ h.vl 42 50 ∧ h.vl 42 50 + 2 ≤ 2147483000) :
    CV mX11_number 6 [rv 42, iv (t : Int), iv w] h (oi fun r h1 => r = nuF (T t) w ∧ KP h h1 [71, 72, 73, 74, 78] [50, 51, 59, 60] ∧ h1.vl 42 50 = h.vl 42 50 + 2 ∧ RN h1 N aB nv gn T) := by
  obtain ⟨rr, tr, τ, g1, g7⟩ := id g
  have e := g7 t ht0
  have es : sz (tr t) = sz (T t) := by rw [← e]; exact (nm_sz _).symm
  have eo : od (tr t) = od (T t) := by rw [← e]; exact (nm_od _).symm
  have hr := (g1.1.2.1 t ht0).1
  have hN := g1.2.2.2.2.2
  have szc' : szc (tr t) = (sz (T t) : Int) := by unfold szc; rw [if_pos (by omega), es]
  refine cv_of cdX11_number ?_
  show EV _ _ 0 [rv 42, iv (t : Int), iv w, uv, uv] [] h _
  refine ev_aload_n dX11_number_0 rfl ?_
  refine ev_iload_n dX11_number_1 rfl ?_
  refine ev_cvi dX11_number_2 lX11_297 (s_size (t := (t : Int)) hI g1.gh (by omega) (by omega) (fun k hk => g1.ht hk) (by unfold ir; omega) g1.2.2.2.1) (by decide) hI.o hI.n rfl rfl rfl (Nat.le_of_ble_eq_true rfl) rfl (fun r h1 q => ?_)
  obtain ⟨rfl, k1, q3, q4, q5⟩ := q
  rw [show ((t : Nat) : Int).toNat = t from rfl] at q5
  rw [show ((t : Nat) : Int).toNat = t from rfl, szc']
  have I1 : RI h1 := k1.ri hI
  have R1 : RN h1 N aB nv gn T := g.kp k1 (by decide) (by decide) q4
  have G1 := g1.gh.on k1
  refine ev_ist3 dX11_number_5 ?_
  refine ev_aload_n dX11_number_6 rfl ?_
  refine ev_getrv dX11_number_7 fX11_104 I1.o I1.n rfl I1.v_orders ?_
  refine ev_aload_n dX11_number_10 rfl ?_
  refine ev_iload_n dX11_number_11 rfl ?_
  refine ev_cvi dX11_number_12 lX11_223 (s_is' I1 hN G1.2.1 (by omega) (by omega)) (by decide) I1.o I1.n rfl rfl rfl (Nat.le_of_ble_eq_true rfl) rfl (fun r z1 q => ?_)
  obtain ⟨rfl, ez⟩ := q
  rw [ez, show ((t : Nat) : Int).toNat = t from rfl]
  refine ev_ildv dX11_number_15 I1.k_orders I1.n_orders rfl (by omega) (by omega) (q5.trans (congrArg (fun n : Nat => (n : Int)) eo)) ?_
  refine ev_ist4 dX11_number_16 ?_
  refine ev_aload_n dX11_number_18 rfl ?_
  refine ev_iload_n dX11_number_19 rfl ?_
  refine ev_cvv dX11_number_20 lX11_370 (s_writesN I1 R1 ht0 hsz (by unfold ir; omega)) (by decide) I1.o I1.n rfl rfl rfl (Nat.le_of_ble_eq_true rfl) rfl (fun h2 q => ?_)
  obtain ⟨k2, t2, R2, r1, r2, r3⟩ := q
  have I2 : RI h2 := k2.ri I1
  have fin : ∀ r, r = nuF (T t) w → (r = nuF (T t) w ∧ KP h h2 [71, 72, 73, 74, 78] [50, 51, 59, 60] ∧ h2.vl 42 50 = h.vl 42 50 + 2 ∧ RN h2 N aB nv gn T) := fun r hr2 => ⟨hr2, (k1.wk (by decide) (by decide)).tr (k2.wk (by decide) (by decide)), by omega, R2⟩
  refine ev_iload_n dX11_number_23 rfl ?_
  by_cases c0 : w = 0
  · skip
    refine ev_ifne 31 dX11_number_24 (fun h_no => (by exfalso; omega)) (fun hb => ?_)
    refine ev_iload_n dX11_number_27 rfl ?_
    refine ev_gt 68 dX11_number_28 ?_
    exact ev_iret dX11_number_68 (⟨_, rfl, fin _ (by rw [nuF, if_pos c0])⟩)
  refine ev_ifne 31 dX11_number_24 (fun hb => ?_) (fun h_no => (by exfalso; omega))
  refine ev_iload_n dX11_number_31 rfl ?_
  refine ev_iconst dX11_number_32 ?_
  by_cases c1 : w = 1
  · skip
    refine ev_icmpne 42 dX11_number_33 (fun h_no => (by exfalso; omega)) (fun hb2 => ?_)
    refine ev_iload_n dX11_number_36 rfl ?_
    refine ev_iconst dX11_number_37 ?_
    refine ev_idiv dX11_number_38 (by omega) (by omega) ?_
    refine ev_gt 68 dX11_number_39 ?_
    exact ev_iret dX11_number_68 (⟨_, rfl, fin _ (by rw [nuF, if_neg c0, if_pos c1])⟩)
  refine ev_icmpne 42 dX11_number_33 (fun hb2 => ?_) (fun h_no => (by exfalso; omega))
  refine ev_iload_n dX11_number_42 rfl ?_
  refine ev_iconst dX11_number_43 ?_
  by_cases c2 : w = 2
  · skip
    refine ev_icmpne 54 dX11_number_44 (fun h_no => (by exfalso; omega)) (fun hb3 => ?_)
    refine ev_aload_n dX11_number_47 rfl ?_
    refine ev_getiv dX11_number_48 fX11_265 I2.o I2.n rfl r2 ?_
    refine ev_gt 68 dX11_number_51 ?_
    exact ev_iret dX11_number_68 (⟨_, rfl, fin _ (by rw [nuF, if_neg c0, if_neg c1, if_pos c2])⟩)
  refine ev_icmpne 54 dX11_number_44 (fun hb3 => ?_) (fun h_no => (by exfalso; omega))
  refine ev_iload_n dX11_number_54 rfl ?_
  refine ev_iconst dX11_number_55 ?_
  by_cases c3 : w = 3
  · skip
    refine ev_icmpne 64 dX11_number_56 (fun h_no => (by exfalso; omega)) (fun hb4 => ?_)
    refine ev_iload dX11_number_59 rfl ?_
    refine ev_gt 68 dX11_number_61 ?_
    exact ev_iret dX11_number_68 (⟨_, rfl, fin _ (by rw [nuF, if_neg c0, if_neg c1, if_neg c2, if_pos c3])⟩)
  refine ev_icmpne 64 dX11_number_56 (fun hb4 => ?_) (fun h_no => (by exfalso; omega))
  refine ev_aload_n dX11_number_64 rfl ?_
  refine ev_cvi dX11_number_65 lX11_385 (s_places (T := T t) I2 (fun i hi => by rw [Nat.zero_add]; exact r3 i hi) hsz) (by decide) I2.o I2.n rfl rfl rfl (Nat.le_of_ble_eq_true rfl) rfl (fun r z2 q => ?_)
  obtain ⟨rfl, ez2⟩ := q
  rw [ez2]
  exact ev_iret dX11_number_68 (⟨_, rfl, fin _ (by rw [nuF, if_neg c0, if_neg c1, if_neg c2, if_neg c3])⟩)
