/-! a static of the JDK, bytes read, StringBuilder.charAt -/
section EvSt
variable {M : MD} {d pc : Nat} {L S : List AV} {h : AH} {Q : AV → AH → Prop}
theorem ev_gss {idx : Nat} {o : AV} {h' : AH} (hd : decode M.cc pc = .ok (.getstatic idx, 3)) (hl : Cond.fieldLink M.y.cls idx "jdk/internal/util/Preconditions" "SIOOBE_FORMATTER" "Ljava/util/function/BiFunction;" ∈ gw) (hQ : Q o h')
    (k : ∀ v : AV, (v = rv (-1) ∨ ∃ t : Nat, v = (5, (t : Int))) → EV M d (pc + 3) L (v :: S) h (fun o1 h1 => o1 = o ∧ h1 = h')) : EV M d pc L S h Q := by
  intro hL hS hR
  have kx : ∀ v : AV, (v = rv (-1) ∨ ∃ t : Nat, v = (5, (t : Int))) → EX M d (pc + 3) L (v :: S) h o h' := fun v q => by
    have hv : SR h.n (v :: S) := by
      rcases q with rfl | ⟨t, rfl⟩
      · exact SR_c (VR_r (by omega)) hS
      · exact SR_c (VR_o (show (5 : Nat) ≠ 0 by decide) (show (5 : Nat) ≠ 1 by decide)) hS
    obtain ⟨o1, h1, ⟨rfl, rfl⟩, x⟩ := k v q hL hv hR
    exact x
  refine ⟨o, h', hQ, (kx (rv (-1)) (Or.inl rfl)).1, ?_⟩
  intro p l e R s m args below meth c D base scr φ cA H locs ls x0 y0 Qc XC C h1 h2 h3 h4 hP hl' hQ'
  obtain ⟨hx, hb, hr, hml, hown, hts, hlk, htr, htb, hnm, hK, hbs, hG, hf, hlo⟩ := id C
  rcases hG.1.2.2.2.2.2.2.1.1 with g | ⟨t, g⟩
  · exact va_gets hx hb g hP.S hown (hts _ hl) (fun _ z => z) hd ((kx (rv (-1)) (Or.inl rfl)).2 p l e R s m args below meth c D base scr φ cA H locs ls x0 y0 Qc XC C h1 h2 h3 h4 hP hl' hQ')
  · exact va_gets hx hb g hP.S hown (hts _ hl) (fun _ z => z) hd ((kx (5, (t : Int)) (Or.inr ⟨t, rfl⟩)).2 p l e R s m args below meth c D base scr φ cA H locs ls x0 y0 Qc XC C h1 h2 h3 h4 hP hl' hQ')
theorem ev_bld {a i : Int} {n r : Nat} (hd : decode M.cc pc = .ok (.baload, 1)) (hk : h.kd r = (101, n)) (hn : r < h.n) (ha : a = (r : Int)) (hi : 0 ≤ i) (hj : i < (n : Int))
    (kk : EV M d (pc + 1) L (iv (h.vl r i.toNat) :: S) h Q) : EV M d pc L (iv i :: rv a :: S) h Q := by
  subst ha
  refine ev_pure kk (fun _ hS hR => SR_c ?_ (SR_t (SR_t hS))) ?_
  · have := hR r hn i.toNat
    rw [hk] at this
    exact this
  · intro p l e R s m args below meth c D base scr φ cA H locs ls cells slots Q _ hS _ X P hl W0
    have e1 : (iv i :: rv (r : Int) :: S).map (av_c φ) = .int (Int32.ofInt i) :: .ref (φ r) :: S.map (av_c φ) := by
      rw [List.map_cons, List.map_cons, av_n]; rfl
    have hK := P.1.2.2.2 r hn (by rw [hk]; show 100 ≤ 101; omega)
    rw [hk] at hK
    rw [e1]
    refine va_bald X.1 X.2.1 hK P.1.1 r 0 (wl_b hn hk) rfl (ofI_in hi hj (SR_hi hS)) hd ?_
    rw [ofI_c (SR_hi hS)]
    exact W0
theorem ev_mmin {idx : Nat} {x y : Int} (hd : decode M.cc pc = .ok (.invokestatic idx, 3)) (hl : Cond.methodLink M.y.cls idx yJ9_min_7cf53 ∈ gw) (hst : Cond.static yJ9_min_7cf53 ∈ gw) (hin : Cond.initialized RJ9 ∈ gw) (hco : Cond.code yJ9_min_7cf53 cJ9_min_7cf53 2 (some .int) ∈ gw) (hS4 : S.length.ble 4 = true)
    (k : EV M d (pc + 3) L (iv (if y < x then y else x) :: S) h Q) : EV M d pc L (iv y :: iv x :: S) h Q := by
  intro hL hS hR
  have hy := SR_hi hS
  have hx := SR_hi (SR_t hS)
  have hv : SR h.n (iv (if y < x then y else x) :: S) := by
    by_cases q : y < x
    · rw [if_pos q]; exact SR_c (SR_h hS) (SR_t (SR_t hS))
    · rw [if_neg q]; exact SR_t hS
  obtain ⟨o, h', q, e1, e2⟩ := k hL hv hR
  refine ⟨o, h', q, e1, ?_⟩
  intro p l e R s m args below meth c D base scr φ cA H locs ls x0 y0 Qc XC C h1 h2 h3 h4 hP hl' hQ'
  obtain ⟨hx', hb, hr, hml, hown, hts, hlk, htr, htb, hnm, hK, hbs, hG, hf, hlo⟩ := id C
  have W0 := e2 p l e R s m args below meth c D base scr φ cA H locs ls x0 y0 Qc XC C h1 h2 h3 h4 hP hl' hQ'
  have hsum := av_sum (φ := φ) S
  have hS5 : S.length ≤ 4 := Nat.le_of_ble_eq_true hS4
  obtain ⟨g1, g2, g3, -⟩ := e1
  refine va_mmin hx' hb (hml.trans hl'.1.symm) hown (hts _ hl) (hts _ hst) (hts _ hin) (hts _ hco) (by omega) (by omega) (by omega) (by omega) hd ?_
  have ee : (if Int32.ofInt y < Int32.ofInt x then Int32.ofInt y else Int32.ofInt x) = Int32.ofInt (if y < x then y else x) := by
    by_cases q : y < x
    · rw [if_pos q, if_pos ((ofI_lt hy hx).mpr q)]
    · rw [if_neg q, if_neg (fun z => q ((ofI_lt hy hx).mp z))]
  rw [ee]
  exact W0
theorem ev_mmax {idx : Nat} {x y : Int} (hd : decode M.cc pc = .ok (.invokestatic idx, 3)) (hl : Cond.methodLink M.y.cls idx yJ9_max_7cf53 ∈ gw) (hst : Cond.static yJ9_max_7cf53 ∈ gw) (hin : Cond.initialized RJ9 ∈ gw) (hco : Cond.code yJ9_max_7cf53 cJ9_max_7cf53 2 (some .int) ∈ gw) (hS4 : S.length.ble 4 = true)
    (k : EV M d (pc + 3) L (iv (if x < y then y else x) :: S) h Q) : EV M d pc L (iv y :: iv x :: S) h Q := by
  intro hL hS hR
  have hy := SR_hi hS
  have hx := SR_hi (SR_t hS)
  have hv : SR h.n (iv (if x < y then y else x) :: S) := by
    by_cases q : x < y
    · rw [if_pos q]; exact SR_c (SR_h hS) (SR_t (SR_t hS))
    · rw [if_neg q]; exact SR_t hS
  obtain ⟨o, h', q, e1, e2⟩ := k hL hv hR
  refine ⟨o, h', q, e1, ?_⟩
  intro p l e R s m args below meth c D base scr φ cA H locs ls x0 y0 Qc XC C h1 h2 h3 h4 hP hl' hQ'
  obtain ⟨hx', hb, hr, hml, hown, hts, hlk, htr, htb, hnm, hK, hbs, hG, hf, hlo⟩ := id C
  have W0 := e2 p l e R s m args below meth c D base scr φ cA H locs ls x0 y0 Qc XC C h1 h2 h3 h4 hP hl' hQ'
  have hsum := av_sum (φ := φ) S
  have hS5 : S.length ≤ 4 := Nat.le_of_ble_eq_true hS4
  obtain ⟨g1, g2, g3, -⟩ := e1
  refine va_mmax hx' hb (hml.trans hl'.1.symm) hown (hts _ hl) (hts _ hst) (hts _ hin) (hts _ hco) (by omega) (by omega) (by omega) (by omega) hd ?_
  have ee : (if Int32.ofInt x < Int32.ofInt y then Int32.ofInt y else Int32.ofInt x) = Int32.ofInt (if x < y then y else x) := by
    by_cases q : x < y
    · rw [if_pos q, if_pos ((ofI_lt hx hy).mpr q)]
    · rw [if_neg q, if_neg (fun z => q ((ofI_lt hx hy).mp z))]
  rw [ee]
  exact W0
end EvSt
theorem ian_255 {x : Int} (h0 : 0 ≤ x) (h9 : x ≤ 255) : ian x 255 = x := by
  have h : ∀ k : Nat, k < 256 → ian (k : Int) 255 = (k : Int) := by decide +kernel
  have := h x.toNat (by omega)
  rw [Int.toNat_of_nonneg h0] at this
  exact this
set_option maxRecDepth 100000 in
theorem s_J3check {i n : Int} {v : AV} {h : AH} (hv : v = rv (-1) ∨ ∃ t : Nat, v = (5, (t : Int))) (h0 : 0 ≤ i) (hn : i < n) : CV mJ3_checkIndex_8e157 1 [iv i, iv n, v] h (oi fun r h1 => r = i ∧ h1 = h) := by
  refine cv_of (hc := by rcases hv with rfl | ⟨t, rfl⟩ <;> rfl) cdJ3_checkIndex_8e157 ?_
  show EV _ _ 0 [iv i, iv n, v] [] h _
  refine ev_iload_n dJ3_checkIndex_8e157_0 rfl ?_
  refine ev_iflt 9 dJ3_checkIndex_8e157_1 (fun h_no => (by exfalso; omega)) (fun hc => ?_)
  refine ev_iload_n dJ3_checkIndex_8e157_4 rfl ?_
  refine ev_iload_n dJ3_checkIndex_8e157_5 rfl ?_
  refine ev_icmplt 16 dJ3_checkIndex_8e157_6 (fun hc2 => ?_) (fun h_no => (by exfalso; omega))
  refine ev_iload_n dJ3_checkIndex_8e157_16 rfl ?_
  exact ev_iret dJ3_checkIndex_8e157_17 (⟨_, rfl, rfl, rfl⟩)
set_option maxRecDepth 100000 in
theorem s_J0check {i n : Int} {h : AH} (h0 : 0 ≤ i) (hn : i < n) : CV mJ0_checkIndex_df160 2 [iv i, iv n] h (on fun h1 => h1 = h) := by
  refine cv_of cdJ0_checkIndex_df160 ?_
  show EV _ _ 0 [iv i, iv n] [] h _
  refine ev_iload_n dJ0_checkIndex_df160_0 rfl ?_
  refine ev_iload_n dJ0_checkIndex_df160_1 rfl ?_
  refine ev_gss (o := ov) (h' := h) dJ0_checkIndex_df160_2 q_759 ⟨rfl, rfl⟩ (fun v hv => ?_)
  refine ev_csi (as := [iv i, iv n, v]) dJ0_checkIndex_df160_5 lJ0_1059 (s_J3check hv h0 hn) (by decide) rfl rfl (Nat.le_of_ble_eq_true rfl) rfl (fun r h1 q => ?_)
  obtain ⟨rfl, rfl⟩ := q
  refine ev_pop dJ0_checkIndex_df160_8 ?_
  exact ev_vret dJ0_checkIndex_df160_9 ⟨rfl, rfl⟩
set_option maxRecDepth 100000 in
theorem s_J5charAt {a b N : Nat} {k i : Int} {h : AH} (hs : SBI h a b N k) (h0 : 0 ≤ i) (hi : i < k) (hc0 : 0 ≤ h.vl b i.toNat) (hc9 : h.vl b i.toNat ≤ 127) : CV mJ5_charAt_5068e 3 [rv a, iv i] h (oi fun r h1 => r = h.vl b i.toNat ∧ h1 = h) := by
  obtain ⟨⟨ka, an⟩, ⟨va, kb, bn⟩, hco, hk, hk0, hN, hN9⟩ := id hs
  refine cv_of cdJ5_charAt_5068e ?_
  show EV _ _ 0 [rv a, iv i, uv, uv, uv] [] h _
  refine ev_aload_n dJ5_charAt_5068e_0 rfl ?_
  refine ev_getiv dJ5_charAt_5068e_1 fJ5_22 ka an rfl hco ?_
  refine ev_ist2 dJ5_charAt_5068e_4 ?_
  refine ev_aload_n dJ5_charAt_5068e_5 rfl ?_
  refine ev_getrv dJ5_charAt_5068e_6 fJ5_15 ka an rfl va ?_
  refine ev_ast3 dJ5_charAt_5068e_9 ?_
  refine ev_aload_n dJ5_charAt_5068e_10 rfl ?_
  refine ev_getiv dJ5_charAt_5068e_11 fJ5_79 ka an rfl hk ?_
  refine ev_aload_n dJ5_charAt_5068e_14 rfl ?_
  refine ev_al dJ5_charAt_5068e_15 kb bn rfl (by decide) (by omega) ?_
  refine ev_iload_n dJ5_charAt_5068e_16 rfl ?_
  refine ev_ishr0 dJ5_charAt_5068e_17 ?_
  refine ev_mmin dJ5_charAt_5068e_18 q_755 q_523 q_169 q_524 rfl ?_
  rw [show (if (N : Int) < k then (N : Int) else k) = k from if_neg (by omega)]
  refine ev_ist4 dJ5_charAt_5068e_21 ?_
  refine ev_iload_n dJ5_charAt_5068e_23 rfl ?_
  refine ev_iload dJ5_charAt_5068e_24 rfl ?_
  refine ev_csv dJ5_charAt_5068e_26 lJ5_144 (s_J0check h0 hi) (by decide) rfl rfl (Nat.le_of_ble_eq_true rfl) rfl (fun h2 q => ?_)
  rw [q]
  refine ev_iload_n dJ5_charAt_5068e_29 rfl ?_
  refine ev_ifne 42 dJ5_charAt_5068e_30 (fun h_no => (by exfalso; omega)) (fun hc => ?_)
  refine ev_aload_n dJ5_charAt_5068e_33 rfl ?_
  refine ev_iload_n dJ5_charAt_5068e_34 rfl ?_
  refine ev_bld dJ5_charAt_5068e_35 kb bn rfl (by omega) (by omega) ?_
  refine ev_sipush dJ5_charAt_5068e_36 ?_
  refine ev_iand dJ5_charAt_5068e_39 ?_
  rw [ian_255 hc0 (by omega)]
  refine ev_i2c dJ5_charAt_5068e_40 ?_
  rw [show h.vl b i.toNat % 65536 = h.vl b i.toNat from by omega]
  exact ev_cret dJ5_charAt_5068e_41 (⟨_, rfl, rfl, rfl⟩) (by omega) (by omega)
set_option maxRecDepth 100000 in
theorem s_charAt {a b N : Nat} {k i : Int} {h : AH} (hs : SBI h a b N k) (h0 : 0 ≤ i) (hi : i < k) (hc0 : 0 ≤ h.vl b i.toNat) (hc9 : h.vl b i.toNat ≤ 127) : CV mJ4_charAt_5068e 4 [rv a, iv i] h (oi fun r h1 => r = h.vl b i.toNat ∧ h1 = h) := by
  refine cv_of cdJ4_charAt_5068e ?_
  show EV _ _ 0 [rv a, iv i] [] h _
  refine ev_aload_n dJ4_charAt_5068e_0 rfl ?_
  refine ev_iload_n dJ4_charAt_5068e_1 rfl ?_
  refine ev_cpi dJ4_charAt_5068e_2 lJ4_329 (s_J5charAt hs h0 hi hc0 hc9) (by decide) hs.1.1 hs.1.2 rfl rfl rfl (Nat.le_of_ble_eq_true rfl) (fun r h1 q => ?_)
  obtain ⟨rfl, e⟩ := q
  rw [e]
  exact ev_cret dJ4_charAt_5068e_5 (⟨_, rfl, rfl, rfl⟩) (by omega) (by omega)
