/-! StringBuilder grows; it appends a digit -/
theorem q_933 : Cond.fieldLink RJ6 83 "java/lang/Integer" "DigitOnes" "[B" ∈ gw := gw_in (t_in_4 (List.mem_of_getElem? (i := 58) rfl)) rfl
section EvDg
variable {M : MD} {d pc : Nat} {L S : List AV} {h : AH} {Q : AV → AH → Prop}
theorem dig_all : ∀ n : Nat, n < 10 → Int32.ofNat (48 + n % 10) = Int32.ofInt (48 + (n : Int)) := by decide
theorem ev_dig {idx : Nat} {x : Int} (hd0 : decode M.cc pc = .ok (.getstatic idx, 3)) (hd3 : decode M.cc (pc + 3) = .ok (.iload_n 0, 1)) (hd4 : decode M.cc (pc + 4) = .ok (.ineg, 1)) (hd5 : decode M.cc (pc + 5) = .ok (.baload, 1)) (hl : Cond.fieldLink M.y.cls idx "java/lang/Integer" "DigitOnes" "[B" ∈ gw) (hi : L[0]? = some (iv (-x))) (hx : 0 ≤ x ∧ x ≤ 9) (k : EV M d (pc + 6) L (iv (48 + x) :: S) h Q) : EV M d pc L S h Q :=
  ev_pure k (fun _ hS _ => SR_c (VR_i (by unfold ir; omega)) hS) (fun _ _ _ C P hl' kk => by
    obtain ⟨hx', hb, hr, hml, hown, hts, hlk, htr, htb, hnm, hK, hbs, hG, hf, hlo⟩ := id C
    obtain ⟨t, g, gT⟩ := hG.1.2.2.2.2.2.2.2
    have ix : ir x := by unfold ir; omega
    refine va_gets hx' hb g P.S hown (hts _ hl) (fun _ z => z) hd0 ?_
    refine lv_iload_n hx' hb hd3 rfl (hl'.at hi t09) ?_
    refine lv_ineg hx' hb hd4 ?_
    rw [show -(Int32.ofInt (-x)) = Int32.ofInt x from by rw [← Int32.ofInt_neg, Int.neg_neg]]
    refine va_tb hx' hb gT P.S (ofI_in (n := 100) hx.1 (by omega) ix) (v := .int (Int32.ofInt (48 + x))) ?_ hd5 kk
    rw [ofI_c ix]
    have := dig_all x.toNat (by omega)
    rw [show ((x.toNat : Nat) : Int) = x by omega] at this
    show Value.int (Int32.ofNat (48 + x.toNat % 10)) = _
    rw [this])
end EvDg
/-- a text that is being written, at a, its bytes at b -/
def TbI (h : AH) (a b N : Nat) (X : List Int) : Prop := SBI h a b N (X.length : Int) ∧ (16 ≤ N ∧ N ≤ 3000) ∧ (∀ i (hi : i < X.length), h.vl b i = X[i]) ∧ (∀ j, j < N → -128 ≤ h.vl b j ∧ h.vl b j ≤ 127) ∧ (∀ x ∈ X, 0 ≤ x ∧ x ≤ 127) ∧ a ≠ b
/-- what appending leaves -/
def SbQ (h : AH) (a b N : Nat) (h1 : AH) (b1 N1 : Nat) : Prop := h.n ≤ h1.n ∧ (∀ c, c < h.n → h1.kd c = h.kd c) ∧ (∀ c, c < h.n → c ≠ a → c ≠ b → h1.vl c = h.vl c) ∧ (∀ j, j ≠ 0 → j ≠ 2 → j ≠ 3 → h1.vl a j = h.vl a j) ∧ (16 * h1.cs + N ≤ 16 * h.cs + N1 ∧ h1.ss + 2 * N ≤ h.ss + 2 * N1 ∧ N ≤ N1) ∧ (b1 = b ∨ h.n ≤ b1)
theorem SbQ.rf {h : AH} {a b N : Nat} : SbQ h a b N h b N := ⟨Nat.le_refl _, fun _ _ => rfl, fun _ _ _ _ => rfl, fun _ _ _ _ => rfl, ⟨Nat.le_refl _, Nat.le_refl _, Nat.le_refl _⟩, Or.inl rfl⟩
theorem SbQ.tr {h h1 h2 : AH} {a b N b1 N1 b2 N2 : Nat} (p : SbQ h a b N h1 b1 N1) (q : SbQ h1 a b1 N1 h2 b2 N2) : SbQ h a b N h2 b2 N2 := by
  obtain ⟨p1, p2, p3, p4, ⟨p5, p6, p7⟩, p8⟩ := p
  obtain ⟨q1, q2, q3, q4, ⟨q5, q6, q7⟩, q8⟩ := q
  refine ⟨by omega, fun c hc => (q2 c (by omega)).trans (p2 c hc), fun c hc ha hb => (q3 c (by omega) ha (by omega)).trans (p3 c hc ha hb), fun j h0 h2 h3 => (q4 j h0 h2 h3).trans (p4 j h0 h2 h3), ⟨by omega, by omega, by omega⟩, by omega⟩
section Grow
variable {h : AH} {a b N : Nat} {X : List Int} {k : Int}
set_option maxRecDepth 100000 in
theorem s_newLength {n : Nat} (hn : n ≤ 3000) : CV mJ8_newLength_cabcc 1 [iv (n : Int), iv 1, iv ((n : Int) + 2)] h (oi fun r h1 => r = ((2 * n + 2 : Nat) : Int) ∧ h1 = h) := by
  refine cv_of cdJ8_newLength_cabcc ?_
  show EV _ _ 0 [iv (n : Int), iv 1, iv ((n : Int) + 2), uv] [] h _
  refine ev_iload_n dJ8_newLength_cabcc_0 rfl ?_
  refine ev_iload_n dJ8_newLength_cabcc_1 rfl ?_
  refine ev_iload_n dJ8_newLength_cabcc_2 rfl ?_
  refine ev_mmax dJ8_newLength_cabcc_3 q_843 q_689 q_169 q_690 rfl ?_
  rw [if_pos (show (1 : Int) < (n : Int) + 2 by omega)]
  refine ev_iadd dJ8_newLength_cabcc_6 (by unfold ir; omega) ?_
  refine ev_ist3 dJ8_newLength_cabcc_7 ?_
  refine ev_iconst dJ8_newLength_cabcc_8 ?_
  refine ev_iload_n dJ8_newLength_cabcc_9 rfl ?_
  refine ev_icmpge 21 dJ8_newLength_cabcc_10 (fun h_no => (by exfalso; omega)) (fun hb => ?_)
  refine ev_iload_n dJ8_newLength_cabcc_13 rfl ?_
  refine ev_ldci (x := 2147483639) dJ8_newLength_cabcc_14 q_kst2 (by decide) (by unfold ir; omega) ?_
  refine ev_icmpgt 21 dJ8_newLength_cabcc_16 (fun h_no => (by exfalso; omega)) (fun hb2 => ?_)
  refine ev_iload_n dJ8_newLength_cabcc_19 rfl ?_
  exact ev_iret dJ8_newLength_cabcc_20 (⟨_, rfl, by omega, rfl⟩)
set_option maxRecDepth 100000 in
theorem s_newCap (hs : SBI h a b N (N : Int)) (hN : N ≤ 3000) : CV mJ5_newCapacity_0f7a4 2 [rv a, iv ((N : Int) + 1)] h (oi fun r h1 => r = ((2 * N + 2 : Nat) : Int) ∧ h1 = h) := by
  obtain ⟨⟨ka, an⟩, ⟨va, kb, bn⟩, hco, hk, h0, hN', h9⟩ := id hs
  refine cv_of cdJ5_newCapacity_0f7a4 ?_
  show EV _ _ 0 [rv a, iv ((N : Int) + 1), uv, uv, uv, uv] [] h _
  refine ev_aload_n dJ5_newCapacity_0f7a4_0 rfl ?_
  refine ev_getrv dJ5_newCapacity_0f7a4_1 fJ5_15 ka an rfl va ?_
  refine ev_al dJ5_newCapacity_0f7a4_4 kb bn rfl (by decide) (by omega) ?_
  refine ev_ist2 dJ5_newCapacity_0f7a4_5 ?_
  refine ev_iload_n dJ5_newCapacity_0f7a4_6 rfl ?_
  refine ev_aload_n dJ5_newCapacity_0f7a4_7 rfl ?_
  refine ev_getiv dJ5_newCapacity_0f7a4_8 fJ5_22 ka an rfl hco ?_
  refine ev_ishl0 dJ5_newCapacity_0f7a4_11 ?_
  refine ev_ist3 dJ5_newCapacity_0f7a4_12 ?_
  refine ev_iload_n dJ5_newCapacity_0f7a4_13 rfl ?_
  refine ev_iload_n dJ5_newCapacity_0f7a4_14 rfl ?_
  refine ev_isub dJ5_newCapacity_0f7a4_15 (by unfold ir; omega) ?_
  refine ev_ist4 dJ5_newCapacity_0f7a4_16 ?_
  refine ev_iload_n dJ5_newCapacity_0f7a4_18 rfl ?_
  refine ev_iload dJ5_newCapacity_0f7a4_19 rfl ?_
  refine ev_iload_n dJ5_newCapacity_0f7a4_21 rfl ?_
  refine ev_iconst dJ5_newCapacity_0f7a4_22 ?_
  refine ev_aload_n dJ5_newCapacity_0f7a4_23 rfl ?_
  refine ev_getiv dJ5_newCapacity_0f7a4_24 fJ5_22 ka an rfl hco ?_
  refine ev_ishl0 dJ5_newCapacity_0f7a4_27 ?_
  refine ev_iadd dJ5_newCapacity_0f7a4_28 (by unfold ir; omega) ?_
  rw [show (N : Int) + 1 - (N : Int) = 1 by omega]
  refine ev_csi dJ5_newCapacity_0f7a4_29 lJ5_114 (s_newLength hN) (by decide) rfl rfl (Nat.le_of_ble_eq_true rfl) rfl (fun r h1 q => ?_)
  obtain ⟨rfl, e⟩ := q
  rw [e]
  refine ev_ist5 dJ5_newCapacity_0f7a4_32 ?_
  refine ev_iload dJ5_newCapacity_0f7a4_34 rfl ?_
  refine ev_ldci (x := 2147483647) dJ5_newCapacity_0f7a4_36 q_kst3 (by decide) (by unfold ir; omega) ?_
  refine ev_icmpne 51 dJ5_newCapacity_0f7a4_38 (fun hb => ?_) (fun h_no => (by exfalso; omega))
  refine ev_iload dJ5_newCapacity_0f7a4_51 rfl ?_
  refine ev_aload_n dJ5_newCapacity_0f7a4_53 rfl ?_
  refine ev_getiv dJ5_newCapacity_0f7a4_54 fJ5_22 ka an rfl hco ?_
  refine ev_ishr0 dJ5_newCapacity_0f7a4_57 ?_
  exact ev_iret dJ5_newCapacity_0f7a4_58 (⟨_, rfl, rfl, rfl⟩)
/-- the heap behind growing -/
def eGrow (h : AH) (a b N : Nat) : AH := (eCpy h b 101 N (2 * N + 2)).put a 0 (h.n : Int)
set_option maxRecDepth 100000 in
theorem s_ensureG (hs : SBI h a b N (N : Int)) (hN : N ≤ 3000) (hby : ∀ j, j < N → -128 ≤ h.vl b j ∧ h.vl b j ≤ 127) : CV mJ5_ensureCapacityInternal_d00df 3 [rv a, iv ((N : Int) + 1)] h (on fun h1 => h1 = eGrow h a b N) := by
  obtain ⟨⟨ka, an⟩, ⟨va, kb, bn⟩, hco, hk, h0, hN', h9⟩ := id hs
  refine cv_of cdJ5_ensureCapacityInternal_d00df ?_
  show EV _ _ 0 [rv a, iv ((N : Int) + 1), uv] [] h _
  refine ev_aload_n dJ5_ensureCapacityInternal_d00df_0 rfl ?_
  refine ev_getrv dJ5_ensureCapacityInternal_d00df_1 fJ5_15 ka an rfl va ?_
  refine ev_al dJ5_ensureCapacityInternal_d00df_4 kb bn rfl (by decide) (by omega) ?_
  refine ev_aload_n dJ5_ensureCapacityInternal_d00df_5 rfl ?_
  refine ev_getiv dJ5_ensureCapacityInternal_d00df_6 fJ5_22 ka an rfl hco ?_
  refine ev_ishr0 dJ5_ensureCapacityInternal_d00df_9 ?_
  refine ev_ist2 dJ5_ensureCapacityInternal_d00df_10 ?_
  refine ev_iload_n dJ5_ensureCapacityInternal_d00df_11 rfl ?_
  refine ev_iload_n dJ5_ensureCapacityInternal_d00df_12 rfl ?_
  refine ev_isub dJ5_ensureCapacityInternal_d00df_13 (by unfold ir; omega) ?_
  refine ev_ifle 38 dJ5_ensureCapacityInternal_d00df_14 (fun h_no => (by exfalso; omega)) (fun hb => ?_)
  refine ev_aload_n dJ5_ensureCapacityInternal_d00df_17 rfl ?_
  refine ev_aload_n dJ5_ensureCapacityInternal_d00df_18 rfl ?_
  refine ev_getrv dJ5_ensureCapacityInternal_d00df_19 fJ5_15 ka an rfl va ?_
  refine ev_aload_n dJ5_ensureCapacityInternal_d00df_22 rfl ?_
  refine ev_iload_n dJ5_ensureCapacityInternal_d00df_23 rfl ?_
  refine ev_cui dJ5_ensureCapacityInternal_d00df_24 lJ5_104 (s_newCap hs hN) (by decide) ka an rfl rfl rfl (Nat.le_of_ble_eq_true rfl) (fun r h1 q => ?_)
  obtain ⟨rfl, e⟩ := q
  rw [e]
  refine ev_aload_n dJ5_ensureCapacityInternal_d00df_27 rfl ?_
  refine ev_getiv dJ5_ensureCapacityInternal_d00df_28 fJ5_22 ka an rfl hco ?_
  refine ev_ishl0 dJ5_ensureCapacityInternal_d00df_31 ?_
  refine ev_csr dJ5_ensureCapacityInternal_d00df_32 lJ5_108 (s_copyB kb bn (by omega) (by omega) (by omega) hby) (by decide) rfl rfl (Nat.le_of_ble_eq_true rfl) rfl (fun r h1 q => ?_)
  obtain ⟨rfl, q⟩ := q
  have k9 : h1.kd a = (0, 4) := by
    rw [q]
    show (if a = h.n then _ else h.kd a) = _
    rw [if_neg (by omega)]
    exact ka
  have n9 : a < h1.n := by rw [q]; show a < h.n + 1; omega
  refine ev_pt dJ5_ensureCapacityInternal_d00df_35 fJ5_15 k9 n9 rfl ?_
  exact ev_vret dJ5_ensureCapacityInternal_d00df_38 (⟨rfl, by rw [q]; rfl⟩)
theorem eGrow_q (hs : SBI h a b N (N : Int)) (hN : 16 ≤ N ∧ N ≤ 3000) (hab : a ≠ b) : SbQ h a b N (eGrow h a b N) h.n (2 * N + 2) ∧ SBI (eGrow h a b N) a h.n (2 * N + 2) (N : Int) ∧ (∀ j, j < N → (eGrow h a b N).vl h.n j = h.vl b j) ∧ ∀ j, N ≤ j → (eGrow h a b N).vl h.n j = 0 := by
  obtain ⟨⟨ka, an⟩, ⟨va, kb, bn⟩, hco, hk, h0, hN', h9⟩ := id hs
  have e : ∀ c j, (eGrow h a b N).vl c j = if c = a ∧ j = 0 then (h.n : Int) else if c = h.n then cpN (h.vl b) N j else h.vl c j := fun c j => by
    unfold eGrow eCpy
    rw [AH.put_vl]
    by_cases z : c = a ∧ j = 0
    · rw [if_pos z, if_pos z]
    · rw [if_neg z, if_neg z, AH.row_vl, if_neg (show ¬ 2 * N + 2 < N by omega)]
      by_cases y : c = h.n
      · rw [if_pos y, if_pos y]
      · rw [if_neg y, if_neg y, AH.new_vl, if_neg y]
  have kd : ∀ c, (eGrow h a b N).kd c = if c = h.n then (101, 2 * N + 2) else h.kd c := fun c => rfl
  have vn : ∀ j, (eGrow h a b N).vl h.n j = cpN (h.vl b) N j := fun j => by rw [e, if_neg (by omega), if_pos rfl]
  refine ⟨⟨Nat.le_succ _, fun c hc => by rw [kd, if_neg (by omega)], fun c hc ca cb => funext fun j => by rw [e, if_neg (fun z => ca z.1), if_neg (by omega)], fun j j0 _ _ => by rw [e, if_neg (fun z => j0 z.2), if_neg (by omega)], ⟨?_, ?_, by omega⟩, Or.inr (Nat.le_refl _)⟩, ⟨⟨by rw [kd, if_neg (by omega)]; exact ka, Nat.lt_succ_of_lt an⟩, ⟨by rw [e, if_pos ⟨rfl, rfl⟩], by rw [kd, if_pos rfl], Nat.lt_succ_self _⟩, by rw [e, if_neg (fun z => absurd z.2 (by decide)), if_neg (by omega)]; exact hco, by rw [e, if_neg (fun z => absurd z.2 (by decide)), if_neg (by omega)]; exact hk, h0, by omega, by omega⟩, fun j hj => ?_, fun j hj => ?_⟩
  · show 16 * (h.cs + 1) + N ≤ 16 * h.cs + (2 * N + 2); omega
  · show h.ss + (2 * N + 2) + 2 * N ≤ h.ss + 2 * (2 * N + 2); omega
  · rw [vn]; unfold cpN; rw [if_pos hj]
  · rw [vn]; unfold cpN; rw [if_neg (by omega)]
set_option maxRecDepth 100000 in
theorem s_ensure3 {n : Int} (hs : SBI h a b N k) (hn : n ≤ (N : Int)) (hn0 : 0 ≤ n) : CV mJ5_ensureCapacityInternal_d00df 3 [rv a, iv n] h (on fun h1 => h1 = h) := by
  obtain ⟨⟨ka, an⟩, ⟨va, kb, bn⟩, hco, hk, h0, hN, h9⟩ := hs
  refine cv_of cdJ5_ensureCapacityInternal_d00df ?_
  show EV _ _ 0 [rv a, iv n, uv] [] h _
  refine ev_aload_n dJ5_ensureCapacityInternal_d00df_0 rfl ?_
  refine ev_getrv dJ5_ensureCapacityInternal_d00df_1 fJ5_15 ka an rfl va ?_
  refine ev_al dJ5_ensureCapacityInternal_d00df_4 kb bn rfl (by decide) (by omega) ?_
  refine ev_aload_n dJ5_ensureCapacityInternal_d00df_5 rfl ?_
  refine ev_getiv dJ5_ensureCapacityInternal_d00df_6 fJ5_22 ka an rfl hco ?_
  refine ev_ishr0 dJ5_ensureCapacityInternal_d00df_9 ?_
  refine ev_ist2 dJ5_ensureCapacityInternal_d00df_10 ?_
  refine ev_iload_n dJ5_ensureCapacityInternal_d00df_11 rfl ?_
  refine ev_iload_n dJ5_ensureCapacityInternal_d00df_12 rfl ?_
  refine ev_isub dJ5_ensureCapacityInternal_d00df_13 (by unfold ir; omega) ?_
  refine ev_ifle 38 dJ5_ensureCapacityInternal_d00df_14 (fun hc => ?_) (fun h_no => (by exfalso; omega))
  exact ev_vret dJ5_ensureCapacityInternal_d00df_38 (⟨rfl, rfl⟩)
/-- room for one byte more -/
theorem s_room (t : TbI h a b N X) (hl : X.length ≤ 1400) : CV mJ5_ensureCapacityInternal_d00df 3 [rv a, iv ((X.length : Int) + 1)] h (on fun h1 => ∃ b1 N1, TbI h1 a b1 N1 X ∧ SbQ h a b N h1 b1 N1 ∧ X.length < N1) := by
  obtain ⟨t1, ⟨t2, t2'⟩, t3, t4, t5, t6⟩ := id t
  have r := t1.2.2.2.2
  by_cases c : X.length < N
  · refine cv_mono (s_ensure3 (n := (X.length : Int) + 1) t1 (by omega) (by omega)) fun o h1 q => ?_
    obtain ⟨rfl, rfl⟩ := q
    exact ⟨rfl, b, N, t, SbQ.rf, c⟩
  · obtain e : X.length = N := by omega
    rw [e] at t1 ⊢
    obtain ⟨g1, g2, g3, g4⟩ := eGrow_q t1 ⟨t2, t2'⟩ t6
    refine cv_mono (s_ensureG t1 t2' t4) fun o h1 q => ?_
    obtain ⟨rfl, rfl⟩ := q
    have an := t1.1.2
    refine ⟨rfl, h.n, 2 * N + 2, ⟨by rw [e]; exact g2, by omega, fun i hi => (g3 i (by omega)).trans (t3 i hi), fun j hj => ?_, t5, by omega⟩, g1, by omega⟩
    by_cases z : j < N
    · rw [g3 j z]; exact t4 j z
    · rw [g4 j (by omega)]; decide
theorem TbI.ap {c : Int} (t : TbI h a b N X) (hl : X.length < N) (hc : 0 ≤ c ∧ c ≤ 127) : TbI ((h.put a 3 ((X.length : Int) + 1)).put b X.length c) a b N (X ++ [c]) ∧ SbQ h a b N ((h.put a 3 ((X.length : Int) + 1)).put b X.length c) b N := by
  obtain ⟨⟨⟨ka, an⟩, ⟨va, kb, bn⟩, hco, hk, h0, hN', h9⟩, t2, t3, t4, t5, t6⟩ := t
  have e : ∀ d j, ((h.put a 3 ((X.length : Int) + 1)).put b X.length c).vl d j = if d = b ∧ j = X.length then c else if d = a ∧ j = 3 then (X.length : Int) + 1 else h.vl d j := fun d j => by
    rw [AH.put_vl, AH.put_vl]
  have ea : ∀ j, j ≠ 3 → ((h.put a 3 ((X.length : Int) + 1)).put b X.length c).vl a j = h.vl a j := fun j hj => by
    rw [e, if_neg (fun z => t6 z.1), if_neg (fun z => hj z.2)]
  have ln : (X ++ [c]).length = X.length + 1 := by rw [List.length_append]; rfl
  refine ⟨⟨⟨⟨ka, an⟩, ⟨by rw [ea 0 (by decide)]; exact va, kb, bn⟩, by rw [ea 1 (by decide)]; exact hco, by rw [e, if_neg (fun z => t6 z.1), if_pos ⟨rfl, rfl⟩, ln]; omega, by omega, by rw [ln]; omega, h9⟩, t2, fun i hi => ?_, fun j hj => ?_, fun x hx => ?_, t6⟩, Nat.le_refl _, fun _ _ => rfl, fun d _ da db => funext fun j => by rw [e, if_neg (fun z => db z.1), if_neg (fun z => da z.1)], fun j _ _ j3 => ea j j3, ⟨Nat.le_refl _, Nat.le_refl _, Nat.le_refl _⟩, Or.inl rfl⟩
  · rw [ln] at hi
    rw [e]
    by_cases z : i = X.length
    · subst z
      rw [if_pos ⟨rfl, rfl⟩, List.getElem_append_right (Nat.le_refl _)]
      simp
    · rw [if_neg (fun y => z y.2), if_neg (fun y => t6 y.1.symm), List.getElem_append_left (by omega)]
      exact t3 i (by omega)
  · rw [e]
    by_cases z : j = X.length
    · rw [if_pos ⟨rfl, z⟩]; omega
    · rw [if_neg (fun y => z y.2), if_neg (fun y => t6 y.1.symm)]
      exact t4 j hj
  · rcases List.mem_append.mp hx with z | z
    · exact t5 x z
    · rw [List.mem_singleton.mp z]; exact hc
set_option maxRecDepth 100000 in
theorem s_J5appG {c : Int} (t : TbI h a b N X) (hl : X.length ≤ 1400) (hc : 0 ≤ c ∧ c ≤ 127) : CV mJ5_append_3fe6f 4 [rv a, iv c] h (oa fun r h1 => r = (a : Int) ∧ ∃ b1 N1, TbI h1 a b1 N1 (X ++ [c]) ∧ SbQ h a b N h1 b1 N1) := by
  obtain ⟨⟨ka, an⟩, ⟨va, kb, bn⟩, hco, hk, h0, hN', h9⟩ := id t.1
  refine cv_of cdJ5_append_3fe6f ?_
  show EV _ _ 0 [rv a, iv c] [] h _
  refine ev_aload_n dJ5_append_3fe6f_0 rfl ?_
  refine ev_aload_n dJ5_append_3fe6f_1 rfl ?_
  refine ev_getiv dJ5_append_3fe6f_2 fJ5_79 ka an rfl hk ?_
  refine ev_iconst dJ5_append_3fe6f_5 ?_
  refine ev_iadd dJ5_append_3fe6f_6 (by unfold ir; omega) ?_
  refine ev_cuv dJ5_append_3fe6f_7 lJ5_100 (s_room t hl) (by decide) ka an rfl rfl rfl (Nat.le_of_ble_eq_true rfl) (fun h1 q => ?_)
  obtain ⟨b1, N1, t1, s1, l1⟩ := q
  obtain ⟨⟨ka1, an1⟩, ⟨va1, kb1, bn1⟩, hco1, hk1, h01, hN1, h91⟩ := id t1.1
  obtain ⟨q1, q2⟩ := t1.ap l1 hc
  refine ev_aload_n dJ5_append_3fe6f_10 rfl ?_
  refine ev_cui dJ5_append_3fe6f_11 lJ5_83 (s_latin t1.1) (by decide) ka1 an1 rfl rfl rfl (Nat.le_of_ble_eq_true rfl) (fun r h2 q => ?_)
  obtain ⟨rfl, e2⟩ := q
  rw [e2]
  refine ev_ifeq 45 dJ5_append_3fe6f_14 (fun h_no => (by exfalso; omega)) (fun hb => ?_)
  refine ev_iload_n dJ5_append_3fe6f_17 rfl ?_
  refine ev_csi dJ5_append_3fe6f_18 lJ5_191 (s_canEnc hc.1 (by omega)) (by decide) rfl rfl (Nat.le_of_ble_eq_true rfl) rfl (fun r h3 q => ?_)
  obtain ⟨rfl, e3⟩ := q
  rw [e3]
  refine ev_ifeq 45 dJ5_append_3fe6f_21 (fun h_no => (by exfalso; omega)) (fun hb2 => ?_)
  refine ev_aload_n dJ5_append_3fe6f_24 rfl ?_
  refine ev_getrv dJ5_append_3fe6f_25 fJ5_15 ka1 an1 rfl va1 ?_
  refine ev_aload_n dJ5_append_3fe6f_28 rfl ?_
  refine ev_dup dJ5_append_3fe6f_29 ?_
  refine ev_getiv dJ5_append_3fe6f_30 fJ5_79 ka1 an1 rfl hk1 ?_
  refine ev_dupx1 dJ5_append_3fe6f_33 ?_
  refine ev_iconst dJ5_append_3fe6f_34 ?_
  refine ev_iadd dJ5_append_3fe6f_35 (by unfold ir; omega) ?_
  refine ev_pt dJ5_append_3fe6f_36 fJ5_79 ka1 an1 rfl ?_
  refine ev_iload_n dJ5_append_3fe6f_39 rfl ?_
  refine ev_i2b dJ5_append_3fe6f_40 (by omega) (by omega) ?_
  refine ev_bast dJ5_append_3fe6f_41 (by omega) (by omega) kb1 bn1 rfl (by omega) (by omega) ?_
  refine ev_gt 75 dJ5_append_3fe6f_42 ?_
  refine ev_aload_n dJ5_append_3fe6f_75 rfl ?_
  exact ev_aret dJ5_append_3fe6f_76 (⟨_, rfl, rfl, b1, N1, q1, s1.tr q2⟩) rfl (Or.inl ⟨_, rfl⟩)
set_option maxRecDepth 100000 in
theorem s_appG {c : Int} (t : TbI h a b N X) (hl : X.length ≤ 1400) (hc : 0 ≤ c ∧ c ≤ 127) : CV mJ4_append_cf468 5 [rv a, iv c] h (oa fun r h1 => r = (a : Int) ∧ ∃ b1 N1, TbI h1 a b1 N1 (X ++ [c]) ∧ SbQ h a b N h1 b1 N1) := by
  refine cv_of cdJ4_append_cf468 ?_
  show EV _ _ 0 [rv a, iv c] [] h _
  refine ev_aload_n dJ4_append_cf468_0 rfl ?_
  refine ev_iload_n dJ4_append_cf468_1 rfl ?_
  refine ev_cpr dJ4_append_cf468_2 lJ4_50 (s_J5appG t hl hc) (by decide) t.1.1.1 t.1.1.2 rfl rfl rfl (Nat.le_of_ble_eq_true rfl) (fun r h1 q => ?_)
  refine ev_pop dJ4_append_cf468_5 ?_
  refine ev_aload_n dJ4_append_cf468_6 rfl ?_
  exact ev_aret dJ4_append_cf468_7 (⟨_, rfl, rfl, q.2⟩) rfl (Or.inl ⟨_, rfl⟩)
set_option maxRecDepth 100000 in
theorem s_strSize {x : Int} (hx : 0 ≤ x ∧ x ≤ 9) : CV mJ6_stringSize_0f7a4 1 [iv x] h (oi fun r h1 => r = 1 ∧ h1 = h) := by
  refine cv_of cdJ6_stringSize_0f7a4 ?_
  show EV _ _ 0 [iv x, uv, uv, uv] [] h _
  refine ev_iconst dJ6_stringSize_0f7a4_0 ?_
  refine ev_ist1 dJ6_stringSize_0f7a4_1 ?_
  refine ev_iload_n dJ6_stringSize_0f7a4_2 rfl ?_
  refine ev_iflt 11 dJ6_stringSize_0f7a4_3 (fun h_no => (by exfalso; omega)) (fun hb => ?_)
  refine ev_iconst dJ6_stringSize_0f7a4_6 ?_
  refine ev_ist1 dJ6_stringSize_0f7a4_7 ?_
  refine ev_iload_n dJ6_stringSize_0f7a4_8 rfl ?_
  refine ev_ineg dJ6_stringSize_0f7a4_9 (by unfold ir; omega) ?_
  refine ev_ist0 dJ6_stringSize_0f7a4_10 ?_
  refine ev_bipush dJ6_stringSize_0f7a4_11 ?_
  refine ev_ist2 dJ6_stringSize_0f7a4_13 ?_
  refine ev_iconst dJ6_stringSize_0f7a4_14 ?_
  refine ev_ist3 dJ6_stringSize_0f7a4_15 ?_
  refine ev_iload_n dJ6_stringSize_0f7a4_16 rfl ?_
  refine ev_bipush dJ6_stringSize_0f7a4_17 ?_
  refine ev_icmpge 42 dJ6_stringSize_0f7a4_19 (fun h_no => (by exfalso; omega)) (fun hb2 => ?_)
  refine ev_iload_n dJ6_stringSize_0f7a4_22 rfl ?_
  refine ev_iload_n dJ6_stringSize_0f7a4_23 rfl ?_
  refine ev_icmple 31 dJ6_stringSize_0f7a4_24 (fun h_no => (by exfalso; omega)) (fun hb3 => ?_)
  refine ev_iload_n dJ6_stringSize_0f7a4_27 rfl ?_
  refine ev_iload_n dJ6_stringSize_0f7a4_28 rfl ?_
  refine ev_iadd dJ6_stringSize_0f7a4_29 (by unfold ir; omega) ?_
  exact ev_iret dJ6_stringSize_0f7a4_30 (⟨_, rfl, rfl, rfl⟩)
set_option maxRecDepth 100000 in
theorem s_getChars {x : Int} {m : Nat} (hx : 0 ≤ x ∧ x ≤ 9) (kb : h.kd b = (101, N) ∧ b < h.n) (hm : m < N) (hN : N ≤ 100000) : CV mJ6_getChars_ba4f3 1 [iv x, iv ((m : Int) + 1), rv b] h (oi fun r h1 => h1 = h.put b m (48 + x)) := by
  refine cv_of cdJ6_getChars_ba4f3 ?_
  show EV _ _ 0 [iv x, iv ((m : Int) + 1), rv b, uv, uv, uv, uv] [] h _
  refine ev_iload_n dJ6_getChars_ba4f3_0 rfl ?_
  refine ev_ist5 dJ6_getChars_ba4f3_1 ?_
  refine ev_iload_n dJ6_getChars_ba4f3_3 rfl ?_
  refine ev_ifge 11 dJ6_getChars_ba4f3_4 (fun hb => ?_) (fun h_no => (by exfalso; omega))
  refine ev_iconst dJ6_getChars_ba4f3_11 ?_
  refine ev_ist6 dJ6_getChars_ba4f3_12 ?_
  refine ev_iload dJ6_getChars_ba4f3_14 rfl ?_
  refine ev_ifne 22 dJ6_getChars_ba4f3_16 (fun h_no => (by exfalso; exact h_no rfl)) (fun hb2 => ?_)
  refine ev_iload_n dJ6_getChars_ba4f3_19 rfl ?_
  refine ev_ineg dJ6_getChars_ba4f3_20 (by unfold ir; omega) ?_
  refine ev_ist0 dJ6_getChars_ba4f3_21 ?_
  refine ev_iload_n dJ6_getChars_ba4f3_22 rfl ?_
  refine ev_bipush dJ6_getChars_ba4f3_23 ?_
  refine ev_icmpgt 72 dJ6_getChars_ba4f3_25 (fun hb3 => ?_) (fun h_no => (by exfalso; omega))
  refine ev_aload_n dJ6_getChars_ba4f3_72 rfl ?_
  refine ev_iin5 dJ6_getChars_ba4f3_73 (by unfold ir; omega) ?_
  refine ev_iload dJ6_getChars_ba4f3_76 rfl ?_
  refine ev_dig dJ6_getChars_ba4f3_78 dJ6_getChars_ba4f3_81 dJ6_getChars_ba4f3_82 dJ6_getChars_ba4f3_83 q_933 rfl hx ?_
  rw [show (m : Int) + 1 + -1 = (m : Int) by omega]
  refine ev_bast dJ6_getChars_ba4f3_84 (by omega) (by omega) kb.1 kb.2 rfl (by omega) (by omega) ?_
  rw [show ((m : Nat) : Int).toNat = m from rfl]
  refine ev_iload_n dJ6_getChars_ba4f3_85 rfl ?_
  refine ev_bipush dJ6_getChars_ba4f3_86 ?_
  refine ev_icmpge 104 dJ6_getChars_ba4f3_88 (fun hb4 => ?_) (fun h_no => (by exfalso; omega))
  refine ev_iload dJ6_getChars_ba4f3_104 rfl ?_
  refine ev_ifeq 118 dJ6_getChars_ba4f3_106 (fun hb5 => ?_) (fun h_no => (by exfalso; omega))
  refine ev_iload dJ6_getChars_ba4f3_118 rfl ?_
  exact ev_iret dJ6_getChars_ba4f3_120 (⟨_, rfl, rfl⟩)
set_option maxRecDepth 100000 in
theorem s_J5appI {x : Int} (t : TbI h a b N X) (hl : X.length ≤ 1400) (hx : 0 ≤ x ∧ x ≤ 9) : CV mJ5_append_c97b9 4 [rv a, iv x] h (oa fun r h1 => r = (a : Int) ∧ ∃ b1 N1, TbI h1 a b1 N1 (X ++ [48 + x]) ∧ SbQ h a b N h1 b1 N1) := by
  obtain ⟨⟨ka, an⟩, ⟨va, kb, bn⟩, hco, hk, h0, hN', h9⟩ := id t.1
  refine cv_of cdJ5_append_c97b9 ?_
  show EV _ _ 0 [rv a, iv x, uv, uv] [] h _
  refine ev_aload_n dJ5_append_c97b9_0 rfl ?_
  refine ev_getiv dJ5_append_c97b9_1 fJ5_79 ka an rfl hk ?_
  refine ev_ist2 dJ5_append_c97b9_4 ?_
  refine ev_iload_n dJ5_append_c97b9_5 rfl ?_
  refine ev_iload_n dJ5_append_c97b9_6 rfl ?_
  refine ev_csi dJ5_append_c97b9_7 lJ5_245 (s_strSize hx) (by decide) rfl rfl (Nat.le_of_ble_eq_true rfl) rfl (fun r h1 q => ?_)
  obtain ⟨rfl, e1⟩ := q
  rw [e1]
  refine ev_iadd dJ5_append_c97b9_10 (by unfold ir; omega) ?_
  refine ev_ist3 dJ5_append_c97b9_11 ?_
  refine ev_aload_n dJ5_append_c97b9_12 rfl ?_
  refine ev_iload_n dJ5_append_c97b9_13 rfl ?_
  refine ev_cuv dJ5_append_c97b9_14 lJ5_100 (s_room t hl) (by decide) ka an rfl rfl rfl (Nat.le_of_ble_eq_true rfl) (fun h1 q => ?_)
  obtain ⟨b1, N1, t1, s1, l1⟩ := q
  obtain ⟨⟨ka1, an1⟩, ⟨va1, kb1, bn1⟩, hco1, hk1, h01, hN1, h91⟩ := id t1.1
  obtain ⟨q1, q2⟩ := t1.ap l1 (c := 48 + x) (by omega)
  refine ev_aload_n dJ5_append_c97b9_17 rfl ?_
  refine ev_cui dJ5_append_c97b9_18 lJ5_83 (s_latin t1.1) (by decide) ka1 an1 rfl rfl rfl (Nat.le_of_ble_eq_true rfl) (fun r h2 q => ?_)
  obtain ⟨rfl, e2⟩ := q
  rw [e2]
  refine ev_ifeq 37 dJ5_append_c97b9_21 (fun h_no => (by exfalso; omega)) (fun hb => ?_)
  refine ev_iload_n dJ5_append_c97b9_24 rfl ?_
  refine ev_iload_n dJ5_append_c97b9_25 rfl ?_
  refine ev_aload_n dJ5_append_c97b9_26 rfl ?_
  refine ev_getrv dJ5_append_c97b9_27 fJ5_15 ka1 an1 rfl va1 ?_
  refine ev_csi dJ5_append_c97b9_30 lJ5_248 (s_getChars hx ⟨kb1, bn1⟩ l1 h91) (by decide) rfl rfl (Nat.le_of_ble_eq_true rfl) rfl (fun r h3 q => ?_)
  have e3 : h3.put a 3 ((X.length : Int) + 1) = (h1.put a 3 ((X.length : Int) + 1)).put b1 X.length (48 + x) := by
    rw [q]
    refine Prod.ext rfl (Prod.ext rfl (Prod.ext ?_ rfl))
    funext c j
    have ab := t1.2.2.2.2.2
    show (if c = a ∧ j = 3 then _ else if c = b1 ∧ j = X.length then _ else h1.vl c j) = (if c = b1 ∧ j = X.length then _ else if c = a ∧ j = 3 then _ else h1.vl c j)
    by_cases z : c = a ∧ j = 3
    · rw [if_pos z, if_neg (fun y => ab (z.1.symm.trans y.1)), if_pos z]
    · rw [if_neg z, if_neg z]
  have k3 : h3.kd a = (0, 4) := by rw [q]; exact ka1
  have n3 : a < h3.n := by rw [q]; exact an1
  refine ev_pop dJ5_append_c97b9_33 ?_
  refine ev_gt 48 dJ5_append_c97b9_34 ?_
  refine ev_aload_n dJ5_append_c97b9_48 rfl ?_
  refine ev_iload_n dJ5_append_c97b9_49 rfl ?_
  refine ev_pt dJ5_append_c97b9_50 fJ5_79 k3 n3 rfl ?_
  refine ev_aload_n dJ5_append_c97b9_53 rfl ?_
  rw [e3]
  exact ev_aret dJ5_append_c97b9_54 (⟨_, rfl, rfl, b1, N1, q1, s1.tr q2⟩) rfl (Or.inl ⟨_, rfl⟩)
set_option maxRecDepth 100000 in
theorem s_appI {x : Int} (t : TbI h a b N X) (hl : X.length ≤ 1400) (hx : 0 ≤ x ∧ x ≤ 9) : CV mJ4_append_bf812 5 [rv a, iv x] h (oa fun r h1 => r = (a : Int) ∧ ∃ b1 N1, TbI h1 a b1 N1 (X ++ [48 + x]) ∧ SbQ h a b N h1 b1 N1) := by
  refine cv_of cdJ4_append_bf812 ?_
  show EV _ _ 0 [rv a, iv x] [] h _
  refine ev_aload_n dJ4_append_bf812_0 rfl ?_
  refine ev_iload_n dJ4_append_bf812_1 rfl ?_
  refine ev_cpr dJ4_append_bf812_2 lJ4_53 (s_J5appI t hl hx) (by decide) t.1.1.1 t.1.1.2 rfl rfl rfl (Nat.le_of_ble_eq_true rfl) (fun r h1 q => ?_)
  refine ev_pop dJ4_append_bf812_5 ?_
  refine ev_aload_n dJ4_append_bf812_6 rfl ?_
  exact ev_aret dJ4_append_bf812_7 (⟨_, rfl, rfl, q.2⟩) rfl (Or.inl ⟨_, rfl⟩)
end Grow
