/-! builders of text -/
/-- a builder of text at a: its bytes at b, N of them, k in use -/
def SBI (h : AH) (a b N : Nat) (k : Int) : Prop := (h.kd a = (0, 4) ∧ a < h.n) ∧ (h.vl a 0 = (b : Int) ∧ h.kd b = (101, N) ∧ b < h.n) ∧ h.vl a 1 = 0 ∧ h.vl a 3 = k ∧ 0 ≤ k ∧ k ≤ (N : Int) ∧ N ≤ 100000
set_option maxRecDepth 100000 in
theorem s_J5len {a b N : Nat} {k : Int} {h : AH} (hs : SBI h a b N k) : CV mJ5_length_8abf5 1 [rv a] h (oi fun r h1 => r = k ∧ h1 = h) := by
  obtain ⟨⟨ka, an⟩, ⟨va, kb, bn⟩, hco, hk, h0, hN, h9⟩ := hs
  refine cv_of cdJ5_length_8abf5 ?_
  show EV _ _ 0 [rv a] [] h _
  refine ev_aload_n dJ5_length_8abf5_0 rfl ?_
  refine ev_getiv dJ5_length_8abf5_1 fJ5_79 ka an rfl hk ?_
  exact ev_iret dJ5_length_8abf5_4 (⟨_, rfl, rfl, rfl⟩)
set_option maxRecDepth 100000 in
theorem s_J4len {a b N : Nat} {k : Int} {h : AH} (hs : SBI h a b N k) : CV mJ4_length_8abf5 2 [rv a] h (oi fun r h1 => r = k ∧ h1 = h) := by
  refine cv_of cdJ4_length_8abf5 ?_
  show EV _ _ 0 [rv a] [] h _
  refine ev_aload_n dJ4_length_8abf5_0 rfl ?_
  refine ev_cpi dJ4_length_8abf5_1 lJ4_343 (s_J5len hs) (by decide) hs.1.1 hs.1.2 rfl rfl rfl (Nat.le_of_ble_eq_true rfl) (fun r h1 q => ?_)
  obtain ⟨rfl, rfl⟩ := q
  exact ev_iret dJ4_length_8abf5_4 (⟨_, rfl, rfl, rfl⟩)
set_option maxRecDepth 100000 in
theorem s_ensure {a b N : Nat} {k n : Int} {h : AH} (hs : SBI h a b N k) (hn : n ≤ (N : Int)) (hn0 : 0 ≤ n) : CV mJ5_ensureCapacityInternal_d00df 2 [rv a, iv n] h (on fun h1 => h1 = h) := by
  obtain ⟨⟨ka, an⟩, ⟨va, kb, bn⟩, hco, hk, h0, hN, h9⟩ := hs
  refine cv_of cdJ5_ensureCapacityInternal_d00df ?_
  show EV _ _ 0 [rv a, iv n, uv] [] h _
  refine ev_aload_n dJ5_ensureCapacityInternal_d00df_0 rfl ?_
  refine ev_getrv dJ5_ensureCapacityInternal_d00df_1 fJ5_15 ka an rfl va ?_
  refine ev_al dJ5_ensureCapacityInternal_d00df_4 kb bn rfl (by decide) (by omega) ?_
  refine ev_aload_n dJ5_ensureCapacityInternal_d00df_5 rfl ?_
  refine ev_getiv dJ5_ensureCapacityInternal_d00df_6 fJ5_22 ka an rfl hco ?_
  refine ev_ishr0 dJ5_ensureCapacityInternal_d00df_9 ?_
  refine ev_ist2 dJ5_ensureCapacityInternal_d00df_10 ?_
  refine ev_iload_n dJ5_ensureCapacityInternal_d00df_11 rfl ?_
  refine ev_iload_n dJ5_ensureCapacityInternal_d00df_12 rfl ?_
  refine ev_isub dJ5_ensureCapacityInternal_d00df_13 (by unfold ir; omega) ?_
  refine ev_ifle 38 dJ5_ensureCapacityInternal_d00df_14 (fun hc => ?_) (fun h_no => (by exfalso; omega))
  exact ev_vret dJ5_ensureCapacityInternal_d00df_38 (⟨rfl, rfl⟩)
set_option maxRecDepth 100000 in
theorem s_latin {a b N : Nat} {k : Int} {h : AH} (hs : SBI h a b N k) : CV mJ5_isLatin1_aae02 1 [rv a] h (oi fun r h1 => r = 1 ∧ h1 = h) := by
  obtain ⟨⟨ka, an⟩, ⟨va, kb, bn⟩, hco, hk, h0, hN, h9⟩ := hs
  refine cv_of cdJ5_isLatin1_aae02 ?_
  show EV _ _ 0 [rv a] [] h _
  refine ev_gcs dJ5_isLatin1_aae02_0 q_208 ?_
  refine ev_ifeq 17 dJ5_isLatin1_aae02_3 (fun h_no => (by exfalso; omega)) (fun hc => ?_)
  refine ev_aload_n dJ5_isLatin1_aae02_6 rfl ?_
  refine ev_getiv dJ5_isLatin1_aae02_7 fJ5_22 ka an rfl hco ?_
  refine ev_ifne 17 dJ5_isLatin1_aae02_10 (fun h_no => (by exfalso; exact h_no rfl)) (fun hc => ?_)
  refine ev_iconst dJ5_isLatin1_aae02_13 ?_
  refine ev_gt 18 dJ5_isLatin1_aae02_14 ?_
  exact ev_zret dJ5_isLatin1_aae02_18 (⟨_, rfl, rfl, rfl⟩) (Or.inr rfl)
set_option maxRecDepth 100000 in
theorem s_J5set0 {a b N : Nat} {k : Int} {h : AH} (hs : SBI h a b N k) : CV mJ5_setLength_d00df 3 [rv a, iv 0] h (on fun h1 => KS h h1 [] [(a, 2), (a, 3)] ∧ h1.vl a 3 = 0) := by
  obtain ⟨⟨ka, an⟩, ⟨va, kb, bn⟩, hco, hk, h0, hN, h9⟩ := id hs
  refine cv_of cdJ5_setLength_d00df ?_
  show EV _ _ 0 [rv a, iv 0] [] h _
  refine ev_iload_n dJ5_setLength_d00df_0 rfl ?_
  refine ev_ifge 13 dJ5_setLength_d00df_1 (fun hc => ?_) (fun h_no => (by exfalso; omega))
  refine ev_aload_n dJ5_setLength_d00df_13 rfl ?_
  refine ev_iload_n dJ5_setLength_d00df_14 rfl ?_
  refine ev_cuv dJ5_setLength_d00df_15 lJ5_100 (s_ensure hs (by omega) (by omega)) (by decide) ka an rfl rfl rfl (Nat.le_of_ble_eq_true rfl) (fun h1 q => ?_)
  subst q
  refine ev_aload_n dJ5_setLength_d00df_18 rfl ?_
  refine ev_getiv dJ5_setLength_d00df_19 fJ5_79 ka an rfl hk ?_
  refine ev_iload_n dJ5_setLength_d00df_22 rfl ?_
  refine ev_icmpge 63 dJ5_setLength_d00df_23 (fun hc2 => ?_) (fun h_no => (by exfalso; omega))
  refine ev_aload_n dJ5_setLength_d00df_63 rfl ?_
  refine ev_getiv dJ5_setLength_d00df_64 fJ5_79 ka an rfl hk ?_
  refine ev_iload_n dJ5_setLength_d00df_67 rfl ?_
  refine ev_icmple 76 dJ5_setLength_d00df_68 (fun hc3 => ?_) (fun hc3 => ?_)
  · refine ev_aload_n dJ5_setLength_d00df_76 rfl ?_
    refine ev_iload_n dJ5_setLength_d00df_77 rfl ?_
    refine ev_pt dJ5_setLength_d00df_78 fJ5_79 ka an rfl ?_
    exact ev_vret dJ5_setLength_d00df_81 (⟨rfl, KS.rf.pf (by simp), by rw [AH.put_vl, if_pos ⟨rfl, rfl⟩]⟩)
  · refine ev_aload_n dJ5_setLength_d00df_71 rfl ?_
    refine ev_iconst dJ5_setLength_d00df_72 ?_
    refine ev_pt dJ5_setLength_d00df_73 fJ5_73 ka an rfl ?_
    refine ev_aload_n dJ5_setLength_d00df_76 rfl ?_
    refine ev_iload_n dJ5_setLength_d00df_77 rfl ?_
    refine ev_pt dJ5_setLength_d00df_78 fJ5_79 ka an rfl ?_
    exact ev_vret dJ5_setLength_d00df_81 (⟨rfl, (KS.rf.pf (by simp)).pf (by simp), by rw [AH.put_vl, if_pos ⟨rfl, rfl⟩]⟩)
set_option maxRecDepth 100000 in
theorem s_J4set0 {a b N : Nat} {k : Int} {h : AH} (hs : SBI h a b N k) : CV mJ4_setLength_d00df 4 [rv a, iv 0] h (on fun h1 => KS h h1 [] [(a, 2), (a, 3)] ∧ h1.vl a 3 = 0) := by
  refine cv_of cdJ4_setLength_d00df ?_
  show EV _ _ 0 [rv a, iv 0] [] h _
  refine ev_aload_n dJ4_setLength_d00df_0 rfl ?_
  refine ev_iload_n dJ4_setLength_d00df_1 rfl ?_
  refine ev_cpv dJ4_setLength_d00df_2 lJ4_333 (s_J5set0 hs) (by decide) hs.1.1 hs.1.2 rfl rfl rfl (Nat.le_of_ble_eq_true rfl) (fun h1 q => ?_)
  exact ev_vret dJ4_setLength_d00df_5 (⟨rfl, q⟩)
set_option maxRecDepth 100000 in
theorem s_canEnc {c : Int} {h : AH} (h0 : 0 ≤ c) (h9 : c ≤ 255) : CV mJ1_canEncode_fc78d 1 [iv c] h (oi fun r h1 => r = 1 ∧ h1 = h) := by
  refine cv_of cdJ1_canEncode_fc78d ?_
  show EV _ _ 0 [iv c] [] h _
  refine ev_iload_n dJ1_canEncode_fc78d_0 rfl ?_
  refine ev_sipush dJ1_canEncode_fc78d_1 ?_
  refine ev_icmpgt 11 dJ1_canEncode_fc78d_4 (fun h_no => (by exfalso; omega)) (fun hc => ?_)
  refine ev_iconst dJ1_canEncode_fc78d_7 ?_
  refine ev_gt 12 dJ1_canEncode_fc78d_8 ?_
  exact ev_zret dJ1_canEncode_fc78d_12 (⟨_, rfl, rfl, rfl⟩) (Or.inr rfl)
set_option maxRecDepth 100000 in
theorem s_J5app {a b N : Nat} {k c : Int} {h : AH} (hs : SBI h a b N k) (hroom : k + 1 ≤ (N : Int)) (hc0 : 0 ≤ c) (hc9 : c ≤ 127) : CV mJ5_append_3fe6f 3 [rv a, iv c] h (oa fun r h1 => r = (a : Int) ∧ h1 = (h.put a 3 (k + 1)).put b k.toNat c) := by
  obtain ⟨⟨ka, an⟩, ⟨va, kb, bn⟩, hco, hk, h0, hN, h9⟩ := id hs
  refine cv_of cdJ5_append_3fe6f ?_
  show EV _ _ 0 [rv a, iv c] [] h _
  refine ev_aload_n dJ5_append_3fe6f_0 rfl ?_
  refine ev_aload_n dJ5_append_3fe6f_1 rfl ?_
  refine ev_getiv dJ5_append_3fe6f_2 fJ5_79 ka an rfl hk ?_
  refine ev_iconst dJ5_append_3fe6f_5 ?_
  refine ev_iadd dJ5_append_3fe6f_6 (by unfold ir; omega) ?_
  refine ev_cuv dJ5_append_3fe6f_7 lJ5_100 (s_ensure hs (by omega) (by omega)) (by decide) ka an rfl rfl rfl (Nat.le_of_ble_eq_true rfl) (fun h1 q => ?_)
  subst q
  refine ev_aload_n dJ5_append_3fe6f_10 rfl ?_
  refine ev_cui dJ5_append_3fe6f_11 lJ5_83 (s_latin hs) (by decide) ka an rfl rfl rfl (Nat.le_of_ble_eq_true rfl) (fun r h2 q => ?_)
  obtain ⟨rfl, rfl⟩ := q
  refine ev_ifeq 45 dJ5_append_3fe6f_14 (fun h_no => (by exfalso; omega)) (fun hc => ?_)
  refine ev_iload_n dJ5_append_3fe6f_17 rfl ?_
  refine ev_csi dJ5_append_3fe6f_18 lJ5_191 (s_canEnc hc0 (by omega)) (by decide) rfl rfl (Nat.le_of_ble_eq_true rfl) rfl (fun r h3 q => ?_)
  obtain ⟨rfl, rfl⟩ := q
  refine ev_ifeq 45 dJ5_append_3fe6f_21 (fun h_no => (by exfalso; omega)) (fun hcc => ?_)
  refine ev_aload_n dJ5_append_3fe6f_24 rfl ?_
  refine ev_getrv dJ5_append_3fe6f_25 fJ5_15 ka an rfl va ?_
  refine ev_aload_n dJ5_append_3fe6f_28 rfl ?_
  refine ev_dup dJ5_append_3fe6f_29 ?_
  refine ev_getiv dJ5_append_3fe6f_30 fJ5_79 ka an rfl hk ?_
  refine ev_dupx1 dJ5_append_3fe6f_33 ?_
  refine ev_iconst dJ5_append_3fe6f_34 ?_
  refine ev_iadd dJ5_append_3fe6f_35 (by unfold ir; omega) ?_
  refine ev_pt dJ5_append_3fe6f_36 fJ5_79 ka an rfl ?_
  refine ev_iload_n dJ5_append_3fe6f_39 rfl ?_
  refine ev_i2b dJ5_append_3fe6f_40 (by omega) (by omega) ?_
  refine ev_bast dJ5_append_3fe6f_41 (by omega) (by omega) kb bn rfl (by omega) (by omega) ?_
  refine ev_gt 75 dJ5_append_3fe6f_42 ?_
  refine ev_aload_n dJ5_append_3fe6f_75 rfl ?_
  exact ev_aret dJ5_append_3fe6f_76 (⟨_, rfl, rfl, rfl⟩) rfl (Or.inl ⟨_, rfl⟩)
set_option maxRecDepth 100000 in
theorem s_J4app {a b N : Nat} {k c : Int} {h : AH} (hs : SBI h a b N k) (hroom : k + 1 ≤ (N : Int)) (hc0 : 0 ≤ c) (hc9 : c ≤ 127) : CV mJ4_append_cf468 4 [rv a, iv c] h (oa fun r h1 => r = (a : Int) ∧ h1 = (h.put a 3 (k + 1)).put b k.toNat c) := by
  refine cv_of cdJ4_append_cf468 ?_
  show EV _ _ 0 [rv a, iv c] [] h _
  refine ev_aload_n dJ4_append_cf468_0 rfl ?_
  refine ev_iload_n dJ4_append_cf468_1 rfl ?_
  refine ev_cpr dJ4_append_cf468_2 lJ4_50 (s_J5app hs hroom hc0 hc9) (by decide) hs.1.1 hs.1.2 rfl rfl rfl (Nat.le_of_ble_eq_true rfl) (fun r h1 q => ?_)
  refine ev_pop dJ4_append_cf468_5 ?_
  refine ev_aload_n dJ4_append_cf468_6 rfl ?_
  exact ev_aret dJ4_append_cf468_7 (⟨_, rfl, rfl, q.2⟩) rfl (Or.inl ⟨_, rfl⟩)
