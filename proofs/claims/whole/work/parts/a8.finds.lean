/-! the reference finds the types of a lesson -/
def IS0 : IS := (2, fun _ => .var 0, fun _ => .var 0, fun _ => false)
/-- the first node from k on whose type is too large, -1 for none -/
def mxS (S : IS) : Nat → Nat → Int
  | 0, _ => -1
  | m + 1, k => if 201 ≤ sz (S.2.1 k) then (k : Int) else mxS S m (k + 1)
def mxR (S : IS) (m k : Nat) : IR := if mxS S m k < 0 then (0, -1, -1, -1) else (10, mxS S m k, -1, -1)
/-- what finding a lesson's types tells: why it failed, the types -/
def fnR (L : List Nd) (kp : Nat → Option TE) (r : IR) (S : IS) : Prop := ∃ r0, infR L kp 130 0 IS0 r0 S ∧ (r0.1 ≠ 0 → r = r0) ∧ (r0.1 = 0 → r = mxR S L.length 0)
theorem mxS_no {S : IS} : ∀ m k, mxS S m k < 0 → ∀ j, k ≤ j → j < k + m → sz (S.2.1 j) ≤ 200
  | 0, k, _, j, h1, h2 => by omega
  | m + 1, k, h, j, h1, h2 => by
    rw [mxS] at h
    by_cases c : 201 ≤ sz (S.2.1 k)
    · rw [if_pos c] at h; omega
    · rw [if_neg c] at h
      by_cases e : j = k
      · rw [e]; omega
      · exact mxS_no m (k + 1) h j (by omega) (by omega)
theorem mxR_0 {S : IS} {m k : Nat} (h : (mxR S m k).1 = 0) : mxS S m k < 0 := by
  unfold mxR at h
  by_cases c : mxS S m k < 0
  · exact c
  · rw [if_neg c] at h; exact absurd (show (10 : Int) = 0 from h) (by decide)
theorem fnR_sz {L : List Nd} {kp : Nat → Option TE} {r : IR} {S : IS} (h : fnR L kp r S) (hr : r.1 = 0) : ∀ k, k < L.length → sz (S.2.1 k) ≤ 200 := by
  obtain ⟨r0, h1, h2, h3⟩ := h
  have e : r0.1 = 0 := Decidable.byContradiction fun z => z (by rw [← h2 z]; exact hr)
  rw [h3 e] at hr
  exact fun k hk => mxS_no _ _ (mxR_0 hr) k (Nat.zero_le _) (by omega)
theorem fnR_det {L : List Nd} {kp : Nat → Option TE} {r r' : IR} {S S' : IS} (h : fnR L kp r S) (h' : fnR L kp r' S') : r = r' ∧ (r.1 = 0 → S = S') := by
  obtain ⟨r0, h1, h2, h3⟩ := h
  obtain ⟨r0', h1', h2', h3'⟩ := h'
  obtain ⟨e1, e2⟩ := inf_det 130 0 IS0 _ _ _ _ h1 h1'
  subst e1
  by_cases c : r0.1 = 0
  · have e3 := e2 c
    subst e3
    exact ⟨(h3 c).trans (h3' c).symm, fun _ => rfl⟩
  · exact ⟨(h2 c).trans (h2' c).symm, fun z => absurd (by rw [← h2 c]; exact z) c⟩
theorem RS0 {h : AH} {aB : Nat} (h49 : h.vl 42 49 = 0) (hs : ∀ k, h.vl 71 k ≤ h.vl 42 50) (ha : aB ≤ 9800) : RS h 0 aB IS0 (fun _ => False) (fun _ => False) := by
  refine ⟨fun _ => .var 0, ⟨fun _ => 0, fun _ => .var 0, fun _ => 0, ⟨⟨⟨?_, ?_, ?_⟩, ?_, ?_, ?_, ?_⟩, h49, ?_, hs, ⟨Nat.zero_le _, ha⟩, by decide⟩, ?_⟩, fun k hk => False.elim hk, fun k hk => False.elim hk, fun x hx => Bool.noConfusion hx, Nat.le_refl _⟩
  all_goals first | (intro t ht0; exact absurd ht0 (Nat.not_lt_zero t)) | (intro t u ht0; exact absurd ht0 (Nat.not_lt_zero t))
theorem fin_out {h : AH} {l k x nn : Int} (hI : RI h) (hf : h.vl 42 52 = x) (hx : x ≠ 0) (hn : h.vl 42 36 = nn) : EV mX11_finds 9 77 [rv 42, iv l, iv k] [] h (oi fun r h1 => r = 0 ∧ h1 = h) := by
  refine ev_iload_n dX11_finds_77 rfl ?_
  refine ev_aload_n dX11_finds_78 rfl ?_
  refine ev_getiv dX11_finds_79 fX11_203 hI.o hI.n rfl hn ?_
  by_cases c : nn ≤ k
  · skip
    refine ev_icmpge 121 dX11_finds_82 (fun hb => ?_) (fun h_no => (by exfalso; omega))
    refine ev_aload_n dX11_finds_121 rfl ?_
    refine ev_getiv dX11_finds_122 fX11_242 hI.o hI.n rfl hf ?_
    refine ev_ifne 132 dX11_finds_125 (fun hb2 => ?_) (fun h_no => (by exfalso; omega))
    refine ev_iconst dX11_finds_132 ?_
    exact ev_zret dX11_finds_133 (⟨_, rfl, rfl, rfl⟩) (by omega)
  refine ev_icmpge 121 dX11_finds_82 (fun h_no => (by exfalso; omega)) (fun hb => ?_)
  refine ev_aload_n dX11_finds_85 rfl ?_
  refine ev_getiv dX11_finds_86 fX11_242 hI.o hI.n rfl hf ?_
  refine ev_ifne 121 dX11_finds_89 (fun hb2 => ?_) (fun h_no => (by exfalso; omega))
  refine ev_aload_n dX11_finds_121 rfl ?_
  refine ev_getiv dX11_finds_122 fX11_242 hI.o hI.n rfl hf ?_
  refine ev_ifne 132 dX11_finds_125 (fun hb3 => ?_) (fun h_no => (by exfalso; omega))
  refine ev_iconst dX11_finds_132 ?_
  exact ev_zret dX11_finds_133 (⟨_, rfl, rfl, rfl⟩) (by omega)
set_option maxRecDepth 100000 in
theorem fin_sz {L : List Nd} {S : IS} {Gn : Nat → Prop} {N aB : Nat} {l : Int} : ∀ (m k : Nat) (h : AH), k + m = L.length → RI h → NT h L → RS h N aB S (fun k => k < L.length) Gn → h.vl 42 52 = 0 → (0 ≤ h.vl 42 50 ∧ h.vl 42 50 + (m : Int) ≤ 2147483000) →
    EV mX11_finds 9 77 [rv 42, iv l, iv (k : Int)] [] h (oi fun x h1 => KP h h1 [71, 72, 73, 74] [50, 51, 52, 53, 54, 55] ∧ (h.vl 42 50 ≤ h1.vl 42 50 ∧ h1.vl 42 50 ≤ h.vl 42 50 + (m : Int)) ∧ FlQ h1 (mxR S m k) ∧ x = (if (mxR S m k).1 = 0 then 1 else 0) ∧ ((mxR S m k).1 = 0 → RS h1 N aB S (fun k => k < L.length) Gn))
  | 0, k, h, hk, hI, hT, hS, hf, hst => by
    have hn : h.vl 42 36 = (L.length : Int) := hT.2.1
    have e0 : mxR S 0 k = (0, -1, -1, -1) := rfl
    obtain ⟨T, hR, -⟩ := id hS
    refine ev_iload_n dX11_finds_77 rfl ?_
    refine ev_aload_n dX11_finds_78 rfl ?_
    refine ev_getiv dX11_finds_79 fX11_203 hI.o hI.n rfl hn ?_
    refine ev_icmpge 121 dX11_finds_82 (fun hb => ?_) (fun h_no => (by exfalso; omega))
    refine ev_aload_n dX11_finds_121 rfl ?_
    refine ev_getiv dX11_finds_122 fX11_242 hI.o hI.n rfl hf ?_
    refine ev_ifne 132 dX11_finds_125 (fun h_no => (by exfalso; omega)) (fun hb2 => ?_)
    refine ev_iconst dX11_finds_128 ?_
    refine ev_gt 133 dX11_finds_129 ?_
    exact ev_zret dX11_finds_133 (⟨_, rfl, KP.rf, by omega, ⟨hf, fun z => absurd rfl z, hR.sn⟩, rfl, fun _ => hS⟩) (by omega)
  | m + 1, k, h, hk, hI, hT, hS, hf, hst => by
    have hn : h.vl 42 36 = (L.length : Int) := hT.2.1
    have hlen := hT.2.2.2
    obtain ⟨T, hR, s2, s3, s4, s5⟩ := id hS
    obtain ⟨-, a, a1, a2, a3⟩ := s2 k (by show k < L.length; omega)
    refine ev_iload_n dX11_finds_77 rfl ?_
    refine ev_aload_n dX11_finds_78 rfl ?_
    refine ev_getiv dX11_finds_79 fX11_203 hI.o hI.n rfl hn ?_
    refine ev_icmpge 121 dX11_finds_82 (fun h_no => (by exfalso; omega)) (fun hb => ?_)
    refine ev_aload_n dX11_finds_85 rfl ?_
    refine ev_getiv dX11_finds_86 fX11_242 hI.o hI.n rfl hf ?_
    refine ev_ifne 121 dX11_finds_89 (fun h_no => (by exfalso; omega)) (fun hb2 => ?_)
    refine ev_aload_n dX11_finds_92 rfl ?_
    refine ev_aload_n dX11_finds_93 rfl ?_
    refine ev_getrv dX11_finds_94 fX11_137 hI.o hI.n rfl hI.v_type ?_
    refine ev_iload_n dX11_finds_97 rfl ?_
    refine ev_ildv dX11_finds_98 hI.k_type hI.n_type rfl (by omega) (by omega) a2 ?_
    refine ev_cvi dX11_finds_99 lX11_297 (s_sizeN (t := a) hI hR a1 (by unfold ir; omega)) (by decide) hI.o hI.n rfl rfl rfl (Nat.le_of_ble_eq_true rfl) rfl (fun r h1 q => ?_)
    obtain ⟨rfl, k1, t1, g1⟩ := q
    have I1 : RI h1 := k1.ri hI
    rw [a3]
    refine ev_sipush dX11_finds_102 ?_
    by_cases c1 : 201 ≤ sz (S.2.1 k)
    · skip
      have z1 := szc_201.mpr c1
      have em : mxR S (m + 1) k = (10, (k : Int), -1, -1) := by rw [mxR, mxS, if_pos c1, if_neg (by omega)]
      refine ev_icmpne 115 dX11_finds_105 (fun h_no => (by exfalso; omega)) (fun hb3 => ?_)
      refine ev_aload_n dX11_finds_108 rfl ?_
      refine ev_bipush dX11_finds_109 ?_
      refine ev_iload_n dX11_finds_111 rfl ?_
      refine ev_cvv dX11_finds_112 lX11_281 (s_failsAt I1) (by decide) I1.o I1.n rfl rfl rfl (Nat.le_of_ble_eq_true rfl) rfl (fun h2 q => ?_)
      have k2 : KP h1 h2 [] [52, 53, 54, 55] := by rw [q]; exact (((KP.rf.pf (by decide)).pf (by decide)).pf (by decide)).pf (by decide)
      have I2 : RI h2 := k2.ri I1
      have f2 : h2.vl 42 52 = 10 := by rw [q]; rfl
      have n2 : h2.vl 42 36 = (L.length : Int) := by rw [k2.fl, k1.fl]; exact hn
      refine ev_iin2 dX11_finds_115 (by unfold ir; omega) ?_
      refine ev_gt 77 dX11_finds_118 ?_
      refine ev_mono (fin_out I2 f2 (by decide) n2) fun o h3 q3 => ?_
      obtain ⟨x, rfl, rfl, rfl⟩ := q3
      rw [em]
      refine ⟨_, rfl, (k1.wk (by decide) (by decide)).tr (k2.wk (by decide) (by decide)), by rw [k2.fl, t1]; omega, ⟨f2, fun _ => by rw [q]; exact ⟨rfl, rfl, rfl⟩, fun j => by rw [k2.fl, k2.vl]; exact g1.sn j⟩, rfl, fun z => absurd (show (10 : Int) = 0 from z) (by decide)⟩
    have z1 : ¬ szc (S.2.1 k) = 201 := fun z => c1 (szc_201.mp z)
    have S1 : RS h1 N aB S (fun k => k < L.length) Gn := ⟨T, g1, by rw [k1.vl (r := 84)]; exact s2, by rw [k1.vl (r := 85)]; exact s3, s4, s5⟩
    have T1 : NT h1 L := hT.kp k1
    have em : mxR S (m + 1) k = mxR S m (k + 1) := by rw [mxR, mxR, mxS, if_neg c1]
    refine ev_icmpne 115 dX11_finds_105 (fun hb3 => ?_) (fun h_no => (by exfalso; omega))
    refine ev_iin2 dX11_finds_115 (by unfold ir; omega) ?_
    refine ev_gt 77 dX11_finds_118 ?_
    rw [em]
    refine ev_mono (fin_sz m (k + 1) h1 (by omega) I1 T1 S1 (by rw [k1.fl]; exact hf) (by omega)) fun o h2 q => ?_
    obtain ⟨x, rfl, q1, q2, q3, q4, q5⟩ := q
    exact ⟨x, rfl, (k1.wk (by decide) (by decide)).tr q1, by omega, q3, q4, q5⟩
abbrev FnA : List Nat := [47, 48, 49, 50, 51, 52, 53, 54, 55, 56, 57, 58, 59, 60, 61, 62, 63, 64, 65, 66, 67, 68, 69, 70, 71, 72, 73, 74, 75, 76, 77, 81, 83, 84, 85, 86, 87]
abbrev FnF : List Nat := [34, 35, 36, 49, 50, 51, 52, 53, 54, 55, 68]
/-- what finding leaves behind -/
def FnQ (h : AH) (L : List Nd) (kp : Nat → Option TE) (x : Int) (h1 : AH) : Prop :=
  KP h h1 FnA FnF ∧ NT h1 L ∧ (h.vl 42 50 ≤ h1.vl 42 50 ∧ h1.vl 42 50 ≤ h.vl 42 50 + 206000) ∧ ∃ r S, fnR L kp r S ∧ FlQ h1 r ∧ x = (if r.1 = 0 then 1 else 0) ∧ (r.1 = 0 → ∃ N, N ≤ 12300 ∧ RS h1 N 6300 S (fun k => k < L.length) (fun _ => False))
set_option maxRecDepth 100000 in
theorem s_finds {h : AH} {l : Nat} {L : List Nd} {kp : Nat → Option TE} (hI : RI h) (hl : l < 6) (hL : LSn h l L) (hnd : ∀ x ∈ L, ndOK x) (hk : KpV (h.vl 43) kp) (hkp : ∀ c R, kp c = some R → ∀ x, 2 ≤ x → oc x R = true → x < 210) (hsn : ∀ k, h.vl 71 k ≤ h.vl 42 50) (hst : 0 ≤ h.vl 42 50 ∧ h.vl 42 50 + 206000 ≤ 2147483000) :
    CV mX11_finds 9 [rv 42, iv (l : Int)] h (oi (FnQ h L kp)) := by
  obtain ⟨nn, l1, l2, l3⟩ := id hL
  obtain ⟨T0, hs0⟩ := rd_sh (c := fun j => h.vl 43 (3 + 61 * l + 1 + j)) (n := nn) (by rw [l3])
  rw [l3] at hs0
  have hs0 : shT T0 L := hs0
  obtain ⟨T, hs, hT9⟩ := sh_ht hs0
  refine cv_of cdX11_finds ?_
  show EV _ _ 0 [rv 42, iv (l : Int), uv] [] h _
  refine ev_aload_n dX11_finds_0 rfl ?_
  refine ev_iload_n dX11_finds_1 rfl ?_
  refine ev_cvv dX11_finds_2 lX11_315 (s_nodesOf hI hl hL) (by decide) hI.o hI.n rfl rfl rfl (Nat.le_of_ble_eq_true rfl) rfl (fun h1 q => ?_)
  obtain ⟨k1, T1⟩ := q
  have hlen := T1.2.2.2
  have I1 : RI h1 := k1.ri hI
  have hlp : 0 < L.length := List.length_pos_iff.mpr T1.2.2.1
  refine ev_aload_n dX11_finds_5 rfl ?_
  refine ev_iconst dX11_finds_6 ?_
  refine ev_pt dX11_finds_7 fX11_213 I1.o I1.n rfl ?_
  refine ev_aload_n dX11_finds_10 rfl ?_
  refine ev_iconst dX11_finds_11 ?_
  refine ev_pt dX11_finds_12 fX11_242 I1.o I1.n rfl ?_
  refine ev_aload_n dX11_finds_15 rfl ?_
  refine ev_iconst dX11_finds_16 ?_
  refine ev_pt dX11_finds_17 fX11_268 I1.o I1.n rfl ?_
  obtain ⟨h2, e2⟩ : ∃ h2, h2 = ((h1.put 42 49 0).put 42 52 0).put 42 68 0 := ⟨_, rfl⟩
  rw [← e2]
  have k2 : KP h1 h2 [] [49, 52, 68] := by rw [e2]; exact ((KP.rf.pf (by decide)).pf (by decide)).pf (by decide)
  have I2 : RI h2 := k2.ri I1
  have w2 : WkS h2 [] := by rw [e2]; exact ⟨rfl, trivial⟩
  refine ev_aload_n dX11_finds_20 rfl ?_
  refine ev_iconst dX11_finds_21 ?_
  refine ev_iconst dX11_finds_22 ?_
  refine ev_cvv dX11_finds_23 lX11_306 (s_goesW (a := 0) (p := 0) I2 w2 (by decide)) (by decide) I2.o I2.n rfl rfl rfl (Nat.le_of_ble_eq_true rfl) rfl (fun h3 q => ?_)
  obtain ⟨k3, w3⟩ := q
  have I3 : RI h3 := k3.ri I2
  have K3 : KP h h3 FnA FnF := ((k1.wk (by decide) (by decide)).tr (k2.wk (by decide) (by decide))).tr (k3.wk (by decide) (by decide))
  have T3 : NT h3 L := (T1.kp k2).kp k3
  have s50 : h3.vl 42 50 = h.vl 42 50 := by rw [k3.fl, k2.fl, k1.fl]
  have s71 : ∀ k, h3.vl 71 k ≤ h3.vl 42 50 := fun k => by rw [s50, k3.vl, k2.vl, k1.vl]; exact hsn k
  have s49 : h3.vl 42 49 = 0 := by rw [k3.fl, e2]; rfl
  have s52 : h3.vl 42 52 = 0 := by rw [k3.fl, e2]; rfl
  have hk3 : KpV (h3.vl 43) kp := ((hk.kp k1).kp k2).kp k3
  have anc0 : ancN L 0 = [] := by
    unfold ancN
    rw [TBL_610 T1.2.2.1]
    rfl
  have env0 : ∀ k, k ∈ envN L 0 → False := fun k hk => by
    have := (env_mem.mp hk).1
    rw [anc0] at this
    exact absurd this List.not_mem_nil
  have nl9 := nlv_sh hs
  have wp9 : wPD L ≤ 12300 := by unfold wPD; omega
  have wa9 : wAD L ≤ 6300 := by unfold wAD; omega
  refine walk_tree I3 T3 hnd hk3 hkp T 130 [] L [] IS0 (fun _ => False) (fun _ => False) 0 0 [] h3 (by omega) (by rw [List.append_nil]; rfl) hs KP.rf (RS0 s49 s71 (by decide)) ?_ ?_ w3 s52 (by rw [List.length_nil]; omega) (by omega) (by omega) (by omega) (by omega) (fun h4 S' N' r i1 i2 K4 R4 nb W4 f52 f50 => ?_) (fun h4 S' r i1 i2 F4 K4 f50 => ?_)
  · intro b hb
    rw [show ([] : List Nd).length = 0 from rfl, anc0] at hb
    exact absurd hb List.not_mem_nil
  · refine ⟨fun k hk => False.elim (env0 k hk), fun b hb => ?_, fun x hx => Bool.noConfusion hx, Nat.le_refl _⟩
    rw [show ([] : List Nd).length = 0 from rfl, anc0] at hb
    exact absurd hb List.not_mem_nil
  · have I4 : RI h4 := K4.ri I3
    have w4 : h4.vl 42 68 = 0 := W4.1
    have R4' : RS h4 N' 6300 S' (fun k => k < L.length) (fun _ => False) := R4.wk (fun k hk => Or.inr ⟨Nat.zero_le _, by show k < 0 + L.length; omega⟩) (fun _ z => z) (by omega)
    refine ev_aload_n dX11_finds_26 rfl ?_
    refine ev_getiv dX11_finds_27 fX11_268 I4.o I4.n rfl w4 ?_
    refine ev_ifle 75 dX11_finds_30 (fun hb => ?_) (fun h_no => (by exfalso; omega))
    refine ev_iconst dX11_finds_75 ?_
    refine ev_ist2 dX11_finds_76 ?_
    refine ev_mono (fin_sz (k := 0) L.length h4 (by omega) I4 (T3.kp K4) R4' f52 (by omega)) fun o h5 q => ?_
    obtain ⟨x, rfl, q1, q2, q3, q4, q5⟩ := q
    exact ⟨x, rfl, (K3.tr (K4.wk (by decide) (by decide))).tr (q1.wk (by decide) (by decide)), (T3.kp K4).kp q1, by omega, mxR S' L.length 0, S', ⟨r, i1, fun z => absurd i2 z, fun _ => rfl⟩, q3, q4, fun z => ⟨N', by omega, q5 z⟩⟩
  · have I4 : RI h4 := K4.ri I3
    obtain ⟨ww, w4⟩ : ∃ ww, h4.vl 42 68 = ww := ⟨_, rfl⟩
    have f4 : h4.vl 42 52 = r.1 := F4.1
    have fin : EV mX11_finds 9 75 [rv 42, iv (l : Int), uv] [] h4 (oi (FnQ h L kp)) := by
      refine ev_iconst dX11_finds_75 ?_
      refine ev_ist2 dX11_finds_76 ?_
      refine ev_mono (fin_out I4 f4 i2 (T3.kp K4).2.1) fun o h5 q => ?_
      obtain ⟨x, rfl, rfl, rfl⟩ := q
      exact ⟨0, rfl, K3.tr (K4.wk (by decide) (by decide)), T3.kp K4, by omega, r, S', ⟨r, i1, fun _ => rfl, fun z => absurd z i2⟩, F4, by rw [if_neg i2], fun z => absurd z i2⟩
    refine ev_aload_n dX11_finds_26 rfl ?_
    refine ev_getiv dX11_finds_27 fX11_268 I4.o I4.n rfl w4 ?_
    by_cases c : ww ≤ 0
    · skip
      refine ev_ifle 75 dX11_finds_30 (fun hb => ?_) (fun h_no => (by exfalso; omega))
      exact fin
    refine ev_ifle 75 dX11_finds_30 (fun h_no => (by exfalso; omega)) (fun hb => ?_)
    refine ev_aload_n dX11_finds_33 rfl ?_
    refine ev_getiv dX11_finds_34 fX11_242 I4.o I4.n rfl f4 ?_
    refine ev_ifne 75 dX11_finds_37 (fun hb2 => ?_) (fun h_no => (by exfalso; omega))
    exact fin
