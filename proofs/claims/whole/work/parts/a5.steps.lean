/-! the reference's steps through a term -/
theorem RS.kp {h h1 : AH} {N aB : Nat} {S : IS} {Dn Gn : Nat → Prop} {A F : List Nat} (g : RS h N aB S Dn Gn) (k : KP h h1 A F) (hA : A.all (fun a => decide (a ∉ [66, 67, 68, 69, 70, 71, 84, 85])) = true := by decide) (hF : [49, 50].all (fun a => decide (a ∉ F)) = true := by decide) : RS h1 N aB S Dn Gn := by
  obtain ⟨T, g1, g2, g3, g4⟩ := g
  have e84 : h1.vl 84 = h.vl 84 := k.vl (by decide) (fun hm => of_decide_eq_true (List.all_eq_true.mp hA 84 hm) (by decide))
  have e85 : h1.vl 85 = h.vl 85 := k.vl (by decide) (fun hm => of_decide_eq_true (List.all_eq_true.mp hA 85 hm) (by decide))
  refine ⟨T, g1.kp' k (List.all_eq_true.mpr (fun a ha => decide_eq_true (fun z => of_decide_eq_true (List.all_eq_true.mp hA a ha) ?_))) hF, by rw [e84]; exact g2, by rw [e85]; exact g3, g4⟩
  simp only [List.mem_cons, List.not_mem_nil, or_false] at z ⊢
  omega
theorem RS.wk {h : AH} {N aB aB' : Nat} {S : IS} {Dn Gn Dn' Gn' : Nat → Prop} (g : RS h N aB S Dn Gn) (hD : ∀ k, Dn' k → Dn k) (hG : ∀ k, Gn' k → Gn k) (ha : aB ≤ aB' ∧ aB' ≤ 9800) : RS h N aB' S Dn' Gn' := by
  obtain ⟨T, g1, g2, g3, g4⟩ := g
  exact ⟨T, g1.nv (Nat.le_refl _) ha, fun k hk => g2 k (hD k hk), fun k hk => g3 k (hG k hk), g4⟩
theorem NT.kp {h h1 : AH} {L : List Nd} {A F : List Nat} (g : NT h L) (k : KP h h1 A F) (hA : A.all (fun a => decide (a ∉ [57, 58, 59, 60, 61, 62, 63])) = true := by decide) (hF : 36 ∉ F := by decide) : NT h1 L := by
  obtain ⟨g1, g2, g3⟩ := g
  refine ⟨fun c j h1' h2 hj => ?_, (k.fl hF).trans g2, g3⟩
  have : h1.vl c = h.vl c := k.vl (by omega) (fun hm => of_decide_eq_true (List.all_eq_true.mp hA c hm) (by simp only [List.mem_cons, List.not_mem_nil, or_false]; omega))
  rw [this]
  exact g1 c j h1' h2 hj
/-- what is still to be gone through -/
def WkA (h : AH) : List (Nat × Nat) → Prop
  | [] => True
  | x :: s => h.vl 86 s.length = (x.1 : Int) ∧ h.vl 87 s.length = (x.2 : Int) ∧ WkA h s
def WkS (h : AH) (st : List (Nat × Nat)) : Prop := h.vl 42 68 = (st.length : Int) ∧ WkA h st
theorem WkA.lo {h h1 : AH} : ∀ {st : List (Nat × Nat)}, (∀ i, i < st.length → h1.vl 86 i = h.vl 86 i ∧ h1.vl 87 i = h.vl 87 i) → WkA h st → WkA h1 st
  | [], _, _ => trivial
  | x :: s, hk, ⟨a, b, c⟩ => by
    have hl : s.length < (x :: s).length := Nat.lt_succ_self _
    exact ⟨(hk _ hl).1.trans a, (hk _ hl).2.trans b, WkA.lo (fun i hi => hk i (Nat.lt_trans hi hl)) c⟩
theorem WkS.kp {h h1 : AH} {st : List (Nat × Nat)} {A F : List Nat} (g : WkS h st) (k : KP h h1 A F) (hA : A.all (fun a => decide (a ∉ [86, 87])) = true := by decide) (hF : 68 ∉ F := by decide) : WkS h1 st := by
  have e86 : h1.vl 86 = h.vl 86 := k.vl (by decide) (fun hm => of_decide_eq_true (List.all_eq_true.mp hA 86 hm) (by decide))
  have e87 : h1.vl 87 = h.vl 87 := k.vl (by decide) (fun hm => of_decide_eq_true (List.all_eq_true.mp hA 87 hm) (by decide))
  exact ⟨(k.fl hF).trans g.1, g.2.lo (fun i _ => by rw [e86, e87]; exact ⟨rfl, rfl⟩)⟩
set_option maxRecDepth 100000 in
theorem s_goesW {h : AH} {st : List (Nat × Nat)} {a p : Nat} (hI : RI h) (hW : WkS h st) (hl : st.length < 400) : CV mX11_goes 1 [rv 42, iv (a : Int), iv (p : Int)] h (on fun h1 => KP h h1 [86, 87] [68] ∧ WkS h1 ((a, p) :: st)) := by
  have h68 := hW.1
  refine cv_mono (s_goes hI (by omega) (by omega)) fun o h1 q => ?_
  obtain ⟨rfl, rfl⟩ := q
  rw [h68, show ((st.length : Nat) : Int).toNat = st.length from rfl]
  refine ⟨rfl, ((KP.rf.pr (by decide) (by decide)).pr (by decide) (by decide)).pf (by decide), rfl, ?_, ?_, hW.2.lo (fun i hi => ?_)⟩
  · rw [AH.put_vl, if_neg (by omega), AH.put_vl, if_neg (by omega), AH.put_vl, if_pos ⟨rfl, rfl⟩]
  · rw [AH.put_vl, if_neg (by omega), AH.put_vl, if_pos ⟨rfl, rfl⟩]
  · rw [AH.put_vl, if_neg (by omega), AH.put_vl, if_neg (by omega), AH.put_vl, if_neg (by omega), AH.put_vl, if_neg (by omega), AH.put_vl, if_neg (by omega), AH.put_vl, if_neg (by omega)]
    exact ⟨rfl, rfl⟩
section StepsS
variable {h : AH} {N aB : Nat} {L : List Nd} {S : IS} {Dn Gn : Nat → Prop} {e : Nat} {st : List (Nat × Nat)}
set_option maxRecDepth 100000 in
theorem st_leaf {kp : Nat → Option TE} (hI : RI h) (hT : NT h L) (he : e < L.length) (hnd : ∀ x ∈ L, ndOK x) (h4 : TBL L 57 e < 4) (hS : RS h N aB S Dn Gn) (hsc : ScN L e 1 Dn Gn) (hP : PreL L S e 1) (hk : KpV (h.vl 43) kp) (hf : h.vl 42 52 = 0) (hN : N + 220 ≤ 20000) (haB : aB + 220 ≤ 9800) (hst0 : 0 ≤ h.vl 42 50) (hst9 : h.vl 42 50 + 1 ≤ 2147483000) {p : Int} :
    CV mX11_steps 8 [rv 42, iv (e : Int), iv p] h (on fun h1 => ∃ (r : IR) (S' : IS) (N' : Nat), lfR L kp e S r S' ∧ FlQ h1 r ∧ KP h h1 TyA TyF ∧ (h.vl 42 50 ≤ h1.vl 42 50 ∧ h1.vl 42 50 ≤ h.vl 42 50 + 1) ∧ (r.1 = 0 → (N ≤ N' ∧ N' ≤ N + 200) ∧ RS h1 N' (aB + 100) S' (fun k => Dn k ∨ k = e) Gn)) := by
  have d57 : h.vl 57 e = TBL L 57 e := hT.1 57 e (by decide) (by decide) (Or.inl he)
  have hlen := hT.2.2.2
  refine cv_of cdX11_steps ?_
  show EV _ _ 0 [rv 42, iv (e : Int), iv p] [] h _
  refine ev_aload_n dX11_steps_0 rfl ?_
  refine ev_getrv dX11_steps_1 fX11_56 hI.o hI.n rfl hI.v_kind ?_
  refine ev_iload_n dX11_steps_4 rfl ?_
  refine ev_ildv dX11_steps_5 hI.k_kind hI.n_kind rfl (by omega) (by omega) d57 ?_
  refine ev_iconst dX11_steps_6 ?_
  refine ev_icmpge 18 dX11_steps_7 (fun h_no => (by exfalso; omega)) (fun hb => ?_)
  refine ev_aload_n dX11_steps_10 rfl ?_
  refine ev_iload_n dX11_steps_11 rfl ?_
  refine ev_cvv dX11_steps_12 lX11_303 (s_leafN hI hT he hnd h4 hS hsc hP hk hf hN haB hst0 hst9) (by decide) hI.o hI.n rfl rfl rfl (Nat.le_of_ble_eq_true rfl) rfl (fun h1 q => ?_)
  refine ev_gt 221 dX11_steps_15 ?_
  exact ev_vret dX11_steps_221 (⟨rfl, q⟩)
set_option maxRecDepth 100000 in
theorem st_f0 (hI : RI h) (hT : NT h L) (he : e < L.length) (h4 : TBL L 57 e = 4) (h59 : 0 ≤ TBL L 59 e) (hS : RS h N aB S Dn Gn) (hW : WkS h st) (hl : st.length < 390) (hN : N + 220 ≤ 20000) :
    CV mX11_steps 8 [rv 42, iv (e : Int), iv 0] h (on fun h1 => KP h h1 [66, 67, 68, 69, 70, 85, 86, 87] [49, 68] ∧ RS h1 (N + 1) aB (S.1 + 1, S.2.1, upT S.2.2.1 e (.var S.1), S.2.2.2) Dn (fun k => Gn k ∨ k = e) ∧ WkS h1 ((fstN L e, 0) :: (e, 1) :: st)) := by
  have hlen := hT.2.2.2
  have d57 : h.vl 57 e = TBL L 57 e := hT.1 57 e (by decide) (by decide) (Or.inl he)
  have d59 : h.vl 59 e = ((fstN L e : Nat) : Int) := by rw [hT.1 59 e (by decide) (by decide) (Or.inl he)]; unfold fstN; omega
  obtain ⟨T, hR, s2, s3, s4, s5⟩ := hS
  have gnf : S.2.2.2 S.1 = false := by
    cases hz : S.2.2.2 S.1 with
    | false => rfl
    | true => have := s4 _ hz; omega
  refine cv_of cdX11_steps ?_
  show EV _ _ 0 [rv 42, iv (e : Int), iv 0] [] h _
  refine ev_aload_n dX11_steps_0 rfl ?_
  refine ev_getrv dX11_steps_1 fX11_56 hI.o hI.n rfl hI.v_kind ?_
  refine ev_iload_n dX11_steps_4 rfl ?_
  refine ev_ildv dX11_steps_5 hI.k_kind hI.n_kind rfl (by omega) (by omega) d57 ?_
  refine ev_iconst dX11_steps_6 ?_
  refine ev_icmpge 18 dX11_steps_7 (fun hb => ?_) (fun h_no => (by exfalso; omega))
  refine ev_iload_n dX11_steps_18 rfl ?_
  refine ev_ifne 84 dX11_steps_19 (fun h_no => (by exfalso; omega)) (fun hb2 => ?_)
  refine ev_aload_n dX11_steps_22 rfl ?_
  refine ev_getrv dX11_steps_23 fX11_56 hI.o hI.n rfl hI.v_kind ?_
  refine ev_iload_n dX11_steps_26 rfl ?_
  refine ev_ildv dX11_steps_27 hI.k_kind hI.n_kind rfl (by omega) (by omega) d57 ?_
  refine ev_iconst dX11_steps_28 ?_
  refine ev_icmpne 42 dX11_steps_29 (fun h_no => (by exfalso; omega)) (fun hb3 => ?_)
  refine ev_aload_n dX11_steps_32 rfl ?_
  refine ev_getrv dX11_steps_33 fX11_140 hI.o hI.n rfl hI.v_own ?_
  refine ev_iload_n dX11_steps_36 rfl ?_
  refine ev_aload_n dX11_steps_37 rfl ?_
  refine ev_cvi dX11_steps_38 lX11_239 (s_freshN hI hR (by omega) s5 gnf) (by decide) hI.o hI.n rfl rfl rfl (Nat.le_of_ble_eq_true rfl) rfl (fun r h1 q => ?_)
  obtain ⟨rfl, k1, g1⟩ := q
  have I1 : RI h1 := k1.ri hI
  refine ev_istr dX11_steps_41 I1.k_own I1.n_own rfl (by omega) (by omega) ?_
  rw [show ((e : Nat) : Int).toNat = e from rfl]
  obtain ⟨h2, e2⟩ : ∃ h2, h2 = h1.put 85 e (N : Int) := ⟨_, rfl⟩
  rw [← e2]
  have k2 : KP h1 h2 [85] [] := by rw [e2]; exact KP.rf.pr (by decide) (by decide)
  have I2 : RI h2 := k2.ri I1
  have v85 : ∀ j, h2.vl 85 j = if j = e then (N : Int) else h.vl 85 j := fun j => by
    rw [e2, AH.put_vl]
    by_cases z : j = e
    · rw [if_pos ⟨rfl, z⟩, if_pos z]
    · rw [if_neg (fun w => z w.2), if_neg z, congrFun k1.vl j]
  have R2 : RS h2 (N + 1) aB (S.1 + 1, S.2.1, upT S.2.2.1 e (.var S.1), S.2.2.2) Dn (fun k => Gn k ∨ k = e) := by
    refine ⟨_, g1.kp' k2, fun k hk => ?_, fun k hk => ?_, fun x hx => by have := s4 x hx; show x < S.1 + 1; omega, by show 2 ≤ S.1 + 1; omega⟩
    · obtain ⟨a, c, c1, c2, c3⟩ := s2 k hk
      exact ⟨a, c, by omega, by rw [k2.vl, k1.vl]; exact c2, by rw [upT_n (by omega)]; exact c3⟩
    · rw [v85]
      by_cases z : k = e
      · rw [if_pos z, z]
        exact ⟨by omega, N, by omega, rfl, by rw [upT_s]; exact upT_s.symm⟩
      · rw [if_neg z]
        obtain ⟨a, c, c1, c2, c3⟩ := s3 k (hk.resolve_right z)
        exact ⟨a, c, by omega, c2, by rw [upT_n (by omega), c3]; exact (upT_n z).symm⟩
  have W2 : WkS h2 st := (hW.kp k1).kp k2
  have T2 : NT h2 L := (hT.kp k1).kp k2
  refine ev_aload_n dX11_steps_42 rfl ?_
  refine ev_iload_n dX11_steps_43 rfl ?_
  refine ev_iconst dX11_steps_44 ?_
  refine ev_cvv dX11_steps_45 lX11_306 (s_goesW (a := e) (p := 1) I2 W2 (by omega)) (by decide) I2.o I2.n rfl rfl rfl (Nat.le_of_ble_eq_true rfl) rfl (fun h3 q => ?_)
  obtain ⟨k3, W3⟩ := q
  have I3 : RI h3 := k3.ri I2
  have e57 : h3.vl 57 e = TBL L 57 e := (T2.kp k3).1 57 e (by decide) (by decide) (Or.inl he)
  have e59 : h3.vl 59 e = ((fstN L e : Nat) : Int) := by rw [congrFun k3.vl e, congrFun k2.vl e, congrFun k1.vl e]; exact d59
  refine ev_aload_n dX11_steps_48 rfl ?_
  refine ev_getrv dX11_steps_49 fX11_56 I3.o I3.n rfl I3.v_kind ?_
  refine ev_iload_n dX11_steps_52 rfl ?_
  refine ev_ildv dX11_steps_53 I3.k_kind I3.n_kind rfl (by omega) (by omega) e57 ?_
  refine ev_bipush dX11_steps_54 ?_
  refine ev_icmpne 70 dX11_steps_56 (fun hb4 => ?_) (fun h_no => (by exfalso; omega))
  refine ev_aload_n dX11_steps_70 rfl ?_
  refine ev_aload_n dX11_steps_71 rfl ?_
  refine ev_getrv dX11_steps_72 fX11_62 I3.o I3.n rfl I3.v_first ?_
  refine ev_iload_n dX11_steps_75 rfl ?_
  refine ev_ildv dX11_steps_76 I3.k_first I3.n_first rfl (by omega) (by omega) e59 ?_
  refine ev_iconst dX11_steps_77 ?_
  refine ev_cvv dX11_steps_78 lX11_306 (s_goesW (a := fstN L e) (p := 0) I3 W3 (by rw [List.length_cons]; omega)) (by decide) I3.o I3.n rfl rfl rfl (Nat.le_of_ble_eq_true rfl) rfl (fun h4 q => ?_)
  obtain ⟨k4, W4⟩ := q
  refine ev_gt 221 dX11_steps_81 ?_
  exact ev_vret dX11_steps_221 (⟨rfl, ((k1.wk (by decide) (by decide)).tr (k2.wk (by decide) (by decide))).tr ((k3.wk (by decide) (by decide)).tr (k4.wk (by decide) (by decide))), (R2.kp k3).kp k4, W4⟩)
set_option maxRecDepth 100000 in
theorem st_b0 (hI : RI h) (hT : NT h L) (he : e < L.length) (h4 : TBL L 57 e = 5 ∨ TBL L 57 e = 6) (h59 : 0 ≤ TBL L 59 e) (h60 : 0 ≤ TBL L 60 e) (hS : RS h N aB S Dn Gn) (hW : WkS h st) (hl : st.length < 390) :
    CV mX11_steps 8 [rv 42, iv (e : Int), iv 0] h (on fun h1 => KP h h1 [86, 87] [68] ∧ RS h1 N aB S Dn Gn ∧ WkS h1 ((fstN L e, 0) :: ((if TBL L 57 e = 6 then [(sndN L e, 0)] else []) ++ (e, 1) :: st))) := by
  have hlen := hT.2.2.2
  have d57 : h.vl 57 e = TBL L 57 e := hT.1 57 e (by decide) (by decide) (Or.inl he)
  have d59 : h.vl 59 e = ((fstN L e : Nat) : Int) := by rw [hT.1 59 e (by decide) (by decide) (Or.inl he)]; unfold fstN; omega
  have d60 : h.vl 60 e = ((sndN L e : Nat) : Int) := by rw [hT.1 60 e (by decide) (by decide) (Or.inl he)]; unfold sndN; omega
  refine cv_of cdX11_steps ?_
  show EV _ _ 0 [rv 42, iv (e : Int), iv 0] [] h _
  refine ev_aload_n dX11_steps_0 rfl ?_
  refine ev_getrv dX11_steps_1 fX11_56 hI.o hI.n rfl hI.v_kind ?_
  refine ev_iload_n dX11_steps_4 rfl ?_
  refine ev_ildv dX11_steps_5 hI.k_kind hI.n_kind rfl (by omega) (by omega) d57 ?_
  refine ev_iconst dX11_steps_6 ?_
  refine ev_icmpge 18 dX11_steps_7 (fun hb => ?_) (fun h_no => (by exfalso; omega))
  refine ev_iload_n dX11_steps_18 rfl ?_
  refine ev_ifne 84 dX11_steps_19 (fun h_no => (by exfalso; omega)) (fun hb2 => ?_)
  refine ev_aload_n dX11_steps_22 rfl ?_
  refine ev_getrv dX11_steps_23 fX11_56 hI.o hI.n rfl hI.v_kind ?_
  refine ev_iload_n dX11_steps_26 rfl ?_
  refine ev_ildv dX11_steps_27 hI.k_kind hI.n_kind rfl (by omega) (by omega) d57 ?_
  refine ev_iconst dX11_steps_28 ?_
  refine ev_icmpne 42 dX11_steps_29 (fun hb3 => ?_) (fun h_no => (by exfalso; omega))
  refine ev_aload_n dX11_steps_42 rfl ?_
  refine ev_iload_n dX11_steps_43 rfl ?_
  refine ev_iconst dX11_steps_44 ?_
  refine ev_cvv dX11_steps_45 lX11_306 (s_goesW (a := e) (p := 1) hI hW (by omega)) (by decide) hI.o hI.n rfl rfl rfl (Nat.le_of_ble_eq_true rfl) rfl (fun h3 q => ?_)
  obtain ⟨k3, W3⟩ := q
  have I3 : RI h3 := k3.ri hI
  have e57 : h3.vl 57 e = TBL L 57 e := (hT.kp k3).1 57 e (by decide) (by decide) (Or.inl he)
  have e59 : h3.vl 59 e = ((fstN L e : Nat) : Int) := by rw [congrFun k3.vl e]; exact d59
  have e60 : h3.vl 60 e = ((sndN L e : Nat) : Int) := by rw [congrFun k3.vl e]; exact d60
  refine ev_aload_n dX11_steps_48 rfl ?_
  refine ev_getrv dX11_steps_49 fX11_56 I3.o I3.n rfl I3.v_kind ?_
  refine ev_iload_n dX11_steps_52 rfl ?_
  refine ev_ildv dX11_steps_53 I3.k_kind I3.n_kind rfl (by omega) (by omega) e57 ?_
  refine ev_bipush dX11_steps_54 ?_
  by_cases c6 : TBL L 57 e = 6
  · skip
    rw [if_pos c6]
    refine ev_icmpne 70 dX11_steps_56 (fun h_no => (by exfalso; omega)) (fun hb4 => ?_)
    refine ev_aload_n dX11_steps_59 rfl ?_
    refine ev_aload_n dX11_steps_60 rfl ?_
    refine ev_getrv dX11_steps_61 fX11_65 I3.o I3.n rfl I3.v_second ?_
    refine ev_iload_n dX11_steps_64 rfl ?_
    refine ev_ildv dX11_steps_65 I3.k_second I3.n_second rfl (by omega) (by omega) e60 ?_
    refine ev_iconst dX11_steps_66 ?_
    refine ev_cvv dX11_steps_67 lX11_306 (s_goesW (a := sndN L e) (p := 0) I3 W3 (by rw [List.length_cons]; omega)) (by decide) I3.o I3.n rfl rfl rfl (Nat.le_of_ble_eq_true rfl) rfl (fun h4 q => ?_)
    obtain ⟨k4, W4⟩ := q
    have I4 : RI h4 := k4.ri I3
    have f59 : h4.vl 59 e = ((fstN L e : Nat) : Int) := by rw [congrFun k4.vl e]; exact e59
    refine ev_aload_n dX11_steps_70 rfl ?_
    refine ev_aload_n dX11_steps_71 rfl ?_
    refine ev_getrv dX11_steps_72 fX11_62 I4.o I4.n rfl I4.v_first ?_
    refine ev_iload_n dX11_steps_75 rfl ?_
    refine ev_ildv dX11_steps_76 I4.k_first I4.n_first rfl (by omega) (by omega) f59 ?_
    refine ev_iconst dX11_steps_77 ?_
    refine ev_cvv dX11_steps_78 lX11_306 (s_goesW (a := fstN L e) (p := 0) I4 W4 (by rw [List.length_cons, List.length_cons]; omega)) (by decide) I4.o I4.n rfl rfl rfl (Nat.le_of_ble_eq_true rfl) rfl (fun h5 q => ?_)
    obtain ⟨k5, W5⟩ := q
    refine ev_gt 221 dX11_steps_81 ?_
    exact ev_vret dX11_steps_221 (⟨rfl, (k3.tr k4).tr k5, ((hS.kp k3).kp k4).kp k5, W5⟩)
  rw [if_neg c6]
  refine ev_icmpne 70 dX11_steps_56 (fun hb4 => ?_) (fun h_no => (by exfalso; omega))
  refine ev_aload_n dX11_steps_70 rfl ?_
  refine ev_aload_n dX11_steps_71 rfl ?_
  refine ev_getrv dX11_steps_72 fX11_62 I3.o I3.n rfl I3.v_first ?_
  refine ev_iload_n dX11_steps_75 rfl ?_
  refine ev_ildv dX11_steps_76 I3.k_first I3.n_first rfl (by omega) (by omega) e59 ?_
  refine ev_iconst dX11_steps_77 ?_
  refine ev_cvv dX11_steps_78 lX11_306 (s_goesW (a := fstN L e) (p := 0) I3 W3 (by rw [List.length_cons]; omega)) (by decide) I3.o I3.n rfl rfl rfl (Nat.le_of_ble_eq_true rfl) rfl (fun h5 q => ?_)
  obtain ⟨k5, W5⟩ := q
  refine ev_gt 221 dX11_steps_81 ?_
  exact ev_vret dX11_steps_221 (⟨rfl, k3.tr k5, (hS.kp k3).kp k5, W5⟩)
set_option maxRecDepth 100000 in
theorem st_f1 (hI : RI h) (hT : NT h L) (he : e < L.length) (h4 : TBL L 57 e = 4) (h59 : 0 ≤ TBL L 59 e) (hS : RS h N aB S Dn Gn) (hd : Dn (fstN L e)) (hg : Gn e) (hN : N + 10 ≤ 20000) (haB : aB + 1 ≤ 9800) :
    CV mX11_steps 8 [rv 42, iv (e : Int), iv 1] h (on fun h1 => KP h h1 [66, 67, 68, 69, 70, 84] [49] ∧ RS h1 (N + 1) (aB + 1) (isF S e (.op (S.2.2.1 e) (S.2.1 (fstN L e))) S.1) (fun k => Dn k ∨ k = e) Gn) := by
  have hlen := hT.2.2.2
  have d57 : h.vl 57 e = TBL L 57 e := hT.1 57 e (by decide) (by decide) (Or.inl he)
  have d59 : h.vl 59 e = ((fstN L e : Nat) : Int) := by rw [hT.1 59 e (by decide) (by decide) (Or.inl he)]; unfold fstN; omega
  obtain ⟨T, hR, s2, s3, s4, s5⟩ := hS
  obtain ⟨fl, a, a1, a2, a3⟩ := s2 _ hd
  obtain ⟨-, b, b1, b2, b3⟩ := s3 _ hg
  refine cv_of cdX11_steps ?_
  show EV _ _ 0 [rv 42, iv (e : Int), iv 1] [] h _
  refine ev_aload_n dX11_steps_0 rfl ?_
  refine ev_getrv dX11_steps_1 fX11_56 hI.o hI.n rfl hI.v_kind ?_
  refine ev_iload_n dX11_steps_4 rfl ?_
  refine ev_ildv dX11_steps_5 hI.k_kind hI.n_kind rfl (by omega) (by omega) d57 ?_
  refine ev_iconst dX11_steps_6 ?_
  refine ev_icmpge 18 dX11_steps_7 (fun hb => ?_) (fun h_no => (by exfalso; omega))
  refine ev_iload_n dX11_steps_18 rfl ?_
  refine ev_ifne 84 dX11_steps_19 (fun hb2 => ?_) (fun h_no => (by exfalso; omega))
  refine ev_aload_n dX11_steps_84 rfl ?_
  refine ev_getrv dX11_steps_85 fX11_56 hI.o hI.n rfl hI.v_kind ?_
  refine ev_iload_n dX11_steps_88 rfl ?_
  refine ev_ildv dX11_steps_89 hI.k_kind hI.n_kind rfl (by omega) (by omega) d57 ?_
  refine ev_iconst dX11_steps_90 ?_
  refine ev_icmpne 124 dX11_steps_91 (fun h_no => (by exfalso; omega)) (fun hb3 => ?_)
  refine ev_aload_n dX11_steps_94 rfl ?_
  refine ev_getrv dX11_steps_95 fX11_137 hI.o hI.n rfl hI.v_type ?_
  refine ev_iload_n dX11_steps_98 rfl ?_
  refine ev_aload_n dX11_steps_99 rfl ?_
  refine ev_aload_n dX11_steps_100 rfl ?_
  refine ev_getrv dX11_steps_101 fX11_140 hI.o hI.n rfl hI.v_own ?_
  refine ev_iload_n dX11_steps_104 rfl ?_
  refine ev_ildv dX11_steps_105 hI.k_own hI.n_own rfl (by omega) (by omega) b2 ?_
  refine ev_aload_n dX11_steps_106 rfl ?_
  refine ev_getrv dX11_steps_107 fX11_137 hI.o hI.n rfl hI.v_type ?_
  refine ev_aload_n dX11_steps_110 rfl ?_
  refine ev_getrv dX11_steps_111 fX11_62 hI.o hI.n rfl hI.v_first ?_
  refine ev_iload_n dX11_steps_114 rfl ?_
  refine ev_ildv dX11_steps_115 hI.k_first hI.n_first rfl (by omega) (by omega) d59 ?_
  refine ev_ildv dX11_steps_116 hI.k_type hI.n_type rfl (by omega) (by omega) a2 ?_
  refine ev_cvi dX11_steps_117 lX11_271 (s_arrowN (a := b) (b := a) hI hR (by omega) b1 a1 haB) (by decide) hI.o hI.n rfl rfl rfl (Nat.le_of_ble_eq_true rfl) rfl (fun r h1 q => ?_)
  obtain ⟨rfl, k1, g1⟩ := q
  have I1 : RI h1 := k1.ri hI
  refine ev_istr dX11_steps_120 I1.k_type I1.n_type rfl (by omega) (by omega) ?_
  rw [show ((e : Nat) : Int).toNat = e from rfl]
  refine ev_gt 221 dX11_steps_121 ?_
  exact ev_vret dX11_steps_221 (⟨rfl, (k1.wk (by decide) (by decide)).pr (by decide) (by decide), RS_put s2 s3 s4 s5 k1 (by decide) (by decide) g1 (by omega) (fun k hk => upT_n (by omega)) (Nat.le_refl _) (by omega) (by omega) (by rw [upT_s, a3, b3])⟩)
set_option maxRecDepth 100000 in
theorem st_a1 (hI : RI h) (hT : NT h L) (he : e < L.length) (h4 : TBL L 57 e = 6) (h59 : 0 ≤ TBL L 59 e) (h60 : 0 ≤ TBL L 60 e) (hS : RS h N aB S Dn Gn) (hd1 : Dn (fstN L e)) (hd2 : Dn (sndN L e)) (hne : fstN L e ≠ e ∧ sndN L e ≠ e) (hf : h.vl 42 52 = 0) (hN : N + 10 ≤ 20000) (haB : aB + 10 ≤ 9800) (hst0 : 0 ≤ h.vl 42 50) (hst9 : h.vl 42 50 + 1700 ≤ 2147483000) :
    CV mX11_steps 8 [rv 42, iv (e : Int), iv 1] h (on fun h1 => ∃ (r : IR) (S' : IS), apR S L e r S' ∧ FlQ h1 r ∧ KP h h1 TyA TyF ∧ (h.vl 42 50 ≤ h1.vl 42 50 ∧ h1.vl 42 50 ≤ h.vl 42 50 + 1700) ∧ (r.1 = 0 → RS h1 (N + 2) (aB + 1) S' (fun k => Dn k ∨ k = e) Gn)) := by
  have hlen := hT.2.2.2
  have d57 : h.vl 57 e = TBL L 57 e := hT.1 57 e (by decide) (by decide) (Or.inl he)
  refine cv_of cdX11_steps ?_
  show EV _ _ 0 [rv 42, iv (e : Int), iv 1] [] h _
  refine ev_aload_n dX11_steps_0 rfl ?_
  refine ev_getrv dX11_steps_1 fX11_56 hI.o hI.n rfl hI.v_kind ?_
  refine ev_iload_n dX11_steps_4 rfl ?_
  refine ev_ildv dX11_steps_5 hI.k_kind hI.n_kind rfl (by omega) (by omega) d57 ?_
  refine ev_iconst dX11_steps_6 ?_
  refine ev_icmpge 18 dX11_steps_7 (fun hb => ?_) (fun h_no => (by exfalso; omega))
  refine ev_iload_n dX11_steps_18 rfl ?_
  refine ev_ifne 84 dX11_steps_19 (fun hb2 => ?_) (fun h_no => (by exfalso; omega))
  refine ev_aload_n dX11_steps_84 rfl ?_
  refine ev_getrv dX11_steps_85 fX11_56 hI.o hI.n rfl hI.v_kind ?_
  refine ev_iload_n dX11_steps_88 rfl ?_
  refine ev_ildv dX11_steps_89 hI.k_kind hI.n_kind rfl (by omega) (by omega) d57 ?_
  refine ev_iconst dX11_steps_90 ?_
  refine ev_icmpne 124 dX11_steps_91 (fun hb3 => ?_) (fun h_no => (by exfalso; omega))
  refine ev_aload_n dX11_steps_124 rfl ?_
  refine ev_getrv dX11_steps_125 fX11_56 hI.o hI.n rfl hI.v_kind ?_
  refine ev_iload_n dX11_steps_128 rfl ?_
  refine ev_ildv dX11_steps_129 hI.k_kind hI.n_kind rfl (by omega) (by omega) d57 ?_
  refine ev_bipush dX11_steps_130 ?_
  refine ev_icmpne 143 dX11_steps_132 (fun h_no => (by exfalso; omega)) (fun hb4 => ?_)
  refine ev_aload_n dX11_steps_135 rfl ?_
  refine ev_iload_n dX11_steps_136 rfl ?_
  refine ev_cvv dX11_steps_137 lX11_309 (s_appliesN hI hT he h59 h60 hS hd1 hd2 hne hf hN haB hst0 hst9) (by decide) hI.o hI.n rfl rfl rfl (Nat.le_of_ble_eq_true rfl) rfl (fun h1 q => ?_)
  refine ev_gt 221 dX11_steps_140 ?_
  exact ev_vret dX11_steps_221 (⟨rfl, q⟩)
end StepsS
