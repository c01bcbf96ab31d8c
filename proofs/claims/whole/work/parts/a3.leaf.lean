/-! the reference finds the type of a leaf -/
section EvCallSW
variable {M : MD} {d pc : Nat} {L S : List AV} {h : AH} {Q : AV → AH → Prop}
theorem ev_callsW {idx n : Nat} {as st : List AV} {M' : MD} {d' : Nat} {Q1 : AV → AH → Prop} (hd : decode M.cc pc = .ok (.invokestatic idx, 3)) (lk : LKS M.y.cls idx M' n) (hc : CV M' d' as h Q1) (hdd : d' < d) (hst : st = as.reverse ++ S) (hn : as.length = n) (hS : S.length ≤ 8) (hS1 : S.all (fun v => v.1 != 2 && v.1 != 4) = true) (hh : M.hh = [])
    (k : ∀ o h1, Q1 o h1 → (o.1 = 7 → Q o h1) ∧ (o.1 ≠ 7 → EV M d (pc + 3) L (pu o S) h1 Q)) (h7 : (∀ o h1, Q1 o h1 → o.1 ≠ 7) ∨ Cond.methodLink M.y.cls idx M'.y ∈ gw) : EV M d pc L st h Q := by
  obtain ⟨hM, hml', hnp, hstt, hlk⟩ := lk
  refine ev_call hc hst hh k ?_
  intro p l e R s m args below meth c D base scr φ cA H locs ls cells slots o h1 C P hl ct q1 hcl hsl
  refine ⟨(as.map (av_c φ)).toArray, ?_⟩
  have C0 := C
  obtain ⟨hx, hb, hr, hml, hown, hts, hlo', htr, htb, hnm, hK, hbs, hG, hf, hlo⟩ := C
  have hMt := ct.2 l D base scr φ cA htr
  have hpre : PreS s H (PCc D base scr φ cA as h) (as.map (av_c φ)) := ⟨pc_blind, fun U hU hW => pc_at C0 P hU hW⟩
  subst hst
  by_cases hg : Cond.methodLink M.y.cls idx M'.y ∈ gw
  · exact vx_runS (cc := M.cc) (As := as.map (av_c φ)) ⟨hx, hb, hml, hown, hts⟩ hMt ⟨callB_of n hts (gw_good hM) rfl rfl rfl (hts _ hM.2.1) (hts _ hg) ⟨hM.2.2.2.1.1, hM.2.2.2.1.2, hnp⟩ ⟨by show d' + 8 + 1 ≤ R.frames; omega, by show 8 + (M'.ml + 11) + (64 * d' + 200) ≤ R.locals; omega⟩, hts _ hstt⟩ hpre rfl (by rw [List.length_map]; exact hn) hl.1 st_c (st_w1 hS hS1) hd ⟨hcl, hsl⟩
  · obtain ⟨host, hng⟩ := hlk.resolve_left hg
    have h7' := h7.resolve_right hg
    exact vx_of_va (va_runSN (cc := M.cc) (As := as.map (av_c φ)) ⟨hx, hb, hml, hown, hts⟩ (met_of hMt (fun E s t hXC => by obtain ⟨_, _, _, h8, _⟩ := hXC; exact h7' _ _ q1 h8)) ⟨va_cnB n hts (gw_good hM) rfl rfl rfl (hG.2.2.1 _ hng rfl) (hts _ hM.2.1) ⟨hM.2.2.2.1.1, hM.2.2.2.1.2, hnp⟩ ⟨by show d' + 8 + 1 ≤ R.frames; omega, by show 8 + (M'.ml + 11) + (64 * d' + 200) ≤ R.locals; omega⟩, hts _ hstt, trivial⟩ hpre rfl (by rw [List.length_map]; exact hn) hl.1 st_c (st_w1 hS hS1) hd ⟨hcl, hsl⟩)
theorem ev_csiW {idx n : Nat} {as st : List AV} {M' : MD} {d' : Nat} {P : Int → AH → Prop} (hd : decode M.cc pc = .ok (.invokestatic idx, 3)) (lk : LKS M.y.cls idx M' n) (hc : CV M' d' as h (oi P)) (hdd : d' < d) (hst : st = as.reverse ++ S) (hl : as.length = n) (hS : S.length ≤ 8) (hS1 : S.all (fun v => v.1 != 2 && v.1 != 4) = true) (hh : M.hh = [])
    (k : ∀ x h1, P x h1 → EV M d (pc + 3) L (iv x :: S) h1 Q) : EV M d pc L st h Q := by
  refine ev_callsW hd lk hc hdd hst hl hS hS1 hh (fun o h1 q => ?_) (Or.inl fun o h1 q => ?_)
  · obtain ⟨x, rfl, q⟩ := q
    exact ⟨fun e => absurd (show (0 : Nat) = 7 from e) (by decide), fun _ => k x h1 q⟩
  · obtain ⟨x, rfl, q⟩ := q
    exact fun e => absurd (show (0 : Nat) = 7 from e) (by decide)
end EvCallSW
theorem RN.nv {h : AH} {N aB nv nv' aB' : Nat} {gn : Nat → Bool} {T : Nat → TE} (g : RN h N aB nv gn T) (hv : nv ≤ nv') (ha : aB ≤ aB' ∧ aB' ≤ 9800) : RN h N aB' nv' gn T := by
  obtain ⟨rr, tr, τ, ⟨g1, g2, g3, g4, g5, g6⟩, g7⟩ := g
  exact ⟨rr, tr, τ, ⟨⟨g1.1, g1.2.1, g1.2.2.1, g1.2.2.2.1, fun u hu h3 => by have := g1.2.2.2.2 u hu h3; omega⟩, g2, g3, g4, by omega, g6⟩, g7⟩
set_option maxRecDepth 100000 in
theorem s_signN {h : AH} {N aB nv : Nat} {gn : Nat → Bool} {T : Nat → TE} {c : Int} (hI : RI h) (g : RN h N aB nv gn T) (hc : c = 43 ∨ c = 60 ∨ c = 63) (hN : N + 10 ≤ 20000) (haB : aB + 10 ≤ 9800) (hnv : 2 ≤ nv) (hgn : gn nv = false) : CV mX11_signType 3 [rv 42, iv c] h (oi fun r h1 => ∃ (d M : Nat) (T2 : Nat → TE), r = (d : Int) ∧ d < M ∧ (N ≤ M ∧ M ≤ N + 10) ∧ KP h h1 [66, 67, 68, 69, 70] [49] ∧ RN h1 M (aB + 10) (nv + 1) gn T2 ∧ (∀ k, k < N → T2 k = T k) ∧ T2 d = sgT c nv) := by
  refine cv_of cdX11_signType ?_
  show EV _ _ 0 [rv 42, iv c, uv, uv] [] h _
  refine ev_iload_n dX11_signType_0 rfl ?_
  refine ev_bipush dX11_signType_1 ?_
  by_cases q : c = 63
  · skip
    refine ev_icmpne 13 dX11_signType_3 (fun h_no => (by exfalso; omega)) (fun hb => ?_)
    refine ev_aload_n dX11_signType_6 rfl ?_
    refine ev_cvi dX11_signType_7 lX11_239 (s_freshN hI g (by omega) hnv hgn) (by decide) hI.o hI.n rfl rfl rfl (Nat.le_of_ble_eq_true rfl) rfl (fun r h1 q1 => ?_)
    obtain ⟨rfl, k1, g1⟩ := q1
    have I1 : RI h1 := k1.ri hI
    refine ev_gt 20 dX11_signType_10 ?_
    refine ev_ist2 dX11_signType_20 ?_
    refine ev_iload_n dX11_signType_21 rfl ?_
    refine ev_bipush dX11_signType_22 ?_
    refine ev_icmpne 31 dX11_signType_24 (fun h_no => (by exfalso; omega)) (fun hb2 => ?_)
    refine ev_iload_n dX11_signType_27 rfl ?_
    refine ev_gt 48 dX11_signType_28 ?_
    refine ev_ist3 dX11_signType_48 ?_
    refine ev_aload_n dX11_signType_49 rfl ?_
    refine ev_iload_n dX11_signType_50 rfl ?_
    refine ev_bipush dX11_signType_51 ?_
    refine ev_icmpne 66 dX11_signType_53 (fun h_no => (by exfalso; omega)) (fun hb3 => ?_)
    refine ev_aload_n dX11_signType_56 rfl ?_
    refine ev_iconst dX11_signType_57 ?_
    refine ev_iconst dX11_signType_58 ?_
    refine ev_iconst dX11_signType_59 ?_
    refine ev_cvi dX11_signType_60 lX11_216 (s_constN (k := 1) I1 g1 (by omega) (by decide)) (by decide) I1.o I1.n rfl rfl rfl (Nat.le_of_ble_eq_true rfl) rfl (fun r h2 q2 => ?_)
    obtain ⟨rfl, k2, g2⟩ := q2
    have I2 : RI h2 := k2.ri I1
    refine ev_gt 67 dX11_signType_63 ?_
    refine ev_aload_n dX11_signType_67 rfl ?_
    refine ev_iload_n dX11_signType_68 rfl ?_
    refine ev_iload_n dX11_signType_69 rfl ?_
    refine ev_bipush dX11_signType_70 ?_
    refine ev_icmpne 84 dX11_signType_72 (fun h_no => (by exfalso; omega)) (fun hb4 => ?_)
    refine ev_aload_n dX11_signType_75 rfl ?_
    refine ev_iload_n dX11_signType_76 rfl ?_
    refine ev_iload_n dX11_signType_77 rfl ?_
    refine ev_cvi dX11_signType_78 lX11_271 (s_arrowN (a := N) (b := N) I2 g2 (by omega) (by omega) (by omega) (by omega)) (by decide) I2.o I2.n rfl rfl rfl (Nat.le_of_ble_eq_true rfl) rfl (fun r h3 q3 => ?_)
    obtain ⟨rfl, k3, g3⟩ := q3
    have I3 : RI h3 := k3.ri I2
    refine ev_gt 85 dX11_signType_81 ?_
    refine ev_cvi dX11_signType_85 lX11_271 (s_arrowN (a := N) (b := N + 1 + 1) I3 g3 (by omega) (by omega) (by omega) (by omega)) (by decide) I3.o I3.n rfl rfl rfl (Nat.le_of_ble_eq_true rfl) rfl (fun r h4 q4 => ?_)
    obtain ⟨rfl, k4, g4⟩ := q4
    have I4 : RI h4 := k4.ri I3
    refine ev_cvi dX11_signType_88 lX11_271 (s_arrowN (a := N + 1) (b := N + 1 + 1 + 1) I4 g4 (by omega) (by omega) (by omega) (by omega)) (by decide) I4.o I4.n rfl rfl rfl (Nat.le_of_ble_eq_true rfl) rfl (fun r h5 q5 => ?_)
    obtain ⟨rfl, k5, g5⟩ := q5
    refine ev_iret dX11_signType_91 (⟨_, rfl, N + 1 + 1 + 1 + 1, N + 1 + 1 + 1 + 1 + 1, _, rfl, by omega, by omega, ((k1.tr k2).tr (k3.tr k4)).tr k5, g5.nv (Nat.le_refl _) (by omega), fun k hk => ?_, ?_⟩)
    · rw [upT_n (by omega), upT_n (by omega), upT_n (by omega), upT_n (by omega), upT_n (by omega)]
    · have w0 : ∀ T : Nat → TE, upT (upT (upT (upT T N (.var nv)) (N + 1) (.var 1)) (N + 1 + 1) (.op (.var nv) (.var nv))) (N + 1 + 1 + 1) (.op (.var nv) (.op (.var nv) (.var nv))) (N + 1) = .var 1 := fun T => by rw [upT_n (by omega), upT_n (by omega), upT_s]
      have a1 : upT (upT T N (.var nv)) (N + 1) (.var 1) N = .var nv := by rw [upT_n (by omega), upT_s]
      have a2 : upT (upT (upT T N (.var nv)) (N + 1) (.var 1)) (N + 1 + 1) (.op (upT (upT T N (.var nv)) (N + 1) (.var 1) N) (upT (upT T N (.var nv)) (N + 1) (.var 1) N)) N = .var nv := by rw [upT_n (by omega)]; exact a1
      have a3 : upT (upT (upT T N (.var nv)) (N + 1) (.var 1)) (N + 1 + 1) (.op (upT (upT T N (.var nv)) (N + 1) (.var 1) N) (upT (upT T N (.var nv)) (N + 1) (.var 1) N)) (N + 1 + 1) = .op (.var nv) (.var nv) := by rw [upT_s, a1]
      rw [upT_s, sgT, if_pos q]
      congr 1
      · rw [upT_n (by omega), upT_n (by omega), upT_s]
      · rw [upT_s, a2, a3]
  refine ev_icmpne 13 dX11_signType_3 (fun hb => ?_) (fun h_no => (by exfalso; omega))
  refine ev_aload_n dX11_signType_13 rfl ?_
  refine ev_iconst dX11_signType_14 ?_
  refine ev_iconst dX11_signType_15 ?_
  refine ev_iconst dX11_signType_16 ?_
  refine ev_cvi dX11_signType_17 lX11_216 (s_constN (k := 0) hI g (by omega) (by decide)) (by decide) hI.o hI.n rfl rfl rfl (Nat.le_of_ble_eq_true rfl) rfl (fun r h1 q1 => ?_)
  obtain ⟨rfl, k1, g1⟩ := q1
  have I1 : RI h1 := k1.ri hI
  refine ev_ist2 dX11_signType_20 ?_
  refine ev_iload_n dX11_signType_21 rfl ?_
  refine ev_bipush dX11_signType_22 ?_
  refine ev_icmpne 31 dX11_signType_24 (fun hb2 => ?_) (fun h_no => (by exfalso; omega))
  refine ev_aload_n dX11_signType_31 rfl ?_
  refine ev_iload_n dX11_signType_32 rfl ?_
  refine ev_bipush dX11_signType_33 ?_
  have p45 : ∀ k : Nat, k < 2 → k = (if c = 43 then 0 else 1) → EV mX11_signType 3 45 [rv 42, iv c, iv (N : Int), uv] [iv (-1), iv (-1), iv (k : Int), rv 42] h1 (oi fun r h1 => ∃ (d M : Nat) (T2 : Nat → TE), r = (d : Int) ∧ d < M ∧ (N ≤ M ∧ M ≤ N + 10) ∧ KP h h1 [66, 67, 68, 69, 70] [49] ∧ RN h1 M (aB + 10) (nv + 1) gn T2 ∧ (∀ k, k < N → T2 k = T k) ∧ T2 d = sgT c nv) := by
    intro k hk he
    refine ev_cvi dX11_signType_45 lX11_216 (s_constN (k := k) I1 g1 (by omega) hk) (by decide) I1.o I1.n rfl rfl rfl (Nat.le_of_ble_eq_true rfl) rfl (fun r h2 q2 => ?_)
    obtain ⟨rfl, k2, g2⟩ := q2
    have I2 : RI h2 := k2.ri I1
    refine ev_ist3 dX11_signType_48 ?_
    refine ev_aload_n dX11_signType_49 rfl ?_
    refine ev_iload_n dX11_signType_50 rfl ?_
    refine ev_bipush dX11_signType_51 ?_
    refine ev_icmpne 66 dX11_signType_53 (fun hb4 => ?_) (fun h_no => (by exfalso; omega))
    refine ev_iload_n dX11_signType_66 rfl ?_
    refine ev_aload_n dX11_signType_67 rfl ?_
    refine ev_iload_n dX11_signType_68 rfl ?_
    refine ev_iload_n dX11_signType_69 rfl ?_
    refine ev_bipush dX11_signType_70 ?_
    refine ev_icmpne 84 dX11_signType_72 (fun hb5 => ?_) (fun h_no => (by exfalso; omega))
    refine ev_iload_n dX11_signType_84 rfl ?_
    refine ev_cvi dX11_signType_85 lX11_271 (s_arrowN (a := N) (b := N + 1) I2 g2 (by omega) (by omega) (by omega) (by omega)) (by decide) I2.o I2.n rfl rfl rfl (Nat.le_of_ble_eq_true rfl) rfl (fun r h3 q3 => ?_)
    obtain ⟨rfl, k3, g3⟩ := q3
    have I3 : RI h3 := k3.ri I2
    refine ev_cvi dX11_signType_88 lX11_271 (s_arrowN (a := N) (b := N + 1 + 1) I3 g3 (by omega) (by omega) (by omega) (by omega)) (by decide) I3.o I3.n rfl rfl rfl (Nat.le_of_ble_eq_true rfl) rfl (fun r h4 q4 => ?_)
    obtain ⟨rfl, k4, g4⟩ := q4
    refine ev_iret dX11_signType_91 (⟨_, rfl, N + 1 + 1 + 1, N + 1 + 1 + 1 + 1, _, rfl, by omega, by omega, (k1.tr k2).tr (k3.tr k4), g4.nv (by omega) (by omega), fun k hk => ?_, ?_⟩)
    · rw [upT_n (by omega), upT_n (by omega), upT_n (by omega), upT_n (by omega)]
    · have a1 : upT (upT T N (.var 0)) (N + 1) (.var k) N = .var 0 := by rw [upT_n (by omega), upT_s]
      have a2 : upT (upT T N (.var 0)) (N + 1) (.var k) (N + 1) = .var k := upT_s
      rw [upT_s, sgT, if_neg q]
      congr 1
      · rw [upT_n (by omega)]; exact a1
      · rw [upT_s, a1, a2, he]
  by_cases c43 : c = 43
  · skip
    refine ev_icmpne 42 dX11_signType_35 (fun h_no => (by exfalso; omega)) (fun hb3 => ?_)
    refine ev_iconst dX11_signType_38 ?_
    refine ev_gt 43 dX11_signType_39 ?_
    refine ev_iconst dX11_signType_43 ?_
    refine ev_iconst dX11_signType_44 ?_
    exact p45 0 (by decide) (by rw [if_pos c43])
  refine ev_icmpne 42 dX11_signType_35 (fun hb3 => ?_) (fun h_no => (by exfalso; omega))
  refine ev_iconst dX11_signType_42 ?_
  refine ev_iconst dX11_signType_43 ?_
  refine ev_iconst dX11_signType_44 ?_
  exact p45 1 (by decide) (by rw [if_neg c43])
abbrev TyA : List Nat := [66, 67, 68, 69, 70, 71, 72, 73, 74, 75, 76, 77, 81, 83, 84, 85]
abbrev TyF : List Nat := [49, 50, 51, 52, 53, 54, 55]
/-- what a failure leaves: the reason, the node, the pair -/
theorem RN.sn {h : AH} {N aB nv : Nat} {gn : Nat → Bool} {T : Nat → TE} (g : RN h N aB nv gn T) : ∀ k, h.vl 71 k ≤ h.vl 42 50 := by
  obtain ⟨_, _, _, q, _⟩ := g
  exact q.2.2.2.1
def FlQ (h1 : AH) (r : IR) : Prop := h1.vl 42 52 = r.1 ∧ (r.1 ≠ 0 → h1.vl 42 53 = r.2.1 ∧ h1.vl 42 54 = r.2.2.1 ∧ h1.vl 42 55 = r.2.2.2) ∧ ∀ k, h1.vl 71 k ≤ h1.vl 42 50
/-- the capitals as the reference keeps them -/
def KpV (v : Nat → Int) (kp : Nat → Option TE) : Prop := ∀ c, c < 8 → (kp c = none ∧ v (369 + 25 * c) = 0) ∨ ∃ R, kp c = some R ∧ v (369 + 25 * c) = (sz R : Int) ∧ sz R ≤ 24 ∧ (∀ i (hi : i < (rowT R).length), v (369 + 25 * c + 1 + i) = (rowT R)[i]) ∧ ∀ x, 2 ≤ x → oc x R = true → x < 210
/-- a node gets its type -/
theorem RS_put {h h' : AH} {N N' aB' nv' : Nat} {S : IS} {Dn Gn : Nat → Prop} {T T' : Nat → TE} {e c : Nat} {t : TE} {A F : List Nat} (s2 : ∀ k, Dn k → k < 130 ∧ ∃ c : Nat, c < N ∧ h.vl 84 k = (c : Int) ∧ T c = S.2.1 k) (s3 : ∀ k, Gn k → k < 130 ∧ ∃ c : Nat, c < N ∧ h.vl 85 k = (c : Int) ∧ T c = S.2.2.1 k) (s4 : ∀ x, S.2.2.2 x = true → x < S.1) (s5 : 2 ≤ S.1)
    (k : KP h h' A F) (h84 : 84 ∉ A) (h85 : 85 ∉ A) (g : RN h' N' aB' nv' S.2.2.2 T') (hN : N ≤ N') (hT : ∀ k, k < N → T' k = T k) (hnv : S.1 ≤ nv') (he : e < 130) (hc : c < N') (ht : T' c = t) : RS (h'.put 84 e (c : Int)) N' aB' (isF S e t nv') (fun k => Dn k ∨ k = e) Gn := by
  have kk : KP h' (h'.put 84 e (c : Int)) [84] [] := KP.rf.pr (by decide) (by decide)
  refine ⟨T', g.kp' kk, fun j hj => ?_, fun j hj => ?_, fun x hx => by have := s4 x hx; show x < nv'; omega, by show 2 ≤ nv'; omega⟩
  · by_cases q : j = e
    · rw [q]
      exact ⟨he, c, hc, by rw [AH.put_vl, if_pos ⟨rfl, rfl⟩], by rw [ht]; exact upT_s.symm⟩
    · rcases hj with hj | hj
      · obtain ⟨a, d, d1, d2, d3⟩ := s2 j hj
        exact ⟨a, d, by omega, by rw [AH.put_vl, if_neg (fun z => q z.2), congrFun (k.vl (by decide) h84) j]; exact d2, by rw [hT d d1, d3]; exact (upT_n q).symm⟩
      · exact absurd hj q
  · obtain ⟨a, d, d1, d2, d3⟩ := s3 j hj
    exact ⟨a, d, by omega, by rw [AH.put_vl, if_neg (by omega), congrFun (k.vl (by decide) h85) j]; exact d2, by rw [hT d d1, d3]; rfl⟩
set_option maxRecDepth 100000 in
theorem s_leafN {h : AH} {N aB : Nat} {L : List Nd} {S : IS} {Dn Gn : Nat → Prop} {e : Nat} {kp : Nat → Option TE} (hI : RI h) (hT : NT h L) (he : e < L.length) (hnd : ∀ x ∈ L, ndOK x) (h4 : TBL L 57 e < 4) (hS : RS h N aB S Dn Gn) (hsc : ScN L e 1 Dn Gn) (hP : PreL L S e 1) (hk : KpV (h.vl 43) kp) (hf : h.vl 42 52 = 0) (hN : N + 220 ≤ 20000) (haB : aB + 220 ≤ 9800) (hst0 : 0 ≤ h.vl 42 50) (hst9 : h.vl 42 50 + 1 ≤ 2147483000) :
    CV mX11_leaf 7 [rv 42, iv (e : Int)] h (on fun h1 => ∃ (r : IR) (S' : IS) (N' : Nat), lfR L kp e S r S' ∧ FlQ h1 r ∧ KP h h1 TyA TyF ∧ (h.vl 42 50 ≤ h1.vl 42 50 ∧ h1.vl 42 50 ≤ h.vl 42 50 + 1) ∧ (r.1 = 0 → (N ≤ N' ∧ N' ≤ N + 200) ∧ RS h1 N' (aB + 100) S' (fun k => Dn k ∨ k = e) Gn)) := by
  obtain ⟨T, hR, s2, s3, s4, s5⟩ := id hS
  have hlen := hT.2.2.2
  have d57 : h.vl 57 e = TBL L 57 e := hT.1 57 e (by decide) (by decide) (Or.inl he)
  have d58 : h.vl 58 e = TBL L 58 e := hT.1 58 e (by decide) (by decide) (Or.inl he)
  have own := TBL_own he
  have hmem : L.getD e (0, 0, 0) ∈ L := by
    rw [List.getD_eq_getElem?_getD, List.getElem?_eq_getElem he]
    exact List.getElem_mem he
  have nd := (hnd _ hmem).1
  rw [← own.1, ← own.2.1] at nd
  have gnf : ∀ x, S.1 ≤ x → S.2.2.2 x = false := fun x hx => by
    cases hz : S.2.2.2 x with
    | false => rfl
    | true => have := s4 x hz; omega
  -- it fails
  have bad : ∀ (h1 : AH), h1 = (((h.put 42 52 3).put 42 54 (-1)).put 42 55 (-1)).put 42 53 (e : Int) → lfR L kp e S (3, (e : Int), -1, -1) S → ∃ (r : IR) (S' : IS) (N' : Nat), lfR L kp e S r S' ∧ FlQ h1 r ∧ KP h h1 TyA TyF ∧ (h.vl 42 50 ≤ h1.vl 42 50 ∧ h1.vl 42 50 ≤ h.vl 42 50 + 1) ∧ (r.1 = 0 → (N ≤ N' ∧ N' ≤ N + 200) ∧ RS h1 N' (aB + 100) S' (fun k => Dn k ∨ k = e) Gn) := by
    intro h1 e1 hl
    refine ⟨_, S, 0, hl, ?_, ?_, ?_, fun z => absurd (show (3 : Int) = 0 from z) (by decide)⟩
    · rw [e1]; exact ⟨rfl, fun _ => ⟨rfl, rfl, rfl⟩, fun k => hR.sn k⟩
    · rw [e1]; exact (((KP.rf.pf (by decide)).pf (by decide)).pf (by decide)).pf (by decide)
    · rw [e1]; show h.vl 42 50 ≤ h.vl 42 50 ∧ h.vl 42 50 ≤ h.vl 42 50 + 1; omega
  -- it gets a type
  have good : ∀ (h' : AH) (N' aB' nv' c : Nat) (T' : Nat → TE) (t : TE) (A F : List Nat), KP h h' A F → (84 ∉ A ∧ 85 ∉ A) → (∀ x ∈ A, x ∈ TyA) → (∀ x ∈ F, x ∈ TyF) → 52 ∉ F → (h.vl 42 50 ≤ h'.vl 42 50 ∧ h'.vl 42 50 ≤ h.vl 42 50 + 1) → RN h' N' aB' nv' S.2.2.2 T' → (N ≤ N' ∧ N' ≤ N + 200) → aB' ≤ aB + 100 → (∀ k, k < N → T' k = T k) → S.1 ≤ nv' → c < N' → T' c = t → lfR L kp e S (0, -1, -1, -1) (isF S e t nv') →
      ∃ (r : IR) (S' : IS) (N' : Nat), lfR L kp e S r S' ∧ FlQ (h'.put 84 e (c : Int)) r ∧ KP h (h'.put 84 e (c : Int)) TyA TyF ∧ (h.vl 42 50 ≤ (h'.put 84 e (c : Int)).vl 42 50 ∧ (h'.put 84 e (c : Int)).vl 42 50 ≤ h.vl 42 50 + 1) ∧ (r.1 = 0 → (N ≤ N' ∧ N' ≤ N + 200) ∧ RS (h'.put 84 e (c : Int)) N' (aB + 100) S' (fun k => Dn k ∨ k = e) Gn) := by
    intro h' N' aB' nv' c T' t A F k1 hA hA2 hF2 h52 hst g hNN haa hTT hnv hc ht hl
    refine ⟨_, _, N', hl, ⟨?_, fun z => absurd rfl z, fun k => g.sn k⟩, (k1.wk hA2 hF2).pr (by decide) (by decide), hst, fun _ => ⟨hNN, RS_put s2 s3 s4 s5 k1 hA.1 hA.2 (g.nv (Nat.le_refl _) ⟨haa, by omega⟩) hNN.1 hTT hnv (by omega) hc ht⟩⟩
    show h'.vl 42 52 = 0
    rw [k1.fl h52]; exact hf
  refine cv_of cdX11_leaf ?_
  show EV _ _ 0 [rv 42, iv (e : Int), uv] [] h _
  have ee : ((e : Nat) : Int).toNat = e := rfl
  refine ev_aload_n dX11_leaf_0 rfl ?_
  refine ev_getrv dX11_leaf_1 fX11_56 hI.o hI.n rfl hI.v_kind ?_
  refine ev_iload_n dX11_leaf_4 rfl ?_
  refine ev_ildv dX11_leaf_5 hI.k_kind hI.n_kind rfl (by omega) (by omega) d57 ?_
  refine ev_iconst dX11_leaf_6 ?_
  by_cases k1 : TBL L 57 e = 1
  · skip
    obtain ⟨cc, hcc⟩ : ∃ cc : Nat, TBL L 58 e - 65 = (cc : Int) := ⟨(TBL L 58 e - 65).toNat, by omega⟩
    have hc8 : cc < 8 := by omega
    have lf1n : kp cc = none → lfR L kp e S (3, (e : Int), -1, -1) S := fun hq => by
      have hq : kp ((cc : Nat) : Int).toNat = none := hq
      unfold lfR
      rw [if_neg (by omega), if_pos k1, hcc, hq]
    have lf1s : ∀ R, kp cc = some R → lfR L kp e S (0, -1, -1, -1) (isF S e (insR S.1 R) (S.1 + 210)) := fun R hq => by
      have hq : kp ((cc : Nat) : Int).toNat = some R := hq
      unfold lfR
      rw [if_neg (by omega), if_pos k1, hcc, hq]
      exact ⟨rfl, rfl⟩
    refine ev_icmpne 71 dX11_leaf_7 (fun h_no => (by exfalso; omega)) (fun hb => ?_)
    refine ev_aload_n dX11_leaf_10 rfl ?_
    refine ev_getrv dX11_leaf_11 fX11_59 hI.o hI.n rfl hI.v_sign ?_
    refine ev_iload_n dX11_leaf_14 rfl ?_
    refine ev_ildv dX11_leaf_15 hI.k_sign hI.n_sign rfl (by omega) (by omega) d58 ?_
    refine ev_bipush dX11_leaf_16 ?_
    refine ev_isub dX11_leaf_18 (by unfold ir; omega) ?_
    rw [hcc]
    refine ev_ist2 dX11_leaf_19 ?_
    refine ev_aload_n dX11_leaf_20 rfl ?_
    refine ev_getrv dX11_leaf_21 fX11_13 hI.o hI.n rfl hI.v_v ?_
    refine ev_iload_n dX11_leaf_24 rfl ?_
    refine ev_csi dX11_leaf_25 lX11_278 (s_keptAt (l := (cc : Int)) (by omega) (by omega)) (by decide) rfl rfl (Nat.le_of_ble_eq_true rfl) rfl (fun r z1 q => ?_)
    obtain ⟨rfl, e1⟩ := q
    rw [e1, show (369 : Int) + 25 * (cc : Int) = ((369 + 25 * cc : Nat) : Int) by omega]
    rcases hk cc hc8 with ⟨q1, q2⟩ | ⟨R, q1, q2, q3, q4, q5⟩
    · skip
      refine ev_ildv dX11_leaf_28 hI.k_v hI.n_v rfl (by omega) (by omega) q2 ?_
      refine ev_ifne 41 dX11_leaf_29 (fun h_no => (by exfalso; omega)) (fun hb2 => ?_)
      refine ev_aload_n dX11_leaf_32 rfl ?_
      refine ev_iconst dX11_leaf_33 ?_
      refine ev_iload_n dX11_leaf_34 rfl ?_
      refine ev_cvv dX11_leaf_35 lX11_281 (s_failsAt hI) (by decide) hI.o hI.n rfl rfl rfl (Nat.le_of_ble_eq_true rfl) rfl (fun h1 q => ?_)
      refine ev_gt 70 dX11_leaf_38 ?_
      exact ev_vret dX11_leaf_70 (⟨rfl, bad h1 q (lf1n q1)⟩)
    refine ev_ildv dX11_leaf_28 hI.k_v hI.n_v rfl (by omega) (by omega) q2 ?_
    have sp := sz_pos R
    refine ev_ifne 41 dX11_leaf_29 (fun hb2 => ?_) (fun h_no => (by exfalso; omega))
    refine ev_aload_n dX11_leaf_41 rfl ?_
    refine ev_getrv dX11_leaf_42 fX11_137 hI.o hI.n rfl hI.v_type ?_
    refine ev_iload_n dX11_leaf_45 rfl ?_
    refine ev_aload_n dX11_leaf_46 rfl ?_
    refine ev_aload_n dX11_leaf_47 rfl ?_
    refine ev_getrv dX11_leaf_48 fX11_13 hI.o hI.n rfl hI.v_v ?_
    refine ev_iload_n dX11_leaf_51 rfl ?_
    refine ev_csi dX11_leaf_52 lX11_278 (s_keptAt (l := (cc : Int)) (by omega) (by omega)) (by decide) rfl rfl (Nat.le_of_ble_eq_true rfl) rfl (fun r z1 q => ?_)
    obtain ⟨rfl, e1⟩ := q
    rw [e1]
    refine ev_iconst dX11_leaf_55 ?_
    refine ev_iadd dX11_leaf_56 (by unfold ir; omega) ?_
    refine ev_aload_n dX11_leaf_57 rfl ?_
    refine ev_getrv dX11_leaf_58 fX11_13 hI.o hI.n rfl hI.v_v ?_
    refine ev_iload_n dX11_leaf_61 rfl ?_
    rw [show (369 : Int) + 25 * (cc : Int) + 1 = ((369 + 25 * cc + 1 : Nat) : Int) by omega]
    refine ev_csiW dX11_leaf_62 lX11_278 (s_keptAt (l := (cc : Int)) (by omega) (by omega)) (by decide) rfl rfl (Nat.le_of_ble_eq_true rfl) rfl rfl (fun r z1 q => ?_)
    obtain ⟨rfl, e1⟩ := q
    rw [e1, show (369 : Int) + 25 * (cc : Int) = ((369 + 25 * cc : Nat) : Int) by omega]
    refine ev_ildv dX11_leaf_65 hI.k_v hI.n_v rfl (by omega) (by omega) q2 ?_
    refine ev_cvi dX11_leaf_66 lX11_285 (s_makesN (start := 369 + 25 * cc + 1) (R := R) hI hR hI.k_v hI.n_v ⟨by decide, by decide⟩ (by omega) (by omega) s4 (by omega) (by omega) q4 q5) (by decide) hI.o hI.n rfl rfl rfl (Nat.le_of_ble_eq_true rfl) rfl (fun r h1 q => ?_)
    obtain ⟨c, M, T2, rfl, m1, m2, m3, m4, m5, m6⟩ := q
    have I1 : RI h1 := m3.ri hI
    refine ev_istr dX11_leaf_69 I1.k_type I1.n_type rfl (by omega) (by omega) ?_
    rw [ee]
    exact ev_vret dX11_leaf_70 (⟨rfl, good h1 M (aB + sz R) (S.1 + 210) c T2 _ MkA [49] m3 (by decide) (by decide) (by decide) (by decide) (by rw [m3.fl]; omega) m4 (by omega) (by omega) m5 (by omega) m1 m6 (lf1s R q1)⟩)
  refine ev_icmpne 71 dX11_leaf_7 (fun hb => ?_) (fun h_no => (by exfalso; omega))
  refine ev_aload_n dX11_leaf_71 rfl ?_
  refine ev_getrv dX11_leaf_72 fX11_56 hI.o hI.n rfl hI.v_kind ?_
  refine ev_iload_n dX11_leaf_75 rfl ?_
  refine ev_ildv dX11_leaf_76 hI.k_kind hI.n_kind rfl (by omega) (by omega) d57 ?_
  by_cases k0 : TBL L 57 e = 0
  · skip
    refine ev_ifeq 117 dX11_leaf_77 (fun hb2 => ?_) (fun h_no => (by exfalso; omega))
    refine ev_aload_n dX11_leaf_117 rfl ?_
    refine ev_iload_n dX11_leaf_118 rfl ?_
    refine ev_cvi dX11_leaf_119 lX11_291 (s_binderOf hI hT he) (by decide) hI.o hI.n rfl rfl rfl (Nat.le_of_ble_eq_true rfl) rfl (fun r z1 q => ?_)
    obtain ⟨rfl, e1⟩ := q
    rw [e1]
    refine ev_ist2 dX11_leaf_122 ?_
    refine ev_iload_n dX11_leaf_123 rfl ?_
    have hbd := bd_ok he
    by_cases kb : bd (TBL L) e < 0
    · skip
      refine ev_ifge 136 dX11_leaf_124 (fun h_no => (by exfalso; omega)) (fun hb3 => ?_)
      refine ev_aload_n dX11_leaf_127 rfl ?_
      refine ev_iconst dX11_leaf_128 ?_
      refine ev_iload_n dX11_leaf_129 rfl ?_
      refine ev_cvv dX11_leaf_130 lX11_281 (s_failsAt hI) (by decide) hI.o hI.n rfl rfl rfl (Nat.le_of_ble_eq_true rfl) rfl (fun h1 q => ?_)
      refine ev_gt 176 dX11_leaf_133 ?_
      exact ev_vret dX11_leaf_176 (⟨rfl, bad h1 q (by unfold lfR; rw [if_pos k0, if_pos kb])⟩)
    obtain ⟨n1, n2⟩ := hsc.nm he (by omega)
    have lfe : ∀ t nv', ((TBL L 57 (bd (TBL L) e).toNat = 4 ∧ t = S.2.2.1 (bd (TBL L) e).toNat ∧ nv' = S.1) ∨ (¬ TBL L 57 (bd (TBL L) e).toNat = 4 ∧ t = insT S (S.2.1 (fstN L (bd (TBL L) e).toNat)) ∧ nv' = S.1 + S.1)) → lfR L kp e S (0, -1, -1, -1) (isF S e t nv') := by
      intro t nv' h
      unfold lfR
      rw [if_pos k0, if_neg kb]
      refine ⟨rfl, ?_⟩
      rcases h with ⟨h1, h2, h3⟩ | ⟨h1, h2, h3⟩
      · rw [if_pos h1, h2, h3]
      · rw [if_neg h1, h2, h3]
    obtain ⟨b, hb⟩ : ∃ b : Nat, bd (TBL L) e = (b : Int) := ⟨(bd (TBL L) e).toNat, by omega⟩
    have ebb : (bd (TBL L) e).toNat = b := by omega
    rw [ebb] at n1 n2 lfe
    rw [hb]
    have hbL : b < L.length := by omega
    have b57 : h.vl 57 b = TBL L 57 b := hT.1 57 b (by decide) (by decide) (Or.inl hbL)
    have b59 : h.vl 59 b = TBL L 59 b := hT.1 59 b (by decide) (by decide) (Or.inl hbL)
    refine ev_ifge 136 dX11_leaf_124 (fun hb3 => ?_) (fun h_no => (by exfalso; omega))
    refine ev_aload_n dX11_leaf_136 rfl ?_
    refine ev_getrv dX11_leaf_137 fX11_137 hI.o hI.n rfl hI.v_type ?_
    refine ev_iload_n dX11_leaf_140 rfl ?_
    refine ev_aload_n dX11_leaf_141 rfl ?_
    refine ev_getrv dX11_leaf_142 fX11_56 hI.o hI.n rfl hI.v_kind ?_
    refine ev_iload_n dX11_leaf_145 rfl ?_
    refine ev_ildv dX11_leaf_146 hI.k_kind hI.n_kind rfl (by omega) (by omega) b57 ?_
    refine ev_iconst dX11_leaf_147 ?_
    by_cases k4 : TBL L 57 b = 4
    · skip
      obtain ⟨-, c, c1, c2, c3⟩ := s3 b (n1 k4)
      refine ev_icmpne 160 dX11_leaf_148 (fun h_no => (by exfalso; omega)) (fun hb4 => ?_)
      refine ev_aload_n dX11_leaf_151 rfl ?_
      refine ev_getrv dX11_leaf_152 fX11_140 hI.o hI.n rfl hI.v_own ?_
      refine ev_iload_n dX11_leaf_155 rfl ?_
      refine ev_ildv dX11_leaf_156 hI.k_own hI.n_own rfl (by omega) (by omega) c2 ?_
      refine ev_gt 175 dX11_leaf_157 ?_
      refine ev_istr dX11_leaf_175 hI.k_type hI.n_type rfl (by omega) (by omega) ?_
      rw [ee]
      exact ev_vret dX11_leaf_176 (⟨rfl, good h N aB S.1 c T _ [] [] KP.rf (by decide) (by decide) (by decide) (by decide) (by omega) hR (by omega) (by omega) (fun _ _ => rfl) (Nat.le_refl _) c1 c3 (lfe _ _ (Or.inl ⟨k4, rfl, rfl⟩))⟩)
    obtain ⟨d1, c, c1, c2, c3⟩ := s2 _ (n2 k4)
    obtain ⟨a1, a2⟩ := bd_anc (L := L) (nd := e) 130 (e : Int) (TBL L 61 e) (Int.le_refl _) (by have := (TBL_gd (L := L) e he).1; omega) (by have := (TBL_gd (L := L) e he).1; omega) (by show 0 ≤ bd (TBL L) e; omega)
    have a1 : (bd (TBL L) e).toNat ∈ ancN L e := a1
    have a2 : TBL L 57 (bd (TBL L) e).toNat = 4 ∨ (TBL L 57 (bd (TBL L) e).toNat = 5 ∧ TBL L 60 (bd (TBL L) e).toNat ≤ (e : Int)) := a2
    rw [ebb] at a1 a2
    obtain ⟨k5, k6⟩ := a2.resolve_left k4
    have p59 : 0 ≤ TBL L 59 b := by
      rw [TBL_59 (by omega) (by rw [← (TBL_own hbL).1, k5]; decide)]
      omega
    have hgs : gsz S.2.2.2 (S.2.1 (fstN L b)) ≤ 200 ∧ gop S.2.2.2 (S.2.1 (fstN L b)) ≤ 99 := by
      rcases hP.2.1 b a1 k5 with q | ⟨-, -, q⟩
      · unfold sndN at q; omega
      · exact q
    have b59' : h.vl 59 b = ((fstN L b : Nat) : Int) := by rw [b59]; unfold fstN; omega
    refine ev_icmpne 160 dX11_leaf_148 (fun hb4 => ?_) (fun h_no => (by exfalso; omega))
    refine ev_aload_n dX11_leaf_160 rfl ?_
    refine ev_aload_n dX11_leaf_161 rfl ?_
    refine ev_getrv dX11_leaf_162 fX11_137 hI.o hI.n rfl hI.v_type ?_
    refine ev_aload_n dX11_leaf_165 rfl ?_
    refine ev_getrv dX11_leaf_166 fX11_62 hI.o hI.n rfl hI.v_first ?_
    refine ev_iload_n dX11_leaf_169 rfl ?_
    refine ev_ildv dX11_leaf_170 hI.k_first hI.n_first rfl (by omega) (by omega) b59' ?_
    refine ev_ildv dX11_leaf_171 hI.k_type hI.n_type rfl (by omega) (by omega) c2 ?_
    refine ev_cvi dX11_leaf_172 lX11_294 (s_copiedN (t := c) hI hR c1 (by rw [c3]; exact hgs) (by omega) (by omega) s4 s5 hst0 hst9) (by decide) hI.o hI.n rfl rfl rfl (Nat.le_of_ble_eq_true rfl) rfl (fun r h1 q => ?_)
    obtain ⟨c', M, T2, rfl, m1, m2, m3, m4, m5, m6, m7⟩ := q
    have I1 : RI h1 := m3.ri hI
    refine ev_istr dX11_leaf_175 I1.k_type I1.n_type rfl (by omega) (by omega) ?_
    rw [ee]
    exact ev_vret dX11_leaf_176 (⟨rfl, good h1 M (aB + 99) (S.1 + S.1) c' T2 _ CpA CpF m3 (by decide) (by decide) (by decide) (by decide) (by omega) m5 m2 (by omega) m6 (by omega) m1 m7 (lfe _ _ (Or.inr ⟨k4, by rw [c3]; rfl, rfl⟩))⟩)
  refine ev_ifeq 117 dX11_leaf_77 (fun h_no => (by exfalso; omega)) (fun hb2 => ?_)
  refine ev_aload_n dX11_leaf_80 rfl ?_
  refine ev_getrv dX11_leaf_81 fX11_137 hI.o hI.n rfl hI.v_type ?_
  refine ev_iload_n dX11_leaf_84 rfl ?_
  refine ev_aload_n dX11_leaf_85 rfl ?_
  refine ev_getrv dX11_leaf_86 fX11_56 hI.o hI.n rfl hI.v_kind ?_
  refine ev_iload_n dX11_leaf_89 rfl ?_
  refine ev_ildv dX11_leaf_90 hI.k_kind hI.n_kind rfl (by omega) (by omega) d57 ?_
  refine ev_iconst dX11_leaf_91 ?_
  by_cases k2 : TBL L 57 e = 2
  · skip
    refine ev_icmpne 105 dX11_leaf_92 (fun h_no => (by exfalso; omega)) (fun hb3 => ?_)
    refine ev_aload_n dX11_leaf_95 rfl ?_
    refine ev_iconst dX11_leaf_96 ?_
    refine ev_iconst dX11_leaf_97 ?_
    refine ev_iconst dX11_leaf_98 ?_
    refine ev_cvi dX11_leaf_99 lX11_216 (s_constN (k := 0) hI hR (by omega) (by decide)) (by decide) hI.o hI.n rfl rfl rfl (Nat.le_of_ble_eq_true rfl) rfl (fun r h1 q => ?_)
    obtain ⟨rfl, m3, m4⟩ := q
    have I1 : RI h1 := m3.ri hI
    refine ev_gt 115 dX11_leaf_102 ?_
    refine ev_istr dX11_leaf_115 I1.k_type I1.n_type rfl (by omega) (by omega) ?_
    rw [ee]
    exact ev_vret dX11_leaf_116 (⟨rfl, good h1 (N + 1) aB S.1 N _ _ _ _ m3 (by decide) (by decide) (by decide) (by decide) (by rw [m3.fl]; omega) m4 (by omega) (by omega) (fun k hk => upT_n (by omega)) (Nat.le_refl _) (by omega) upT_s (by unfold lfR; rw [if_neg k0, if_neg k1, if_pos k2]; exact ⟨rfl, rfl⟩)⟩)
  refine ev_icmpne 105 dX11_leaf_92 (fun hb3 => ?_) (fun h_no => (by exfalso; omega))
  refine ev_aload_n dX11_leaf_105 rfl ?_
  refine ev_aload_n dX11_leaf_106 rfl ?_
  refine ev_getrv dX11_leaf_107 fX11_59 hI.o hI.n rfl hI.v_sign ?_
  refine ev_iload_n dX11_leaf_110 rfl ?_
  refine ev_ildv dX11_leaf_111 hI.k_sign hI.n_sign rfl (by omega) (by omega) d58 ?_
  refine ev_cvi dX11_leaf_112 lX11_288 (s_signN hI hR (by omega) (by omega) (by omega) s5 (gnf _ (Nat.le_refl _))) (by decide) hI.o hI.n rfl rfl rfl (Nat.le_of_ble_eq_true rfl) rfl (fun r h1 q => ?_)
  obtain ⟨c, M, T2, rfl, m1, m2, m3, m4, m5, m6⟩ := q
  have I1 : RI h1 := m3.ri hI
  refine ev_istr dX11_leaf_115 I1.k_type I1.n_type rfl (by omega) (by omega) ?_
  rw [ee]
  exact ev_vret dX11_leaf_116 (⟨rfl, good h1 M (aB + 10) (S.1 + 1) c T2 _ _ _ m3 (by decide) (by decide) (by decide) (by decide) (by rw [m3.fl]; omega) m4 (by omega) (by omega) m5 (by omega) m1 m6 (by unfold lfR; rw [if_neg k0, if_neg k1, if_neg k2]; exact ⟨rfl, rfl⟩)⟩)
