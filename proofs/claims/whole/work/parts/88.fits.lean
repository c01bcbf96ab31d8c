/-! the reference makes two types fit -/
def PSt (h : AH) : List UE → Prop
  | [] => True
  | e :: st => h.vl 75 st.length = (e.1 : Int) ∧ h.vl 76 st.length = (e.2.1 : Int) ∧ h.vl 77 st.length = (if e.2.2 = true then 1 else 0) ∧ PSt h st
theorem PSt.lo {h h1 : AH} : ∀ {st : List UE}, (∀ r i, r ∈ [75, 76, 77] → i < st.length → h1.vl r i = h.vl r i) → PSt h st → PSt h1 st
  | [], _, _ => trivial
  | e :: st, hk, ⟨a, b, c, d⟩ => by
    have hl : st.length < (e :: st).length := Nat.lt_succ_self _
    exact ⟨(hk 75 _ (by decide) hl).trans a, (hk 76 _ (by decide) hl).trans b, (hk 77 _ (by decide) hl).trans c, PSt.lo (fun r i hr hi => hk r i hr (Nat.lt_trans hi hl)) d⟩
theorem PSt.ks {h h1 : AH} {st : List UE} {A F : List Nat} (p : PSt h st) (k : KP h h1 A F) (hA : A.all (fun a => decide (a ∉ [75, 76, 77])) = true := by decide) : PSt h1 st :=
  p.lo (fun r i hr _ => congrFun (k.2.2.2.2.1 r (by intro e; subst e; exact absurd hr (by decide)) (fun hm => of_decide_eq_true (List.all_eq_true.mp hA r hm) hr)) i)
abbrev FtA : List Nat := [69, 71, 74, 75, 76, 77]
abbrev FtF : List Nat := [50, 51, 52, 54, 55]
theorem GH.cg {h h1 : AH} {N : Nat} {rr : Nat → Nat} {tr : Nat → TE} (g : GH h N rr tr) (e1 : h1.vl 66 = h.vl 66) (e2 : h1.vl 67 = h.vl 67) (e3 : h1.vl 68 = h.vl 68) (e4 : h1.vl 69 = h.vl 69) : GH h1 N rr tr := by
  unfold GH
  rw [e1, e2, e3, e4]
  exact g
set_option maxRecDepth 100000 in
theorem fits_loop {h0 : AH} {N : Nat} {C : Nat → Prop} {Ar : List Nat} {K H : Nat} {so fr to : Nat → Int} {ck : List UE → MS → Bool} {R : UR} {m' : MS} (hI0 : RI h0) (hN : N ≤ 20000) (e66 : h0.vl 66 = so) (e67 : h0.vl 67 = fr) (e68 : h0.vl 68 = to) (hK : K ≤ 5990) (hH : H ≤ 9900) (hck : ∀ st m, ck st m = true → UI so fr to N C Ar m ∧ SI so N m st) :
    ∀ (f : Nat) (st : List UE) (m : MS) (h : AH) (v1 v2 : Int) (v4 v5 v6 v7 : AV), uR ck K H false so fr to f st m = some (R, m') → KP h0 h FtA FtF → h.vl 69 = m.2.2 → PSt h st → h.vl 42 50 + (f : Int) ≤ 2147483000 → -2147483000 ≤ h.vl 42 50 → (∀ k, h.vl 71 k ≤ h.vl 42 50) →
    EV mX11_fits 6 10 [rv 42, iv v1, iv v2, iv (st.length : Int), v4, v5, v6, v7] [] h (oi fun x h1 => x = R.1 ∧ KP h0 h1 FtA FtF ∧ h.vl 42 50 ≤ h1.vl 42 50 ∧ h1.vl 42 50 ≤ h.vl 42 50 + (f : Int) ∧ (∀ k, h1.vl 71 k ≤ h1.vl 42 50) ∧ (R.1 = 0 → h1.vl 69 = m'.2.2 ∧ h1.vl 42 52 = h.vl 42 52) ∧ (R.1 ≠ 0 → h1.vl 42 52 = R.1 ∧ h1.vl 42 54 = R.2.1 ∧ h1.vl 42 55 = R.2.2)) := by
  intro f
  induction f with
  | zero => intro st m h v1 v2 v4 v5 v6 v7 hu; exact nomatch hu
  | succ f ih =>
    intro st m h v1 v2 v4 v5 v6 v7 hu hK0 h69 hP hb hb0 hse
    have hI : RI h := hK0.ri hI0
    have s66 : h.vl 66 = so := hK0.vl.trans e66
    have s67 : h.vl 67 = fr := hK0.vl.trans e67
    have s68 : h.vl 68 = to := hK0.vl.trans e68
    cases st with
    | nil =>
      have hu := Option.some.inj hu
      have eR : R = (0, -1, -1) := (congrArg Prod.fst hu).symm
      have em : m' = m := (congrArg Prod.snd hu).symm
      refine ev_iload_n dX11_fits_10 rfl ?_
      refine ev_ifle 273 dX11_fits_11 (fun hc => ?_) (fun h_no => (by exfalso; exact h_no (Int.le_refl 0)))
      refine ev_iconst dX11_fits_273 ?_
      exact ev_iret dX11_fits_274 (⟨_, rfl, by rw [eR], hK0, Int.le_refl _, by omega, hse, fun _ => ⟨by rw [em]; exact h69, rfl⟩, fun z => absurd (by rw [eR]) z⟩)
    | cons e st =>
      obtain ⟨p1, p2, p3, p4⟩ := hP
      rw [uR] at hu
      by_cases k0 : ¬ ck (e :: st) m = true
      · rw [if_pos k0] at hu; exact nomatch hu
      rw [if_neg k0] at hu
      obtain ⟨hU, hSI⟩ := hck _ _ (Classical.not_not.mp k0)
      obtain ⟨n1, n2⟩ := hSI.1.1
      by_cases k1 : K < st.length
      · rw [if_pos k1] at hu; exact nomatch hu
      rw [if_neg k1] at hu
      have hG : GH h N m.1 m.2.1 := ⟨hN, by rw [s66, s67, s68, h69]; exact hU.1, by rw [s66, s67, s68]; exact hU.2.1⟩
      obtain ⟨r1, r2, -⟩ := hU.2.1 e.1 n1
      obtain ⟨r3, r4, -⟩ := hU.2.1 e.2.1 n2
      have g1 : ((e.1 : Nat) : Int).toNat = e.1 := rfl
      have g2 : ((e.2.1 : Nat) : Int).toNat = e.2.1 := rfl
      -- to the next pair, nothing or a link done
      have next : ∀ (st1 : List UE) (m1 : MS) (h1 : AH) (v4 v5 v6 v7 : AV), uR ck K H false so fr to f st1 m1 = some (R, m') → KP h0 h1 FtA FtF → h1.vl 69 = m1.2.2 → PSt h1 st1 → h.vl 42 50 ≤ h1.vl 42 50 → h1.vl 42 50 ≤ h.vl 42 50 + 1 → (∀ k, h1.vl 71 k ≤ h1.vl 42 50) → h1.vl 42 52 = h.vl 42 52 → EV mX11_fits 6 10 [rv 42, iv v1, iv v2, iv (st1.length : Int), v4, v5, v6, v7] [] h1 (oi fun x h1 => x = R.1 ∧ KP h0 h1 FtA FtF ∧ h.vl 42 50 ≤ h1.vl 42 50 ∧ h1.vl 42 50 ≤ h.vl 42 50 + ((f + 1 : Nat) : Int) ∧ (∀ k, h1.vl 71 k ≤ h1.vl 42 50) ∧ (R.1 = 0 → h1.vl 69 = m'.2.2 ∧ h1.vl 42 52 = h.vl 42 52) ∧ (R.1 ≠ 0 → h1.vl 42 52 = R.1 ∧ h1.vl 42 54 = R.2.1 ∧ h1.vl 42 55 = R.2.2)) := by
        intro st1 m1 h1 v4 v5 v6 v7 w1 w2 w3 w4 w5 w6 w7 w8
        refine ev_mono (ih st1 m1 h1 v1 v2 v4 v5 v6 v7 w1 w2 w3 w4 (by omega) (by omega) w7) fun o h2 q => ?_
        obtain ⟨x, rfl, q1, q2, q3, q4, q5, q6, q7⟩ := q
        exact ⟨x, rfl, q1, q2, by omega, by omega, q5, fun z => ⟨(q6 z).1, (q6 z).2.trans w8⟩, q7⟩
      have hlen : (e :: st).length ≤ 5991 := by rw [List.length_cons]; omega
      refine ev_iload_n dX11_fits_10 rfl ?_
      refine ev_ifle 273 dX11_fits_11 (fun h_no => (by exfalso; simp only [List.length_cons] at *; omega)) (fun hc => ?_)
      refine ev_iin3 dX11_fits_14 (by unfold ir; omega) ?_
      rw [show ((e :: st).length : Int) + -1 = (st.length : Int) by simp only [List.length_cons]; omega]
      refine ev_aload_n dX11_fits_17 rfl ?_
      refine ev_aload_n dX11_fits_18 rfl ?_
      refine ev_getrv dX11_fits_19 fX11_110 hI.o hI.n rfl hI.v_left ?_
      refine ev_iload_n dX11_fits_22 rfl ?_
      refine ev_ild dX11_fits_23 hI.k_left hI.n_left rfl (by omega) (by omega) ?_
      rw [show ((st.length : Nat) : Int).toNat = st.length from rfl, p1]
      refine ev_cvi dX11_fits_24 lX11_223 (s_is' (t := (e.1 : Int)) hI hN hG.2.1 (by omega) (by omega)) (by decide) hI.o hI.n rfl rfl rfl (Nat.le_of_ble_eq_true rfl) rfl (fun r z1 q => ?_)
      obtain ⟨rfl, eq1⟩ := q
      rw [eq1, g1]
      refine ev_ist4 dX11_fits_27 ?_
      refine ev_aload_n dX11_fits_29 rfl ?_
      refine ev_aload_n dX11_fits_30 rfl ?_
      refine ev_getrv dX11_fits_31 fX11_113 hI.o hI.n rfl hI.v_right ?_
      refine ev_iload_n dX11_fits_34 rfl ?_
      refine ev_ild dX11_fits_35 hI.k_right hI.n_right rfl (by omega) (by omega) ?_
      rw [show ((st.length : Nat) : Int).toNat = st.length from rfl, p2]
      refine ev_cvi dX11_fits_36 lX11_223 (s_is' (t := (e.2.1 : Int)) hI hN hG.2.1 (by omega) (by omega)) (by decide) hI.o hI.n rfl rfl rfl (Nat.le_of_ble_eq_true rfl) rfl (fun r z2 q => ?_)
      obtain ⟨rfl, eq2⟩ := q
      rw [eq2, g2]
      refine ev_ist5 dX11_fits_39 ?_
      refine ev_iload dX11_fits_41 rfl ?_
      refine ev_iload dX11_fits_43 rfl ?_
      by_cases c1 : m.1 e.1 = m.1 e.2.1
      · skip
        rw [if_pos c1] at hu
        refine ev_icmpne 51 dX11_fits_45 (fun h_no => (by exfalso; omega)) (fun hb1 => ?_)
        refine ev_gt 10 dX11_fits_48 ?_
        exact next st m h _ _ _ _ hu hK0 h69 p4 (Int.le_refl _) (by omega) hse rfl
      rw [if_neg c1] at hu
      refine ev_icmpne 51 dX11_fits_45 (fun hb1 => ?_) (fun h_no => (by exfalso; omega))
      refine ev_aload_n dX11_fits_51 rfl ?_
      refine ev_getrv dX11_fits_52 fX11_116 hI.o hI.n rfl hI.v_ends ?_
      refine ev_iload_n dX11_fits_55 rfl ?_
      refine ev_ild dX11_fits_56 hI.k_ends hI.n_ends rfl (by omega) (by omega) ?_
      refine ev_iconst dX11_fits_57 ?_
      rw [show ((st.length : Nat) : Int).toNat = st.length from rfl, p3]
      by_cases c2 : e.2.2 = true
      · skip
        rw [if_pos c2] at hu ⊢
        rw [if_neg (show ¬ false = true by decide)] at hu
        refine ev_icmpne 73 dX11_fits_58 (fun h_no => (by exfalso; omega)) (fun hb2 => ?_)
        refine ev_aload_n dX11_fits_61 rfl ?_
        refine ev_getrv dX11_fits_62 fX11_92 hI.o hI.n rfl hI.v_link ?_
        refine ev_iload dX11_fits_65 rfl ?_
        refine ev_iload dX11_fits_67 rfl ?_
        refine ev_istr dX11_fits_69 hI.k_link hI.n_link rfl (by omega) (by omega) ?_
        refine ev_gt 10 dX11_fits_70 ?_
        refine next st _ _ _ _ _ _ hu (hK0.pr (by decide) (by decide)) ?_ (p4.lo (fun r i hr _ => by rw [AH.put_vl, if_neg (fun z => by rw [z.1] at hr; exact absurd hr (by decide))])) (Int.le_refl _) (by show h.vl 42 50 ≤ h.vl 42 50 + 1; omega) hse rfl
        rw [put_row, h69]
        rfl
      rw [if_neg c2] at hu ⊢
      refine ev_icmpne 73 dX11_fits_58 (fun hb2 => ?_) (fun h_no => (by exfalso; omega))
      refine ev_aload_n dX11_fits_73 rfl ?_
      refine ev_getrv dX11_fits_74 fX11_83 hI.o hI.n rfl hI.v_sort ?_
      refine ev_iload dX11_fits_77 rfl ?_
      refine ev_ild dX11_fits_79 hI.k_sort hI.n_sort rfl (by omega) (by omega) ?_
      refine ev_iconst dX11_fits_80 ?_
      rw [show ((m.1 e.1 : Nat) : Int).toNat = m.1 e.1 from rfl, s66]
      have p129 : ∀ (v o : Nat), v < N → o < N → so v = 3 → uR ck K H false so fr to (f + 1) (e :: st) m = (if H < ht (m.2.1 o) then none else if oc (v + 2) (m.2.1 o) = true then some ((5, -1, -1), m) else uR ck K H false so fr to f st (bdM m v o)) → uR ck K H false so fr to (f + 1) (e :: st) m = some (R, m') → EV mX11_fits 6 129 [rv 42, iv v1, iv v2, iv (st.length : Int), iv (m.1 e.1 : Int), iv (m.1 e.2.1 : Int), iv (v : Int), v7] [iv (o : Int)] h (oi fun x h1 => x = R.1 ∧ KP h0 h1 FtA FtF ∧ h.vl 42 50 ≤ h1.vl 42 50 ∧ h1.vl 42 50 ≤ h.vl 42 50 + ((f + 1 : Nat) : Int) ∧ (∀ k, h1.vl 71 k ≤ h1.vl 42 50) ∧ (R.1 = 0 → h1.vl 69 = m'.2.2 ∧ h1.vl 42 52 = h.vl 42 52) ∧ (R.1 ≠ 0 → h1.vl 42 52 = R.1 ∧ h1.vl 42 54 = R.2.1 ∧ h1.vl 42 55 = R.2.2)) := by
        intro v o hv ho hs3 e3 hu3
        rw [e3] at hu3
        by_cases d1 : H < ht (m.2.1 o)
        · rw [if_pos d1] at hu3; exact nomatch hu3
        rw [if_neg d1] at hu3
        refine ev_ist7 dX11_fits_129 ?_
        refine ev_aload_n dX11_fits_131 rfl ?_
        refine ev_iload dX11_fits_132 rfl ?_
        refine ev_iload dX11_fits_134 rfl ?_
        refine ev_cvi dX11_fits_136 lX11_255 (s_hasV (t := o) (v := v) hI hG ho (by omega) hv (by rw [s66]; exact hs3) (by unfold ir; omega) hse) (by decide) hI.o hI.n rfl rfl rfl (Nat.le_of_ble_eq_true rfl) rfl (fun r h1 q => ?_)
        obtain ⟨rfl, q1, q2, q3⟩ := q
        have hK1 : KP h0 h1 FtA FtF := hK0.tr (q1.wk (by decide) (by decide))
        have hI1 : RI h1 := hK1.ri hI0
        by_cases d2 : oc (v + 2) (m.2.1 o) = true
        · skip
          rw [if_pos d2] at hu3 ⊢
          have hu3 := Option.some.inj hu3
          have eR : R = (5, -1, -1) := (congrArg Prod.fst hu3).symm
          refine ev_ifeq 150 dX11_fits_139 (fun h_no => (by exfalso; omega)) (fun hb3 => ?_)
          refine ev_aload_n dX11_fits_142 rfl ?_
          refine ev_iconst dX11_fits_143 ?_
          refine ev_iconst dX11_fits_144 ?_
          refine ev_iconst dX11_fits_145 ?_
          refine ev_cvi dX11_fits_146 lX11_259 (s_fails hI1) (by decide) hI1.o hI1.n rfl rfl rfl (Nat.le_of_ble_eq_true rfl) rfl (fun r h2 q => ?_)
          obtain ⟨rfl, eh⟩ := q
          exact ev_iret dX11_fits_149 (⟨_, rfl, by rw [eR], by rw [eh]; exact ((hK1.pf (by decide)).pf (by decide)).pf (by decide), by rw [eh]; show h.vl 42 50 ≤ h1.vl 42 50; omega, by rw [eh]; show h1.vl 42 50 ≤ _; omega, by rw [eh]; exact q3, fun z => absurd z (by rw [eR]; decide), fun _ => by rw [eh, eR]; exact ⟨rfl, rfl, rfl⟩⟩)
        rw [if_neg d2] at hu3 ⊢
        refine ev_ifeq 150 dX11_fits_139 (fun hb3 => ?_) (fun h_no => (by exfalso; omega))
        refine ev_aload_n dX11_fits_150 rfl ?_
        refine ev_getrv dX11_fits_151 fX11_92 hI1.o hI1.n rfl hI1.v_link ?_
        refine ev_iload dX11_fits_154 rfl ?_
        refine ev_iload dX11_fits_156 rfl ?_
        refine ev_istr dX11_fits_158 hI1.k_link hI1.n_link rfl (by omega) (by omega) ?_
        refine ev_gt 10 dX11_fits_159 ?_
        refine next st _ _ _ _ _ _ hu3 (hK1.pr (by decide) (by decide)) ?_ ((p4.ks q1).lo (fun r i hr _ => by rw [AH.put_vl, if_neg (fun z => by rw [z.1] at hr; exact absurd hr (by decide))])) (by show h.vl 42 50 ≤ h1.vl 42 50; omega) (by show h1.vl 42 50 ≤ h.vl 42 50 + 1; omega) q3 (q1.fl (j := 52))
        rw [put_row, q1.vl, h69]
        rfl
      have hu0 : uR ck K H false so fr to (f + 1) (e :: st) m = some (R, m') := by
        rw [uR, if_neg k0, if_neg k1, if_neg c1, if_neg c2]
        exact hu
      have uv : so (m.1 e.1) = 3 ∨ so (m.1 e.2.1) = 3 → ∀ v o, v = (if so (m.1 e.1) = 3 then m.1 e.1 else m.1 e.2.1) → o = (if so (m.1 e.1) = 3 then m.1 e.2.1 else m.1 e.1) → uR ck K H false so fr to (f + 1) (e :: st) m = (if H < ht (m.2.1 o) then none else if oc (v + 2) (m.2.1 o) = true then some ((5, -1, -1), m) else uR ck K H false so fr to f st (bdM m v o)) := by
        intro c3 v o ev eo
        rw [uR, if_neg k0, if_neg k1, if_neg c1, if_neg c2, if_pos c3, ev, eo]
      by_cases x1 : so (m.1 e.1) = 3
      · skip
        have e4 := uv (Or.inl x1) (m.1 e.1) (m.1 e.2.1) (by rw [if_pos x1]) (by rw [if_pos x1])
        refine ev_icmpeq 95 dX11_fits_81 (fun hb3 => ?_) (fun h_no => (by exfalso; omega))
        refine ev_aload_n dX11_fits_95 rfl ?_
        refine ev_getrv dX11_fits_96 fX11_83 hI.o hI.n rfl hI.v_sort ?_
        refine ev_iload dX11_fits_99 rfl ?_
        refine ev_ild dX11_fits_101 hI.k_sort hI.n_sort rfl (by omega) (by omega) ?_
        refine ev_iconst dX11_fits_102 ?_
        rw [show ((m.1 e.1 : Nat) : Int).toNat = m.1 e.1 from rfl, s66]
        refine ev_icmpne 111 dX11_fits_103 (fun h_no => (by exfalso; omega)) (fun hb4 => ?_)
        refine ev_iload dX11_fits_106 rfl ?_
        refine ev_gt 113 dX11_fits_108 ?_
        refine ev_ist6 dX11_fits_113 ?_
        refine ev_iload dX11_fits_115 rfl ?_
        refine ev_iload dX11_fits_117 rfl ?_
        refine ev_icmpne 127 dX11_fits_119 (fun h_no => (by exfalso; omega)) (fun hb5 => ?_)
        refine ev_iload dX11_fits_122 rfl ?_
        refine ev_gt 129 dX11_fits_124 ?_
        exact p129 _ _ r1 r3 x1 e4 hu0
      refine ev_icmpeq 95 dX11_fits_81 (fun h_no => (by exfalso; omega)) (fun hb3 => ?_)
      refine ev_aload_n dX11_fits_84 rfl ?_
      refine ev_getrv dX11_fits_85 fX11_83 hI.o hI.n rfl hI.v_sort ?_
      refine ev_iload dX11_fits_88 rfl ?_
      refine ev_ild dX11_fits_90 hI.k_sort hI.n_sort rfl (by omega) (by omega) ?_
      refine ev_iconst dX11_fits_91 ?_
      rw [show ((m.1 e.2.1 : Nat) : Int).toNat = m.1 e.2.1 from rfl, s66]
      by_cases x2 : so (m.1 e.2.1) = 3
      · skip
        have e4 := uv (Or.inr x2) (m.1 e.2.1) (m.1 e.1) (by rw [if_neg x1]) (by rw [if_neg x1])
        refine ev_icmpne 162 dX11_fits_92 (fun h_no => (by exfalso; omega)) (fun hb4 => ?_)
        refine ev_aload_n dX11_fits_95 rfl ?_
        refine ev_getrv dX11_fits_96 fX11_83 hI.o hI.n rfl hI.v_sort ?_
        refine ev_iload dX11_fits_99 rfl ?_
        refine ev_ild dX11_fits_101 hI.k_sort hI.n_sort rfl (by omega) (by omega) ?_
        refine ev_iconst dX11_fits_102 ?_
        rw [show ((m.1 e.1 : Nat) : Int).toNat = m.1 e.1 from rfl, s66]
        refine ev_icmpne 111 dX11_fits_103 (fun hb5 => ?_) (fun h_no => (by exfalso; omega))
        refine ev_iload dX11_fits_111 rfl ?_
        refine ev_ist6 dX11_fits_113 ?_
        refine ev_iload dX11_fits_115 rfl ?_
        refine ev_iload dX11_fits_117 rfl ?_
        refine ev_icmpne 127 dX11_fits_119 (fun hb6 => ?_) (fun h_no => (by exfalso; omega))
        refine ev_iload dX11_fits_127 rfl ?_
        exact p129 _ _ r3 r1 x2 e4 hu0
      refine ev_icmpne 162 dX11_fits_92 (fun hb4 => ?_) (fun h_no => (by exfalso; omega))
      refine ev_aload_n dX11_fits_162 rfl ?_
      refine ev_getrv dX11_fits_163 fX11_83 hI.o hI.n rfl hI.v_sort ?_
      refine ev_iload dX11_fits_166 rfl ?_
      refine ev_ild dX11_fits_168 hI.k_sort hI.n_sort rfl (by omega) (by omega) ?_
      refine ev_aload_n dX11_fits_169 rfl ?_
      refine ev_getrv dX11_fits_170 fX11_83 hI.o hI.n rfl hI.v_sort ?_
      refine ev_iload dX11_fits_173 rfl ?_
      refine ev_ild dX11_fits_175 hI.k_sort hI.n_sort rfl (by omega) (by omega) ?_
      rw [show ((m.1 e.1 : Nat) : Int).toNat = m.1 e.1 from rfl, show ((m.1 e.2.1 : Nat) : Int).toNat = m.1 e.2.1 from rfl, s66]
      have c3 : ¬ (so (m.1 e.1) = 3 ∨ so (m.1 e.2.1) = 3) := fun z => z.elim x1 x2
      rw [if_neg c3] at hu
      by_cases c6 : so (m.1 e.1) = so (m.1 e.2.1)
      · skip
        refine ev_icmpeq 199 dX11_fits_176 (fun hb5 => ?_) (fun h_no => (by exfalso; omega))
        refine ev_aload_n dX11_fits_199 rfl ?_
        refine ev_getrv dX11_fits_200 fX11_83 hI.o hI.n rfl hI.v_sort ?_
        refine ev_iload dX11_fits_203 rfl ?_
        refine ev_ild dX11_fits_205 hI.k_sort hI.n_sort rfl (by omega) (by omega) ?_
        refine ev_iconst dX11_fits_206 ?_
        rw [show ((m.1 e.1 : Nat) : Int).toNat = m.1 e.1 from rfl, s66]
        by_cases c7 : so (m.1 e.1) = 2
        · skip
          have c5 : so (m.1 e.1) = 2 ∧ so (m.1 e.2.1) = 2 := ⟨c7, by rw [← c6]; exact c7⟩
          rw [if_pos c5] at hu
          obtain ⟨f1, f2⟩ := hU.1.2.2 (m.1 e.1) r1 c5.1
          obtain ⟨f3, f4⟩ := hU.1.2.2 (m.1 e.2.1) r3 c5.2
          refine ev_icmpeq 213 dX11_fits_207 (fun hb6 => ?_) (fun h_no => (by exfalso; omega))
          refine ev_aload_n dX11_fits_213 rfl ?_
          refine ev_iload_n dX11_fits_214 rfl ?_
          refine ev_iload dX11_fits_215 rfl ?_
          refine ev_iload dX11_fits_217 rfl ?_
          refine ev_iconst dX11_fits_219 ?_
          refine ev_cvv dX11_fits_220 lX11_251 (s_pairs hI (by omega) (by omega)) (by decide) hI.o hI.n rfl rfl rfl (Nat.le_of_ble_eq_true rfl) rfl (fun h1 q => ?_)
          have a1 : KP h h1 FtA FtF := by rw [q]; exact ((KP.rf.pr (by decide) (by decide)).pr (by decide) (by decide)).pr (by decide) (by decide)
          have I1 : RI h1 := (hK0.tr a1).ri hI0
          have t1 : h1.vl 68 = to := a1.vl.trans s68
          refine ev_aload_n dX11_fits_223 rfl ?_
          refine ev_iload_n dX11_fits_224 rfl ?_
          refine ev_iconst dX11_fits_225 ?_
          refine ev_iadd dX11_fits_226 (by unfold ir; omega) ?_
          refine ev_aload_n dX11_fits_227 rfl ?_
          refine ev_getrv dX11_fits_228 fX11_89 I1.o I1.n rfl I1.v_to ?_
          refine ev_iload dX11_fits_231 rfl ?_
          refine ev_ild dX11_fits_233 I1.k_to I1.n_to rfl (by omega) (by omega) ?_
          refine ev_aload_n dX11_fits_234 rfl ?_
          refine ev_getrv dX11_fits_235 fX11_89 I1.o I1.n rfl I1.v_to ?_
          refine ev_iload dX11_fits_238 rfl ?_
          refine ev_ild dX11_fits_240 I1.k_to I1.n_to rfl (by omega) (by omega) ?_
          refine ev_iconst dX11_fits_241 ?_
          rw [show ((m.1 e.1 : Nat) : Int).toNat = m.1 e.1 from rfl, show ((m.1 e.2.1 : Nat) : Int).toNat = m.1 e.2.1 from rfl, t1]
          refine ev_cvv dX11_fits_242 lX11_251 (s_pairs I1 (by omega) (by omega)) (by decide) I1.o I1.n rfl rfl rfl (Nat.le_of_ble_eq_true rfl) rfl (fun h2 q2 => ?_)
          have a2 : KP h h2 FtA FtF := a1.tr (by rw [q2]; exact ((KP.rf.pr (by decide) (by decide)).pr (by decide) (by decide)).pr (by decide) (by decide))
          have I2 : RI h2 := (hK0.tr a2).ri hI0
          have t2 : h2.vl 67 = fr := a2.vl.trans s67
          refine ev_aload_n dX11_fits_245 rfl ?_
          refine ev_iload_n dX11_fits_246 rfl ?_
          refine ev_iconst dX11_fits_247 ?_
          refine ev_iadd dX11_fits_248 (by unfold ir; omega) ?_
          refine ev_aload_n dX11_fits_249 rfl ?_
          refine ev_getrv dX11_fits_250 fX11_86 I2.o I2.n rfl I2.v_from ?_
          refine ev_iload dX11_fits_253 rfl ?_
          refine ev_ild dX11_fits_255 I2.k_from I2.n_from rfl (by omega) (by omega) ?_
          refine ev_aload_n dX11_fits_256 rfl ?_
          refine ev_getrv dX11_fits_257 fX11_86 I2.o I2.n rfl I2.v_from ?_
          refine ev_iload dX11_fits_260 rfl ?_
          refine ev_ild dX11_fits_262 I2.k_from I2.n_from rfl (by omega) (by omega) ?_
          refine ev_iconst dX11_fits_263 ?_
          rw [show ((m.1 e.1 : Nat) : Int).toNat = m.1 e.1 from rfl, show ((m.1 e.2.1 : Nat) : Int).toNat = m.1 e.2.1 from rfl, t2]
          refine ev_cvv dX11_fits_264 lX11_251 (s_pairs I2 (by omega) (by omega)) (by decide) I2.o I2.n rfl rfl rfl (Nat.le_of_ble_eq_true rfl) rfl (fun h3 q3 => ?_)
          have a3 : KP h h3 FtA FtF := a2.tr (by rw [q3]; exact ((KP.rf.pr (by decide) (by decide)).pr (by decide) (by decide)).pr (by decide) (by decide))
          refine ev_iin3 dX11_fits_267 (by unfold ir; omega) ?_
          refine ev_gt 10 dX11_fits_270 ?_
          rw [show (st.length : Int) + 3 = (((((fr (m.1 e.1)).toNat, (fr (m.1 e.2.1)).toNat, false) : UE) :: ((to (m.1 e.1)).toNat, (to (m.1 e.2.1)).toNat, false) :: (m.1 e.1, m.1 e.2.1, true) :: st).length : Int) by simp only [List.length_cons]; omega]
          have w2 : ((st.length : Int) + 2).toNat = st.length + 2 := by omega
          have w1 : ((st.length : Int) + 1).toNat = st.length + 1 := by omega
          have w0 : ((st.length : Nat) : Int).toNat = st.length := rfl
          rw [w2] at q3
          rw [w1] at q2
          rw [w0] at q
          refine next _ m h3 _ _ _ _ hu (hK0.tr a3) ?_ ?_ ?_ ?_ (fun k => ?_) (by rw [q3, q2, q]; rfl)
          · rw [q3, q2, q]; exact h69
          · have v : ∀ r i, r ∈ [75, 76, 77] → h3.vl r i = if i = st.length + 2 then (if r = 75 then fr (m.1 e.1) else if r = 76 then fr (m.1 e.2.1) else 0) else if i = st.length + 1 then (if r = 75 then to (m.1 e.1) else if r = 76 then to (m.1 e.2.1) else 0) else if i = st.length then (if r = 75 then (m.1 e.1 : Int) else if r = 76 then (m.1 e.2.1 : Int) else 1) else h.vl r i := by
              intro r i hr
              rw [q3, q2, q]
              simp only [AH.put_vl]
              simp only [List.mem_cons, List.not_mem_nil, or_false] at hr
              rcases hr with rfl | rfl | rfl
              · by_cases z2 : i = st.length + 2
                · simp [z2]
                · by_cases z1 : i = st.length + 1
                  · simp [z1]
                  · by_cases z0 : i = st.length
                    · simp [z0]
                    · simp [z0, z1, z2]
              · by_cases z2 : i = st.length + 2
                · simp [z2]
                · by_cases z1 : i = st.length + 1
                  · simp [z1]
                  · by_cases z0 : i = st.length
                    · simp [z0]
                    · simp [z0, z1, z2]
              · by_cases z2 : i = st.length + 2
                · simp [z2]
                · by_cases z1 : i = st.length + 1
                  · simp [z1]
                  · by_cases z0 : i = st.length
                    · simp [z0]
                    · simp [z0, z1, z2]
            refine ⟨?_, ?_, ?_, ?_, ?_, ?_, ?_, ?_, ?_, ?_⟩
            · show h3.vl 75 (st.length + 2) = _
              rw [v _ _ (by decide), if_pos rfl, if_pos rfl]; show fr (m.1 e.1) = ((fr (m.1 e.1)).toNat : Int); omega
            · show h3.vl 76 (st.length + 2) = _
              rw [v _ _ (by decide), if_pos rfl, if_neg (by decide), if_pos rfl]; show fr (m.1 e.2.1) = ((fr (m.1 e.2.1)).toNat : Int); omega
            · show h3.vl 77 (st.length + 2) = _
              rw [v _ _ (by decide), if_pos rfl, if_neg (by decide), if_neg (by decide)]; rfl
            · show h3.vl 75 (st.length + 1) = _
              rw [v _ _ (by decide), if_neg (by omega), if_pos rfl, if_pos rfl]; show to (m.1 e.1) = ((to (m.1 e.1)).toNat : Int); omega
            · show h3.vl 76 (st.length + 1) = _
              rw [v _ _ (by decide), if_neg (by omega), if_pos rfl, if_neg (by decide), if_pos rfl]; show to (m.1 e.2.1) = ((to (m.1 e.2.1)).toNat : Int); omega
            · show h3.vl 77 (st.length + 1) = _
              rw [v _ _ (by decide), if_neg (by omega), if_pos rfl, if_neg (by decide), if_neg (by decide)]; rfl
            · rw [v _ _ (by decide), if_neg (by omega), if_neg (by omega), if_pos rfl, if_pos rfl]
            · rw [v _ _ (by decide), if_neg (by omega), if_neg (by omega), if_pos rfl, if_neg (by decide), if_pos rfl]
            · rw [v _ _ (by decide), if_neg (by omega), if_neg (by omega), if_pos rfl, if_neg (by decide), if_neg (by decide)]; rfl
            · exact p4.lo (fun r i hr hi => by rw [v _ _ hr, if_neg (by omega), if_neg (by omega), if_neg (by omega)])
          · rw [q3, q2, q]; exact Int.le_refl _
          · rw [q3, q2, q]; show h.vl 42 50 ≤ h.vl 42 50 + 1; omega
          · rw [q3, q2, q]; exact hse k
        rw [if_neg (show ¬ (so (m.1 e.1) = 2 ∧ so (m.1 e.2.1) = 2) from fun z => c7 z.1), if_pos c6] at hu
        refine ev_icmpeq 213 dX11_fits_207 (fun h_no => (by exfalso; omega)) (fun hb6 => ?_)
        refine ev_gt 10 dX11_fits_210 ?_
        exact next st m h _ _ _ _ hu hK0 h69 p4 (Int.le_refl _) (by omega) hse rfl
      rw [if_neg (show ¬ (so (m.1 e.1) = 2 ∧ so (m.1 e.2.1) = 2) from fun z => c6 (by rw [z.1, z.2])), if_neg c6] at hu
      have hu := Option.some.inj hu
      have eR : R = (4, so (m.1 e.1), so (m.1 e.2.1)) := (congrArg Prod.fst hu).symm
      refine ev_icmpeq 199 dX11_fits_176 (fun h_no => (by exfalso; omega)) (fun hb5 => ?_)
      refine ev_aload_n dX11_fits_179 rfl ?_
      refine ev_iconst dX11_fits_180 ?_
      refine ev_aload_n dX11_fits_181 rfl ?_
      refine ev_getrv dX11_fits_182 fX11_83 hI.o hI.n rfl hI.v_sort ?_
      refine ev_iload dX11_fits_185 rfl ?_
      refine ev_ild dX11_fits_187 hI.k_sort hI.n_sort rfl (by omega) (by omega) ?_
      refine ev_aload_n dX11_fits_188 rfl ?_
      refine ev_getrv dX11_fits_189 fX11_83 hI.o hI.n rfl hI.v_sort ?_
      refine ev_iload dX11_fits_192 rfl ?_
      refine ev_ild dX11_fits_194 hI.k_sort hI.n_sort rfl (by omega) (by omega) ?_
      rw [show ((m.1 e.1 : Nat) : Int).toNat = m.1 e.1 from rfl, show ((m.1 e.2.1 : Nat) : Int).toNat = m.1 e.2.1 from rfl, s66]
      refine ev_cvi dX11_fits_195 lX11_259 (s_fails hI) (by decide) hI.o hI.n rfl rfl rfl (Nat.le_of_ble_eq_true rfl) rfl (fun r h2 q => ?_)
      obtain ⟨rfl, eh⟩ := q
      exact ev_iret dX11_fits_198 (⟨_, rfl, by rw [eR], by rw [eh]; exact ((hK0.pf (by decide)).pf (by decide)).pf (by decide), by rw [eh]; exact Int.le_refl _, by rw [eh]; show h.vl 42 50 ≤ _; omega, by rw [eh]; exact hse, fun z => absurd z (by rw [eR]; show (4 : Int) ≠ 0; decide), fun _ => by rw [eh, eR]; exact ⟨rfl, rfl, rfl⟩⟩)
