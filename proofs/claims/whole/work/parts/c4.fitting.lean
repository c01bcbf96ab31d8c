/-! to how many lessons a lesson could be applied: the reference -/
def fgR (A : TE) (LL : Nat → List Nd) (kp : Nat → Option TE) : Nat → Int → Prop
  | 0, x => x = 0
  | k + 1, x => ∃ y r S, fgR A LL kp k y ∧ fnR (LL k) kp r S ∧ (r.1 ≠ 0 → x = y) ∧ (r.1 = 0 → ∃ z, ftdR (cnR A []) (cnR (S.2.1 0) []) z ∧ x = y + (if z = 0 then 0 else 1))
theorem fg_det {A : TE} {LL : Nat → List Nd} {kp : Nat → Option TE} : ∀ (k : Nat) (x y : Int), fgR A LL kp k x → fgR A LL kp k y → x = y
  | 0, x, y, h, h' => by rw [fgR] at h h'; rw [h, h']
  | k + 1, x, y, h, h' => by
    obtain ⟨u, r, S, a1, a2, a3, a4⟩ := h
    obtain ⟨u', r', S', b1, b2, b3, b4⟩ := h'
    obtain ⟨e1, e2⟩ := fnR_det a2 b2
    have e3 := fg_det k _ _ a1 b1
    subst e1 e3
    by_cases c : r.1 = 0
    · have e4 := e2 c
      subst e4
      obtain ⟨z, c1, c2⟩ := a4 c
      obtain ⟨z', d1, d2⟩ := b4 c
      rw [c2, d2, ftd_det c1 d1]
    · rw [a3 c, b3 c]
theorem fg_le {A : TE} {LL : Nat → List Nd} {kp : Nat → Option TE} : ∀ (k : Nat) (x : Int), fgR A LL kp k x → 0 ≤ x ∧ x ≤ (k : Int)
  | 0, x, h => by rw [fgR] at h; omega
  | k + 1, x, h => by
    obtain ⟨u, r, S, a1, a2, a3, a4⟩ := h
    have := fg_le k u a1
    by_cases c : r.1 = 0
    · obtain ⟨z, c1, c2⟩ := a4 c
      rw [c2]
      split <;> omega
    · have := a3 c; omega
abbrev FgF : List Nat := 0 :: BoF
set_option maxRecDepth 100000 in
theorem fg_loop {p : Int} {N : Nat} {LL : Nat → List Nd} {kp : Nat → Option TE} {h0 : AH} {r0 : IR} {S0 : IS} (hI0 : RI h0) (hN0 : NV h0 N LL) (hp : 0 ≤ p ∧ p < (N : Int)) (hr0 : fnR (LL p.toNat) kp r0 S0) (hz0 : r0.1 = 0) : ∀ (n l : Nat) (y : Int) (h : AH), l + n = N → KP h0 h BoA FgF → KpJ h kp → h.vl 42 0 = 0 → fgR (S0.2.1 0) LL kp l y → (0 ≤ h.vl 42 50 ∧ h.vl 42 50 + 415100 * (n : Int) ≤ 2147483000) →
    EV mX11_fitting 12 33 [rv 42, iv p, iv y, iv (l : Int)] [] h (oi fun x h1 => KP h0 h1 BoA FgF ∧ KpJ h1 kp ∧ h1.vl 42 0 = 0 ∧ fgR (S0.2.1 0) LL kp N x ∧ (h.vl 42 50 ≤ h1.vl 42 50 ∧ h1.vl 42 50 ≤ h.vl 42 50 + 415100 * (n : Int)))
  | 0, l, y, h, hl, hK, hJ, ht, hf, hst => by
    obtain rfl : l = N := by omega
    have hI : RI h := hK.ri hI0
    have hN : NV h l LL := hN0.kp hK
    have v0 : h.vl 43 0 = (l : Int) := hN.1
    refine ev_iload_n dX11_fitting_33 rfl ?_
    refine ev_aload_n dX11_fitting_34 rfl ?_
    refine ev_getrv dX11_fitting_35 fX11_13 hI.o hI.n rfl hI.v_v ?_
    refine ev_iconst dX11_fitting_38 ?_
    refine ev_ildv dX11_fitting_39 hI.k_v hI.n_v rfl (by omega) (by omega) v0 ?_
    refine ev_icmpge 80 dX11_fitting_40 (fun hb => ?_) (fun h_no => (by exfalso; omega))
    refine ev_iload_n dX11_fitting_80 rfl ?_
    exact ev_iret dX11_fitting_81 (⟨_, rfl, hK, hJ, ht, hf, by omega⟩)
  | n + 1, l, y, h, hl, hK, hJ, ht, hf, hst => by
    have hI : RI h := hK.ri hI0
    have hN : NV h N LL := hN0.kp hK
    have v0 : h.vl 43 0 = (N : Int) := hN.1
    have hl2 : 0 ≤ (l : Int) ∧ (l : Int) < (N : Int) := by omega
    have y9 := fg_le l y hf
    have n6 := hN.2.1
    have next : ∀ (h3 : AH) (z : Int), KP h0 h3 BoA FgF → KpJ h3 kp → h3.vl 42 0 = 0 → (z = 0 ∨ z = 1) → fgR (S0.2.1 0) LL kp (l + 1) (y + z) → (h.vl 42 50 ≤ h3.vl 42 50 ∧ h3.vl 42 50 ≤ h.vl 42 50 + 415100) → EV mX11_fitting 12 72 [rv 42, iv p, iv y, iv (l : Int)] [iv z, iv y] h3 (oi fun x h1 => KP h0 h1 BoA FgF ∧ KpJ h1 kp ∧ h1.vl 42 0 = 0 ∧ fgR (S0.2.1 0) LL kp N x ∧ (h.vl 42 50 ≤ h1.vl 42 50 ∧ h1.vl 42 50 ≤ h.vl 42 50 + 415100 * ((n + 1 : Nat) : Int))) := by
      intro h3 z a1 a2 a3 a4 a5 a6
      refine ev_iadd dX11_fitting_72 (by unfold ir; omega) ?_
      refine ev_ist2 dX11_fitting_73 ?_
      refine ev_iin3 dX11_fitting_74 (by unfold ir; omega) ?_
      refine ev_gt 33 dX11_fitting_77 ?_
      rw [show (l : Int) + 1 = ((l + 1 : Nat) : Int) by omega]
      refine ev_mono (fg_loop hI0 hN0 hp hr0 hz0 n (l + 1) _ h3 (by omega) a1 a2 a3 a5 (by omega)) fun o h4 q => ?_
      obtain ⟨x, rfl, q1, q2, q3, q4, q5⟩ := q
      exact ⟨x, rfl, q1, q2, q3, q4, by omega⟩
    refine ev_iload_n dX11_fitting_33 rfl ?_
    refine ev_aload_n dX11_fitting_34 rfl ?_
    refine ev_getrv dX11_fitting_35 fX11_13 hI.o hI.n rfl hI.v_v ?_
    refine ev_iconst dX11_fitting_38 ?_
    refine ev_ildv dX11_fitting_39 hI.k_v hI.n_v rfl (by omega) (by omega) v0 ?_
    refine ev_icmpge 80 dX11_fitting_40 (fun h_no => (by exfalso; omega)) (fun hb => ?_)
    refine ev_aload_n dX11_fitting_43 rfl ?_
    refine ev_getiv dX11_fitting_44 fX11_161 hI.o hI.n rfl ht ?_
    refine ev_ifne 80 dX11_fitting_47 (fun h_no => (by exfalso; omega)) (fun hb2 => ?_)
    refine ev_iload_n dX11_fitting_50 rfl ?_
    refine ev_aload_n dX11_fitting_51 rfl ?_
    refine ev_iload_n dX11_fitting_52 rfl ?_
    refine ev_iload_n dX11_fitting_53 rfl ?_
    refine ev_cvi dX11_fitting_54 lX11_400 (s_both hI hN hJ hp hl2 (by omega)) (by decide) hI.o hI.n rfl rfl rfl (Nat.le_of_ble_eq_true rfl) rfl (fun x h1 q0 => ?_)
    obtain ⟨k1, J1, st1, r, S, w1, w⟩ := q0
    obtain ⟨e1, e2⟩ := fnR_det hr0 w1
    have e3 := e2 hz0
    subst e1 e3
    have I1 : RI h1 := k1.ri hI
    have K1 : KP h0 h1 BoA FgF := hK.tr (k1.wk (by decide) (by decide))
    have t1 : h1.vl 42 0 = 0 := by rw [k1.fl]; exact ht
    obtain ⟨-, r', S', w2, w⟩ := w.resolve_left (fun z => z.1 hz0)
    rcases w with ⟨c1, c2⟩ | ⟨c1, c2, tw, z1, z2⟩
    · skip
      refine ev_ifeq 71 dX11_fitting_57 (fun hb3 => ?_) (fun h_no => (by exfalso; omega))
      refine ev_iconst dX11_fitting_71 ?_
      exact next h1 0 K1 J1 t1 (Or.inl rfl) ⟨y, r', S', hf, w2, fun _ => by omega, fun z => absurd z c1⟩ (by omega)
    refine ev_ifeq 71 dX11_fitting_57 (fun h_no => (by exfalso; omega)) (fun hb3 => ?_)
    refine ev_aload_n dX11_fitting_60 rfl ?_
    refine ev_cvi dX11_fitting_61 lX11_412 (s_fitted I1 tw z1 z2 J1.2.2 (by omega)) (by decide) I1.o I1.n rfl rfl rfl (Nat.le_of_ble_eq_true rfl) rfl (fun v h2 q2 => ?_)
    obtain ⟨y1, k2, sn2, st2⟩ := q2
    have I2 : RI h2 := k2.ri I1
    have K2 : KP h0 h2 BoA FgF := K1.tr (k2.wk (by decide) (by decide))
    have J2 : KpJ h2 kp := J1.st k2 sn2
    have t2 : h2.vl 42 0 = 0 := by rw [k2.fl]; exact t1
    have v9 := ftd_0 y1
    by_cases d : v = 0
    · skip
      refine ev_ifle 71 dX11_fitting_64 (fun hb4 => ?_) (fun h_no => (by exfalso; omega))
      refine ev_iconst dX11_fitting_71 ?_
      exact next h2 0 K2 J2 t2 (Or.inl rfl) ⟨y, r', S', hf, w2, fun z => absurd c1 z, fun _ => ⟨v, y1, by rw [if_pos d]⟩⟩ (by omega)
    refine ev_ifle 71 dX11_fitting_64 (fun h_no => (by exfalso; omega)) (fun hb4 => ?_)
    refine ev_iconst dX11_fitting_67 ?_
    refine ev_gt 72 dX11_fitting_68 ?_
    exact next h2 1 K2 J2 t2 (Or.inr rfl) ⟨y, r', S', hf, w2, fun z => absurd c1 z, fun _ => ⟨v, y1, by rw [if_neg d]⟩⟩ (by omega)
set_option maxRecDepth 100000 in
theorem r_fitting {p : Int} {N : Nat} {LL : Nat → List Nd} {kp : Nat → Option TE} {h : AH} (hI : RI h) (hN : NV h N LL) (hK : KpJ h kp) (hst : 0 ≤ h.vl 42 50 ∧ h.vl 42 50 + 2700000 ≤ 2147483000) :
    CV mX11_fitting 12 [rv 42, iv p] h (oi fun x h1 => KP h h1 BoA FgF ∧ KpJ h1 kp ∧ (h.vl 42 50 ≤ h1.vl 42 50 ∧ h1.vl 42 50 ≤ h.vl 42 50 + 2700000) ∧ ((¬ (0 ≤ p ∧ p < (N : Int)) ∧ h1.vl 42 0 = 1) ∨ ((0 ≤ p ∧ p < (N : Int)) ∧ ∃ r S, fnR (LL p.toNat) kp r S ∧ ((r.1 ≠ 0 ∧ h1.vl 42 0 = 2) ∨ (r.1 = 0 ∧ h1.vl 42 0 = 0 ∧ fgR (S.2.1 0) LL kp N x))))) := by
  have n6 := hN.2.1
  refine cv_of cdX11_fitting ?_
  show EV _ _ 0 [rv 42, iv p, uv, uv] [] h _
  have bad : ∀ (k : Int) (h1 h2 : AH), k ≠ 0 → h2 = h1.put 42 0 k → RI h1 → NV h1 N LL → KP h h1 BoA FgF → KpJ h1 kp → (h.vl 42 50 ≤ h1.vl 42 50 ∧ h1.vl 42 50 ≤ h.vl 42 50 + 2700000) → (∀ x, (¬ (0 ≤ p ∧ p < (N : Int)) ∧ k = 1) ∨ ((0 ≤ p ∧ p < (N : Int)) ∧ ∃ r S, fnR (LL p.toNat) kp r S ∧ ((r.1 ≠ 0 ∧ k = 2) ∨ (r.1 = 0 ∧ k = 0 ∧ fgR (S.2.1 0) LL kp N x)))) → EV mX11_fitting 12 29 [rv 42, iv p, uv, uv] [] h2 (oi fun x h1 => KP h h1 BoA FgF ∧ KpJ h1 kp ∧ (h.vl 42 50 ≤ h1.vl 42 50 ∧ h1.vl 42 50 ≤ h.vl 42 50 + 2700000) ∧ ((¬ (0 ≤ p ∧ p < (N : Int)) ∧ h1.vl 42 0 = 1) ∨ ((0 ≤ p ∧ p < (N : Int)) ∧ ∃ r S, fnR (LL p.toNat) kp r S ∧ ((r.1 ≠ 0 ∧ h1.vl 42 0 = 2) ∨ (r.1 = 0 ∧ h1.vl 42 0 = 0 ∧ fgR (S.2.1 0) LL kp N x))))) := by
    intro k h1 h2 hk e2 I1 N1 K1 J1 s1 ha
    have k2 : KP h1 h2 [] [0] := by rw [e2]; exact KP.rf.pf (by decide)
    have I2 : RI h2 := k2.ri I1
    have t0 : h2.vl 42 0 = k := by rw [e2]; rfl
    have f50 : h2.vl 42 50 = h1.vl 42 50 := k2.fl
    have v0 : h2.vl 43 0 = (N : Int) := (N1.kp k2).1
    have fin : K1.tr (k2.wk (by decide) (by decide)) = K1.tr (k2.wk (by decide) (by decide)) := rfl
    refine ev_iconst dX11_fitting_29 ?_
    refine ev_ist2 dX11_fitting_30 ?_
    refine ev_iconst dX11_fitting_31 ?_
    refine ev_ist3 dX11_fitting_32 ?_
    refine ev_iload_n dX11_fitting_33 rfl ?_
    refine ev_aload_n dX11_fitting_34 rfl ?_
    refine ev_getrv dX11_fitting_35 fX11_13 I2.o I2.n rfl I2.v_v ?_
    refine ev_iconst dX11_fitting_38 ?_
    refine ev_ildv dX11_fitting_39 I2.k_v I2.n_v rfl (by omega) (by omega) v0 ?_
    by_cases c : (N : Int) ≤ 0
    · skip
      refine ev_icmpge 80 dX11_fitting_40 (fun hb => ?_) (fun h_no => (by exfalso; omega))
      refine ev_iload_n dX11_fitting_80 rfl ?_
      exact ev_iret dX11_fitting_81 (⟨_, rfl, K1.tr (k2.wk (by decide) (by decide)), J1.kp k2, by omega, by rw [t0]; exact ha _⟩)
    refine ev_icmpge 80 dX11_fitting_40 (fun h_no => (by exfalso; omega)) (fun hb => ?_)
    refine ev_aload_n dX11_fitting_43 rfl ?_
    refine ev_getiv dX11_fitting_44 fX11_161 I2.o I2.n rfl t0 ?_
    refine ev_ifne 80 dX11_fitting_47 (fun hb2 => ?_) (fun h_no => (by exfalso; omega))
    refine ev_iload_n dX11_fitting_80 rfl ?_
    exact ev_iret dX11_fitting_81 (⟨_, rfl, K1.tr (k2.wk (by decide) (by decide)), J1.kp k2, by omega, by rw [t0]; exact ha _⟩)
  by_cases hp : 0 ≤ p ∧ p < (N : Int)
  · skip
    refine ev_aload_n dX11_fitting_0 rfl ?_
    refine ev_aload_n dX11_fitting_1 rfl ?_
    refine ev_iload_n dX11_fitting_2 rfl ?_
    refine ev_cvi dX11_fitting_3 lX11_361 (i_les1 hI hN hp) (by decide) hI.o hI.n rfl rfl rfl (Nat.le_of_ble_eq_true rfl) rfl (fun r z1 q => ?_)
    obtain ⟨rfl, e⟩ := q
    rw [e]
    refine ev_ifne 13 dX11_fitting_6 (fun hbr => ?_) (fun h_no => (by exfalso; omega))
    refine ev_aload_n dX11_fitting_13 rfl ?_
    refine ev_iload_n dX11_fitting_14 rfl ?_
    refine ev_cvi dX11_fitting_15 lX11_367 (i_finds hI hN hK hp (by omega)) (by decide) hI.o hI.n rfl rfl rfl (Nat.le_of_ble_eq_true rfl) rfl (fun x h1 q => ?_)
    obtain ⟨q, K1⟩ := q
    obtain ⟨q1, q2, q3, r, S, q4, q5, q6, q7⟩ := q
    have I1 : RI h1 := q1.ri hI
    have N1 : NV h1 N LL := hN.kp q1
    by_cases c : r.1 = 0
    · skip
      rw [if_pos c] at q6
      refine ev_ifeq 25 dX11_fitting_18 (fun h_no => (by exfalso; omega)) (fun hb => ?_)
      refine ev_iconst dX11_fitting_21 ?_
      refine ev_gt 26 dX11_fitting_22 ?_
      refine ev_pt dX11_fitting_26 fX11_161 I1.o I1.n rfl ?_
      obtain ⟨h2, e2⟩ : ∃ h2, h2 = h1.put 42 0 0 := ⟨_, rfl⟩
      rw [← e2]
      have k2 : KP h1 h2 [] [0] := by rw [e2]; exact KP.rf.pf (by decide)
      have I2 : RI h2 := k2.ri I1
      have t0 : h2.vl 42 0 = 0 := by rw [e2]; rfl
      have f50 : h2.vl 42 50 = h1.vl 42 50 := k2.fl
      have K2 : KP h h2 BoA FgF := (q1.wk (by decide) (by decide)).tr (k2.wk (by decide) (by decide))
      refine ev_iconst dX11_fitting_29 ?_
      refine ev_ist2 dX11_fitting_30 ?_
      refine ev_iconst dX11_fitting_31 ?_
      refine ev_ist3 dX11_fitting_32 ?_
      refine ev_mono (fg_loop I2 (N1.kp k2) hp q4 c N 0 0 h2 (Nat.zero_add _) KP.rf (K1.kp k2) t0 rfl (by omega)) fun o h4 q => ?_
      obtain ⟨x4, rfl, p1, p2, p3, p4, p5⟩ := q
      exact ⟨x4, rfl, K2.tr p1, p2, by omega, Or.inr ⟨hp, r, S, q4, Or.inr ⟨c, p3, p4⟩⟩⟩
    rw [if_neg c] at q6
    refine ev_ifeq 25 dX11_fitting_18 (fun hb => ?_) (fun h_no => (by exfalso; omega))
    refine ev_iconst dX11_fitting_25 ?_
    refine ev_pt dX11_fitting_26 fX11_161 I1.o I1.n rfl ?_
    exact bad 2 h1 _ (by decide) rfl I1 N1 (q1.wk (by decide) (by decide)) K1 (by omega) (fun x => Or.inr ⟨hp, r, S, q4, Or.inl ⟨c, rfl⟩⟩)
  refine ev_aload_n dX11_fitting_0 rfl ?_
  refine ev_aload_n dX11_fitting_1 rfl ?_
  refine ev_iload_n dX11_fitting_2 rfl ?_
  refine ev_cvi dX11_fitting_3 lX11_361 (i_les0 hI hN hp) (by decide) hI.o hI.n rfl rfl rfl (Nat.le_of_ble_eq_true rfl) rfl (fun r z1 q => ?_)
  obtain ⟨rfl, e⟩ := q
  rw [e]
  refine ev_ifne 13 dX11_fitting_6 (fun h_no => (by exfalso; omega)) (fun hbr => ?_)
  refine ev_iconst dX11_fitting_9 ?_
  refine ev_gt 26 dX11_fitting_10 ?_
  refine ev_pt dX11_fitting_26 fX11_161 hI.o hI.n rfl ?_
  exact bad 1 h _ (by decide) rfl hI hN KP.rf hK (by omega) (fun x => Or.inl ⟨hp, rfl⟩)
