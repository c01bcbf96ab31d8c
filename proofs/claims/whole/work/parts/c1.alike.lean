/-! two lessons of the same type: the reference -/
def AlP (u v : Nat → Int) (i : Nat) : Prop := ∀ j, j < i → u j = v j
theorem AlP.st {u v : Nat → Int} {i : Nat} : AlP u v (i + 1) ↔ AlP u v i ∧ u i = v i := by
  constructor
  · exact fun h => ⟨fun j hj => h j (by omega), h i (by omega)⟩
  · rintro ⟨h1, h2⟩ j hj
    by_cases z : j = i
    · rw [z]; exact h2
    · exact h1 j (by omega)
set_option maxRecDepth 100000 in
theorem al_loop {h : AH} {p q : Int} {f : Nat} (hI : RI h) (hf : f ≤ 209) (h73 : h.vl 42 73 = (f : Int)) : ∀ (n i : Nat) (b : Int), i + n = f → (b = 0 ∨ b = 1) → (b = 1 ↔ AlP (h.vl 79) (h.vl 80) i) → EV mX11_isAlike 12 35 [rv 42, iv p, iv q, iv b, iv (i : Int)] [] h (oi fun x h1 => (x = 0 ∨ x = 1) ∧ (x = 1 ↔ AlP (h.vl 79) (h.vl 80) f) ∧ h1 = h)
  | 0, i, b, hi, hb, hs => by
    obtain rfl : i = f := by omega
    refine ev_iload dX11_isAlike_35 rfl ?_
    refine ev_aload_n dX11_isAlike_37 rfl ?_
    refine ev_getiv dX11_isAlike_38 fX11_394 hI.o hI.n rfl h73 ?_
    refine ev_icmpge 75 dX11_isAlike_41 (fun hc => ?_) (fun h_no => (by exfalso; omega))
    refine ev_iload_n dX11_isAlike_75 rfl ?_
    exact ev_zret dX11_isAlike_76 (⟨_, rfl, hb, hs, rfl⟩) (by omega)
  | n + 1, i, b, hi, hb, hs => by
    have p67 : ∀ y : Int, (y = 0 ∨ y = 1) → (y = 1 ↔ h.vl 79 i = h.vl 80 i) → EV mX11_isAlike 12 67 [rv 42, iv p, iv q, iv b, iv (i : Int)] [iv y, iv b] h (oi fun x h1 => (x = 0 ∨ x = 1) ∧ (x = 1 ↔ AlP (h.vl 79) (h.vl 80) f) ∧ h1 = h) := by
      intro y hy hy2
      obtain ⟨a1, a2⟩ := ian_b hb hy
      refine ev_iand dX11_isAlike_67 ?_
      refine ev_ist3 dX11_isAlike_68 ?_
      refine ev_iin4 dX11_isAlike_69 (by unfold ir; omega) ?_
      refine ev_gt 35 dX11_isAlike_72 ?_
      rw [show (i : Int) + 1 = ((i + 1 : Nat) : Int) by omega]
      exact al_loop hI hf h73 n (i + 1) _ (by omega) a1 (by rw [a2, hs, hy2, AlP.st])
    obtain ⟨x1, e1⟩ : ∃ x1, h.vl 79 i = x1 := ⟨_, rfl⟩
    obtain ⟨x2, e2⟩ : ∃ x2, h.vl 80 i = x2 := ⟨_, rfl⟩
    rw [e1, e2] at p67
    refine ev_iload dX11_isAlike_35 rfl ?_
    refine ev_aload_n dX11_isAlike_37 rfl ?_
    refine ev_getiv dX11_isAlike_38 fX11_394 hI.o hI.n rfl h73 ?_
    refine ev_icmpge 75 dX11_isAlike_41 (fun h_no => (by exfalso; omega)) (fun hc => ?_)
    refine ev_iload_n dX11_isAlike_44 rfl ?_
    refine ev_aload_n dX11_isAlike_45 rfl ?_
    refine ev_getrv dX11_isAlike_46 fX11_122 hI.o hI.n rfl hI.v_one ?_
    refine ev_iload dX11_isAlike_49 rfl ?_
    refine ev_ildv dX11_isAlike_51 hI.k_one hI.n_one rfl (by omega) (by omega) e1 ?_
    refine ev_aload_n dX11_isAlike_52 rfl ?_
    refine ev_getrv dX11_isAlike_53 fX11_125 hI.o hI.n rfl hI.v_two ?_
    refine ev_iload dX11_isAlike_56 rfl ?_
    refine ev_ildv dX11_isAlike_58 hI.k_two hI.n_two rfl (by omega) (by omega) e2 ?_
    by_cases c : x1 = x2
    · skip
      refine ev_icmpne 66 dX11_isAlike_59 (fun h_no => (by exfalso; omega)) (fun hd => ?_)
      refine ev_iconst dX11_isAlike_62 ?_
      refine ev_gt 67 dX11_isAlike_63 ?_
      exact p67 1 (Or.inr rfl) ⟨fun _ => c, fun _ => rfl⟩
    refine ev_icmpne 66 dX11_isAlike_59 (fun hd => ?_) (fun h_no => (by exfalso; omega))
    refine ev_iconst dX11_isAlike_66 ?_
    exact p67 0 (Or.inl rfl) ⟨fun z => absurd z (by decide), fun z => absurd z c⟩
set_option maxRecDepth 100000 in
theorem r_isAlike {p q : Int} {N : Nat} {LL : Nat → List Nd} {kp : Nat → Option TE} {h : AH} (hI : RI h) (hN : NV h N LL) (hK : KpJ h kp) (hst : 0 ≤ h.vl 42 50 ∧ h.vl 42 50 + 412020 ≤ 2147483000) :
    CV mX11_isAlike 12 [rv 42, iv p, iv q] h (oi fun x h1 => KP h h1 BoA (0 :: BoF) ∧ KpJ h1 kp ∧ (h.vl 42 50 ≤ h1.vl 42 50 ∧ h1.vl 42 50 ≤ h.vl 42 50 + 412020) ∧ ((¬ ((0 ≤ p ∧ p < (N : Int)) ∧ (0 ≤ q ∧ q < (N : Int))) ∧ h1.vl 42 0 = 1) ∨ (((0 ≤ p ∧ p < (N : Int)) ∧ (0 ≤ q ∧ q < (N : Int))) ∧ ((h1.vl 42 0 = 2 ∧ ∃ g, BoR (LL p.toNat) (LL q.toNat) kp 0 g) ∨ (h1.vl 42 0 = 0 ∧ (x = 0 ∨ x = 1) ∧ ∃ r S r' S', fnR (LL p.toNat) kp r S ∧ r.1 = 0 ∧ fnR (LL q.toNat) kp r' S' ∧ r'.1 = 0 ∧ (x = 1 ↔ (cnT (S.2.1 0) []).1 = (cnT (S'.2.1 0) []).1)))))) := by
  refine cv_of cdX11_isAlike ?_
  show EV _ _ 0 [rv 42, iv p, iv q, uv, uv] [] h _
  refine ev_aload_n dX11_isAlike_0 rfl ?_
  refine ev_aload_n dX11_isAlike_1 rfl ?_
  refine ev_iload_n dX11_isAlike_2 rfl ?_
  refine ev_iload_n dX11_isAlike_3 rfl ?_
  refine ev_cvi dX11_isAlike_4 lX11_403 (s_twoLessons hI hN hK hst) (by decide) hI.o hI.n rfl rfl rfl (Nat.le_of_ble_eq_true rfl) rfl (fun x h1 q0 => ?_)
  obtain ⟨k1, J1, t1, q0⟩ := q0
  have I1 : RI h1 := k1.ri hI
  obtain ⟨h2, e2⟩ : ∃ h2, h2 = h1.put 42 0 x := ⟨_, rfl⟩
  have k2 : KP h1 h2 [] [0] := by rw [e2]; exact KP.rf.pf (by decide)
  have I2 : RI h2 := k2.ri I1
  have t0 : h2.vl 42 0 = x := by rw [e2]; rfl
  have f50 : h2.vl 42 50 = h1.vl 42 50 := k2.fl
  have K2 : KP h h2 BoA (0 :: BoF) := (k1.wk (by decide) (by decide)).tr (k2.wk (by decide) (by decide))
  have J2 : KpJ h2 kp := J1.kp k2
  refine ev_pt dX11_isAlike_7 fX11_161 I1.o I1.n rfl ?_
  rw [← e2]
  refine ev_aload_n dX11_isAlike_10 rfl ?_
  refine ev_getiv dX11_isAlike_11 fX11_161 I2.o I2.n rfl t0 ?_
  by_cases c : x = 0
  · skip
    obtain ⟨hin, r, S, w1, w⟩ : ((0 ≤ p ∧ p < (N : Int)) ∧ (0 ≤ q ∧ q < (N : Int))) ∧ BoR (LL p.toNat) (LL q.toNat) kp 1 h1 := by
      rcases q0 with ⟨_, z⟩ | ⟨a, ⟨z, b⟩ | ⟨z, b⟩⟩
      · omega
      · exact ⟨a, b⟩
      · omega
    obtain ⟨c1, r', S', w2, w⟩ := w.resolve_left (fun z => absurd z.2 (by decide))
    obtain ⟨c2, -, ⟨⟨u1, u2⟩, u3, u4⟩, z1, z2⟩ := w.resolve_left (fun z => absurd z.2 (by decide))
    have v1 : h2.vl 42 73 = (sz (S.2.1 0) : Int) := (k2.fl).trans u1
    have v2 : h2.vl 42 74 = (sz (S'.2.1 0) : Int) := (k2.fl).trans u3
    have r1 : RwA (h2.vl 79) 0 (cnT (S.2.1 0) []).1 := by rw [k2.vl]; exact u2
    have r2 : RwA (h2.vl 80) 0 (cnT (S'.2.1 0) []).1 := by rw [k2.vl]; exact u4
    refine ev_ifne 28 dX11_isAlike_14 (fun h_no => (by exfalso; omega)) (fun hb => ?_)
    refine ev_aload_n dX11_isAlike_17 rfl ?_
    refine ev_getiv dX11_isAlike_18 fX11_394 I2.o I2.n rfl v1 ?_
    refine ev_aload_n dX11_isAlike_21 rfl ?_
    refine ev_getiv dX11_isAlike_22 fX11_397 I2.o I2.n rfl v2 ?_
    by_cases d : sz (S.2.1 0) = sz (S'.2.1 0)
    · skip
      refine ev_icmpeq 30 dX11_isAlike_25 (fun hb2 => ?_) (fun h_no => (by exfalso; omega))
      refine ev_iconst dX11_isAlike_30 ?_
      refine ev_ist3 dX11_isAlike_31 ?_
      refine ev_iconst dX11_isAlike_32 ?_
      refine ev_ist4 dX11_isAlike_33 ?_
      refine ev_mono (al_loop I2 (by omega) v1 (sz (S.2.1 0)) 0 1 (by omega) (Or.inr rfl) ⟨fun _ j hj => absurd hj (Nat.not_lt_zero _), fun _ => rfl⟩) fun o h3 q3 => ?_
      obtain ⟨y, rfl, y1, y2, rfl⟩ := q3
      refine ⟨y, rfl, K2, J2, by omega, Or.inr ⟨hin, Or.inr ⟨t0.trans c, y1, r, S, r', S', w1, c1, w2, c2, ?_⟩⟩⟩
      rw [y2]
      constructor
      · intro g
        refine List.ext_getElem (by rw [cn_len, cn_len, d]) fun i a b => ?_
        rw [← r1 i a, ← r2 i b, Nat.zero_add]
        exact g i (by rw [cn_len] at a; exact a)
      · intro g j hj
        have a1 := r1 j (by rw [cn_len]; exact hj)
        have a2 := r2 j (by rw [cn_len, ← d]; exact hj)
        rw [Nat.zero_add] at a1 a2
        rw [a1, a2]
        simp only [g]
    refine ev_icmpeq 30 dX11_isAlike_25 (fun h_no => (by exfalso; omega)) (fun hb2 => ?_)
    refine ev_iconst dX11_isAlike_28 ?_
    exact ev_zret dX11_isAlike_29 (⟨_, rfl, K2, J2, by omega, Or.inr ⟨hin, Or.inr ⟨t0.trans c, Or.inl rfl, r, S, r', S', w1, c1, w2, c2, ⟨fun z => absurd z (by decide), fun z => absurd (by rw [← cn_len (S.2.1 0) [], ← cn_len (S'.2.1 0) [], z]) d⟩⟩⟩⟩) (by omega)
  refine ev_ifne 28 dX11_isAlike_14 (fun hb => ?_) (fun h_no => (by exfalso; omega))
  refine ev_iconst dX11_isAlike_28 ?_
  exact ev_zret dX11_isAlike_29 (⟨_, rfl, K2, J2, by omega, q0.imp (fun z => ⟨z.1, t0.trans z.2⟩) (fun z => ⟨z.1, Or.inl (z.2.elim (fun y => absurd y.1 c) (fun y => ⟨t0.trans y.1, _, y.2⟩))⟩)⟩) (by omega)
