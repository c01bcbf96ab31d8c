/-! the second way: the loop -/
section VSt
variable {h0 : AH} {a0 K0 : Nat → Nat} {L : List Nd} {kp : Nat → Option TE} {tc : Nat} {h : AH} {a K : Nat → Nat} {nv : Nat} {G : Nat → TE} {Gn : Nat → Prop} {N e yl xc yc : Nat} {T : Nat → TE} {τ : Nat → Nat} {st : List (Nat × Int × Int)} {s x gz lz res i : Int} {fv : Nat → Int} {v5 : AV} {Q : AV → AH → Prop} {Q1 : AH → Prop}
set_option maxRecDepth 100000 in
/-- one step more, where no pair is to fit -/
theorem gv_step (q : AtV h0 a0 K0 L kp tc nv G Gn N T τ ((e, s, x) :: st) gz lz fv yl res h a K) (hi : 0 ≤ i ∧ i < 1000000) (hgz : gz ≤ 300) (hc : CV mX0_goOn 8 [rv 8, rv (tc : Int), rv 31, iv (e : Int)] h (on Q1)) (kk : ∀ h1, Q1 h1 → EV mX0_goThrough 9 8 [rv 8, rv (tc : Int), rv 31, iv 1, iv (i + 1), v5] [] h1 Q) (hk : ∀ h1, Q1 h1 → h1.kd 8 = (1, 14) ∧ 8 < h1.n) :
    EV mX0_goThrough 9 8 [rv 8, rv (tc : Int), rv 31, iv 1, iv i, v5] [] h Q := by
  obtain ⟨f, hs, hp, hf, ⟨h9, h5⟩, hv, hy, hr⟩ := q
  have g := f.g
  have w1 := g.1.v8_1
  have v0 := g.1.v8_0
  have p9 := hs.2.1.1
  have p9 : h.vl 9 9 = 0 := p9
  refine ev_iload dX0_goThrough_8 rfl ?_
  refine ev_ldci (x := 1000000) dX0_goThrough_10 q_kst1 (by decide) (by unfold ir; omega) ?_
  refine ev_icmpge 74 dX0_goThrough_12 (fun h_no => (by exfalso; omega)) (fun hb => ?_)
  refine ev_aload_n dX0_goThrough_15 rfl ?_
  refine ev_cvi dX0_goThrough_16 lX0_46 (s_isGoing g hp hf.1 h9) (by decide) g.1.k8 g.1.n8 rfl rfl rfl (Nat.le_of_ble_eq_true rfl) rfl (fun r z q9 => ?_)
  obtain ⟨r1, eq⟩ := q9
  rw [r1, eq, if_pos ⟨List.cons_ne_nil _ _, rfl, hgz⟩]
  refine ev_ifeq 74 dX0_goThrough_19 (fun h_no => (by exfalso; omega)) (fun hb2 => ?_)
  refine ev_aload_n dX0_goThrough_22 rfl ?_
  refine ev_getrv dX0_goThrough_23 fX0_12 g.1.k8 g.1.n8 rfl v0 ?_
  refine ev_getiv dX0_goThrough_26 fX0_50 g.1.k9 g.1.n9 rfl p9 ?_
  refine ev_ifle 55 dX0_goThrough_29 (fun hb3 => ?_) (fun h_no => (by exfalso; omega))
  refine ev_aload_n dX0_goThrough_55 rfl ?_
  refine ev_aload_n dX0_goThrough_56 rfl ?_
  refine ev_aload_n dX0_goThrough_57 rfl ?_
  refine ev_aload_n dX0_goThrough_58 rfl ?_
  refine ev_getrv dX0_goThrough_59 fX0_21 g.1.k8 g.1.n8 rfl w1 ?_
  refine ev_cvi dX0_goThrough_62 lX0_62 (s_node g hp) (by decide) g.1.k19 g.1.n19 rfl rfl rfl (Nat.le_of_ble_eq_true rfl) rfl (fun r z q9 => ?_)
  obtain ⟨r1, eq⟩ := q9
  rw [r1, eq]
  refine ev_cvv dX0_goThrough_65 lX0_65 (hc) (by decide) g.1.k8 g.1.n8 rfl rfl rfl (Nat.le_of_ble_eq_true rfl) rfl (fun h1 q1 => ?_)
  obtain ⟨k8, n8⟩ := hk h1 q1
  refine ev_iin4 dX0_goThrough_68 (by unfold ir; omega) ?_
  refine ev_gt 8 dX0_goThrough_71 ?_
  exact kk h1 q1
set_option maxRecDepth 100000 in
/-- where it does not go on -/
theorem gv_bad (q : BaV h0 a0 K0 L kp tc h) : EV mX0_goThrough 9 8 [rv 8, rv (tc : Int), rv 31, iv 1, iv i, v5] [] h (oi fun x h1 => x = 0 ∧ h1 = h) := by
  obtain ⟨r, gz, hf, h9, hr, a, K, f, hK, st, hp⟩ := q
  have g := f.g
  have hT := f.2.2.2.1.l
  have f10 := hf.1
  have f7 := f.2.2.2.2.2
  have tc1 := hT.t.o.2
  have out : ∀ (j : Int) (v5 : AV), EV mX0_goThrough 9 136 [rv 8, rv (tc : Int), rv 31, iv 1, iv j, v5] [] h (oi fun x h1 => x = 0 ∧ h1 = h) := by
    intro j v5
    refine ev_aload_n dX0_goThrough_136 rfl ?_
    refine ev_getiv dX0_goThrough_137 fX0_74 g.1.k8 g.1.n8 rfl f10 ?_
    by_cases d : r.1 = 0
    · skip
      have d2 := hr.resolve_left (fun z => z d)
      refine ev_ifne 157 dX0_goThrough_140 (fun h_no => (by exfalso; omega)) (fun hb => ?_)
      refine ev_aload_n dX0_goThrough_143 rfl ?_
      refine ev_getiv dX0_goThrough_144 fX0_93 g.1.k8 g.1.n8 rfl h9 ?_
      refine ev_sipush dX0_goThrough_147 ?_
      refine ev_icmpgt 157 dX0_goThrough_150 (fun hb2 => ?_) (fun h_no => (by exfalso; omega))
      refine ev_iconst dX0_goThrough_157 ?_
      exact ev_zret dX0_goThrough_158 (⟨_, rfl, rfl, rfl⟩) (by omega)
    refine ev_ifne 157 dX0_goThrough_140 (fun hb => ?_) (fun h_no => (by exfalso; omega))
    refine ev_iconst dX0_goThrough_157 ?_
    exact ev_zret dX0_goThrough_158 (⟨_, rfl, rfl, rfl⟩) (by omega)
  have lp : ∀ v5 : AV, EV mX0_goThrough 9 74 [rv 8, rv (tc : Int), rv 31, iv 1, iv i, v5] [] h (oi fun x h1 => x = 0 ∧ h1 = h) := by
    intro v5
    refine ev_iconst dX0_goThrough_74 ?_
    refine ev_ist4 dX0_goThrough_75 ?_
    refine ev_iload dX0_goThrough_77 rfl ?_
    refine ev_aload_n dX0_goThrough_79 rfl ?_
    refine ev_getiv dX0_goThrough_80 fX0_69 hT.t.o.1.1 hT.t.o.1.2 rfl tc1 ?_
    by_cases d : L.length = 0
    · skip
      refine ev_icmpge 136 dX0_goThrough_83 (fun hb => ?_) (fun h_no => (by exfalso; omega))
      exact out 0 v5
    refine ev_icmpge 136 dX0_goThrough_83 (fun h_no => (by exfalso; omega)) (fun hb => ?_)
    refine ev_aload_n dX0_goThrough_86 rfl ?_
    refine ev_getiv dX0_goThrough_87 fX0_74 g.1.k8 g.1.n8 rfl f10 ?_
    by_cases d2 : r.1 = 0
    · skip
      refine ev_ifne 136 dX0_goThrough_90 (fun h_no => (by exfalso; omega)) (fun hb2 => ?_)
      refine ev_aload_n dX0_goThrough_93 rfl ?_
      refine ev_getiv dX0_goThrough_94 fX0_77 g.1.k8 g.1.n8 rfl f7 ?_
      refine ev_ifne 136 dX0_goThrough_97 (fun hb3 => ?_) (fun h_no => (by exfalso; omega))
      exact out 0 v5
    refine ev_ifne 136 dX0_goThrough_90 (fun hb2 => ?_) (fun h_no => (by exfalso; omega))
    exact out 0 v5
  refine ev_iload dX0_goThrough_8 rfl ?_
  refine ev_ldci (x := 1000000) dX0_goThrough_10 q_kst1 (by decide) (by unfold ir; omega) ?_
  by_cases d : 1000000 ≤ i
  · skip
    refine ev_icmpge 74 dX0_goThrough_12 (fun hb => ?_) (fun h_no => (by exfalso; omega))
    exact lp v5
  refine ev_icmpge 74 dX0_goThrough_12 (fun h_no => (by exfalso; omega)) (fun hb => ?_)
  refine ev_aload_n dX0_goThrough_15 rfl ?_
  refine ev_cvi dX0_goThrough_16 lX0_46 (s_isGoing g hp f10 h9) (by decide) g.1.k8 g.1.n8 rfl rfl rfl (Nat.le_of_ble_eq_true rfl) rfl (fun rr z q9 => ?_)
  obtain ⟨r1, eq⟩ := q9
  rw [r1, eq, if_neg (fun z => by rcases hr with w | w; exact w z.2.1; have := z.2.2; omega)]
  refine ev_ifeq 74 dX0_goThrough_19 (fun hb2 => ?_) (fun h_no => (by exfalso; omega))
  exact lp v5
set_option maxRecDepth 100000 in
/-- where it has gone through -/
theorem gv_end (q : AtV h0 a0 K0 L kp tc nv G Gn N T τ [] gz lz fv yl res h a K) (hi : 0 ≤ i ∧ i < 1000000) (hgz : gz ≤ 300) : EV mX0_goThrough 9 8 [rv 8, rv (tc : Int), rv 31, iv 1, iv i, v5] [] h (oi fun x h1 => x = 1 ∧ h1 = h) := by
  obtain ⟨f, hs, hp, hf, ⟨h9, h5⟩, hv, hy, hr⟩ := q
  have g := f.g
  have hT := f.2.2.2.1.l
  have f10 := hf.1
  have f7 := f.2.2.2.2.2
  have tc1 := hT.t.o.2
  have out : ∀ (j : Int) (v5 : AV), EV mX0_goThrough 9 136 [rv 8, rv (tc : Int), rv 31, iv 1, iv j, v5] [] h (oi fun x h1 => x = 1 ∧ h1 = h) := by
    intro j v5
    refine ev_aload_n dX0_goThrough_136 rfl ?_
    refine ev_getiv dX0_goThrough_137 fX0_74 g.1.k8 g.1.n8 rfl f10 ?_
    refine ev_ifne 157 dX0_goThrough_140 (fun h_no => (by exfalso; omega)) (fun hb => ?_)
    refine ev_aload_n dX0_goThrough_143 rfl ?_
    refine ev_getiv dX0_goThrough_144 fX0_93 g.1.k8 g.1.n8 rfl h9 ?_
    refine ev_sipush dX0_goThrough_147 ?_
    refine ev_icmpgt 157 dX0_goThrough_150 (fun h_no => (by exfalso; omega)) (fun hb2 => ?_)
    refine ev_iconst dX0_goThrough_153 ?_
    refine ev_gt 158 dX0_goThrough_154 ?_
    exact ev_zret dX0_goThrough_158 (⟨_, rfl, rfl, rfl⟩) (by omega)
  refine ev_iload dX0_goThrough_8 rfl ?_
  refine ev_ldci (x := 1000000) dX0_goThrough_10 q_kst1 (by decide) (by unfold ir; omega) ?_
  refine ev_icmpge 74 dX0_goThrough_12 (fun h_no => (by exfalso; omega)) (fun hb => ?_)
  refine ev_aload_n dX0_goThrough_15 rfl ?_
  refine ev_cvi dX0_goThrough_16 lX0_46 (s_isGoing g hp f10 h9) (by decide) g.1.k8 g.1.n8 rfl rfl rfl (Nat.le_of_ble_eq_true rfl) rfl (fun rr z q9 => ?_)
  obtain ⟨r1, eq⟩ := q9
  rw [r1, eq, if_neg (fun z => z.1 rfl)]
  refine ev_ifeq 74 dX0_goThrough_19 (fun hb2 => ?_) (fun h_no => (by exfalso; omega))
  refine ev_iconst dX0_goThrough_74 ?_
  refine ev_ist4 dX0_goThrough_75 ?_
  refine ev_iload dX0_goThrough_77 rfl ?_
  refine ev_aload_n dX0_goThrough_79 rfl ?_
  refine ev_getiv dX0_goThrough_80 fX0_69 hT.t.o.1.1 hT.t.o.1.2 rfl tc1 ?_
  by_cases d : L.length = 0
  · skip
    refine ev_icmpge 136 dX0_goThrough_83 (fun hb3 => ?_) (fun h_no => (by exfalso; omega))
    exact out 0 v5
  refine ev_icmpge 136 dX0_goThrough_83 (fun h_no => (by exfalso; omega)) (fun hb3 => ?_)
  refine ev_aload_n dX0_goThrough_86 rfl ?_
  refine ev_getiv dX0_goThrough_87 fX0_74 g.1.k8 g.1.n8 rfl f10 ?_
  refine ev_ifne 136 dX0_goThrough_90 (fun h_no => (by exfalso; omega)) (fun hb4 => ?_)
  refine ev_aload_n dX0_goThrough_93 rfl ?_
  refine ev_getiv dX0_goThrough_94 fX0_77 g.1.k8 g.1.n8 rfl f7 ?_
  refine ev_ifne 136 dX0_goThrough_97 (fun hb5 => ?_) (fun h_no => (by exfalso; omega))
  exact out 0 v5
/-- from before the pair was laid down to a heap on the way -/
theorem AtV.ml {h : AH} {a K : Nat → Nat} {h1 h2 : AH} {a1 K1 a2 K2 : Nat → Nat} (q : AtV h0 a0 K0 L kp tc nv G Gn N T τ st gz lz fv yl res h a K) (d : YC h a K h1 a1 K1 [6, 7, 8] [9]) (k : ∀ k, k < 6 ∨ 8 < k → K1 k = K k) (m : MlX h1 a1 K1 h2 a2 K2) : FrV h0 a0 K0 L kp tc h2 a2 K2 ∧ PtH h2 st ∧ h2.vl 8 = h.vl 8 ∧ (∀ y, 18 < y → y < 94 → h2.vl y = h.vl y) ∧ (K2 1 = K2 0 ∧ K2 2 = K2 0 ∧ K2 3 = K2 0) := by
  obtain ⟨f, hs, hp, hf, -⟩ := q
  have g := f.g
  have c1 : YX h a K h1 a1 K1 [6, 7, 8] [9] (fun _ => False) 0 := d.x
  have g1 := c1.1
  have v : ∀ y, 18 < y → y < 94 → h2.vl y = h.vl y := fun y h1 h2 => (m.1.v (g1.no (Or.inr ⟨h1, h2⟩)) (fun z => z)).trans (c1.v (g.no (Or.inr ⟨h1, h2⟩)) (fun z => z))
  have v8 : h2.vl 8 = h.vl 8 := (m.1.v (g1.no (Or.inl (by decide))) (fun z => z)).trans (c1.v (g.no (Or.inl (by decide))) (fun z => z))
  have v81 : h1.vl 8 = h.vl 8 := c1.v (g.no (Or.inl (by decide))) (fun z => z)
  have kk : ∀ k, k < 6 → K2 k = K k := fun j hj => (m.2.1 j (Or.inl hj)).trans (k j (Or.inl hj))
  have kq := hs.1.2.1.2.1
  exact ⟨(f.st c1 (by rw [v81]) (fun z => z) (fun _ _ z => z) (fun _ z => z.elim)).st m.1 (by rw [v8, v81]) (fun z => z) (fun _ _ z => z) (fun _ z => z.elim), (hp.x g c1 ⟨fun z => z, fun z => z, fun z => z, fun z => z⟩).x g1 m.1 ⟨fun z => z, fun z => z, fun z => z, fun z => z⟩, v8, v, by rw [kk 0 (by decide), kk 1 (by decide), kk 2 (by decide), kk 3 (by decide)]; exact kq⟩
set_option maxRecDepth 100000 in
theorem gv_pairs {h1 : AH} (p : PrV h0 a0 K0 L kp tc nv G Gn N T τ ((e, s, x) :: st) gz lz fv yl res xc yc h1) (hN : N ≤ 40000) (hx : xc < N) (hy : yc < N) (hi : 0 ≤ i ∧ i + 4 * (yl : Int) + 10 ≤ 1000000) (hgz : gz ≤ 300) (hlz : lz ≤ 1900000000)
    (kk : ∀ (j : Int) (h2 : AH) (a2 K2 : Nat → Nat) (f : Nat) (σ : List (Nat × TE)) (lz' : Int) (yl' : Nat) (v5 : AV), AtV h0 a0 K0 L kp tc nv (fun k => ap σ (G k)) Gn N (fun c => ap σ (T c)) τ ((e, s, x) :: st) gz lz' fv yl' res h2 a2 K2 → un f [(T xc, T yc)] = some ((0, -1, -1), σ) → i ≤ j → j + 4 * (yl' : Int) ≤ i + 4 * (yl : Int) + 2 → lz' ≤ lz + (j - i) → 0 ≤ lz' → EV mX0_goThrough 9 8 [rv 8, rv (tc : Int), rv 31, iv 1, iv j, v5] [] h2 Q)
    (bad : ∀ (j : Int) (h2 : AH) (f : Nat) (R : UR) (σ : List (Nat × TE)) (v5 : AV), un f [(T xc, T yc)] = some (R, σ) → R.1 ≠ 0 → BaV h0 a0 K0 L kp tc h2 → EV mX0_goThrough 9 8 [rv 8, rv (tc : Int), rv 31, iv 1, iv j, v5] [] h2 Q) :
    ∀ v5 : AV, EV mX0_goThrough 9 8 [rv 8, rv (tc : Int), rv 31, iv 1, iv i, v5] [] h1 Q := by
  obtain ⟨h, a, K, a1, K1, q, d, p1, k1⟩ := p
  obtain ⟨f, hs, hp, hf, ⟨h9, h5⟩, hv, hyl, hr⟩ := id q
  have g := f.g
  have c1 : YX h a K h1 a1 K1 [6, 7, 8] [9] (fun _ => False) 0 := d.x
  have s1 : YS h1 a1 K1 N T τ nv := hs.1.xt c1 (fun k hk => k1 k (by omega))
  have l1 : h1.vl 9 5 = lz := (c1.fl 5).trans h5
  have yl1 : YL h1 a1 N = yl := (YL.x c1 N).trans hyl
  have hS : MlS h1 a1 K1 i (i + 4 * (YL h1 a1 N : Int) + 2) (fun j h2 => ∀ v5 : AV, EV mX0_goThrough 9 8 [rv 8, rv (tc : Int), rv 31, iv 1, iv j, v5] [] h2 Q) (fun r h2 => ∃ (f : Nat) (R : UR) (σ : List (Nat × TE)) (a2 K2 : Nat → Nat), r = R.1 ∧ MlX h1 a1 K1 h2 a2 K2 ∧ un f [(T xc, T yc)] = some (R, σ) ∧ R.1 ≠ 0 ∧ (R.1 = 4 → h2.vl 9 13 = R.2.1 ∧ h2.vl 9 14 = R.2.2) ∧ (R.1 ≠ 4 → R.2 = (-1, -1)) ∧ (K2 7 = K2 6 ∧ K2 8 = K2 6)) := by
    intro j h2 a2 K2 m hpos hij hjb cvm v5
    rw [yl1] at hjb
    obtain ⟨f2, p2, v8, vv, kq⟩ := q.ml d k1 m
    have g2 := f2.g
    have w1 := g2.1.v8_1
    have v0 := g2.1.v8_0
    obtain ⟨np, hnp⟩ : ∃ np, h2.vl 9 9 = np := ⟨_, rfl⟩
    rw [hnp] at hpos
    have hf2 : FlC h2 (0, -1, -1, -1) := hf.xt (fun j _ _ => by rw [v8])
    refine ev_iload dX0_goThrough_8 rfl ?_
    refine ev_ldci (x := 1000000) dX0_goThrough_10 q_kst1 (by decide) (by unfold ir; omega) ?_
    refine ev_icmpge 74 dX0_goThrough_12 (fun h_no => (by exfalso; omega)) (fun hb => ?_)
    refine ev_aload_n dX0_goThrough_15 rfl ?_
    refine ev_cvi dX0_goThrough_16 lX0_46 (s_isGoing (gz := gz) g2 p2 hf2.1 ((congrFun v8 9).trans h9)) (by decide) g2.1.k8 g2.1.n8 rfl rfl rfl (Nat.le_of_ble_eq_true rfl) rfl (fun r z q9 => ?_)
    obtain ⟨r1, eq⟩ := q9
    rw [r1, eq, if_pos ⟨List.cons_ne_nil _ _, rfl, hgz⟩]
    refine ev_ifeq 74 dX0_goThrough_19 (fun h_no => (by exfalso; omega)) (fun hb2 => ?_)
    refine ev_aload_n dX0_goThrough_22 rfl ?_
    refine ev_getrv dX0_goThrough_23 fX0_12 g2.1.k8 g2.1.n8 rfl v0 ?_
    refine ev_getiv dX0_goThrough_26 fX0_50 g2.1.k9 g2.1.n9 rfl hnp ?_
    refine ev_ifle 55 dX0_goThrough_29 (fun h_no => (by exfalso; omega)) (fun hb3 => ?_)
    refine ev_aload_n dX0_goThrough_32 rfl ?_
    refine ev_getrv dX0_goThrough_33 fX0_12 g2.1.k8 g2.1.n8 rfl v0 ?_
    refine ev_cvi dX0_goThrough_36 lX0_54 (cvm) (by decide) g2.1.k9 g2.1.n9 rfl rfl rfl (Nat.le_of_ble_eq_true rfl) rfl (fun r h3 q9 => ?_)
    obtain ⟨⟨a3, K3, m3⟩, q30, q31⟩ := q9
    obtain ⟨f3, p3, v83, vv3, kq3⟩ := q.ml d k1 m3
    have g3 := f3.g
    have tl : ∀ (h4 : AH) (r : Int), h4.kd 8 = (1, 14) → 8 < h4.n → (∀ v5 : AV, EV mX0_goThrough 9 8 [rv 8, rv (tc : Int), rv 31, iv 1, iv (j + 1), v5] [] h4 Q) → EV mX0_goThrough 9 52 [rv 8, rv (tc : Int), rv 31, iv 1, iv j, iv r] [] h4 Q := by
      intro h4 r k8 n8 hk
      refine ev_gt 68 dX0_goThrough_52 ?_
      refine ev_iin4 dX0_goThrough_68 (by unfold ir; omega) ?_
      refine ev_gt 8 dX0_goThrough_71 ?_
      exact hk _
    refine ev_ist5 dX0_goThrough_39 ?_
    refine ev_iload dX0_goThrough_41 rfl ?_
    by_cases d0 : r = 0
    · skip
      refine ev_ifeq 52 dX0_goThrough_43 (fun hb4 => ?_) (fun h_no => (by exfalso; omega))
      exact tl h3 r g3.1.k8 g3.1.n8 (q30 d0)
    obtain ⟨fu, R, σ, a3', K3', r1, m3', u1, u2, u3, u4, u5⟩ := q31 d0
    obtain ⟨f3', p3', v83', vv3', kq3'⟩ := q.ml d k1 m3'
    refine ev_ifeq 52 dX0_goThrough_43 (fun h_no => (by exfalso; omega)) (fun hb4 => ?_)
    refine ev_aload_n dX0_goThrough_46 rfl ?_
    refine ev_iload dX0_goThrough_47 rfl ?_
    refine ev_cvv dX0_goThrough_49 lX0_58 (s_failFitting f3'.g p3' (hf.xt (fun j _ _ => by rw [v83'])) r1 u3 u4) (by decide) g3.1.k8 g3.1.n8 rfl rfl rfl (Nat.le_of_ble_eq_true rfl) rfl (fun h4 q4 => ?_)
    obtain ⟨c4, r4, r5⟩ := q4
    have g4 := c4.1
    refine tl h4 r g4.1.k8 g4.1.n8 (fun v5 => bad (j + 1) h4 fu R σ v5 u1 u2 ⟨_, _, r4, rfl, Or.inl u2, a3', K3', f3'.st c4 (r5 7 (by decide)) (by decide) (fun s hs z => by have z : s = 8 := z; omega) (fun y z => Or.inl z), ⟨kq3', u5⟩, _, p3'.x f3'.g c4 (by decide)⟩)
  refine s_pairs1 (P := fun j h2 => ∀ v5 : AV, EV mX0_goThrough 9 8 [rv 8, rv (tc : Int), rv 31, iv 1, iv j, v5] [] h2 Q) s1 (by omega) hx hy p1 (by omega) hS (fun j h2 a2 K2 fu σ m y2 ys u1 hij hjb l5 v5 => ?_) (fun h2 a2 K2 fu R σ m u1 u2 u3 u4 u5 => ⟨fu, R, σ, a2, K2, rfl, m, u1, u2, u3, u4, u5⟩)
  obtain ⟨f2, p2, v8, vv, kq⟩ := q.ml d k1 m
  rw [yl1] at hjb
  have mk5 := ys.2.2.2.1.1
  refine kk j h2 a2 K2 fu σ (h2.vl 9 5) (YL h2 a2 N) v5 ⟨f2, ⟨ys, y2, fun k hk => ?_⟩, p2, hf.xt (fun j _ _ => by rw [v8]), ⟨(congrFun v8 9).trans h9, rfl⟩, (vv 23 (by decide) (by decide)).trans hv, rfl, (congrFun v8 8).trans hr⟩ u1 hij hjb (by omega) mk5
  obtain ⟨k9, c, c1, c2, c3⟩ := hs.2.2 k hk
  exact ⟨k9, c, c1, by rw [vv 24 (by decide) (by decide)]; exact c2, by show ap σ (T c) = ap σ (G k); rw [c3]⟩
end VSt
/-! the path has every node once -/
theorem nd_le : ∀ (n : Nat) (l : List Nat), l.Nodup → (∀ x ∈ l, x < n) → l.length ≤ n
  | 0, l, _, h => by
    cases l with
    | nil => exact Nat.le_refl _
    | cons x l => exact absurd (h x List.mem_cons_self) (Nat.not_lt_zero _)
  | n + 1, l, hd, h => by
    have h1 := nd_le n (l.erase n) (hd.erase n) (fun x hx => by
      have := h x (List.mem_of_mem_erase hx)
      have ne : x ≠ n := fun z => by
        rw [z] at hx
        exact hd.not_mem_erase hx
      omega)
    have h2 := List.length_erase (a := n) (l := l)
    split at h2 <;> omega
/-- what is around a node on the path -/
def PkL (L : List Nd) (e : Nat) (st : List (Nat × Int × Int)) : Prop := (∀ q ∈ st, q.1 < L.length ∧ KpN L e q.1) ∧ (st.map (fun q => q.1)).Nodup
theorem PkL.nin {L : List Nd} {e : Nat} {st : List (Nat × Int × Int)} (p : PkL L e st) : e ∉ st.map (fun q => q.1) := fun h => by
  obtain ⟨q, q1, q2⟩ := List.mem_map.mp h
  exact (p.1 q q1).2.1 (Or.inl q2)
theorem PkL.cons {L : List Nd} {e c : Nat} {s x : Int} {st : List (Nat × Int × Int)} (p : PkL L e st) (he : e < L.length) (hk : ∀ k, k < L.length → KpN L e k → KpN L c k) (ho : KpN L c e) : PkL L c ((e, s, x) :: st) := by
  refine ⟨fun q hq => ?_, ?_⟩
  · rcases List.mem_cons.mp hq with rfl | hq
    · exact ⟨he, ho⟩
    · obtain ⟨a, b⟩ := p.1 q hq
      exact ⟨a, hk _ a b⟩
  · rw [List.map_cons]
    exact List.nodup_cons.mpr ⟨p.nin, p.2⟩
theorem PkL.len {L : List Nd} {e : Nat} {st : List (Nat × Int × Int)} (p : PkL L e st) (he : e < L.length) (hL : L.length ≤ 119) : st.length < 119 := by
  have := nd_le L.length (e :: st.map (fun q => q.1)) (List.nodup_cons.mpr ⟨p.nin, p.2⟩) (fun x hx => by
    rcases List.mem_cons.mp hx with rfl | hx
    · exact he
    · obtain ⟨q, q1, q2⟩ := List.mem_map.mp hx
      rw [← q2]
      exact (p.1 q q1).1)
  rw [List.length_cons, List.length_map] at this
  omega
