/-! the class goes through a term: pairs are made to fit in its loop -/
section GtP
variable {h0 : AH} {a0 K0 : Nat → Nat} {L : List Nd} {kp : Nat → Option TE} {tc : Nat} {S : IS} {Dn Gn Sn : Nat → Prop} {N sc e yl xc yc : Nat} {T : Nat → TE} {τ : Nat → Nat} {st : List (Nat × Int × Int)} {s x gz lz res i : Int} {fv : Nat → Int} {Q : AV → AH → Prop}
/-- from before the pair was laid down to a heap on the way -/
theorem AtC.ml {h : AH} {a K : Nat → Nat} {h1 h2 : AH} {a1 K1 a2 K2 : Nat → Nat} (q : AtC h0 a0 K0 L kp tc S Dn Gn Sn N T τ sc st gz lz fv yl res h a K) (d : YC h a K h1 a1 K1 [6, 7, 8] [9]) (k : ∀ k, k < 6 ∨ 8 < k → K1 k = K k) (m : MlX h1 a1 K1 h2 a2 K2) : FrW h0 a0 K0 L kp tc h2 a2 K2 ∧ PtH h2 st ∧ h2.vl 8 = h.vl 8 ∧ (∀ y, 18 < y → y < 94 → h2.vl y = h.vl y) ∧ (K2 1 = K2 0 ∧ K2 2 = K2 0 ∧ K2 3 = K2 0) := by
  obtain ⟨f, hs, hp, hf, -⟩ := q
  have g := f.g
  have c1 : YX h a K h1 a1 K1 [6, 7, 8] [9] (fun _ => False) 0 := d.x
  have g1 := c1.1
  have v : ∀ y, 18 < y → y < 94 → h2.vl y = h.vl y := fun y h1 h2 => (m.1.v (g1.no (Or.inr ⟨h1, h2⟩)) (fun z => z)).trans (c1.v (g.no (Or.inr ⟨h1, h2⟩)) (fun z => z))
  have v8 : h2.vl 8 = h.vl 8 := (m.1.v (g1.no (Or.inl (by decide))) (fun z => z)).trans (c1.v (g.no (Or.inl (by decide))) (fun z => z))
  have v81 : h1.vl 8 = h.vl 8 := c1.v (g.no (Or.inl (by decide))) (fun z => z)
  have kk : ∀ k, k < 6 → K2 k = K k := fun j hj => (m.2.1 j (Or.inl hj)).trans (k j (Or.inl hj))
  have kq := hs.1.2.1.2.1
  exact ⟨(f.st c1 (by rw [v81]) (fun z => z) (fun _ _ z => z) (fun _ z => z.elim)).st m.1 (by rw [v8, v81]) (fun z => z) (fun _ _ z => z) (fun _ z => z.elim), (hp.x g c1 ⟨fun z => z, fun z => z, fun z => z, fun z => z⟩).x g1 m.1 ⟨fun z => z, fun z => z, fun z => z, fun z => z⟩, v8, v, by rw [kk 0 (by decide), kk 1 (by decide), kk 2 (by decide), kk 3 (by decide)]; exact kq⟩
set_option maxRecDepth 100000 in
theorem gt_pairs {h1 : AH} (p : PrQ h0 a0 K0 L kp tc S Dn Gn Sn N T τ sc ((e, s, x) :: st) gz lz fv yl res xc yc h1) (hsc : sc ≤ 12) (hN : N ≤ 40000) (hx : xc < N) (hy : yc < N) (hi : 0 ≤ i ∧ i + 4 * (yl : Int) + 10 ≤ 1000000) (hgz : gz ≤ 300) (hlz : lz ≤ 1900000000) (hgn : ∀ y, 2 ≤ y → oc y (T xc) = true ∨ oc y (T yc) = true → S.2.2.2 y = false)
    (kk : ∀ (j : Int) (h2 : AH) (a2 K2 : Nat → Nat) (f : Nat) (σ : List (Nat × TE)) (lz' : Int) (yl' : Nat) (v5 : AV), AtC h0 a0 K0 L kp tc (isA S σ) Dn Gn Sn N (fun c => ap σ (T c)) τ sc ((e, s, x) :: st) gz lz' fv yl' res h2 a2 K2 → un f [(T xc, T yc)] = some ((0, -1, -1), σ) → i ≤ j → j + 4 * (yl' : Int) ≤ i + 4 * (yl : Int) + 2 → lz' ≤ lz + (j - i) → 0 ≤ lz' → EV mX0_goThrough 9 8 [rv 8, rv (tc : Int), rv 31, iv 0, iv j, v5] [] h2 Q)
    (bad : ∀ (j : Int) (h2 : AH) (f : Nat) (R : UR) (σ : List (Nat × TE)) (v5 : AV), un f [(T xc, T yc)] = some (R, σ) → R.1 ≠ 0 → FaC h0 a0 K0 L kp tc (R.1, (e : Int), R.2.1, R.2.2) h2 → EV mX0_goThrough 9 8 [rv 8, rv (tc : Int), rv 31, iv 0, iv j, v5] [] h2 Q) :
    ∀ v5 : AV, EV mX0_goThrough 9 8 [rv 8, rv (tc : Int), rv 31, iv 0, iv i, v5] [] h1 Q := by
  obtain ⟨h, a, K, a1, K1, q, d, p1, k1⟩ := p
  obtain ⟨f, hs, hp, hf, ⟨h9, h5⟩, hv, hyl, hr⟩ := id q
  have g := f.g
  have c1 : YX h a K h1 a1 K1 [6, 7, 8] [9] (fun _ => False) 0 := d.x
  have s1 : YS h1 a1 K1 N T τ S.1 := hs.1.xt c1 (fun k hk => k1 k (by omega))
  have l1 : h1.vl 9 5 = lz := (c1.fl 5).trans h5
  have yl1 : YL h1 a1 N = yl := (YL.x c1 N).trans hyl
  have hS : MlS h1 a1 K1 i (i + 4 * (YL h1 a1 N : Int) + 2) (fun j h2 => ∀ v5 : AV, EV mX0_goThrough 9 8 [rv 8, rv (tc : Int), rv 31, iv 0, iv j, v5] [] h2 Q) (fun r h2 => ∃ (f : Nat) (R : UR) (σ : List (Nat × TE)) (a2 K2 : Nat → Nat), r = R.1 ∧ MlX h1 a1 K1 h2 a2 K2 ∧ un f [(T xc, T yc)] = some (R, σ) ∧ R.1 ≠ 0 ∧ (R.1 = 4 → h2.vl 9 13 = R.2.1 ∧ h2.vl 9 14 = R.2.2) ∧ (R.1 ≠ 4 → R.2 = (-1, -1)) ∧ (K2 7 = K2 6 ∧ K2 8 = K2 6)) := by
    intro j h2 a2 K2 m hpos hij hjb cvm v5
    rw [yl1] at hjb
    obtain ⟨f2, p2, v8, vv, kq⟩ := q.ml d k1 m
    have g2 := f2.g
    have w1 := g2.1.v8_1
    have v0 := g2.1.v8_0
    obtain ⟨np, hnp⟩ : ∃ np, h2.vl 9 9 = np := ⟨_, rfl⟩
    rw [hnp] at hpos
    have hf2 : FlC h2 (0, -1, -1, -1) := hf.xt (fun j _ _ => by rw [v8])
    refine ev_iload dX0_goThrough_8 rfl ?_
    refine ev_ldci (x := 1000000) dX0_goThrough_10 q_kst1 (by decide) (by unfold ir; omega) ?_
    refine ev_icmpge 74 dX0_goThrough_12 (fun h_no => (by exfalso; omega)) (fun hb => ?_)
    refine ev_aload_n dX0_goThrough_15 rfl ?_
    refine ev_cvi dX0_goThrough_16 lX0_46 (s_isGoing (gz := gz) g2 p2 hf2.1 ((congrFun v8 9).trans h9)) (by decide) g2.1.k8 g2.1.n8 rfl rfl rfl (Nat.le_of_ble_eq_true rfl) rfl (fun r z q9 => ?_)
    obtain ⟨r1, eq⟩ := q9
    rw [r1, eq, if_pos ⟨List.cons_ne_nil _ _, rfl, hgz⟩]
    refine ev_ifeq 74 dX0_goThrough_19 (fun h_no => (by exfalso; omega)) (fun hb2 => ?_)
    refine ev_aload_n dX0_goThrough_22 rfl ?_
    refine ev_getrv dX0_goThrough_23 fX0_12 g2.1.k8 g2.1.n8 rfl v0 ?_
    refine ev_getiv dX0_goThrough_26 fX0_50 g2.1.k9 g2.1.n9 rfl hnp ?_
    refine ev_ifle 55 dX0_goThrough_29 (fun h_no => (by exfalso; omega)) (fun hb3 => ?_)
    refine ev_aload_n dX0_goThrough_32 rfl ?_
    refine ev_getrv dX0_goThrough_33 fX0_12 g2.1.k8 g2.1.n8 rfl v0 ?_
    refine ev_cvi dX0_goThrough_36 lX0_54 (cvm) (by decide) g2.1.k9 g2.1.n9 rfl rfl rfl (Nat.le_of_ble_eq_true rfl) rfl (fun r h3 q9 => ?_)
    obtain ⟨⟨a3, K3, m3⟩, q30, q31⟩ := q9
    obtain ⟨f3, p3, v83, vv3, kq3⟩ := q.ml d k1 m3
    have g3 := f3.g
    have tl : ∀ (h4 : AH) (r : Int), h4.kd 8 = (1, 14) → 8 < h4.n → (∀ v5 : AV, EV mX0_goThrough 9 8 [rv 8, rv (tc : Int), rv 31, iv 0, iv (j + 1), v5] [] h4 Q) → EV mX0_goThrough 9 52 [rv 8, rv (tc : Int), rv 31, iv 0, iv j, iv r] [] h4 Q := by
      intro h4 r k8 n8 hk
      refine ev_gt 68 dX0_goThrough_52 ?_
      refine ev_iin4 dX0_goThrough_68 (by unfold ir; omega) ?_
      refine ev_gt 8 dX0_goThrough_71 ?_
      exact hk _
    refine ev_ist5 dX0_goThrough_39 ?_
    refine ev_iload dX0_goThrough_41 rfl ?_
    by_cases d0 : r = 0
    · skip
      refine ev_ifeq 52 dX0_goThrough_43 (fun hb4 => ?_) (fun h_no => (by exfalso; omega))
      exact tl h3 r g3.1.k8 g3.1.n8 (q30 d0)
    obtain ⟨fu, R, σ, a3', K3', r1, m3', u1, u2, u3, u4, u5⟩ := q31 d0
    obtain ⟨f3', p3', v83', vv3', kq3'⟩ := q.ml d k1 m3'
    refine ev_ifeq 52 dX0_goThrough_43 (fun h_no => (by exfalso; omega)) (fun hb4 => ?_)
    refine ev_aload_n dX0_goThrough_46 rfl ?_
    refine ev_iload dX0_goThrough_47 rfl ?_
    refine ev_cvv dX0_goThrough_49 lX0_58 (s_failFitting f3'.g p3' (hf.xt (fun j _ _ => by rw [v83'])) r1 u3 u4) (by decide) g3.1.k8 g3.1.n8 rfl rfl rfl (Nat.le_of_ble_eq_true rfl) rfl (fun h4 q4 => ?_)
    obtain ⟨c4, r4, r5⟩ := q4
    have g4 := c4.1
    refine tl h4 r g4.1.k8 g4.1.n8 (fun v5 => bad (j + 1) h4 fu R σ v5 u1 u2 ⟨r4, a3', K3', f3'.st c4 (r5 7 (by decide)) (by decide) (fun s hs z => by have z : s = 8 := z; omega) (fun y z => Or.inl z), ⟨kq3', u5⟩, _, p3'.x f3'.g c4 (by decide)⟩)
  refine s_pairs1 (P := fun j h2 => ∀ v5 : AV, EV mX0_goThrough 9 8 [rv 8, rv (tc : Int), rv 31, iv 0, iv j, v5] [] h2 Q) s1 (by omega) hx hy p1 (by omega) hS (fun j h2 a2 K2 fu σ m y2 ys u1 hij hjb l5 v5 => ?_) (fun h2 a2 K2 fu R σ m u1 u2 u3 u4 u5 => ⟨fu, R, σ, a2, K2, rfl, m, u1, u2, u3, u4, u5⟩)
  obtain ⟨f2, p2, v8, vv, kq⟩ := q.ml d k1 m
  have cc : YX h a K h2 a2 K2 MtD MtF (fun _ => False) 0 := (c1.wk (by decide) (by decide) (fun _ z => z) (Nat.le_refl _)).tr m.1
  have vsp : vsP (fun y => S.2.2.2 y = false) [(T xc, T yc)] := fun pr hpr => by
    rw [List.mem_singleton.mp hpr]
    exact ⟨fun y y2 yo => hgn y y2 (Or.inl yo), fun y y2 yo => hgn y y2 (Or.inr yo)⟩
  have vss := un_vs _ _ _ _ vsp u1
  have hfx : ∀ y, S.2.2.2 y = true → fxS σ y := fun y hy => vs_fx vss (fun z => by rw [hy] at z; exact Bool.noConfusion z)
  rw [yl1] at hjb
  have mk5 := ys.2.2.2.1.1
  refine kk j h2 a2 K2 fu σ (h2.vl 9 5) (YL h2 a2 N) v5 ⟨f2, ?_, p2, hf.xt (fun j _ _ => by rw [v8]), ⟨(congrFun v8 9).trans h9, rfl⟩, (vv 23 (by decide) (by decide)).trans hv, rfl, (congrFun v8 8).trans hr⟩ u1 hij hjb (by omega) mk5
  exact hs.go (S1 := isA S σ) (σ := σ) cc ⟨⟨fun z => z, fun z => z⟩, fun _ _ z => z⟩ ys y2 (Nat.le_refl _) (fun c _ => rfl) ⟨Nat.le_refl _, fun _ z => z⟩ hfx (fun k _ => ⟨by rw [vv 23 (by decide) (by decide)], rfl⟩) (fun k _ => ⟨by rw [vv 24 (by decide) (by decide)], rfl⟩) (fun b _ => ⟨rfl, fun _ _ => rfl⟩) (congrFun v8 6) f.2.1 hsc
end GtP
