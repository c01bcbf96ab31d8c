/-! the second way: through a node, and all that it needs -/
/-- from 'at a node' to 'behind it' -/
def CwV (h0 : AH) (a0 K0 : Nat → Nat) (L : List Nd) (kp : Nat → Option TE) (tc : Nat) (Q : AV → AH → Prop) (f : Nat) : Prop :=
  ∀ (e nv : Nat) (G : Nat → TE) (Gn : Nat → Prop) (N : Nat) (T : Nat → TE) (τ : Nat → Nat) (st : List (Nat × Int × Int)) (g : Nat) (lz : Int) (fv : Nat → Int) (yl : Nat) (res i : Int) (h : AH) (a K : Nat → Nat) (v5 : AV), AtV h0 a0 K0 L kp tc nv G Gn N T τ ((e, 0, -1) :: st) (300 - (g : Int)) lz fv yl res h a K →
    g < f → g ≤ 300 → e < L.length → (∀ b ∈ ancN L e, TBL L 57 b = 4 → Gn b) → PkL L e st → 2 ≤ nv → N + 30 * g ≤ 12000 → (0 ≤ lz ∧ lz ≤ i) → i + 4 * (yl : Int) + 128 * (g : Int) ≤ 900000 →
    (∀ (h1 : AH) (g' nv' : Nat) (G' : Nat → TE) (σ : List (Nat × TE)) (t : TE) (N1 : Nat) (a1 K1 : Nat → Nat) (T1 : Nat → TE) (τ1 : Nat → Nat) (lz1 : Int) (fv1 : Nat → Int) (yl1 : Nat) (i1 : Int) (c : Nat) (v5 : AV), wyR L kp f e g nv G (some (g', nv', G', σ, t)) → AtV h0 a0 K0 L kp tc nv' G' Gn N1 T1 τ1 st (300 - (g' : Int)) lz1 fv1 yl1 (c : Int) h1 a1 K1 → c < N1 → T1 c = t → (∀ c, c < N → T1 c = ap σ (T c)) → g' < g → (N ≤ N1 ∧ N1 + 30 * g' ≤ N + 30 * g) → (i ≤ i1 ∧ i1 + 4 * (yl1 : Int) + 8 * (g' : Int) + 4 * (N : Int) ≤ i + 4 * (yl : Int) + 8 * (g : Int) + 4 * (N1 : Int)) → (0 ≤ lz1 ∧ lz1 ≤ i1) → nv ≤ nv' → EV mX0_goThrough 9 8 [rv 8, rv (tc : Int), rv 31, iv 1, iv i1, v5] [] h1 Q) →
    (∀ (h1 : AH) (i1 : Int) (v5 : AV), wyR L kp f e g nv G none → BaV h0 a0 K0 L kp tc h1 → EV mX0_goThrough 9 8 [rv 8, rv (tc : Int), rv 31, iv 1, iv i1, v5] [] h1 Q) →
    EV mX0_goThrough 9 8 [rv 8, rv (tc : Int), rv 31, iv 1, iv i, v5] [] h Q
theorem EnV.ba {h0 : AH} {a0 K0 : Nat → Nat} {L : List Nd} {kp : Nat → Option TE} {tc : Nat} {nv : Nat} {G : Nat → TE} {Gn : Nat → Prop} {st : List (Nat × Int × Int)} {gz lz : Int} {yl N b : Nat} {T : Nat → TE} {X : TE} {h1 : AH} (q : EnV h0 a0 K0 L kp tc nv G Gn st gz lz yl N b T X h1) (hg : 300 < gz) : BaV h0 a0 K0 L kp tc h1 := by
  obtain ⟨a1, K1, N1, T1, τ1, yl1, fv1, c, q1, -⟩ := q
  exact q1.ba hg
section CwVs
variable {h0 : AH} {a0 K0 : Nat → Nat} {L : List Nd} {kp : Nat → Option TE} {tc : Nat} {Q : AV → AH → Prop}
theorem cw_V (hA : TmA L) (hl9 : L.length ≤ 119) (hkl : ∀ x, x < L.length → TBL L 57 x = 1 → 65 ≤ TBL L 58 x ∧ TBL L 58 x ≤ 72) : ∀ f, CwV h0 a0 K0 L kp tc Q f
  | 0 => by
    intro e nv G Gn N T τ st g lz fv yl res i h a K v5 q hf
    exact absurd hf (Nat.not_lt_zero _)
  | f + 1 => by
    have ih := cw_V hA hl9 hkl f
    intro e nv G Gn N T τ st g lz fv yl res i h a K v5 q hf hg he hGn hPk hnv hN hlz hi ok bad
    have hl := hA.1
    have nd := hA.2.1 e he
    have hst := hPk.len he hl9
    have gz : (300 : Int) - (g : Int) + (if (0 : Int) = 0 then 1 else 0) = 300 - (g : Int) + 1 := by rw [if_pos rfl]
    have none0 : g = 0 → wyR L kp (f + 1) e g nv G none := fun z => by rw [wyR, if_pos z]
    -- a node that ended just now
    have fin : ∀ (h1 : AH) (nv1 : Nat) (X : TE) (v5 : AV), nv ≤ nv1 → EnV h0 a0 K0 L kp tc nv1 G Gn st (300 - (g : Int) + 1) lz yl N 30 T X h1 → (0 < g → wyR L kp (f + 1) e g nv G (some (g - 1, nv1, G, [], X))) → EV mX0_goThrough 9 8 [rv 8, rv (tc : Int), rv 31, iv 1, iv (i + 1), v5] [] h1 Q := by
      intro h1 nv1 X v5 hn q1 hw
      by_cases g0 : g = 0
      · exact bad h1 (i + 1) v5 (none0 g0) (q1.ba (by omega))
      obtain ⟨a1, K1, N1, T1, τ1, yl1, fv1, c, q1, ⟨n1, n2, n3⟩, t1, hc, hX⟩ := q1
      rw [show (300 : Int) - (g : Int) + 1 = 300 - ((g - 1 : Nat) : Int) by omega] at q1
      exact ok h1 (g - 1) nv1 G [] X N1 a1 K1 T1 τ1 lz fv1 yl1 (i + 1) c v5 (hw (by omega)) q1 hc hX t1 (by omega) ⟨n1, by omega⟩ ⟨by omega, by omega⟩ ⟨hlz.1, by omega⟩ hn
    by_cases k0 : TBL L 57 e = 0
    · by_cases b0 : bd (TBL L) e < 0
      · refine gv_step q (by omega) (by omega) (Q1 := BaV h0 a0 K0 L kp tc) (gv_name q he ⟨by decide, by decide⟩ (by omega) k0 (fun h1 q1 => s_namV0 q1 he k0 b0)) (fun h1 q1 => bad h1 (i + 1) v5 ?_ q1) (fun h1 q1 => q1.k8)
        rw [wyR, if_pos k0, if_pos b0]
        split <;> rfl
      obtain ⟨b, hb⟩ : ∃ b : Nat, bd (TBL L) e = (b : Int) := ⟨(bd (TBL L) e).toNat, by omega⟩
      have tb : (bd (TBL L) e).toNat = b := by rw [hb]; rfl
      have gd := (TBL_gd (L := L) e he).1
      have b0' : 0 ≤ bd (TBL L) e := by omega
      have ba := bd_anc (L := L) (nd := e) 130 (e : Int) (TBL L 61 e) (Int.le_refl _) (by omega) (by omega) b0'
      have ban : b ∈ ancN L e := by
        have : (bd (TBL L) e).toNat ∈ ancN L e := ba.1
        rw [tb] at this
        exact this
      have hbL : b < L.length := by have := anc_lt' he ban; omega
      by_cases b4 : TBL L 57 b = 4
      · refine gv_step q (by omega) (by omega) (Q1 := EnV h0 a0 K0 L kp tc nv G Gn st (300 - (g : Int) + 1) lz yl N 30 T (G b)) (gv_name q he ⟨by decide, by decide⟩ (by omega) k0 (fun h1 q1 => ?_)) (fun h1 q1 => fin h1 nv (G b) v5 (Nat.le_refl _) q1 (fun gp => ?_)) (fun h1 q1 => q1.k8)
        · rw [gz] at q1
          exact s_namV1 q1 he (by omega) k0 hb hbL b4 (hGn b ban b4)
        · rw [wyR, if_neg (by omega), if_pos k0, if_neg b0, tb, if_pos b4]
      obtain ⟨hbd, hfl, -⟩ := bd_fst hA he (by omega) (by rw [tb]; exact b4)
      rw [tb] at hbd hfl
      have h59 : TBL L 59 b = (fstN L b : Int) := by
        rcases hA.2.1 b hbL with w | ⟨-, w2, w3, -⟩ | ⟨-, w2, -, w3, -⟩
        · have := hbd.2.1; omega
        · rw [w3]; exact w2
        · rw [w3]; exact w2
      refine gv_step q (by omega) (by omega) (Q1 := fun h1 => AtV h0 a0 K0 L kp tc nv G Gn N T τ ((fstN L b, 0, -1) :: (e, 1, -1) :: st) (300 - (g : Int) + 1) lz fv yl res h1 a K) (gv_name q he ⟨by decide, by decide⟩ (by omega) k0 (fun h1 q1 => ?_)) (fun h1 q1 => ?_) (fun h1 q1 => q1.k8)
      · rw [gz] at q1
        exact s_namV2 q1 he (by omega) k0 hb hbL b4 h59
      by_cases g0 : g = 0
      · exact bad h1 (i + 1) v5 (none0 g0) (q1.ba (by omega))
      rw [show (300 : Int) - (g : Int) + 1 = 300 - ((g - 1 : Nat) : Int) by omega] at q1
      have wy : ∀ o, wyR L kp f (fstN L b) (g - 1) nv G o → wyR L kp (f + 1) e g nv G o := fun o ho => by
        rw [wyR, if_neg g0, if_pos k0, if_neg b0, tb, if_neg b4]
        exact ho
      refine ih (fstN L b) nv G Gn N T τ ((e, 1, -1) :: st) (g - 1) lz fv yl res (i + 1) h1 a K v5 q1 (by omega) (by omega) hfl (fun d hd h4 => ?_) (hPk.cons he (fun k hk hK => hK.nm hl hA.2.1 he hbd) (KpN.nmo hl hA.2.1 he hbd)) hnv (by omega) (by omega) (by omega) (fun h2 g' nv' G' σ t N1 a1 K1 T1 τ1 lz1 fv1 yl1 i1 c v6 w1 q2 hc hX hT hg' hN1 hi1 hlz1 hnv1 => ?_) (fun h2 i1 v6 w1 q2 => bad h2 i1 v6 (wy _ w1) q2)
      · have fb : fstN L b = b + 1 ∧ TBL L 61 (b + 1) = (b : Int) := by
          rcases hA.2.1 b hbL with w | ⟨-, w2, w3, w4, w5⟩ | ⟨-, w2, -, w3, w4, w5, w6, -⟩
          · have := hbd.2.1; omega
          · exact ⟨w3, w5⟩
          · exact ⟨w3, w6⟩
        rw [fb.1, anc_st hl (by omega) fb.2] at hd
        rcases List.mem_cons.mp hd with rfl | hd
        · exact absurd h4 b4
        · exact hGn d (anc_tr hl hd e e (Nat.le_refl _) he ban) h4
      refine gv_step q2 (by omega) (by omega) (Q1 := EnV h0 a0 K0 L kp tc nv' G' Gn st (300 - (g' : Int)) lz1 yl1 N1 0 T1 (T1 c)) (gv_name q2 he ⟨by decide, by decide⟩ (by omega) k0 (fun h3 q3 => ?_)) (fun h3 q3 => ?_) (fun h3 q3 => q3.k8)
      · rw [if_neg (by decide), Int.add_zero] at q3
        exact s_namV3 q3 he (by omega) k0 hb hbL b4 (by decide) hc
      obtain ⟨a2, K2, N2, T2, τ2, yl2, fv2, c2, q4, ⟨n1, n2, n3⟩, t1, hc2, hX2⟩ := q3
      refine ok h3 g' nv' G' σ t N2 a2 K2 T2 τ2 lz1 fv2 yl2 (i1 + 1) c2 v6 (wy _ w1) q4 hc2 (hX2.trans hX) (fun d hd => by rw [t1 d (by omega), hT d hd]) (by omega) ⟨by omega, by omega⟩ ⟨by omega, by omega⟩ ⟨hlz1.1, by omega⟩ hnv1
    by_cases k1 : TBL L 57 e = 1
    · refine gv_step q (by omega) (by omega) (gv_kept q he (by omega) (by omega) ⟨by decide, by decide⟩ (by omega) k1 (hkl e he k1) hnv) (fun h1 q1 => ?_) (fun h1 q1 => ?_)
      · rcases q1 with ⟨r1, q1⟩ | ⟨R, r1, q1⟩
        · refine bad h1 (i + 1) v5 ?_ q1
          rw [wyR, if_neg k0, if_pos k1, r1]
          split <;> rfl
        · rw [gz] at q1
          refine fin h1 _ _ v5 (by omega) q1 (fun gp => ?_)
          rw [wyR, if_neg (by omega), if_neg k0, if_pos k1, r1]
      · rcases q1 with ⟨r1, q1⟩ | ⟨R, r1, q1⟩
        · exact q1.k8
        · exact q1.k8
    by_cases k2 : TBL L 57 e = 2
    · refine gv_step q (by omega) (by omega) (gv_num q he (by omega) ⟨by decide, by decide⟩ (by omega) k2) (fun h1 q1 => ?_) (fun h1 q1 => q1.k8)
      rw [gz] at q1
      refine fin h1 _ _ v5 (Nat.le_refl _) q1 (fun gp => ?_)
      rw [wyR, if_neg (by omega), if_neg k0, if_neg k1, if_pos k2]
    by_cases k3 : TBL L 57 e = 3
    · refine gv_step q (by omega) (by omega) (gv_sign q he (by omega) (by omega) ⟨by decide, by decide⟩ (by omega) k3 hnv) (fun h1 q1 => ?_) (fun h1 q1 => q1.k8)
      rw [gz] at q1
      refine fin h1 _ _ v5 (by omega) q1 (fun gp => ?_)
      rw [wyR, if_neg (by omega), if_neg k0, if_neg k1, if_neg k2, if_pos k3]
    by_cases k4 : TBL L 57 e = 4
    · rcases nd with w | ⟨-, w0, w1, w2, w3⟩ | w
      · omega
      rotate_left
      · omega
      have hfl : fstN L e < L.length := by omega
      have h61 : TBL L 61 (fstN L e) = (e : Int) := by rw [w1]; exact w3
      refine gv_step q (by omega) (by omega) (Q1 := fun h1 => ∃ a1 K1 T1 τ1 yl1 fv1, AtV h0 a0 K0 L kp tc (nv + 1) (upT G e (.var nv)) (fun k => Gn k ∨ k = e) (N + 1) T1 τ1 ((fstN L e, 0, -1) :: (e, 1, -1) :: st) (300 - (g : Int) + 1) lz fv1 yl1 res h1 a1 K1 ∧ yl1 ≤ yl + 1 ∧ ∀ c, c < N → T1 c = T c) (gv_fun q he ⟨by decide, by decide⟩ (by omega) k4 (fun h1 q1 => ?_)) (fun h1 q1 => ?_) (fun h1 q1 => ?_)
      · rw [gz] at q1
        exact s_funV0 q1 (by omega) he (by omega) hst hnv (by rw [w1]; exact w0)
      rotate_left
      · obtain ⟨a1, K1, T1, τ1, yl1, fv1, q1, -⟩ := q1
        exact q1.k8
      obtain ⟨a1, K1, T1, τ1, yl1, fv1, q1, y1, t1⟩ := q1
      by_cases g0 : g = 0
      · exact bad h1 (i + 1) v5 (none0 g0) (q1.ba (by omega))
      rw [show (300 : Int) - (g : Int) + 1 = 300 - ((g - 1 : Nat) : Int) by omega] at q1
      have wy : ∀ o, seqW (wyR L kp f (fstN L e) (g - 1) (nv + 1) (upT G e (.var nv))) (fun g1 nv1 G1 σ1 t1 o => o = some (g1, nv1, G1, σ1, .op (G1 e) t1)) o → wyR L kp (f + 1) e g nv G o := fun o ho => by
        rw [wyR, if_neg g0, if_neg k0, if_neg k1, if_neg k2, if_neg k3, if_pos k4]
        exact ho
      refine ih (fstN L e) (nv + 1) (upT G e (.var nv)) (fun k => Gn k ∨ k = e) (N + 1) T1 τ1 ((e, 1, -1) :: st) (g - 1) lz fv1 yl1 res (i + 1) h1 a1 K1 v5 q1 (by omega) (by omega) hfl (fun d hd h4 => ?_) (hPk.cons he (fun k hk hK => hK.ch hl hA.2.1 he hfl hk h61) (KpN.own hl hA.2.1 he hfl h61)) (by omega) (by omega) (by omega) (by omega) (fun h2 g' nv' G' σ t N2 a2 K2 T2 τ2 lz2 fv2 yl2 i2 c v6 w1 q2 hc hX hT hg' hN1 hi1 hlz1 hnv1 => ?_) (fun h2 i1 v6 w1 q2 => bad h2 i1 v6 (wy _ ⟨none, w1, fun _ => rfl, fun _ _ _ _ _ z => nomatch z⟩) q2)
      · rw [anc_st hl hfl h61] at hd
        rcases List.mem_cons.mp hd with rfl | hd
        · exact Or.inr rfl
        · exact Or.inl (hGn d hd h4)
      refine gv_step q2 (by omega) (by omega) (Q1 := EnV h0 a0 K0 L kp tc nv' G' (fun k => Gn k ∨ k = e) st (300 - (g' : Int)) lz2 yl2 N2 1 T2 (.op (G' e) (T2 c))) (gv_fun q2 he ⟨by decide, by decide⟩ (by omega) k4 (fun h3 q3 => ?_)) (fun h3 q3 => ?_) (fun h3 q3 => q3.k8)
      · rw [if_neg (by decide), Int.add_zero] at q3
        exact s_funV1 q3 (by omega) he (by omega) (Or.inr rfl) hc (by decide)
      obtain ⟨a3, K3, N3, T3, τ3, yl3, fv3, c3, q4, ⟨n1, n2, n3⟩, t3, hc3, hX3⟩ := q3
      refine ok h3 g' nv' G' σ (.op (G' e) t) N3 a3 K3 T3 τ3 lz2 fv3 yl3 (i2 + 1) c3 v6 (wy _ ⟨_, w1, fun z => (nomatch z), fun g1 nv1 G1 σ1 t1 z => ?_⟩) (q4.wk (fun k z => Or.inl z)) hc3 (by rw [hX3, hX]) (fun d hd => by rw [t3 d (by omega), hT d (by omega), t1 d hd]) (by omega) ⟨by omega, by omega⟩ ⟨by omega, by omega⟩ ⟨hlz1.1, by omega⟩ (by omega)
      injection z with z
      injection z with z1 z
      injection z with z2 z
      injection z with z3 z
      injection z with z4 z5
      subst z1 z2 z3 z4 z5
      rfl
    rcases nd with w | w | ⟨w0, v59, v60, w1, w2, w3, w4, w5⟩
    · omega
    · omega
    have hfl : fstN L e < L.length := by omega
    have h61 : TBL L 61 (fstN L e) = (e : Int) := by rw [w1]; exact w4
    have f59 : TBL L 59 e = (fstN L e : Int) := by rw [w1]; exact v59
    have gn1 : ∀ d ∈ ancN L (fstN L e), TBL L 57 d = 4 → Gn d := fun d hd h4 => by
      rw [anc_st hl hfl h61] at hd
      rcases List.mem_cons.mp hd with rfl | hd
      · omega
      · exact hGn d hd h4
    have gn2 : ∀ d ∈ ancN L (sndN L e), TBL L 57 d = 4 → Gn d := fun d hd h4 => by
      rw [anc_st hl w3 w5] at hd
      rcases List.mem_cons.mp hd with rfl | hd
      · omega
      · exact hGn d hd h4
    have pk1 : ∀ s x : Int, PkL L (fstN L e) ((e, s, x) :: st) := fun s x => hPk.cons he (fun k hk hK => hK.ch hl hA.2.1 he hfl hk h61) (KpN.own hl hA.2.1 he hfl h61)
    have pk2 : ∀ s x : Int, PkL L (sndN L e) ((e, s, x) :: st) := fun s x => hPk.cons he (fun k hk hK => hK.ch hl hA.2.1 he w3 hk w5) (KpN.own hl hA.2.1 he w3 w5)
    by_cases k5 : TBL L 57 e = 5
    · have wy : ∀ o, seqW (wyR L kp f (fstN L e) (g - 1) nv G) (fun g1 nv1 G1 σ1 _ o => seqW (wyR L kp f (sndN L e) g1 nv1 G1) (fun g2 nv2 G2 σ2 t2 o => o = some (g2, nv2, G2, σ1 ++ σ2, t2)) o) o → ¬ g = 0 → wyR L kp (f + 1) e g nv G o := fun o ho g0 => by
        rw [wyR, if_neg g0, if_neg k0, if_neg k1, if_neg k2, if_neg k3, if_neg k4, if_pos k5]
        exact ho
      refine gv_step q (by omega) (by omega) (Q1 := fun h1 => AtV h0 a0 K0 L kp tc nv G Gn N T τ ((fstN L e, 0, -1) :: (e, 1, -1) :: st) (300 - (g : Int) + 1) lz fv yl res h1 a K) (gv_let q he ⟨by decide, by decide⟩ (by omega) k5 (fun h1 q1 => ?_)) (fun h1 q1 => ?_) (fun h1 q1 => q1.k8)
      · rw [gz] at q1
        exact s_letV0 q1 he hst f59
      by_cases g0 : g = 0
      · exact bad h1 (i + 1) v5 (none0 g0) (q1.ba (by omega))
      rw [show (300 : Int) - (g : Int) + 1 = 300 - ((g - 1 : Nat) : Int) by omega] at q1
      refine ih (fstN L e) nv G Gn N T τ ((e, 1, -1) :: st) (g - 1) lz fv yl res (i + 1) h1 a K v5 q1 (by omega) (by omega) hfl gn1 (pk1 _ _) hnv (by omega) (by omega) (by omega) (fun h2 g1 nv1 G1 σ1 t1 N1 a1 K1 T1 τ1 lz1 fv1 yl1 i1 c1 v6 j1 q2 hc1 hX1 hT1 hg1 hN1 hi1 hlz1 hnv1 => ?_) (fun h2 i1 v6 j1 q2 => bad h2 i1 v6 (wy _ ⟨none, j1, fun _ => rfl, fun _ _ _ _ _ z => nomatch z⟩ g0) q2)
      have wy2 : ∀ o, seqW (wyR L kp f (sndN L e) g1 nv1 G1) (fun g2 nv2 G2 σ2 t2 o => o = some (g2, nv2, G2, σ1 ++ σ2, t2)) o → wyR L kp (f + 1) e g nv G o := fun o ho => wy o ⟨_, j1, fun z => (nomatch z), fun a b c d e z => by
        injection z with z
        injection z with z1 z
        injection z with z2 z
        injection z with z3 z
        injection z with z4 z5
        subst z1 z2 z3 z4 z5
        exact ho⟩ g0
      refine gv_step q2 (by omega) (by omega) (Q1 := fun h3 => AtV h0 a0 K0 L kp tc nv1 G1 Gn N1 T1 τ1 ((sndN L e, 0, -1) :: (e, 2, -1) :: st) (300 - (g1 : Int)) lz1 fv1 yl1 (c1 : Int) h3 a1 K1) (gv_let q2 he ⟨by decide, by decide⟩ (by omega) k5 (fun h3 q3 => ?_)) (fun h3 q3 => ?_) (fun h3 q3 => q3.k8)
      · rw [if_neg (by decide), Int.add_zero] at q3
        exact s_letV1 q3 he hst v60
      refine ih (sndN L e) nv1 G1 Gn N1 T1 τ1 ((e, 2, -1) :: st) g1 lz1 fv1 yl1 (c1 : Int) (i1 + 1) h3 a1 K1 v6 q3 (by omega) (by omega) w3 gn2 (pk2 _ _) (by omega) (by omega) (by omega) (by omega) (fun h4 g2 nv2 G2 σ2 t2 N2 a2 K2 T2 τ2 lz2 fv2 yl2 i2 c2 v7 j2 q4 hc2 hX2 hT2 hg2 hN2 hi2 hlz2 hnv2 => ?_) (fun h4 i2 v7 j2 q4 => bad h4 i2 v7 (wy2 _ ⟨none, j2, fun _ => rfl, fun _ _ _ _ _ z => nomatch z⟩) q4)
      refine gv_step q4 (by omega) (by omega) (Q1 := EnV h0 a0 K0 L kp tc nv2 G2 Gn st (300 - (g2 : Int)) lz2 yl2 N2 0 T2 (T2 c2)) (gv_let q4 he ⟨by decide, by decide⟩ (by omega) k5 (fun h5 q5 => ?_)) (fun h5 q5 => ?_) (fun h5 q5 => q5.k8)
      · rw [if_neg (by decide), Int.add_zero] at q5
        exact s_letV2 q5 he (by omega) hc2
      obtain ⟨a3, K3, N3, T3, τ3, yl3, fv3, c3, q6, ⟨n1, n2, n3⟩, t3, hc3, hX3⟩ := q5
      refine ok h5 g2 nv2 G2 (σ1 ++ σ2) t2 N3 a3 K3 T3 τ3 lz2 fv3 yl3 (i2 + 1) c3 v7 (wy2 _ ⟨_, j2, fun z => (nomatch z), fun a b c d e z => ?_⟩) q6 hc3 (hX3.trans hX2) (fun d hd => by rw [t3 d (by omega), hT2 d (by omega), hT1 d hd, ap_app]) (by omega) ⟨by omega, by omega⟩ ⟨by omega, by omega⟩ ⟨hlz2.1, by omega⟩ (by omega)
      injection z with z
      injection z with z1 z
      injection z with z2 z
      injection z with z3 z
      injection z with z4 z5
      subst z1 z2 z3 z4 z5
      rfl
    have k6 : TBL L 57 e = 6 := by omega
    have wy : ∀ o, seqW (wyR L kp f (fstN L e) (g - 1) nv G) (fun g1 nv1 G1 σ1 t1 o => seqW (wyR L kp f (sndN L e) g1 nv1 G1) (fun g2 nv2 G2 σ2 t2 o => ∃ F R σ, un F [(ap σ2 t1, .op t2 (.var nv2))] = some (R, σ) ∧ (R.1 ≠ 0 → o = none) ∧ (R.1 = 0 → o = some (g2, nv2 + 1, (fun k => ap σ (G2 k)), σ1 ++ (σ2 ++ σ), ap σ (.var nv2)))) o) o → ¬ g = 0 → wyR L kp (f + 1) e g nv G o := fun o ho g0 => by
      rw [wyR, if_neg g0, if_neg k0, if_neg k1, if_neg k2, if_neg k3, if_neg k4, if_neg k5]
      exact ho
    refine gv_step q (by omega) (by omega) (Q1 := fun h1 => AtV h0 a0 K0 L kp tc nv G Gn N T τ ((fstN L e, 0, -1) :: (e, 1, -1) :: st) (300 - (g : Int) + 1) lz fv yl res h1 a K) (gv_app q he ⟨by decide, by decide⟩ (by omega) k6 (fun h1 q1 => ?_)) (fun h1 q1 => ?_) (fun h1 q1 => q1.k8)
    · rw [gz] at q1
      exact s_appV0 q1 he hst f59
    by_cases g0 : g = 0
    · exact bad h1 (i + 1) v5 (none0 g0) (q1.ba (by omega))
    rw [show (300 : Int) - (g : Int) + 1 = 300 - ((g - 1 : Nat) : Int) by omega] at q1
    refine ih (fstN L e) nv G Gn N T τ ((e, 1, -1) :: st) (g - 1) lz fv yl res (i + 1) h1 a K v5 q1 (by omega) (by omega) hfl gn1 (pk1 _ _) hnv (by omega) (by omega) (by omega) (fun h2 g1 nv1 G1 σ1 t1 N1 a1 K1 T1 τ1 lz1 fv1 yl1 i1 c1 v6 j1 q2 hc1 hX1 hT1 hg1 hN1 hi1 hlz1 hnv1 => ?_) (fun h2 i1 v6 j1 q2 => bad h2 i1 v6 (wy _ ⟨none, j1, fun _ => rfl, fun _ _ _ _ _ z => nomatch z⟩ g0) q2)
    have wy2 : ∀ o, seqW (wyR L kp f (sndN L e) g1 nv1 G1) (fun g2 nv2 G2 σ2 t2 o => ∃ F R σ, un F [(ap σ2 t1, .op t2 (.var nv2))] = some (R, σ) ∧ (R.1 ≠ 0 → o = none) ∧ (R.1 = 0 → o = some (g2, nv2 + 1, (fun k => ap σ (G2 k)), σ1 ++ (σ2 ++ σ), ap σ (.var nv2)))) o → wyR L kp (f + 1) e g nv G o := fun o ho => wy o ⟨_, j1, fun z => (nomatch z), fun a b c d e z => by
      injection z with z
      injection z with z1 z
      injection z with z2 z
      injection z with z3 z
      injection z with z4 z5
      subst z1 z2 z3 z4 z5
      exact ho⟩ g0
    refine gv_step q2 (by omega) (by omega) (Q1 := fun h3 => AtV h0 a0 K0 L kp tc nv1 G1 Gn N1 T1 τ1 ((sndN L e, 0, -1) :: (e, 2, (c1 : Int)) :: st) (300 - (g1 : Int)) lz1 fv1 yl1 (c1 : Int) h3 a1 K1) (gv_app q2 he ⟨by decide, by decide⟩ (by omega) k6 (fun h3 q3 => ?_)) (fun h3 q3 => ?_) (fun h3 q3 => q3.k8)
    · rw [if_neg (by decide), Int.add_zero] at q3
      exact s_appV1 q3 he hst v60
    refine ih (sndN L e) nv1 G1 Gn N1 T1 τ1 ((e, 2, (c1 : Int)) :: st) g1 lz1 fv1 yl1 (c1 : Int) (i1 + 1) h3 a1 K1 v6 q3 (by omega) (by omega) w3 gn2 (pk2 _ _) (by omega) (by omega) (by omega) (by omega) (fun h4 g2 nv2 G2 σ2 t2 N2 a2 K2 T2 τ2 lz2 fv2 yl2 i2 c2 v7 j2 q4 hc2 hX2 hT2 hg2 hN2 hi2 hlz2 hnv2 => ?_) (fun h4 i2 v7 j2 q4 => bad h4 i2 v7 (wy2 _ ⟨none, j2, fun _ => rfl, fun _ _ _ _ _ z => nomatch z⟩) q4)
    have wy3 : ∀ (F : Nat) (R : UR) (σ : List (Nat × TE)) (o : WO), un F [(ap σ2 t1, .op t2 (.var nv2))] = some (R, σ) → (R.1 ≠ 0 → o = none) → (R.1 = 0 → o = some (g2, nv2 + 1, (fun k => ap σ (G2 k)), σ1 ++ (σ2 ++ σ), ap σ (.var nv2))) → wyR L kp (f + 1) e g nv G o := fun F R σ o u1 u2 u3 => wy2 o ⟨_, j2, fun z => (nomatch z), fun a b c d e z => by
      injection z with z
      injection z with z1 z
      injection z with z2 z
      injection z with z3 z
      injection z with z4 z5
      subst z1 z2 z3 z4 z5
      exact ⟨F, R, σ, u1, u2, u3⟩⟩
    refine gv_step q4 (by omega) (by omega) (Q1 := fun h5 => ∃ T3 τ3 yl3 fv3, PrV h0 a0 K0 L kp tc (nv2 + 1) G2 Gn (N2 + 2) T3 τ3 ((e, 3, (c1 : Int)) :: st) (300 - (g2 : Int)) lz2 fv3 yl3 (c2 : Int) c1 (N2 + 1) h5 ∧ fv3 e = (N2 : Int) ∧ yl3 ≤ yl2 + 2 ∧ T3 c1 = T2 c1 ∧ T3 (N2 + 1) = .op (T2 c2) (.var nv2) ∧ T3 N2 = .var nv2 ∧ ∀ c, c < N2 → T3 c = T2 c) (gv_app q4 he ⟨by decide, by decide⟩ (by omega) k6 (fun h5 q5 => ?_)) (fun h5 q5 => ?_) (fun h5 q5 => ?_)
    · rw [if_neg (by decide), Int.add_zero] at q5
      exact s_appV2 q5 (by omega) he (by omega) (by omega) (by omega) hc2
    rotate_left
    · obtain ⟨T3, τ3, yl3, fv3, ⟨hb, a9, K9, a8, K8, -, d8, -⟩, -⟩ := q5
      exact ⟨d8.1.1.k8, d8.1.1.n8⟩
    obtain ⟨T3, τ3, yl3, fv3, p, x1, x2, x3, x4, x5, x6⟩ := q5
    rw [hT2 c1 hc1, hX1] at x3
    rw [hX2] at x4
    refine gv_pairs p (by omega) (by omega) (by omega) (by omega) (by omega) (by omega) (fun j g6 a6 K6 fu σ lz6 yl6 v8 q6 u1 hij hjb l6 l60 => ?_) (fun j g6 fu R σ v8 u1 u2 q6 => bad g6 j v8 (wy3 fu R σ none (by rw [← x3, ← x4]; exact u1) (fun _ => rfl) (fun z => absurd z u2)) q6) v7
    refine gv_step q6 (by omega) (by omega) (Q1 := EnV h0 a0 K0 L kp tc (nv2 + 1) (fun k => ap σ (G2 k)) Gn st (300 - (g2 : Int)) lz6 yl6 (N2 + 2) 0 (fun c => ap σ (T3 c)) (ap σ (T3 N2))) (gv_app q6 he ⟨by decide, by decide⟩ (by omega) k6 (fun h7 q7 => ?_)) (fun h7 q7 => ?_) (fun h7 q7 => q7.k8)
    · rw [if_neg (by decide), Int.add_zero] at q7
      exact s_appV3 (cf := N2) q7 he (by omega) x1 (by omega)
    obtain ⟨a8, K8, N8, T8, τ8, yl8, fv8, c8, q8, ⟨n1, n2, n3⟩, t8, hc8, hX8⟩ := q7
    refine ok h7 g2 (nv2 + 1) _ (σ1 ++ (σ2 ++ σ)) (ap σ (.var nv2)) N8 a8 K8 T8 τ8 lz6 fv8 yl8 (j + 1) c8 v8 (wy3 fu _ σ _ (by rw [← x3, ← x4]; exact u1) (fun z => absurd rfl z) (fun _ => rfl)) q8 hc8 (by rw [hX8, x5]) (fun d hd => ?_) (by omega) ⟨by omega, by omega⟩ ⟨by omega, by omega⟩ ⟨l60, by omega⟩ (by omega)
    rw [t8 d (by omega)]
    show ap σ (T3 d) = _
    rw [x6 d (by omega), hT2 d (by omega), hT1 d hd, ap_app, ap_app]
end CwVs
