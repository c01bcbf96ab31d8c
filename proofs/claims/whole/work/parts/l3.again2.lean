/-! the second way finds what may be, and the most general of it (pure) -/
section WyT
variable {L : List Nd} {kp : Nat → Option TE} {c : Nat → Int}
theorem sb_lt {nv : Nat} {θ θ' : Nat → TE} {t : TE} (h : LtT nv t) (ht : ∀ x, 2 ≤ x → x < nv → θ x = θ' x) : sbs θ t = sbs θ' t := sbs_cg t (fun x h2 ho => ht x h2 (h x h2 ho))
theorem sb_ltap {nv : Nat} {θ θ1 : Nat → TE} {σ : List (Nat × TE)} {t : TE} (h : LtT nv t) (ht : ∀ x, 2 ≤ x → x < nv → sbs θ1 (ap σ (.var x)) = θ x) : sbs θ1 (ap σ t) = sbs θ t := by
  rw [sbs_ap]
  exact sb_lt h ht
theorem env_anc {e k : Nat} (h : k ∈ envN L e) : k ∈ ancN L e := (env_mem.mp h).1
/-- it finds what may be -/
theorem wy_snd (hA : TmA L) (hkp : ∀ c R, kp c = some R → ∀ x, 2 ≤ x → oc x R = true → x < 210) : ∀ (f e g nv : Nat) (G : Nat → TE) (g' nv' : Nat) (G' : Nat → TE) (σ : List (Nat × TE)) (t : TE), wyR L kp f e g nv G (some (g', nv', G', σ, t)) → e < L.length → 2 ≤ nv → (∀ k, LtT nv (G k)) → g ≤ 300 →
    ∀ θ : Nat → TE, DV L kp e (fun k => sbs θ (G' k)) (sbs θ t)
  | 0, _, _, _, _, _, _, _, _, _, h, _, _, _, _ => nomatch h
  | f + 1, e, g, nv, G, g', nv', G', σ, t, h, he, hnv, hG, hg => by
    intro θ
    have hl := hA.1
    have nd := hA.2.1 e he
    rw [wyR] at h
    by_cases g0 : g = 0
    · rw [if_pos g0] at h; exact nomatch h
    rw [if_neg g0] at h
    by_cases k0 : TBL L 57 e = 0
    · rw [if_pos k0] at h
      by_cases b0 : bd (TBL L) e < 0
      · rw [if_pos b0] at h; exact nomatch h
      rw [if_neg b0] at h
      by_cases b4 : TBL L 57 (bd (TBL L) e).toNat = 4
      · rw [if_pos b4] at h
        have hh := Option.some.inj h
        have e3 : G' = G := congrArg (fun z => z.2.2.1) hh
        have e5 : t = G (bd (TBL L) e).toNat := congrArg (fun z => z.2.2.2.2) hh
        subst e3 e5
        exact (DV.nmf k0 (by omega) b4).mpr rfl
      rw [if_neg b4] at h
      obtain ⟨hb, hfl, hbl⟩ := bd_fst hA he (by omega) b4
      exact (DV.nml k0 (by omega) b4).mpr (wy_snd hA hkp f _ (g - 1) nv G g' nv' G' σ t h hfl hnv hG (by omega) θ)
    rw [if_neg k0] at h
    by_cases k1 : TBL L 57 e = 1
    · rw [if_pos k1] at h
      cases hk : kp (TBL L 58 e - 65).toNat with
      | none => rw [hk] at h; exact nomatch h
      | some R =>
        rw [hk] at h
        have hh := Option.some.inj h
        have e5 : t = sbs (fun x => .var (nv + x)) R := congrArg (fun z => z.2.2.2.2) hh
        subst e5
        exact (DV.kpt k1).mpr ⟨R, _, hk, sbs_comp _ _ _⟩
    rw [if_neg k1] at h
    by_cases k2 : TBL L 57 e = 2
    · rw [if_pos k2] at h
      have hh := Option.some.inj h
      have e5 : t = .var 0 := congrArg (fun z => z.2.2.2.2) hh
      subst e5
      exact (DV.num k2).mpr (sbs_v0 (by decide))
    rw [if_neg k2] at h
    by_cases k3 : TBL L 57 e = 3
    · rw [if_pos k3] at h
      have hh := Option.some.inj h
      have e5 : t = sgT (TBL L 58 e) nv := congrArg (fun z => z.2.2.2.2) hh
      subst e5
      exact (DV.sgn k3).mpr ⟨sbs θ (.var nv), by rw [sg_sg, sg_sbs]⟩
    rw [if_neg k3] at h
    by_cases k4 : TBL L 57 e = 4
    · rw [if_pos k4] at h
      rcases nd with w | ⟨-, -, w1, w2, w3⟩ | w
      · omega
      · obtain ⟨g1, nv1, G1, σ1, t1, h1, h2⟩ := seqW_s h
        have h2 := Option.some.inj h2
        have e3 : G' = G1 := congrArg (fun z => z.2.2.1) h2
        have e5 : t = .op (G1 e) t1 := congrArg (fun z => z.2.2.2.2) h2
        subst e3 e5
        have hG1 : ∀ k, LtT (nv + 1) (upT G e (.var nv) k) := fun k => by
          by_cases z : k = e
          · rw [z, upT_s]; exact vsT_var (fun _ => Nat.lt_succ_self _)
          · rw [upT_n z]; exact (hG k).up (Nat.le_succ _)
        have ih := wy_snd hA hkp f _ (g - 1) (nv + 1) _ g1 nv1 G' σ1 t1 h1 (by omega) (by omega) hG1 (by omega) θ
        refine (DV.fun k4).mpr ⟨sbs θ (G' e), sbs θ t1, ?_, sbs_o⟩
        have ee : upT (fun k => sbs θ (G' k)) e (sbs θ (G' e)) = fun k => sbs θ (G' k) := by
          funext k
          by_cases z : k = e
          · rw [z, upT_s]
          · rw [upT_n z]
        rw [ee]
        exact ih
      · omega
    rw [if_neg k4] at h
    rcases nd with w | w | ⟨w0, -, -, w1, w2, w3, w4, w5⟩
    · omega
    · omega
    have hfl : fstN L e < L.length := by omega
    have e1' : ∀ k ∈ envN L (fstN L e), k ∈ envN L e := fun k hk => by
      rw [w1] at hk
      rcases (env_c4 hl (by omega) w4).mp hk with ⟨-, y⟩ | y
      · exact absurd y k4
      · exact y
    have kp2 : ∀ k ∈ envN L (fstN L e), k < L.length ∧ KpN L (sndN L e) k := fun k hk => by
      have ka := env_anc (e1' k hk)
      have kl : k < L.length := by have := anc_lt' he ka; omega
      exact ⟨kl, (KpN.ar hl hA.2.1 he ka).ch hl hA.2.1 he w3 kl w5⟩
    by_cases k5 : TBL L 57 e = 5
    · rw [if_pos k5] at h
      obtain ⟨g1, nv1, G1, σ1, t1, h1, h2⟩ := seqW_s h
      obtain ⟨g2, nv2, G2, σ2, t2, h3, h4⟩ := seqW_s h2
      have h4 := Option.some.inj h4
      have e3 : G' = G2 := congrArg (fun z => z.2.2.1) h4
      have e5 : t = t2 := congrArg (fun z => z.2.2.2.2) h4
      subst e3 e5
      obtain ⟨q1, q2, q3, q4, q5, q6, q7⟩ := wy_ok (c := fun _ => 0) hA hkp f _ (g - 1) nv G g1 nv1 G1 σ1 t1 h1 hfl hnv hG (by omega)
      obtain ⟨r1, r2, r3, r4, r5, r6, r7⟩ := wy_ok (c := fun _ => 0) hA hkp f _ g1 nv1 G1 g2 nv2 G' σ2 t h3 w3 (by omega) q2 (by omega)
      have i1 := wy_snd hA hkp f _ (g - 1) nv G g1 nv1 G1 σ1 t1 h1 hfl hnv hG (by omega) (fun x => sbs θ (ap σ2 (.var x)))
      have i2 := wy_snd hA hkp f _ g1 nv1 G1 g2 nv2 G' σ2 t h3 w3 (by omega) q2 (by omega) θ
      refine (DV.let k5).mpr ⟨⟨_, i1.cg hl hA.2.1 hfl (fun k hk => ?_)⟩, i2⟩
      obtain ⟨kl, kk⟩ := kp2 k hk
      show sbs _ (G1 k) = sbs θ (G' k)
      rw [r5 k kl kk, ← sbs_ap]
    rw [if_neg k5] at h
    obtain ⟨g1, nv1, G1, σ1, t1, h1, h2⟩ := seqW_s h
    obtain ⟨g2, nv2, G2, σ2, t2, h3, h4⟩ := seqW_s h2
    obtain ⟨F, R, ρ, u1, u2, u3⟩ := h4
    by_cases u0 : R.1 = 0
    · have h4 := Option.some.inj (u3 u0)
      have e3 : G' = (fun k => ap ρ (G2 k)) := congrArg (fun z => z.2.2.1) h4
      have e5 : t = ap ρ (.var nv2) := congrArg (fun z => z.2.2.2.2) h4
      subst e3 e5
      obtain ⟨q1, q2, q3, q4, q5, q6, q7⟩ := wy_ok (c := fun _ => 0) hA hkp f _ (g - 1) nv G g1 nv1 G1 σ1 t1 h1 hfl hnv hG (by omega)
      obtain ⟨r1, r2, r3, r4, r5, r6, r7⟩ := wy_ok (c := fun _ => 0) hA hkp f _ g1 nv1 G1 g2 nv2 G2 σ2 t2 h3 w3 (by omega) q2 (by omega)
      have i1 := wy_snd hA hkp f _ (g - 1) nv G g1 nv1 G1 σ1 t1 h1 hfl hnv hG (by omega) (fun x => sbs θ (ap ρ (ap σ2 (.var x))))
      have i2 := wy_snd hA hkp f _ g1 nv1 G1 g2 nv2 G2 σ2 t2 h3 w3 (by omega) q2 (by omega) (fun x => sbs θ (ap ρ (.var x)))
      have ue := un_eq F _ R ρ u1 u0 _ List.mem_cons_self
      have ue : ap ρ (ap σ2 t1) = ap ρ (.op t2 (.var nv2)) := ue
      rw [ap_op] at ue
      have two : ∀ u, sbs (fun x => sbs θ (ap ρ (ap σ2 (.var x)))) u = sbs θ (ap ρ (ap σ2 u)) := fun u => by
        rw [← ap_app, sbs_ap]
        refine sbs_cg u (fun x _ _ => ?_)
        rw [ap_app]
      have i1 := i1.cg hl hA.2.1 hfl (γ' := fun k => sbs θ (ap ρ (G2 k))) (fun k hk => by
        obtain ⟨kl, kk⟩ := kp2 k hk
        show sbs _ (G1 k) = sbs θ (ap ρ (G2 k))
        rw [r5 k kl kk, two])
      rw [two, ue, sbs_o] at i1
      refine (DV.app (by omega)).mpr ⟨_, i1, ?_⟩
      have e2 : (fun k => sbs θ (ap ρ (G2 k))) = fun k => sbs (fun x => sbs θ (ap ρ (.var x))) (G2 k) := funext fun k => sbs_ap
      show DV L kp (sndN L e) (fun k => sbs θ (ap ρ (G2 k))) _
      rw [e2, sbs_ap]
      exact i2
    · exact nomatch u2 u0
/-- and the most general of it; it does not fail where something may be -/
theorem wy_cmp (hA : TmA L) (hkp : ∀ c R, kp c = some R → ∀ x, 2 ≤ x → oc x R = true → x < 210) : ∀ (f e g nv : Nat) (G : Nat → TE) (o : WO), wyR L kp f e g nv G o → g < f → e < L.length → 2 ≤ nv → (∀ k, LtT nv (G k)) → g ≤ 300 → ∀ (θ : Nat → TE) (t0 : TE), DV L kp e (fun k => sbs θ (G k)) t0 → (CoS L c ∧ c e ≤ (g : Int)) ∨ o ≠ none →
    ∃ (g' nv' : Nat) (G' : Nat → TE) (σ : List (Nat × TE)) (t : TE) (θ1 : Nat → TE), o = some (g', nv', G', σ, t) ∧ sbs θ1 t = t0 ∧ ∀ x, 2 ≤ x → x < nv → sbs θ1 (ap σ (.var x)) = θ x
  | 0, _, _, _, _, _, _, hf, _, _, _, _, _, _, _, _ => absurd hf (Nat.not_lt_zero _)
  | f + 1, e, g, nv, G, o, h, hf, he, hnv, hG, hg, θ, t0, hd, hce => by
    have hl := hA.1
    have nd := hA.2.1 e he
    have c1 : CoS L c → c e ≤ (g : Int) → c e = cosS L c e := fun hc hce => by
      have := (hc e he).2
      by_cases z : 300 < cosS L c e
      · rw [if_pos z] at this; omega
      · rw [if_neg z] at this; exact this
    have cp : CoS L c → ∀ x, x < L.length → 0 ≤ c x := fun hc x hx => (hc x hx).1
    rw [wyR] at h
    have g0 : ¬ g = 0 := fun z => by
      rcases hce with ⟨hc, hce⟩ | hce
      rotate_left
      · rw [if_pos z] at h; exact hce h
      have c1 := c1 hc hce
      have cp := cp hc
      have : 1 ≤ cosS L c e := by
        unfold cosS
        have z1 : 0 ≤ (if TBL L 59 e < 0 then 0 else c (fstN L e)) := by
          split
          · omega
          · rename_i z9
            have := (TBL_gd (L := L) e he).2.2.1
            exact cp _ (by unfold fstN; omega)
        have z2 : 0 ≤ (if TBL L 60 e < 0 then 0 else c (sndN L e)) := by
          split
          · omega
          · rename_i z9
            have := (TBL_gd (L := L) e he).2.2.2
            exact cp _ (by unfold sndN; omega)
        have z3 : 0 ≤ (if TBL L 57 e = 0 ∧ 0 ≤ bd (TBL L) e ∧ TBL L 57 (bd (TBL L) e).toNat = 5 then c (fstN L (bd (TBL L) e).toNat) else 0) := by
          split
          · rename_i z9
            exact cp _ (bd_fst hA he z9.2.1 (by omega)).2.1
          · omega
        omega
      omega
    rw [if_neg g0] at h
    have id1 : ∀ {m : Nat} {θ1 : Nat → TE}, (∀ x, 2 ≤ x → x < nv → θ1 x = θ x) → ∀ x, 2 ≤ x → x < nv → sbs θ1 (ap [] (.var x)) = θ x := fun {m θ1} hh x x2 hx => by
      show sbs θ1 (.var x) = θ x
      rw [sbs_v x2]
      exact hh x x2 hx
    by_cases k0 : TBL L 57 e = 0
    · rw [if_pos k0] at h
      have b0' := hd.bd0 k0
      have b0 : ¬ bd (TBL L) e < 0 := by omega
      rw [if_neg b0] at h
      by_cases b4 : TBL L 57 (bd (TBL L) e).toNat = 4
      · rw [if_pos b4] at h
        exact ⟨_, _, _, _, _, θ, h, ((DV.nmf k0 b0' b4).mp hd).symm, id1 (m := 0) (fun _ _ _ => rfl)⟩
      rw [if_neg b4] at h
      obtain ⟨hb, hfl, hbl⟩ := bd_fst hA he b0' b4
      have co := co_nm (c := c) hA he ⟨k0, b0', hb.2.1⟩
      exact wy_cmp hA hkp f _ (g - 1) nv G o h (by omega) hfl hnv hG (by omega) θ t0 ((DV.nml k0 b0' b4).mp hd) (hce.imp (fun z => ⟨z.1, by have := c1 z.1 z.2; omega⟩) id)
    rw [if_neg k0] at h
    by_cases k1 : TBL L 57 e = 1
    · rw [if_pos k1] at h
      obtain ⟨R, θ', hk, ht⟩ := (DV.kpt k1).mp hd
      rw [hk] at h
      refine ⟨_, _, _, _, _, (fun x => if x < nv then θ x else θ' (x - nv)), h, ?_, id1 (m := 0) (fun x _ hx => if_pos hx)⟩
      rw [sbs_comp, ht]
      refine sbs_cg R (fun x x2 _ => ?_)
      rw [sbs_v (by omega), if_neg (by omega), Nat.add_sub_cancel_left]
    rw [if_neg k1] at h
    by_cases k2 : TBL L 57 e = 2
    · rw [if_pos k2] at h
      exact ⟨_, _, _, _, _, θ, h, by rw [(DV.num k2).mp hd]; exact sbs_v0 (by decide), id1 (m := 0) (fun _ _ _ => rfl)⟩
    rw [if_neg k2] at h
    by_cases k3 : TBL L 57 e = 3
    · rw [if_pos k3] at h
      obtain ⟨u, hu⟩ := (DV.sgn k3).mp hd
      refine ⟨_, _, _, _, _, (fun x => if x < nv then θ x else u), h, ?_, id1 (m := 0) (fun x _ hx => if_pos hx)⟩
      rw [hu, sg_sg, sg_sbs, sbs_v hnv, if_neg (Nat.lt_irrefl _)]
    rw [if_neg k3] at h
    by_cases k4 : TBL L 57 e = 4
    · rw [if_pos k4] at h
      rcases nd with w | ⟨-, -, w1, w2, w3⟩ | w
      · omega
      · obtain ⟨a, t', d1, d2⟩ := (DV.fun k4).mp hd
        have hfl : fstN L e < L.length := by omega
        have co := co_fn (c := c) hA he k4
        have hG1 : ∀ k, LtT (nv + 1) (upT G e (.var nv) k) := fun k => by
          by_cases z : k = e
          · rw [z, upT_s]; exact vsT_var (fun _ => Nat.lt_succ_self _)
          · rw [upT_n z]; exact (hG k).up (Nat.le_succ _)
        obtain ⟨o1, h1, h2, h3⟩ := h
        obtain ⟨g1, nv1, G1, σ1, t1, θ1, e1, e2, e3⟩ := wy_cmp hA hkp f _ (g - 1) (nv + 1) _ o1 h1 (by omega) hfl (by omega) hG1 (by omega) (fun x => if x < nv then θ x else a) t' (d1.cg hl hA.2.1 hfl (fun k hk => by
          by_cases z : k = e
          · rw [z, upT_s]
            show a = sbs _ (upT G e (.var nv) e)
            rw [upT_s, sbs_v hnv, if_neg (Nat.lt_irrefl _)]
          · rw [upT_n z]
            show sbs θ (G k) = sbs _ (upT G e (.var nv) k)
            rw [upT_n z]
            exact sb_lt (hG k) (fun x _ hx => (if_pos hx).symm))) (hce.imp (fun z => ⟨z.1, by have := c1 z.1 z.2; omega⟩) (fun z w => z (h2 w)))
        rw [e1] at h1
        obtain ⟨q1, q2, q3, q4, q5, q6, q7⟩ := wy_ok (c := c) hA hkp f _ (g - 1) (nv + 1) _ g1 nv1 G1 σ1 t1 h1 hfl (by omega) hG1 (by omega)
        refine ⟨g1, nv1, G1, σ1, _, θ1, h3 _ _ _ _ _ e1, ?_, fun x x2 hx => by rw [e3 x x2 (by omega), if_pos hx]⟩
        rw [sbs_o, e2, d2]
        have ke := q5 e he (by rw [w1]; exact KpN.own hl hA.2.1 he w2 w3)
        rw [upT_s] at ke
        rw [ke, e3 nv hnv (Nat.lt_succ_self _), if_neg (Nat.lt_irrefl _)]
      · omega
    rw [if_neg k4] at h
    rcases nd with w | w | ⟨w0, -, -, w1, w2, w3, w4, w5⟩
    · omega
    · omega
    have hfl : fstN L e < L.length := by omega
    have co := co_tw (c := c) hA he (by omega)
    have e2' : ∀ k ∈ envN L (sndN L e), k < L.length ∧ KpN L (fstN L e) k := fun k hk => by
      have ka : k ∈ ancN L e := by
        rcases (env_c4 hl w3 w5).mp hk with ⟨-, y⟩ | y
        · exact absurd y k4
        · exact env_anc y
      have kl : k < L.length := by have := anc_lt' he ka; omega
      exact ⟨kl, by rw [w1]; exact (KpN.ar hl hA.2.1 he ka).ch hl hA.2.1 he (by omega) kl w4⟩
    by_cases k5 : TBL L 57 e = 5
    · rw [if_pos k5] at h
      obtain ⟨⟨s, d1⟩, d2⟩ := (DV.let k5).mp hd
      obtain ⟨o1, h1, h2, h3⟩ := h
      obtain ⟨g1, nv1, G1, σ1, t1, θ1, e1, e2, e3⟩ := wy_cmp hA hkp f _ (g - 1) nv G o1 h1 (by omega) hfl hnv hG (by omega) θ s d1 (hce.imp (fun z => ⟨z.1, by have := c1 z.1 z.2; have := cp z.1 _ w3; omega⟩) (fun z w => z (h2 w)))
      rw [e1] at h1
      obtain ⟨q1, q2, q3, q4, q5, q6, q7⟩ := wy_ok (c := c) hA hkp f _ (g - 1) nv G g1 nv1 G1 σ1 t1 h1 hfl hnv hG (by omega)
      obtain ⟨o2, i1, i2, i3⟩ := h3 _ _ _ _ _ e1
      obtain ⟨g2, nv2, G2, σ2, t2, θ2, f1, f2, f3⟩ := wy_cmp hA hkp f _ g1 nv1 G1 o2 i1 (by omega) w3 (by omega) q2 (by omega) θ1 t0 (d2.cg hl hA.2.1 w3 (fun k hk => by
        obtain ⟨kl, kk⟩ := e2' k hk
        show sbs θ (G k) = sbs θ1 (G1 k)
        rw [q5 k kl kk, sb_ltap (hG k) e3])) (hce.imp (fun z => ⟨z.1, by have := c1 z.1 z.2; have := q6 z.1; omega⟩) (fun z w => z (i2 w)))
      refine ⟨g2, nv2, G2, σ1 ++ σ2, t2, θ2, i3 _ _ _ _ _ f1, f2, fun x x2 hx => ?_⟩
      rw [ap_app, sb_ltap (q4 x x2 hx) f3, e3 x x2 hx]
    rw [if_neg k5] at h
    obtain ⟨a, d1, d2⟩ := (DV.app (by omega)).mp hd
    obtain ⟨o1, h1, h2, h3⟩ := h
    obtain ⟨g1, nv1, G1, σ1, t1, θ1, e1, e2, e3⟩ := wy_cmp hA hkp f _ (g - 1) nv G o1 h1 (by omega) hfl hnv hG (by omega) θ _ d1 (hce.imp (fun z => ⟨z.1, by have := c1 z.1 z.2; have := cp z.1 _ w3; omega⟩) (fun z w => z (h2 w)))
    rw [e1] at h1
    obtain ⟨q1, q2, q3, q4, q5, q6, q7⟩ := wy_ok (c := c) hA hkp f _ (g - 1) nv G g1 nv1 G1 σ1 t1 h1 hfl hnv hG (by omega)
    obtain ⟨o2, i1, i2, i3⟩ := h3 _ _ _ _ _ e1
    obtain ⟨g2, nv2, G2, σ2, t2, θ2, f1, f2, f3⟩ := wy_cmp hA hkp f _ g1 nv1 G1 o2 i1 (by omega) w3 (by omega) q2 (by omega) θ1 a (d2.cg hl hA.2.1 w3 (fun k hk => by
      obtain ⟨kl, kk⟩ := e2' k hk
      show sbs θ (G k) = sbs θ1 (G1 k)
      rw [q5 k kl kk, sb_ltap (hG k) e3])) (hce.imp (fun z => ⟨z.1, by have := c1 z.1 z.2; have := q6 z.1; omega⟩) (fun z w => z (i2 w)))
    rw [f1] at i1
    obtain ⟨r1, r2, r3, r4, r5, r6, r7⟩ := wy_ok (c := c) hA hkp f _ g1 nv1 G1 g2 nv2 G2 σ2 t2 i1 w3 (by omega) q2 (by omega)
    obtain ⟨F, R, ρ, u1, u2, u3⟩ := i3 _ _ _ _ _ f1
    obtain ⟨θ3, h3'⟩ : ∃ θ3 : Nat → TE, θ3 = fun x => if x < nv2 then θ2 x else t0 := ⟨_, rfl⟩
    have t3 : ∀ {t : TE}, LtT nv2 t → sbs θ3 t = sbs θ2 t := fun ht => sb_lt ht (fun x _ hx => by rw [h3']; exact if_pos hx)
    have n2 : θ3 nv2 = t0 := by rw [h3']; exact if_neg (Nat.lt_irrefl _)
    obtain ⟨m1, m2⟩ := un_mgu (θ := θ3) F _ R ρ u1 (fun p hp => by
      rw [List.mem_singleton.mp hp]
      show sbs θ3 (ap σ2 t1) = sbs θ3 (.op t2 (.var nv2))
      rw [sbs_o, t3 (r4.ap q3), t3 r3, sb_ltap q3 f3, e2, f2, sbs_v (by omega), n2])
    refine ⟨_, _, _, _, _, θ3, u3 m1, by rw [m2, sbs_v (by omega), n2], fun x x2 hx => ?_⟩
    rw [ap_app, ap_app, m2, t3 (r4.ap (q4 x x2 hx)), sb_ltap (q4 x x2 hx) f3, e3 x x2 hx]
end WyT
