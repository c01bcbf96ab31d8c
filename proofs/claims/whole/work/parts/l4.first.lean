/-! the first way finds what may be, and the most general of it (pure) -/
def VBI (S : IS) : Prop := ∀ k, LtT S.1 (S.2.1 k) ∧ LtT S.1 (S.2.2.1 k)
theorem VBI.upF {S : IS} {e nv : Nat} {t : TE} (h : VBI S) (hn : S.1 ≤ nv) (ht : LtT nv t) : VBI (isF S e t nv) := fun k => by
  refine ⟨?_, (h k).2.up hn⟩
  show LtT nv (upT S.2.1 e t k)
  by_cases z : k = e
  · rw [z, upT_s]; exact ht
  · rw [upT_n z]; exact (h k).1.up hn
section InB
variable {L : List Nd} {kp : Nat → Option TE}
theorem inf_vb (hkp : ∀ c R, kp c = some R → ∀ x, 2 ≤ x → oc x R = true → x < 210) : ∀ (f e : Nat) (S : IS) (r : IR) (S' : IS), infR L kp f e S r S' → r.1 = 0 → 2 ≤ S.1 → (∀ x, S.2.2.2 x = true → x < S.1) → VBI S → S.1 ≤ S'.1 ∧ VBI S' ∧ ∀ x, S'.2.2.2 x = true → x < S'.1
  | 0, _, _, _, _, h, _, _, _, _ => h.elim
  | f + 1, e, S, r, S', h, hr, h2, hgn, hv => by
    have leaf : ∀ (t : TE) (nv : Nat), S.1 ≤ nv → LtT nv t → S' = isF S e t nv → S.1 ≤ S'.1 ∧ VBI S' ∧ ∀ x, S'.2.2.2 x = true → x < S'.1 := fun t nv hn ht eS => by
      rw [eS]
      exact ⟨hn, hv.upF hn ht, fun x hx => Nat.lt_of_lt_of_le (hgn x hx) hn⟩
    rw [infR] at h
    by_cases k3 : TBL L 57 e < 4
    · rw [if_pos k3] at h
      unfold lfR at h
      by_cases k0 : TBL L 57 e = 0
      · rw [if_pos k0] at h
        by_cases b0 : bd (TBL L) e < 0
        · rw [if_pos b0] at h
          rw [h] at hr
          exact absurd (show (3 : Int) = 0 from hr) (by decide)
        · rw [if_neg b0] at h
          by_cases b4 : TBL L 57 (bd (TBL L) e).toNat = 4
          · rw [if_pos b4] at h
            exact leaf _ _ (Nat.le_refl _) (hv _).2 h.2
          · rw [if_neg b4] at h
            refine leaf _ _ (by omega) (fun y y2 yo => ?_) h.2
            obtain ⟨x, x2, xo, yo⟩ := oc_sbs y2 yo
            have hx := (hv (fstN L (bd (TBL L) e).toNat)).1 x x2 xo
            show y < S.1 + S.1
            by_cases g : S.2.2.2 x = true
            · rw [if_pos g] at yo
              have := oc_v yo
              have := hgn x g
              omega
            · rw [if_neg g] at yo
              have := oc_v yo
              have hx : x < S.1 := hx
              omega
      · rw [if_neg k0] at h
        by_cases k1 : TBL L 57 e = 1
        · rw [if_pos k1] at h
          cases hk : kp (TBL L 58 e - 65).toNat with
          | none =>
            rw [hk] at h
            rw [show r = (3, (e : Int), -1, -1) from h] at hr
            exact absurd (show (3 : Int) = 0 from hr) (by decide)
          | some R =>
            rw [hk] at h
            exact leaf _ _ (by omega) (lt_ins (hkp _ _ hk)) h.2
        · rw [if_neg k1] at h
          by_cases k2 : TBL L 57 e = 2
          · rw [if_pos k2] at h
            exact leaf _ _ (Nat.le_refl _) (vsT_var (fun z => by omega)) h.2
          · rw [if_neg k2] at h
            exact leaf _ _ (by omega) lt_sg h.2
    rw [if_neg k3] at h
    by_cases k4 : TBL L 57 e = 4
    · rw [if_pos k4] at h
      obtain ⟨r1, S1, h1, h1', -, h3⟩ := th_ok h hr
      have hv0 : VBI (S.1 + 1, S.2.1, upT S.2.2.1 e (.var S.1), S.2.2.2) := fun k => by
        refine ⟨(hv k).1.up (Nat.le_succ _), ?_⟩
        show LtT (S.1 + 1) (upT S.2.2.1 e (.var S.1) k)
        by_cases z : k = e
        · rw [z, upT_s]; exact vsT_var (fun _ => Nat.lt_succ_self _)
        · rw [upT_n z]; exact (hv k).2.up (Nat.le_succ _)
      obtain ⟨q1, q2, q3⟩ := inf_vb hkp f _ _ r1 S1 h1 h1' (by show 2 ≤ S.1 + 1; omega) (fun x hx => Nat.lt_succ_of_lt (hgn x hx)) hv0
      have q1 : S.1 + 1 ≤ S1.1 := q1
      rw [h3]
      exact ⟨by show S.1 ≤ S1.1; omega, q2.upF (Nat.le_refl _) (vsT_op.mpr ⟨(q2 _).2, (q2 _).1⟩), q3⟩
    rw [if_neg k4] at h
    by_cases k5 : TBL L 57 e = 5
    · rw [if_pos k5] at h
      obtain ⟨r1, S1, h1, h1', h3⟩ := th_ok h hr
      obtain ⟨q1, q2, q3⟩ := inf_vb hkp f _ _ r1 S1 h1 h1' h2 hgn hv
      by_cases c9 : 201 ≤ sz (S1.2.1 (fstN L e))
      · rw [if_pos c9] at h3
        rw [h3] at hr
        exact absurd (show (10 : Int) = 0 from hr) (by decide)
      rw [if_neg c9] at h3
      obtain ⟨r2, S2, j1, j1', -, j3⟩ := th_ok h3 hr
      obtain ⟨s1, s2, s3⟩ := inf_vb hkp f _ _ r2 S2 j1 j1' (by show 2 ≤ S1.1; omega) (fun x hx => by
        show x < S1.1
        have hx : (S1.2.2.2 x || (oc x (S1.2.1 (fstN L e)) && !((envN L e).any (fun k => oc x (S1.2.2.1 k))))) = true := hx
        rw [Bool.or_eq_true, Bool.and_eq_true] at hx
        rcases hx with hx | ⟨hx, -⟩
        · exact q3 x hx
        · by_cases x2 : 2 ≤ x
          · exact (q2 _).1 x x2 hx
          · omega) (fun k => q2 k)
      have s1 : S1.1 ≤ S2.1 := s1
      rw [j3]
      exact ⟨by show S.1 ≤ S2.1; omega, s2.upF (Nat.le_refl _) (s2 _).1, s3⟩
    rw [if_neg k5] at h
    obtain ⟨r1, S1, h1, h1', h3⟩ := th_ok h hr
    obtain ⟨q1, q2, q3⟩ := inf_vb hkp f _ _ r1 S1 h1 h1' h2 hgn hv
    obtain ⟨r2, S2, j1, j1', j3⟩ := th_ok h3 hr
    obtain ⟨s1, s2, s3⟩ := inf_vb hkp f _ _ r2 S2 j1 j1' (by omega) q3 q2
    unfold apR at j3
    by_cases c9 : 201 ≤ sz (S2.2.1 (fstN L e)) ∨ 201 ≤ sz (S2.2.1 (sndN L e))
    · rw [if_pos c9] at j3
      rw [j3] at hr
      exact absurd (show (10 : Int) = 0 from hr) (by decide)
    rw [if_neg c9] at j3
    obtain ⟨F, R, σ, u1, u2, u3⟩ := j3
    by_cases h0 : R.1 = 0
    · by_cases c8 : 201 ≤ sz (ap σ (S2.2.1 (fstN L e)))
      · rw [(u3 h0).1 c8] at hr
        exact absurd (show (10 : Int) = 0 from hr) (by decide)
      obtain ⟨-, eS⟩ := (u3 h0).2 c8
      have vv : LtT (S2.1 + 1) (.var S2.1) := vsT_var (fun _ => Nat.lt_succ_self _)
      have vu := VBS.un (nv := S2.1 + 1) (fun p hp => by
        rw [List.mem_singleton.mp hp]
        exact ⟨(s2 _).1.up (Nat.le_succ _), vsT_op.mpr ⟨(s2 _).1.up (Nat.le_succ _), vv⟩⟩) u1
      have v3 := s2.upF (e := e) (Nat.le_succ _) vv
      rw [eS]
      exact ⟨by show S.1 ≤ S2.1 + 1; omega, fun k => ⟨vu.ap (v3 k).1, vu.ap (v3 k).2⟩, fun x hx => Nat.lt_succ_of_lt (s3 x hx)⟩
    · rw [u2 h0] at hr
      exact absurd hr h0
/-- what a let binds: all that it finds may be -/
def PLt (L : List Nd) (kp : Nat → Option TE) (S : IS) (b : Nat) : Prop := ∀ θ : Nat → TE, DV L kp (fstN L b) (fun k => sbs θ (S.2.2.1 k)) (sbs θ (S.2.1 (fstN L b)))
/-- and nothing else -/
def QLt (L : List Nd) (kp : Nat → Option TE) (S : IS) (b : Nat) : Prop := ∀ (θ : Nat → TE) (t : TE), DV L kp (fstN L b) (fun k => sbs θ (S.2.2.1 k)) t → ∃ θ' : Nat → TE, (∀ x, 2 ≤ x → S.2.2.2 x = false → θ' x = θ x) ∧ sbs θ' (S.2.1 (fstN L b)) = t
def LtI (L : List Nd) (kp : Nat → Option TE) (S : IS) (e : Nat) : Prop := ∀ b ∈ ancN L e, TBL L 57 b = 5 → InP L (sndN L b) e → PLt L kp S b ∧ QLt L kp S b
def SndP (L : List Nd) (kp : Nat → Option TE) (S' : IS) (e : Nat) : Prop := ∀ θ : Nat → TE, DV L kp e (fun k => sbs θ (S'.2.2.1 k)) (sbs θ (S'.2.1 e))
def CmpP (L : List Nd) (kp : Nat → Option TE) (S S' : IS) (e hi : Nat) : Prop := ∀ (θ : Nat → TE) (t : TE), DV L kp e (fun k => sbs θ (S.2.2.1 k)) t → ∃ θ' : Nat → TE, sbs θ' (S'.2.1 e) = t ∧ ∀ k, (k < e ∨ hi ≤ k) → sbs θ' (S'.2.1 k) = sbs θ (S.2.1 k) ∧ sbs θ' (S'.2.2.1 k) = sbs θ (S.2.2.1 k)
theorem in_le (hA : TmA L) {b e : Nat} (he : e < L.length) (h : InP L (sndN L b) e) : sndN L b ≤ e := by
  rcases h with h | h
  · omega
  · have := anc_lt' he h; omega
/-- what lets bind stays what it is -/
theorem LtI.st (hA : TmA L) {e len lo hi : Nat} {S S' : IS} {σ : List (Nat × TE)} (hI : LtI L kp S e) (hP : PreL L S e len) (hlen : 0 < len) (he : e < L.length) (hs : StpL (envN L e) S.1 lo hi S S' σ) (hlo : e ≤ lo) : LtI L kp S' e := fun b hb h5 hin => by
  have hl := hA.1
  obtain ⟨p, q⟩ := hI b hb h5 hin
  have be := anc_lt' he hb
  have sle := in_le hA he hin
  rcases hA.2.1 b (by omega) with w | w | ⟨-, -, -, w1, w2, w3, w4, w5⟩
  · omega
  · omega
  have fb : fstN L b < L.length := by omega
  have env1 : ∀ k ∈ envN L (fstN L b), k ∈ envN L e ∧ k < lo := fun k hk => by
    rw [w1] at hk
    rcases (env_c4 hl (by omega) w4).mp hk with ⟨-, y⟩ | y
    · omega
    · have := env_sub hl he hb y
      exact ⟨this, by have := anc_lt' he (env_anc this); omega⟩
  have gS : ∀ k ∈ envN L (fstN L b), S'.2.2.1 k = ap σ (S.2.2.1 k) := fun k hk => (hs.1 k (Or.inl (env1 k hk).2)).2
  have fS : S'.2.1 (fstN L b) = ap σ (S.2.1 (fstN L b)) := (hs.1 _ (Or.inl (by omega))).1
  refine ⟨fun θ => ?_, fun θ t hd => ?_⟩
  · rw [fS, sbs_ap]
    refine (p (fun x => sbs θ (ap σ (.var x)))).cg hl hA.2.1 fb (fun k hk => ?_)
    show sbs _ (S.2.2.1 k) = sbs θ (S'.2.2.1 k)
    rw [gS k hk, ← sbs_ap]
  · obtain ⟨θ', t1, t2⟩ := q (fun x => sbs θ (ap σ (.var x))) t (hd.cg hl hA.2.1 fb (fun k hk => by
      show sbs θ (S'.2.2.1 k) = sbs _ (S.2.2.1 k)
      rw [gS k hk, ← sbs_ap]))
    refine ⟨fun x => if S.2.2.2 x = true then θ' x else θ x, fun x x2 hx => ?_, ?_⟩
    · cases hz : S.2.2.2 x with
      | false => show (if S.2.2.2 x = true then θ' x else θ x) = θ x; rw [hz]; rfl
      | true => rw [hs.2.1.2.1 x hz] at hx; exact Bool.noConfusion hx
    · rw [fS, sbs_ap, ← t2]
      refine sbs_cg _ (fun x x2 xo => ?_)
      rcases hP.2.1 b hb h5 with z | ⟨-, z, -⟩
      · omega
      obtain ⟨z1, z2⟩ := z x x2 xo
      by_cases g : S.2.2.2 x = true
      · have fx : fxS σ x := by
          rcases hs.2.2.1 x x2 with y | ⟨y, -⟩
          · exact y
          · rcases y with ⟨k, k1, k2⟩ | y
            · rw [(hP.1 k k1 x x2 k2).1] at g; exact Bool.noConfusion g
            · omega
        rw [show ap σ (.var x) = .var x from fx, sbs_v x2, if_pos g]
      · have g' : S.2.2.2 x = false := by
          cases hz : S.2.2.2 x with
          | false => rfl
          | true => exact absurd hz g
        rw [t1 x x2 g']
        refine sbs_cg _ (fun y y2 yo => ?_)
        have gy : S.2.2.2 y = false := by
          cases hz : S.2.2.2 y with
          | false => rfl
          | true =>
            exfalso
            rcases hs.2.2.1 x x2 with w | ⟨-, w⟩
            · rw [show ap σ (.var x) = .var x from w] at yo
              have := oc_v yo
              rw [← this, g'] at hz
              exact Bool.noConfusion hz
            · rcases w y y2 yo with ⟨k, k1, k2⟩ | w
              · rw [(hP.1 k k1 y y2 k2).1] at hz; exact Bool.noConfusion hz
              · have := hP.2.2.1 y hz; omega
        rw [if_neg (by rw [gy]; exact fun z => Bool.noConfusion z)]
/-- into a part -/
theorem LtI.ch (hA : TmA L) {e c : Nat} {S : IS} (hI : LtI L kp S e) (he : e < L.length) (hc : c < L.length) (h61 : TBL L 61 c = (e : Int)) (h5 : TBL L 57 e = 5 → c = sndN L e → PLt L kp S e ∧ QLt L kp S e) : LtI L kp S c := fun b hb b5 hin => by
  have ac := anc_st hA.1 hc h61
  rw [ac] at hb
  have ec : e < c := by have := (TBL_gd (L := L) c hc).1; omega
  rcases List.mem_cons.mp hb with rfl | hb
  · rcases hin with hin | hin
    · exact h5 b5 hin
    · rw [ac] at hin
      exfalso
      rcases hA.2.1 b he with w | w | ⟨-, -, -, w1, w2, w3, w4, w5⟩
      · omega
      · omega
      · rcases List.mem_cons.mp hin with z | z
        · omega
        · have := anc_lt' he z; omega
  · refine hI b hb b5 ?_
    have be := anc_lt' he hb
    rcases hA.2.1 b (by omega) with w | w | ⟨-, -, -, w1, w2, w3, w4, w5⟩
    · omega
    · omega
    rcases hin with hin | hin
    · rw [← hin, h61] at w5
      omega
    · rw [ac] at hin
      rcases List.mem_cons.mp hin with z | z
      · exact Or.inl z.symm
      · exact Or.inr z
theorem in_leaf (hA : TmA L) {e : Nat} {S S' : IS} {r : IR} (he : e < L.length) (hi : lfR L kp e S r S') (k3 : 0 ≤ TBL L 57 e ∧ TBL L 57 e < 4) (hr : r.1 = 0) (hP : PreL L S e 1) (hv : VBI S) (hI : LtI L kp S e) : SndP L kp S' e ∧ CmpP L kp S S' e (e + 1) := by
  have h2 := hP.2.2.2
  have same : ∀ (t : TE) (nv : Nat) (θ θ' : Nat → TE), (∀ x, 2 ≤ x → x < S.1 → θ' x = θ x) → ∀ k, (k < e ∨ e + 1 ≤ k) → sbs θ' ((isF S e t nv).2.1 k) = sbs θ (S.2.1 k) ∧ sbs θ' ((isF S e t nv).2.2.1 k) = sbs θ (S.2.2.1 k) := fun t nv θ θ' h k hk => by
    refine ⟨?_, sb_lt (hv k).2 h⟩
    show sbs θ' (upT S.2.1 e t k) = _
    rw [upT_n (by omega)]
    exact sb_lt (hv k).1 h
  have own : ∀ (t : TE) (nv : Nat), (isF S e t nv).2.1 e = t := fun t nv => upT_s
  unfold lfR at hi
  by_cases k0 : TBL L 57 e = 0
  · rw [if_pos k0] at hi
    by_cases b0 : bd (TBL L) e < 0
    · rw [if_pos b0] at hi
      rw [hi] at hr
      exact absurd (show (3 : Int) = 0 from hr) (by decide)
    rw [if_neg b0] at hi
    by_cases b4 : TBL L 57 (bd (TBL L) e).toNat = 4
    · rw [if_pos b4] at hi
      rw [hi.2]
      refine ⟨fun θ => ?_, fun θ t hd => ⟨θ, ?_, same _ _ θ θ (fun _ _ _ => rfl)⟩⟩
      · rw [own]
        exact (DV.nmf k0 (by omega) b4).mpr rfl
      · rw [own]
        exact ((DV.nmf k0 (by omega) b4).mp hd).symm
    rw [if_neg b4] at hi
    obtain ⟨hb, hfl, hbl⟩ := bd_fst hA he (by omega) b4
    obtain ⟨p, q⟩ := hI _ hb.1 hb.2.1 hb.2.2
    obtain ⟨b, eb⟩ : ∃ b, b = (bd (TBL L) e).toNat := ⟨_, rfl⟩
    rw [← eb] at hi hb hfl hbl p q
    have eS := hi.2
    have env1 : ∀ k ∈ envN L (fstN L b), k ∈ envN L e := fun k hk => by
      rcases hA.2.1 b hbl with w | w | ⟨-, -, -, w1, w2, w3, w4, w5⟩
      · have := hb.2.1; omega
      · have := hb.2.1; omega
      rw [w1] at hk
      rcases (env_c4 hA.1 (by omega) w4).mp hk with ⟨-, y⟩ | y
      · have := hb.2.1; omega
      · exact env_sub hA.1 he hb.1 y
    rw [eS]
    refine ⟨fun θ => ?_, fun θ t hd => ?_⟩
    · rw [own]
      refine (DV.nml k0 (by omega) b4).mpr ?_
      rw [← eb]
      have ei : sbs θ (insT S (S.2.1 (fstN L b))) = sbs (fun x => if S.2.2.2 x = true then sbs θ (.var (S.1 + x)) else sbs θ (.var x)) (S.2.1 (fstN L b)) := by
        unfold insT
        rw [sbs_comp]
        refine sbs_cg _ (fun x _ _ => ?_)
        by_cases g : S.2.2.2 x = true
        · rw [if_pos g, if_pos g]
        · rw [if_neg g, if_neg g]
      rw [ei]
      refine (p _).cg hA.1 hA.2.1 hfl (fun k hk => ?_)
      show sbs _ (S.2.2.1 k) = sbs θ (S.2.2.1 k)
      refine sbs_cg _ (fun x x2 xo => ?_)
      rw [if_neg (by rw [(hP.1 k (env1 k hk) x x2 xo).1]; exact fun z => Bool.noConfusion z), sbs_v x2]
    · have hd := (DV.nml k0 (by omega) b4).mp hd
      rw [← eb] at hd
      obtain ⟨θ', t1, t2⟩ := q θ t hd
      refine ⟨fun x => if x < S.1 then θ x else θ' (x - S.1), ?_, same _ _ θ _ (fun x _ hx => if_pos hx)⟩
      rw [own]
      unfold insT
      rw [sbs_comp, ← t2]
      refine sbs_cg _ (fun x x2 xo => ?_)
      have xl : x < S.1 := (hv _).1 x x2 xo
      by_cases g : S.2.2.2 x = true
      · rw [if_pos g, sbs_v (by omega), if_neg (by omega), Nat.add_sub_cancel_left]
      · have g' : S.2.2.2 x = false := by
          cases hz : S.2.2.2 x with
          | false => rfl
          | true => exact absurd hz g
        rw [if_neg g, sbs_v x2, if_pos xl, t1 x x2 g']
  rw [if_neg k0] at hi
  by_cases k1 : TBL L 57 e = 1
  · rw [if_pos k1] at hi
    cases hk : kp (TBL L 58 e - 65).toNat with
    | none =>
      rw [hk] at hi
      rw [show r = (3, (e : Int), -1, -1) from hi] at hr
      exact absurd (show (3 : Int) = 0 from hr) (by decide)
    | some R =>
      rw [hk] at hi
      rw [show S' = isF S e (sbs (fun x => .var (S.1 + x)) R) (S.1 + 210) from hi.2]
      refine ⟨fun θ => ?_, fun θ t hd => ?_⟩
      · rw [own]
        exact (DV.kpt k1).mpr ⟨R, _, hk, sbs_comp _ _ _⟩
      · obtain ⟨R', θ', hk', ht⟩ := (DV.kpt k1).mp hd
        rw [hk] at hk'
        have := Option.some.inj hk'
        subst this
        refine ⟨fun x => if x < S.1 then θ x else θ' (x - S.1), ?_, same _ _ θ _ (fun x _ hx => if_pos hx)⟩
        rw [own, sbs_comp, ht]
        refine sbs_cg R (fun x x2 _ => ?_)
        rw [sbs_v (by omega), if_neg (by omega), Nat.add_sub_cancel_left]
  rw [if_neg k1] at hi
  by_cases k2 : TBL L 57 e = 2
  · rw [if_pos k2] at hi
    rw [hi.2]
    refine ⟨fun θ => ?_, fun θ t hd => ⟨θ, ?_, same _ _ θ θ (fun _ _ _ => rfl)⟩⟩
    · rw [own]
      exact (DV.num k2).mpr (sbs_v0 (by decide))
    · rw [own, (DV.num k2).mp hd]
      exact sbs_v0 (by decide)
  rw [if_neg k2] at hi
  have k3' : TBL L 57 e = 3 := by omega
  rw [hi.2]
  refine ⟨fun θ => ?_, fun θ t hd => ?_⟩
  · rw [own]
    exact (DV.sgn k3').mpr ⟨sbs θ (.var S.1), by rw [sg_sg, sg_sbs]⟩
  · obtain ⟨u, hu⟩ := (DV.sgn k3').mp hd
    refine ⟨fun x => if x < S.1 then θ x else u, ?_, same _ _ θ _ (fun x _ hx => if_pos hx)⟩
    rw [own, hu, sg_sg, sg_sbs, sbs_v h2, if_neg (Nat.lt_irrefl _)]
theorem in_all (hA : TmA L) (hnd : ∀ x ∈ L, ndOK x) (hkp : ∀ c R, kp c = some R → ∀ x, 2 ≤ x → oc x R = true → x < 210) : ∀ (T : TE) (f : Nat) (pre D post : List Nd) (S S' : IS) (r : IR), L = pre ++ (D ++ post) → shT T D → infR L kp f pre.length S r S' → r.1 = 0 → PreL L S pre.length D.length → VBI S → LtI L kp S pre.length → SndP L kp S' pre.length ∧ CmpP L kp S S' pre.length (pre.length + D.length)
  | T, 0, pre, D, post, S, S', r, hL, h, hi, hr, hP, hv, hI => False.elim hi
  | .var v, f + 1, pre, D, post, S, S', r, hL, h, hi, hr, hP, hv, hI => by
    obtain ⟨x, hD, hx⟩ := h
    have k57 : TBL L 57 pre.length = x.1 := by rw [hL]; exact (TBL_nd hD).1
    rw [infR, if_pos (by rw [k57]; exact hx)] at hi
    have hlen : D.length = 1 := by rw [hD]; rfl
    have he : pre.length < L.length := by rw [hL, hD]; simp
    rw [hlen] at hP ⊢
    exact in_leaf hA he hi ⟨(nd_let hnd he).2.1, by omega⟩ hr hP hv hI
  | .op T1 T2, f + 1, pre, D, post, S, S', r, hL, h, hi, hr, hP, hv, hI => by
    have hl := hA.1
    obtain ⟨e, he⟩ : ∃ e, e = pre.length := ⟨_, rfl⟩
    have hlen : pre.length + D.length ≤ L.length := by rw [hL]; simp
    obtain ⟨p1, p2, p3, p4⟩ := id hP
    rcases h with ⟨x, D1, hD, hx, s1⟩ | ⟨x, D1, D2, hD, hx, s1, s2⟩
    · -- a function
      have hlD : D.length = D1.length + 1 := by rw [hD, List.length_cons]
      have hp1 := List.length_pos_iff.mpr (sh_ne s1)
      have k57 : TBL L 57 e = 4 := by rw [he, hL, ← hx]; exact (TBL_nd hD).1
      have k59 : fstN L e = e + 1 := by rw [fstN, he, hL, TBL_f hD (sh_ne s1) (by rw [hx]; decide)]; rfl
      have k61 : TBL L 61 (e + 1) = (e : Int) := by rw [he, hL]; exact TBL_61f hD (sh_ne s1) (by rw [hx]; decide)
      have hc : e + 1 < L.length := by omega
      have heL : e < L.length := by omega
      rw [← he] at hi hP hlen p1 p2 ⊢
      rw [infR, if_neg (by omega), if_pos k57, k59] at hi
      obtain ⟨r1, S1, i1, i2, -, i4⟩ := th_ok hi hr
      have hL1 : L = (pre ++ [x]) ++ (D1 ++ post) := by rw [hL, hD]; simp
      have el : (pre ++ [x]).length = e + 1 := by simp [he]
      have ec4 : ∀ k, k ∈ envN L (e + 1) ↔ k = e ∨ k ∈ envN L e := fun k => by
        rw [env_c4 hl hc k61]
        constructor
        · rintro (⟨a, -⟩ | a)
          · exact Or.inl a
          · exact Or.inr a
        · rintro (a | a)
          · exact Or.inl ⟨a, k57⟩
          · exact Or.inr a
      have lte : ∀ k, k ∈ envN L e → k < e := fun k hk => anc_lt' heL (env_mem.mp hk).1
      have g0e : ∀ x, oc x (upT S.2.2.1 e (.var S.1) e) = true → x = S.1 := fun x ho => by
        rw [upT_s] at ho; exact (oc_v ho).symm
      have hP0 : PreL L (S.1 + 1, S.2.1, upT S.2.2.1 e (.var S.1), S.2.2.2) (e + 1) D1.length := by
        refine ⟨fun k hk y y2 yo => ?_, fun b hb hb5 => ?_, fun y hy => by have := p3 y hy; show y < S.1 + 1; omega, by show 2 ≤ S.1 + 1; omega⟩
        · rcases (ec4 k).mp hk with rfl | hk
          · have ey := g0e y yo
            refine ⟨?_, by show y < S.1 + 1; omega⟩
            show S.2.2.2 y = false
            cases hz : S.2.2.2 y with
            | false => rfl
            | true => have := p3 y hz; omega
          · have yo : oc y (upT S.2.2.1 e (.var S.1) k) = true := yo
            rw [upT_n (by have := lte k hk; omega)] at yo
            obtain ⟨a, b⟩ := p1 k hk y y2 yo
            exact ⟨a, by show y < S.1 + 1; omega⟩
        · rw [anc_st hl hc k61] at hb
          rcases List.mem_cons.mp hb with rfl | hb
          · omega
          · rcases p2 b hb hb5 with a | ⟨a, b1, b2⟩
            · exact Or.inl (by omega)
            · refine Or.inr ⟨by omega, fun y y2 yo => ?_, b2⟩
              obtain ⟨c1, c2⟩ := b1 y y2 yo
              refine ⟨by show y < S.1 + 1; omega, c2.imp id (fun ⟨k, k1, k2⟩ => ⟨k, k1, ?_⟩)⟩
              show oc y (upT S.2.2.1 e (.var S.1) k) = true
              rw [upT_n (by have := lte k (env_sub hl heL hb k1); omega)]
              exact k2
      obtain ⟨σ, hs, hres⟩ := inf_lv hl hkp T1 f (pre ++ [x]) D1 post _ S1 r1 hL1 s1 (by rw [el]; exact i1) i2 (by rw [el]; exact hP0)
      rw [el] at hs hres
      have hv0 : VBI (S.1 + 1, S.2.1, upT S.2.2.1 e (.var S.1), S.2.2.2) := fun k => by
        refine ⟨(hv k).1.up (Nat.le_succ _), ?_⟩
        show LtT (S.1 + 1) (upT S.2.2.1 e (.var S.1) k)
        by_cases z : k = e
        · rw [z, upT_s]; exact vsT_var (fun _ => Nat.lt_succ_self _)
        · rw [upT_n z]; exact (hv k).2.up (Nat.le_succ _)
      have hI0 : LtI L kp (S.1 + 1, S.2.1, upT S.2.2.1 e (.var S.1), S.2.2.2) (e + 1) := by
        refine LtI.ch hA (fun b hb b5 hin => ?_) heL hc k61 (fun z => by omega)
        rw [← he] at hI
        obtain ⟨p, q⟩ := hI b hb b5 hin
        have be := anc_lt' heL hb
        rcases hA.2.1 b (by omega) with w | w | ⟨-, -, -, w1, w2, w3, w4, w5⟩
        · omega
        · omega
        have gg : ∀ (θ : Nat → TE), ∀ k ∈ envN L (fstN L b), sbs θ (S.2.2.1 k) = sbs θ (upT S.2.2.1 e (.var S.1) k) := fun θ k hk => by
          have : k < e := by
            rw [w1] at hk
            rcases (env_c4 hl (by omega) w4).mp hk with ⟨-, y⟩ | y
            · omega
            · have := anc_lt' (by omega) (env_anc y); omega
          rw [upT_n (by omega)]
        exact ⟨fun θ => (p θ).cg hl hA.2.1 (by omega) (gg θ), fun θ t hd => q θ t (hd.cg hl hA.2.1 (by omega) (fun k hk => (gg θ k hk).symm))⟩
      obtain ⟨a1, a2⟩ := in_all hA hnd hkp T1 f (pre ++ [x]) D1 post _ S1 r1 hL1 s1 (by rw [el]; exact i1) i2 (by rw [el]; exact hP0) hv0 (by rw [el]; exact hI0)
      rw [el] at a1 a2
      rw [i4]
      have own : (isF S1 e (.op (S1.2.2.1 e) (S1.2.1 (e + 1))) S1.1).2.1 e = .op (S1.2.2.1 e) (S1.2.1 (e + 1)) := upT_s
      refine ⟨fun θ => ?_, fun θ t hd => ?_⟩
      · rw [own, sbs_o]
        refine (DV.fun k57).mpr ⟨sbs θ (S1.2.2.1 e), sbs θ (S1.2.1 (e + 1)), ?_, rfl⟩
        rw [k59]
        have ee : upT (fun k => sbs θ (S1.2.2.1 k)) e (sbs θ (S1.2.2.1 e)) = fun k => sbs θ (S1.2.2.1 k) := by
          funext k
          by_cases z : k = e
          · rw [z, upT_s]
          · rw [upT_n z]
        show DV L kp (e + 1) (upT (fun k => sbs θ (S1.2.2.1 k)) e (sbs θ (S1.2.2.1 e))) _
        rw [ee]
        exact a1 θ
      · obtain ⟨a, t', d1, d2⟩ := (DV.fun k57).mp hd
        rw [k59] at d1
        obtain ⟨θ1, b1, b2⟩ := a2 (fun x => if x < S.1 then θ x else a) t' (d1.cg hl hA.2.1 hc (fun k hk => by
          by_cases z : k = e
          · rw [z, upT_s]
            show a = sbs _ (upT S.2.2.1 e (.var S.1) e)
            rw [upT_s, sbs_v p4, if_neg (Nat.lt_irrefl _)]
          · rw [upT_n z]
            show sbs θ (S.2.2.1 k) = sbs _ (upT S.2.2.1 e (.var S.1) k)
            rw [upT_n z]
            exact sb_lt (hv k).2 (fun x _ hx => (if_pos hx).symm)))
        refine ⟨θ1, ?_, fun k hk => ?_⟩
        · rw [own, sbs_o, b1, d2]
          have := (b2 e (Or.inl (Nat.lt_succ_self _))).2
          rw [this]
          have z9 : sbs (fun x => if x < S.1 then θ x else a) (upT S.2.2.1 e (.var S.1) e) = a := by rw [upT_s, sbs_v p4, if_neg (Nat.lt_irrefl _)]
          exact congrArg (fun z => (.op z t' : TE)) z9
        · obtain ⟨c1, c2⟩ := b2 k (by omega)
          refine ⟨?_, ?_⟩
          · show sbs θ1 (upT S1.2.1 e _ k) = _
            rw [upT_n (by omega), c1]
            exact sb_lt (hv k).1 (fun x _ hx => if_pos hx)
          · show sbs θ1 (S1.2.2.1 k) = _
            rw [c2]
            show sbs _ (upT S.2.2.1 e (.var S.1) k) = _
            rw [upT_n (by omega)]
            exact sb_lt (hv k).2 (fun x _ hx => if_pos hx)
    · -- two parts
      have hlD : D.length = D1.length + D2.length + 1 := by rw [hD, List.length_cons, List.length_append]
      have hp1 := List.length_pos_iff.mpr (sh_ne s1)
      have hp2 := List.length_pos_iff.mpr (sh_ne s2)
      have hx2 : arN x.1 = 2 := by rw [arN, if_neg (by omega), if_neg (by omega)]
      have k57 : TBL L 57 e = x.1 := by rw [he, hL]; exact (TBL_nd hD).1
      have k59 : fstN L e = e + 1 := by rw [fstN, he, hL, TBL_f hD (by simp; exact fun z => absurd z (sh_ne s1)) (by omega)]; rfl
      have k60 : sndN L e = e + 1 + D1.length := by rw [sndN, he, hL, hD, TBL_60 hx2 s1 s2]; rfl
      have k61 : TBL L 61 (e + 1) = (e : Int) := by rw [he, hL]; exact TBL_61f hD (by simp; exact fun z => absurd z (sh_ne s1)) (by omega)
      have k62 : TBL L 61 (e + 1 + D1.length) = (e : Int) := by rw [he, hL, hD]; exact TBL_61s hx2 s1 s2
      have hc : e + 1 < L.length := by omega
      have hd : e + 1 + D1.length < L.length := by omega
      have heL : e < L.length := by omega
      have k4 : ¬ TBL L 57 e = 4 := by omega
      rw [← he] at hi hP hlen p1 p2 ⊢
      have hL1 : L = (pre ++ [x]) ++ (D1 ++ (D2 ++ post)) := by rw [hL, hD]; simp
      have el1 : (pre ++ [x]).length = e + 1 := by simp [he]
      have hL2 : L = (pre ++ (x :: D1)) ++ (D2 ++ post) := by rw [hL, hD]; simp
      have el2 : (pre ++ (x :: D1)).length = e + 1 + D1.length := by simp [he]; omega
      have ec1 : ∀ k, k ∈ envN L (e + 1) ↔ k ∈ envN L e := fun k => by
        rw [env_c4 hl hc k61]
        exact ⟨fun z => z.elim (fun z => absurd z.2 k4) id, Or.inr⟩
      have ec2 : ∀ k, k ∈ envN L (e + 1 + D1.length) ↔ k ∈ envN L e := fun k => by
        rw [env_c4 hl hd k62]
        exact ⟨fun z => z.elim (fun z => absurd z.2 k4) id, Or.inr⟩
      have lte : ∀ k ∈ envN L e, k < e := fun k hk => anc_lt' heL (env_mem.mp hk).1
      have evc : ∀ (U : IS) (c : Nat), (∀ k, k ∈ envN L c ↔ k ∈ envN L e) → ∀ y, evV U (envN L c) y → evV U (envN L e) y := fun U c hh y ⟨k, k1, k2⟩ => ⟨k, (hh k).mp k1, k2⟩
      have hP1 : PreL L S (e + 1) D1.length := by
        refine ⟨fun k hk => p1 k ((ec1 k).mp hk), fun b hb hb5 => ?_, p3, p4⟩
        rw [anc_st hl hc k61] at hb
        rcases List.mem_cons.mp hb with rfl | hb
        · exact Or.inl (by omega)
        · rcases p2 b hb hb5 with a | ⟨a, b1⟩
          · exact Or.inl (by omega)
          · exact Or.inr ⟨by omega, b1⟩
      have hI1 : LtI L kp S (e + 1) := by
        rw [← he] at hI
        exact hI.ch hA heL hc k61 (fun _ z => by omega)
      have nsb : ∀ (θ : Nat → TE) (S1 S2 : IS) (k : Nat), True := fun _ _ _ _ => trivial
      -- what is known ahead of the second part
      have hP2 : ∀ (σ1 : List (Nat × TE)) (S1 S1' : IS), StpL (envN L e) S.1 e (e + D.length) S S1' σ1 → (TBL L 57 e = 5 → (∀ y, 2 ≤ y → oc y (S1'.2.1 (e + 1)) = true → y < S1'.1 ∧ (S1'.2.2.2 y = true ∨ evV S1' (envN L e) y)) ∧ gsz S1'.2.2.2 (S1'.2.1 (e + 1)) ≤ 200 ∧ gop S1'.2.2.2 (S1'.2.1 (e + 1)) ≤ 99) → PreL L S1' (e + 1 + D1.length) D2.length := by
        intro σ1 S1 S1' hs1 h5
        refine ⟨fun k hk => hs1.2.2.2.2.2 k ((ec2 k).mp hk), fun b hb hb5 => ?_, hs1.2.1.2.2.2, by have := hs1.2.1.1; omega⟩
        rw [anc_st hl hd k62] at hb
        rcases List.mem_cons.mp hb with rfl | hb
        · rw [k59]
          exact Or.inr ⟨by omega, h5 hb5⟩
        · rcases hP.st hl heL hs1 (Nat.le_refl _) b hb hb5 with a | ⟨a, b1⟩
          · exact Or.inl (by omega)
          · exact Or.inr ⟨by omega, b1⟩
      rw [infR, if_neg (by omega), if_neg k4] at hi
      rw [← he] at hI
      by_cases c5 : TBL L 57 e = 5
      · -- a let
        rw [if_pos c5, k59, k60] at hi
        obtain ⟨r1, S1, i1, i2, i4⟩ := th_ok hi hr
        obtain ⟨σ1, hs1, hres1⟩ := inf_lv hl hkp T1 f (pre ++ [x]) D1 (D2 ++ post) S S1 r1 hL1 s1 (by rw [el1]; exact i1) i2 (by rw [el1]; exact hP1)
        obtain ⟨a1, a2⟩ := in_all hA hnd hkp T1 f (pre ++ [x]) D1 (D2 ++ post) S S1 r1 hL1 s1 (by rw [el1]; exact i1) i2 (by rw [el1]; exact hP1) hv (by rw [el1]; exact hI1)
        rw [el1] at hs1 hres1 a1 a2
        have hs1 := hs1.cgE ec1
        obtain ⟨v1, v2, v3⟩ := inf_vb hkp f _ S r1 S1 i1 i2 p4 p3 hv
        by_cases c9 : 201 ≤ sz (S1.2.1 (e + 1))
        · rw [if_pos c9] at i4
          rw [i4] at hr
          exact absurd (show (10 : Int) = 0 from hr) (by decide)
        rw [if_neg c9] at i4
        obtain ⟨r2, S2, j1, j2, -, j4⟩ := th_ok i4 hr
        have hgn : ∀ y, (isGn L S1 e).2.2.2 y = true ↔ S1.2.2.2 y = true ∨ (oc y (S1.2.1 (e + 1)) = true ∧ ¬ evV S1 (envN L e) y) := fun y => by
          show (S1.2.2.2 y || (oc y (S1.2.1 (fstN L e)) && !((envN L e).any (fun k => oc y (S1.2.2.1 k))))) = true ↔ _
          rw [k59, Bool.or_eq_true, Bool.and_eq_true, Bool.not_eq_true']
          constructor
          · rintro (h | ⟨h1, h2⟩)
            · exact Or.inl h
            · refine Or.inr ⟨h1, fun ⟨k, k1, k2⟩ => ?_⟩
              have := List.any_eq_false.mp h2 k k1
              exact this k2
          · rintro (h | ⟨h1, h2⟩)
            · exact Or.inl h
            · exact Or.inr ⟨h1, List.any_eq_false.mpr (fun k k1 k2 => h2 ⟨k, k1, k2⟩)⟩
        have hsg : StpL (envN L e) S.1 e (e + D.length) S1 (isGn L S1 e) [] := by
          refine ⟨fun _ _ => ⟨rfl, rfl⟩, ⟨Nat.le_refl _, fun y hy => (hgn y).mpr (Or.inl hy), fun y y2 hy => ?_, fun y hy => ?_⟩, fun _ _ => Or.inl rfl, fun _ _ _ _ => rfl, fun _ _ => rfl, fun k hk y y2 yo => ?_⟩
          · rcases (hgn y).mp hy with h | ⟨h1, h2⟩
            · exact Or.inl h
            · rcases (hres1 y y2 h1).2.2.1 with c | c
              · exact Or.inr c
              · exact absurd (evc S1 _ ec1 y c) h2
          · rcases (hgn y).mp hy with h | ⟨h1, h2⟩
            · exact hs1.2.1.2.2.2 y h
            · show y < S1.1
              by_cases y2 : 2 ≤ y
              · exact (hres1 y y2 h1).2.1
              · have := hs1.2.1.1; omega
          · have yo : oc y (S1.2.2.1 k) = true := yo
            obtain ⟨a, b⟩ := hs1.2.2.2.2.2 k hk y y2 yo
            refine ⟨?_, b⟩
            cases hz : (isGn L S1 e).2.2.2 y with
            | false => rfl
            | true =>
              rcases (hgn y).mp hz with h | ⟨-, h2⟩
              · rw [a] at h; exact Bool.noConfusion h
              · exact absurd ⟨k, hk, yo⟩ h2
        have ht1 := hs1.tr hsg lte ⟨by omega, Nat.le_refl _, by omega, Nat.le_refl _⟩ (Nat.le_refl _) (fun y _ _ ⟨w, w1, _⟩ => absurd rfl w1)
        have h5 : (∀ y, 2 ≤ y → oc y ((isGn L S1 e).2.1 (e + 1)) = true → y < (isGn L S1 e).1 ∧ ((isGn L S1 e).2.2.2 y = true ∨ evV (isGn L S1 e) (envN L e) y)) ∧ gsz (isGn L S1 e).2.2.2 ((isGn L S1 e).2.1 (e + 1)) ≤ 200 ∧ gop (isGn L S1 e).2.2.2 ((isGn L S1 e).2.1 (e + 1)) ≤ 99 := by
          refine ⟨fun y y2 yo => ⟨(hres1 y y2 yo).2.1, ?_⟩, ?_, ?_⟩
          · by_cases c : evV S1 (envN L e) y
            · exact Or.inr c
            · exact Or.inl ((hgn y).mpr (Or.inr ⟨yo, c⟩))
          · have c9 : ¬ 201 ≤ sz ((isGn L S1 e).2.1 (e + 1)) := c9
            exact Nat.le_trans (gsz_le _).1 (by omega)
          · have := (gsz_le (gn := (isGn L S1 e).2.2.2) (S1.2.1 (e + 1))).2
            have := ops_sz (S1.2.1 (e + 1))
            show gop (isGn L S1 e).2.2.2 (S1.2.1 (e + 1)) ≤ 99
            omega
        have hPp := hP2 (σ1 ++ []) S1 (isGn L S1 e) ht1 (fun _ => h5)
        have hI1' : LtI L kp S1 e := hI.st hA hP (by omega) heL hs1 (by omega)
        have hI2 : LtI L kp (isGn L S1 e) (e + 1 + D1.length) := by
          refine LtI.ch hA (fun b hb b5 hin => ?_) heL hd k62 (fun _ _ => ⟨fun θ => ?_, fun θ t hdv => ?_⟩)
          · obtain ⟨p, q⟩ := hI1' b hb b5 hin
            refine ⟨p, fun θ t hdv => ?_⟩
            obtain ⟨θ', t1, t2⟩ := q θ t hdv
            refine ⟨θ', fun x x2 hx => t1 x x2 ?_, t2⟩
            cases hz : S1.2.2.2 x with
            | false => rfl
            | true => rw [(hgn x).mpr (Or.inl hz)] at hx; exact Bool.noConfusion hx
          · rw [k59]
            exact a1 θ
          · rw [k59] at hdv
            -- the most general type of what the let binds
            obtain ⟨θ1, b1, b2⟩ := a2 (fun x => sbs θ (ap σ1 (.var x))) t (hdv.cg hl hA.2.1 hc (fun k hk => by
              show sbs θ (S1.2.2.1 k) = sbs _ (S.2.2.1 k)
              have := lte k ((ec1 k).mp hk)
              rw [(hs1.1 k (Or.inl (by omega))).2, ← sbs_ap]))
            have gk : ∀ k ∈ envN L e, sbs θ1 (S1.2.2.1 k) = sbs θ (S1.2.2.1 k) := fun k hk => by
              have := lte k hk
              rw [(b2 k (Or.inl (by omega))).2, (hs1.1 k (Or.inl (by omega))).2, ← sbs_ap]
            refine ⟨fun x => if (isGn L S1 e).2.2.2 x = true then θ1 x else θ x, fun x _ hx => by
              show (if (isGn L S1 e).2.2.2 x = true then θ1 x else θ x) = θ x
              rw [hx]; rfl, ?_⟩
            rw [k59]
            show sbs _ (S1.2.1 (e + 1)) = t
            rw [← b1]
            refine sbs_cg _ (fun x x2 xo => ?_)
            by_cases g : (isGn L S1 e).2.2.2 x = true
            · rw [if_pos g]
            · rw [if_neg g]
              have ev : evV S1 (envN L e) x := Classical.byContradiction fun z => g ((hgn x).mpr (Or.inr ⟨xo, z⟩))
              obtain ⟨k, k1, k2⟩ := ev
              exact (sbs_in (gk k k1) x x2 k2).symm
        obtain ⟨m1, m2⟩ := in_all hA hnd hkp T2 f (pre ++ (x :: D1)) D2 post (isGn L S1 e) S2 r2 hL2 s2 (by rw [el2]; exact j1) j2 (by rw [el2]; exact hPp) (fun k => v2 k) (by rw [el2]; exact hI2)
        obtain ⟨σ2, hs2, hres2⟩ := inf_lv hl hkp T2 f (pre ++ (x :: D1)) D2 post (isGn L S1 e) S2 r2 hL2 s2 (by rw [el2]; exact j1) j2 (by rw [el2]; exact hPp)
        rw [el2] at m1 m2 hs2
        rw [j4]
        have own : (isF S2 e (S2.2.1 (e + 1 + D1.length)) S2.1).2.1 e = S2.2.1 (e + 1 + D1.length) := upT_s
        refine ⟨fun θ => ?_, fun θ t hdv => ?_⟩
        · rw [own]
          refine (DV.let c5).mpr ⟨⟨sbs (fun x => sbs θ (ap σ2 (.var x))) (S1.2.1 (e + 1)), ?_⟩, by rw [k60]; exact m1 θ⟩
          rw [k59]
          refine (a1 _).cg hl hA.2.1 hc (fun k hk => ?_)
          have := lte k ((ec1 k).mp hk)
          show sbs _ (S1.2.2.1 k) = sbs θ (S2.2.2.1 k)
          rw [(hs2.1 k (Or.inl (by omega))).2, sbs_ap]
          rfl
        · obtain ⟨⟨s, d1⟩, d2⟩ := (DV.let c5).mp hdv
          rw [k59] at d1
          rw [k60] at d2
          obtain ⟨θ1, b1, b2⟩ := a2 θ s d1
          obtain ⟨θ2, e1, e2⟩ := m2 θ1 t (d2.cg hl hA.2.1 hd (fun k hk => by
            have := lte k ((ec2 k).mp hk)
            exact ((b2 k (Or.inl (by omega))).2).symm))
          refine ⟨θ2, by rw [own]; exact e1, fun k hk => ?_⟩
          obtain ⟨c1, c2⟩ := e2 k (by omega)
          obtain ⟨c3, c4⟩ := b2 k (by omega)
          refine ⟨?_, c2.trans c4⟩
          show sbs θ2 (upT S2.2.1 e _ k) = _
          rw [upT_n (by omega)]
          exact c1.trans c3
      · -- an application
        rw [if_neg c5, k59, k60] at hi
        obtain ⟨r1, S1, i1, i2, i4⟩ := th_ok hi hr
        obtain ⟨σ1, hs1, hres1⟩ := inf_lv hl hkp T1 f (pre ++ [x]) D1 (D2 ++ post) S S1 r1 hL1 s1 (by rw [el1]; exact i1) i2 (by rw [el1]; exact hP1)
        obtain ⟨a1, a2⟩ := in_all hA hnd hkp T1 f (pre ++ [x]) D1 (D2 ++ post) S S1 r1 hL1 s1 (by rw [el1]; exact i1) i2 (by rw [el1]; exact hP1) hv (by rw [el1]; exact hI1)
        rw [el1] at hs1 hres1 a1 a2
        have hs1 := hs1.cgE ec1
        obtain ⟨v1, v2, v3⟩ := inf_vb hkp f _ S r1 S1 i1 i2 p4 p3 hv
        have hs1w : StpL (envN L e) S.1 e (e + D.length) S S1 σ1 := ⟨fun k hk => hs1.1 k (by omega), hs1.2⟩
        obtain ⟨r2, S2, j1, j2, j4⟩ := th_ok i4 hr
        have hPp := hP2 σ1 S1 S1 hs1w (fun z => absurd z c5)
        have hI1' : LtI L kp S1 e := hI.st hA hP (by omega) heL hs1 (by omega)
        have hI2 : LtI L kp S1 (e + 1 + D1.length) := hI1'.ch hA heL hd k62 (fun z => absurd z c5)
        obtain ⟨m1, m2⟩ := in_all hA hnd hkp T2 f (pre ++ (x :: D1)) D2 post S1 S2 r2 hL2 s2 (by rw [el2]; exact j1) j2 (by rw [el2]; exact hPp) v2 (by rw [el2]; exact hI2)
        obtain ⟨σ2, hs2, hres2⟩ := inf_lv hl hkp T2 f (pre ++ (x :: D1)) D2 post S1 S2 r2 hL2 s2 (by rw [el2]; exact j1) j2 (by rw [el2]; exact hPp)
        rw [el2] at m1 m2 hs2
        obtain ⟨w1, w2, w3⟩ := inf_vb hkp f _ S1 r2 S2 j1 j2 (by omega) v3 v2
        unfold apR at j4
        rw [k59, k60] at j4
        by_cases c9 : 201 ≤ sz (S2.2.1 (e + 1)) ∨ 201 ≤ sz (S2.2.1 (e + 1 + D1.length))
        · rw [if_pos c9] at j4
          rw [j4] at hr
          exact absurd (show (10 : Int) = 0 from hr) (by decide)
        rw [if_neg c9] at j4
        obtain ⟨F, R, σ3, u1, u2, u3⟩ := j4
        by_cases h0 : R.1 = 0
        · by_cases c8 : 201 ≤ sz (ap σ3 (S2.2.1 (e + 1)))
          · rw [(u3 h0).1 c8] at hr
            exact absurd (show (10 : Int) = 0 from hr) (by decide)
          obtain ⟨-, eS⟩ := (u3 h0).2 c8
          have own : S'.2.1 e = ap σ3 (.var S2.1) := by
            rw [eS]
            show ap σ3 (upT S2.2.1 e (.var S2.1) e) = _
            rw [upT_s]
          have oth : ∀ k, k ≠ e → S'.2.1 k = ap σ3 (S2.2.1 k) := fun k hk => by
            rw [eS]
            show ap σ3 (upT S2.2.1 e (.var S2.1) k) = _
            rw [upT_n hk]
          have gS : ∀ k, S'.2.2.1 k = ap σ3 (S2.2.2.1 k) := fun k => by rw [eS]; rfl
          refine ⟨fun θ => ?_, fun θ t hdv => ?_⟩
          · rw [own]
            have ue := un_eq F _ R σ3 u1 h0 _ List.mem_cons_self
            have ue : ap σ3 (S2.2.1 (e + 1)) = ap σ3 (.op (S2.2.1 (e + 1 + D1.length)) (.var S2.1)) := ue
            rw [ap_op, (hs2.1 (e + 1) (Or.inl (by omega))).1] at ue
            have two : ∀ u, sbs (fun x => sbs θ (ap σ3 (ap σ2 (.var x)))) u = sbs θ (ap σ3 (ap σ2 u)) := fun u => by
              rw [← ap_app, sbs_ap]
              refine sbs_cg u (fun x _ _ => ?_)
              rw [ap_app]
            have i1 := (a1 (fun x => sbs θ (ap σ3 (ap σ2 (.var x))))).cg hl hA.2.1 hc (γ' := fun k => sbs θ (S'.2.2.1 k)) (fun k hk => by
              have := lte k ((ec1 k).mp hk)
              show sbs _ (S1.2.2.1 k) = sbs θ (S'.2.2.1 k)
              rw [gS, (hs2.1 k (Or.inl (by omega))).2, two])
            rw [two, ue, sbs_o] at i1
            refine (DV.app (by omega)).mpr ⟨_, by rw [k59]; exact i1, ?_⟩
            rw [k60]
            have e2 : (fun k => sbs θ (S'.2.2.1 k)) = fun k => sbs (fun x => sbs θ (ap σ3 (.var x))) (S2.2.2.1 k) := funext fun k => by rw [gS, sbs_ap]
            rw [e2, sbs_ap]
            exact m1 _
          · obtain ⟨a, d1, d2⟩ := (DV.app (by omega)).mp hdv
            rw [k59] at d1
            rw [k60] at d2
            obtain ⟨θ1, b1, b2⟩ := a2 θ _ d1
            obtain ⟨θ2, e1, e2⟩ := m2 θ1 a (d2.cg hl hA.2.1 hd (fun k hk => by
              have := lte k ((ec2 k).mp hk)
              exact ((b2 k (Or.inl (by omega))).2).symm))
            have ef := (e2 (e + 1) (Or.inl (by omega))).1
            obtain ⟨θ3, h3'⟩ : ∃ θ3 : Nat → TE, θ3 = fun x => if x < S2.1 then θ2 x else t := ⟨_, rfl⟩
            have t3 : ∀ {t : TE}, LtT S2.1 t → sbs θ3 t = sbs θ2 t := fun ht => sb_lt ht (fun x _ hx => by rw [h3']; exact if_pos hx)
            have n2 : θ3 S2.1 = t := by rw [h3']; exact if_neg (Nat.lt_irrefl _)
            have n22 : 2 ≤ S2.1 := by omega
            obtain ⟨-, q2⟩ := un_mgu (θ := θ3) F _ R σ3 u1 (fun p hp => by
              rw [List.mem_singleton.mp hp]
              show sbs θ3 (S2.2.1 (e + 1)) = sbs θ3 (.op (S2.2.1 (e + 1 + D1.length)) (.var S2.1))
              rw [sbs_o, t3 (w2 _).1, t3 (w2 _).1, ef, b1, e1, sbs_v n22, n2])
            refine ⟨θ3, by rw [own, q2, sbs_v n22, n2], fun k hk => ?_⟩
            obtain ⟨c1, c2⟩ := e2 k (by omega)
            obtain ⟨c3, c4⟩ := b2 k (by omega)
            refine ⟨?_, ?_⟩
            · rw [oth k (by omega), q2, t3 (w2 k).1]
              exact c1.trans c3
            · rw [gS, q2, t3 (w2 k).2]
              exact c2.trans c4
        · rw [u2 h0] at hr
          exact absurd hr h0
end InB
