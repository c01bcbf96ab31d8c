/-! the reference goes through a part of a term, as the spec says -/
def wPD (D : List Nd) : Nat := 200 * nlv D + 2 * D.length
def wAD (D : List Nd) : Nat := 100 * nlv D + 2 * D.length
abbrev TyB : List Nat := [66, 67, 68, 69, 70, 71, 72, 73, 74, 75, 76, 77, 81, 83, 84, 85, 86, 87]
abbrev TyG : List Nat := [49, 50, 51, 52, 53, 54, 55, 68]
theorem KpV.kp {h h1 : AH} {kp : Nat → Option TE} {A F : List Nat} (g : KpV (h.vl 43) kp) (k : KP h h1 A F) (hA : 43 ∉ A := by decide) : KpV (h1.vl 43) kp := by
  rw [k.vl (by decide) hA]; exact g
/-- a let's first part is done: what is told as new each time -/
theorem let_pre {L : List Nd} (hl : L.length ≤ 120) {e len len1 : Nat} {S S1 : IS} {σ1 : List (Nat × TE)} (heL : e < L.length) (hc : e + 1 < L.length) (k59 : fstN L e = e + 1) (hle : e + 1 + len1 ≤ e + len) (hs1 : StpL (envN L e) S.1 (e + 1) (e + 1 + len1) S S1 σ1) (ec1 : ∀ k, k ∈ envN L (e + 1) ↔ k ∈ envN L e) (hres1 : ResL L S.1 S1 (e + 1) σ1) (hP2 : 2 ≤ S.1) (c9 : ¬ 201 ≤ sz (S1.2.1 (e + 1))) :
    StpL (envN L e) S.1 e (e + len) S (isGn L S1 e) (σ1 ++ []) ∧ (∀ y, 2 ≤ y → oc y ((isGn L S1 e).2.1 (e + 1)) = true → y < (isGn L S1 e).1 ∧ ((isGn L S1 e).2.2.2 y = true ∨ evV (isGn L S1 e) (envN L e) y)) ∧ gsz (isGn L S1 e).2.2.2 ((isGn L S1 e).2.1 (e + 1)) ≤ 200 ∧ gop (isGn L S1 e).2.2.2 ((isGn L S1 e).2.1 (e + 1)) ≤ 99 := by
  have lte : ∀ k ∈ envN L e, k < e := fun k hk => anc_lt' heL (env_mem.mp hk).1
  have evc : ∀ (U : IS) (c : Nat), (∀ k, k ∈ envN L c ↔ k ∈ envN L e) → ∀ y, evV U (envN L c) y → evV U (envN L e) y := fun U c hh y ⟨k, k1, k2⟩ => ⟨k, (hh k).mp k1, k2⟩
  have hgn : ∀ y, (isGn L S1 e).2.2.2 y = true ↔ S1.2.2.2 y = true ∨ (oc y (S1.2.1 (e + 1)) = true ∧ ¬ evV S1 (envN L e) y) := fun y => by
    show (S1.2.2.2 y || (oc y (S1.2.1 (fstN L e)) && !((envN L e).any (fun k => oc y (S1.2.2.1 k))))) = true ↔ _
    rw [k59, Bool.or_eq_true, Bool.and_eq_true, Bool.not_eq_true']
    constructor
    · rintro (h | ⟨h1, h2⟩)
      · exact Or.inl h
      · refine Or.inr ⟨h1, fun ⟨k, k1, k2⟩ => ?_⟩
        have := List.any_eq_false.mp h2 k k1
        exact this k2
    · rintro (h | ⟨h1, h2⟩)
      · exact Or.inl h
      · exact Or.inr ⟨h1, List.any_eq_false.mpr (fun k k1 k2 => h2 ⟨k, k1, k2⟩)⟩
  have hsg : StpL (envN L e) S.1 e (e + len) S1 (isGn L S1 e) [] := by
    refine ⟨fun _ _ => ⟨rfl, rfl⟩, ⟨Nat.le_refl _, fun y hy => (hgn y).mpr (Or.inl hy), fun y y2 hy => ?_, fun y hy => ?_⟩, fun _ _ => Or.inl rfl, fun _ _ _ _ => rfl, fun _ _ => rfl, fun k hk y y2 yo => ?_⟩
    · rcases (hgn y).mp hy with h | ⟨h1, h2⟩
      · exact Or.inl h
      · rcases (hres1 y y2 h1).2.2.1 with c | c
        · exact Or.inr c
        · exact absurd (evc S1 _ ec1 y c) h2
    · rcases (hgn y).mp hy with h | ⟨h1, h2⟩
      · exact hs1.2.1.2.2.2 y h
      · show y < S1.1
        by_cases y2 : 2 ≤ y
        · exact (hres1 y y2 h1).2.1
        · have := hs1.2.1.1; omega
    · have yo : oc y (S1.2.2.1 k) = true := yo
      obtain ⟨a, b⟩ := hs1.2.2.2.2.2 k hk y y2 yo
      refine ⟨?_, b⟩
      cases hz : (isGn L S1 e).2.2.2 y with
      | false => rfl
      | true =>
        rcases (hgn y).mp hz with h | ⟨-, h2⟩
        · rw [a] at h; exact Bool.noConfusion h
        · exact absurd ⟨k, hk, yo⟩ h2
  have ht1 := hs1.tr hsg lte ⟨by omega, Nat.le_refl _, by omega, Nat.le_refl _⟩ (Nat.le_refl _) (fun y _ _ ⟨w, w1, _⟩ => absurd rfl w1)
  have h5 : (∀ y, 2 ≤ y → oc y ((isGn L S1 e).2.1 (e + 1)) = true → y < (isGn L S1 e).1 ∧ ((isGn L S1 e).2.2.2 y = true ∨ evV (isGn L S1 e) (envN L e) y)) ∧ gsz (isGn L S1 e).2.2.2 ((isGn L S1 e).2.1 (e + 1)) ≤ 200 ∧ gop (isGn L S1 e).2.2.2 ((isGn L S1 e).2.1 (e + 1)) ≤ 99 := by
    refine ⟨fun y y2 yo => ⟨(hres1 y y2 yo).2.1, ?_⟩, ?_, ?_⟩
    · by_cases c : evV S1 (envN L e) y
      · exact Or.inr c
      · exact Or.inl ((hgn y).mpr (Or.inr ⟨yo, c⟩))
    · have c9 : ¬ 201 ≤ sz ((isGn L S1 e).2.1 (e + 1)) := c9
      exact Nat.le_trans (gsz_le _).1 (by omega)
    · have := (gsz_le (gn := (isGn L S1 e).2.2.2) (S1.2.1 (e + 1))).2
      have := ops_sz (S1.2.1 (e + 1))
      show gop (isGn L S1 e).2.2.2 (S1.2.1 (e + 1)) ≤ 99
      omega
  exact ⟨ht1, h5⟩
theorem pre_fst {L : List Nd} (hl : L.length ≤ 120) {e len len1 : Nat} {S : IS} (hP : PreL L S e len) (hc : e + 1 < L.length) (k61 : TBL L 61 (e + 1) = (e : Int)) (ec1 : ∀ k, k ∈ envN L (e + 1) ↔ k ∈ envN L e) (hle : e + 1 + len1 ≤ e + len) (h5 : e + 1 + len1 ≤ sndN L e) : PreL L S (e + 1) len1 := by
  obtain ⟨p1, p2, p3, p4⟩ := hP
  refine ⟨fun k hk => p1 k ((ec1 k).mp hk), fun b hb hb5 => ?_, p3, p4⟩
  rw [anc_st hl hc k61] at hb
  rcases List.mem_cons.mp hb with rfl | hb
  · exact Or.inl (by omega)
  · rcases p2 b hb hb5 with a | ⟨a, b1⟩
    · exact Or.inl (by omega)
    · exact Or.inr ⟨by omega, b1⟩
theorem pre_snd {L : List Nd} (hl : L.length ≤ 120) {e len d len2 : Nat} {S S1 : IS} {σ1 : List (Nat × TE)} (hP : PreL L S e len) (heL : e < L.length) (hd : d < L.length) (k62 : TBL L 61 d = (e : Int)) (ec2 : ∀ k, k ∈ envN L d ↔ k ∈ envN L e) (hle : d + len2 ≤ e + len) (hed : e + 1 < d) (k59 : fstN L e = e + 1) (hs1 : StpL (envN L e) S.1 e (e + len) S S1 σ1) (h5 : TBL L 57 e = 5 → (∀ y, 2 ≤ y → oc y (S1.2.1 (e + 1)) = true → y < S1.1 ∧ (S1.2.2.2 y = true ∨ evV S1 (envN L e) y)) ∧ gsz S1.2.2.2 (S1.2.1 (e + 1)) ≤ 200 ∧ gop S1.2.2.2 (S1.2.1 (e + 1)) ≤ 99) : PreL L S1 d len2 := by
  refine ⟨fun k hk => hs1.2.2.2.2.2 k ((ec2 k).mp hk), fun b hb hb5 => ?_, hs1.2.1.2.2.2, by have := hs1.2.1.1; have := hP.2.2.2; omega⟩
  rw [anc_st hl hd k62] at hb
  rcases List.mem_cons.mp hb with rfl | hb
  · rw [k59]
    exact Or.inr ⟨by omega, h5 hb5⟩
  · rcases hP.st hl heL hs1 (Nat.le_refl _) b hb hb5 with a | ⟨a, b1⟩
    · exact Or.inl (by omega)
    · exact Or.inr ⟨by omega, b1⟩
theorem walk_tree {h0 : AH} {L : List Nd} {kp : Nat → Option TE} {l : Int} {v2 : AV} {Q : AV → AH → Prop} (hI0 : RI h0) (hT0 : NT h0 L) (hnd : ∀ x ∈ L, ndOK x) (hk0 : KpV (h0.vl 43) kp) (hkp : ∀ c R, kp c = some R → ∀ x, 2 ≤ x → oc x R = true → x < 210) :
    ∀ (T : TE) (f : Nat) (pre D post : List Nd) (S : IS) (Dn Gn : Nat → Prop) (N aB : Nat) (st : List (Nat × Nat)) (h : AH), ht T ≤ f → L = pre ++ (D ++ post) → shT T D → KP h0 h TyB TyG → RS h N aB S Dn Gn → ScN L pre.length D.length Dn Gn → PreL L S pre.length D.length → WkS h ((pre.length, 0) :: st) → h.vl 42 52 = 0 → st.length + 2 * D.length ≤ 390 → N + wPD D + 220 ≤ 20000 → aB + wAD D + 220 ≤ 9800 → 0 ≤ h.vl 42 50 → h.vl 42 50 + 1710 * (D.length : Int) + 10 ≤ 2147483000 →
    (∀ (h1 : AH) (S' : IS) (N' : Nat) (r : IR), infR L kp f pre.length S r S' → r.1 = 0 → KP h0 h1 TyB TyG → RS h1 N' (aB + wAD D) S' (fun k => Dn k ∨ (pre.length ≤ k ∧ k < pre.length + D.length)) Gn → (N ≤ N' ∧ N' ≤ N + wPD D) → WkS h1 st → h1.vl 42 52 = 0 → (h.vl 42 50 ≤ h1.vl 42 50 ∧ h1.vl 42 50 ≤ h.vl 42 50 + 1710 * (D.length : Int)) → EV mX11_finds 9 26 [rv 42, iv l, v2] [] h1 Q) →
    (∀ (h1 : AH) (S' : IS) (r : IR), infR L kp f pre.length S r S' → r.1 ≠ 0 → FlQ h1 r → KP h0 h1 TyB TyG → (h.vl 42 50 ≤ h1.vl 42 50 ∧ h1.vl 42 50 ≤ h.vl 42 50 + 1710 * (D.length : Int)) → EV mX11_finds 9 26 [rv 42, iv l, v2] [] h1 Q) →
    EV mX11_finds 9 26 [rv 42, iv l, v2] [] h Q
  | T, 0, pre, D, post, S, Dn, Gn, N, aB, st, h, hf => by cases T <;> exact absurd hf (by simp [ht])
  | .var v, f + 1, pre, D, post, S, Dn, Gn, N, aB, st, h, hfu => by
    intro hL hsh hK hS hsc hP hW h52 hst hN haB hs0 hs9 ok bad
    obtain ⟨x, hD, hx⟩ := hsh
    have k57 : TBL L 57 pre.length = x.1 := by rw [hL]; exact (TBL_nd hD).1
    have hlen : D.length = 1 := by rw [hD]; rfl
    have hnl : nlv D = 1 := by rw [hD, nlv, if_pos hx]; rfl
    have he : pre.length < L.length := by rw [hL, hD]; simp
    have wp : wPD D = 202 := by rw [wPD, hlen, hnl]
    have wa : wAD D = 102 := by rw [wAD, hlen, hnl]
    rw [hlen] at hsc hP ok bad hs9
    rw [wp] at hN ok
    rw [wa] at haB ok
    have hI : RI h := hK.ri hI0
    have e1 : ((1 : Nat) : Int) = 1 := rfl
    refine fin_it hI hW h52 (by omega) (Q1 := fun h1 => ∃ h', KP h h' [] [68] ∧ WkS h' st ∧ ∃ (r : IR) (S' : IS) (N' : Nat), lfR L kp pre.length S r S' ∧ FlQ h1 r ∧ KP h' h1 TyA TyF ∧ (h'.vl 42 50 ≤ h1.vl 42 50 ∧ h1.vl 42 50 ≤ h'.vl 42 50 + 1) ∧ (r.1 = 0 → (N ≤ N' ∧ N' ≤ N + 200) ∧ RS h1 N' (aB + 100) S' (fun k => Dn k ∨ k = pre.length) Gn)) (fun h' k w => ?_) (fun h1 q => ?_)
    · have f50 : h'.vl 42 50 = h.vl 42 50 := k.fl
      refine cv_mono (st_leaf (k.ri hI) ((hT0.kp hK).kp k) he hnd (by rw [k57]; exact hx) (hS.kp k) hsc hP ((hk0.kp hK).kp k) ((k.fl).trans h52) (by omega) (by omega) (by omega) (by omega)) fun o h1 q => ?_
      exact ⟨q.1, h', k, w, q.2⟩
    · obtain ⟨h', k, w, r, S', N', q1, q2, q3, q4, q5⟩ := q
      have f50 : h'.vl 42 50 = h.vl 42 50 := k.fl
      have hi : infR L kp (f + 1) pre.length S r S' := by rw [infR, if_pos (by rw [k57]; exact hx)]; exact q1
      have K1 : KP h0 h1 TyB TyG := (hK.tr (k.wk (by decide) (by decide))).tr (q3.wk (by decide) (by decide))
      by_cases c : r.1 = 0
      · obtain ⟨q6, q7⟩ := q5 c
        exact ok h1 S' N' r hi c K1 (q7.wk (fun j hj => hj.imp id (fun z => by omega)) (fun _ z => z) (by omega)) (by omega) (w.kp q3) (q2.1.trans c) (by omega)
      · exact bad h1 S' r hi c q2 K1 (by omega)
  | .op T1 T2, f + 1, pre, D, post, S, Dn, Gn, N, aB, st, h, hfu => by
    intro hL hsh hK hS hsc hP hW h52 hst hN haB hs0 hs9 ok bad
    obtain ⟨e, he⟩ : ∃ e, e = pre.length := ⟨_, rfl⟩
    have hlen : pre.length + D.length ≤ L.length := by rw [hL]; simp
    have hl9 := hT0.2.2.2
    have hI : RI h := hK.ri hI0
    have hT := hT0.kp hK
    have ht12 : ht T1 ≤ f ∧ ht T2 ≤ f := by simp only [ht] at hfu; omega
    rw [← he] at hsc hP hW ok bad hlen
    have heL : e < L.length := by
      have : D ≠ [] := sh_ne hsh
      have := List.length_pos_iff.mpr this
      omega
    rcases hsh with ⟨x, D1, hD, hx, s1⟩ | ⟨x, D1, D2, hD, hx, s1, s2⟩
    · -- a function
      have hlD : D.length = D1.length + 1 := by rw [hD, List.length_cons]
      have hnl : nlv D = nlv D1 := by rw [hD, nlv, if_neg (by omega)]; omega
      have hp1 := List.length_pos_iff.mpr (sh_ne s1)
      have k57 : TBL L 57 e = 4 := by rw [he, hL, ← hx]; exact (TBL_nd hD).1
      have k59 : TBL L 59 e = ((e + 1 : Nat) : Int) := by rw [he, hL]; exact TBL_f hD (sh_ne s1) (by rw [hx]; decide)
      have kf : fstN L e = e + 1 := by rw [fstN, k59]; rfl
      have k61 : TBL L 61 (e + 1) = (e : Int) := by rw [he, hL]; exact TBL_61f hD (sh_ne s1) (by rw [hx]; decide)
      have hc : e + 1 < L.length := by omega
      have hL1 : L = (pre ++ [x]) ++ (D1 ++ post) := by rw [hL, hD]; simp
      have el : (pre ++ [x]).length = e + 1 := by simp [he]
      have wp : wPD D = wPD D1 + 2 := by rw [wPD, wPD, hlD, hnl]; omega
      have wa : wAD D = wAD D1 + 2 := by rw [wAD, wAD, hlD, hnl]; omega
      refine fin_it hI hW h52 (by omega) (Q1 := fun h1 => ∃ h', KP h h' [] [68] ∧ WkS h' st ∧ KP h' h1 [66, 67, 68, 69, 70, 85, 86, 87] [49, 68] ∧ RS h1 (N + 1) aB (S.1 + 1, S.2.1, upT S.2.2.1 e (.var S.1), S.2.2.2) Dn (fun k => Gn k ∨ k = e) ∧ WkS h1 ((fstN L e, 0) :: (e, 1) :: st)) (fun h' k w => ?_) (fun h1 q => ?_)
      · exact cv_mono (st_f0 (k.ri hI) (hT.kp k) heL k57 (by omega) (hS.kp k) w (by omega) (by omega)) fun o h1 q => ⟨q.1, h', k, w, q.2⟩
      obtain ⟨h', k, w, q1, q2, q3⟩ := q
      rw [kf] at q3
      have K1 : KP h0 h1 TyB TyG := (hK.tr (k.wk (by decide) (by decide))).tr (q1.wk (by decide) (by decide))
      have f50 : h1.vl 42 50 = h.vl 42 50 := (q1.fl).trans k.fl
      have f52 : h1.vl 42 52 = 0 := ((q1.fl).trans k.fl).trans h52
      have gnf : ∀ y, S.1 ≤ y → S.2.2.2 y = false := fun y hy => by
        cases hz : S.2.2.2 y with
        | false => rfl
        | true => have := hP.2.2.1 y hz; omega
      have lte : ∀ k, k ∈ envN L e → k < e := fun k hk => anc_lt' heL (env_mem.mp hk).1
      have hP0 : PreL L (S.1 + 1, S.2.1, upT S.2.2.1 e (.var S.1), S.2.2.2) (e + 1) D1.length := by
        obtain ⟨p1, p2, p3, p4⟩ := hP
        refine ⟨fun k hk y y2 yo => ?_, fun b hb hb5 => ?_, fun y hy => by have := p3 y hy; show y < S.1 + 1; omega, by show 2 ≤ S.1 + 1; omega⟩
        · have yo : oc y (upT S.2.2.1 e (.var S.1) k) = true := yo
          rcases (env_c4 hl9 hc k61).mp hk with ⟨rfl, -⟩ | hk
          · rw [upT_s] at yo
            have := oc_v yo
            exact ⟨gnf y (by omega), by show y < S.1 + 1; omega⟩
          · rw [upT_n (by have := lte k hk; omega)] at yo
            obtain ⟨a, b⟩ := p1 k hk y y2 yo
            exact ⟨a, by show y < S.1 + 1; omega⟩
        · rw [anc_st hl9 hc k61] at hb
          rcases List.mem_cons.mp hb with rfl | hb
          · omega
          · rcases p2 b hb hb5 with a | ⟨a, b1, b2⟩
            · exact Or.inl (by omega)
            · refine Or.inr ⟨by omega, fun y y2 yo => ?_, b2⟩
              obtain ⟨c1, c2⟩ := b1 y y2 yo
              refine ⟨by show y < S.1 + 1; omega, c2.imp id (fun ⟨k, k1, k2⟩ => ⟨k, k1, ?_⟩)⟩
              show oc y (upT S.2.2.1 e (.var S.1) k) = true
              rw [upT_n (by have := lte k (env_sub hl9 heL hb k1); omega)]
              exact k2
      have hsc1 : ScN L (e + 1) D1.length Dn (fun k => Gn k ∨ k = e) := hsc.ch hl9 hc k61 (by omega) (fun _ z => z) (fun _ z => Or.inl z) (fun _ => Or.inr rfl) (fun z => by omega)
      refine walk_tree hI0 hT0 hnd hk0 hkp T1 f (pre ++ [x]) D1 post _ Dn (fun k => Gn k ∨ k = e) (N + 1) aB ((e, 1) :: st) h1 ht12.1 hL1 s1 K1 q2 (by rw [el]; exact hsc1) (by rw [el]; exact hP0) (by rw [el]; exact q3) f52 (by rw [List.length_cons]; omega) (by omega) (by omega) (by omega) (by omega) (fun h2 S1 N1 r1 i1 i2 K2 R2 nb W2 z52 z50 => ?_) (fun h2 S1 r1 i1 i2 F2 K2 z50 => ?_)
      · rw [el] at i1 R2
        have hI2 : RI h2 := K2.ri hI0
        refine fin_it hI2 W2 z52 (by omega) (Q1 := fun h3 => ∃ h', KP h2 h' [] [68] ∧ WkS h' st ∧ KP h' h3 [66, 67, 68, 69, 70, 84] [49] ∧ RS h3 (N1 + 1) (aB + wAD D1 + 1) (isF S1 e (.op (S1.2.2.1 e) (S1.2.1 (fstN L e))) S1.1) (fun k => (Dn k ∨ (e + 1 ≤ k ∧ k < e + 1 + D1.length)) ∨ k = e) (fun k => Gn k ∨ k = e)) (fun h' k w => ?_) (fun h3 q => ?_)
        · exact cv_mono (st_f1 (k.ri hI2) ((hT0.kp K2).kp k) heL k57 (by omega) (R2.kp k) (by rw [kf]; exact Or.inr ⟨Nat.le_refl _, by omega⟩) (Or.inr rfl) (by omega) (by omega)) fun o h1 q => ⟨q.1, h', k, w, q.2⟩
        obtain ⟨h', k, w, q4, q5⟩ := q
        have g50 : h3.vl 42 50 = h2.vl 42 50 := (q4.fl).trans k.fl
        have g52 : h3.vl 42 52 = 0 := ((q4.fl).trans k.fl).trans z52
        refine ok h3 _ (N1 + 1) (0, -1, -1, -1) ?_ rfl ((K2.tr (k.wk (by decide) (by decide))).tr (q4.wk (by decide) (by decide))) (q5.wk (fun j hj => ?_) (fun _ z => Or.inl z) (by omega)) (by omega) (w.kp q4) g52 (by omega)
        · rw [infR, if_neg (by omega), if_pos k57, kf]
          exact ⟨r1, S1, i1, fun z => absurd i2 z, fun _ => ⟨rfl, rfl⟩⟩
        · rcases hj with hj | hj
          · exact Or.inl (Or.inl hj)
          · by_cases z : j = e
            · exact Or.inr z
            · exact Or.inl (Or.inr (by omega))
      · rw [el] at i1
        refine bad h2 S1 r1 ?_ i2 F2 K2 (by omega)
        rw [infR, if_neg (by omega), if_pos k57, kf]
        exact ⟨r1, S1, i1, fun _ => rfl, fun z => absurd z i2⟩
    · -- two parts
      have hlD : D.length = D1.length + D2.length + 1 := by rw [hD, List.length_cons, List.length_append]
      have hnl : nlv D = nlv D1 + nlv D2 := by rw [hD, nlv, if_neg (by omega), nlv_app]; omega
      have hp1 := List.length_pos_iff.mpr (sh_ne s1)
      have hp2 := List.length_pos_iff.mpr (sh_ne s2)
      have hx2 : arN x.1 = 2 := by rw [arN, if_neg (by omega), if_neg (by omega)]
      have k57 : TBL L 57 e = x.1 := by rw [he, hL]; exact (TBL_nd hD).1
      have k59 : TBL L 59 e = ((e + 1 : Nat) : Int) := by rw [he, hL]; exact TBL_f hD (by simp; exact fun z => absurd z (sh_ne s1)) (by omega)
      have k60 : TBL L 60 e = ((e + 1 + D1.length : Nat) : Int) := by rw [he, hL, hD]; exact TBL_60 hx2 s1 s2
      have kf : fstN L e = e + 1 := by rw [fstN, k59]; rfl
      have ks : sndN L e = e + 1 + D1.length := by rw [sndN, k60]; rfl
      have k61 : TBL L 61 (e + 1) = (e : Int) := by rw [he, hL]; exact TBL_61f hD (by simp; exact fun z => absurd z (sh_ne s1)) (by omega)
      have k62 : TBL L 61 (e + 1 + D1.length) = (e : Int) := by rw [he, hL, hD]; exact TBL_61s hx2 s1 s2
      have hc : e + 1 < L.length := by omega
      have hd : e + 1 + D1.length < L.length := by omega
      have k4 : ¬ TBL L 57 e = 4 := by omega
      have hL1 : L = (pre ++ [x]) ++ (D1 ++ (D2 ++ post)) := by rw [hL, hD]; simp
      have el1 : (pre ++ [x]).length = e + 1 := by simp [he]
      have hL2 : L = (pre ++ (x :: D1)) ++ (D2 ++ post) := by rw [hL, hD]; simp
      have el2 : (pre ++ (x :: D1)).length = e + 1 + D1.length := by simp [he]; omega
      have ec1 : ∀ k, k ∈ envN L (e + 1) ↔ k ∈ envN L e := fun k => by
        rw [env_c4 hl9 hc k61]
        exact ⟨fun z => z.elim (fun z => absurd z.2 k4) id, Or.inr⟩
      have ec2 : ∀ k, k ∈ envN L (e + 1 + D1.length) ↔ k ∈ envN L e := fun k => by
        rw [env_c4 hl9 hd k62]
        exact ⟨fun z => z.elim (fun z => absurd z.2 k4) id, Or.inr⟩
      have wp : wPD D = wPD D1 + wPD D2 + 2 := by rw [wPD, wPD, wPD, hlD, hnl]; omega
      have wa : wAD D = wAD D1 + wAD D2 + 2 := by rw [wAD, wAD, wAD, hlD, hnl]; omega
      have hP1 := pre_fst hl9 hP hc k61 ec1 (len1 := D1.length) (by omega) (by omega)
      have hsc1 : ScN L (e + 1) D1.length Dn Gn := hsc.ch hl9 hc k61 (by omega) (fun _ z => z) (fun _ z => z) (fun z => absurd z k4) (fun _ => Or.inr (by omega))
      refine fin_it hI hW h52 (by omega) (Q1 := fun h1 => ∃ h', KP h h' [] [68] ∧ WkS h' st ∧ KP h' h1 [86, 87] [68] ∧ RS h1 N aB S Dn Gn ∧ WkS h1 ((fstN L e, 0) :: ((if TBL L 57 e = 6 then [(sndN L e, 0)] else []) ++ (e, 1) :: st))) (fun h' k w => ?_) (fun h1 q => ?_)
      · exact cv_mono (st_b0 (k.ri hI) (hT.kp k) heL (by omega) (by omega) (by omega) (hS.kp k) w (by omega)) fun o h1 q => ⟨q.1, h', k, w, q.2⟩
      obtain ⟨h', k, w, q1, q2, q3⟩ := q
      rw [kf, ks] at q3
      have K1 : KP h0 h1 TyB TyG := (hK.tr (k.wk (by decide) (by decide))).tr (q1.wk (by decide) (by decide))
      have f50 : h1.vl 42 50 = h.vl 42 50 := (q1.fl).trans k.fl
      have f52 : h1.vl 42 52 = 0 := ((q1.fl).trans k.fl).trans h52
      have cd : ((D1.length + D2.length + 1 : Nat) : Int) = (D1.length : Int) + (D2.length : Int) + 1 := by omega
      by_cases c6 : TBL L 57 e = 6
      · -- an application
        rw [if_pos c6] at q3
        have q3 : WkS h1 ((e + 1, 0) :: (e + 1 + D1.length, 0) :: (e, 1) :: st) := q3
        refine walk_tree hI0 hT0 hnd hk0 hkp T1 f (pre ++ [x]) D1 (D2 ++ post) S Dn Gn N aB ((e + 1 + D1.length, 0) :: (e, 1) :: st) h1 ht12.1 hL1 s1 K1 q2 (by rw [el1]; exact hsc1) (by rw [el1]; exact hP1) (by rw [el1]; exact q3) f52 (by rw [List.length_cons, List.length_cons]; omega) (by omega) (by omega) (by omega) (by omega) (fun h2 S1 N1 r1 i1 i2 K2 R2 nb W2 z52 z50 => ?_) (fun h2 S1 r1 i1 i2 F2 K2 z50 => ?_)
        · rw [el1] at i1 R2
          obtain ⟨σ1, hs1, hres1⟩ := inf_lv hl9 hkp T1 f (pre ++ [x]) D1 (D2 ++ post) S S1 r1 hL1 s1 (by rw [el1]; exact i1) i2 (by rw [el1]; exact hP1)
          rw [el1] at hs1 hres1
          have hs1 := hs1.cgE ec1
          have hs1w : StpL (envN L e) S.1 e (e + D.length) S S1 σ1 := ⟨fun k hk => hs1.1 k (by omega), hs1.2⟩
          have hP2 := pre_snd hl9 hP heL hd k62 ec2 (len2 := D2.length) (by omega) (by omega) kf hs1w (fun z => by omega)
          have hsc2 : ScN L (e + 1 + D1.length) D2.length (fun k => Dn k ∨ (e + 1 ≤ k ∧ k < e + 1 + D1.length)) Gn := hsc.ch hl9 hd k62 (by omega) (fun _ z => Or.inl z) (fun _ z => z) (fun z => absurd z k4) (fun z => by omega)
          refine walk_tree hI0 hT0 hnd hk0 hkp T2 f (pre ++ (x :: D1)) D2 post S1 _ Gn N1 (aB + wAD D1) ((e, 1) :: st) h2 ht12.2 hL2 s2 K2 R2 (by rw [el2]; exact hsc2) (by rw [el2]; exact hP2) (by rw [el2]; exact W2) z52 (by rw [List.length_cons]; omega) (by omega) (by omega) (by omega) (by omega) (fun h3 S2 N2 r2 j1 j2 K3 R3 nb3 W3 y52 y50 => ?_) (fun h3 S2 r2 j1 j2 F3 K3 y50 => ?_)
          · rw [el2] at j1 R3
            have hI3 : RI h3 := K3.ri hI0
            refine fin_it hI3 W3 y52 (by omega) (Q1 := fun h4 => ∃ h', KP h3 h' [] [68] ∧ WkS h' st ∧ ∃ (r : IR) (S' : IS), apR S2 L e r S' ∧ FlQ h4 r ∧ KP h' h4 TyA TyF ∧ (h'.vl 42 50 ≤ h4.vl 42 50 ∧ h4.vl 42 50 ≤ h'.vl 42 50 + 1700) ∧ (r.1 = 0 → RS h4 (N2 + 2) (aB + wAD D1 + wAD D2 + 1) S' (fun k => ((Dn k ∨ (e + 1 ≤ k ∧ k < e + 1 + D1.length)) ∨ (e + 1 + D1.length ≤ k ∧ k < e + 1 + D1.length + D2.length)) ∨ k = e) Gn)) (fun h' k w => ?_) (fun h4 q => ?_)
            · have g50 : h'.vl 42 50 = h3.vl 42 50 := k.fl
              exact cv_mono (st_a1 (k.ri hI3) ((hT0.kp K3).kp k) heL c6 (by omega) (by omega) (R3.kp k) (by rw [kf]; exact Or.inl (Or.inr ⟨Nat.le_refl _, by omega⟩)) (by rw [ks]; exact Or.inr ⟨Nat.le_refl _, by omega⟩) (by omega) ((k.fl).trans y52) (by omega) (by omega) (by omega) (by omega)) fun o h1 q => ⟨q.1, h', k, w, q.2⟩
            obtain ⟨h', k, w, r, S', u1, u2, u3, u4, u5⟩ := q
            have g50 : h'.vl 42 50 = h3.vl 42 50 := k.fl
            have K4 : KP h0 h4 TyB TyG := (K3.tr (k.wk (by decide) (by decide))).tr (u3.wk (by decide) (by decide))
            have hi : infR L kp (f + 1) e S r S' := by
              rw [infR, if_neg (by omega), if_neg k4, if_neg (by omega), kf, ks]
              exact ⟨r1, S1, i1, fun z => absurd i2 z, fun _ => ⟨r2, S2, j1, fun z => absurd j2 z, fun _ => u1⟩⟩
            by_cases c0 : r.1 = 0
            · refine ok h4 S' (N2 + 2) r hi c0 K4 ((u5 c0).wk (fun j hj => ?_) (fun _ z => z) (by omega)) (by omega) (w.kp u3) (u2.1.trans c0) (by omega)
              rcases hj with hj | hj
              · exact Or.inl (Or.inl (Or.inl hj))
              · by_cases z : j = e
                · exact Or.inr z
                · by_cases z2 : j < e + 1 + D1.length
                  · exact Or.inl (Or.inl (Or.inr (by omega)))
                  · exact Or.inl (Or.inr (by omega))
            · exact bad h4 S' r hi c0 u2 K4 (by omega)
          · rw [el2] at j1
            refine bad h3 S2 r2 ?_ j2 F3 K3 (by omega)
            rw [infR, if_neg (by omega), if_neg k4, if_neg (by omega), kf, ks]
            exact ⟨r1, S1, i1, fun z => absurd i2 z, fun _ => ⟨r2, S2, j1, fun _ => rfl, fun z => absurd z j2⟩⟩
        · rw [el1] at i1
          refine bad h2 S1 r1 ?_ i2 F2 K2 (by omega)
          rw [infR, if_neg (by omega), if_neg k4, if_neg (by omega), kf, ks]
          exact ⟨r1, S1, i1, fun _ => rfl, fun z => absurd z i2⟩
      · -- a let
        have c5 : TBL L 57 e = 5 := by omega
        rw [if_neg c6] at q3
        have q3 : WkS h1 ((e + 1, 0) :: (e, 1) :: st) := q3
        refine walk_tree hI0 hT0 hnd hk0 hkp T1 f (pre ++ [x]) D1 (D2 ++ post) S Dn Gn N aB ((e, 1) :: st) h1 ht12.1 hL1 s1 K1 q2 (by rw [el1]; exact hsc1) (by rw [el1]; exact hP1) (by rw [el1]; exact q3) f52 (by rw [List.length_cons]; omega) (by omega) (by omega) (by omega) (by omega) (fun h2 S1 N1 r1 i1 i2 K2 R2 nb W2 z52 z50 => ?_) (fun h2 S1 r1 i1 i2 F2 K2 z50 => ?_)
        · rw [el1] at i1 R2
          have hI2 : RI h2 := K2.ri hI0
          obtain ⟨σ1, hs1, hres1⟩ := inf_lv hl9 hkp T1 f (pre ++ [x]) D1 (D2 ++ post) S S1 r1 hL1 s1 (by rw [el1]; exact i1) i2 (by rw [el1]; exact hP1)
          rw [el1] at hs1 hres1
          have hs1 := hs1.cgE ec1
          have hGe : ∀ k ∈ envN L e, Gn k := fun k hk => ((hsc k (env_mem.mp hk).1).1) (env_mem.mp hk).2
          refine fin_it hI2 W2 z52 (by omega) (Q1 := fun h3 => ∃ h', KP h2 h' [] [68] ∧ WkS h' st ∧ ((201 ≤ sz (S1.2.1 (fstN L e)) ∧ FlQ h3 (10, (e : Int), -1, -1) ∧ KP h' h3 TyA TyF ∧ h3.vl 42 50 = h'.vl 42 50 + 1) ∨ (¬ 201 ≤ sz (S1.2.1 (fstN L e)) ∧ KP h' h3 [70, 71, 72, 73, 74, 86, 87] [50, 51, 68] ∧ h3.vl 42 50 = h'.vl 42 50 + 2 ∧ RS h3 N1 (aB + wAD D1) (isGn L S1 e) (fun k => Dn k ∨ (e + 1 ≤ k ∧ k < e + 1 + D1.length)) Gn ∧ WkS h3 ((sndN L e, 0) :: (e, 2) :: st)))) (fun h' k w => ?_) (fun h3 q => ?_)
          · have g50 : h'.vl 42 50 = h2.vl 42 50 := k.fl
            exact cv_mono (st_l1 (k.ri hI2) ((hT0.kp K2).kp k) heL c5 (by omega) (by omega) (R2.kp k) (by rw [kf]; exact Or.inr ⟨Nat.le_refl _, by omega⟩) hGe w (by omega) ((k.fl).trans z52) (by omega) (by omega)) fun o h1 q => ⟨q.1, h', k, w, q.2⟩
          obtain ⟨h', k, w, q⟩ := q
          have g50 : h'.vl 42 50 = h2.vl 42 50 := k.fl
          rw [kf, ks] at q
          rcases q with ⟨u1, u2, u3, u4⟩ | ⟨u1, u2, u3, u4, u5⟩
          · refine bad h3 S1 _ ?_ (by show (10 : Int) ≠ 0; decide) u2 ((K2.tr (k.wk (by decide) (by decide))).tr (u3.wk (by decide) (by decide))) (by omega)
            rw [infR, if_neg (by omega), if_neg k4, if_pos c5, kf, ks]
            refine ⟨r1, S1, i1, fun z => absurd i2 z, fun _ => ?_⟩
            show ite _ _ _
            rw [if_pos u1]
          · have K3 : KP h0 h3 TyB TyG := (K2.tr (k.wk (by decide) (by decide))).tr (u2.wk (by decide) (by decide))
            have y52 : h3.vl 42 52 = 0 := ((u2.fl).trans k.fl).trans z52
            obtain ⟨ht1, h5⟩ := let_pre hl9 (len := D.length) heL hc kf (by omega) hs1 ec1 hres1 hP.2.2.2 u1
            have hP2 := pre_snd hl9 hP heL hd k62 ec2 (len2 := D2.length) (by omega) (by omega) kf ht1 (fun _ => h5)
            have hsc2 : ScN L (e + 1 + D1.length) D2.length (fun k => Dn k ∨ (e + 1 ≤ k ∧ k < e + 1 + D1.length)) Gn := hsc.ch hl9 hd k62 (by omega) (fun _ z => Or.inl z) (fun _ z => z) (fun z => absurd z k4) (fun _ => Or.inl (by rw [kf]; exact Or.inr ⟨Nat.le_refl _, by omega⟩))
            refine walk_tree hI0 hT0 hnd hk0 hkp T2 f (pre ++ (x :: D1)) D2 post (isGn L S1 e) _ Gn N1 (aB + wAD D1) ((e, 2) :: st) h3 ht12.2 hL2 s2 K3 u4 (by rw [el2]; exact hsc2) (by rw [el2]; exact hP2) (by rw [el2]; exact u5) y52 (by rw [List.length_cons]; omega) (by omega) (by omega) (by omega) (by omega) (fun h4 S2 N2 r2 j1 j2 K4 R4 nb4 W4 x52 x50 => ?_) (fun h4 S2 r2 j1 j2 F4 K4 x50 => ?_)
            · rw [el2] at j1 R4
              have hI4 : RI h4 := K4.ri hI0
              refine fin_it hI4 W4 x52 (by omega) (Q1 := fun h5 => ∃ h', KP h4 h' [] [68] ∧ WkS h' st ∧ KP h' h5 [84] [] ∧ RS h5 N2 (aB + wAD D1 + wAD D2) (isF S2 e (S2.2.1 (sndN L e)) S2.1) (fun k => ((Dn k ∨ (e + 1 ≤ k ∧ k < e + 1 + D1.length)) ∨ (e + 1 + D1.length ≤ k ∧ k < e + 1 + D1.length + D2.length)) ∨ k = e) Gn) (fun h' k w => ?_) (fun h5 q => ?_)
              · exact cv_mono (st_l2 (k.ri hI4) ((hT0.kp K4).kp k) heL c5 (by omega) (R4.kp k) (by rw [ks]; exact Or.inr ⟨Nat.le_refl _, by omega⟩) (by omega)) fun o h1 q => ⟨q.1, h', k, w, q.2⟩
              obtain ⟨h', k, w, v1, v2'⟩ := q
              have g5 : h5.vl 42 50 = h4.vl 42 50 := (v1.fl).trans k.fl
              refine ok h5 _ N2 (0, -1, -1, -1) ?_ rfl ((K4.tr (k.wk (by decide) (by decide))).tr (v1.wk (by decide) (by decide))) (v2'.wk (fun j hj => ?_) (fun _ z => z) (by omega)) (by omega) (w.kp v1) (((v1.fl).trans k.fl).trans x52) (by omega)
              · rw [infR, if_neg (by omega), if_neg k4, if_pos c5, kf, ks]
                refine ⟨r1, S1, i1, fun z => absurd i2 z, fun _ => ?_⟩
                show ite _ _ _
                rw [if_neg u1]
                exact ⟨r2, S2, j1, fun z => absurd j2 z, fun _ => ⟨rfl, rfl⟩⟩
              · rcases hj with hj | hj
                · exact Or.inl (Or.inl (Or.inl hj))
                · by_cases z : j = e
                  · exact Or.inr z
                  · by_cases z2 : j < e + 1 + D1.length
                    · exact Or.inl (Or.inl (Or.inr (by omega)))
                    · exact Or.inl (Or.inr (by omega))
            · rw [el2] at j1
              refine bad h4 S2 r2 ?_ j2 F4 K4 (by omega)
              rw [infR, if_neg (by omega), if_neg k4, if_pos c5, kf, ks]
              refine ⟨r1, S1, i1, fun z => absurd i2 z, fun _ => ?_⟩
              show ite _ _ _
              rw [if_neg u1]
              exact ⟨r2, S2, j1, fun _ => rfl, fun z => absurd z j2⟩
        · rw [el1] at i1
          refine bad h2 S1 r1 ?_ i2 F2 K2 (by omega)
          rw [infR, if_neg (by omega), if_neg k4, if_pos c5, kf, ks]
          exact ⟨r1, S1, i1, fun _ => rfl, fun z => absurd z i2⟩
