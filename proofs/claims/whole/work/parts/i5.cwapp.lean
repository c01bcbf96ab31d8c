/-! the class goes through an application -/
section CwA
variable {h0 : AH} {a0 K0 : Nat → Nat} {L : List Nd} {kp : Nat → Option TE} {tc : Nat} {Q : AV → AH → Prop} {f e : Nat}
theorem AtC.k8 {S : IS} {Dn Gn Sn : Nat → Prop} {N : Nat} {T : Nat → TE} {τ : Nat → Nat} {sc yl : Nat} {st : List (Nat × Int × Int)} {gz lz res : Int} {fv : Nat → Int} {h1 : AH} {a K : Nat → Nat} (q : AtC h0 a0 K0 L kp tc S Dn Gn Sn N T τ sc st gz lz fv yl res h1 a K) : h1.kd 8 = (1, 14) ∧ 8 < h1.n := ⟨q.1.g.1.k8, q.1.g.1.n8⟩
/-- what a part says of its variables -/
def LvP (L : List Nd) (kp : Nat → Option TE) (f e len : Nat) : Prop := ∀ (S S' : IS) (r : IR), infR L kp f e S r S' → r.1 = 0 → PreL L S e len → ∃ σ, StpL (envN L e) S.1 e (e + len) S S' σ ∧ ResL L S.1 S' e σ
/-- the variables of a first part behind the second one -/
theorem fst_gn {L : List Nd} {E : List Nat} {lo hi e : Nat} {nv nv2 : Nat} {S1 S2 : IS} {σ1 σ2 : List (Nat × TE)} (h2 : StpL E nv2 lo hi S1 S2 σ2) (hE : ∀ k ∈ E, k < lo) (he : e < lo) (hnv : nv2 = S1.1) (hr : ResL L nv S1 e σ1) : ∀ y, 2 ≤ y → oc y (S2.2.1 e) = true → S2.2.2.2 y = false := by
  intro y y2 yo
  rw [(h2.1 e (Or.inl he)).1] at yo
  have no : ∀ z, 2 ≤ z → S1.2.2.2 z = false → z < S1.1 → S2.2.2.2 z = false := fun z z2 h3 h4 => by
    cases hz : S2.2.2.2 z with
    | false => rfl
    | true =>
      rcases h2.2.1.2.2.1 z z2 hz with h5 | h5
      · rw [h3] at h5; exact Bool.noConfusion h5
      · omega
  rcases h2.old hE y2 yo with ⟨c1, -⟩ | ⟨x, x1, x2, x3, x4, x5⟩
  · obtain ⟨r1, r2, -⟩ := hr y y2 c1
    exact no y y2 r1 r2
  · obtain ⟨r1, r2, -⟩ := hr x x1 x2
    rcases x3 with x3 | x3
    · obtain ⟨k, k1, k2⟩ := x5 x3
      exact (h2.2.2.2.2.2 k k1 y y2 k2).1
    · omega
theorem cw_app {len1 len2 nl1 nl2 le1 le2 : Nat} (hL : L.length ≤ 120) (he : e < L.length) (h57 : TBL L 57 e = 6) (hfe : TBL L 59 e = ((e + 1 : Nat) : Int)) (hse : TBL L 60 e = ((e + 1 + len1 : Nat) : Int)) (k61 : TBL L 61 (e + 1) = (e : Int)) (k62 : TBL L 61 (e + 1 + len1) = (e : Int)) (hc : e + 1 < L.length) (hd : e + 1 + len1 < L.length) (hp1 : 0 < len1) (hp2 : 0 < len2) (lv1 : LvP L kp f (e + 1) len1) (lv2 : LvP L kp f (e + 1 + len1) len2)
    (h1 : CwP h0 a0 K0 L kp tc Q f (e + 1) len1 nl1 le1) (h2 : CwP h0 a0 K0 L kp tc Q f (e + 1 + len1) len2 nl2 le2) : CwP h0 a0 K0 L kp tc Q (f + 1) e (len1 + len2 + 1) (nl1 + nl2) (le1 + le2) := by
  intro S Dn Gn Sn N T τ sc st gz lz fv yl res i h a K v5 q hA hSl hP hsc hst hN hgz hlz hi ok bad
  have kf : fstN L e = e + 1 := by rw [fstN, hfe]; rfl
  have kf' : TBL L 59 e = (fstN L e : Int) := by rw [kf]; exact hfe
  have ks : sndN L e = e + 1 + len1 := by rw [sndN, hse]; rfl
  have ks' : TBL L 60 e = (sndN L e : Int) := by rw [ks]; exact hse
  have k4 : ¬ TBL L 57 e = 4 := by omega
  have ec1 : ∀ k, k ∈ envN L (e + 1) ↔ k ∈ envN L e := fun k => by
    rw [env_c4 hL hc k61]
    exact ⟨fun z => z.elim (fun z => absurd z.2 k4) id, Or.inr⟩
  have ec2 : ∀ k, k ∈ envN L (e + 1 + len1) ↔ k ∈ envN L e := fun k => by
    rw [env_c4 hL hd k62]
    exact ⟨fun z => z.elim (fun z => absurd z.2 k4) id, Or.inr⟩
  have hSe : ∀ b, Sn b → fstN L b ≠ e := fun b hb => by have := (hSl b hb).2; omega
  have inf : ∀ (r : IR) (S' : IS), thR (infR L kp f (e + 1) S) (fun S1 r S' => thR (infR L kp f (e + 1 + len1) S1) (fun S2 r S' => apR S2 L e r S') r S') r S' → infR L kp (f + 1) e S r S' := fun r S' z => by
    rw [infR, if_neg (by omega), if_neg k4, if_neg (by omega), kf, ks]
    exact z
  have hP1 : PreL L S (e + 1) len1 := pre_fst hL hP hc k61 ec1 (by omega) (by omega)
  refine gt_step q (by omega) (by omega) (Q1 := fun g => AtC h0 a0 K0 L kp tc S Dn Gn Sn N T τ sc ((fstN L e, 0, -1) :: (e, 1, -1) :: st) (gz + 1) lz fv yl res g a K) (go_k6 q (by omega) he ⟨by decide, by decide⟩ (by omega) h57 (fun g q1 => ?_)) (fun g q1 _ _ => ?_) (fun g q1 => q1.k8)
  · exact s_app0 q1 (by omega) he (by omega) kf'
  rw [kf] at q1
  refine h1 S Dn Gn Sn N T τ sc ((e, 1, -1) :: st) (gz + 1) lz fv yl res (i + 1) g a K v5 q1 (fun b hb => ?_) (fun b hb => by have := hSl b hb; omega) hP1 (by omega) (by rw [List.length_cons]; omega) (by omega) (by omega) (by omega) (by omega) (fun g2 S1 r1 N1 a1 K1 T1 τ1 lz1 fv1 yl1 i1 c1 v6 j1 j2 q2 f2 c2 m2 m3 m4 => ?_) (fun g2 S1 r1 i1 v6 j1 j2 q2 => bad g2 S1 r1 i1 v6 (inf _ _ ⟨r1, S1, j1, fun _ => rfl, fun z => absurd z j2⟩) j2 q2)
  · rw [anc_st hL hc k61] at hb
    rcases List.mem_cons.mp hb with rfl | hb
    · exact ⟨fun z => by omega, fun z => by omega⟩
    · exact ⟨(hA b hb).1, fun z => ((hA b hb).2 z).imp id (fun w => by omega)⟩
  obtain ⟨σ1, hs1, hres1⟩ := lv1 S S1 r1 j1 j2 hP1
  have hs1 := hs1.cgE ec1
  have hs1w : StpL (envN L e) S.1 e (e + (len1 + len2 + 1)) S S1 σ1 := ⟨fun k hk => hs1.1 k (by omega), hs1.2⟩
  have hP2 := pre_snd hL hP he hd k62 ec2 (len2 := len2) (by omega) (by omega) kf hs1w (fun z => by omega)
  refine gt_step q2 (by omega) (by omega) (Q1 := fun g => AtC h0 a0 K0 L kp tc S1 (fun k => Dn k ∨ (e + 1 ≤ k ∧ k < e + 1 + len1)) Gn Sn N1 T1 τ1 (sc + le1) ((sndN L e, 0, -1) :: (e, 2, (c1 : Int)) :: st) (gz + 1 + (len1 : Int)) lz1 fv1 yl1 (c1 : Int) g a1 K1) (go_k6 q2 (by omega) he ⟨by decide, by decide⟩ (by omega) h57 (fun g3 q3 => ?_)) (fun g3 q3 _ _ => ?_) (fun g3 q3 => q3.k8)
  · rw [if_neg (by decide), show gz + 1 + (len1 : Int) + 0 = gz + 1 + (len1 : Int) by omega] at q3
    exact s_app1 q3 (by omega) he (by omega) ks'
  rw [ks] at q3
  refine h2 S1 (fun k => Dn k ∨ (e + 1 ≤ k ∧ k < e + 1 + len1)) Gn Sn N1 T1 τ1 (sc + le1) ((e, 2, (c1 : Int)) :: st) (gz + 1 + (len1 : Int)) lz1 fv1 yl1 (c1 : Int) (i1 + 1) g3 a1 K1 v6 q3 (fun b hb => ?_) (fun b hb => by have := hSl b hb; omega) hP2 (by omega) (by rw [List.length_cons]; omega) (by omega) (by omega) (by omega) (by omega) (fun g4 S2 r2 N2 a2 K2 T2 τ2 lz2 fv2 yl2 i2 c3 v7 l1 l2 q4 f4 c4 m5 m6 m7 => ?_) (fun g4 S2 r2 i2 v7 l1 l2 q4 => bad g4 S2 r2 i2 v7 (inf _ _ ⟨r1, S1, j1, fun z => absurd j2 z, fun _ => ⟨r2, S2, l1, fun _ => rfl, fun z => absurd z l2⟩⟩) l2 q4)
  · rw [anc_st hL hd k62] at hb
    rcases List.mem_cons.mp hb with rfl | hb
    · exact ⟨fun z => by omega, fun z => by omega⟩
    · exact ⟨(hA b hb).1, fun z => ((hA b hb).2 z).imp id (fun w => by omega)⟩
  obtain ⟨σ2, hs2, hres2⟩ := lv2 S1 S2 r2 l1 l2 hP2
  -- the held type is what the first part has now
  have hd1 : T2 c1 = S2.2.1 (e + 1) ∧ c1 < N2 := by
    obtain ⟨-, cx, x1, x2, x3⟩ := q4.2.1.2.2.1 (e + 1) (Or.inl (Or.inr ⟨Nat.le_refl _, by omega⟩))
    rw [q4.2.2.2.2.2.1, f4 (e + 1) (by omega), c2.2.2] at x2
    obtain rfl : c1 = cx := by omega
    exact ⟨x3, x1⟩
  have infA : ∀ (r : IR) (S' : IS), apR S2 L e r S' → infR L kp (f + 1) e S r S' := fun r S' z => inf _ _ ⟨r1, S1, j1, fun z => absurd j2 z, fun _ => ⟨r2, S2, l1, fun z => absurd l2 z, fun _ => z⟩⟩
  have S22 : 2 ≤ S2.1 := by have := hs2.2.1.1; have := hP2.2.2.2; omega
  refine gt_step q4 (by omega) (by omega) (Q1 := fun g5 => ((201 ≤ sz (S2.2.1 (fstN L e)) ∨ 201 ≤ sz (S2.2.1 (sndN L e))) ∧ FaC h0 a0 K0 L kp tc (10, (e : Int), -1, -1) g5) ∨ (¬ (201 ≤ sz (S2.2.1 (fstN L e)) ∨ 201 ≤ sz (S2.2.1 (sndN L e))) ∧ ∃ T1 τ1 yl1 fv1, PrQ h0 a0 K0 L kp tc (isF S2 e (.var S2.1) (S2.1 + 1)) (fun k => ((Dn k ∨ (e + 1 ≤ k ∧ k < e + 1 + len1)) ∨ (e + 1 + len1 ≤ k ∧ k < e + 1 + len1 + len2)) ∨ k = e) Gn Sn (N2 + 2) T1 τ1 (sc + le1 + le2) ((e, 3, (c1 : Int)) :: st) (gz + 1 + (len1 : Int) + (len2 : Int)) lz2 fv1 yl1 (c3 : Int) c1 (N2 + 1) g5 ∧ (∀ k, k ≠ e → fv1 k = fv2 k) ∧ yl1 ≤ yl2 + 2 ∧ T1 c1 = S2.2.1 (fstN L e) ∧ T1 (N2 + 1) = .op (S2.2.1 (sndN L e)) (.var S2.1) ∧ ∀ c, c < N2 → T1 c = T2 c)) (go_k6 q4 (by omega) he ⟨by decide, by decide⟩ (by omega) h57 (fun g5 q5 => ?_)) (fun g5 q5 k8 n8 => ?_) (fun g5 q5 => ?_)
  · rw [if_neg (by decide), show gz + 1 + (len1 : Int) + (len2 : Int) + 0 = gz + 1 + (len1 : Int) + (len2 : Int) by omega] at q5
    exact s_app2 q5 (by omega) (by omega) he hL hSe S22 rfl hd1.2 (by rw [kf]; exact hd1.1) rfl c4.1 (by rw [ks]; exact c4.2.1)
  · have neq : ∀ x : Int, gz + 1 + (len1 : Int) + (len2 : Int) = gz + ((len1 + len2 + 1 : Nat) : Int) := fun _ => by omega
    rcases q5 with ⟨d, q5⟩ | ⟨d, T3, τ3, yl3, fv3, p, w1, w2, w3, w4, w5⟩
    · exact bad g5 S2 _ _ v7 (infA _ _ (by unfold apR; rw [if_pos d])) (by show (10 : Int) ≠ 0; decide) q5
    rw [kf] at w3
    rw [ks] at w4
    have apr : ∀ (r : IR) (S' : IS) (F : Nat) (R : UR) (σ : List (Nat × TE)), un F [(T3 c1, T3 (N2 + 1))] = some (R, σ) → (R.1 ≠ 0 → r = (R.1, (e : Int), R.2.1, R.2.2)) → (R.1 = 0 → (201 ≤ sz (ap σ (S2.2.1 (fstN L e))) → r = (10, (e : Int), -1, -1)) ∧ (¬ 201 ≤ sz (ap σ (S2.2.1 (fstN L e))) → r = (0, -1, -1, -1) ∧ S' = isA (isF S2 e (.var S2.1) (S2.1 + 1)) σ)) → apR S2 L e r S' := fun r S' F R σ u1 u2 u3 => by
      unfold apR
      rw [if_neg d]
      rw [w3, w4] at u1
      exact ⟨F, R, σ, by rw [kf, ks]; exact u1, u2, u3⟩
    refine gt_pairs p (by omega) (by omega) (by omega) (by omega) (by omega) (by omega) (by omega) (fun y y2 yo => ?_) (fun j g6 a6 K6 fu σ lz6 yl6 v8 q6 u1 hij hjb l6 l60 => ?_) (fun j g6 fu R σ v8 u1 u2 q6 => bad g6 S2 _ j v8 (infA _ _ (apr _ S2 fu R σ u1 (fun _ => rfl) (fun z => absurd z u2))) u2 q6) v7
    · show S2.2.2.2 y = false
      rcases yo with yo | yo
      · rw [w3] at yo
        exact fst_gn hs2 (fun k hk => anc_lt' hd (env_mem.mp hk).1) (by omega) rfl hres1 y y2 yo
      · rw [w4] at yo
        have yo : oc y (S2.2.1 (e + 1 + len1)) = true ∨ oc y (.var S2.1) = true := by simpa [oc] using yo
        rcases yo with yo | yo
        · exact (hres2 y y2 yo).1
        · have ey := oc_v yo
          cases hz : S2.2.2.2 y with
          | false => rfl
          | true => have := hs2.2.1.2.2.2 y hz; omega
    · have hF : (isA (isF S2 e (.var S2.1) (S2.1 + 1)) σ).2.1 (fstN L e) = ap σ (S2.2.1 (e + 1)) := by
        rw [kf]
        show ap σ (upT S2.2.1 e (.var S2.1) (e + 1)) = _
        rw [upT_n (by omega)]
      refine gt_step q6 (by omega) (by omega) (Q1 := fun h1 => GdQ h0 a0 K0 L kp tc (isA (isF S2 e (.var S2.1) (S2.1 + 1)) σ) (fun k => ((Dn k ∨ (e + 1 ≤ k ∧ k < e + 1 + len1)) ∨ (e + 1 + len1 ≤ k ∧ k < e + 1 + len1 + len2)) ∨ k = e) Gn Sn (sc + le1 + le2) st e (gz + 1 + (len1 : Int) + (len2 : Int)) lz6 fv3 yl6 (N2 + 2) 0 (fun r S' => if 201 ≤ sz ((isA (isF S2 e (.var S2.1) (S2.1 + 1)) σ).2.1 (fstN L e)) then r = (10, (e : Int), -1, -1) else r = (0, -1, -1, -1) ∧ S' = isA (isF S2 e (.var S2.1) (S2.1 + 1)) σ) h1) (go_k6 q6 (by omega) he ⟨by decide, by decide⟩ (by omega) h57 (fun g7 q7 => ?_)) (fun g7 q7 _ _ => ?_) (fun g7 q7 => q7.k8)
      · rw [if_neg (by decide), show gz + 1 + (len1 : Int) + (len2 : Int) + 0 = gz + 1 + (len1 : Int) + (len2 : Int) by omega] at q7
        exact s_app3 q7 (by omega) (by omega) he hL hSe rfl (by omega) (by rw [hF, w3]) (Or.inr rfl)
      obtain ⟨r3, S3, N3, x1, x2, x3, x4⟩ := q7
      rw [hF] at x1
      have hap : apR S2 L e r3 S3 := apr r3 S3 fu _ σ u1 (fun z => absurd rfl z) (fun _ => by
        rw [kf]
        exact ⟨fun z => by rw [if_pos z] at x1; exact x1, fun z => by rw [if_neg z] at x1; exact x1⟩)
      by_cases z : r3.1 = 0
      · obtain ⟨b1, a7, K7, T7, τ7, c7, b2, b3, b4, b5, b6, b7, b8⟩ := x3 z
        refine ok g7 S3 r3 N3 a7 K7 T7 τ7 lz6 (g7.vl 23) (YL g7 a7 N3) (j + 1) c7 v8 (infA _ _ hap) z ⟨b2, ?_, b4, b5, ⟨by rw [b7.1]; omega, b7.2⟩, rfl, rfl, b6.2.1.1⟩ (fun k hk => by rw [b1 k (by omega), w1 k (by omega), f4 k (by omega), f2 k (by omega)]) ⟨b6.1, b6.2.2, b6.2.1.2⟩ ⟨by omega, by omega⟩ ⟨by omega, ?_⟩ ⟨l60, by omega⟩
        · rw [show sc + (le1 + le2) = sc + le1 + le2 by omega]
          refine b3.wk (fun k hk => ?_) (fun _ z => z) (fun _ z => z)
          rcases hk with hk | hk
          · exact Or.inl (Or.inl (Or.inl (Or.inl hk)))
          · by_cases z : k = e
            · exact Or.inr z
            · by_cases z2 : k < e + 1 + len1
              · exact Or.inl (Or.inl (Or.inl (Or.inr (by omega))))
              · exact Or.inl (Or.inl (Or.inr (by omega)))
        · have := b8.2
          have := b8.1
          omega
      · exact bad g7 S3 r3 (j + 1) v8 (infA _ _ hap) z (x4 z)
  · rcases q5 with ⟨-, q5⟩ | ⟨-, T3, τ3, yl3, fv3, ⟨hb, a9, K9, a8, K8, -, d8, -⟩, -⟩
    · exact q5.k8
    · exact ⟨d8.1.1.k8, d8.1.1.n8⟩
end CwA
