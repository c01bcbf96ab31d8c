/-! the class goes through a let -/
section CwL
variable {h0 : AH} {a0 K0 : Nat → Nat} {L : List Nd} {kp : Nat → Option TE} {tc : Nat} {Q : AV → AH → Prop} {f e : Nat}
theorem cw_let {len1 len2 nl1 nl2 le1 le2 : Nat} (hL : L.length ≤ 120) (he : e < L.length) (h57 : TBL L 57 e = 5) (hfe : TBL L 59 e = ((e + 1 : Nat) : Int)) (hse : TBL L 60 e = ((e + 1 + len1 : Nat) : Int)) (k61 : TBL L 61 (e + 1) = (e : Int)) (k62 : TBL L 61 (e + 1 + len1) = (e : Int)) (hc : e + 1 < L.length) (hd : e + 1 + len1 < L.length) (hp1 : 0 < len1) (hp2 : 0 < len2) (lv1 : LvP L kp f (e + 1) len1)
    (h1 : CwP h0 a0 K0 L kp tc Q f (e + 1) len1 nl1 le1) (h2 : CwP h0 a0 K0 L kp tc Q f (e + 1 + len1) len2 nl2 le2) : CwP h0 a0 K0 L kp tc Q (f + 1) e (len1 + len2 + 1) (nl1 + nl2) (le1 + le2 + 1) := by
  intro S Dn Gn Sn N T τ sc st gz lz fv yl res i h a K v5 q hA hSl hP hsc hst hN hgz hlz hi ok bad
  have kf : fstN L e = e + 1 := by rw [fstN, hfe]; rfl
  have kf' : TBL L 59 e = (fstN L e : Int) := by rw [kf]; exact hfe
  have ks : sndN L e = e + 1 + len1 := by rw [sndN, hse]; rfl
  have ks' : TBL L 60 e = (sndN L e : Int) := by rw [ks]; exact hse
  have k4 : ¬ TBL L 57 e = 4 := by omega
  have ec1 : ∀ k, k ∈ envN L (e + 1) ↔ k ∈ envN L e := fun k => by
    rw [env_c4 hL hc k61]
    exact ⟨fun z => z.elim (fun z => absurd z.2 k4) id, Or.inr⟩
  have ec2 : ∀ k, k ∈ envN L (e + 1 + len1) ↔ k ∈ envN L e := fun k => by
    rw [env_c4 hL hd k62]
    exact ⟨fun z => z.elim (fun z => absurd z.2 k4) id, Or.inr⟩
  have hSe : ∀ b, Sn b ∨ b = e → fstN L b ≠ e := fun b hb => by
    rcases hb with hb | rfl
    · have := (hSl b hb).2; omega
    · omega
  have inf : ∀ (r : IR) (S' : IS), thR (infR L kp f (e + 1) S) (fun S1 r S' => if 201 ≤ sz (S1.2.1 (e + 1)) then r = (10, (e : Int), -1, -1) else thR (infR L kp f (e + 1 + len1) (isGn L S1 e)) (fun S2 r S' => r = (0, -1, -1, -1) ∧ S' = isF S2 e (S2.2.1 (e + 1 + len1)) S2.1) r S') r S' → infR L kp (f + 1) e S r S' := fun r S' z => by
    rw [infR, if_neg (by omega), if_neg k4, if_pos h57, kf, ks]
    exact z
  have hP1 : PreL L S (e + 1) len1 := pre_fst hL hP hc k61 ec1 (by omega) (by omega)
  refine gt_step q (by omega) (by omega) (Q1 := fun g => AtC h0 a0 K0 L kp tc S Dn Gn Sn N T τ sc ((fstN L e, 0, -1) :: (e, 1, -1) :: st) (gz + 1) lz fv yl res g a K) (go_k5 q (by omega) he ⟨by decide, by decide⟩ (by omega) h57 (fun g q1 => ?_)) (fun g q1 _ _ => ?_) (fun g q1 => q1.k8)
  · exact s_let0 q1 (by omega) he (by omega) kf'
  rw [kf] at q1
  refine h1 S Dn Gn Sn N T τ sc ((e, 1, -1) :: st) (gz + 1) lz fv yl res (i + 1) g a K v5 q1 (fun b hb => ?_) (fun b hb => by have := hSl b hb; omega) hP1 (by omega) (by rw [List.length_cons]; omega) (by omega) (by omega) (by omega) (by omega) (fun g2 S1 r1 N1 a1 K1 T1 τ1 lz1 fv1 yl1 i1 c1 v6 j1 j2 q2 f2 c2 m2 m3 m4 => ?_) (fun g2 S1 r1 i1 v6 j1 j2 q2 => bad g2 S1 r1 i1 v6 (inf _ _ ⟨r1, S1, j1, fun _ => rfl, fun z => absurd z j2⟩) j2 q2)
  · rw [anc_st hL hc k61] at hb
    rcases List.mem_cons.mp hb with rfl | hb
    · exact ⟨fun z => by omega, fun z => Or.inr (by omega)⟩
    · exact ⟨(hA b hb).1, fun z => ((hA b hb).2 z).imp id (fun w => by omega)⟩
  obtain ⟨σ1, hs1, hres1⟩ := lv1 S S1 r1 j1 j2 hP1
  have hs1 := hs1.cgE ec1
  refine gt_step q2 (by omega) (by omega) (Q1 := fun g3 => (201 ≤ sz (S1.2.1 (fstN L e)) ∧ FaC h0 a0 K0 L kp tc (10, (e : Int), -1, -1) g3) ∨ (¬ 201 ≤ sz (S1.2.1 (fstN L e)) ∧ ∃ a3 K3, AtC h0 a0 K0 L kp tc (isGn L S1 e) (fun k => Dn k ∨ (e + 1 ≤ k ∧ k < e + 1 + len1)) Gn (fun d => Sn d ∨ d = e) N1 T1 τ1 (sc + le1 + 1) ((sndN L e, 0, -1) :: (e, 2, -1) :: st) (gz + 1 + (len1 : Int)) (lz1 + 1) fv1 yl1 (c1 : Int) g3 a3 K3)) (go_k5 q2 (by omega) he ⟨by decide, by decide⟩ (by omega) h57 (fun g3 q3 => ?_)) (fun g3 q3 _ _ => ?_) (fun g3 q3 => ?_)
  · rw [if_neg (by decide), show gz + 1 + (len1 : Int) + 0 = gz + 1 + (len1 : Int) by omega] at q3
    exact s_let1 q3 (by omega) (by omega) he hL (by omega) ks' rfl c2.1 (by rw [kf]; exact c2.2.1) (by omega) (fun j hj => (hA j hj).1) (fun z => by have := hSl e z; omega)
  rotate_left
  · rcases q3 with ⟨-, q3⟩ | ⟨-, a3, K3, q3⟩
    · exact q3.k8
    · exact q3.k8
  rcases q3 with ⟨d, q3⟩ | ⟨d, a3, K3, q3⟩
  · rw [kf] at d
    exact bad g3 S1 _ (i1 + 1) v6 (inf _ _ ⟨r1, S1, j1, fun z => absurd j2 z, fun _ => by show ite _ _ _; rw [if_pos d]⟩) (by show (10 : Int) ≠ 0; decide) q3
  rw [kf] at d
  rw [ks] at q3
  obtain ⟨ht1, h5⟩ := let_pre hL (len := len1 + len2 + 1) he hc kf (by omega) hs1 ec1 hres1 hP.2.2.2 d
  have hP2 := pre_snd hL hP he hd k62 ec2 (len2 := len2) (by omega) (by omega) kf ht1 (fun _ => h5)
  have inf2 : ∀ (r : IR) (S' : IS), thR (infR L kp f (e + 1 + len1) (isGn L S1 e)) (fun S2 r S' => r = (0, -1, -1, -1) ∧ S' = isF S2 e (S2.2.1 (e + 1 + len1)) S2.1) r S' → infR L kp (f + 1) e S r S' := fun r S' z => inf _ _ ⟨r1, S1, j1, fun z => absurd j2 z, fun _ => by show ite _ _ _; rw [if_neg d]; exact z⟩
  refine h2 (isGn L S1 e) (fun k => Dn k ∨ (e + 1 ≤ k ∧ k < e + 1 + len1)) Gn (fun d => Sn d ∨ d = e) N1 T1 τ1 (sc + le1 + 1) ((e, 2, -1) :: st) (gz + 1 + (len1 : Int)) (lz1 + 1) fv1 yl1 (c1 : Int) (i1 + 1) g3 a3 K3 v6 q3 (fun b hb => ?_) (fun b hb => ?_) hP2 (by omega) (by rw [List.length_cons]; omega) (by omega) (by omega) (by omega) (by omega) (fun g4 S2 r2 N2 a2 K2 T2 τ2 lz2 fv2 yl2 i2 c3 v7 l1 l2 q4 f4 c4 m5 m6 m7 => ?_) (fun g4 S2 r2 i2 v7 l1 l2 q4 => bad g4 S2 r2 i2 v7 (inf2 _ _ ⟨r2, S2, l1, fun _ => rfl, fun z => absurd z l2⟩) l2 q4)
  · rw [anc_st hL hd k62] at hb
    rcases List.mem_cons.mp hb with rfl | hb
    · exact ⟨fun z => by omega, fun _ => Or.inl (Or.inr rfl)⟩
    · exact ⟨(hA b hb).1, fun z => ((hA b hb).2 z).imp Or.inl (fun w => by omega)⟩
  · rcases hb with hb | rfl
    · have := hSl b hb; omega
    · omega
  refine gt_step q4 (by omega) (by omega) (Q1 := fun h1 => GdQ h0 a0 K0 L kp tc S2 (fun k => (Dn k ∨ (e + 1 ≤ k ∧ k < e + 1 + len1)) ∨ (e + 1 + len1 ≤ k ∧ k < e + 1 + len1 + len2)) Gn (fun d => Sn d ∨ d = e) (sc + le1 + 1 + le2) st e (gz + 1 + (len1 : Int) + (len2 : Int)) lz2 fv2 yl2 N2 0 (fun r S' => r = (0, -1, -1, -1) ∧ S' = isF S2 e (S2.2.1 (sndN L e)) S2.1) h1) (go_k5 q4 (by omega) he ⟨by decide, by decide⟩ (by omega) h57 (fun g5 q5 => ?_)) (fun g5 q5 _ _ => ?_) (fun g5 q5 => q5.k8)
  · rw [if_neg (by decide), show gz + 1 + (len1 : Int) + (len2 : Int) + 0 = gz + 1 + (len1 : Int) + (len2 : Int) by omega] at q5
    exact s_let2 q5 (by omega) he hL hSe rfl c4.1 (by rw [ks]; exact c4.2.1)
  obtain ⟨r3, S3, N3, u1, u2, u3, -⟩ := q5
  rw [ks] at u1
  have z3 : r3.1 = 0 := by rw [u1.1]
  obtain ⟨w1, a5, K5, T5, τ5, c5, w2, w3, w4, w5, w6, w7, w8⟩ := u3 z3
  refine ok g5 S3 r3 N3 a5 K5 T5 τ5 lz2 (g5.vl 23) (YL g5 a5 N3) (i2 + 1) c5 v7 (inf2 _ _ ⟨r2, S2, l1, fun z => absurd l2 z, fun _ => u1⟩) z3 ⟨w2, ?_, w4, w5, ⟨by rw [w7.1]; omega, w7.2⟩, rfl, rfl, w6.2.1.1⟩ (fun k hk => by rw [w1 k (by omega), f4 k (by omega), f2 k (by omega)]) ⟨w6.1, w6.2.2, w6.2.1.2⟩ ⟨by omega, by omega⟩ ⟨by omega, ?_⟩ ⟨m7.1, by omega⟩
  · rw [show sc + (le1 + le2 + 1) = sc + le1 + 1 + le2 by omega]
    refine w3.wk (fun k hk => ?_) (fun _ z => z) (fun _ z => Or.inl z)
    rcases hk with hk | hk
    · exact Or.inl (Or.inl (Or.inl hk))
    · by_cases z : k = e
      · exact Or.inr z
      · by_cases z2 : k < e + 1 + len1
        · exact Or.inl (Or.inl (Or.inr (by omega)))
        · exact Or.inl (Or.inr (by omega))
  · have := w8.2
    omega
end CwL
