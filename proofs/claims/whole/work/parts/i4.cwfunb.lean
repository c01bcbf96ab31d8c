/-! the class goes through a function: both stages and what is between them -/
section CwF
variable {h0 : AH} {a0 K0 : Nat → Nat} {L : List Nd} {kp : Nat → Option TE} {tc : Nat} {Q : AV → AH → Prop} {f e nl le : Nat}
theorem NxQ.k8 {S : IS} {Dn Gn Sn : Nat → Prop} {sc b yl N : Nat} {st : List (Nat × Int × Int)} {gz lz res : Int} {fv : Nat → Int} {T : Nat → TE} {h1 : AH} (q : NxQ h0 a0 K0 L kp tc S Dn Gn Sn sc st gz lz fv yl res N b T h1) : h1.kd 8 = (1, 14) ∧ 8 < h1.n := by
  obtain ⟨a, K, N1, T1, τ1, yl1, q1, -⟩ := q
  exact ⟨q1.1.g.1.k8, q1.1.g.1.n8⟩
theorem cw_fun {len1 : Nat} (hL : L.length ≤ 120) (he : e < L.length) (h57 : TBL L 57 e = 4) (hfe : TBL L 59 e = ((e + 1 : Nat) : Int)) (k61 : TBL L 61 (e + 1) = (e : Int)) (hc : e + 1 < L.length) (h1 : CwP h0 a0 K0 L kp tc Q f (e + 1) len1 nl le) : CwP h0 a0 K0 L kp tc Q (f + 1) e (len1 + 1) nl le := by
  intro S Dn Gn Sn N T τ sc st gz lz fv yl res i h a K v5 q hA hSl hP hsc hst hN hgz hlz hi ok bad
  have kf : fstN L e = e + 1 := by rw [fstN, hfe]; rfl
  have kf' : TBL L 59 e = (fstN L e : Int) := by rw [kf]; exact hfe
  have lte : ∀ b, b ∈ ancN L e → b < e := fun b hb => anc_lt' he hb
  have hSe : ∀ b, Sn b → e ∉ envN L b := fun b hb hm => by
    have := (hSl b hb).1
    have := anc_lt' (by omega) (env_mem.mp hm).1
    omega
  refine gt_step q (by omega) (by omega) (Q1 := NxQ h0 a0 K0 L kp tc (S.1 + 1, S.2.1, upT S.2.2.1 e (.var S.1), S.2.2.2) Dn (fun k => Gn k ∨ k = e) Sn sc ((fstN L e, 0, -1) :: (e, 1, -1) :: st) (gz + 1) lz fv yl res N 1 T) (go_k4 q (by omega) he ⟨by decide, by decide⟩ (by omega) h57 (fun g q1 => ?_)) (fun g q1 _ _ => ?_) (fun g q1 => q1.k8)
  · exact s_fun0 q1 (by omega) (by omega) he hL (by omega) hSe hP.2.2.2 kf'
  obtain ⟨a1, K1, N1, T1, τ1, yl1, q1, ⟨n1, n2, n3⟩, t1⟩ := q1
  rw [kf] at q1
  refine h1 _ Dn (fun k => Gn k ∨ k = e) Sn N1 T1 τ1 sc ((e, 1, -1) :: st) (gz + 1) lz fv yl1 res (i + 1) g a1 K1 v5 q1 (fun b hb => ?_) (fun b hb => by have := hSl b hb; omega) (pre_fun hL hP he hc h57 k61 (Nat.le_refl _)) (by omega) (by rw [List.length_cons]; omega) (by omega) (by omega) (by omega) (by omega) (fun g2 S1 r N2 a2 K2 T2 τ2 lz2 fv2 yl2 i2 c v6 j1 j2 q2 f2 c2 m2 m3 m4 => ?_) (fun g2 S1 r i2 v6 j1 j2 q2 => ?_)
  · rw [anc_st hL hc k61] at hb
    rcases List.mem_cons.mp hb with rfl | hb
    · exact ⟨fun _ => Or.inr rfl, fun z => by omega⟩
    · exact ⟨fun z => Or.inl ((hA b hb).1 z), fun z => ((hA b hb).2 z).imp id (fun w => by omega)⟩
  · have eR : ∀ (r : IR) (S' : IS), (r = (0, -1, -1, -1) ∧ S' = isF S1 e (.op (S1.2.2.1 e) (S1.2.1 (fstN L e))) S1.1) → infR L kp (f + 1) e S r S' := fun r' S' z => by
      rw [infR, if_neg (by omega), if_pos h57, kf]
      rw [kf] at z
      exact ⟨r, S1, j1, fun z => absurd j2 z, fun _ => z⟩
    refine gt_step q2 (by omega) (by omega) (Q1 := fun h1 => GdQ h0 a0 K0 L kp tc S1 (fun k => Dn k ∨ (e + 1 ≤ k ∧ k < e + 1 + len1)) (fun k => Gn k ∨ k = e) Sn (sc + le) st e (gz + 1 + (len1 : Int)) lz2 fv2 yl2 N2 1 (fun r S' => r = (0, -1, -1, -1) ∧ S' = isF S1 e (.op (S1.2.2.1 e) (S1.2.1 (fstN L e))) S1.1) h1) (go_k4 q2 (by omega) he ⟨by decide, by decide⟩ (by omega) h57 (fun g3 q3 => ?_)) (fun g3 q3 _ _ => ?_) (fun g3 q3 => q3.k8)
    · rw [if_neg (by decide), show gz + 1 + (len1 : Int) + 0 = gz + 1 + (len1 : Int) by omega] at q3
      exact s_fun1 (c0 := 0) q3 (by omega) (by omega) he hL (fun b hb => by have := (hSl b hb).2; omega) (Or.inr rfl) rfl c2.1 (by rw [kf]; exact c2.2.1) (by decide)
    obtain ⟨r3, S3, N3, u1, u2, u3, -⟩ := q3
    have z3 : r3.1 = 0 := by rw [u1.1]
    obtain ⟨w1, a3, K3, T3, τ3, c3, w2, w3, w4, w5, w6, w7, w8⟩ := u3 z3
    refine ok g3 S3 r3 N3 a3 K3 T3 τ3 lz2 (g3.vl 23) (YL g3 a3 N3) (i2 + 1) c3 v6 (eR _ _ u1) z3 ⟨w2, w3.wk (fun k hk => ?_) (fun k hk => Or.inl hk) (fun _ z => z), w4, w5, ⟨by rw [w7.1]; omega, w7.2⟩, rfl, rfl, w6.2.1.1⟩ (fun k hk => by rw [w1 k (by omega), f2 k (by omega)]) ⟨w6.1, w6.2.2, w6.2.1.2⟩ ⟨by omega, by omega⟩ ⟨by omega, ?_⟩ ⟨m4.1, by omega⟩
    · rcases hk with hk | hk
      · exact Or.inl (Or.inl hk)
      · by_cases z : k = e
        · exact Or.inr z
        · exact Or.inl (Or.inr (by omega))
    · have := w8.2
      omega
  · refine bad g2 S1 r i2 v6 ?_ j2 q2
    rw [infR, if_neg (by omega), if_pos h57, kf]
    exact ⟨r, S1, j1, fun _ => rfl, fun z => absurd z j2⟩
end CwF
