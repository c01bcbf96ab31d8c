/-! the class goes through a part: what that says; a leaf -/
/-- from 'at a part' to 'behind it' -/
def CwP (h0 : AH) (a0 K0 : Nat → Nat) (L : List Nd) (kp : Nat → Option TE) (tc : Nat) (Q : AV → AH → Prop) (f e len nl le : Nat) : Prop :=
  ∀ (S : IS) (Dn Gn Sn : Nat → Prop) (N : Nat) (T : Nat → TE) (τ : Nat → Nat) (sc : Nat) (st : List (Nat × Int × Int)) (gz lz : Int) (fv : Nat → Int) (yl : Nat) (res i : Int) (h : AH) (a K : Nat → Nat) (v5 : AV), AtC h0 a0 K0 L kp tc S Dn Gn Sn N T τ sc ((e, 0, -1) :: st) gz lz fv yl res h a K →
    (∀ b ∈ ancN L e, (TBL L 57 b = 4 → Gn b) ∧ (TBL L 57 b = 5 → Sn b ∨ e + len ≤ sndN L b)) → (∀ b, Sn b → b < e ∧ fstN L b < e) → PreL L S e len → sc + le ≤ 11 → st.length + len ≤ 119 → N + 210 * nl + 3 * len ≤ 40000 → (0 ≤ gz ∧ gz + (len : Int) ≤ 300) → (0 ≤ lz ∧ lz ≤ i) → i + 4 * (yl : Int) + 4 * ((210 * nl + 3 * len : Nat) : Int) + 8 * (len : Int) ≤ 900000 →
    (∀ (h1 : AH) (S' : IS) (r : IR) (N1 : Nat) (a1 K1 : Nat → Nat) (T1 : Nat → TE) (τ1 : Nat → Nat) (lz1 : Int) (fv1 : Nat → Int) (yl1 : Nat) (i1 : Int) (c : Nat) (v5 : AV), infR L kp f e S r S' → r.1 = 0 → AtC h0 a0 K0 L kp tc S' (fun k => Dn k ∨ (e ≤ k ∧ k < e + len)) Gn Sn N1 T1 τ1 (sc + le) st (gz + (len : Int)) lz1 fv1 yl1 (c : Int) h1 a1 K1 → (∀ k, (k < e ∨ e + len ≤ k) → fv1 k = fv k) → (c < N1 ∧ T1 c = S'.2.1 e ∧ fv1 e = (c : Int)) → (N ≤ N1 ∧ N1 ≤ N + (210 * nl + 3 * len)) → (i ≤ i1 ∧ i1 + 4 * (yl1 : Int) ≤ i + 4 * (yl : Int) + 4 * ((N1 : Int) - (N : Int)) + 8 * (len : Int)) → (0 ≤ lz1 ∧ lz1 ≤ i1) → EV mX0_goThrough 9 8 [rv 8, rv (tc : Int), rv 31, iv 0, iv i1, v5] [] h1 Q) →
    (∀ (h1 : AH) (S' : IS) (r : IR) (i1 : Int) (v5 : AV), infR L kp f e S r S' → r.1 ≠ 0 → FaC h0 a0 K0 L kp tc r h1 → EV mX0_goThrough 9 8 [rv 8, rv (tc : Int), rv 31, iv 0, iv i1, v5] [] h1 Q) →
    EV mX0_goThrough 9 8 [rv 8, rv (tc : Int), rv 31, iv 0, iv i, v5] [] h Q
section CwS
variable {h0 : AH} {a0 K0 : Nat → Nat} {L : List Nd} {kp : Nat → Option TE} {tc : Nat} {Q : AV → AH → Prop} {f e len nl le : Nat}
theorem FaC.k8 {r : IR} {h1 : AH} (q : FaC h0 a0 K0 L kp tc r h1) : h1.kd 8 = (1, 14) ∧ 8 < h1.n := by
  obtain ⟨-, a, K, f, -⟩ := q
  exact ⟨f.g.1.k8, f.g.1.n8⟩
theorem GdQ.k8 {S : IS} {Dn Gn Sn : Nat → Prop} {sc b yl N : Nat} {st : List (Nat × Int × Int)} {gz lz : Int} {fv : Nat → Int} {R : IR → IS → Prop} {h1 : AH} (q : GdQ h0 a0 K0 L kp tc S Dn Gn Sn sc st e gz lz fv yl N b R h1) : h1.kd 8 = (1, 14) ∧ 8 < h1.n := by
  obtain ⟨r, S', N1, -, -, q1, q2⟩ := q
  by_cases z : r.1 = 0
  · obtain ⟨-, a1, K1, T1, τ1, c, f, -⟩ := q1 z
    exact ⟨f.g.1.k8, f.g.1.n8⟩
  · exact (q2 z).k8
theorem cw_leaf (hL : L.length ≤ 120) (he : e < L.length) (h57 : 0 ≤ TBL L 57 e ∧ TBL L 57 e < 4) (h58 : TBL L 57 e = 1 → 65 ≤ TBL L 58 e ∧ TBL L 58 e ≤ 72) : CwP h0 a0 K0 L kp tc Q (f + 1) e 1 1 0 := by
  intro S Dn Gn Sn N T τ sc st gz lz fv yl res i h a K v5 q hA hSl hP hsc hst hN hgz hlz hi ok bad
  have g := (TBL_gd (L := L) e he).1
  have ba := fun hb => bd_anc (L := L) (nd := e) 130 (e : Int) (TBL L 61 e) (Int.le_refl _) (by omega) (by omega) hb
  have hbl : bd (TBL L) e < (L.length : Int) := by
    by_cases hb : 0 ≤ bd (TBL L) e
    · have := anc_lt' he (ba hb).1
      have e2 : (bd (TBL L) e).toNat < e := this
      omega
    · omega
  obtain ⟨fw, hs, hp, hf, ⟨h9, h5⟩, hv, hy, hr⟩ := id q
  refine gt_step q (by omega) (by omega) (Q1 := fun h1 => GdQ h0 a0 K0 L kp tc S Dn Gn Sn sc st e (gz + 1) lz (h.vl 23) (YL h a N) N 210 (lfR L kp e S) h1) (go_leaf fw hs (by omega) (by omega) hp he hL (fun b hb => by have := (hSl b hb).2; omega) hf h9 (by omega) h5 h57 h58 hP.2.2.2 hbl (fun hb h4 => (hA _ (ba hb).1).1 h4) (fun hb h4 => ?_)) (fun h1 q1 _ _ => ?_) (fun h1 q1 => q1.k8)
  · obtain ⟨a1, a2⟩ := ba hb
    rcases a2 with a2 | ⟨a2, a3⟩
    · exact absurd a2 h4
    · refine ⟨?_, fun y y2 ⟨k, k1, k2⟩ => (hP.1 k (env_sub hL he a1 k1) y y2 k2).1⟩
      rcases (hA _ a1).2 a2 with s3 | s3
      · exact s3
      · exfalso
        have a3 : TBL L 60 (bd (TBL L) e).toNat ≤ (e : Int) := a3
        unfold sndN at s3
        omega
  · obtain ⟨r, S', N1, q2, q3, q4, q5⟩ := q1
    have hi' : infR L kp (f + 1) e S r S' := by rw [infR, if_pos h57.2]; exact q2
    by_cases z : r.1 = 0
    · obtain ⟨u1, a1, K1, T1, τ1, c, u2, u3, u4, u5, u6, u7, u8⟩ := q4 z
      refine ok h1 S' r N1 a1 K1 T1 τ1 lz (h1.vl 23) (YL h1 a1 N1) (i + 1) c v5 hi' z ⟨u2, u3.wk (fun k hk => hk.imp id (fun w => by omega)) (fun _ w => w) (fun _ w => w), u4, u5, u7, rfl, rfl, u6.2.1.1⟩ (fun k hk => by rw [u1 k (by omega), hv]) ⟨u6.1, u6.2.2, u6.2.1.2⟩ ⟨u8.1, by omega⟩ ⟨by omega, ?_⟩ ⟨hlz.1, by omega⟩
      have := u8.2
      rw [hy] at this
      omega
    · exact bad h1 S' r (i + 1) v5 hi' z (q5 z)
end CwS
