/-! the class goes on with a leaf -/
section GLg
variable {h0 : AH} {a0 K0 : Nat → Nat} {L : List Nd} {kp : Nat → Option TE} {tc : Nat} {h : AH} {a K : Nat → Nat} {S : IS} {Dn Gn Sn : Nat → Prop} {N sc e : Nat} {T : Nat → TE} {τ : Nat → Nat} {st : List (Nat × Int × Int)} {gz lz : Int}
set_option maxRecDepth 100000 in
theorem go_leaf (f : FrW h0 a0 K0 L kp tc h a K) (hs : CSt L S Dn Gn Sn h a K N T τ sc) (hsc : sc ≤ 12) (hN : N ≤ 40000) (p : PtH h ((e, 0, -1) :: st)) (he : e < L.length) (hL : L.length ≤ 120) (hSe : ∀ b, Sn b → fstN L b ≠ e) (hf : FlC h (0, -1, -1, -1)) (h9 : h.vl 8 9 = gz) (hgz : 0 ≤ gz ∧ gz ≤ 1000) (h5 : h.vl 9 5 = lz) (h57 : 0 ≤ TBL L 57 e ∧ TBL L 57 e < 4) (h58 : TBL L 57 e = 1 → 65 ≤ TBL L 58 e ∧ TBL L 58 e ≤ 72) (hS2 : 2 ≤ S.1) (hbl : bd (TBL L) e < (L.length : Int)) (hb4 : 0 ≤ bd (TBL L) e → TBL L 57 (bd (TBL L) e).toNat = 4 → Gn (bd (TBL L) e).toNat) (hb5 : 0 ≤ bd (TBL L) e → TBL L 57 (bd (TBL L) e).toNat ≠ 4 → Sn (bd (TBL L) e).toNat ∧ ∀ y, 2 ≤ y → evV S (envN L (bd (TBL L) e).toNat) y → S.2.2.2 y = false) :
    CV mX0_goOn 8 [rv 8, rv (tc : Int), rv 31, iv (e : Int)] h (on fun h1 => GdQ h0 a0 K0 L kp tc S Dn Gn Sn sc st e (gz + 1) lz (h.vl 23) (YL h a N) N 210 (lfR L kp e S) h1) := by
  have g := f.g
  refine cv_of cdX0_goOn ?_
  show EV _ _ 0 [rv 8, rv (tc : Int), rv 31, iv (e : Int), uv, uv] [] h _
  refine goOn_pre g f.2.2.2.1.l he p ⟨by decide, by decide⟩ h9 hgz (fun h1 c => ?_) (fun h1 c p1 r9 v8 v23 => ?_)
  · exact (f.2.2.2.1.xt c (fun y z => by
      have z : y = 8 ∨ (19 ≤ y ∧ y ≤ 23) := z
      exact z.imp id (fun w => Or.inl (by omega)))).l
  rw [if_pos rfl] at r9
  obtain ⟨hs1, f1⟩ := hs.fr f hsc c v23 (v8 6 (by decide)) (v8 7 (by decide))
  have g1 := f1.g
  have hf1 := hf.xt (fun j _ j9 => v8 j j9)
  have h51 : h1.vl 9 5 = lz := (c.fl 5).trans h5
  have yl : YL h1 a N = YL h a N := YL.x c N
  have v0 := g1.1.v8_0
  have hR : ∀ (r : IR) (S' : IS), TBL L 57 e ≠ 0 → TBL L 57 e ≠ 1 → (r = (0, -1, -1, -1) ∧ S' = (if TBL L 57 e = 2 then isF S e (.var 0) S.1 else isF S e (sgT (TBL L 58 e) S.1) (S.1 + 1))) → lfR L kp e S r S' := fun r S' z0 z1 z => by
    unfold lfR
    rw [if_neg z0, if_neg z1]
    exact z
  rw [← yl, ← v23]
  rcases (show TBL L 57 e = 0 ∨ TBL L 57 e = 1 ∨ TBL L 57 e = 2 ∨ TBL L 57 e = 3 by omega) with k | k | k | k
  · skip
    rw [k]
    refine ev_tsI 80 (37) dX0_goOn_43 (by omega) (by omega) rfl ?_
    refine ev_aload_n dX0_goOn_80 rfl ?_
    refine ev_aload_n dX0_goOn_81 rfl ?_
    refine ev_iload_n dX0_goOn_82 rfl ?_
    refine ev_iload dX0_goOn_83 rfl ?_
    refine ev_cvv dX0_goOn_85 lX0_140 (s_goName (lz := lz) (gz := gz + 1) f1 hs1 hsc hN p1 he hL hSe hf1 r9 h51 k hbl hb4 hb5) (by decide) g1.1.k8 g1.1.n8 rfl rfl rfl (Nat.le_of_ble_eq_true rfl) rfl (fun h2 q => ?_)
    refine ev_gt 164 dX0_goOn_88 ?_
    exact ev_vret dX0_goOn_164 (⟨rfl, q⟩)
  · skip
    obtain ⟨ci, hci⟩ : ∃ ci : Nat, TBL L 58 e - 65 = (ci : Int) := ⟨(TBL L 58 e - 65).toNat, by have := h58 k; omega⟩
    have c8 : ci < 8 := by have := h58 k; omega
    have h58' := h58 k
    rw [k]
    refine ev_tsI 91 (48) dX0_goOn_43 (by omega) (by omega) rfl ?_
    refine ev_aload_n dX0_goOn_91 rfl ?_
    refine ev_iload_n dX0_goOn_92 rfl ?_
    refine ev_aload_n dX0_goOn_93 rfl ?_
    refine ev_iload dX0_goOn_94 rfl ?_
    refine ev_bipush dX0_goOn_96 ?_
    refine ev_isub dX0_goOn_98 (by unfold ir; omega) ?_
    rw [hci]
    refine ev_cvr dX0_goOn_99 lX0_144 (s_keptAtC g1.1.st31) (by decide) g1.1.k31 g1.1.n31 rfl rfl rfl (Nat.le_of_ble_eq_true rfl) rfl (fun r z q => ?_)
    obtain ⟨q1, q2⟩ := q
    rw [q1, q2, show kpAt h1 33 (ci : Int) = h1.vl 33 ci from by unfold kpAt; rw [if_pos (by omega)]; rfl]
    refine ev_cvv dX0_goOn_102 lX0_150 (s_goKept (lz := lz) (gz := gz + 1) f1 hs1 hsc hN p1 (by omega) hSe hf1 r9 h51 k hci c8 hS2) (by decide) g1.1.k8 g1.1.n8 rfl rfl rfl (Nat.le_of_ble_eq_true rfl) rfl (fun h2 q => ?_)
    refine ev_gt 164 dX0_goOn_105 ?_
    exact ev_vret dX0_goOn_164 (⟨rfl, q⟩)
  · skip
    have t0 : T 0 = .var 0 := hs1.1.2.2.2.2.2.1
    have n0 := hs1.1.2.2.2.2.1
    rw [k]
    refine ev_tsI 108 (65) dX0_goOn_43 (by omega) (by omega) rfl ?_
    refine ev_aload_n dX0_goOn_108 rfl ?_
    refine ev_iload_n dX0_goOn_109 rfl ?_
    refine ev_iconst dX0_goOn_110 ?_
    refine ev_cvv dX0_goOn_111 lX0_154 (s_endQ (c := 0) (S := S) (nv' := S.1) (lz := lz) (gz := gz + 1) (h' := h1) (a' := a) (N' := N) (b := 210) (R := lfR L kp e S) f1 hs1 hsc p1 (by omega) (by omega) t0 hSe hf1 r9 h51 rfl ⟨Nat.le_refl _, Nat.le_refl _⟩ (by omega) (hR _ _ (by omega) (by omega) ⟨rfl, by rw [if_pos k]⟩)) (by decide) g1.1.k8 g1.1.n8 rfl rfl rfl (Nat.le_of_ble_eq_true rfl) rfl (fun h2 q => ?_)
    refine ev_gt 164 dX0_goOn_114 ?_
    exact ev_vret dX0_goOn_164 (⟨rfl, q⟩)
  rw [k]
  refine ev_tsI 117 (74) dX0_goOn_43 (by omega) (by omega) rfl ?_
  refine ev_aload_n dX0_goOn_117 rfl ?_
  refine ev_iload_n dX0_goOn_118 rfl ?_
  refine ev_aload_n dX0_goOn_119 rfl ?_
  refine ev_getrv dX0_goOn_120 fX0_12 g1.1.k8 g1.1.n8 rfl v0 ?_
  refine ev_iload dX0_goOn_123 rfl ?_
  refine ev_cvi dX0_goOn_125 lX0_157 (s_ofSign hs1.1 (by omega) hS2) (by decide) g1.1.k9 g1.1.n9 rfl rfl rfl (Nat.le_of_ble_eq_true rfl) rfl (fun q h2 q9 => ?_)
  obtain ⟨M, c3, T1, τ1, rfl, u, hc, hM, hX⟩ := q9
  obtain ⟨a1, K1, cs1, f2, n1, t1, x1⟩ := hs1.gr f1 hsc (Nat.le_succ _) u
  have g2 := f2.g
  have w8 : h2.vl 8 = h1.vl 8 := x1.v (g1.no (Or.inl (by decide))) (fun z => z)
  have p2 := p1.x g1 x1 ⟨fun z => z, fun z => z, fun z => z, fun z => z⟩
  refine ev_cvv dX0_goOn_128 lX0_154 (s_endQ (lz := lz) (gz := gz + 1) (h' := h1) (a' := a) (N' := N) (b := 210) (R := lfR L kp e S) f2 cs1 hsc p2 (by omega) hc hX hSe (hf1.xt (fun j _ _ => by rw [w8])) (by rw [w8]; exact r9) ((x1.fl 5).trans h51) (x1.v (g1.no (Or.inr (by decide))) (fun z => z)) n1 (by omega) (hR _ _ (by omega) (by omega) ⟨rfl, by rw [if_neg (by omega)]⟩)) (by decide) g2.1.k8 g2.1.n8 rfl rfl rfl (Nat.le_of_ble_eq_true rfl) rfl (fun h3 q => ?_)
  refine ev_gt 164 dX0_goOn_131 ?_
  exact ev_vret dX0_goOn_164 (⟨rfl, q⟩)
end GLg
