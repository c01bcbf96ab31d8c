/-! the class has gone through a term: the sizes of its types -/
section GtZ
variable {h0 : AH} {a0 K0 : Nat → Nat} {L : List Nd} {kp : Nat → Option TE} {tc : Nat} {S : IS} {Dn Gn Sn : Nat → Prop} {N sc yl : Nat} {T : Nat → TE} {τ : Nat → Nat} {gz lz res : Int} {fv : Nat → Int} {v5 : AV}
set_option maxRecDepth 100000 in
theorem gt_out {r : IR} {h : AH} {k : Nat} (q : FaC h0 a0 K0 L kp tc r h) (hr : r.1 ≠ 0) (hk : k ≤ L.length) : EV mX0_goThrough 9 77 [rv 8, rv (tc : Int), rv 31, iv 0, iv (k : Int), v5] [] h (oi fun x h1 => x = 0 ∧ h1 = h) := by
  obtain ⟨hf, a, K, f, hK, st, hp⟩ := q
  have g := f.g
  have hT := f.2.2.2.1.l
  have f10 := hf.1
  have tc1 := hT.t.o.2
  have out : EV mX0_goThrough 9 136 [rv 8, rv (tc : Int), rv 31, iv 0, iv (k : Int), v5] [] h (oi fun x h1 => x = 0 ∧ h1 = h) := by
    refine ev_aload_n dX0_goThrough_136 rfl ?_
    refine ev_getiv dX0_goThrough_137 fX0_74 g.1.k8 g.1.n8 rfl f10 ?_
    refine ev_ifne 157 dX0_goThrough_140 (fun hb => ?_) (fun h_no => (by exfalso; omega))
    refine ev_iconst dX0_goThrough_157 ?_
    exact ev_zret dX0_goThrough_158 (⟨_, rfl, rfl, rfl⟩) (by omega)
  refine ev_iload dX0_goThrough_77 rfl ?_
  refine ev_aload_n dX0_goThrough_79 rfl ?_
  refine ev_getiv dX0_goThrough_80 fX0_69 hT.t.o.1.1 hT.t.o.1.2 rfl tc1 ?_
  by_cases d : (L.length : Int) ≤ (k : Int)
  · skip
    refine ev_icmpge 136 dX0_goThrough_83 (fun hb => ?_) (fun h_no => (by exfalso; omega))
    exact out
  refine ev_icmpge 136 dX0_goThrough_83 (fun h_no => (by exfalso; omega)) (fun hb => ?_)
  refine ev_aload_n dX0_goThrough_86 rfl ?_
  refine ev_getiv dX0_goThrough_87 fX0_74 g.1.k8 g.1.n8 rfl f10 ?_
  refine ev_ifne 136 dX0_goThrough_90 (fun hb2 => ?_) (fun h_no => (by exfalso; omega))
  exact out
set_option maxRecDepth 100000 in
theorem gt_sizes (hsc : sc ≤ 12) (hN : N ≤ 40000) (hL : L.length ≤ 120) (hgz : gz ≤ 300) (hDn : ∀ k, k < L.length → Dn k) : ∀ (m k : Nat) (h : AH) (a K : Nat → Nat), k + m = L.length → AtC h0 a0 K0 L kp tc S Dn Gn Sn N T τ sc [] gz lz fv yl res h a K →
    EV mX0_goThrough 9 77 [rv 8, rv (tc : Int), rv 31, iv 0, iv (k : Int), v5] [] h (oi fun r h1 => (mxS S m k < 0 ∧ r = 1 ∧ ∃ a1 K1, AtC h0 a0 K0 L kp tc S Dn Gn Sn N T τ sc [] gz lz fv yl res h1 a1 K1) ∨ (0 ≤ mxS S m k ∧ r = 0 ∧ FaC h0 a0 K0 L kp tc (10, mxS S m k, -1, -1) h1)) := by
  intro m
  induction m with
  | zero =>
    intro k h a K hk q
    obtain ⟨f, hs, hp, hf, ⟨h9, h5⟩, hv, hy, hr⟩ := id q
    have g := f.g
    have hT := f.2.2.2.1.l
    have f10 := hf.1
    have tc1 := hT.t.o.2
    refine ev_iload dX0_goThrough_77 rfl ?_
    refine ev_aload_n dX0_goThrough_79 rfl ?_
    refine ev_getiv dX0_goThrough_80 fX0_69 hT.t.o.1.1 hT.t.o.1.2 rfl tc1 ?_
    refine ev_icmpge 136 dX0_goThrough_83 (fun hb => ?_) (fun h_no => (by exfalso; omega))
    refine ev_aload_n dX0_goThrough_136 rfl ?_
    refine ev_getiv dX0_goThrough_137 fX0_74 g.1.k8 g.1.n8 rfl f10 ?_
    refine ev_ifne 157 dX0_goThrough_140 (fun h_no => (by exfalso; omega)) (fun hb2 => ?_)
    refine ev_aload_n dX0_goThrough_143 rfl ?_
    refine ev_getiv dX0_goThrough_144 fX0_93 g.1.k8 g.1.n8 rfl h9 ?_
    refine ev_sipush dX0_goThrough_147 ?_
    refine ev_icmpgt 157 dX0_goThrough_150 (fun h_no => (by exfalso; omega)) (fun hb3 => ?_)
    refine ev_iconst dX0_goThrough_153 ?_
    refine ev_gt 158 dX0_goThrough_154 ?_
    exact ev_zret dX0_goThrough_158 (⟨_, rfl, Or.inl ⟨by rw [mxS]; decide, rfl, a, K, q⟩⟩) (by omega)
  | succ m ih =>
    intro k h a K hk q
    obtain ⟨f, hs, hp, hf, ⟨h9, h5⟩, hv, hy, hr⟩ := id q
    have g := f.g
    have hT := f.2.2.2.1.l
    have f10 := hf.1
    have f7 := f.2.2.2.2.2
    have tc1 := hT.t.o.2
    have v0 := g.1.v8_0
    have v2 := g.1.v8_2
    obtain ⟨k9, c, c1, c2, c3⟩ := hs.2.2.1 k (hDn k (by omega))
    refine ev_iload dX0_goThrough_77 rfl ?_
    refine ev_aload_n dX0_goThrough_79 rfl ?_
    refine ev_getiv dX0_goThrough_80 fX0_69 hT.t.o.1.1 hT.t.o.1.2 rfl tc1 ?_
    refine ev_icmpge 136 dX0_goThrough_83 (fun h_no => (by exfalso; omega)) (fun hb => ?_)
    refine ev_aload_n dX0_goThrough_86 rfl ?_
    refine ev_getiv dX0_goThrough_87 fX0_74 g.1.k8 g.1.n8 rfl f10 ?_
    refine ev_ifne 136 dX0_goThrough_90 (fun h_no => (by exfalso; omega)) (fun hb2 => ?_)
    refine ev_aload_n dX0_goThrough_93 rfl ?_
    refine ev_getiv dX0_goThrough_94 fX0_77 g.1.k8 g.1.n8 rfl f7 ?_
    refine ev_ifne 136 dX0_goThrough_97 (fun h_no => (by exfalso; omega)) (fun hb3 => ?_)
    refine ev_aload_n dX0_goThrough_100 rfl ?_
    refine ev_getrv dX0_goThrough_101 fX0_12 g.1.k8 g.1.n8 rfl v0 ?_
    refine ev_aload_n dX0_goThrough_104 rfl ?_
    refine ev_getrv dX0_goThrough_105 fX0_25 g.1.k8 g.1.n8 rfl v2 ?_
    refine ev_iload dX0_goThrough_108 rfl ?_
    refine ev_csi dX0_goThrough_110 lX0_81 (s_atI g.1.k23 g.1.n23 (by decide)) (by decide) rfl rfl (Nat.le_of_ble_eq_true rfl) rfl (fun r z q9 => ?_)
    obtain ⟨r1, eq⟩ := q9
    rw [r1, eq, if_pos (by omega), show ((k : Nat) : Int).toNat = k from rfl, c2]
    refine ev_cvi dX0_goThrough_113 lX0_85 (s_sizeA q hsc (by omega) c1) (by decide) g.1.k9 g.1.n9 rfl rfl rfl (Nat.le_of_ble_eq_true rfl) rfl (fun r h1 q9 => ?_)
    obtain ⟨r1, a1, K1, q1⟩ := q9
    rw [r1, c3]
    obtain ⟨f1, hs1, hp1, hf1, -⟩ := id q1
    have g1 := f1.g
    have sz1 : szc (S.2.1 k) = if sz (S.2.1 k) ≤ 201 then (sz (S.2.1 k) : Int) else 201 := rfl
    refine ev_sipush dX0_goThrough_116 ?_
    by_cases d : 201 ≤ sz (S.2.1 k)
    · skip
      refine ev_icmple 130 dX0_goThrough_119 (fun h_no => (by exfalso; rw [sz1] at h_no; split at h_no <;> omega)) (fun hb4 => ?_)
      refine ev_aload_n dX0_goThrough_122 rfl ?_
      refine ev_bipush dX0_goThrough_123 ?_
      refine ev_iload dX0_goThrough_125 rfl ?_
      refine ev_cvv dX0_goThrough_127 lX0_89 (s_failF g1) (by decide) g1.1.k8 g1.1.n8 rfl rfl rfl (Nat.le_of_ble_eq_true rfl) rfl (fun h3 q3 => ?_)
      obtain ⟨c3', r1, r2, r3⟩ := q3
      obtain ⟨i1, i2, i3, i4⟩ := hf1
      have fa : FaC h0 a0 K0 L kp tc (10, (k : Int), -1, -1) h3 := ⟨⟨r1, r2, (r3 12 (by decide) (by decide)).trans i3, (r3 13 (by decide) (by decide)).trans i4⟩, a1, K1, f1.st c3' (r3 7 (by decide) (by decide)) (by decide) (fun s hs z => by have z : s = 8 := z; omega) (fun y z => Or.inl z), hs1.ke, _, hp1.x g1 c3' (by decide)⟩
      have k8 := fa.k8
      refine ev_iin4 dX0_goThrough_130 (by unfold ir; omega) ?_
      refine ev_gt 77 dX0_goThrough_133 ?_
      rw [show (k : Int) + 1 = ((k + 1 : Nat) : Int) by omega]
      refine ev_mono (gt_out fa (by show (10 : Int) ≠ 0; decide) (by omega)) fun o h4 q4 => ?_
      obtain ⟨x, rfl, rfl, rfl⟩ := q4
      have e : mxS S (m + 1) k = (k : Int) := by rw [mxS, if_pos d]
      exact ⟨0, rfl, Or.inr ⟨by rw [e]; omega, rfl, by rw [e]; exact fa⟩⟩
    refine ev_icmple 130 dX0_goThrough_119 (fun hb4 => ?_) (fun h_no => (by exfalso; rw [sz1] at h_no; split at h_no <;> omega))
    refine ev_iin4 dX0_goThrough_130 (by unfold ir; omega) ?_
    refine ev_gt 77 dX0_goThrough_133 ?_
    rw [show (k : Int) + 1 = ((k + 1 : Nat) : Int) by omega, show mxS S (m + 1) k = mxS S m (k + 1) by rw [mxS, if_neg d]]
    exact ih (k + 1) h1 a1 K1 (by omega) q1
end GtZ
