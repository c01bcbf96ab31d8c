/-! the class goes through a term: its loop -/
section GtS
variable {h0 : AH} {a0 K0 : Nat → Nat} {L : List Nd} {kp : Nat → Option TE} {tc : Nat} {h : AH} {a K : Nat → Nat} {S : IS} {Dn Gn Sn : Nat → Prop} {N sc e yl : Nat} {T : Nat → TE} {τ : Nat → Nat} {st : List (Nat × Int × Int)} {s x gz lz res i : Int} {fv : Nat → Int} {v5 : AV} {Q : AV → AH → Prop} {Q1 : AH → Prop}
set_option maxRecDepth 100000 in
/-- one step more, where no pair is to fit -/
theorem gt_step (q : AtC h0 a0 K0 L kp tc S Dn Gn Sn N T τ sc ((e, s, x) :: st) gz lz fv yl res h a K) (hi : 0 ≤ i ∧ i < 1000000) (hgz : gz ≤ 300) (hc : CV mX0_goOn 8 [rv 8, rv (tc : Int), rv 31, iv (e : Int)] h (on Q1)) (kk : ∀ h1, Q1 h1 → h1.kd 8 = (1, 14) → 8 < h1.n → EV mX0_goThrough 9 8 [rv 8, rv (tc : Int), rv 31, iv 0, iv (i + 1), v5] [] h1 Q) (hk : ∀ h1, Q1 h1 → h1.kd 8 = (1, 14) ∧ 8 < h1.n) :
    EV mX0_goThrough 9 8 [rv 8, rv (tc : Int), rv 31, iv 0, iv i, v5] [] h Q := by
  obtain ⟨f, hs, hp, hf, ⟨h9, h5⟩, hv, hy, hr⟩ := q
  have g := f.g
  have w1 := g.1.v8_1
  have v0 := g.1.v8_0
  have p9 := hs.2.1.1
  have p9 : h.vl 9 9 = 0 := p9
  refine ev_iload dX0_goThrough_8 rfl ?_
  refine ev_ldci (x := 1000000) dX0_goThrough_10 q_kst1 (by decide) (by unfold ir; omega) ?_
  refine ev_icmpge 74 dX0_goThrough_12 (fun h_no => (by exfalso; omega)) (fun hb => ?_)
  refine ev_aload_n dX0_goThrough_15 rfl ?_
  refine ev_cvi dX0_goThrough_16 lX0_46 (s_isGoing g hp hf.1 h9) (by decide) g.1.k8 g.1.n8 rfl rfl rfl (Nat.le_of_ble_eq_true rfl) rfl (fun r z q9 => ?_)
  obtain ⟨r1, eq⟩ := q9
  rw [r1, eq, if_pos ⟨List.cons_ne_nil _ _, rfl, hgz⟩]
  refine ev_ifeq 74 dX0_goThrough_19 (fun h_no => (by exfalso; omega)) (fun hb2 => ?_)
  refine ev_aload_n dX0_goThrough_22 rfl ?_
  refine ev_getrv dX0_goThrough_23 fX0_12 g.1.k8 g.1.n8 rfl v0 ?_
  refine ev_getiv dX0_goThrough_26 fX0_50 g.1.k9 g.1.n9 rfl p9 ?_
  refine ev_ifle 55 dX0_goThrough_29 (fun hb3 => ?_) (fun h_no => (by exfalso; omega))
  refine ev_aload_n dX0_goThrough_55 rfl ?_
  refine ev_aload_n dX0_goThrough_56 rfl ?_
  refine ev_aload_n dX0_goThrough_57 rfl ?_
  refine ev_aload_n dX0_goThrough_58 rfl ?_
  refine ev_getrv dX0_goThrough_59 fX0_21 g.1.k8 g.1.n8 rfl w1 ?_
  refine ev_cvi dX0_goThrough_62 lX0_62 (s_node g hp) (by decide) g.1.k19 g.1.n19 rfl rfl rfl (Nat.le_of_ble_eq_true rfl) rfl (fun r z q9 => ?_)
  obtain ⟨r1, eq⟩ := q9
  rw [r1, eq]
  refine ev_cvv dX0_goThrough_65 lX0_65 (hc) (by decide) g.1.k8 g.1.n8 rfl rfl rfl (Nat.le_of_ble_eq_true rfl) rfl (fun h1 q1 => ?_)
  obtain ⟨k8, n8⟩ := hk h1 q1
  refine ev_iin4 dX0_goThrough_68 (by unfold ir; omega) ?_
  refine ev_gt 8 dX0_goThrough_71 ?_
  exact kk h1 q1 k8 n8
set_option maxRecDepth 100000 in
/-- where it failed -/
theorem gt_fail {r : IR} (q : FaC h0 a0 K0 L kp tc r h) (hr : r.1 ≠ 0) : EV mX0_goThrough 9 8 [rv 8, rv (tc : Int), rv 31, iv 0, iv i, v5] [] h (oi fun x h1 => x = 0 ∧ h1 = h) := by
  obtain ⟨hf, a, K, f, hK, st, hp⟩ := q
  have g := f.g
  have hT := f.2.2.2.1.l
  have f10 := hf.1
  have tc1 := hT.t.o.2
  obtain ⟨gz, h9⟩ : ∃ gz, h.vl 8 9 = gz := ⟨_, rfl⟩
  have out : ∀ (j : Int) (v5 : AV), EV mX0_goThrough 9 136 [rv 8, rv (tc : Int), rv 31, iv 0, iv j, v5] [] h (oi fun x h1 => x = 0 ∧ h1 = h) := by
    intro j v5
    refine ev_aload_n dX0_goThrough_136 rfl ?_
    refine ev_getiv dX0_goThrough_137 fX0_74 g.1.k8 g.1.n8 rfl f10 ?_
    refine ev_ifne 157 dX0_goThrough_140 (fun hb => ?_) (fun h_no => (by exfalso; omega))
    refine ev_iconst dX0_goThrough_157 ?_
    exact ev_zret dX0_goThrough_158 (⟨_, rfl, rfl, rfl⟩) (by omega)
  have lp : ∀ v5 : AV, EV mX0_goThrough 9 74 [rv 8, rv (tc : Int), rv 31, iv 0, iv i, v5] [] h (oi fun x h1 => x = 0 ∧ h1 = h) := by
    intro v5
    refine ev_iconst dX0_goThrough_74 ?_
    refine ev_ist4 dX0_goThrough_75 ?_
    refine ev_iload dX0_goThrough_77 rfl ?_
    refine ev_aload_n dX0_goThrough_79 rfl ?_
    refine ev_getiv dX0_goThrough_80 fX0_69 hT.t.o.1.1 hT.t.o.1.2 rfl tc1 ?_
    by_cases d : L.length = 0
    · skip
      refine ev_icmpge 136 dX0_goThrough_83 (fun hb => ?_) (fun h_no => (by exfalso; omega))
      exact out 0 v5
    refine ev_icmpge 136 dX0_goThrough_83 (fun h_no => (by exfalso; omega)) (fun hb => ?_)
    refine ev_aload_n dX0_goThrough_86 rfl ?_
    refine ev_getiv dX0_goThrough_87 fX0_74 g.1.k8 g.1.n8 rfl f10 ?_
    refine ev_ifne 136 dX0_goThrough_90 (fun hb2 => ?_) (fun h_no => (by exfalso; omega))
    exact out 0 v5
  refine ev_iload dX0_goThrough_8 rfl ?_
  refine ev_ldci (x := 1000000) dX0_goThrough_10 q_kst1 (by decide) (by unfold ir; omega) ?_
  by_cases d : 1000000 ≤ i
  · skip
    refine ev_icmpge 74 dX0_goThrough_12 (fun hb => ?_) (fun h_no => (by exfalso; omega))
    exact lp v5
  refine ev_icmpge 74 dX0_goThrough_12 (fun h_no => (by exfalso; omega)) (fun hb => ?_)
  refine ev_aload_n dX0_goThrough_15 rfl ?_
  refine ev_cvi dX0_goThrough_16 lX0_46 (s_isGoing g hp f10 h9) (by decide) g.1.k8 g.1.n8 rfl rfl rfl (Nat.le_of_ble_eq_true rfl) rfl (fun r z q9 => ?_)
  obtain ⟨r1, eq⟩ := q9
  rw [r1, eq, if_neg (fun z => hr z.2.1)]
  refine ev_ifeq 74 dX0_goThrough_19 (fun hb2 => ?_) (fun h_no => (by exfalso; omega))
  exact lp v5
end GtS
