/-! the type of a character; types are cleared: the class -/
theorem YU.up {h h1 : AH} {a K : Nat → Nat} {N N1 nv nv' : Nat} {T T1 : Nat → TE} {τ1 : Nat → Nat} (p : YU h a K N T h1 N1 T1 τ1 nv) (hnv : nv ≤ nv') : YU h a K N T h1 N1 T1 τ1 nv' := by
  obtain ⟨a1, K1, p1, p2, p3, p4⟩ := p
  exact ⟨a1, K1, p1, p2, p3.up hnv, p4⟩
section OfS
/-- what a method leaves, its rows named -/
def YV (h : AH) (a K : Nat → Nat) (N : Nat) (T : Nat → TE) (h1 : AH) (a1 K1 : Nat → Nat) (N1 : Nat) (T1 : Nat → TE) (τ1 : Nat → Nat) (nv : Nat) : Prop := YX h a K h1 a1 K1 [0, 1, 2, 3, 10, 12] [4, 11] (fun _ => False) 0 ∧ (∀ k, 4 ≤ k → k ≠ 10 → K1 k = K k) ∧ YS h1 a1 K1 N1 T1 τ1 nv ∧ (N ≤ N1 ∧ YL h1 a1 N1 + N ≤ YL h a N + N1) ∧ ∀ c, c < N → T1 c = T c
theorem YV.tr {h h1 h2 : AH} {a K a1 K1 a2 K2 : Nat → Nat} {N N1 N2 nv1 nv2 : Nat} {T T1 T2 : Nat → TE} {τ1 τ2 : Nat → Nat} (p : YV h a K N T h1 a1 K1 N1 T1 τ1 nv1) (q : YV h1 a1 K1 N1 T1 h2 a2 K2 N2 T2 τ2 nv2) : YV h a K N T h2 a2 K2 N2 T2 τ2 nv2 := by
  obtain ⟨p1, p2, p3, p4, p5⟩ := p
  obtain ⟨q1, q2, q3, q4, q5⟩ := q
  exact ⟨p1.tr q1, fun k k4 k10 => (q2 k k4 k10).trans (p2 k k4 k10), q3, ⟨by omega, by omega⟩, fun c hc => (q5 c (by omega)).trans (p5 c hc)⟩
theorem YV.u {h h1 : AH} {a K a1 K1 : Nat → Nat} {N N1 nv1 : Nat} {T T1 : Nat → TE} {τ1 : Nat → Nat} (p : YV h a K N T h1 a1 K1 N1 T1 τ1 nv1) : YU h a K N T h1 N1 T1 τ1 nv1 := ⟨a1, K1, p⟩
variable {h : AH} {a K : Nat → Nat} {N nv : Nat} {T : Nat → TE} {τ : Nat → Nat}
set_option maxRecDepth 100000 in
theorem s_ofSign (s : YS h a K N T τ nv) (hN : N ≤ 61000) (hnv : 2 ≤ nv) {c : Int} : CV mX9_ofSign 4 [rv 9, iv c] h (oi fun r h1 => ∃ (M k : Nat) (T1 : Nat → TE) (τ1 : Nat → Nat), r = (k : Int) ∧ YU h a K N T h1 M T1 τ1 (nv + 1) ∧ k < M ∧ M ≤ N + 4 ∧ T1 k = sgT c nv) := by
  have g := s.1
  have n2 := s.2.2.2.2.1
  have t0 := s.2.2.2.2.2.1
  have t1 := s.2.2.2.2.2.2
  refine cv_of cdX9_ofSign ?_
  show EV _ _ 0 [rv 9, iv c, uv] [] h _
  refine ev_iload_n dX9_ofSign_0 rfl ?_
  refine ev_bipush dX9_ofSign_1 ?_
  by_cases d : c = 63
  · skip
    refine ev_icmpne 30 dX9_ofSign_3 (fun h_no => (by exfalso; omega)) (fun hb => ?_)
    refine ev_aload_n dX9_ofSign_6 rfl ?_
    refine ev_iconst dX9_ofSign_7 ?_
    refine ev_iconst dX9_ofSign_8 ?_
    refine ev_cvi dX9_ofSign_9 lX9_49 (s_addT g s.2.1 (by omega)) (by decide) g.1.k9 g.1.n9 rfl rfl rfl (Nat.le_of_ble_eq_true rfl) rfl (fun q h1 q9 => ?_)
    obtain ⟨rfl, y1⟩ := q9
    obtain ⟨τ1, u1⟩ := s.var (nm := nv) (nv' := nv + 1) ⟨Nat.le_refl _, hnv, Nat.lt_succ_self _⟩ y1
    obtain ⟨a1, K1, v1⟩ := u1
    have s1 := v1.2.2.1
    have g1 := s1.1
    refine ev_ist2 dX9_ofSign_12 ?_
    refine ev_aload_n dX9_ofSign_13 rfl ?_
    refine ev_iconst dX9_ofSign_14 ?_
    refine ev_aload_n dX9_ofSign_15 rfl ?_
    refine ev_iload_n dX9_ofSign_16 rfl ?_
    refine ev_aload_n dX9_ofSign_17 rfl ?_
    refine ev_iload_n dX9_ofSign_18 rfl ?_
    refine ev_iload_n dX9_ofSign_19 rfl ?_
    refine ev_cvi dX9_ofSign_20 lX9_49 (s_addT g1 s1.2.1 (by omega)) (by decide) g1.1.k9 g1.1.n9 rfl rfl rfl (Nat.le_of_ble_eq_true rfl) rfl (fun q h2 q9 => ?_)
    obtain ⟨rfl, y2⟩ := q9
    obtain ⟨τ2, u2⟩ := s1.arr (x := N) (y := N) (by omega) (by omega) y2
    obtain ⟨a2, K2, v2⟩ := u2
    have s2 := v2.2.2.1
    have g2 := s2.1
    refine ev_cvi dX9_ofSign_23 lX9_49 (s_addT g2 s2.2.1 (by omega)) (by decide) g2.1.k9 g2.1.n9 rfl rfl rfl (Nat.le_of_ble_eq_true rfl) rfl (fun q h3 q9 => ?_)
    obtain ⟨rfl, y3⟩ := q9
    obtain ⟨τ3, u3⟩ := s2.arr (x := N) (y := N + 1) (by omega) (by omega) y3
    obtain ⟨a3, K3, v3⟩ := u3
    have s3 := v3.2.2.1
    have g3 := s3.1
    refine ev_cvi dX9_ofSign_26 lX9_49 (s_addT g3 s3.2.1 (by omega)) (by decide) g3.1.k9 g3.1.n9 rfl rfl rfl (Nat.le_of_ble_eq_true rfl) rfl (fun q h4 q9 => ?_)
    obtain ⟨rfl, y4⟩ := q9
    obtain ⟨τ4, u4⟩ := s3.arr (x := 1) (y := N + 1 + 1) (by omega) (by omega) y4
    obtain ⟨a4, K4, v4⟩ := u4
    refine ev_iret dX9_ofSign_29 (⟨_, rfl, N + 4, N + 1 + 1 + 1, _, τ4, rfl, (YV.tr (YV.tr (YV.tr v1 v2) v3) v4).u, by omega, Nat.le_refl _, ?_⟩)
    have e1 : upT T N (.var nv) N = .var nv := upT_s
    have e3 : ∀ X, upT (upT T N (.var nv)) (N + 1) X N = .var nv := fun X => (upT_n (by omega)).trans upT_s
    rw [upT_s, sgT, if_pos d, v3.2.2.2.2 1 (by omega), v2.2.2.2.2 1 (by omega), v1.2.2.2.2 1 (by omega), t1, upT_s, e3, upT_s, e1]
  refine ev_icmpne 30 dX9_ofSign_3 (fun hb => ?_) (fun h_no => (by exfalso; omega))
  refine ev_aload_n dX9_ofSign_30 rfl ?_
  refine ev_iconst dX9_ofSign_31 ?_
  refine ev_aload_n dX9_ofSign_32 rfl ?_
  refine ev_iconst dX9_ofSign_33 ?_
  refine ev_iload_n dX9_ofSign_34 rfl ?_
  refine ev_bipush dX9_ofSign_35 ?_
  have fin : ∀ x : Nat, x < 2 → x = (if c = 43 then 0 else 1) → EV mX9_ofSign 4 45 [rv 9, iv c, uv] [iv (x : Int), iv 0, rv 9, iv 0, rv 9] h (oi fun r h1 => ∃ (M k : Nat) (T1 : Nat → TE) (τ1 : Nat → Nat), r = (k : Int) ∧ YU h a K N T h1 M T1 τ1 (nv + 1) ∧ k < M ∧ M ≤ N + 4 ∧ T1 k = sgT c nv) := by
    intro x hx2 ex
    refine ev_cvi dX9_ofSign_45 lX9_49 (s_addT g s.2.1 (by omega)) (by decide) g.1.k9 g.1.n9 rfl rfl rfl (Nat.le_of_ble_eq_true rfl) rfl (fun q h1 q9 => ?_)
    obtain ⟨rfl, y1⟩ := q9
    obtain ⟨τ1, u1⟩ := s.arr (x := 0) (y := x) (by omega) (by omega) y1
    obtain ⟨a1, K1, v1⟩ := u1
    have s1 := v1.2.2.1
    have g1 := s1.1
    refine ev_cvi dX9_ofSign_48 lX9_49 (s_addT g1 s1.2.1 (by omega)) (by decide) g1.1.k9 g1.1.n9 rfl rfl rfl (Nat.le_of_ble_eq_true rfl) rfl (fun q h2 q9 => ?_)
    obtain ⟨rfl, y2⟩ := q9
    obtain ⟨τ2, u2⟩ := s1.arr (x := 0) (y := N) (by omega) (by omega) y2
    obtain ⟨a2, K2, v2⟩ := u2
    refine ev_iret dX9_ofSign_51 (⟨_, rfl, N + 2, N + 1, _, τ2, rfl, (YV.tr v1 v2).u.up (by omega), by omega, by omega, ?_⟩)
    rw [upT_s, sgT, if_neg d, v1.2.2.2.2 0 (by omega), t0, upT_s]
    by_cases z : c = 43
    · rw [if_pos z] at ex ⊢
      rw [ex, t0]
    · rw [if_neg z] at ex ⊢
      rw [ex, t1]
  by_cases z : c = 43
  · skip
    refine ev_icmpne 44 dX9_ofSign_37 (fun h_no => (by exfalso; omega)) (fun hb2 => ?_)
    refine ev_iconst dX9_ofSign_40 ?_
    refine ev_gt 45 dX9_ofSign_41 ?_
    exact fin 0 (by omega) (by rw [if_pos z])
  refine ev_icmpne 44 dX9_ofSign_37 (fun hb2 => ?_) (fun h_no => (by exfalso; omega))
  refine ev_iconst dX9_ofSign_44 ?_
  exact fin 1 (by omega) (by rw [if_neg z])
set_option maxRecDepth 100000 in
theorem s_clear (g : YA h a K) (hK : (K 1 = K 0 ∧ K 2 = K 0 ∧ K 3 = K 0) ∧ K 7 = K 6 ∧ K 8 = K 6) : CV mX9_clear 4 [rv 9] h (on fun h1 => ∃ a1 K1, YX h a K h1 a1 K1 [0, 1, 2, 3] [4, 5, 9] (fun _ => False) 0 ∧ (∀ k, 4 ≤ k → K1 k = K k) ∧ YS h1 a1 K1 2 (fun c => .var c) (fun c => c) 2 ∧ YPs h1 a1 K1 [] ∧ h1.vl 9 5 = 0) := by
  refine cv_of cdX9_clear ?_
  show EV _ _ 0 [rv 9] [] h _
  obtain ⟨h1, e1⟩ : ∃ h1, h1 = ((h.put 9 4 0).put 9 5 0).put 9 9 0 := ⟨_, rfl⟩
  have c1 : YC h a K h1 a K [0, 1, 2, 3] [4, 5, 9] := by
    rw [e1]
    have x1 := g.pf (j := 4) (x := 0) (by decide)
    have x2 := x1.1.pf (j := 5) (x := 0) (by decide)
    have x3 := x2.1.pf (j := 9) (x := 0) (by decide)
    exact ((x1.wk (by decide) (by decide)).tr (x2.wk (by decide) (by decide))).tr (x3.wk (by decide) (by decide))
  have g1 := c1.1
  have f4 : h1.vl 9 4 = 0 := by rw [e1]; rfl
  have f5 : h1.vl 9 5 = 0 := by rw [e1]; rfl
  have f9 : h1.vl 9 9 = 0 := by rw [e1]; rfl
  have b1 : YB h1 K 0 := ⟨f4, hK.1, Nat.zero_le _⟩
  refine ev_aload_n dX9_clear_0 rfl ?_
  refine ev_iconst dX9_clear_1 ?_
  refine ev_pt dX9_clear_2 fX9_39 g.1.k9 g.1.n9 rfl ?_
  refine ev_aload_n dX9_clear_5 rfl ?_
  refine ev_iconst dX9_clear_6 ?_
  refine ev_pt dX9_clear_7 fX9_43 g.1.k9 g.1.n9 rfl ?_
  refine ev_aload_n dX9_clear_10 rfl ?_
  refine ev_iconst dX9_clear_11 ?_
  refine ev_pt dX9_clear_12 fX9_46 g.1.k9 g.1.n9 rfl ?_
  rw [← e1]
  refine ev_aload_n dX9_clear_15 rfl ?_
  refine ev_iconst dX9_clear_16 ?_
  refine ev_iconst dX9_clear_17 ?_
  refine ev_cvi dX9_clear_18 lX9_49 (s_addT g1 b1 (by omega)) (by decide) g1.1.k9 g1.1.n9 rfl rfl rfl (Nat.le_of_ble_eq_true rfl) rfl (fun q h2 q9 => ?_)
  obtain ⟨rfl, a2, K2, c2, b2, d2, k2⟩ := q9
  have g2 := c2.1
  refine ev_pop dX9_clear_21 ?_
  refine ev_aload_n dX9_clear_22 rfl ?_
  refine ev_iconst dX9_clear_23 ?_
  refine ev_iconst dX9_clear_24 ?_
  refine ev_cvi dX9_clear_25 lX9_49 (s_addT g2 b2 (by omega)) (by decide) g2.1.k9 g2.1.n9 rfl rfl rfl (Nat.le_of_ble_eq_true rfl) rfl (fun q h3 q9 => ?_)
  obtain ⟨rfl, a3, K3, c3, b3, d3, k3⟩ := q9
  have C3 := (c1.tr (c2.wk (by decide) (by decide))).tr (c3.wk (by decide) (by decide))
  refine ev_pop dX9_clear_28 ?_
  obtain ⟨p1, p2, p3, p4, p5⟩ := d2
  obtain ⟨r1, r2, r3, r4, r5⟩ := d3
  have l3 : ∀ t, t < 2 → h3.vl (a3 2) t = -1 := fun t ht0 => by
    rcases (show t = 0 ∨ t = 1 by omega) with rfl | rfl
    · rw [r1 2 (by decide) 0 (by decide)]; exact p4
    · exact r4
  have m3 : ∀ t, t < 2 → h3.vl (a3 3) t = 0 := fun t ht0 => by
    rcases (show t = 0 ∨ t = 1 by omega) with rfl | rfl
    · rw [r1 3 (by decide) 0 (by decide)]; exact p5
    · exact r5
  have s3 : ∀ t, t < 2 → soY (h3.vl (a3 0)) t = (t : Int) := fun t ht0 => by
    rcases (show t = 0 ∨ t = 1 by omega) with rfl | rfl <;> rfl
  have f55 : h3.vl 9 5 = 0 := by rw [c3.fl 5, c2.fl 5]; exact f5
  refine ev_vret dX9_clear_29 (⟨rfl, a3, K3, C3.x, fun k hk => (k3 k hk).trans (k2 k hk), ⟨C3.1, b3, ⟨fun c => c, fun c => .var c, ⟨⟨fun t ht0 => by rw [l3 t ht0]; omega, fun t ht0 => ⟨0, rfl, by show h3.vl (a3 2) t < 0; rw [l3 t ht0]; decide, ht0⟩, fun t ht0 z => by rw [s3 t ht0] at z; omega⟩, fun t ht0 => ⟨ht0, rfl, ?_⟩, fun t ht0 => by rw [s3 t ht0]; omega, fun t u ht0 hu z => by rw [s3 t ht0] at z; omega, fun t ht0 z => by rw [s3 t ht0] at z; omega⟩, fun c hc => ?_⟩, ⟨by rw [f55]; decide, fun t ht0 => by rw [f55, m3 t ht0]; decide⟩, Nat.le_refl _, rfl, rfl⟩, ⟨by rw [c3.fl 9, c2.fl 9]; exact f9, trivial, by rw [k3 7 (by decide), k2 7 (by decide), k3 8 (by decide), k2 8 (by decide), k3 6 (by decide), k2 6 (by decide)]; exact hK.2, Nat.zero_le _⟩, f55⟩)
  · rw [s3 t ht0, if_neg (by omega)]
    rcases (show t = 0 ∨ t = 1 by omega) with rfl | rfl <;> rfl
  · rcases (show c = 0 ∨ c = 1 by omega) with rfl | rfl <;> rfl
end OfS
