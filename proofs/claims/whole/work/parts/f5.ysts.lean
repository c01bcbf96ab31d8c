/-! the class's types as they stand between two calls -/
def YS (h : AH) (a K : Nat → Nat) (N : Nat) (T : Nat → TE) (τ : Nat → Nat) (nv : Nat) : Prop := YA h a K ∧ YB h K N ∧ YT h a N T τ nv ∧ YMk h a N ∧ 2 ≤ N ∧ T 0 = .var 0 ∧ T 1 = .var 1
/-- more types, the old ones as they were -/
def YU (h : AH) (a K : Nat → Nat) (N : Nat) (T : Nat → TE) (h1 : AH) (N1 : Nat) (T1 : Nat → TE) (τ1 : Nat → Nat) (nv : Nat) : Prop := ∃ a1 K1, YX h a K h1 a1 K1 [0, 1, 2, 3, 10, 12] [4, 11] (fun _ => False) 0 ∧ (∀ k, 4 ≤ k → k ≠ 10 → K1 k = K k) ∧ YS h1 a1 K1 N1 T1 τ1 nv ∧ (N ≤ N1 ∧ YL h1 a1 N1 + N ≤ YL h a N + N1) ∧ ∀ c, c < N → T1 c = T c
section YSs
variable {h : AH} {a K : Nat → Nat} {N nv nv' nm x y : Nat} {T : Nat → TE} {τ : Nat → Nat}
theorem YU.rf (s : YS h a K N T τ nv) : YU h a K N T h N T τ nv := ⟨a, K, YX.rf s.1, fun _ _ _ => rfl, s, ⟨Nat.le_refl _, Nat.le_refl _⟩, fun _ _ => rfl⟩
theorem YS.xt {h1 : AH} {a1 K1 : Nat → Nat} {D F : List Nat} {X : Nat → Prop} {e : Nat} (s : YS h a K N T τ nv) (c : YX h a K h1 a1 K1 D F X e) (eK : ∀ k, k < 4 → K1 k = K k) (hD : (0 ∉ D ∧ 1 ∉ D ∧ 2 ∉ D) ∧ 3 ∉ D := by decide) (hF : 4 ∉ F ∧ 5 ∉ F := by decide) : YS h1 a1 K1 N T τ nv := ⟨c.1, s.2.1.x c eK hF.1, s.2.2.1.x c hD.1, s.2.2.2.1.x c hD.2 hF.2, s.2.2.2.2⟩
theorem YT.up (g : YT h a N T τ nv) (hnv : nv ≤ nv') : YT h a N T τ nv' := by
  obtain ⟨rr, tr, ⟨g1, g2, g3, g4, g5⟩, g6⟩ := g
  exact ⟨rr, tr, ⟨g1, g2, g3, g4, fun t ht0 z => ⟨(g5 t ht0 z).1, by have := (g5 t ht0 z).2; omega⟩⟩, g6⟩
theorem YS.up (s : YS h a K N T τ nv) (hnv : nv ≤ nv') : YS h a K N T τ nv' := ⟨s.1, s.2.1, s.2.2.1.up hnv, s.2.2.2⟩
theorem YT.lt (g : YT h a N T τ nv) : ∀ t, t < N → soY (h.vl (a 0)) t = 3 → τ t < nv := by
  obtain ⟨rr, tr, ⟨g1, g2, g3, g4, g5⟩, g6⟩ := g
  exact fun t ht0 z => (g5 t ht0 z).2
/-- an arrow more -/
theorem YS.arr (s : YS h a K N T τ nv) {h1 : AH} (hx : x < N) (hy : y < N) (q : YAQ h a K N (x : Int) (y : Int) h1) : ∃ τ1, YU h a K N T h1 (N + 1) (upT T N (.op (T x) (T y))) τ1 nv := by
  obtain ⟨s1, s2, s3, s4, s5, s6, s7⟩ := s
  obtain ⟨a1, K1, d, q2, q3, q4⟩ := q
  have dx := d.x (X := fun _ => False)
  obtain ⟨u1, u2, u3⟩ := s3.add (nm := 0) (by omega) q3 (Or.inr ⟨rfl, rfl, hx, hy⟩) (Nat.le_refl _)
  rw [if_neg (by omega)] at u1
  exact ⟨_, a1, K1, dx.wk (by decide) (by decide) (fun _ z => z) (Nat.le_refl _), fun k k4 _ => q4 k k4, ⟨dx.1, q2, u1, s4.ad d q3, by omega, by rw [upT_n (by omega)]; exact s6, by rw [upT_n (by omega)]; exact s7⟩, ⟨Nat.le_succ _, by have := YL.ad q3; omega⟩, fun c hc => upT_n (by omega)⟩
/-- a variable more -/
theorem YS.var (s : YS h a K N T τ nv) {h1 : AH} (hn : nv ≤ nm ∧ 2 ≤ nm ∧ nm < nv') (q : YAQ h a K N (-1) (-1) h1) : ∃ τ1, YU h a K N T h1 (N + 1) (upT T N (.var nm)) τ1 nv' := by
  obtain ⟨s1, s2, s3, s4, s5, s6, s7⟩ := s
  obtain ⟨a1, K1, d, q2, q3, q4⟩ := q
  have dx := d.x (X := fun _ => False)
  obtain ⟨u1, u2, u3⟩ := s3.add (nm := nm) (nv' := nv') (x := 0) (y := 0) (by omega) q3 (Or.inl ⟨rfl, rfl, fun t ht0 z w => by have := s3.lt t ht0 z; omega, hn.2.1, hn.2.2⟩) (by omega)
  rw [if_pos rfl] at u1
  exact ⟨_, a1, K1, dx.wk (by decide) (by decide) (fun _ z => z) (Nat.le_refl _), fun k k4 _ => q4 k k4, ⟨dx.1, q2, u1, s4.ad d q3, by omega, by rw [upT_n (by omega)]; exact s6, by rw [upT_n (by omega)]; exact s7⟩, ⟨Nat.le_succ _, by have := YL.ad q3; omega⟩, fun c hc => upT_n (by omega)⟩
theorem YU.tr {h1 h2 : AH} {N1 N2 nv1 nv2 : Nat} {T1 T2 : Nat → TE} {τ1 τ2 : Nat → Nat} (p : YU h a K N T h1 N1 T1 τ1 nv1) (q : ∀ a1 K1, YS h1 a1 K1 N1 T1 τ1 nv1 → YU h1 a1 K1 N1 T1 h2 N2 T2 τ2 nv2) : YU h a K N T h2 N2 T2 τ2 nv2 := by
  obtain ⟨a1, K1, p1, p2, p3, p4, p5⟩ := p
  obtain ⟨a2, K2, q1, q2, q3, q4, q5⟩ := q a1 K1 p3
  exact ⟨a2, K2, p1.tr q1, fun k k4 k10 => (q2 k k4 k10).trans (p2 k k4 k10), q3, ⟨by omega, by omega⟩, fun c hc => (q5 c (by omega)).trans (p5 c hc)⟩
set_option maxRecDepth 100000 in
/-- a shape is made -/
theorem s_makeY {sh b R : Nat} {P : TE} {nm : Nat → Nat} (s : YS h a K N T τ nv) (hN : N ≤ 61000) (w : ShW h a sh b R (rowT P)) (hsz : sz P ≤ 200) (hx : ∀ x, 2 ≤ x → oc x P = true → MkX nm nv nv' N x) (hi : ∀ x y, 2 ≤ x → x < 202 → 2 ≤ y → y < 202 → nm y = nm x → y = x) (hnv : nv ≤ nv') :
    CV mX9_make 5 [rv 9, rv (sh : Int)] h (oi fun r h1 => ∃ (M c : Nat) (T1 : Nat → TE) (τ1 : Nat → Nat), r = (c : Int) ∧ YU h a K N T h1 M T1 τ1 nv' ∧ c < M ∧ M ≤ N + sz P ∧ T1 c = sbs (mkF nm T) P) := by
  obtain ⟨s1, s2, s3, s4, s5, s6, s7⟩ := s
  have v12 := s1.v 12
  have n12 := s1.n 12
  have k12 := s1.k12.1
  have rl := row_len P
  refine cv_of cdX9_make ?_
  show EV _ _ 0 [rv 9, rv (sh : Int), uv, uv, uv, uv] [] h _
  refine ev_aload_n dX9_make_0 rfl ?_
  refine ev_getrv dX9_make_1 fX9_36 s1.1.k9 s1.1.n9 rfl v12 ?_
  refine ev_iconst dX9_make_4 ?_
  refine ev_csv dX9_make_5 lX9_121 (s_fillI (s1.k 12) n12 (by omega)) (by decide) rfl rfl (Nat.le_of_ble_eq_true rfl) rfl (fun h1 q => ?_)
  obtain ⟨q1, q2, q3, q4, q5, q6⟩ := q
  have c1 : YC h a K h1 a K [12] [] := s1.pr (by decide) q1 q2 q3 q4 q5
  have y1 := c1.1
  obtain ⟨h2, e2⟩ : ∃ h2, h2 = h1.put 9 11 0 := ⟨_, rfl⟩
  have c2 : YC h1 a K h2 a K [] [11] := by rw [e2]; exact y1.pf (by decide)
  have y2 := c2.1
  have C2 : YX h a K h2 a K [0, 1, 2, 3, 10, 12] [4, 11] (fun _ => False) 0 := (c1.x.wk (by decide) (by decide) (fun _ z => z) (Nat.le_refl _)).tr (c2.x.wk (by decide) (by decide) (fun _ z => z) (Nat.le_refl _))
  have D2 : YX h a K h2 a K [12] [11] (fun _ => False) 0 := (c1.x.wk (by decide) (by decide) (fun _ z => z) (Nat.le_refl _)).tr (c2.x.wk (by decide) (by decide) (fun _ z => z) (Nat.le_refl _))
  have w2 := w.x C2 ⟨fun z => z, fun z => z⟩
  have t2 : YTr h2 a K [] := ⟨by rw [e2]; rfl, trivial, Nat.zero_le _⟩
  have ml : h2.vl sh 1 = (sz P : Int) := by rw [w2.1.2.2.1, rl]
  have r12 : ∀ j, j < 200 → h2.vl (a 12) j = -1 := fun j hj => by rw [(c2.rw' 12).2]; exact q6 j (by omega)
  refine ev_aload_n dX9_make_8 rfl ?_
  refine ev_iconst dX9_make_9 ?_
  refine ev_pt dX9_make_10 fX9_95 y1.1.k9 y1.1.n9 rfl ?_
  rw [← e2]
  refine ev_aload_n dX9_make_13 rfl ?_
  refine ev_getiv dX9_make_14 fX9_106 w2.1.1.1 w2.1.1.2 rfl ml ?_
  refine ev_iconst dX9_make_17 ?_
  refine ev_isub dX9_make_18 (by unfold ir; omega) ?_
  refine ev_ist2 dX9_make_19 ?_
  have C0 : MkY h a K N T nv nv' nm h2 a K N T τ [] := ⟨C2, fun _ _ _ => rfl, s2.x D2 (fun _ _ => rfl), (s3.x D2).up hnv, s4.x D2, t2, ⟨Nat.le_refl _, s5, fun _ _ => rfl, by rw [YL.x D2]; exact Nat.le_refl _⟩, fun t ht0 z => Or.inl ((s3.x D2).lt t ht0 z), fun j hj => Or.inl (r12 j hj)⟩
  rw [show (sz P : Int) - 1 = ((([] : List Int).length + sz P : Nat) : Int) - 1 by rw [List.length_nil, Nat.zero_add]]
  refine mk_walk ⟨s6, s7⟩ hN w hi P [] [] _ _ _ h2 a K N T τ [] (by rw [List.append_nil]; rfl) hx C0 (by omega) (by rw [List.length_nil]; omega) fun h3 a3 K3 M T3 τ3 c v3 v4 v5 C3 b1 b2 b3 => ?_
  have g3 := C3.1.1
  rw [show (([] : List Int).length : Int) - 1 = -1 from rfl]
  refine ev_iload_n dX9_make_20 rfl ?_
  refine ev_iflt 143 dX9_make_21 (fun hb => ?_) (fun h_no => (by exfalso; omega))
  refine ev_aload_n dX9_make_143 rfl ?_
  refine ev_cvi dX9_make_144 lX9_103 (s_takeTrail g3 C3.2.2.2.2.2.1) (by decide) g3.1.k9 g3.1.n9 rfl rfl rfl (Nat.le_of_ble_eq_true rfl) rfl (fun q h4 q9 => ?_)
  obtain ⟨rfl, d4, t4⟩ := q9
  have C4 := C3.mv (d4.wk (by decide) (fun _ z => z)) (fun _ _ => rfl) t4
  obtain ⟨m1, m2, m3, m4, m5, m6, ⟨m7, m7', m7'', m7l⟩, m8, m9⟩ := C4
  exact ev_iret dX9_make_147 (⟨_, rfl, M, c, T3, τ3, rfl, ⟨a3, K3, m1, m2, ⟨m1.1, m3, m4, m5, by omega, (m7'' 0 (by omega)).trans s6, (m7'' 1 (by omega)).trans s7⟩, ⟨m7, m7l⟩, m7''⟩, b1.1, b1.2.2, b3⟩)
end YSs
