/-! shapes are copied; the past -/
theorem YX.all {h h1 : AH} {a K : Nat → Nat} {X : Nat → Prop} (g : YA h a K) (x : YX h a K h1 a K [] [] X 0) : GC h h1 (fun c _ => X c) 0 0 := by
  refine ⟨⟨x.2.1.1, x.2.1.2.1, fun c j hc hn => ?_⟩, by have := x.2.1.2.2.2; omega, by have := x.2.1.2.2.2; omega⟩
  by_cases c9 : c = 9
  · subst c9
    by_cases hj : j ∈ tks
    · rw [(x.1.2.1 j hj).1, (g.2.1 j hj).1]
    · exact x.2.2.2 j hj (fun z => absurd z List.not_mem_nil)
  · by_cases e : ∃ k, k ∈ tks ∧ a k = c
    · obtain ⟨k, hk, e⟩ := e
      have := (x.2.2.1 k hk (fun z => absurd z List.not_mem_nil)).2
      rw [e] at this
      rw [this]
    · rw [x.v ⟨hc, c9, fun k hk z => e ⟨k, hk, z⟩⟩ hn]
theorem GF.tr' {h h1 h2 : AH} {C C' : Nat → Nat → Prop} (p : GF h h1 C) (q : GF h1 h2 C') (hC : ∀ c j, c < h.n → C' c j → C c j) : GF h h2 C := ⟨Nat.le_trans p.1 q.1, fun c hc => (q.2.1 c (Nat.lt_of_lt_of_le hc p.1)).trans (p.2.1 c hc), fun c j hc hn => (q.2.2 c j (Nat.lt_of_lt_of_le hc p.1) (fun z => hn (hC c j hc z))).trans (p.2.2 c j hc hn)⟩
theorem GC.tr' {h h1 h2 : AH} {C C' : Nat → Nat → Prop} {dc ds dc' ds' : Nat} (p : GC h h1 C dc ds) (q : GC h1 h2 C' dc' ds') (hC : ∀ c j, c < h.n → C' c j → C c j) : GC h h2 C (dc + dc') (ds + ds') := ⟨p.1.tr' q.1 hC, by have := p.2.1; have := q.2.1; omega, by have := p.2.2; have := q.2.2; omega⟩
theorem ci94 {c j : Nat} (h : 94 ≤ c) : (c, j) ∉ CIs := fun z => by
  have : CIs.all (fun q => decide (q.1 < 94)) = true := by decide
  have := of_decide_eq_true (List.all_eq_true.mp this _ z)
  have this : c < 94 := this
  omega
section Cpy
variable {h : AH} {a K : Nat → Nat} {s b R : Nat} {r : List Int}
set_option maxRecDepth 100000 in
theorem cp_loop {h0 : AH} {c : Nat} (g0 : YA h0 a K) (w0 : ShW h0 a s b R r) (hsc : s ≠ c ∧ s ≠ c + 1 ∧ b ≠ c ∧ b ≠ c + 1) (hr : r.length ≤ 100000) : ∀ (l2 l1 : List Int) (h : AH), r = l1 ++ l2 → YX h0 a K h a K [] [] (fun y => y = c ∨ y = c + 1) 0 → ShW h a c (c + 1) r.length l1 → EV mX5_copy 4 14 [rv s, rv (c : Int), iv (l1.length : Int)] [] h (oa fun x h1 => x = (c : Int) ∧ YX h0 a K h1 a K [] [] (fun y => y = c ∨ y = c + 1) 0 ∧ ShW h1 a c (c + 1) r.length r)
  | [], l1, h, e, x, w => by
    rw [List.append_nil] at e
    subst e
    have w' : ShW h a s b R r := w0.x x ⟨fun z => by omega, fun z => by omega⟩
    have v1 := w'.1.2.2.1
    refine ev_iload_n dX5_copy_14 rfl ?_
    refine ev_aload_n dX5_copy_15 rfl ?_
    refine ev_getiv dX5_copy_16 fX5_15 w'.1.1.1 w'.1.1.2 rfl v1 ?_
    refine ev_icmpge 37 dX5_copy_19 (fun hb => ?_) (fun h_no => (by exfalso; omega))
    refine ev_aload_n dX5_copy_37 rfl ?_
    exact ev_aret dX5_copy_38 (⟨_, rfl, rfl, x, w⟩) rfl (Or.inl ⟨_, rfl⟩)
  | y :: l2, l1, h, e, x, w => by
    have w' : ShW h a s b R r := w0.x x ⟨fun z => by omega, fun z => by omega⟩
    have v1 := w'.1.2.2.1
    have ll : l1.length < r.length := by rw [e, List.length_append, List.length_cons]; omega
    have vi : h.vl b l1.length = y := by
      rw [w'.2.2.2 l1.length ll]
      simp [e]
    refine ev_iload_n dX5_copy_14 rfl ?_
    refine ev_aload_n dX5_copy_15 rfl ?_
    refine ev_getiv dX5_copy_16 fX5_15 w'.1.1.1 w'.1.1.2 rfl v1 ?_
    refine ev_icmpge 37 dX5_copy_19 (fun h_no => (by exfalso; omega)) (fun hb => ?_)
    refine ev_aload_n dX5_copy_22 rfl ?_
    refine ev_aload_n dX5_copy_23 rfl ?_
    refine ev_iload_n dX5_copy_24 rfl ?_
    refine ev_cvi dX5_copy_25 lX5_30 (s_sgS w'.1 ll vi) (by decide) w'.1.1.1 w'.1.1.2 rfl rfl rfl (Nat.le_of_ble_eq_true rfl) rfl (fun z h1 q => ?_)
    obtain ⟨rfl, e1⟩ := q
    rw [e1]
    refine ev_cvv dX5_copy_28 lX5_34 (s_shAdd x.1 w ll) (by decide) w.1.1.1 w.1.1.2 rfl rfl rfl (Nat.le_of_ble_eq_true rfl) rfl (fun h2 q => ?_)
    obtain ⟨q1, q2⟩ := q
    refine ev_iin2 dX5_copy_31 (by unfold ir; omega) ?_
    refine ev_gt 14 dX5_copy_34 ?_
    rw [show (l1.length : Int) + 1 = ((l1 ++ [z]).length : Int) by rw [List.length_append]; rfl]
    exact cp_loop g0 w0 hsc hr l2 (l1 ++ [z]) h2 (by rw [e]; simp) (x.tr q1) q2
set_option maxRecDepth 100000 in
theorem s_copyC (g : YA h a K) (w : ShW h a s b R r) (hr : r.length ≤ 1000) : CV mX5_copy 4 [rv s] h (oa fun x h1 => x = (h.n : Int) ∧ GC h h1 (fun _ _ => False) 2 (2 + r.length) ∧ YA h1 a K ∧ ShW h1 a h.n (h.n + 1) r.length r) := by
  have n94 := g.1.1
  have v1 := w.1.2.2.1
  refine cv_of cdX5_copy ?_
  show EV _ _ 0 [rv s, uv, uv] [] h _
  refine ev_new dX5_copy_0 nX5_10 ?_
  refine ev_dup dX5_copy_3 ?_
  refine ev_aload_n dX5_copy_4 rfl ?_
  have ks1 : (h.new (5, 2)).kd s = (5, 2) := by rw [AH.new_kd, if_neg (by have := w.1.1.2; omega)]; exact w.1.1.1
  have ns1 : s < (h.new (5, 2)).n := Nat.lt_succ_of_lt w.1.1.2
  have vs1 : (h.new (5, 2)).vl s 1 = (r.length : Int) := by rw [AH.new_vl, if_neg (by have := w.1.1.2; omega)]; exact v1
  have kn : (h.new (5, 2)).kd h.n = (5, 2) := by rw [AH.new_kd, if_pos rfl]
  have nn1 : h.n < (h.new (5, 2)).n := Nat.lt_succ_self _
  refine ev_getiv dX5_copy_5 fX5_15 ks1 ns1 rfl vs1 ?_
  refine ev_ci dX5_copy_8 lX5_27 (s_eShape (n := r.length) kn nn1 (by omega)) (by decide) (by omega) rfl rfl (Nat.le_of_ble_eq_true rfl) rfl (fun h1 q => ?_)
  have gc : GC h h1 (fun _ _ => False) 2 (2 + r.length) := by
    rw [q]
    refine ⟨((GF.rf.nw).nw).pu (fun w => absurd w (Nat.lt_irrefl _)), ?_, ?_⟩
    · show h.cs + 1 + 1 ≤ _; omega
    · show h.ss + 2 + r.length ≤ _; omega
  have g1 : YA h1 a K := g.gf gc.1 (fun _ _ z => z.elim)
  have n1 : h1.n = h.n + 2 := by rw [q]; rfl
  have no : ∀ x, h.n ≤ x → x < h.n + 2 → YNo h1 a x := fun x h1 h2 => ⟨by omega, by omega, fun k hk e => by have := (g.2.1 k hk).2.2.1; omega⟩
  have k0 : h1.kd h.n = (5, 2) := by rw [q]; exact eShape_k kn nn1
  have k1 : h1.kd (h.n + 1) = (100, r.length) := by
    rw [q]
    show ((h.new (5, 2)).new (100, r.length)).kd (h.n + 1) = _
    rw [AH.new_kd]
    exact if_pos rfl
  have u0 : h1.vl h.n 0 = ((h.n + 1 : Nat) : Int) := by
    rw [q]
    unfold eShape
    rw [AH.put_vl, if_pos ⟨rfl, rfl⟩]
    rfl
  have u1 : h1.vl h.n 1 = 0 := by
    rw [q]
    unfold eShape
    rw [AH.put_vl, if_neg (fun z => absurd z.2 (by decide)), AH.new_vl, if_neg (by show ¬ h.n = h.n + 1; omega), AH.new_vl, if_pos rfl]
    rfl
  have w1 : ShW h1 a h.n (h.n + 1) r.length [] := ⟨⟨⟨k0, by omega⟩, ⟨u0, k1, by omega⟩, u1, Nat.zero_le _, by omega⟩, ⟨no _ (by omega) (by omega), no _ (by omega) (by omega), by omega⟩, ⟨ci94 (by omega), fun i => ci94 (by omega)⟩, fun i hi => absurd hi (Nat.not_lt_zero _)⟩
  obtain ⟨⟨⟨ws1, ws2⟩, ⟨ws3, ws4, ws5⟩, ws6, ws7, ws8⟩, ⟨wn1, wn2, wn3⟩, wc, wv⟩ := id w
  have ws : h1.vl s = h.vl s := funext fun j => gc.1.2.2 s j ws2 (fun z => z)
  have wb : h1.vl b = h.vl b := funext fun j => gc.1.2.2 b j ws5 (fun z => z)
  have w2 : ShW h1 a s b R r := ⟨⟨⟨(gc.1.2.1 s ws2).trans ws1, by omega⟩, ⟨by rw [ws]; exact ws3, (gc.1.2.1 b ws5).trans ws4, by omega⟩, by rw [ws]; exact ws6, ws7, ws8⟩, ⟨⟨by have := wn1.1; omega, wn1.2⟩, ⟨by have := wn2.1; omega, wn2.2⟩, wn3⟩, wc, fun i hi => by rw [wb]; exact wv i hi⟩
  refine ev_ast1 dX5_copy_11 ?_
  refine ev_iconst dX5_copy_12 ?_
  refine ev_ist2 dX5_copy_13 ?_
  refine ev_mono (cp_loop (c := h.n) g1 w2 ⟨by omega, by omega, by omega, by omega⟩ (by omega) r [] h1 rfl (YX.rf g1) w1) fun oo h2 q9 => ?_
  obtain ⟨x, rfl, e2, q1, q2⟩ := q9
  have gc2 : GC h1 h2 (fun c _ => c = h.n ∨ c = h.n + 1) 0 0 := YX.all g1 q1
  exact ⟨x, rfl, e2, gc.tr' gc2 (fun c j hc z => by omega), q1.1, q2⟩
end Cpy
