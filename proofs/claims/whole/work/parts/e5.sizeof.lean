/-! the size of a type: the class -/
def YW (h : AH) (a : Nat → Nat) (N : Nat) (rr : Nat → Nat) (tr : Nat → TE) : Prop := GW (soY (h.vl (a 0))) (h.vl (a 0)) (h.vl (a 1)) (h.vl (a 2)) N rr ∧ GT (soY (h.vl (a 0))) (h.vl (a 0)) (h.vl (a 1)) rr N tr
theorem YW.mv {h h1 : AH} {a K a1 K1 : Nat → Nat} {D F : List Nat} {N : Nat} {rr : Nat → Nat} {tr : Nat → TE} (w : YW h a N rr tr) (c : YC h a K h1 a1 K1 D F) (hD : 0 ∉ D ∧ 1 ∉ D ∧ 2 ∉ D := by decide) : YW h1 a1 N rr tr := by
  obtain ⟨e1, e2⟩ := c.2.2.1 0 (by decide) hD.1
  obtain ⟨e3, e4⟩ := c.2.2.1 1 (by decide) hD.2.1
  obtain ⟨e5, e6⟩ := c.2.2.1 2 (by decide) hD.2.2
  unfold YW
  rw [e1, e3, e5, e2, e4, e6]
  exact w
/-- what stands for itself: its kind, its parts -/
theorem YW.nd {h : AH} {a : Nat → Nat} {N t : Nat} {rr : Nat → Nat} {tr : Nat → TE} (w : YW h a N rr tr) (ht0 : t < N) : rr t < N ∧ rr (rr t) = rr t ∧ tr (rr t) = tr t ∧ (soY (h.vl (a 0)) (rr t) = 2 → ∃ f o : Nat, h.vl (a 0) (rr t) = (f : Int) ∧ h.vl (a 1) (rr t) = (o : Int) ∧ f < N ∧ o < N ∧ tr t = .op (tr f) (tr o)) ∧ (soY (h.vl (a 0)) (rr t) ≠ 2 → ∃ v, tr t = .var v) := by
  obtain ⟨w1, w2⟩ := w
  obtain ⟨a1, a2, a3⟩ := w2 t ht0
  refine ⟨a1, a2, w2.rr ht0, fun h2 => ?_, fun h2 => ?_⟩
  · obtain ⟨b1, b2⟩ := w1.2.2 _ a1 h2
    rw [if_pos h2] at a3
    exact ⟨(h.vl (a 0) (rr t)).toNat, (h.vl (a 1) (rr t)).toNat, by omega, by omega, by omega, by omega, a3⟩
  · rw [if_neg h2] at a3
    obtain ⟨v, hv⟩ := lfc_var (k := soY (h.vl (a 0)) (rr t)) (r := rr t)
    exact ⟨v, by rw [a3, hv]⟩
def SSz (tr : Nat → TE) : List Nat → Nat
  | [] => 0
  | x :: st => sz (tr x) + SSz tr st
set_option maxRecDepth 100000 in
theorem sy_loop {N T : Nat} {rr : Nat → Nat} {tr : Nat → TE} {h0 : AH} {a0 K0 : Nat → Nat} (hN : N ≤ 199000) : ∀ (m : Nat) (st : List Nat) (s : Nat) (v3 : AV) (h : AH) (a K : Nat → Nat), SSz tr st ≤ m → YC h0 a0 K0 h a K [10] [11] → (∀ k, k ≠ 10 → K k = K0 k) → YB h K N → YW h a N rr tr → YTr h a K st → (∀ x ∈ st, x < N) → s ≤ 201 → st.length ≤ s + 1 →
    EV mX9_sizeOf 3 12 [rv 9, iv (T : Int), iv (s : Int), v3] [] h (oi fun r h1 => r = ((if s + SSz tr st ≤ 201 then s + SSz tr st else 201 : Nat) : Int) ∧ ∃ a1 K1, YC h0 a0 K0 h1 a1 K1 [10] [11] ∧ ∀ k, k ≠ 10 → K1 k = K0 k) := by
  intro m
  have done : ∀ (st : List Nat) (s : Nat) (v3 : AV) (h : AH) (a K : Nat → Nat), YC h0 a0 K0 h a K [10] [11] → (∀ k, k ≠ 10 → K k = K0 k) → YTr h a K st → s ≤ 201 → (st = [] ∨ s = 201) → EV mX9_sizeOf 3 12 [rv 9, iv (T : Int), iv (s : Int), v3] [] h (oi fun r h1 => r = ((if s + SSz tr st ≤ 201 then s + SSz tr st else 201 : Nat) : Int) ∧ ∃ a1 K1, YC h0 a0 K0 h1 a1 K1 [10] [11] ∧ ∀ k, k ≠ 10 → K1 k = K0 k) := by
    intro st s v3 h a K c hK t hs hh
    have g := c.1
    have e : (if s + SSz tr st ≤ 201 then s + SSz tr st else 201) = s := by
      rcases hh with rfl | rfl
      · show (if s + 0 ≤ 201 then s + 0 else 201) = s
        rw [Nat.add_zero, if_pos hs]
      · split <;> omega
    obtain ⟨t1, -⟩ := t
    refine ev_iload_n dX9_sizeOf_12 rfl ?_
    refine ev_sipush dX9_sizeOf_13 ?_
    by_cases z : s = 201
    · skip
      refine ev_icmpgt 74 dX9_sizeOf_16 (fun hb => ?_) (fun h_no => (by exfalso; omega))
      refine ev_iload_n dX9_sizeOf_74 rfl ?_
      exact ev_iret dX9_sizeOf_75 (⟨_, rfl, by rw [e], a, K, c, hK⟩)
    have : st = [] := hh.resolve_right z
    subst this
    refine ev_icmpgt 74 dX9_sizeOf_16 (fun h_no => (by exfalso; omega)) (fun hb => ?_)
    refine ev_aload_n dX9_sizeOf_19 rfl ?_
    refine ev_getiv dX9_sizeOf_20 fX9_95 g.1.k9 g.1.n9 rfl t1 ?_
    refine ev_ifle 74 dX9_sizeOf_23 (fun hb2 => ?_) (fun h_no => (by exfalso; exact h_no (Int.le_refl 0)))
    refine ev_iload_n dX9_sizeOf_74 rfl ?_
    exact ev_iret dX9_sizeOf_75 (⟨_, rfl, by rw [e], a, K, c, hK⟩)
  induction m with
  | zero =>
    intro st s v3 h a K hm c hK b w t hx hs hl
    refine done st s v3 h a K c hK t hs (Or.inl ?_)
    cases st with
    | nil => rfl
    | cons x st =>
      have := sz_pos (tr x)
      simp only [SSz] at hm
      omega
  | succ m ih =>
    intro st s v3 h a K hm c hK b w t hx hs hl
    by_cases z : st = [] ∨ s = 201
    · exact done st s v3 h a K c hK t hs z
    cases st with
    | nil => exact absurd (Or.inl rfl) z
    | cons x st =>
      have hs2 : s ≤ 200 := by
        have : ¬ s = 201 := fun y => z (Or.inr y)
        omega
      have hxN := hx x List.mem_cons_self
      simp only [SSz] at hm
      have sp := sz_pos (tr x)
      have g := c.1
      obtain ⟨q1, q2, q3, q4, q5⟩ := w.nd hxN
      have t1 := t.1
      refine ev_iload_n dX9_sizeOf_12 rfl ?_
      refine ev_sipush dX9_sizeOf_13 ?_
      refine ev_icmpgt 74 dX9_sizeOf_16 (fun h_no => (by exfalso; omega)) (fun hb => ?_)
      refine ev_aload_n dX9_sizeOf_19 rfl ?_
      refine ev_getiv dX9_sizeOf_20 fX9_95 g.1.k9 g.1.n9 rfl t1 ?_
      refine ev_ifle 74 dX9_sizeOf_23 (fun h_no => (by exfalso; simp only [List.length_cons] at h_no; omega)) (fun hb2 => ?_)
      refine ev_aload_n dX9_sizeOf_26 rfl ?_
      refine ev_aload_n dX9_sizeOf_27 rfl ?_
      refine ev_cvi dX9_sizeOf_28 lX9_103 (s_takeTrail g t) (by decide) g.1.k9 g.1.n9 rfl rfl rfl (Nat.le_of_ble_eq_true rfl) rfl (fun r h1 q => ?_)
      obtain ⟨rfl, c1, t2⟩ := q
      have C1 := c.tr (c1.wk (by decide) (by decide))
      have g1 := c1.1
      have b1 := b.mv c1 (fun _ _ => rfl)
      have w1 := w.mv c1
      refine ev_cvi dX9_sizeOf_31 lX9_67 (s_known g1 b1 w1.1 hxN) (by decide) g1.1.k9 g1.1.n9 rfl rfl rfl (Nat.le_of_ble_eq_true rfl) rfl (fun r z1 q => ?_)
      obtain ⟨rfl, e⟩ := q
      rw [e]
      refine ev_ist3 dX9_sizeOf_34 ?_
      refine ev_aload_n dX9_sizeOf_35 rfl ?_
      refine ev_iload_n dX9_sizeOf_36 rfl ?_
      refine ev_cvi dX9_sizeOf_37 lX9_71 (s_kindY g1 b1 q1) (by decide) g1.1.k9 g1.1.n9 rfl rfl rfl (Nat.le_of_ble_eq_true rfl) rfl (fun r z2 q => ?_)
      obtain ⟨rfl, e⟩ := q
      rw [e]
      rw [← (c1.rw' 0).2] at q4 q5
      have q4' := q4
      rw [(c1.rw' 0).2] at q4'
      refine ev_iconst dX9_sizeOf_40 ?_
      have hl2 : st.length ≤ s := by rw [List.length_cons] at hl; omega
      by_cases k2 : soY (h1.vl (a 0)) (rr x) = 2
      · skip
        obtain ⟨f, o, f1, f2, f3, f4, f5⟩ := q4 k2
        rw [← (c1.rw' 1).2] at f2
        have v1 := g1.v 1
        have n1 := g1.n 1
        have B0 := b1.2.2
        have B1 := b1.2.1
        refine ev_icmpne 68 dX9_sizeOf_41 (fun h_no => (by exfalso; omega)) (fun hb3 => ?_)
        refine ev_aload_n dX9_sizeOf_44 rfl ?_
        refine ev_aload_n dX9_sizeOf_45 rfl ?_
        refine ev_getrv dX9_sizeOf_46 fX9_15 g1.1.k9 g1.1.n9 rfl v1 ?_
        refine ev_iload_n dX9_sizeOf_49 rfl ?_
        refine ev_csi dX9_sizeOf_50 lX9_63 (s_atJ (g1.k 1) n1 (g1.r 1).2) (by decide) rfl rfl (Nat.le_of_ble_eq_true rfl) rfl (fun r z3 q => ?_)
        obtain ⟨rfl, e⟩ := q
        rw [e, if_pos (by omega), show ((rr x : Nat) : Int).toNat = rr x from rfl, f2]
        refine ev_cvv dX9_sizeOf_53 lX9_98 (s_addTrail g1 t2 (by omega)) (by decide) g1.1.k9 g1.1.n9 rfl rfl rfl (Nat.le_of_ble_eq_true rfl) rfl (fun h2 q => ?_)
        obtain ⟨a2, K2, c2, t3, hK2⟩ := q
        have g2 := c2.1
        have v0 := g2.v 0
        have n0 := g2.n 0
        have f1' : h2.vl (a2 0) (rr x) = (f : Int) := by rw [(c2.rw' 0).1, (c2.rw' 0).2]; exact f1
        have K20 := hK2 0 (by decide)
        refine ev_aload_n dX9_sizeOf_56 rfl ?_
        refine ev_aload_n dX9_sizeOf_57 rfl ?_
        refine ev_getrv dX9_sizeOf_58 fX9_9 g2.1.k9 g2.1.n9 rfl v0 ?_
        refine ev_iload_n dX9_sizeOf_61 rfl ?_
        refine ev_csi dX9_sizeOf_62 lX9_63 (s_atJ (g2.k 0) n0 (g2.r 0).2) (by decide) rfl rfl (Nat.le_of_ble_eq_true rfl) rfl (fun r z3 q => ?_)
        obtain ⟨rfl, e⟩ := q
        rw [e, if_pos (by omega), show ((rr x : Nat) : Int).toNat = rr x from rfl, f1']
        refine ev_cvv dX9_sizeOf_65 lX9_98 (s_addTrail g2 t3 (by rw [List.length_cons]; omega)) (by decide) g2.1.k9 g2.1.n9 rfl rfl rfl (Nat.le_of_ble_eq_true rfl) rfl (fun h3 q => ?_)
        obtain ⟨a3, K3, c3, t4, hK3⟩ := q
        have C3 := (C1.tr c2).tr c3
        refine ev_iin2 dX9_sizeOf_68 (by unfold ir; omega) ?_
        refine ev_gt 12 dX9_sizeOf_71 ?_
        rw [show (s : Int) + 1 = ((s + 1 : Nat) : Int) by omega]
        have es : sz (tr x) = 1 + sz (tr f) + sz (tr o) := by rw [f5]; rfl
        have ee : s + 1 + SSz tr (f :: o :: st) = s + SSz tr (x :: st) := by simp only [SSz]; omega
        have := ih (f :: o :: st) (s + 1) (iv (rr x : Int)) h3 a3 K3 (by simp only [SSz]; omega) C3 (fun k hk => by rw [hK3 k hk, hK2 k hk]; exact hK k hk) ((b1.mv c2 (fun k hk => hK2 k (by omega))).mv c3 (fun k hk => hK3 k (by omega))) ((w1.mv c2).mv c3) t4 (fun y hy => by
          rcases List.mem_cons.mp hy with rfl | hy
          · exact f3
          · rcases List.mem_cons.mp hy with rfl | hy
            · exact f4
            · exact hx y (List.mem_cons_of_mem _ hy)) (by omega) (by rw [List.length_cons, List.length_cons]; omega)
        rw [ee] at this
        exact this
      obtain ⟨v, hv⟩ := q5 k2
      refine ev_icmpne 68 dX9_sizeOf_41 (fun hb3 => ?_) (fun h_no => (by exfalso; omega))
      refine ev_iin2 dX9_sizeOf_68 (by unfold ir; omega) ?_
      refine ev_gt 12 dX9_sizeOf_71 ?_
      rw [show (s : Int) + 1 = ((s + 1 : Nat) : Int) by omega]
      have es : sz (tr x) = 1 := by rw [hv]; rfl
      have ee : s + 1 + SSz tr st = s + SSz tr (x :: st) := by simp only [SSz]; omega
      have := ih st (s + 1) (iv (rr x : Int)) h1 a K (by omega) C1 hK b1 w1 t2 (fun y hy => hx y (List.mem_cons_of_mem _ hy)) (by omega) (by omega)
      rw [ee] at this
      exact this
set_option maxRecDepth 100000 in
theorem s_sizeY {h : AH} {a K : Nat → Nat} {N t : Nat} {rr : Nat → Nat} {tr : Nat → TE} (g : YA h a K) (b : YB h K N) (w : YW h a N rr tr) (ht0 : t < N) (hN : N ≤ 199000) : CV mX9_sizeOf 3 [rv 9, iv (t : Int)] h (oi fun r h1 => r = szc (tr t) ∧ ∃ a1 K1, YC h a K h1 a1 K1 [10] [11] ∧ ∀ k, k ≠ 10 → K1 k = K k) := by
  refine cv_of cdX9_sizeOf ?_
  show EV _ _ 0 [rv 9, iv (t : Int), uv, uv] [] h _
  have c1 : YC h a K (h.put 9 11 0) a K [] [11] := g.pf (by decide)
  obtain ⟨h1, e1⟩ : ∃ h1, h1 = h.put 9 11 0 := ⟨_, rfl⟩
  rw [← e1] at c1
  have g1 := c1.1
  have t1 : YTr h1 a K [] := ⟨by rw [e1]; rfl, trivial, Nat.zero_le _⟩
  refine ev_iconst dX9_sizeOf_0 ?_
  refine ev_ist2 dX9_sizeOf_1 ?_
  refine ev_aload_n dX9_sizeOf_2 rfl ?_
  refine ev_iconst dX9_sizeOf_3 ?_
  refine ev_pt dX9_sizeOf_4 fX9_95 g.1.k9 g.1.n9 rfl ?_
  rw [← e1]
  refine ev_aload_n dX9_sizeOf_7 rfl ?_
  refine ev_iload_n dX9_sizeOf_8 rfl ?_
  refine ev_cvv dX9_sizeOf_9 lX9_98 (s_addTrail g1 t1 (by decide)) (by decide) g1.1.k9 g1.1.n9 rfl rfl rfl (Nat.le_of_ble_eq_true rfl) rfl (fun h2 q => ?_)
  obtain ⟨a2, K2, c2, t2, hK2⟩ := q
  have := sy_loop (T := t) (rr := rr) (tr := tr) (h0 := h) (a0 := a) (K0 := K) hN (SSz tr [t]) [t] 0 uv h2 a2 K2 (Nat.le_refl _) ((c1.wk (by decide) (by decide)).tr c2) hK2 ((b.mv c1 (fun _ _ => rfl)).mv c2 (fun k hk => hK2 k (by omega))) ((w.mv c1).mv c2) t2 (fun x hx => by rw [List.mem_singleton.mp hx]; exact ht0) (by decide) (Nat.le_refl 1)
  refine ev_mono this fun o h3 q => ?_
  obtain ⟨r, rfl, q1, q2⟩ := q
  refine ⟨r, rfl, ?_, q2⟩
  have e : 0 + SSz tr [t] = sz (tr t) := by simp [SSz]
  rw [q1, e]
  unfold szc
  by_cases z : sz (tr t) ≤ 201
  · rw [if_pos z, if_pos z]
  · rw [if_neg z, if_neg z]; rfl
