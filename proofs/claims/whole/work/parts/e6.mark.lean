/-! marks: the class -/
def cMk (mk : Nat → Int) (v : Int) : Nat → Nat
  | 0 => 0
  | n + 1 => cMk mk v n + (if mk n = v then 0 else 1)
theorem cMk_le {mk : Nat → Int} {v : Int} : ∀ n, cMk mk v n ≤ n
  | 0 => Nat.le_refl _
  | n + 1 => by
    have := cMk_le (mk := mk) (v := v) n
    rw [cMk]
    split <;> omega
theorem cMk_up {mk : Nat → Int} {v : Int} {c : Nat} (hc : mk c ≠ v) : ∀ n, cMk (upI mk c v) v n + (if c < n then 1 else 0) = cMk mk v n
  | 0 => by rw [if_neg (Nat.not_lt_zero c)]; rfl
  | n + 1 => by
    have := cMk_up hc n
    rw [cMk, cMk]
    by_cases e : n = c
    · subst e
      rw [show upI mk n v n = v from if_pos rfl, if_pos rfl, if_neg hc, if_pos (by omega)]
      rw [if_neg (by omega)] at this
      omega
    · rw [show upI mk c v n = mk n from if_neg e]
      by_cases g : c < n
      · have g2 : c < n + 1 := by omega
        rw [if_pos g] at this
        rw [if_pos g2]
        omega
      · have g2 : ¬ c < n + 1 := by omega
        rw [if_neg g] at this
        rw [if_neg g2]
        omega
/-- what is marked has marked parts, or parts that are still to be looked at -/
def MkC (so fr to mk : Nat → Int) (N : Nat) (rr : Nat → Nat) (v : Int) (st : List Nat) : Prop := ∀ c, c < N → rr c = c → mk c = v → so c = 2 → (mk (rr (fr c).toNat) = v ∨ ∃ x ∈ st, rr x = rr (fr c).toNat) ∧ (mk (rr (to c).toNat) = v ∨ ∃ x ∈ st, rr x = rr (to c).toNat)
theorem MkC.all {so fr to li mk : Nat → Int} {N : Nat} {rr : Nat → Nat} {tr : Nat → TE} {v : Int} (hg : GW so fr to li N rr) (hT : GT so fr to rr N tr) (hM : MkC so fr to mk N rr v []) : ∀ (T : TE) (c : Nat), c < N → tr c = T → mk (rr c) = v → ∀ y, oc (y + 2) T = true → mk y = v
  | .var x, c, hc, e, hm, y, hy => by
    obtain ⟨a1, a2, a3⟩ := hT c hc
    rw [e] at a3
    by_cases k2 : so (rr c) = 2
    · rw [if_pos k2] at a3; exact nomatch a3
    · rw [if_neg k2] at a3
      have hx : x = y + 2 := by
        have : (x == y + 2) = true := hy
        exact of_decide_eq_true this
      unfold lfc at a3
      by_cases k0 : so (rr c) = 0
      · rw [if_pos k0] at a3; have := Lean.Data.AC.Expr.var.inj a3; omega
      · rw [if_neg k0] at a3
        by_cases k1 : so (rr c) = 1
        · rw [if_pos k1] at a3; have := Lean.Data.AC.Expr.var.inj a3; omega
        · rw [if_neg k1] at a3
          have := Lean.Data.AC.Expr.var.inj a3
          rw [show y = rr c by omega]
          exact hm
  | .op A B, c, hc, e, hm, y, hy => by
    obtain ⟨a1, a2, a3⟩ := hT c hc
    rw [e] at a3
    by_cases k2 : so (rr c) = 2
    · rw [if_pos k2] at a3
      obtain ⟨b1, b2⟩ := hg.2.2 _ a1 k2
      obtain ⟨m1, m2⟩ := hM (rr c) a1 a2 hm k2
      have m1 := m1.resolve_right (fun ⟨x, hx, _⟩ => absurd hx List.not_mem_nil)
      have m2 := m2.resolve_right (fun ⟨x, hx, _⟩ => absurd hx List.not_mem_nil)
      have e1 := (Lean.Data.AC.Expr.op.inj a3).1
      have e2 := (Lean.Data.AC.Expr.op.inj a3).2
      have hy : oc (y + 2) A = true ∨ oc (y + 2) B = true := by
        simp only [oc, Bool.or_eq_true] at hy
        exact hy
      rcases hy with hy | hy
      · exact MkC.all hg hT hM A _ (by omega) e1.symm m1 y hy
      · exact MkC.all hg hT hM B _ (by omega) e2.symm m2 y hy
    · rw [if_neg k2] at a3
      obtain ⟨v', hv⟩ := lfc_var (k := so (rr c)) (r := rr c)
      rw [hv] at a3
      exact nomatch a3
def MkQ (h0 : AH) (a0 K0 : Nat → Nat) (N T : Nat) (rr : Nat → Nat) (tr : Nat → TE) (v : Int) (h1 : AH) : Prop := ∃ a1 K1, YC h0 a0 K0 h1 a1 K1 [3, 10] [11] ∧ ((∀ k, k ≠ 10 → K1 k = K0 k) ∧ ∀ k, k ∈ tks → k ≠ 10 → a1 k = a0 k) ∧ MkC (soY (h1.vl (a1 0))) (h1.vl (a1 0)) (h1.vl (a1 1)) (h1.vl (a1 3)) N rr v [] ∧ (∀ c, c < N → soY (h0.vl (a0 0)) c = 3 → rr c = c → (h1.vl (a1 3) c = v ↔ h0.vl (a0 3) c = v ∨ oc (c + 2) (tr T) = true)) ∧ ∀ c, h1.vl (a1 3) c = h0.vl (a0 3) c ∨ (c < N ∧ h1.vl (a1 3) c = v)
set_option maxRecDepth 100000 in
theorem my_loop {N T : Nat} {v : Int} {rr : Nat → Nat} {tr : Nat → TE} {h0 : AH} {a0 K0 : Nat → Nat} (hN : N ≤ 61000) (hTN : T < N) (w0 : YW h0 a0 N rr tr) : ∀ (m : Nat) (st : List Nat) (i : Nat) (v4 : AV) (h : AH) (a K : Nat → Nat), st.length + 3 * cMk (h.vl (a 3)) v N ≤ m → st.length + cMk (h.vl (a 3)) v N ≤ N + 1 → i + m ≤ 900000 → YC h0 a0 K0 h a K [3, 10] [11] → ((∀ k, k ≠ 10 → K k = K0 k) ∧ ∀ k, k ∈ tks → k ≠ 10 → a k = a0 k) → YB h K N → YW h a N rr tr → YTr h a K st → (∀ x ∈ st, x < N ∧ ∀ y, oc y (tr x) = true → oc y (tr T) = true) →
    MkC (soY (h.vl (a 0))) (h.vl (a 0)) (h.vl (a 1)) (h.vl (a 3)) N rr v st → (h.vl (a 3) (rr T) = v ∨ ∃ x ∈ st, rr x = rr T) → (∀ c, c < N → soY (h0.vl (a0 0)) c = 3 → h.vl (a 3) c = v → h0.vl (a0 3) c = v ∨ oc (c + 2) (tr T) = true) → (∀ c, h.vl (a 3) c = h0.vl (a0 3) c ∨ (c < N ∧ h.vl (a 3) c = v)) →
    EV mX9_markAll 3 12 [rv 9, iv (T : Int), iv v, iv (i : Int), v4] [] h (on (MkQ h0 a0 K0 N T rr tr v)) := by
  have done : ∀ (i : Nat) (v4 : AV) (h : AH) (a K : Nat → Nat), i ≤ 900000 → YC h0 a0 K0 h a K [3, 10] [11] → ((∀ k, k ≠ 10 → K k = K0 k) ∧ ∀ k, k ∈ tks → k ≠ 10 → a k = a0 k) → YW h a N rr tr → YTr h a K [] → MkC (soY (h.vl (a 0))) (h.vl (a 0)) (h.vl (a 1)) (h.vl (a 3)) N rr v [] → (h.vl (a 3) (rr T) = v ∨ ∃ x ∈ ([] : List Nat), rr x = rr T) → (∀ c, c < N → soY (h0.vl (a0 0)) c = 3 → h.vl (a 3) c = v → h0.vl (a0 3) c = v ∨ oc (c + 2) (tr T) = true) → (∀ c, h.vl (a 3) c = h0.vl (a0 3) c ∨ (c < N ∧ h.vl (a 3) c = v)) → EV mX9_markAll 3 12 [rv 9, iv (T : Int), iv v, iv (i : Int), v4] [] h (on (MkQ h0 a0 K0 N T rr tr v)) := by
    intro i v4 h a K hi c hK w t hM hr hs hu
    have g := c.1
    have t1 : h.vl 9 11 = 0 := t.1
    have hr := hr.resolve_right (fun ⟨x, hx, _⟩ => absurd hx List.not_mem_nil)
    refine ev_iload_n dX9_markAll_12 rfl ?_
    refine ev_ldci (x := 1000000) dX9_markAll_13 q_kst0 (by decide) (by unfold ir; omega) ?_
    refine ev_icmpge 100 dX9_markAll_15 (fun h_no => (by exfalso; omega)) (fun hb => ?_)
    refine ev_aload_n dX9_markAll_18 rfl ?_
    refine ev_getiv dX9_markAll_19 fX9_95 g.1.k9 g.1.n9 rfl t1 ?_
    refine ev_ifle 100 dX9_markAll_22 (fun hb2 => ?_) (fun h_no => (by exfalso; omega))
    refine ev_vret dX9_markAll_100 (⟨rfl, a, K, c, hK, hM, fun x hx h3 hrx => ⟨hs x hx h3, fun z => ?_⟩, hu⟩)
    rcases z with z | z
    · rcases hu x with y | y
      · rw [y]; exact z
      · exact y.2
    · exact MkC.all w.1 w.2 hM (tr T) T hTN rfl hr x z
  intro m
  induction m with
  | zero =>
    intro st i v4 h a K hm hl hi c hK b w t hx hM hr hs hu
    have : st = [] := List.eq_nil_of_length_eq_zero (by omega)
    subst this
    exact done i v4 h a K (by omega) c hK w t hM hr hs hu
  | succ m ih =>
    intro st i v4 h a K hm hl hi c hK b w t hx hM hr hs hu
    cases st with
    | nil => exact done i v4 h a K (by omega) c hK w t hM hr hs hu
    | cons x st =>
      obtain ⟨hxN, hxo⟩ := hx x List.mem_cons_self
      have g := c.1
      obtain ⟨q1, q2, q3, q4, q5⟩ := w.nd hxN
      have t1 := t.1
      have cl := cMk_le (mk := h.vl (a 3)) (v := v) N
      rw [List.length_cons] at hm hl
      have d30 := g.d 0 3
      have d31 := g.d 1 3
      have d32 := g.d 2 3
      refine ev_iload_n dX9_markAll_12 rfl ?_
      refine ev_ldci (x := 1000000) dX9_markAll_13 q_kst0 (by decide) (by unfold ir; omega) ?_
      refine ev_icmpge 100 dX9_markAll_15 (fun h_no => (by exfalso; omega)) (fun hb => ?_)
      refine ev_aload_n dX9_markAll_18 rfl ?_
      refine ev_getiv dX9_markAll_19 fX9_95 g.1.k9 g.1.n9 rfl t1 ?_
      refine ev_ifle 100 dX9_markAll_22 (fun h_no => (by exfalso; simp only [List.length_cons] at h_no; omega)) (fun hb2 => ?_)
      refine ev_aload_n dX9_markAll_25 rfl ?_
      refine ev_aload_n dX9_markAll_26 rfl ?_
      refine ev_cvi dX9_markAll_27 lX9_103 (s_takeTrail g t) (by decide) g.1.k9 g.1.n9 rfl rfl rfl (Nat.le_of_ble_eq_true rfl) rfl (fun r h1 q => ?_)
      obtain ⟨rfl, c1, t2⟩ := q
      have C1 := c.tr (c1.wk (by decide) (by decide))
      have g1 := c1.1
      have b1 := b.mv c1 (fun _ _ => rfl)
      have w1 := w.mv c1
      have m1 := (c1.rw' 3).2
      have v3 := g1.v 3
      have n3 := g1.n 3
      have B0 := b1.2.2
      have B1 := b1.2.1
      refine ev_cvi dX9_markAll_30 lX9_67 (s_known g1 b1 w1.1 hxN) (by decide) g1.1.k9 g1.1.n9 rfl rfl rfl (Nat.le_of_ble_eq_true rfl) rfl (fun r z1 q => ?_)
      obtain ⟨rfl, e⟩ := q
      rw [e]
      refine ev_ist4 dX9_markAll_33 ?_
      refine ev_aload_n dX9_markAll_35 rfl ?_
      refine ev_getrv dX9_markAll_36 fX9_21 g1.1.k9 g1.1.n9 rfl v3 ?_
      refine ev_iload dX9_markAll_39 rfl ?_
      refine ev_csi dX9_markAll_41 lX9_63 (s_atJ (g1.k 3) n3 (g1.r 3).2) (by decide) rfl rfl (Nat.le_of_ble_eq_true rfl) rfl (fun r z3 q => ?_)
      obtain ⟨rfl, e⟩ := q
      obtain ⟨mx, hmx⟩ : ∃ mx, h.vl (a 3) (rr x) = mx := ⟨_, rfl⟩
      rw [e, if_pos (by omega), show ((rr x : Nat) : Int).toNat = rr x from rfl, m1, hmx]
      refine ev_iload_n dX9_markAll_44 rfl ?_
      rw [← (c1.rw' 0).2, ← (c1.rw' 1).2] at q4
      by_cases d1 : mx = v
      · skip
        refine ev_icmpeq 94 dX9_markAll_45 (fun hb3 => ?_) (fun h_no => (by exfalso; omega))
        refine ev_iin3 dX9_markAll_94 (by unfold ir; omega) ?_
        refine ev_gt 12 dX9_markAll_97 ?_
        rw [show (i : Int) + 1 = ((i + 1 : Nat) : Int) by omega]
        have gone : ∀ y, (∃ z ∈ x :: st, rr z = y) → h.vl (a 3) y = v ∨ ∃ z ∈ st, rr z = y := by
          rintro y ⟨z, hz, e⟩
          rcases List.mem_cons.mp hz with rfl | hz
          · exact Or.inl (by rw [← e, hmx]; exact d1)
          · exact Or.inr ⟨z, hz, e⟩
        refine ih st (i + 1) _ h1 a K (by rw [m1]; omega) (by rw [m1]; omega) (by omega) C1 hK b1 w1 t2 (fun y hy => hx y (List.mem_cons_of_mem _ hy)) ?_ ?_ (by rw [m1]; exact hs) (by rw [m1]; exact hu)
        · rw [m1, (c1.rw' 0).2, (c1.rw' 1).2]
          intro y hy hyr hyv hy2
          obtain ⟨a1, a2⟩ := hM y hy hyr hyv hy2
          exact ⟨a1.elim Or.inl (gone _), a2.elim Or.inl (gone _)⟩
        · rw [m1]
          exact hr.elim Or.inl (gone _)
      refine ev_icmpeq 94 dX9_markAll_45 (fun h_no => (by exfalso; omega)) (fun hb3 => ?_)
      refine ev_aload_n dX9_markAll_48 rfl ?_
      refine ev_getrv dX9_markAll_49 fX9_21 g1.1.k9 g1.1.n9 rfl v3 ?_
      refine ev_iload dX9_markAll_52 rfl ?_
      refine ev_iload_n dX9_markAll_54 rfl ?_
      refine ev_csv dX9_markAll_55 lX9_59 (s_putJ (g1.k 3) n3 (g1.r 3).2) (by decide) rfl rfl (Nat.le_of_ble_eq_true rfl) rfl (fun h2 q => ?_)
      rw [if_pos (by omega), show ((rr x : Nat) : Int).toNat = rr x from rfl] at q
      have c2 : YC h1 a K h2 a K [3] [] := by rw [q]; exact g1.pw (by decide)
      have C2 := C1.tr (c2.wk (by decide) (by decide))
      have g2 := c2.1
      have b2 := b1.mv c2 (fun _ _ => rfl)
      have w2 := w1.mv c2
      have t3 := t2.mv c2 rfl
      have m2 : h2.vl (a 3) = upI (h.vl (a 3)) (rr x) v := by rw [q, put_row, m1]
      have e0 : h2.vl (a 0) = h.vl (a 0) := by rw [(c2.rw' 0).2, (c1.rw' 0).2]
      have e1 : h2.vl (a 1) = h.vl (a 1) := by rw [(c2.rw' 1).2, (c1.rw' 1).2]
      have E0 : h.vl (a 0) = h0.vl (a0 0) := by
        have := (c.2.2.1 0 (by decide) (by decide))
        rw [this.1, this.2]
      have cu := cMk_up (mk := h.vl (a 3)) (v := v) (c := rr x) (by rw [hmx]; exact d1) N
      rw [if_pos q1] at cu
      have lo : ∀ y, h.vl (a 3) y = v → upI (h.vl (a 3)) (rr x) v y = v := fun y hy => by
        unfold upI
        split
        · rfl
        · exact hy
      have self : upI (h.vl (a 3)) (rr x) v (rr x) = v := if_pos rfl
      have gone : ∀ y, (∃ z ∈ x :: st, rr z = y) → upI (h.vl (a 3)) (rr x) v y = v ∨ ∃ z ∈ st, rr z = y := by
        rintro y ⟨z, hz, e⟩
        rcases List.mem_cons.mp hz with rfl | hz
        · exact Or.inl (by rw [← e]; exact self)
        · exact Or.inr ⟨z, hz, e⟩
      have hr2 : ∀ st' : List Nat, (∀ z ∈ st, z ∈ st') → upI (h.vl (a 3)) (rr x) v (rr T) = v ∨ ∃ z ∈ st', rr z = rr T := fun st' hst => by
        rcases hr with z | z
        · exact Or.inl (lo _ z)
        · exact (gone _ z).imp id (fun ⟨z, z1, z2⟩ => ⟨z, hst z z1, z2⟩)
      have hs2 : ∀ c, c < N → soY (h0.vl (a0 0)) c = 3 → upI (h.vl (a 3)) (rr x) v c = v → h0.vl (a0 3) c = v ∨ oc (c + 2) (tr T) = true := by
        intro y hy hy3 hyv
        by_cases e : y = rr x
        · right
          refine hxo _ ?_
          obtain ⟨p1, p2, p3⟩ := w.2 x hxN
          have k3 : soY (h.vl (a 0)) (rr x) = 3 := by rw [← e, E0]; exact hy3
          rw [if_neg (by omega), lfc, if_neg (by omega), if_neg (by omega)] at p3
          rw [p3, ← e]
          simp [oc]
        · rw [show upI (h.vl (a 3)) (rr x) v y = h.vl (a 3) y from if_neg e] at hyv
          exact hs y hy hy3 hyv
      have hu2 : ∀ c, upI (h.vl (a 3)) (rr x) v c = h0.vl (a0 3) c ∨ (c < N ∧ upI (h.vl (a 3)) (rr x) v c = v) := by
        intro y
        by_cases e : y = rr x
        · exact Or.inr ⟨by omega, by rw [e]; exact self⟩
        · rw [show upI (h.vl (a 3)) (rr x) v y = h.vl (a 3) y from if_neg e]
          exact hu y
      refine ev_aload_n dX9_markAll_58 rfl ?_
      refine ev_iload dX9_markAll_59 rfl ?_
      refine ev_cvi dX9_markAll_61 lX9_71 (s_kindY g2 b2 q1) (by decide) g2.1.k9 g2.1.n9 rfl rfl rfl (Nat.le_of_ble_eq_true rfl) rfl (fun r z2 q => ?_)
      obtain ⟨rfl, e⟩ := q
      rw [e]
      rw [← (c2.rw' 0).2, ← (c2.rw' 1).2] at q4
      refine ev_iconst dX9_markAll_64 ?_
      by_cases k2 : soY (h2.vl (a 0)) (rr x) = 2
      · skip
        obtain ⟨f, o, f1, f2, f3, f4, f5⟩ := q4 k2
        have v1 := g2.v 1
        have n1 := g2.n 1
        refine ev_icmpne 94 dX9_markAll_65 (fun h_no => (by exfalso; omega)) (fun hb4 => ?_)
        refine ev_aload_n dX9_markAll_68 rfl ?_
        refine ev_aload_n dX9_markAll_69 rfl ?_
        refine ev_getrv dX9_markAll_70 fX9_15 g2.1.k9 g2.1.n9 rfl v1 ?_
        refine ev_iload dX9_markAll_73 rfl ?_
        refine ev_csi dX9_markAll_75 lX9_63 (s_atJ (g2.k 1) n1 (g2.r 1).2) (by decide) rfl rfl (Nat.le_of_ble_eq_true rfl) rfl (fun r z3 q => ?_)
        obtain ⟨rfl, e⟩ := q
        rw [e, if_pos (by omega), show ((rr x : Nat) : Int).toNat = rr x from rfl, f2]
        refine ev_cvv dX9_markAll_78 lX9_98 (s_addTrail g2 t3 (by omega)) (by decide) g2.1.k9 g2.1.n9 rfl rfl rfl (Nat.le_of_ble_eq_true rfl) rfl (fun h3 q => ?_)
        obtain ⟨a3, K3, c3, t4, hK3⟩ := q
        have g3 := c3.1
        have v0 := g3.v 0
        have n0 := g3.n 0
        have f1' : h3.vl (a3 0) (rr x) = (f : Int) := by rw [(c3.rw' 0).1, (c3.rw' 0).2]; exact f1
        have K30 := hK3 0 (by decide)
        refine ev_aload_n dX9_markAll_81 rfl ?_
        refine ev_aload_n dX9_markAll_82 rfl ?_
        refine ev_getrv dX9_markAll_83 fX9_9 g3.1.k9 g3.1.n9 rfl v0 ?_
        refine ev_iload dX9_markAll_86 rfl ?_
        refine ev_csi dX9_markAll_88 lX9_63 (s_atJ (g3.k 0) n0 (g3.r 0).2) (by decide) rfl rfl (Nat.le_of_ble_eq_true rfl) rfl (fun r z3 q => ?_)
        obtain ⟨rfl, e⟩ := q
        rw [e, if_pos (by omega), show ((rr x : Nat) : Int).toNat = rr x from rfl, f1']
        refine ev_cvv dX9_markAll_91 lX9_98 (s_addTrail g3 t4 (by rw [List.length_cons]; omega)) (by decide) g3.1.k9 g3.1.n9 rfl rfl rfl (Nat.le_of_ble_eq_true rfl) rfl (fun h4 q => ?_)
        obtain ⟨a4, K4, c4, t5, hK4⟩ := q
        have C4 := C2.tr ((c3.wk (by decide) (by decide)).tr (c4.wk (by decide) (by decide)))
        have M4 : h4.vl (a4 3) = upI (h.vl (a 3)) (rr x) v := by
          rw [(c4.rw' 3).1, (c4.rw' 3).2, (c3.rw' 3).1, (c3.rw' 3).2, m2]
        have Z0 : h4.vl (a4 0) = h.vl (a 0) := by
          rw [(c4.rw' 0).1, (c4.rw' 0).2, (c3.rw' 0).1, (c3.rw' 0).2, e0]
        have Z1 : h4.vl (a4 1) = h.vl (a 1) := by
          rw [(c4.rw' 1).1, (c4.rw' 1).2, (c3.rw' 1).1, (c3.rw' 1).2, e1]
        have KK : (∀ k, k ≠ 10 → K4 k = K0 k) ∧ ∀ k, k ∈ tks → k ≠ 10 → a4 k = a0 k := by
          refine ⟨fun k hk => by rw [hK4 k hk, hK3 k hk]; exact hK.1 k hk, fun k hk h10 => ?_⟩
          have n10 : k ∉ [10] := fun z => h10 (List.mem_singleton.mp z)
          rw [(c4.2.2.1 k hk n10).1, (c3.2.2.1 k hk n10).1]
          exact hK.2 k hk h10
        refine ev_iin3 dX9_markAll_94 (by unfold ir; omega) ?_
        refine ev_gt 12 dX9_markAll_97 ?_
        rw [show (i : Int) + 1 = ((i + 1 : Nat) : Int) by omega]
        refine ih (f :: o :: st) (i + 1) _ h4 a4 K4 (by rw [M4, List.length_cons, List.length_cons]; omega) (by rw [M4, List.length_cons, List.length_cons]; omega) (by omega) C4 KK ((b2.mv c3 (fun k hk => hK3 k (by omega))).mv c4 (fun k hk => hK4 k (by omega))) ((w2.mv c3).mv c4) t5 (fun y hy => ?_) ?_ ?_ (by rw [M4]; exact hs2) (by rw [M4]; exact hu2)
        · rcases List.mem_cons.mp hy with rfl | hy
          · exact ⟨f3, fun z hz => hxo z (by rw [f5]; simp only [oc, hz, Bool.true_or])⟩
          · rcases List.mem_cons.mp hy with rfl | hy
            · exact ⟨f4, fun z hz => hxo z (by rw [f5]; simp only [oc, hz, Bool.or_true])⟩
            · exact hx y (List.mem_cons_of_mem _ hy)
        · rw [M4, Z0, Z1]
          intro y hy hyr hyv hy2
          by_cases e : y = rr x
          · rw [e]
            rw [e0] at f1
            rw [e1] at f2
            rw [f1, f2]
            exact ⟨Or.inr ⟨f, List.mem_cons_self, rfl⟩, Or.inr ⟨o, List.mem_cons_of_mem _ List.mem_cons_self, rfl⟩⟩
          · rw [show upI (h.vl (a 3)) (rr x) v y = h.vl (a 3) y from if_neg e] at hyv
            obtain ⟨p1, p2⟩ := hM y hy hyr hyv hy2
            have up : ∀ q, (upI (h.vl (a 3)) (rr x) v q = v ∨ ∃ z ∈ st, rr z = q) → upI (h.vl (a 3)) (rr x) v q = v ∨ ∃ z ∈ f :: o :: st, rr z = q := fun q hq => hq.imp id (fun ⟨z, z1, z2⟩ => ⟨z, List.mem_cons_of_mem _ (List.mem_cons_of_mem _ z1), z2⟩)
            exact ⟨up _ (p1.elim (fun z => Or.inl (lo _ z)) (gone _)), up _ (p2.elim (fun z => Or.inl (lo _ z)) (gone _))⟩
        · rw [M4]
          exact hr2 _ (fun z hz => List.mem_cons_of_mem _ (List.mem_cons_of_mem _ hz))
      refine ev_icmpne 94 dX9_markAll_65 (fun hb4 => ?_) (fun h_no => (by exfalso; omega))
      refine ev_iin3 dX9_markAll_94 (by unfold ir; omega) ?_
      refine ev_gt 12 dX9_markAll_97 ?_
      rw [show (i : Int) + 1 = ((i + 1 : Nat) : Int) by omega]
      refine ih st (i + 1) _ h2 a K (by rw [m2]; omega) (by rw [m2]; omega) (by omega) C2 hK b2 w2 t3 (fun y hy => hx y (List.mem_cons_of_mem _ hy)) ?_ (by rw [m2]; exact hr2 st (fun _ z => z)) (by rw [m2]; exact hs2) (by rw [m2]; exact hu2)
      rw [m2, e0, e1]
      intro y hy hyr hyv hy2
      by_cases e : y = rr x
      · rw [e] at hy2
        rw [e0] at k2
        exact absurd hy2 k2
      · rw [show upI (h.vl (a 3)) (rr x) v y = h.vl (a 3) y from if_neg e] at hyv
        obtain ⟨p1, p2⟩ := hM y hy hyr hyv hy2
        exact ⟨p1.elim (fun z => Or.inl (lo _ z)) (gone _), p2.elim (fun z => Or.inl (lo _ z)) (gone _)⟩
set_option maxRecDepth 100000 in
theorem s_markAll {h : AH} {a K : Nat → Nat} {N t : Nat} {v : Int} {rr : Nat → Nat} {tr : Nat → TE} (g : YA h a K) (b : YB h K N) (w : YW h a N rr tr) (ht0 : t < N) (hN : N ≤ 61000) (hM : MkC (soY (h.vl (a 0))) (h.vl (a 0)) (h.vl (a 1)) (h.vl (a 3)) N rr v []) : CV mX9_markAll 3 [rv 9, iv (t : Int), iv v] h (on (MkQ h a K N t rr tr v)) := by
  refine cv_of cdX9_markAll ?_
  show EV _ _ 0 [rv 9, iv (t : Int), iv v, uv, uv] [] h _
  have c1 : YC h a K (h.put 9 11 0) a K [] [11] := g.pf (by decide)
  obtain ⟨h1, e1⟩ : ∃ h1, h1 = h.put 9 11 0 := ⟨_, rfl⟩
  rw [← e1] at c1
  have g1 := c1.1
  have t1 : YTr h1 a K [] := ⟨by rw [e1]; rfl, trivial, Nat.zero_le _⟩
  refine ev_aload_n dX9_markAll_0 rfl ?_
  refine ev_iconst dX9_markAll_1 ?_
  refine ev_pt dX9_markAll_2 fX9_95 g.1.k9 g.1.n9 rfl ?_
  rw [← e1]
  refine ev_aload_n dX9_markAll_5 rfl ?_
  refine ev_iload_n dX9_markAll_6 rfl ?_
  refine ev_cvv dX9_markAll_7 lX9_98 (s_addTrail g1 t1 (by decide)) (by decide) g1.1.k9 g1.1.n9 rfl rfl rfl (Nat.le_of_ble_eq_true rfl) rfl (fun h2 q => ?_)
  obtain ⟨a2, K2, c2, t2, hK2⟩ := q
  refine ev_iconst dX9_markAll_10 ?_
  refine ev_ist3 dX9_markAll_11 ?_
  have C2 := (c1.wk (D' := [3, 10]) (F' := [11]) (by decide) (by decide)).tr (c2.wk (by decide) (by decide))
  have e0 : h2.vl (a2 0) = h.vl (a 0) := by rw [(c2.rw' 0).1, (c2.rw' 0).2, (c1.rw' 0).2]
  have e1' : h2.vl (a2 1) = h.vl (a 1) := by rw [(c2.rw' 1).1, (c2.rw' 1).2, (c1.rw' 1).2]
  have e3 : h2.vl (a2 3) = h.vl (a 3) := by rw [(c2.rw' 3).1, (c2.rw' 3).2, (c1.rw' 3).2]
  have cl := cMk_le (mk := h.vl (a 3)) (v := v) N
  refine my_loop hN ht0 w (1 + 3 * N) [t] 0 uv h2 a2 K2 (by rw [e3]; show 1 + _ ≤ _; omega) (by rw [e3]; show 1 + _ ≤ _; omega) (by omega) C2 ⟨hK2, fun k hk h10 => (c2.2.2.1 k hk (fun z => h10 (List.mem_singleton.mp z))).1⟩ ((b.mv c1 (fun _ _ => rfl)).mv c2 (fun k hk => hK2 k (by omega))) ((w.mv c1).mv c2) t2 (fun x hx => by rw [List.mem_singleton.mp hx]; exact ⟨ht0, fun _ z => z⟩) ?_ (Or.inr ⟨t, List.mem_cons_self, rfl⟩) (fun c hc h3 hv => Or.inl (by rw [e3] at hv; exact hv)) (fun c => Or.inl (by rw [e3]))
  rw [e0, e1', e3]
  intro c hc hcr hcv hc2
  obtain ⟨p1, p2⟩ := hM c hc hcr hcv hc2
  exact ⟨p1.imp id (fun ⟨x, hx, _⟩ => absurd hx List.not_mem_nil), p2.imp id (fun ⟨x, hx, _⟩ => absurd hx List.not_mem_nil)⟩
