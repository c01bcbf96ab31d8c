/-! the class's types: their rows, which grow -/
abbrev tks : List Nat := [0, 1, 2, 3, 6, 7, 8, 10, 12]
/-- where each row lies, and how long it is -/
def YA (h : AH) (a K : Nat → Nat) : Prop := CI h ∧ (∀ k, k ∈ tks → h.vl 9 k = (a k : Int) ∧ h.kd (a k) = (100, K k) ∧ a k < h.n ∧ ((10 ≤ a k ∧ a k ≤ 18) ∨ 94 ≤ a k) ∧ 64 ≤ K k ∧ K k ≤ 400000) ∧ ∀ k l, k ∈ tks → l ∈ tks → a k = a l → k = l
def capK (K : Nat → Nat) : Nat := K 0 + K 1 + K 2 + K 3 + K 6 + K 7 + K 8 + K 10
/-- what stays elsewhere, and what it costs -/
def YF (h : AH) (a K : Nat → Nat) (h1 : AH) (a1 K1 : Nat → Nat) : Prop := h.n ≤ h1.n ∧ (∀ c, c < h.n → h1.kd c = h.kd c) ∧ (∀ c, c < h.n → c ≠ 9 → (∀ k, k ∈ tks → a k ≠ c) → h1.vl c = h.vl c ∧ ∀ k, k ∈ tks → a1 k ≠ c) ∧ (64 * h1.cs + capK K ≤ 64 * h.cs + capK K1 ∧ h1.ss + 2 * capK K ≤ h.ss + 2 * capK K1 ∧ capK K ≤ capK K1)
/-- all rows and fields stay but for D and F -/
def YE (h : AH) (a : Nat → Nat) (h1 : AH) (a1 : Nat → Nat) (D F : List Nat) : Prop := (∀ k, k ∈ tks → k ∉ D → a1 k = a k ∧ h1.vl (a k) = h.vl (a k)) ∧ ∀ j, j ∉ tks → j ∉ F → h1.vl 9 j = h.vl 9 j
def YC (h : AH) (a K : Nat → Nat) (h1 : AH) (a1 K1 : Nat → Nat) (D F : List Nat) : Prop := YA h1 a1 K1 ∧ YF h a K h1 a1 K1 ∧ YE h a h1 a1 D F
theorem YC.rf {h : AH} {a K : Nat → Nat} {D F : List Nat} (g : YA h a K) : YC h a K h a K D F := ⟨g, ⟨Nat.le_refl _, fun _ _ => rfl, fun _ _ _ hk => ⟨rfl, hk⟩, Nat.le_refl _, Nat.le_refl _, Nat.le_refl _⟩, fun _ _ _ => ⟨rfl, rfl⟩, fun _ _ _ => rfl⟩
theorem YC.tr {h h1 h2 : AH} {a K a1 K1 a2 K2 : Nat → Nat} {D F : List Nat} (p : YC h a K h1 a1 K1 D F) (q : YC h1 a1 K1 h2 a2 K2 D F) : YC h a K h2 a2 K2 D F := by
  obtain ⟨p1, ⟨p2, p3, p4, p5, p6, p7⟩, p8, p9⟩ := p
  obtain ⟨q1, ⟨q2, q3, q4, q5, q6, q7⟩, q8, q9⟩ := q
  refine ⟨q1, ⟨by omega, fun c hc => (q3 c (by omega)).trans (p3 c hc), fun c hc h9 hk => ?_, by omega, by omega, by omega⟩, fun k hk hD => ?_, fun j hj hF => (q9 j hj hF).trans (p9 j hj hF)⟩
  · obtain ⟨e1, e2⟩ := p4 c hc h9 hk
    obtain ⟨e3, e4⟩ := q4 c (by omega) h9 e2
    exact ⟨e3.trans e1, e4⟩
  · obtain ⟨e1, e2⟩ := p8 k hk hD
    obtain ⟨e3, e4⟩ := q8 k hk hD
    rw [e1] at e3 e4
    exact ⟨e3, e4.trans e2⟩
theorem YC.wk {h h1 : AH} {a K a1 K1 : Nat → Nat} {D F D' F' : List Nat} (p : YC h a K h1 a1 K1 D F) (hD : ∀ x ∈ D, x ∈ D') (hF : ∀ x ∈ F, x ∈ F') : YC h a K h1 a1 K1 D' F' :=
  ⟨p.1, p.2.1, fun k hk hn => p.2.2.1 k hk (fun z => hn (hD k z)), fun j hj hn => p.2.2.2 j hj (fun z => hn (hF j z))⟩
theorem YC.fl {h h1 : AH} {a K a1 K1 : Nat → Nat} {D F : List Nat} (p : YC h a K h1 a1 K1 D F) (j : Nat) (hj : j ∉ tks := by decide) (hF : j ∉ F := by decide) : h1.vl 9 j = h.vl 9 j := p.2.2.2 j hj hF
theorem YC.rw' {h h1 : AH} {a K a1 K1 : Nat → Nat} {D F : List Nat} (p : YC h a K h1 a1 K1 D F) (k : Nat) (hk : k ∈ tks := by decide) (hD : k ∉ D := by decide) : a1 k = a k ∧ h1.vl (a k) = h.vl (a k) := p.2.2.1 k hk hD
section YSe
variable {h : AH} {a K : Nat → Nat}
theorem YA.v (g : YA h a K) (k : Nat) (hk : k ∈ tks := by decide) : h.vl 9 k = (a k : Int) := (g.2.1 k hk).1
theorem YA.k (g : YA h a K) (k : Nat) (hk : k ∈ tks := by decide) : h.kd (a k) = (100, K k) := (g.2.1 k hk).2.1
theorem YA.n (g : YA h a K) (k : Nat) (hk : k ∈ tks := by decide) : a k < h.n := (g.2.1 k hk).2.2.1
theorem YA.z (g : YA h a K) (k : Nat) (hk : k ∈ tks := by decide) : (10 ≤ a k ∧ a k ≤ 18) ∨ 94 ≤ a k := (g.2.1 k hk).2.2.2.1
theorem YA.r (g : YA h a K) (k : Nat) (hk : k ∈ tks := by decide) : 64 ≤ K k ∧ K k ≤ 400000 := (g.2.1 k hk).2.2.2.2
theorem YA.d (g : YA h a K) (k l : Nat) (hne : k ≠ l := by decide) (hk : k ∈ tks := by decide) (hl : l ∈ tks := by decide) : a k ≠ a l := fun e => hne (g.2.2 k l hk hl e)
theorem cis_z {c j : Nat} (h : (c, j) ∈ CIs) : ¬ ((10 ≤ c ∧ c ≤ 18) ∨ 94 ≤ c) ∧ (c = 9 → j = 12) := by
  have : CIs.all (fun q => decide (¬ ((10 ≤ q.1 ∧ q.1 ≤ 18) ∨ 94 ≤ q.1) ∧ (q.1 = 9 → q.2 = 12))) = true := by decide
  exact of_decide_eq_true (List.all_eq_true.mp this _ h)
/-- a field is written -/
theorem YA.pf (g : YA h a K) {j : Nat} {x : Int} (hj : j ∉ tks) : YC h a K (h.put 9 j x) a K [] [j] := by
  obtain ⟨g1, g2, g3⟩ := g
  have n94 := g1.1
  have ne : ∀ c, c ≠ 9 → (h.put 9 j x).vl c = h.vl c := fun c hc => put_ne _ hc
  refine ⟨⟨g1.gen (Nat.le_refl _) (fun c hc => rfl) (fun c i hm => ?_), fun k hk => ?_, g3⟩, ⟨Nat.le_refl _, fun _ _ => rfl, fun c _ h9 hk => ⟨ne c h9, hk⟩, Nat.le_refl _, Nat.le_refl _, Nat.le_refl _⟩, fun k hk _ => ⟨rfl, ne _ (by have := (g2 k hk).2.2.2.1; omega)⟩, fun i hi hF => ?_⟩
  · rw [AH.put_vl, if_neg]
    rintro ⟨e1, e2⟩
    have := (cis_z hm).2 e1
    rw [e2] at this
    rw [this] at hj
    exact hj (by decide)
  · obtain ⟨a1, a2⟩ := g2 k hk
    refine ⟨?_, a2⟩
    rw [AH.put_vl, if_neg (fun z => hj (by rw [← z.2]; exact hk))]
    exact a1
  · rw [AH.put_vl, if_neg (fun z => hF (by rw [z.2]; exact List.mem_cons_self))]
/-- a row is written -/
theorem YA.pr (g : YA h a K) {k : Nat} (hk : k ∈ tks) {h1 : AH} (en : h1.n = h.n) (ek : h1.kd = h.kd) (ec : h1.cs = h.cs) (es : h1.ss = h.ss) (ev : ∀ b, b ≠ a k → h1.vl b = h.vl b) : YC h a K h1 a K [k] [] := by
  obtain ⟨g1, g2, g3⟩ := g
  have n94 := g1.1
  have zk := (g2 k hk).2.2.2.1
  have e9 : h1.vl 9 = h.vl 9 := ev 9 (by omega)
  refine ⟨⟨g1.gen (by omega) (fun c hc => by rw [ek]) (fun c i hm => ?_), fun l hl => ?_, g3⟩, ⟨by omega, fun _ _ => by rw [ek], fun c _ h9 hk2 => ⟨ev c (fun e => hk2 k hk e.symm), hk2⟩, by omega, by omega, Nat.le_refl _⟩, fun l hl hD => ⟨rfl, ev _ (fun e => hD (by rw [g3 l k hl hk e]; exact List.mem_cons_self))⟩, fun i hi hF => by rw [e9]⟩
  · rw [ev c (fun e => (cis_z hm).1 (by rw [e]; exact zk))]
  · rw [e9, ek, en]
    exact g2 l hl
theorem YA.pw (g : YA h a K) {k : Nat} (hk : k ∈ tks) {i : Nat} {x : Int} : YC h a K (h.put (a k) i x) a K [k] [] := g.pr hk rfl rfl rfl rfl (fun b hb => put_ne _ hb)
theorem capK_up {k n : Nat} (hk : k ∈ tks) (h12 : k ≠ 12) : capK (upN K k n) + K k = capK K + n := by
  simp only [List.mem_cons, List.not_mem_nil, or_false] at hk
  unfold capK upN
  rcases hk with rfl | rfl | rfl | rfl | rfl | rfl | rfl | rfl | rfl <;> simp <;> omega
/-- a row grows -/
theorem YA.gr (g : YA h a K) {k : Nat} (hk : k ∈ tks) (h12 : k ≠ 12) (hK : 2 * K k ≤ 400000) : YC h a K ((eCpy h (a k) 100 (K k) (2 * K k)).put 9 k (h.n : Int)) (upN a k h.n) (upN K k (2 * K k)) [k] [] ∧ ∀ j, j < K k → ((eCpy h (a k) 100 (K k) (2 * K k)).put 9 k (h.n : Int)).vl h.n j = h.vl (a k) j := by
  obtain ⟨g1, g2, g3⟩ := g
  have n94 := g1.1
  have gk := g2 k hk
  obtain ⟨h1, e1⟩ : ∃ h1, h1 = (eCpy h (a k) 100 (K k) (2 * K k)).put 9 k (h.n : Int) := ⟨_, rfl⟩
  rw [← e1]
  have en : h1.n = h.n + 1 := by rw [e1]; rfl
  have ek : ∀ c, h1.kd c = if c = h.n then (100, 2 * K k) else h.kd c := fun c => by rw [e1]; rfl
  have ec : h1.cs = h.cs + 1 := by rw [e1]; rfl
  have es : h1.ss = h.ss + 2 * K k := by rw [e1]; rfl
  have ev : ∀ c j, h1.vl c j = if c = 9 ∧ j = k then (h.n : Int) else if c = h.n then cpN (h.vl (a k)) (if 2 * K k < K k then 2 * K k else K k) j else h.vl c j := fun c j => by
    rw [e1, AH.put_vl]
    by_cases z : c = 9 ∧ j = k
    · rw [if_pos z, if_pos z]
    · rw [if_neg z, if_neg z]
      unfold eCpy
      rw [AH.row_vl]
      by_cases y : c = h.n
      · rw [if_pos y, if_pos y]
      · rw [if_neg y, if_neg y, AH.new_vl, if_neg y]
  have ev2 : ∀ c, c ≠ 9 → c ≠ h.n → h1.vl c = h.vl c := fun c z1 z2 => by
    funext j
    rw [ev, if_neg (fun z => z1 z.1), if_neg z2]
  have cp := capK_up (K := K) (n := 2 * K k) hk h12
  refine ⟨⟨⟨g1.gen (by omega) (fun c hc => by rw [ek, if_neg (by omega)]) (fun c i hm => ?_), fun l hl => ?_, fun l m hl hm e => ?_⟩, ⟨by omega, fun c hc => by rw [ek, if_neg (by omega)], fun c hc h9 hk2 => ⟨ev2 c h9 (by omega), fun l hl => ?_⟩, by omega, by omega, by omega⟩, fun l hl hD => ?_, fun i hi hF => ?_⟩, fun j hj => ?_⟩
  · have cz := cis_z hm
    have c12 : ¬ (c = 9 ∧ i = k) := fun z => h12 (by rw [← z.2]; exact cz.2 z.1)
    rw [ev, if_neg c12, if_neg (by omega)]
  · unfold upN
    by_cases e : l = k
    · subst e
      rw [if_pos rfl, if_pos rfl]
      exact ⟨by rw [ev, if_pos ⟨rfl, rfl⟩], by rw [ek, if_pos rfl], by omega, Or.inr n94, by have := gk.2.2.2.2; omega⟩
    · rw [if_neg e, if_neg e]
      have gl := g2 l hl
      exact ⟨by rw [ev, if_neg (fun z => e z.2), if_neg (by omega)]; exact gl.1, by rw [ek, if_neg (by omega)]; exact gl.2.1, by omega, gl.2.2.2⟩
  · unfold upN at e
    have gl := (g2 l hl).2.2.1
    have gm := (g2 m hm).2.2.1
    by_cases e1 : l = k
    · by_cases e2 : m = k
      · rw [e1, e2]
      · rw [if_pos e1, if_neg e2] at e; omega
    · by_cases e2 : m = k
      · rw [if_neg e1, if_pos e2] at e; omega
      · rw [if_neg e1, if_neg e2] at e
        exact g3 l m hl hm e
  · unfold upN
    by_cases e1 : l = k
    · rw [if_pos e1]; omega
    · rw [if_neg e1]; exact hk2 l hl
  · have hlk : l ≠ k := fun e => hD (by rw [e]; exact List.mem_cons_self)
    refine ⟨if_neg hlk, ev2 _ ?_ ?_⟩
    · have := (g2 l hl).2.2.2.1; omega
    · have := (g2 l hl).2.2.1; omega
  · rw [ev, if_neg (fun z => hi (by rw [z.2]; exact hk)), if_neg (by omega)]
  · rw [ev, if_neg (by omega), if_pos rfl]
    unfold cpN
    rw [if_neg (show ¬ 2 * K k < K k by omega), if_pos hj]
end YSe
/-- the types that are still to be looked at -/
def YTr (h : AH) (a K : Nat → Nat) (st : List Nat) : Prop := h.vl 9 11 = (st.length : Int) ∧ SkL (h.vl (a 10)) st ∧ st.length ≤ K 10
theorem YTr.mv {h h1 : AH} {a K a1 K1 : Nat → Nat} {D F : List Nat} {st : List Nat} (s : YTr h a K st) (c : YC h a K h1 a1 K1 D F) (eK : K1 10 = K 10) (hD : 10 ∉ D := by decide) (hF : 11 ∉ F := by decide) : YTr h1 a1 K1 st := by
  obtain ⟨e1, e2⟩ := c.2.2.1 10 (by decide) hD
  exact ⟨(c.2.2.2 11 (by decide) hF).trans s.1, by rw [e1, e2]; exact s.2.1, by rw [eK]; exact s.2.2⟩
set_option maxRecDepth 100000 in
theorem s_addTrail {h : AH} {a K : Nat → Nat} {st : List Nat} {x : Nat} (g : YA h a K) (s : YTr h a K st) (hl : st.length ≤ 199000) : CV mX9_addTrail 2 [rv 9, iv (x : Int)] h (on fun h1 => ∃ a1 K1, YC h a K h1 a1 K1 [10] [11] ∧ YTr h1 a1 K1 (x :: st) ∧ ∀ k, k ≠ 10 → K1 k = K k) := by
  -- behind the growing
  have p29 : ∀ (h2 : AH) (a2 K2 : Nat → Nat), YC h a K h2 a2 K2 [10] [11] → h2.vl 9 11 = (st.length : Int) → SkL (h2.vl (a2 10)) st → st.length < K2 10 → (∀ k, k ≠ 10 → K2 k = K k) → EV mX9_addTrail 2 29 [rv 9, iv (x : Int)] [] h2 (on fun h1 => ∃ a1 K1, YC h a K h1 a1 K1 [10] [11] ∧ YTr h1 a1 K1 (x :: st) ∧ ∀ k, k ≠ 10 → K1 k = K k) := by
    intro h2 a2 K2 c2 t1 t2 t3 t4
    have g2 := c2.1
    have v10 := g2.v 10
    have n10 := g2.n 10
    refine ev_aload_n dX9_addTrail_29 rfl ?_
    refine ev_getrv dX9_addTrail_30 fX9_33 g2.1.k9 g2.1.n9 rfl v10 ?_
    refine ev_aload_n dX9_addTrail_33 rfl ?_
    refine ev_getiv dX9_addTrail_34 fX9_95 g2.1.k9 g2.1.n9 rfl t1 ?_
    refine ev_iload_n dX9_addTrail_37 rfl ?_
    refine ev_csv dX9_addTrail_38 lX9_59 (s_putJ (g2.k 10) n10 (g2.r 10).2) (by decide) rfl rfl (Nat.le_of_ble_eq_true rfl) rfl (fun h3 q => ?_)
    rw [if_pos (by omega), show ((st.length : Nat) : Int).toNat = st.length from rfl] at q
    have c3 : YC h2 a2 K2 h3 a2 K2 [10] [] := by rw [q]; exact g2.pw (by decide)
    have g3 := c3.1
    have u1 : h3.vl 9 11 = (st.length : Int) := (c3.fl 11).trans t1
    refine ev_aload_n dX9_addTrail_41 rfl ?_
    refine ev_dup dX9_addTrail_42 ?_
    refine ev_getiv dX9_addTrail_43 fX9_95 g3.1.k9 g3.1.n9 rfl u1 ?_
    refine ev_iconst dX9_addTrail_46 ?_
    refine ev_iadd dX9_addTrail_47 (by unfold ir; omega) ?_
    refine ev_pt dX9_addTrail_48 fX9_95 g3.1.k9 g3.1.n9 rfl ?_
    have c4 : YC h3 a2 K2 (h3.put 9 11 ((st.length : Int) + 1)) a2 K2 [] [11] := g3.pf (by decide)
    refine ev_vret dX9_addTrail_51 (⟨rfl, a2, K2, (c2.tr (c3.wk (by decide) (by decide))).tr (c4.wk (by decide) (by decide)), ⟨rfl, ?_, by rw [List.length_cons]; omega⟩, t4⟩)
    rw [(c4.rw' 10).2, q]
    refine ⟨by rw [AH.put_vl, if_pos ⟨rfl, rfl⟩], SkL.lo (fun i hi => ?_) t2⟩
    rw [AH.put_vl, if_neg (by omega)]
  obtain ⟨s1, s2, s3⟩ := s
  have v10 := g.v 10
  have n10 := g.n 10
  have k10 := g.k 10
  have r10 := g.r 10
  refine cv_of cdX9_addTrail ?_
  show EV _ _ 0 [rv 9, iv (x : Int)] [] h _
  refine ev_aload_n dX9_addTrail_0 rfl ?_
  refine ev_getiv dX9_addTrail_1 fX9_95 g.1.k9 g.1.n9 rfl s1 ?_
  refine ev_aload_n dX9_addTrail_4 rfl ?_
  refine ev_getrv dX9_addTrail_5 fX9_33 g.1.k9 g.1.n9 rfl v10 ?_
  refine ev_al dX9_addTrail_8 k10 n10 rfl (by decide) (by omega) ?_
  by_cases c : st.length < K 10
  · skip
    refine ev_icmplt 29 dX9_addTrail_9 (fun hb => ?_) (fun h_no => (by exfalso; omega))
    exact p29 h a K (YC.rf g) s1 s2 c (fun _ _ => rfl)
  have e0 : st.length = K 10 := by omega
  refine ev_icmplt 29 dX9_addTrail_9 (fun h_no => (by exfalso; omega)) (fun hb => ?_)
  refine ev_aload_n dX9_addTrail_12 rfl ?_
  refine ev_aload_n dX9_addTrail_13 rfl ?_
  refine ev_getrv dX9_addTrail_14 fX9_33 g.1.k9 g.1.n9 rfl v10 ?_
  refine ev_iconst dX9_addTrail_17 ?_
  refine ev_aload_n dX9_addTrail_18 rfl ?_
  refine ev_getiv dX9_addTrail_19 fX9_95 g.1.k9 g.1.n9 rfl s1 ?_
  refine ev_imul dX9_addTrail_22 (by unfold ir; omega) ?_
  rw [show (2 : Int) * (st.length : Int) = ((2 * K 10 : Nat) : Int) by omega]
  refine ev_csr dX9_addTrail_23 lX9_53 (s_copyI k10 n10 (by omega) (by omega) (by omega)) (by decide) rfl rfl (Nat.le_of_ble_eq_true rfl) rfl (fun r h1 q => ?_)
  obtain ⟨rfl, q⟩ := q
  have k9 : h1.kd 9 = (9, 15) := by
    rw [q]
    show (if (9 : Nat) = h.n then _ else h.kd 9) = _
    rw [if_neg (by have := g.1.n9; omega)]
    exact g.1.k9
  have n9 : 9 < h1.n := by rw [q]; show 9 < h.n + 1; have := g.1.n9; omega
  refine ev_pt dX9_addTrail_26 fX9_33 k9 n9 rfl ?_
  rw [q]
  obtain ⟨c1, c2⟩ := g.gr (k := 10) (by decide) (by decide) (by omega)
  refine p29 _ _ _ (c1.wk (by decide) (by decide)) ((c1.fl 11).trans s1) ?_ (by rw [upN_s]; omega) (fun k hk => upN_n hk)
  rw [upN_s]
  exact SkL.lo (fun i hi => c2 i (by omega)) s2
set_option maxRecDepth 100000 in
theorem s_takeTrail {h : AH} {a K : Nat → Nat} {st : List Nat} {x : Nat} (g : YA h a K) (s : YTr h a K (x :: st)) : CV mX9_takeTrail 2 [rv 9] h (oi fun r h1 => r = (x : Int) ∧ YC h a K h1 a K [] [11] ∧ YTr h1 a K st) := by
  obtain ⟨s1, ⟨s2, s3⟩, s4⟩ := s
  rw [List.length_cons] at s4
  have s1 : h.vl 9 11 = (st.length : Int) + 1 := s1
  refine cv_of cdX9_takeTrail ?_
  show EV _ _ 0 [rv 9] [] h _
  have c1 : YC h a K (h.put 9 11 (st.length : Int)) a K [] [11] := g.pf (by decide)
  obtain ⟨h1, e1⟩ : ∃ h1, h1 = h.put 9 11 (st.length : Int) := ⟨_, rfl⟩
  rw [← e1] at c1
  have g1 := c1.1
  have v10 := g1.v 10
  have n10 := g1.n 10
  have u1 : h1.vl 9 11 = (st.length : Int) := by rw [e1]; rfl
  have r10 := g1.r 10
  refine ev_aload_n dX9_takeTrail_0 rfl ?_
  refine ev_dup dX9_takeTrail_1 ?_
  refine ev_getiv dX9_takeTrail_2 fX9_95 g.1.k9 g.1.n9 rfl s1 ?_
  refine ev_iconst dX9_takeTrail_5 ?_
  refine ev_isub dX9_takeTrail_6 (by unfold ir; omega) ?_
  refine ev_pt dX9_takeTrail_7 fX9_95 g.1.k9 g.1.n9 rfl ?_
  rw [show (st.length : Int) + 1 - 1 = (st.length : Int) by omega, ← e1]
  refine ev_aload_n dX9_takeTrail_10 rfl ?_
  refine ev_getrv dX9_takeTrail_11 fX9_33 g1.1.k9 g1.1.n9 rfl v10 ?_
  refine ev_aload_n dX9_takeTrail_14 rfl ?_
  refine ev_getiv dX9_takeTrail_15 fX9_95 g1.1.k9 g1.1.n9 rfl u1 ?_
  refine ev_csi dX9_takeTrail_18 lX9_63 (s_atJ (g1.k 10) n10 r10.2) (by decide) rfl rfl (Nat.le_of_ble_eq_true rfl) rfl (fun r h2 q => ?_)
  obtain ⟨rfl, rfl⟩ := q
  rw [if_pos (by omega), show ((st.length : Nat) : Int).toNat = st.length from rfl]
  have e2 := (c1.rw' 10).2
  exact ev_iret dX9_takeTrail_21 (⟨_, rfl, by rw [e2]; exact s2, c1, u1, by rw [e2]; exact s3, by omega⟩)
