/-! the class's finder: the shape for a let, is it going, it begins -/
/-- the shapes for lets -/
def FSc (h : AH) (a : Nat → Nat) : Prop := (∀ i, i < 12 → h.vl 26 i = -1 ∨ ∃ s b : Nat, h.vl 26 i = (s : Int) ∧ (94 ≤ s ∧ 94 ≤ b) ∧ ShC h a s b 200) ∧ ∀ i j s t b c : Nat, i < 12 → j < 12 → h.vl 26 i = (s : Int) → h.vl 26 j = (t : Int) → h.vl s 0 = (b : Int) → h.vl t 0 = (c : Int) → s = t ∨ b = c → i = j
/-- a cell of a shape for a let -/
def FO (h : AH) (c : Nat) : Prop := ∃ i s, i < 12 ∧ h.vl 26 i = ((s : Nat) : Int) ∧ (c = s ∨ h.vl s 0 = (c : Int))
def snF (v : Nat → Int) : Nat → Nat
  | 0 => 0
  | n + 1 => snF v n + (if 0 ≤ v n then 1 else 0)
/-- how many shapes for lets there are -/
def snn (h : AH) : Nat := snF (h.vl 26) 12
theorem snF_ag {v w : Nat → Int} : ∀ (n : Nat), (∀ j, j < n → w j = v j) → snF w n = snF v n
  | 0, _ => rfl
  | n + 1, h => by rw [snF, snF, snF_ag n (fun j hj => h j (by omega)), h n (by omega)]
theorem snF_up {v w : Nat → Int} {i : Nat} (hv : v i = -1) (hw : 0 ≤ w i) : ∀ (n : Nat), i < n → (∀ j, j < n → j ≠ i → w j = v j) → snF w n = snF v n + 1
  | 0, h, _ => absurd h (Nat.not_lt_zero _)
  | n + 1, h, ha => by
    rw [snF, snF]
    by_cases e : i = n
    · subst e
      rw [snF_ag i (fun j hj => ha j (by omega) (by omega)), if_pos hw, if_neg (by omega)]
    · rw [snF_up hv hw n (by omega) (fun j hj => ha j (by omega)), ha n (by omega) (fun z => e z.symm)]
      omega
theorem snF_le {v : Nat → Int} : ∀ n, snF v n ≤ n
  | 0 => Nat.le_refl _
  | n + 1 => by
    rw [snF]
    have := snF_le (v := v) n
    split <;> omega
section FSs
variable {h : AH} {a K : Nat → Nat} {st : List (Nat × Int × Int)} {n i : Nat} {s x : Int}
theorem FSc.xt {h1 : AH} {a1 K1 : Nat → Nat} {D F : List Nat} {X : Nat → Prop} {e : Nat} (f : FSc h a) (g : YA h a K) (c : YX h a K h1 a1 K1 D F X e) (h26 : ¬ X 26) (ev : ∀ i s : Nat, i < 12 → h.vl 26 i = (s : Int) → h1.vl s 0 = h.vl s 0) : FSc h1 a1 ∧ ∀ k, FO h1 k ↔ FO h k := by
  have e26 := c.v (g.no (c := 26) (by decide)) h26
  refine ⟨⟨fun i hi => ?_, fun i j s t b d hi hj hs ht0 hb hd => ?_⟩, fun k => ⟨fun ⟨i, s, hi, hs, z⟩ => ?_, fun ⟨i, s, hi, hs, z⟩ => ?_⟩⟩
  · rw [e26]
    rcases f.1 i hi with z | ⟨s, b, z1, z2, ⟨w1, w2, w3, w4⟩, ⟨w5, w6, w7⟩, w8⟩
    · exact Or.inl z
    · exact Or.inr ⟨s, b, z1, z2, ⟨⟨(c.k w5).trans w1, (ev i s hi z1).trans w2, (c.k w6).trans w3, w4⟩, ⟨w5.x c, w6.x c, w7⟩, w8⟩⟩
  · rw [e26] at hs ht0
    rw [ev i s hi hs] at hb
    rw [ev j t hj ht0] at hd
    exact f.2 i j s t b d hi hj hs ht0 hb hd
  · rw [e26] at hs
    rw [ev i s hi hs] at z
    exact ⟨i, s, hi, hs, z⟩
  · refine ⟨i, s, hi, by rw [e26]; exact hs, ?_⟩
    rw [ev i s hi hs]
    exact z
theorem FSc.px {h1 : AH} {a1 K1 : Nat → Nat} {D F : List Nat} {X : Nat → Prop} {e : Nat} (f : FSc h a) (g : YA h a K) (c : YX h a K h1 a1 K1 D F X e) (h26 : ¬ X 26) (hX : ∀ s, 94 ≤ s → ¬ X s) : FSc h1 a1 ∧ ∀ k, FO h1 k ↔ FO h k := by
  refine f.xt g c h26 (fun i t hi ht0 => ?_)
  rcases f.1 i hi with w | ⟨t', b, z1, z2, w⟩
  · omega
  · obtain rfl : t = t' := by omega
    rw [c.v w.2.1.1 (hX _ z2.1)]
set_option maxRecDepth 100000 in
theorem s_scheme1 {t : Nat} (g : YA h a K) (hi : i < 12) (hs : h.vl 26 i = (t : Int)) : CV mX0_scheme 4 [rv 8, iv (i : Int)] h (oa fun r h1 => r = (t : Int) ∧ h1 = h) := by
  have w5 := g.1.v8_5
  refine cv_of cdX0_scheme ?_
  show EV _ _ 0 [rv 8, iv (i : Int)] [] h _
  refine ev_iload_n dX0_scheme_0 rfl ?_
  refine ev_iflt 13 dX0_scheme_1 (fun h_no => (by exfalso; omega)) (fun hb => ?_)
  refine ev_iload_n dX0_scheme_4 rfl ?_
  refine ev_aload_n dX0_scheme_5 rfl ?_
  refine ev_getrv dX0_scheme_6 fX0_37 g.1.k8 g.1.n8 rfl w5 ?_
  refine ev_al dX0_scheme_9 g.1.k26 g.1.n26 rfl (by decide) (by omega) ?_
  refine ev_icmplt 24 dX0_scheme_10 (fun hb2 => ?_) (fun h_no => (by exfalso; omega))
  refine ev_aload_n dX0_scheme_24 rfl ?_
  refine ev_getrv dX0_scheme_25 fX0_37 g.1.k8 g.1.n8 rfl w5 ?_
  refine ev_iload_n dX0_scheme_28 rfl ?_
  refine ev_aald dX0_scheme_29 rfl (by decide) g.1.k26 g.1.n26 rfl (by omega) (by omega) ?_
  rw [show ((i : Nat) : Int).toNat = i from rfl, hs]
  refine ev_ifnonnull 49 dX0_scheme_30 (fun hb3 => ?_) (fun h_no => (by exfalso; omega))
  refine ev_aload_n dX0_scheme_49 rfl ?_
  refine ev_getrv dX0_scheme_50 fX0_37 g.1.k8 g.1.n8 rfl w5 ?_
  refine ev_iload_n dX0_scheme_53 rfl ?_
  refine ev_aald dX0_scheme_54 rfl (by decide) g.1.k26 g.1.n26 rfl (by omega) (by omega) ?_
  rw [show ((i : Nat) : Int).toNat = i from rfl, hs]
  exact ev_aret dX0_scheme_55 (⟨_, rfl, rfl, rfl⟩) rfl (Or.inl ⟨_, rfl⟩)
/-- a new shape for a let -/
def eSch (h : AH) (i : Nat) : AH := (eShape h.n 200 (h.new (5, 2))).put 26 i (h.n : Int)
set_option maxRecDepth 100000 in
theorem s_scheme0 (g : YA h a K) (hi : i < 12) (hs : h.vl 26 i = -1) : CV mX0_scheme 4 [rv 8, iv (i : Int)] h (oa fun r h1 => r = (h.n : Int) ∧ h1 = eSch h i) := by
  have w5 := g.1.v8_5
  have n94 := g.1.1
  refine cv_of cdX0_scheme ?_
  show EV _ _ 0 [rv 8, iv (i : Int)] [] h _
  refine ev_iload_n dX0_scheme_0 rfl ?_
  refine ev_iflt 13 dX0_scheme_1 (fun h_no => (by exfalso; omega)) (fun hb => ?_)
  refine ev_iload_n dX0_scheme_4 rfl ?_
  refine ev_aload_n dX0_scheme_5 rfl ?_
  refine ev_getrv dX0_scheme_6 fX0_37 g.1.k8 g.1.n8 rfl w5 ?_
  refine ev_al dX0_scheme_9 g.1.k26 g.1.n26 rfl (by decide) (by omega) ?_
  refine ev_icmplt 24 dX0_scheme_10 (fun hb2 => ?_) (fun h_no => (by exfalso; omega))
  refine ev_aload_n dX0_scheme_24 rfl ?_
  refine ev_getrv dX0_scheme_25 fX0_37 g.1.k8 g.1.n8 rfl w5 ?_
  refine ev_iload_n dX0_scheme_28 rfl ?_
  refine ev_aald dX0_scheme_29 rfl (by decide) g.1.k26 g.1.n26 rfl (by omega) (by omega) ?_
  rw [show ((i : Nat) : Int).toNat = i from rfl, hs]
  refine ev_ifnonnull 49 dX0_scheme_30 (fun h_no => (by exfalso; omega)) (fun hb3 => ?_)
  refine ev_aload_n dX0_scheme_33 rfl ?_
  refine ev_getrv dX0_scheme_34 fX0_37 g.1.k8 g.1.n8 rfl w5 ?_
  refine ev_iload_n dX0_scheme_37 rfl ?_
  refine ev_new dX0_scheme_38 nX0_35 ?_
  refine ev_dup dX0_scheme_41 ?_
  refine ev_sipush dX0_scheme_42 ?_
  have kn : (h.new (5, 2)).kd h.n = (5, 2) := by rw [AH.new_kd, if_pos rfl]
  have nn1 : h.n < (h.new (5, 2)).n := Nat.lt_succ_self _
  refine ev_ci dX0_scheme_45 lX0_201 (s_eShape kn nn1 (by decide)) (by decide) (by omega) rfl rfl (Nat.le_of_ble_eq_true rfl) rfl (fun h1 q => ?_)
  have kd1 : ∀ b, b < h.n → h1.kd b = h.kd b := fun b hb => by rw [q]; exact eShape_k (nk rfl hb) (nn hb)
  have n1 : h.n + 2 = h1.n := by rw [q]; rfl
  have v1 : ∀ b, b < h.n → h1.vl b = h.vl b := fun b hb => by
    funext j
    rw [q]
    unfold eShape
    rw [AH.put_vl, if_neg (by omega), AH.new_vl, if_neg (by show ¬ b = h.n + 1; omega), AH.new_vl, if_neg (by omega)]
  have k8 := (kd1 8 (by omega)).trans g.1.k8
  have k26 := (kd1 26 (by omega)).trans g.1.k26
  have u5 : h1.vl 8 5 = 26 := by rw [v1 8 (by omega)]; exact w5
  have hx : 0 ≤ (h.n : Int) → h1.kd (h.n : Int).toNat = (5, 2) := fun _ => by rw [q]; exact eShape_k kn nn1
  have l8 : 8 < h1.n := by omega
  have l26 : 26 < h1.n := by omega
  refine ev_aast dX0_scheme_48 rfl (by decide) kc_X5 k26 l26 rfl (by omega) (by omega) hx ?_
  obtain ⟨h2, e2⟩ : ∃ h2, h2 = eSch h i := ⟨_, rfl⟩
  rw [show h1.put 26 ((i : Nat) : Int).toNat (h.n : Int) = h2 by rw [e2, q]; rfl]
  have e3 : h2 = h1.put 26 i (h.n : Int) := by rw [e2, q]; rfl
  have z8 := (show h2.kd 8 = h1.kd 8 by rw [e3]; rfl).trans k8
  have z26 := (show h2.kd 26 = h1.kd 26 by rw [e3]; rfl).trans k26
  have m8 : 8 < h2.n := by rw [e3]; exact l8
  have m26 : 26 < h2.n := by rw [e3]; exact l26
  have y5 : h2.vl 8 5 = 26 := by rw [e3, put_ne _ (by decide)]; exact u5
  have y26 : h2.vl 26 i = (h.n : Int) := by rw [e3, AH.put_vl, if_pos ⟨rfl, rfl⟩]
  refine ev_aload_n dX0_scheme_49 rfl ?_
  refine ev_getrv dX0_scheme_50 fX0_37 z8 m8 rfl y5 ?_
  refine ev_iload_n dX0_scheme_53 rfl ?_
  refine ev_aald dX0_scheme_54 rfl (by decide) z26 m26 rfl (by omega) (by omega) ?_
  rw [show ((i : Nat) : Int).toNat = i from rfl, y26]
  exact ev_aret dX0_scheme_55 (⟨_, rfl, rfl, e2⟩) rfl (Or.inl ⟨_, rfl⟩)
theorem eSch_vl (hn : 26 < h.n) : (∀ b, b < h.n → b ≠ 26 → (eSch h i).vl b = h.vl b) ∧ (∀ j, (eSch h i).vl 26 j = if j = i then (h.n : Int) else h.vl 26 j) ∧ (eSch h i).vl h.n 0 = ((h.n + 1 : Nat) : Int) := by
  have e : ∀ b, b < h.n → (eShape h.n 200 (h.new (5, 2))).vl b = h.vl b := fun b hb => by
    funext j
    unfold eShape
    rw [AH.put_vl, if_neg (by omega), AH.new_vl, if_neg (by show ¬ b = h.n + 1; omega), AH.new_vl, if_neg (by omega)]
  refine ⟨fun b hb h26 => ?_, fun j => ?_, ?_⟩
  · unfold eSch
    rw [put_ne _ h26]
    exact e b hb
  · unfold eSch
    rw [AH.put_vl]
    by_cases z : j = i
    · rw [if_pos ⟨rfl, z⟩, if_pos z]
    · rw [if_neg (fun w => z w.2), if_neg z, e 26 hn]
  · unfold eSch
    rw [put_ne _ (by omega)]
    unfold eShape
    rw [AH.put_vl, if_pos ⟨rfl, rfl⟩]
    rfl
theorem eSch_kd : (∀ b, b < h.n → (eSch h i).kd b = h.kd b) ∧ (eSch h i).kd h.n = (5, 2) ∧ (eSch h i).kd (h.n + 1) = (100, 200) ∧ (eSch h i).n = h.n + 2 ∧ (eSch h i).cs = h.cs + 2 ∧ (eSch h i).ss = h.ss + 202 := by
  refine ⟨fun b hb => eShape_k (a := h.n) (nk rfl hb) (nn hb), eShape_k (a := h.n) nk0 nn0, ?_, rfl, rfl, ?_⟩
  · show (if h.n + 1 = h.n + 1 then (100, 200) else _) = _
    rw [if_pos rfl]
  · show h.ss + 2 + 200 = _
    omega
theorem YA.sch (g : YA h a K) : YX h a K (eSch h i) a K [] [] (fun y => y = 26) 1 := by
  obtain ⟨g1, g2, g3⟩ := g
  have n94 := g1.1
  obtain ⟨k1, k2, k3, k4, k5, k6⟩ := eSch_kd (h := h) (i := i)
  obtain ⟨v1, v2, v3⟩ := eSch_vl (h := h) (i := i) (by omega)
  have e9 := v1 9 (by omega) (by decide)
  have c41 : ∀ c j, (c, j) ∈ CIs → c < 94 ∧ c ≠ 26 := fun c j hm => by
    have : CIs.all (fun q => decide (q.1 < 94 ∧ q.1 ≠ 26)) = true := by decide
    exact of_decide_eq_true (List.all_eq_true.mp this _ hm)
  refine ⟨⟨g1.gen (by omega) (fun c hc => k1 c (by omega)) (fun c j hm => ?_), fun k hk => ?_, g3⟩, ⟨by omega, k1, fun y hy h9 hk => ⟨hk, fun z => v1 y hy z⟩, by omega, by omega, Nat.le_refl _⟩, fun k hk _ => ⟨rfl, ?_⟩, fun j _ _ => by rw [e9]⟩
  · obtain ⟨q1, q2⟩ := c41 c j hm
    rw [v1 c (by omega) q2]
  · obtain ⟨q1, q2, q3, q4⟩ := g2 k hk
    exact ⟨by rw [e9]; exact q1, (k1 _ q3).trans q2, by omega, q4⟩
  · obtain ⟨q1, q2, q3, q4, q5⟩ := g2 k hk
    exact v1 _ q3 (by omega)
set_option maxRecDepth 100000 in
theorem s_scheme (g : YA h a K) (f : FSc h a) (hi : i < 12) : CV mX0_scheme 4 [rv 8, iv (i : Int)] h (oa fun r h1 => ∃ s b e : Nat, r = (s : Int) ∧ YX h a K h1 a K [] [] (fun y => y = 26) e ∧ (e + snn h = snn h1 ∧ 94 ≤ s ∧ 94 ≤ b) ∧ ShC h1 a s b 200 ∧ FSc h1 a ∧ h1.vl 26 i = (s : Int) ∧ h1.vl s 0 = (b : Int) ∧ (∀ k, FO h1 k → FO h k ∨ h.n ≤ k) ∧ (∀ k, FO h k → FO h1 k) ∧ ∀ j, j ≠ i → h1.vl 26 j = h.vl 26 j) := by
  rcases f.1 i hi with z | ⟨s, b, z1, z2, z3⟩
  · refine cv_mono (s_scheme0 g hi z) fun o h1 q => ?_
    obtain ⟨r, rfl, rfl, rfl⟩ := q
    have n94 := g.1.1
    obtain ⟨k1, k2, k3, k4, k5, k6⟩ := eSch_kd (h := h) (i := i)
    obtain ⟨v1, v2, v3⟩ := eSch_vl (h := h) (i := i) (by omega)
    have c := g.sch (i := i)
    have no : ∀ x, h.n ≤ x → x < h.n + 2 → YNo (eSch h i) a x := fun x h1 h2 => ⟨by omega, by omega, fun k hk e => by have := g.n k hk; omega⟩
    have new : ShC (eSch h i) a h.n (h.n + 1) 200 := ⟨⟨k2, v3, k3, by decide⟩, ⟨no _ (by omega) (by omega), no _ (by omega) (by omega), by omega⟩, fun z => by
      have : CIs.all (fun q => decide (q.1 < 94)) = true := by decide
      have := of_decide_eq_true (List.all_eq_true.mp this _ z)
      omega, fun j z => by
      have : CIs.all (fun q => decide (q.1 < 94)) = true := by decide
      have := of_decide_eq_true (List.all_eq_true.mp this _ z)
      omega⟩
    have old : ∀ j s, j < 12 → h.vl 26 j = ((s : Nat) : Int) → ∃ b : Nat, h.vl s 0 = (b : Int) ∧ s < h.n ∧ b < h.n ∧ (94 ≤ s ∧ 94 ≤ b) ∧ (eSch h i).vl s 0 = (b : Int) ∧ ShC (eSch h i) a s b 200 := fun j s hj hs => by
      rcases f.1 j hj with w | ⟨s', b, w1, w2, w3⟩
      · omega
      · obtain rfl : s = s' := by omega
        have e : (eSch h i).vl s 0 = h.vl s 0 := by rw [v1 s w3.2.1.1.1 (by omega)]
        exact ⟨b, w3.1.2.1, w3.2.1.1.1, w3.2.1.2.1.1, w2, e.trans w3.1.2.1, w3.x c (by omega)⟩
    have sn1 : 1 + snn h = snn (eSch h i) := by
      have := snF_up (v := h.vl 26) (w := (eSch h i).vl 26) (i := i) z (by rw [v2, if_pos rfl]; omega) 12 hi (fun j _ hj => by rw [v2, if_neg hj])
      show 1 + snF (h.vl 26) 12 = snF ((eSch h i).vl 26) 12
      omega
    refine ⟨_, rfl, h.n, h.n + 1, 1, rfl, c, ⟨sn1, n94, by omega⟩, new, ⟨fun j hj => ?_, fun j l s t b d hj hl hs ht0 hb hd => ?_⟩, by rw [v2, if_pos rfl], v3, fun k ⟨j, s, hj, hs, hk⟩ => ?_, fun k ⟨j, s, hj, hs, hk⟩ => ?_, fun j hj => by rw [v2, if_neg hj]⟩
    · rw [v2]
      by_cases e : j = i
      · rw [if_pos e]
        exact Or.inr ⟨h.n, h.n + 1, rfl, by omega, new⟩
      · rw [if_neg e]
        rcases f.1 j hj with w | ⟨s, b, w1, w2, w3⟩
        · exact Or.inl w
        · exact Or.inr ⟨s, b, w1, w2, w3.x c (by omega)⟩
    · rw [v2] at hs ht0
      by_cases e : j = i
      · rw [if_pos e] at hs
        obtain rfl : s = h.n := by omega
        by_cases e2 : l = i
        · intro _; omega
        · rw [if_neg e2] at ht0
          obtain ⟨d', d1, d2, d3, -, d5, -⟩ := old l t hl ht0
          intro z
          have := hd.symm.trans d5
          have := hb.symm.trans v3
          omega
      · rw [if_neg e] at hs
        obtain ⟨b', b1, b2, b3, -, b5, -⟩ := old j s hj hs
        by_cases e2 : l = i
        · rw [if_pos e2] at ht0
          obtain rfl : t = h.n := by omega
          intro z
          have := hb.symm.trans b5
          have := hd.symm.trans v3
          omega
        · rw [if_neg e2] at ht0
          obtain ⟨d', d1, d2, d3, -, d5, -⟩ := old l t hl ht0
          exact f.2 j l s t b d hj hl hs ht0 (b1.trans (b5.symm.trans hb)) (d1.trans (d5.symm.trans hd))
    · rw [v2] at hs
      by_cases e : j = i
      · rw [if_pos e] at hs
        obtain rfl : s = h.n := by omega
        rw [v3] at hk
        exact Or.inr (by omega)
      · rw [if_neg e] at hs
        obtain ⟨b', b1, b2, b3, -, b5, -⟩ := old j s hj hs
        exact Or.inl ⟨j, s, hj, hs, by rw [b5] at hk; rw [b1]; exact hk⟩
    · obtain ⟨b', b1, b2, b3, -, b5, -⟩ := old j s hj hs
      refine ⟨j, s, hj, ?_, by rw [b5]; rw [b1] at hk; exact hk⟩
      rw [v2, if_neg (fun e => by rw [e, z] at hs; omega)]
      exact hs
  · refine cv_mono (s_scheme1 g hi z1) fun o h1 q => ?_
    obtain ⟨r, rfl, rfl, rfl⟩ := q
    exact ⟨_, rfl, s, b, 0, rfl, YX.rf g, ⟨Nat.zero_add _, z2⟩, z3, f, z1, z3.1.2.1, fun k z => Or.inl z, fun k z => z, fun j _ => rfl⟩
end FSs
