/-! frames: what lessons and kept types are made of stays -/
abbrev OwK (k : Nat) : Prop := k = 5 ∨ k = 7 ∨ k = 100 ∨ k = 104
/-- the cells of lessons and of kept types stay -/
def PrS (h : AH) (a : Nat → Nat) (h1 : AH) (a1 : Nat → Nat) : Prop := h.n ≤ h1.n ∧ (∀ c, c < h.n → h1.kd c = h.kd c) ∧ ∀ c, YNo h a c → ¬ PX h c → OwK (h.kd c).1 → h1.vl c = h.vl c ∧ YNo h1 a1 c ∧ ¬ PX h1 c
section PrSs
variable {h h1 h2 : AH} {a K a1 K1 a2 : Nat → Nat}
theorem PrS.rf : PrS h a h a := ⟨Nat.le_refl _, fun _ _ => rfl, fun _ n p _ => ⟨rfl, n, p⟩⟩
theorem PrS.tr (p : PrS h a h1 a1) (q : PrS h1 a1 h2 a2) : PrS h a h2 a2 := by
  obtain ⟨p1, p2, p3⟩ := p
  obtain ⟨q1, q2, q3⟩ := q
  refine ⟨Nat.le_trans p1 q1, fun c hc => (q2 c (Nat.lt_of_lt_of_le hc p1)).trans (p2 c hc), fun c n x o => ?_⟩
  obtain ⟨e1, e2, e3⟩ := p3 c n x o
  obtain ⟨f1, f2, f3⟩ := q3 c e2 e3 (by rw [p2 c n.1]; exact o)
  exact ⟨f1.trans e1, f2, f3⟩
theorem TmX.pr {t : Nat} {L : List Nd} (p : TmX h a (PX h) t L) (q : PrS h a h1 a1) : TmX h1 a1 (PX h1) t L := by
  obtain ⟨rr, ro, N, ⟨⟨a1', a2'⟩, ⟨b1, b2, b3⟩, t3, t4, t5, t6⟩, u1, u2, u3, ⟨w1, x1⟩, ⟨w2, x2⟩, w3⟩ := p
  obtain ⟨q1, q2, q3⟩ := q
  obtain ⟨v1, y1, z1⟩ := q3 t w1 x1 (by rw [a1']; exact Or.inr (Or.inl rfl))
  obtain ⟨v2, y2, z2⟩ := q3 rr w2 x2 (by rw [b2]; exact Or.inr (Or.inr (Or.inr rfl)))
  have v3 : ∀ k, k < 8 → h1.vl (ro k) = h.vl (ro k) ∧ YNo h1 a1 (ro k) ∧ ¬ PX h1 (ro k) := fun k hk => q3 _ (w3 k hk).1 (w3 k hk).2 (by rw [(t3 k hk).2.1]; exact Or.inr (Or.inr (Or.inl rfl)))
  refine ⟨rr, ro, N, ⟨⟨(q2 t w1.1).trans a1', y1.1⟩, ⟨by rw [v1]; exact b1, (q2 rr w2.1).trans b2, y2.1⟩, fun k hk => ?_, by rw [v1]; exact t4, t5, t6⟩, u1, fun k j hk hj => by rw [(v3 k (by omega)).1]; exact u2 k j hk hj, fun j hj => by rw [(v3 7 (by decide)).1]; exact u3 j hj, ⟨y1, z1⟩, ⟨y2, z2⟩, fun k hk => (v3 k hk).2⟩
  obtain ⟨q1', q2', q3'⟩ := t3 k hk
  exact ⟨by rw [v2]; exact q1', (q2 _ (w3 k hk).1.1).trans q2', (v3 k hk).2.1.1⟩
theorem ShW.pr {s b R : Nat} {r : List Int} (w : ShW h a s b R r) (hx : ¬ PX h s ∧ ¬ PX h b) (q : PrS h a h1 a1) : ShW h1 a1 s b R r ∧ ¬ PX h1 s ∧ ¬ PX h1 b := by
  obtain ⟨⟨⟨g1, g2⟩, ⟨g3, g4, g5⟩, g6, g7, g8⟩, ⟨n1, n2, n3⟩, n4, n5⟩ := w
  obtain ⟨q1, q2, q3⟩ := q
  obtain ⟨v1, y1, z1⟩ := q3 s n1 hx.1 (by rw [g1]; exact Or.inl rfl)
  obtain ⟨v2, y2, z2⟩ := q3 b n2 hx.2 (by rw [g4]; exact Or.inr (Or.inr (Or.inl rfl)))
  exact ⟨⟨⟨⟨(q2 s g2).trans g1, y1.1⟩, ⟨by rw [v1]; exact g3, (q2 b g5).trans g4, y2.1⟩, by rw [v1]; exact g6, g7, g8⟩, ⟨y1, y2, n3⟩, n4, by rw [v2]; exact n5⟩, z1, z2⟩
theorem KpP.pr {kb kb' : Nat} {kp : Nat → Option TE} (k : KpP h a kb kp) (q : PrS h a h1 a1) (hkb : ∀ c, c < 8 → h1.vl kb' c = h.vl kb c) : KpP h1 a1 kb' kp := fun c hc => by
  rw [hkb c hc]
  rcases k c hc with z | ⟨R, s, b, n, k1, k2, k3, k4, k5⟩
  · exact Or.inl z
  · obtain ⟨w1, w2⟩ := k3.pr k4 q
    exact Or.inr ⟨R, s, b, n, k1, k2, w1, w2, k5⟩
theorem QF.pr {Y : Nat → Prop} (q : QF h a K h1 a1 K1 Y) (hY : ∀ c, Y c → c < 94) : PrS h a h1 a1 := by
  obtain ⟨⟨e, x, -⟩, -⟩ := id q
  refine ⟨x.2.1.1, x.2.1.2.1, fun c n p _ => ⟨x.v n (fun z => p (z.imp id (hY c))), n.x x, fun z => p (q.px z)⟩⟩
/-- all stays but some fields of some cells -/
def GF (h h1 : AH) (C : Nat → Nat → Prop) : Prop := h.n ≤ h1.n ∧ (∀ c, c < h.n → h1.kd c = h.kd c) ∧ ∀ c j, c < h.n → ¬ C c j → h1.vl c j = h.vl c j
/-- a field that neither the finder nor the lessons of now have -/
def OkC (h : AH) (c j : Nat) : Prop := (c, j) ∉ CIs ∧ ((c < 94 ∧ ¬ (9 ≤ c ∧ c ≤ 18) ∧ c ≠ 26) ∨ (94 ≤ c ∧ ¬ OwK (h.kd c).1))
variable {C : Nat → Nat → Prop}
theorem GF.rf : GF h h C := ⟨Nat.le_refl _, fun _ _ => rfl, fun _ _ _ _ => rfl⟩
theorem GF.tr (p : GF h h1 C) (q : GF h1 h2 C) : GF h h2 C := ⟨Nat.le_trans p.1 q.1, fun c hc => (q.2.1 c (Nat.lt_of_lt_of_le hc p.1)).trans (p.2.1 c hc), fun c j hc hn => (q.2.2 c j (Nat.lt_of_lt_of_le hc p.1) hn).trans (p.2.2 c j hc hn)⟩
theorem GF.wk {C' : Nat → Nat → Prop} (p : GF h h1 C) (hC : ∀ c j, C c j → C' c j) : GF h h1 C' := ⟨p.1, p.2.1, fun c j hc hn => p.2.2 c j hc (fun z => hn (hC c j z))⟩
theorem GF.ci (q : GF h h1 C) (hC : ∀ c j, C c j → OkC h c j) (g : CI h) : CI h1 := by
  have n94 := g.1
  refine g.gen q.1 (fun c hc => q.2.1 c (by omega)) (fun c i hm => q.2.2 c i ?_ (fun z => (hC c i z).1 hm))
  have : CIs.all (fun q => decide (q.1 < 94)) = true := by decide
  have := of_decide_eq_true (List.all_eq_true.mp this _ hm)
  have this : c < 94 := this
  omega
theorem GF.ow (q : GF h h1 C) (hC : ∀ c j, C c j → OkC h c j) {c : Nat} (hc : c < h.n) (h94 : 94 ≤ c) (ho : OwK (h.kd c).1) : h1.vl c = h.vl c := funext fun j => q.2.2 c j hc (fun z => by
  rcases (hC c j z).2 with w | w
  · omega
  · exact w.2 ho)
theorem YA.gf (g : YA h a K) (q : GF h h1 C) (hC : ∀ c j, C c j → OkC h c j) : YA h1 a K := by
  obtain ⟨g1, g2, g3⟩ := g
  have n94 := g1.1
  refine ⟨q.ci hC g1, fun k hk => ?_, g3⟩
  obtain ⟨a1, a2, a3, a4⟩ := g2 k hk
  have q1 := q.1
  refine ⟨?_, (q.2.1 _ a3).trans a2, by omega, a4⟩
  rw [q.2.2 9 k (by omega) (fun z => by rcases (hC 9 k z).2 with w | w <;> omega)]
  exact a1
theorem FSc.gf (f : FSc h a) (g : YA h a K) (q : GF h h1 C) (hC : ∀ c j, C c j → OkC h c j) : FSc h1 a ∧ (∀ c, FO h1 c → FO h c) ∧ h1.vl 26 = h.vl 26 := by
  have n94 := g.1.1
  have e26 : h1.vl 26 = h.vl 26 := funext fun j => q.2.2 26 j (by omega) (fun z => by rcases (hC 26 j z).2 with w | w <;> omega)
  have q1 := q.1
  have es : ∀ i s : Nat, i < 12 → h.vl 26 i = (s : Int) → h1.vl s = h.vl s := fun i s hi hs => by
    rcases f.1 i hi with z | ⟨s', b, z1, z2, w, ⟨w2, -⟩, -⟩
    · omega
    · obtain rfl : s = s' := by omega
      exact q.ow hC w2.1 z2.1 (by rw [w.1]; exact Or.inl rfl)
  refine ⟨⟨fun i hi => ?_, fun i j s t b d hi hj hs ht0 hb hd => ?_⟩, fun c ⟨i, s, hi, hs, z⟩ => ?_, e26⟩
  · rw [e26]
    rcases f.1 i hi with z | ⟨s, b, z1, z2, ⟨w1, w2, w3, w4⟩, ⟨w5, w6, w7⟩, w8⟩
    · exact Or.inl z
    · have e1 := es i s hi z1
      exact Or.inr ⟨s, b, z1, z2, ⟨(q.2.1 s w5.1).trans w1, by rw [e1]; exact w2, (q.2.1 b w6.1).trans w3, w4⟩, ⟨⟨by have := w5.1; omega, w5.2⟩, ⟨by have := w6.1; omega, w6.2⟩, w7⟩, w8⟩
  · rw [e26] at hs ht0
    rw [es i s hi hs] at hb
    rw [es j t hj ht0] at hd
    exact f.2 i j s t b d hi hj hs ht0 hb hd
  · rw [e26] at hs
    rw [es i s hi hs] at z
    exact ⟨i, s, hi, hs, z⟩
theorem GF.px (q : GF h h1 C) (hC : ∀ c j, C c j → OkC h c j) (g : YA h a K) (f : FSc h a) {c : Nat} (z : PX h1 c) : PX h c := by
  obtain ⟨-, f2, -⟩ := f.gf g q hC
  rcases z with (z | z | z | z) | z
  · exact Or.inl (Or.inl z)
  · exact Or.inl (Or.inr (Or.inl z))
  · exact Or.inl (Or.inr (Or.inr (Or.inl (f2 c z))))
  · exact Or.inl (Or.inr (Or.inr (Or.inr (Nat.le_trans q.1 z))))
  · exact Or.inr z
theorem GF.pr (q : GF h h1 C) (hC : ∀ c j, C c j → OkC h c j) (g : YA h a K) (f : FSc h a) : PrS h a h1 a := ⟨q.1, q.2.1, fun c n p o => ⟨q.ow hC n.1 (Nat.le_of_not_lt (fun z => p (Or.inr z))) o, ⟨Nat.lt_of_lt_of_le n.1 q.1, n.2⟩, fun z => p (q.px hC g f z)⟩⟩
theorem QN.gf {N : Nat} {tc : Nat → Nat} {LL : Nat → List Nd} {kp : Nat → Option TE} (n : QN h a K N tc LL kp) (q : GF h h1 C) (hC : ∀ c j, C c j → OkC h c j) (h3 : ∀ c j, C c j → ¬ (31 ≤ c ∧ c ≤ 33)) : QN h1 a K N tc LL kp := by
  obtain ⟨g, k, f, ⟨n1, n2, n3⟩, n4⟩ := n
  have n94 := g.1.1
  have pr := q.pr hC g f
  have e : ∀ c j, 31 ≤ c → c ≤ 33 → h1.vl c j = h.vl c j := fun c j c1 c2 => q.2.2 c j (by omega) (fun z => h3 c j z ⟨c1, c2⟩)
  refine ⟨g.gf q hC, k, (f.gf g q hC).1, ⟨by rw [e 31 2 (by decide) (by decide)]; exact n1, n2, fun l hl => ?_⟩, n4.pr pr (fun c _ => e 33 c (by decide) (by decide))⟩
  rw [e 32 l (by decide) (by decide)]
  exact ⟨(n3 l hl).1, (n3 l hl).2.pr pr⟩
theorem SbQ.gf {b N b1 N1 c : Nat} (q : SbQ h c b N h1 b1 N1) : GF h h1 (fun d j => (d = c ∧ (j = 0 ∨ j = 2 ∨ j = 3)) ∨ d = b) := by
  obtain ⟨q1, q2, q3, q4, -⟩ := q
  refine ⟨q1, q2, fun d j hd hn => ?_⟩
  by_cases e : d = c
  · rw [e]
    exact q4 j (fun z => hn (Or.inl ⟨e, Or.inl z⟩)) (fun z => hn (Or.inl ⟨e, Or.inr (Or.inl z)⟩)) (fun z => hn (Or.inl ⟨e, Or.inr (Or.inr z)⟩))
  · rw [q3 d hd e (fun z => hn (Or.inr z))]
theorem TbI.ok {b N : Nat} {X : List Int} {c : Nat} (t : TbI h c b N X) (hc : c = 1 ∨ c = 3) (hb : b = 2 ∨ b = 4 ∨ 94 ≤ b) : ∀ d j, ((d = c ∧ (j = 0 ∨ j = 2 ∨ j = 3)) ∨ d = b) → OkC h d j ∧ ¬ (31 ≤ d ∧ d ≤ 33) := by
  have ci : ∀ d j, (d = 1 ∨ d = 2 ∨ d = 3 ∨ d = 4 ∨ 94 ≤ d) → (d, j) ∉ CIs := fun d j hd hm => by
    have : CIs.all (fun q => decide (¬ (q.1 = 1 ∨ q.1 = 2 ∨ q.1 = 3 ∨ q.1 = 4 ∨ 94 ≤ q.1))) = true := by decide
    exact of_decide_eq_true (List.all_eq_true.mp this _ hm) hd
  have kb := t.1.2.1.2.1
  intro d j z
  rcases z with ⟨rfl, -⟩ | rfl
  · exact ⟨⟨ci d j (by omega), Or.inl (by omega)⟩, by omega⟩
  · refine ⟨⟨ci d j (by omega), ?_⟩, by omega⟩
    by_cases e : 94 ≤ d
    · refine Or.inr ⟨e, ?_⟩
      rw [kb]
      rintro (w | w | w | w) <;> exact absurd w (by simp)
    · exact Or.inl (by omega)
end PrSs
