/-! a state of the class, and what it is a state of -/
/-- a state object at s: lessons and kept types -/
def StI (h : AH) (a : Nat → Nat) (s N : Nat) (LL : Nat → List Nd) (kp : Nat → Option TE) (g e : Int) : Prop := ST h s (s + 1) (s + 2) ∧ (h.vl s 2 = (N : Int) ∧ N ≤ 6 ∧ h.vl s 3 = g ∧ h.vl s 4 = e) ∧ (∀ l, l < N → ∃ t : Nat, h.vl (s + 1) l = (t : Int) ∧ TmX h a (PX h) t (LL l)) ∧ (∀ l, N ≤ l → l < 6 → h.vl (s + 1) l = -1) ∧ KpP h a (s + 2) kp
/-- it says what a row of the reference says -/
def SvR (h : AH) (a : Nat → Nat) (s : Nat) (v : Nat → Int) : Prop := ∃ N LL kp, VS v N LL kp ∧ StI h a s N LL kp (v 1) (v 2)
theorem SvR.eq {h : AH} {a : Nat → Nat} {s : Nat} {v v' : Nat → Int} (r : SvR h a s v) (e : ∀ j, j < 569 → v' j = v j) : SvR h a s v' := by
  obtain ⟨N, LL, kp, r1, r2⟩ := r
  exact ⟨N, LL, kp, r1.eq e, by rw [e 1 (by decide), e 2 (by decide)]; exact r2⟩
section Svs
variable {h h1 h2 : AH} {a K a1 K1 : Nat → Nat} {s N : Nat} {LL : Nat → List Nd} {kp : Nat → Option TE} {g e : Int}
theorem StI.pr (t : StI h a s N LL kp g e) (p : PrS h a h1 a1) (e0 : h1.vl s = h.vl s) (e1 : h1.vl (s + 1) = h.vl (s + 1)) (e2 : h1.vl (s + 2) = h.vl (s + 2)) : StI h1 a1 s N LL kp g e := by
  obtain ⟨⟨k0, n0, v0, k1, n1, v1, k2, n2⟩, ⟨c1, c2, c3, c4⟩, t3, t4, t5⟩ := t
  refine ⟨⟨(p.2.1 _ n0).trans k0, Nat.lt_of_lt_of_le n0 p.1, by rw [e0]; exact v0, (p.2.1 _ n1).trans k1, Nat.lt_of_lt_of_le n1 p.1, by rw [e0]; exact v1, (p.2.1 _ n2).trans k2, Nat.lt_of_lt_of_le n2 p.1⟩, ⟨by rw [e0]; exact c1, c2, by rw [e0]; exact c3, by rw [e0]; exact c4⟩, fun l hl => ?_, fun l l1 l2 => by rw [e1]; exact t4 l l1 l2, t5.pr p (fun c _ => by rw [e2])⟩
  obtain ⟨t, u1, u2⟩ := t3 l hl
  exact ⟨t, by rw [e1]; exact u1, u2.pr p⟩
theorem SvR.pr {v : Nat → Int} (t : SvR h a s v) (p : PrS h a h1 a1) (e0 : h1.vl s = h.vl s) (e1 : h1.vl (s + 1) = h.vl (s + 1)) (e2 : h1.vl (s + 2) = h.vl (s + 2)) : SvR h1 a1 s v := by
  obtain ⟨N, LL, kp, r1, r2⟩ := t
  exact ⟨N, LL, kp, r1, r2.pr p e0 e1 e2⟩
/-- a state takes what another one has -/
theorem StI.tk {b tb kb : Nat} {N' : Nat} {LL' : Nat → List Nd} {kp' : Nat → Option TE} {g' e' : Int} (t : StI h a b N LL kp g e) (hs : ST h s (s + 1) (s + 2)) (q : TKQ h h1 s (s + 1) (s + 2) b (b + 1) (b + 2)) (p : PrS h a h1 a1) : StI h1 a1 s N LL kp g e := by
  obtain ⟨k, q1, q2, q3, q4, q5⟩ := q
  obtain ⟨-, ⟨c1, c2, c3, c4⟩, t3, t4, t5⟩ := t
  have hs1 := hs.ks k (by simp) (by simp) (by simp)
  refine ⟨hs1, ⟨q3.trans c1, c2, q4.trans c3, q5.trans c4⟩, fun l hl => ?_, fun l l1 l2 => ?_, ?_⟩
  · obtain ⟨t, u1, u2⟩ := t3 l hl
    refine ⟨t, ?_, u2.pr p⟩
    rw [q1 l (by omega)]
    unfold tmAt
    rw [c1, if_pos (by omega)]
    exact u1
  · rw [q1 l l2]
    unfold tmAt
    rw [c1, if_neg (by omega)]
  · refine t5.pr p (fun c hc => ?_)
    rw [q2 c hc]
    unfold kpAt
    rw [if_pos (by omega)]
    rfl
/-- what a state takes is made as it must be -/
theorem StI.ok (t : StI h a s N LL kp g e) : (∀ j : Nat, j < 6 → 0 ≤ h.vl (s + 1) j → h.kd (h.vl (s + 1) j).toNat = (7, 2)) ∧ ∀ j : Nat, j < 8 → 0 ≤ h.vl (s + 2) j → h.kd (h.vl (s + 2) j).toNat = (5, 2) := by
  obtain ⟨-, -, t3, t4, t5⟩ := t
  refine ⟨fun j hj h0 => ?_, fun j hj h0 => ?_⟩
  · by_cases c : j < N
    · obtain ⟨t, u1, u2⟩ := t3 j c
      rw [u1, show ((t : Nat) : Int).toNat = t from rfl]
      exact u2.l.t.o.1.1
    · rw [t4 j (by omega) hj] at h0
      exact absurd h0 (by decide)
  · rcases t5 j hj with ⟨-, w⟩ | ⟨R, s', b, n, -, w, w2, -⟩
    · rw [w] at h0; exact absurd h0 (by decide)
    · rw [w, show ((s' : Nat) : Int).toNat = s' from rfl]
      exact w2.1.1.1
/-- kinds that only the states and refusals have -/
abbrev OwS (k : Nat) : Prop := k = 4 ∨ k = 6 ∨ k = 105 ∨ k = 107
/-- states and refusals stay -/
def SmS (h h1 : AH) : Prop := ∀ c, 94 ≤ c → c < h.n → OwS (h.kd c).1 → h1.vl c = h.vl c
theorem QF.sm {Y : Nat → Prop} (q : QF h a K h1 a1 K1 Y) (f : FSc h a) (g : YA h a K) (hY : ∀ c, Y c → c < 94) : SmS h h1 := fun c h94 hc ho => by
  obtain ⟨⟨e, x, -⟩, -⟩ := id q
  have ny : YNo h a c := ⟨hc, by omega, fun k hk z => by
    have := (g.2.1 k hk).2.1
    rw [z] at this
    rw [this] at ho
    rcases ho with w | w | w | w <;> exact absurd w (by show ¬ (100 : Nat) = _; decide)⟩
  refine x.v ny (fun z => ?_)
  rcases z with (z | z | z | z) | z
  · omega
  · omega
  · obtain ⟨i, s, hi, hs, hz⟩ := z
    rcases f.1 i hi with w | ⟨s', b, w1, w2, w3⟩
    · omega
    · have e1 : s = s' := by omega
      subst e1
      have k1 := w3.1.1
      have k2 := w3.1.2
      rcases hz with rfl | hz
      · rw [k1] at ho
        rcases ho with w | w | w | w <;> exact absurd w (by show ¬ (5 : Nat) = _; decide)
      · have e2 : c = b := by rw [k2.1] at hz; omega
        rw [e2, k2.2.1] at ho
        rcases ho with w | w | w | w <;> exact absurd w (by show ¬ (100 : Nat) = _; decide)
  · omega
  · have := hY c z; omega
theorem GF.sm {C : Nat → Nat → Prop} (q : GF h h1 C) (hC : ∀ c j, C c j → 94 ≤ c → ¬ OwS (h.kd c).1) : SmS h h1 := fun c h94 hc ho => funext fun j => q.2.2 c j hc (fun z => hC c j z h94 ho)
/-- the past -/
def RgI (h : AH) (a : Nat → Nat) (c : Nat) (pv : Nat → Nat → Int) : Prop := c ≤ 8 ∧ h.vl 40 2 = (c : Int) ∧ ∃ nx : Nat, h.vl 40 1 = (nx : Int) ∧ nx < 8 ∧ (∀ p, p < 8 → h.vl 41 p = -1 ∨ ∃ s : Nat, h.vl 41 p = (s : Int) ∧ 94 ≤ s ∧ ST h s (s + 1) (s + 2)) ∧ (∀ p q, p < 8 → q < 8 → p ≠ q → 0 ≤ h.vl 41 p → h.vl 41 p ≠ h.vl 41 q) ∧ ∀ k, k < c → ∃ s : Nat, h.vl 41 ((nx + 8 - c + k) % 8) = (s : Int) ∧ SvR h a s (pv k)
theorem ST.sm {s : Nat} (t : ST h s (s + 1) (s + 2)) (m : SmS h h1) (p : PrS h a h1 a1) (h94 : 94 ≤ s) : ST h1 s (s + 1) (s + 2) ∧ h1.vl s = h.vl s ∧ h1.vl (s + 1) = h.vl (s + 1) ∧ h1.vl (s + 2) = h.vl (s + 2) := by
  obtain ⟨k0, n0, v0, k1, n1, v1, k2, n2⟩ := t
  have e0 := m s h94 n0 (by rw [k0]; exact Or.inr (Or.inl rfl))
  have e1 := m (s + 1) (by omega) n1 (by rw [k1]; exact Or.inr (Or.inr (Or.inr rfl)))
  have e2 := m (s + 2) (by omega) n2 (by rw [k2]; exact Or.inr (Or.inr (Or.inl rfl)))
  exact ⟨⟨(p.2.1 _ n0).trans k0, Nat.lt_of_lt_of_le n0 p.1, by rw [e0]; exact v0, (p.2.1 _ n1).trans k1, Nat.lt_of_lt_of_le n1 p.1, by rw [e0]; exact v1, (p.2.1 _ n2).trans k2, Nat.lt_of_lt_of_le n2 p.1⟩, e0, e1, e2⟩
theorem RgI.pr {c : Nat} {pv : Nat → Nat → Int} (r : RgI h a c pv) (p : PrS h a h1 a1) (m : SmS h h1) (e40 : ∀ j, h1.vl 40 j = h.vl 40 j) (e41 : ∀ j, h1.vl 41 j = h.vl 41 j) : RgI h1 a1 c pv := by
  obtain ⟨c8, r1, nx, r2, r3, r4, r5, r6⟩ := r
  refine ⟨c8, (e40 2).trans r1, nx, (e40 1).trans r2, r3, fun q hq => ?_, fun q q' h1 h2 h3 h4 => ?_, fun k hk => ?_⟩
  · rw [e41]
    rcases r4 q hq with w | ⟨s, w1, w2, w3⟩
    · exact Or.inl w
    · exact Or.inr ⟨s, w1, w2, (w3.sm m p w2).1⟩
  · rw [e41] at h4 ⊢
    rw [e41]
    exact r5 q q' h1 h2 h3 h4
  · obtain ⟨s, w1, w2⟩ := r6 k hk
    rw [e41]
    refine ⟨s, w1, ?_⟩
    rcases r4 _ (Nat.mod_lt _ (by decide)) with w | ⟨s', u1, u2, u3⟩
    · rw [w] at w1; omega
    · have es : s = s' := by rw [u1] at w1; omega
      subst es
      obtain ⟨-, x0, x1, x2⟩ := u3.sm m p u2
      exact w2.pr p x0 x1 x2
theorem RgI.eq {c : Nat} {pv pv' : Nat → Nat → Int} (r : RgI h a c pv) (e : ∀ k j, k < c → j < 569 → pv' k j = pv k j) : RgI h a c pv' := by
  obtain ⟨c8, r1, nx, r2, r3, r4, r5, r6⟩ := r
  refine ⟨c8, r1, nx, r2, r3, r4, r5, fun k hk => ?_⟩
  obtain ⟨s, w1, w2⟩ := r6 k hk
  exact ⟨s, w1, w2.eq (fun j hj => e k j hk hj)⟩
/-- why something was refused -/
def RfI (h : AH) (w d cw cd : Int) : Prop := (h.vl 0 12 = -1 ∧ w = 0) ∨ ∃ r : Nat, h.vl 0 12 = (r : Int) ∧ (94 ≤ r ∧ r < h.n ∧ h.kd r = (4, 3)) ∧ w ≠ 0 ∧ h.vl r 0 = w ∧ h.vl r 1 = d ∧ ((h.vl r 2 = -1 ∧ cw = 0) ∨ ∃ q : Nat, h.vl r 2 = (q : Int) ∧ (94 ≤ q ∧ q < h.n ∧ h.kd q = (4, 3)) ∧ cw ≠ 0 ∧ h.vl q 0 = cw ∧ h.vl q 1 = cd)
theorem RfI.pr {w d cw cd : Int} (r : RfI h w d cw cd) (p : PrS h a h1 a1) (m : SmS h h1) (e : h1.vl 0 12 = h.vl 0 12) : RfI h1 w d cw cd := by
  have k4 : ∀ r : Nat, (94 ≤ r ∧ r < h.n ∧ h.kd r = (4, 3)) → (94 ≤ r ∧ r < h1.n ∧ h1.kd r = (4, 3)) ∧ h1.vl r = h.vl r := fun r z => ⟨⟨z.1, Nat.lt_of_lt_of_le z.2.1 p.1, (p.2.1 r z.2.1).trans z.2.2⟩, m r z.1 z.2.1 (by rw [z.2.2]; exact Or.inl rfl)⟩
  rcases r with ⟨r1, r2⟩ | ⟨r, r1, r2, r3, r4, r5, r6⟩
  · exact Or.inl ⟨e.trans r1, r2⟩
  · obtain ⟨x1, x2⟩ := k4 r r2
    refine Or.inr ⟨r, e.trans r1, x1, r3, by rw [x2]; exact r4, by rw [x2]; exact r5, ?_⟩
    rw [x2]
    rcases r6 with w | ⟨q, q1, q2, q3, q4, q5⟩
    · exact Or.inl w
    · obtain ⟨y1, y2⟩ := k4 q q2
      exact Or.inr ⟨q, q1, y1, q3, by rw [y2]; exact q4, by rw [y2]; exact q5⟩
end Svs
