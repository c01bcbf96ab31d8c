/-! the class goes through a term the first way: what stands -/
/-- the cells that going through may change -/
def FX (h0 : AH) : Nat → Prop := fun c => c = 8 ∨ (19 ≤ c ∧ c ≤ 26) ∨ FO h0 c ∨ h0.n ≤ c
abbrev WF : List Nat := [4, 5, 9, 11, 13, 14]
/-- a term whose cells stay -/
def TmX (h : AH) (a : Nat → Nat) (X : Nat → Prop) (tc : Nat) (L : List Nd) : Prop := ∃ (rr : Nat) (ro : Nat → Nat) (N : Nat), TmI h tc rr ro N L.length ∧ L.length ≤ N ∧ (∀ k j, k < 7 → j < L.length → h.vl (ro k) j = TBL L (colC k) j) ∧ (∀ j, j < L.length → h.vl (ro 7) j = (if TBL L 57 j = 0 then bd (TBL L) j else -1)) ∧ (YNo h a tc ∧ ¬ X tc) ∧ (YNo h a rr ∧ ¬ X rr) ∧ ∀ k, k < 8 → YNo h a (ro k) ∧ ¬ X (ro k)
theorem TmX.l {h : AH} {a : Nat → Nat} {X : Nat → Prop} {tc : Nat} {L : List Nd} (t : TmX h a X tc L) : TmL h tc L := by
  obtain ⟨rr, ro, N, t1, t2, t3, t4, -⟩ := t
  exact ⟨rr, ro, N, t1, t2, t3, t4⟩
theorem TmX.xt {h h1 : AH} {a K a1 K1 : Nat → Nat} {D F : List Nat} {X X' : Nat → Prop} {e tc : Nat} {L : List Nd} (t : TmX h a X tc L) (c : YX h a K h1 a1 K1 D F X' e) (hX : ∀ y, X' y → X y) : TmX h1 a1 X tc L := by
  obtain ⟨rr, ro, N, ⟨⟨a1', a2'⟩, ⟨b1, b2, b3⟩, t3, t4, t5, t6⟩, u1, u2, u3, ⟨w1, x1⟩, ⟨w2, x2⟩, w3⟩ := t
  have v1 := c.v w1 (fun z => x1 (hX _ z))
  have v2 := c.v w2 (fun z => x2 (hX _ z))
  have v3 : ∀ k, k < 8 → h1.vl (ro k) = h.vl (ro k) := fun k hk => c.v (w3 k hk).1 (fun z => (w3 k hk).2 (hX _ z))
  refine ⟨rr, ro, N, ⟨⟨(c.k w1).trans a1', (w1.x c).1⟩, ⟨by rw [v1]; exact b1, (c.k w2).trans b2, (w2.x c).1⟩, fun k hk => ?_, by rw [v1]; exact t4, t5, t6⟩, u1, fun k j hk hj => by rw [v3 k (by omega)]; exact u2 k j hk hj, fun j hj => by rw [v3 7 (by decide)]; exact u3 j hj, ⟨w1.x c, x1⟩, ⟨w2.x c, x2⟩, fun k hk => ⟨(w3 k hk).1.x c, (w3 k hk).2⟩⟩
  obtain ⟨q1, q2, q3⟩ := t3 k hk
  exact ⟨by rw [v2]; exact q1, (c.k (w3 k hk).1).trans q2, ((w3 k hk).1.x c).1⟩
/-- the kept types, whose cells stay -/
def KpC (h : AH) (a : Nat → Nat) (X : Nat → Prop) (kp : Nat → Option TE) : Prop := ¬ X 33 ∧ ∀ c, c < 8 → (kp c = none ∧ h.vl 33 c = -1) ∨ ∃ (R : TE) (s b n : Nat), kp c = some R ∧ h.vl 33 c = (s : Int) ∧ ShW h a s b n (rowT R) ∧ (¬ X s ∧ ¬ X b) ∧ sz R ≤ 24 ∧ ∀ x, 2 ≤ x → oc x R = true → x < 202
theorem KpC.xt {h h1 : AH} {a K a1 K1 : Nat → Nat} {D F : List Nat} {X X' : Nat → Prop} {e : Nat} {kp : Nat → Option TE} (t : KpC h a X kp) (g : YA h a K) (c : YX h a K h1 a1 K1 D F X' e) (hX : ∀ y, X' y → X y) : KpC h1 a1 X kp := by
  refine ⟨t.1, fun k hk => ?_⟩
  rw [c.v (g.no (c := 33) (by decide)) (fun z => t.1 (hX _ z))]
  rcases t.2 k hk with z | ⟨R, s, b, n, t1, t2, t3, t4, t5⟩
  · exact Or.inl z
  · exact Or.inr ⟨R, s, b, n, t1, t2, t3.x c ⟨fun z => t4.1 (hX _ z), fun z => t4.2 (hX _ z)⟩, t4, t5⟩
/-- what stands around all that going through does -/
def FrW (h0 : AH) (a0 K0 : Nat → Nat) (L : List Nd) (kp : Nat → Option TE) (tc : Nat) (h : AH) (a K : Nat → Nat) : Prop := (∃ e, YX h0 a0 K0 h a K tks WF (FX h0) e ∧ e + snn h0 = snn h) ∧ FSc h a ∧ (∀ c, FO h c → FX h0 c) ∧ TmX h a (FX h0) tc L ∧ KpC h a (FX h0) kp ∧ h.vl 8 7 = 0
section W1s
variable {h0 : AH} {a0 K0 : Nat → Nat} {L : List Nd} {kp : Nat → Option TE} {tc : Nat} {h h1 : AH} {a K a1 K1 : Nat → Nat}
theorem FrW.g (f : FrW h0 a0 K0 L kp tc h a K) : YA h a K := by
  obtain ⟨e, c, -⟩ := f.1
  exact c.1
theorem FrW.st {D F : List Nat} {X : Nat → Prop} (f : FrW h0 a0 K0 L kp tc h a K) (c : YX h a K h1 a1 K1 D F X 0) (h87 : h1.vl 8 7 = h.vl 8 7) (h26 : ¬ X 26) (hX : ∀ s, 94 ≤ s → ¬ X s) (hXX : ∀ y, X y → y = 8 ∨ (19 ≤ y ∧ y ≤ 26)) (hD : ∀ x ∈ D, x ∈ tks := by decide) (hF : ∀ x ∈ F, x ∈ WF := by decide) : FrW h0 a0 K0 L kp tc h1 a1 K1 := by
  have g := f.g
  obtain ⟨⟨e, f1, f2⟩, f3, f4, f5, f6, f7⟩ := f
  obtain ⟨q1, q2⟩ := f3.px g c h26 hX
  have xx : ∀ y, X y → FX h0 y := fun y z => (hXX y z).elim Or.inl (fun w => Or.inr (Or.inl w))
  have e26 := c.v (g.no (c := 26) (by decide)) h26
  refine ⟨⟨e, f1.tr (c.wk hD hF xx (Nat.le_refl 0)), ?_⟩, q1, fun k z => f4 k ((q2 k).mp z), f5.xt c xx, f6.xt g c xx, h87.trans f7⟩
  unfold snn at f2 ⊢
  rw [e26]
  exact f2
/-- the types of what was gone through -/
def CSt (L : List Nd) (S : IS) (Dn Gn Sn : Nat → Prop) (h : AH) (a K : Nat → Nat) (N : Nat) (T : Nat → TE) (τ : Nat → Nat) (sc : Nat) : Prop := YS h a K N T τ S.1 ∧ YPs h a K [] ∧ (∀ k, Dn k → k < 120 ∧ ∃ c : Nat, c < N ∧ h.vl 23 k = (c : Int) ∧ T c = S.2.1 k) ∧ (∀ k, Gn k → k < 120 ∧ ∃ c : Nat, c < N ∧ h.vl 24 k = (c : Int) ∧ T c = S.2.2.1 k) ∧ (∀ b, Sn b → b < 120 ∧ ∃ (i s bb : Nat) (P : TE) (xs : List Nat), i < sc ∧ h.vl 25 b = (i : Int) ∧ h.vl 26 i = (s : Int) ∧ ShW h a s bb 200 (rowT P) ∧ SchP L S N T b P xs) ∧ h.vl 8 6 = (sc : Int)
variable {S S1 : IS} {Dn Gn Sn : Nat → Prop} {N N1 sc : Nat} {T T1 : Nat → TE} {τ τ1 : Nat → Nat}
theorem CSt.go {D F : List Nat} {X : Nat → Prop} {σ : List (Nat × TE)} (s : CSt L S Dn Gn Sn h a K N T τ sc) (c : YX h a K h1 a1 K1 D F X 0) (hX : (¬ X 25 ∧ ¬ X 26) ∧ ∀ s, 94 ≤ s → ¬ X s) (ys : YS h1 a1 K1 N1 T1 τ1 S1.1) (yp : YPs h1 a1 K1 []) (hN : N ≤ N1) (hT : ∀ c, c < N → T1 c = ap σ (T c)) (hS : S.1 ≤ S1.1 ∧ ∀ x, S.2.2.2 x = true → S1.2.2.2 x = true) (hfx : ∀ x, S.2.2.2 x = true → fxS σ x) (hD : ∀ k, Dn k → h1.vl 23 k = h.vl 23 k ∧ S1.2.1 k = ap σ (S.2.1 k)) (hG : ∀ k, Gn k → h1.vl 24 k = h.vl 24 k ∧ S1.2.2.1 k = ap σ (S.2.2.1 k)) (hB : ∀ b, Sn b → S1.2.1 (fstN L b) = ap σ (S.2.1 (fstN L b)) ∧ ∀ k ∈ envN L b, S1.2.2.1 k = ap σ (S.2.2.1 k)) (h6 : h1.vl 8 6 = h.vl 8 6) (hsh : FSc h a) (hsc : sc ≤ 12) : CSt L S1 Dn Gn Sn h1 a1 K1 N1 T1 τ1 sc := by
  obtain ⟨s1, s2, s3, s4, s5, s6⟩ := s
  have g := s1.1
  refine ⟨ys, yp, fun k hk => ?_, fun k hk => ?_, fun b hb => ?_, h6.trans s6⟩
  · obtain ⟨k9, d, d1, d2, d3⟩ := s3 k hk
    obtain ⟨e1, e2⟩ := hD k hk
    exact ⟨k9, d, by omega, e1.trans d2, by rw [hT d d1, d3, e2]⟩
  · obtain ⟨k9, d, d1, d2, d3⟩ := s4 k hk
    obtain ⟨e1, e2⟩ := hG k hk
    exact ⟨k9, d, by omega, e1.trans d2, by rw [hT d d1, d3, e2]⟩
  · obtain ⟨b9, i, s, bb, P, xs, d1, d2, d3, d4, d5⟩ := s5 b hb
    obtain ⟨w1, w3⟩ : 94 ≤ s ∧ 94 ≤ bb := by
      rcases hsh.1 i (by omega) with y | ⟨s', b', y1, y2, y3⟩
      · omega
      · have e1 := d4.1.2.1.1
        obtain rfl : s = s' := by omega
        have e2 := y3.1.2.1
        omega
    obtain ⟨e1, e2⟩ := hB b hb
    refine ⟨b9, i, s, bb, P, xs, d1, ?_, ?_, d4.x c ⟨hX.2 s w1, hX.2 bb w3⟩, d5.st hS.1 hS.2 (fun x hx => hfx x (d5.2.2.1 x hx).2.2) e1 e2 hN hT⟩
    · rw [c.v (g.no (c := 25) (by decide)) hX.1.1]; exact d2
    · rw [c.v (g.no (c := 26) (by decide)) hX.1.2]; exact d3
end W1s
