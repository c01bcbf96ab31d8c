/-! what stands in the class between two questions -/
/-- cells that no lesson and no kept type has -/
def PX (h : AH) : Nat → Prop := fun c => FX h c ∨ c < 94
/-- the kept types in a row of a state -/
def KpP (h : AH) (a : Nat → Nat) (kb : Nat) (kp : Nat → Option TE) : Prop := ∀ c, c < 8 → (kp c = none ∧ h.vl kb c = -1) ∨ ∃ (R : TE) (s b n : Nat), kp c = some R ∧ h.vl kb c = (s : Int) ∧ ShW h a s b n (rowT R) ∧ (¬ PX h s ∧ ¬ PX h b) ∧ sz R ≤ 24 ∧ ∀ x, 2 ≤ x → oc x R = true → x < 202
/-- a lesson as it must be -/
def LOk (L : List Nd) : Prop := (∃ T, shT T L ∧ ht T ≤ 130) ∧ (∀ x ∈ L, ndOK x) ∧ L.length ≤ 119 ∧ L ≠ [] ∧ nle L ≤ 11
theorem NV.lok {h : AH} {N : Nat} {LL : Nat → List Nd} {l : Nat} (hN : NV h N LL) (hl : l < N) : LOk (LL l) := by
  obtain ⟨T, hT⟩ := hN.sh hl
  obtain ⟨T', h1, h2⟩ := sh_ht hT
  have := hN.len9 hl
  exact ⟨⟨T', h1, by omega⟩, hN.ok hl, this, hN.ne hl, hN.nle hl⟩
theorem TmX.an {h : AH} {a : Nat → Nat} {X X' : Nat → Prop} {tc : Nat} {L : List Nd} (t : TmX h a X tc L) (hX : ∀ c, X' c → X c) : TmX h a X' tc L := by
  obtain ⟨rr, ro, N, t1, t2, t3, t4, ⟨t5, t6⟩, ⟨t7, t8⟩, t9⟩ := t
  exact ⟨rr, ro, N, t1, t2, t3, t4, ⟨t5, fun z => t6 (hX _ z)⟩, ⟨t7, fun z => t8 (hX _ z)⟩, fun k hk => ⟨(t9 k hk).1, fun z => (t9 k hk).2 (hX _ z)⟩⟩
theorem FSc.lo {h : AH} {a : Nat → Nat} {c : Nat} (f : FSc h a) (z : FO h c) : 94 ≤ c := by
  obtain ⟨i, s, hi, hs, hc⟩ := z
  rcases f.1 i hi with w | ⟨s', b, w1, w2, w3⟩
  · omega
  · have e := w3.1.2.1
    obtain rfl : s = s' := by omega
    rcases hc with rfl | hc
    · exact w2.1
    · have := w2.2
      omega
theorem KpP.c {h : AH} {a K : Nat → Nat} {kp : Nat → Option TE} (k : KpP h a 33 kp) (g : YA h a K) (f : FSc h a) : KpC h a (FX h) kp := by
  refine ⟨fun z => ?_, fun c hc => ?_⟩
  · have n94 := g.1.1
    rcases z with z | z | z | z
    · omega
    · omega
    · have := f.lo z; omega
    · omega
  · rcases k c hc with z | ⟨R, s, b, n, k1, k2, k3, k4, k5⟩
    · exact Or.inl z
    · exact Or.inr ⟨R, s, b, n, k1, k2, k3, ⟨fun z => k4.1 (Or.inl z), fun z => k4.2 (Or.inl z)⟩, k5⟩
/-- what questions need: the lessons of now, the kept types of now -/
def QN (h : AH) (a K : Nat → Nat) (N : Nat) (tc : Nat → Nat) (LL : Nat → List Nd) (kp : Nat → Option TE) : Prop := YA h a K ∧ KEq K ∧ FSc h a ∧ (h.vl 31 2 = (N : Int) ∧ N ≤ 6 ∧ ∀ l, l < N → h.vl 32 l = (tc l : Int) ∧ TmX h a (PX h) (tc l) (LL l)) ∧ KpP h a 33 kp
/-- what is known of lessons and kept types -/
def LkO (N : Nat) (LL : Nat → List Nd) (kp : Nat → Option TE) : Prop := (∀ l, l < N → LOk (LL l)) ∧ ∀ c R, kp c = some R → ∀ x, 2 ≤ x → oc x R = true → x < 210
/-- what a question leaves: the finder's cells change, and those of Y -/
def QF (h : AH) (a K : Nat → Nat) (h1 : AH) (a1 K1 : Nat → Nat) (Y : Nat → Prop) : Prop := (∃ e, YX h a K h1 a1 K1 tks WF (fun c => FX h c ∨ Y c) e ∧ e + snn h = snn h1) ∧ FSc h1 a1 ∧ (∀ c, FO h1 c → FX h c) ∧ KEq K1
section QFs
variable {h h1 h2 : AH} {a K a1 K1 a2 K2 : Nat → Nat} {Y : Nat → Prop}
theorem QF.g (q : QF h a K h1 a1 K1 Y) : YA h1 a1 K1 := by
  obtain ⟨⟨e, c, -⟩, -⟩ := q
  exact c.1
theorem QF.rf (g : YA h a K) (f : FSc h a) (k : KEq K) : QF h a K h a K Y := ⟨⟨0, YX.rf g, Nat.zero_add _⟩, f, fun _ z => Or.inr (Or.inr (Or.inl z)), k⟩
theorem QF.fx (q : QF h a K h1 a1 K1 Y) {c : Nat} (z : FX h1 c) : FX h c := by
  obtain ⟨⟨e, x, -⟩, -, f, -⟩ := q
  rcases z with z | z | z | z
  · exact Or.inl z
  · exact Or.inr (Or.inl z)
  · exact f c z
  · exact Or.inr (Or.inr (Or.inr (Nat.le_trans x.2.1.1 z)))
theorem QF.px (q : QF h a K h1 a1 K1 Y) {c : Nat} (z : PX h1 c) : PX h c := z.imp q.fx id
theorem QF.tr (p : QF h a K h1 a1 K1 Y) (q : QF h1 a1 K1 h2 a2 K2 Y) : QF h a K h2 a2 K2 Y := by
  have fx : ∀ c, FX h1 c → FX h c := fun c z => p.fx z
  obtain ⟨⟨e, x, x1⟩, -⟩ := p
  obtain ⟨⟨e', y, y1⟩, f2, f3, f4⟩ := q
  exact ⟨⟨e + e', x.tr (y.wk (fun _ z => z) (fun _ z => z) (fun c z => z.imp (fx c) id) (Nat.le_refl _)), by omega⟩, f2, fun c z => fx c (f3 c z), f4⟩
theorem QF.wk {Y' : Nat → Prop} (p : QF h a K h1 a1 K1 Y) (hY : ∀ c, Y c → Y' c) : QF h a K h1 a1 K1 Y' := by
  obtain ⟨⟨e, x, x1⟩, f⟩ := p
  exact ⟨⟨e, x.wk (fun _ z => z) (fun _ z => z) (fun c z => z.imp id (hY c)) (Nat.le_refl _), x1⟩, f⟩
/-- the types' rows and some other fixed cells change -/
theorem QF.yx {D F : List Nat} {X : Nat → Prop} (p : QF h a K h1 a1 K1 Y) (c : YX h1 a1 K1 h2 a2 K2 D F X 0) (hX : ∀ y, X y → FX h1 y ∨ Y y) (h26 : ¬ X 26) (h94 : ∀ s, 94 ≤ s → ¬ X s) (hK : KEq K2) (hD : ∀ x ∈ D, x ∈ tks := by decide) (hF : ∀ x ∈ F, x ∈ WF := by decide) : QF h a K h2 a2 K2 Y := by
  have g := p.g
  obtain ⟨q1, q2⟩ := p.2.1.px g c h26 h94
  refine p.tr ⟨⟨0, c.wk hD hF hX (Nat.le_refl _), ?_⟩, q1, fun k z => Or.inr (Or.inr (Or.inl ((q2 k).mp z))), hK⟩
  rw [Nat.zero_add]
  unfold snn
  rw [c.v (g.no (by decide)) h26]
theorem PT.q {t : Nat} {L : List Nd} (p : TmX h a (PX h) t L) (q : QF h a K h1 a1 K1 Y) (hY : ∀ c, Y c → c < 94) : TmX h1 a1 (PX h1) t L := by
  obtain ⟨⟨e, x, -⟩, -⟩ := id q
  exact (p.xt x (fun c z => z.imp id (hY c))).an (fun c z => q.px z)
theorem KpP.q {kb : Nat} {kp : Nat → Option TE} (p : KpP h a kb kp) (q : QF h a K h1 a1 K1 Y) (hY : ∀ c, Y c → c < 94) (hkb : h1.vl kb = h.vl kb) : KpP h1 a1 kb kp := fun c hc => by
  obtain ⟨⟨e, x, -⟩, -⟩ := id q
  have yp : ∀ c, FX h c ∨ Y c → PX h c := fun c z => z.imp id (hY c)
  rw [hkb]
  rcases p c hc with z | ⟨R, s, b, n, k1, k2, k3, k4, k5⟩
  · exact Or.inl z
  · exact Or.inr ⟨R, s, b, n, k1, k2, k3.x x ⟨fun z => k4.1 (yp _ z), fun z => k4.2 (yp _ z)⟩, ⟨fun z => k4.1 (q.px z), fun z => k4.2 (q.px z)⟩, k5⟩
theorem QF.v (q : QF h a K h1 a1 K1 Y) (f : FSc h a) (g : YA h a K) {c : Nat} (hc : (c < 9 ∨ (18 < c ∧ c < 94)) ∧ c ≠ 8 ∧ ¬ (19 ≤ c ∧ c ≤ 26)) (hY : ¬ Y c) : h1.vl c = h.vl c := by
  obtain ⟨⟨e, x, -⟩, -⟩ := id q
  refine x.v (g.no hc.1) (fun z => ?_)
  have n94 := g.1.1
  rcases z with (z | z | z | z) | z
  · exact hc.2.1 z
  · exact hc.2.2 z
  · have := f.lo z; omega
  · omega
  · exact hY z
theorem QN.q {N : Nat} {tc : Nat → Nat} {LL : Nat → List Nd} {kp : Nat → Option TE} (n : QN h a K N tc LL kp) (q : QF h a K h1 a1 K1 Y) (hY : ∀ c, Y c → c < 31) : QN h1 a1 K1 N tc LL kp := by
  obtain ⟨g, k, f, ⟨n1, n2, n3⟩, n4⟩ := n
  have y94 : ∀ c, Y c → c < 94 := fun c z => by have := hY c z; omega
  have y3 : ∀ c, 31 ≤ c → c < 94 → h1.vl c = h.vl c := fun c h1 h2 => q.v f g ⟨Or.inr ⟨by omega, h2⟩, by omega, by omega⟩ (fun z => by have := hY c z; omega)
  refine ⟨q.g, q.2.2.2, q.2.1, ⟨by rw [y3 31 (by decide) (by decide)]; exact n1, n2, fun l hl => ?_⟩, n4.q q y94 (y3 33 (by decide) (by decide))⟩
  rw [y3 32 (by decide) (by decide)]
  exact ⟨(n3 l hl).1, PT.q (n3 l hl).2 q y94⟩
theorem QN.sn {N : Nat} {tc : Nat → Nat} {LL : Nat → List Nd} {kp : Nat → Option TE} (n : QN h a K N tc LL kp) : SNw h N tc LL := ⟨n.1.1, n.2.2.2.1.1, n.2.2.2.1.2.1, fun l hl => ⟨(n.2.2.2.1.2.2 l hl).1, (n.2.2.2.1.2.2 l hl).2.l⟩⟩
end QFs
section QGo
variable {h : AH} {a K : Nat → Nat} {N : Nat} {tc : Nat → Nat} {LL : Nat → List Nd} {kp : Nat → Option TE}
/-- the found types, told by node -/
def FdS (L : List Nd) (S : IS) (h : AH) (a K : Nat → Nat) (N : Nat) (T : Nat → TE) (τ : Nat → Nat) : Prop := YS h a K N T τ S.1 ∧ N ≤ 40000 ∧ ∀ k, k < L.length → k < 120 ∧ ∃ c : Nat, c < N ∧ h.vl 23 k = (c : Int) ∧ T c = S.2.1 k
/-- the class goes through a lesson: fails, or all types stand -/
def QgB (h : AH) (a K : Nat → Nat) (L : List Nd) (kp : Nat → Option TE) (x : Int) (h1 : AH) : Prop := ∃ r S a1 K1, fnR L kp r S ∧ x = (if r.1 = 0 then 1 else 0) ∧ QF h a K h1 a1 K1 (fun _ => False) ∧ FlC h1 r ∧ (r.1 = 0 → ∃ (M : Nat) (T : Nat → TE) (τ : Nat → Nat) (c : Nat), FdS L S h1 a1 K1 M T τ ∧ h1.vl 8 8 = (c : Int) ∧ c < M ∧ T c = S.2.1 0)
theorem FrW.q {h0 h1 : AH} {a0 K0 a1 K1 : Nat → Nat} {L : List Nd} {tc : Nat} (f : FrW h0 a0 K0 L kp tc h1 a1 K1) (k : KEq K1) : QF h0 a0 K0 h1 a1 K1 (fun _ => False) := by
  obtain ⟨⟨e, x, x1⟩, f2, f3, -⟩ := f
  exact ⟨⟨e, x.wk (fun _ z => z) (fun _ z => z) (fun c z => Or.inl z) (Nat.le_refl _), x1⟩, f2, f3, k⟩
theorem q_go (n : QN h a K N tc LL kp) (o : LkO N LL kp) {l : Nat} (hl : l < N) : CV mX0_goThrough 9 [rv 8, rv (tc l : Int), rv 31, iv 0] h (oi (QgB h a K (LL l) kp)) := by
  obtain ⟨g, k, f, ⟨n1, n2, n3⟩, n4⟩ := n
  obtain ⟨⟨T0, o1, o2⟩, o3, o4, o5, o6⟩ := o.1 l hl
  refine cv_mono (s_goThr1 g k f ((n3 l hl).2.an (fun c z => Or.inl z)) (n4.c g f) o1 o2 o3 o.2 o4 o5 o6) fun oo h1 q => ?_
  obtain ⟨x, rfl, r, S, q1, q2, q3, q4⟩ := q
  by_cases c : r.1 = 0
  · obtain ⟨M, T, τ, sc, gz, lz, fv, yl, d, a1, K1, ⟨f1, s1, -, fl, -, -, -, r8⟩, ⟨d1, d2⟩, hM, -⟩ := q4 c
    refine ⟨x, rfl, r, S, a1, K1, q1, q2, f1.q s1.ke, ?_, fun _ => ⟨M, T, τ, d, ⟨s1.1, hM, fun k hk => s1.2.2.1 k hk⟩, r8, d1, d2⟩⟩
    have e : r = (0, -1, -1, -1) := by
      obtain ⟨r0, w1, w2, w3⟩ := q1
      have z0 : r0.1 = 0 := Decidable.byContradiction fun z => z (by rw [← w2 z]; exact c)
      have := w3 z0
      rw [this] at c ⊢
      unfold mxR at c ⊢
      split at c
      · rename_i hlt; rw [if_pos hlt]
      · exact absurd (show (10 : Int) = 0 from c) (by decide)
    rw [e]
    exact fl
  · obtain ⟨fl, a1, K1, f1, k1, -⟩ := q3 c
    exact ⟨x, rfl, r, S, a1, K1, q1, q2, f1.q k1, fl, fun z => absurd z c⟩
end QGo
