/-! the class goes through a term the second way: what stands -/
/-- what stands around all that going through does -/
def FrV (h0 : AH) (a0 K0 : Nat → Nat) (L : List Nd) (kp : Nat → Option TE) (tc : Nat) (h : AH) (a K : Nat → Nat) : Prop := (∃ e, YX h0 a0 K0 h a K tks WF (FX h0) e ∧ e + snn h0 = snn h) ∧ FSc h a ∧ (∀ c, FO h c → FX h0 c) ∧ TmX h a (FX h0) tc L ∧ KpC h a (FX h0) kp ∧ h.vl 8 7 = 1
/-- the types, and those of functions' names -/
def CSV (nv : Nat) (G : Nat → TE) (Gn : Nat → Prop) (h : AH) (a K : Nat → Nat) (N : Nat) (T : Nat → TE) (τ : Nat → Nat) : Prop := YS h a K N T τ nv ∧ YPs h a K [] ∧ ∀ k, Gn k → k < 120 ∧ ∃ c : Nat, c < N ∧ h.vl 24 k = (c : Int) ∧ T c = G k
/-- all that stands between two steps -/
def AtV (h0 : AH) (a0 K0 : Nat → Nat) (L : List Nd) (kp : Nat → Option TE) (tc : Nat) (nv : Nat) (G : Nat → TE) (Gn : Nat → Prop) (N : Nat) (T : Nat → TE) (τ : Nat → Nat) (st : List (Nat × Int × Int)) (gz lz : Int) (fv : Nat → Int) (yl : Nat) (res : Int) (h : AH) (a K : Nat → Nat) : Prop := FrV h0 a0 K0 L kp tc h a K ∧ CSV nv G Gn h a K N T τ ∧ PtH h st ∧ FlC h (0, -1, -1, -1) ∧ (h.vl 8 9 = gz ∧ h.vl 9 5 = lz) ∧ h.vl 23 = fv ∧ YL h a N = yl ∧ h.vl 8 8 = res
/-- what stands where it does not go on -/
def BaV (h0 : AH) (a0 K0 : Nat → Nat) (L : List Nd) (kp : Nat → Option TE) (tc : Nat) (h1 : AH) : Prop := ∃ (r : IR) (gz : Int), FlC h1 r ∧ h1.vl 8 9 = gz ∧ (r.1 ≠ 0 ∨ 300 < gz) ∧ ∃ a1 K1, FrV h0 a0 K0 L kp tc h1 a1 K1 ∧ KEq K1 ∧ ∃ st, PtH h1 st
/-- what a node leaves that has ended -/
def EnV (h0 : AH) (a0 K0 : Nat → Nat) (L : List Nd) (kp : Nat → Option TE) (tc : Nat) (nv : Nat) (G : Nat → TE) (Gn : Nat → Prop) (st : List (Nat × Int × Int)) (gz lz : Int) (yl N b : Nat) (T : Nat → TE) (X : TE) (h1 : AH) : Prop := ∃ a1 K1 N1 T1 τ1 yl1 fv1, ∃ c : Nat, AtV h0 a0 K0 L kp tc nv G Gn N1 T1 τ1 st gz lz fv1 yl1 (c : Int) h1 a1 K1 ∧ (N ≤ N1 ∧ N1 ≤ N + b ∧ yl1 + N ≤ yl + N1) ∧ (∀ c, c < N → T1 c = T c) ∧ c < N1 ∧ T1 c = X
section VFr
variable {h0 : AH} {a0 K0 : Nat → Nat} {L : List Nd} {kp : Nat → Option TE} {tc : Nat} {h h1 : AH} {a K a1 K1 : Nat → Nat}
theorem FrV.g (f : FrV h0 a0 K0 L kp tc h a K) : YA h a K := by
  obtain ⟨e, c, -⟩ := f.1
  exact c.1
theorem FrV.st {D F : List Nat} {X : Nat → Prop} (f : FrV h0 a0 K0 L kp tc h a K) (c : YX h a K h1 a1 K1 D F X 0) (h87 : h1.vl 8 7 = h.vl 8 7) (h26 : ¬ X 26) (hX : ∀ s, 94 ≤ s → ¬ X s) (hXX : ∀ y, X y → y = 8 ∨ (19 ≤ y ∧ y ≤ 26)) (hD : ∀ x ∈ D, x ∈ tks := by decide) (hF : ∀ x ∈ F, x ∈ WF := by decide) : FrV h0 a0 K0 L kp tc h1 a1 K1 := by
  have g := f.g
  obtain ⟨⟨e, f1, f2⟩, f3, f4, f5, f6, f7⟩ := f
  obtain ⟨q1, q2⟩ := f3.px g c h26 hX
  have xx : ∀ y, X y → FX h0 y := fun y z => (hXX y z).elim Or.inl (fun w => Or.inr (Or.inl w))
  have e26 := c.v (g.no (c := 26) (by decide)) h26
  refine ⟨⟨e, f1.tr (c.wk hD hF xx (Nat.le_refl 0)), ?_⟩, q1, fun k z => f4 k ((q2 k).mp z), f5.xt c xx, f6.xt g c xx, h87.trans f7⟩
  unfold snn at f2 ⊢
  rw [e26]
  exact f2
variable {nv nv1 : Nat} {G G1 : Nat → TE} {Gn Gn1 : Nat → Prop} {N N1 : Nat} {T T1 : Nat → TE} {τ τ1 : Nat → Nat} {st st1 : List (Nat × Int × Int)} {gz lz res : Int} {fv : Nat → Int} {yl e : Nat}
theorem CSV.ke (s : CSV nv G Gn h a K N T τ) : KEq K := ⟨s.1.2.1.2.1, s.2.1.2.2.1⟩
theorem AtV.wk (q : AtV h0 a0 K0 L kp tc nv G Gn N T τ st gz lz fv yl res h a K) (hG : ∀ k, Gn1 k → Gn k) : AtV h0 a0 K0 L kp tc nv G Gn1 N T τ st gz lz fv yl res h a K := ⟨q.1, ⟨q.2.1.1, q.2.1.2.1, fun k hk => q.2.1.2.2 k (hG k hk)⟩, q.2.2⟩
theorem AtV.k8 (q : AtV h0 a0 K0 L kp tc nv G Gn N T τ st gz lz fv yl res h a K) : h.kd 8 = (1, 14) ∧ 8 < h.n := ⟨q.1.g.1.k8, q.1.g.1.n8⟩
theorem BaV.k8 (q : BaV h0 a0 K0 L kp tc h) : h.kd 8 = (1, 14) ∧ 8 < h.n := by
  obtain ⟨r, gz, -, -, -, a, K, f, -⟩ := q
  exact ⟨f.g.1.k8, f.g.1.n8⟩
theorem EnV.k8 {b : Nat} {X : TE} (q : EnV h0 a0 K0 L kp tc nv G Gn st gz lz yl N b T X h) : h.kd 8 = (1, 14) ∧ 8 < h.n := by
  obtain ⟨a1, K1, N1, T1, τ1, yl1, fv1, c, q1, -⟩ := q
  exact q1.k8
theorem AtV.ba (q : AtV h0 a0 K0 L kp tc nv G Gn N T τ st gz lz fv yl res h a K) (hg : 300 < gz) : BaV h0 a0 K0 L kp tc h := ⟨_, gz, q.2.2.2.1, q.2.2.2.2.1.1, Or.inr hg, a, K, q.1, q.2.1.ke, st, q.2.2.1⟩
/-- the path and fixed cells change -/
theorem AtV.px {gz1 res1 : Int} {fv1 : Nat → Int} (q : AtV h0 a0 K0 L kp tc nv G Gn N T τ st gz lz fv yl res h a K) (c : YX h a K h1 a K [] [] FdX 0) (p : PtH h1 st1) (v8 : ∀ j, j ≠ 8 → j ≠ 9 → h1.vl 8 j = h.vl 8 j) (h9 : h1.vl 8 9 = gz1) (h8 : h1.vl 8 8 = res1) (h23 : h1.vl 23 = fv1) : AtV h0 a0 K0 L kp tc nv G Gn N T τ st1 gz1 lz fv1 yl res1 h1 a K := by
  obtain ⟨f, ⟨s1, s2, s3⟩, -, hf, ⟨-, h5⟩, hv, hy, hr⟩ := q
  have g := f.g
  have h24 : h1.vl 24 = h.vl 24 := c.v (g.no (by decide)) (by decide)
  refine ⟨f.st c (v8 7 (by decide) (by decide)) (by decide) fdx_ok.2 (fun y z => z.imp id (fun w => by omega)), ⟨s1.xt c (fun _ _ => rfl), ?_, fun k hk => by rw [h24]; exact s3 k hk⟩, p, hf.xt v8, ⟨h9, (c.fl 5).trans h5⟩, h23, (YL.x c N).trans hy, h8⟩
  obtain ⟨t1, t2, t3, t4⟩ := s2
  exact ⟨(c.fl 9).trans t1, trivial, t3, t4⟩
theorem AtV.pt (q : AtV h0 a0 K0 L kp tc nv G Gn N T τ st gz lz fv yl res h a K) (c : YX h a K h1 a K [] [] PtX 0) (p : PtH h1 st1) : AtV h0 a0 K0 L kp tc nv G Gn N T τ st1 gz lz fv yl res h1 a K := by
  have g := q.1.g
  have v8 : h1.vl 8 = h.vl 8 := c.v (g.no (by decide)) (by decide)
  have v23 : h1.vl 23 = h.vl 23 := c.v (g.no (by decide)) (by decide)
  exact q.px (c.wk (by decide) (by decide) (fun y z => Or.inr (by omega)) (Nat.le_refl _)) p (fun j _ _ => by rw [v8]) (by rw [v8]; exact q.2.2.2.2.1.1) (by rw [v8]; exact q.2.2.2.2.2.2.2) (v23.trans q.2.2.2.2.2.1)
/-- the types grow -/
theorem AtV.gx (q : AtV h0 a0 K0 L kp tc nv G Gn N T τ st gz lz fv yl res h a K) (u : YU h a K N T h1 N1 T1 τ1 nv1) : ∃ a1 K1 yl1, AtV h0 a0 K0 L kp tc nv1 G Gn N1 T1 τ1 st gz lz fv yl1 res h1 a1 K1 ∧ (N ≤ N1 ∧ yl1 + N ≤ yl + N1) ∧ ∀ c, c < N → T1 c = T c := by
  obtain ⟨f, ⟨s1, s2, s3⟩, hp, hf, ⟨h9, h5⟩, hv, hy, hr⟩ := q
  obtain ⟨a1, K1, c, k, ys, n, t⟩ := u
  have g := f.g
  have v : ∀ y, 18 < y → y < 94 → h1.vl y = h.vl y := fun y h1 h2 => c.v (g.no (Or.inr ⟨h1, h2⟩)) (fun z => z)
  have v8 : h1.vl 8 = h.vl 8 := c.v (g.no (Or.inl (by decide))) (fun z => z)
  refine ⟨a1, K1, _, ⟨f.st c (by rw [v8]) (fun z => z) (fun _ _ z => z) (fun _ z => z.elim), ⟨ys, ?_, fun k hk => ?_⟩, hp.x g c ⟨fun z => z, fun z => z, fun z => z, fun z => z⟩, hf.xt (fun j _ _ => by rw [v8]), ⟨by rw [v8]; exact h9, (c.fl 5).trans h5⟩, (v 23 (by decide) (by decide)).trans hv, rfl, by rw [v8]; exact hr⟩, ⟨n.1, by rw [← hy]; exact n.2⟩, t⟩
  · obtain ⟨t1, t2, t3, t4⟩ := s2
    exact ⟨(c.fl 9).trans t1, trivial, by rw [k 7 (by decide) (by decide), k 8 (by decide) (by decide), k 6 (by decide) (by decide)]; exact t3, Nat.zero_le _⟩
  · obtain ⟨k9, d, d1, d2, d3⟩ := s3 k hk
    have := n.1
    exact ⟨k9, d, by omega, by rw [v 24 (by decide) (by decide)]; exact d2, by rw [t d d1, d3]⟩
/-- a function's variable -/
theorem AtV.gn {c : Nat} {X : TE} (q : AtV h0 a0 K0 L kp tc nv G Gn N T τ st gz lz fv yl res h a K) (hc : c < N) (hX : T c = X) (he : e < 120) (hq : h1 = h.put 24 e (c : Int)) : AtV h0 a0 K0 L kp tc nv (upT G e X) (fun k => Gn k ∨ k = e) N T τ st gz lz fv yl res h1 a K := by
  obtain ⟨f, ⟨s1, s2, s3⟩, hp, hf, ⟨h9, h5⟩, hv, hy, hr⟩ := q
  have g := f.g
  have c1 : YX h a K h1 a K [] [] (fun y => y = 24) 0 := by rw [hq]; exact g.pp ⟨by decide, cis_c (by decide)⟩
  have v8 : h1.vl 8 = h.vl 8 := c1.v (g.no (by decide)) (by decide)
  have v23 : h1.vl 23 = h.vl 23 := c1.v (g.no (by decide)) (by decide)
  have v24 : ∀ k, h1.vl 24 k = if k = e then (c : Int) else h.vl 24 k := fun k => by
    rw [hq, AH.put_vl]
    by_cases z : k = e
    · rw [if_pos ⟨rfl, z⟩, if_pos z]
    · rw [if_neg (fun w => z w.2), if_neg z]
  refine ⟨f.st c1 (by rw [v8]) (by decide) (fun s hs => by omega) (fun y z => Or.inr (by omega)), ⟨s1.xt c1 (fun _ _ => rfl), ?_, fun k hk => ?_⟩, hp.x g c1 (by decide), hf.xt (fun j _ _ => by rw [v8]), ⟨by rw [v8]; exact h9, (c1.fl 5).trans h5⟩, v23.trans hv, (YL.x c1 N).trans hy, by rw [v8]; exact hr⟩
  · obtain ⟨t1, t2, t3, t4⟩ := s2
    exact ⟨(c1.fl 9).trans t1, trivial, t3, t4⟩
  · by_cases z : k = e
    · exact ⟨by omega, c, hc, by rw [v24, if_pos z], by rw [hX, z, upT_s]⟩
    · obtain ⟨k9, d, d1, d2, d3⟩ := s3 k (hk.resolve_right z)
      exact ⟨k9, d, d1, by rw [v24, if_neg z]; exact d2, by rw [upT_n z]; exact d3⟩
/-- a type found for a node that goes on -/
theorem AtV.fnd {c : Int} (q : AtV h0 a0 K0 L kp tc nv G Gn N T τ st gz lz fv yl res h a K) (hq : h1 = h.put 23 e c) : AtV h0 a0 K0 L kp tc nv G Gn N T τ st gz lz (h1.vl 23) yl res h1 a K ∧ h1.vl 23 e = c := by
  have g := q.1.g
  have c1 : YX h a K h1 a K [] [] (fun y => y = 23) 0 := by rw [hq]; exact g.pp ⟨by decide, cis_c (by decide)⟩
  have v8 : h1.vl 8 = h.vl 8 := c1.v (g.no (by decide)) (by decide)
  refine ⟨q.px (c1.wk (by decide) (by decide) (fun y z => Or.inr (by omega)) (Nat.le_refl _)) (q.2.2.1.x g c1 (by decide)) (fun j _ _ => by rw [v8]) (by rw [v8]; exact q.2.2.2.2.1.1) (by rw [v8]; exact q.2.2.2.2.2.2.2) rfl, ?_⟩
  rw [hq, AH.put_vl, if_pos ⟨rfl, rfl⟩]
/-- a node's end -/
theorem s_endV {c : Int} {s x : Int} (q : AtV h0 a0 K0 L kp tc nv G Gn N T τ ((e, s, x) :: st) gz lz fv yl res h a K) (he : e < 120) : CV mX0_end 3 [rv 8, iv (e : Int), iv c] h (on fun h1 => AtV h0 a0 K0 L kp tc nv G Gn N T τ st gz lz (h1.vl 23) yl c h1 a K) := by
  refine cv_mono (s_endF q.1.g q.2.2.1 he) fun o h1 z => ?_
  obtain ⟨e0, c1, p1, v23, v88, v8⟩ := z
  exact ⟨e0, q.px c1 p1 (fun j j8 _ => v8 j j8) ((v8 9 (by decide)).trans q.2.2.2.2.1.1) v88 rfl⟩
theorem s_endE {c b N' yl' : Nat} {T' : Nat → TE} {X : TE} {s x : Int} (q : AtV h0 a0 K0 L kp tc nv G Gn N T τ ((e, s, x) :: st) gz lz fv yl res h a K) (he : e < 120) (hc : c < N) (hX : T c = X) (hN : N' ≤ N ∧ N ≤ N' + b ∧ yl + N' ≤ yl' + N) (hT : ∀ c, c < N' → T c = T' c) : CV mX0_end 3 [rv 8, iv (e : Int), iv (c : Int)] h (on (EnV h0 a0 K0 L kp tc nv G Gn st gz lz yl' N' b T' X)) := cv_mono (s_endV q he) fun o h1 z => ⟨z.1, a, K, N, T, τ, yl, _, c, z.2, hN, hT, hc, hX⟩
theorem s_failV {k : Int} (q : AtV h0 a0 K0 L kp tc nv G Gn N T τ st gz lz fv yl res h a K) (hk : k ≠ 0) : CV mX0_fail 2 [rv 8, iv k, iv (e : Int)] h (on (BaV h0 a0 K0 L kp tc)) := by
  refine cv_mono (s_failF q.1.g) fun o h1 z => ?_
  obtain ⟨e0, c1, r1, r2, r3⟩ := z
  obtain ⟨f1, f2, f3, f4⟩ := q.2.2.2.1
  exact ⟨e0, (k, (e : Int), -1, -1), _, ⟨r1, r2, (r3 12 (by decide) (by decide)).trans f3, (r3 13 (by decide) (by decide)).trans f4⟩, rfl, Or.inl hk, a, K, q.1.st c1 (r3 7 (by decide) (by decide)) (by decide) (fun s hs z => by have z : s = 8 := z; omega) (fun y z => Or.inl z), q.2.1.ke, st, q.2.2.1.x q.1.g c1 (by decide)⟩
set_option maxRecDepth 100000 in
theorem go_preV {Q : AV → AH → Prop} {s x : Int} (q : AtV h0 a0 K0 L kp tc nv G Gn N T τ ((e, s, x) :: st) gz lz fv yl res h a K) (he : e < L.length) (hs : 0 ≤ s ∧ s ≤ 10) (hgz : 0 ≤ gz ∧ gz ≤ 1000)
    (kk : ∀ h1, AtV h0 a0 K0 L kp tc nv G Gn N T τ ((e, s + 1, x) :: st) (gz + (if s = 0 then 1 else 0)) lz fv yl res h1 a K → EV mX0_goOn 8 43 [rv 8, rv (tc : Int), rv 31, iv (e : Int), iv s, iv (TBL L 58 e)] [iv (TBL L 57 e)] h1 Q) : CV mX0_goOn 8 [rv 8, rv (tc : Int), rv 31, iv (e : Int)] h Q := by
  have f := q.1
  have g := f.g
  refine cv_of cdX0_goOn ?_
  show EV _ _ 0 [rv 8, rv (tc : Int), rv 31, iv (e : Int), uv, uv] [] h _
  refine goOn_pre g f.2.2.2.1.l he q.2.2.1 hs q.2.2.2.2.1.1 hgz (fun h1 c => ?_) (fun h1 c p1 r9 v8 v23 => ?_)
  · exact (f.2.2.2.1.xt c (fun y z => by
      have z : y = 8 ∨ (19 ≤ y ∧ y ≤ 23) := z
      exact z.imp id (fun w => Or.inl (by omega)))).l
  exact kk h1 (q.px c p1 (fun j _ j9 => v8 j j9) r9 ((v8 8 (by decide)).trans q.2.2.2.2.2.2.2) (v23.trans q.2.2.2.2.2.1))
end VFr
