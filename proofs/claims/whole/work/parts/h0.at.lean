/-! the class goes on with a node that has parts -/
/-- all that stands between two steps -/
def AtC (h0 : AH) (a0 K0 : Nat → Nat) (L : List Nd) (kp : Nat → Option TE) (tc : Nat) (S : IS) (Dn Gn Sn : Nat → Prop) (N : Nat) (T : Nat → TE) (τ : Nat → Nat) (sc : Nat) (st : List (Nat × Int × Int)) (gz lz : Int) (fv : Nat → Int) (yl : Nat) (res : Int) (h : AH) (a K : Nat → Nat) : Prop := FrW h0 a0 K0 L kp tc h a K ∧ CSt L S Dn Gn Sn h a K N T τ sc ∧ PtH h st ∧ FlC h (0, -1, -1, -1) ∧ (h.vl 8 9 = gz ∧ h.vl 9 5 = lz) ∧ h.vl 23 = fv ∧ YL h a N = yl ∧ h.vl 8 8 = res
/-- what a step leaves that goes on -/
def NxQ (h0 : AH) (a0 K0 : Nat → Nat) (L : List Nd) (kp : Nat → Option TE) (tc : Nat) (S : IS) (Dn Gn Sn : Nat → Prop) (sc : Nat) (st : List (Nat × Int × Int)) (gz lz : Int) (fv : Nat → Int) (yl : Nat) (res : Int) (N b : Nat) (T : Nat → TE) (h1 : AH) : Prop := ∃ a1 K1 N1 T1 τ1 yl1, AtC h0 a0 K0 L kp tc S Dn Gn Sn N1 T1 τ1 sc st gz lz fv yl1 res h1 a1 K1 ∧ (N ≤ N1 ∧ N1 ≤ N + b ∧ yl1 + N ≤ yl + N1) ∧ ∀ c, c < N → T1 c = T c
section AtS
variable {h0 : AH} {a0 K0 : Nat → Nat} {L : List Nd} {kp : Nat → Option TE} {tc : Nat} {h : AH} {a K : Nat → Nat} {S : IS} {Dn Gn Sn : Nat → Prop} {N sc e yl : Nat} {T : Nat → TE} {τ : Nat → Nat} {st : List (Nat × Int × Int)} {s x gz lz res : Int} {fv : Nat → Int}
/-- the path moves -/
theorem AtC.pt {h1 : AH} {st1 : List (Nat × Int × Int)} (q : AtC h0 a0 K0 L kp tc S Dn Gn Sn N T τ sc st gz lz fv yl res h a K) (hsc : sc ≤ 12) (c : YX h a K h1 a K [] [] PtX 0) (p : PtH h1 st1) : AtC h0 a0 K0 L kp tc S Dn Gn Sn N T τ sc st1 gz lz fv yl res h1 a K := by
  obtain ⟨f, hs, -, hf, ⟨h9, h5⟩, hv, hy, hr⟩ := q
  have g := f.g
  have v8 : h1.vl 8 = h.vl 8 := c.v (g.no (by decide)) (by decide)
  have v23 : h1.vl 23 = h.vl 23 := c.v (g.no (by decide)) (by decide)
  obtain ⟨q1, q2⟩ := hs.fr f hsc (c.wk (by decide) (by decide) (fun y z => Or.inr (by omega)) (Nat.le_refl _)) v23 (by rw [v8]) (by rw [v8])
  exact ⟨q2, q1, p, hf.xt (fun j _ _ => by rw [v8]), ⟨by rw [v8]; exact h9, (c.fl 5).trans h5⟩, v23.trans hv, (YL.x c N).trans hy, by rw [v8]; exact hr⟩
/-- the types grow -/
theorem AtC.gx {h1 : AH} {N1 nv' : Nat} {T1 : Nat → TE} {τ1 : Nat → Nat} (q : AtC h0 a0 K0 L kp tc S Dn Gn Sn N T τ sc st gz lz fv yl res h a K) (hsc : sc ≤ 12) (hnv : S.1 ≤ nv') (u : YU h a K N T h1 N1 T1 τ1 nv') : ∃ a1 K1 yl1, AtC h0 a0 K0 L kp tc (nv', S.2) Dn Gn Sn N1 T1 τ1 sc st gz lz fv yl1 res h1 a1 K1 ∧ (N ≤ N1 ∧ yl1 + N ≤ yl + N1) ∧ ∀ c, c < N → T1 c = T c := by
  obtain ⟨f, hs, hp, hf, ⟨h9, h5⟩, hv, hy, hr⟩ := q
  have g := f.g
  obtain ⟨a1, K1, cs1, f1, n1, t1, x1⟩ := hs.gr f hsc hnv u
  have v8 : h1.vl 8 = h.vl 8 := x1.v (g.no (Or.inl (by decide))) (fun z => z)
  have v23 : h1.vl 23 = h.vl 23 := x1.v (g.no (Or.inr (by decide))) (fun z => z)
  exact ⟨a1, K1, _, ⟨f1, cs1, hp.x g x1 ⟨fun z => z, fun z => z, fun z => z, fun z => z⟩, hf.xt (fun j _ _ => by rw [v8]), ⟨by rw [v8]; exact h9, (x1.fl 5).trans h5⟩, v23.trans hv, rfl, by rw [v8]; exact hr⟩, ⟨n1.1, by rw [← hy]; exact n1.2⟩, t1⟩
set_option maxRecDepth 100000 in
theorem go_pre {Q : AV → AH → Prop} (q : AtC h0 a0 K0 L kp tc S Dn Gn Sn N T τ sc ((e, s, x) :: st) gz lz fv yl res h a K) (hsc : sc ≤ 12) (he : e < L.length) (hs : 0 ≤ s ∧ s ≤ 10) (hgz : 0 ≤ gz ∧ gz ≤ 1000)
    (kk : ∀ h1, AtC h0 a0 K0 L kp tc S Dn Gn Sn N T τ sc ((e, s + 1, x) :: st) (gz + (if s = 0 then 1 else 0)) lz fv yl res h1 a K → EV mX0_goOn 8 43 [rv 8, rv (tc : Int), rv 31, iv (e : Int), iv s, iv (TBL L 58 e)] [iv (TBL L 57 e)] h1 Q) : CV mX0_goOn 8 [rv 8, rv (tc : Int), rv 31, iv (e : Int)] h Q := by
  obtain ⟨f, h1', hp, hf, ⟨h9, h5⟩, hv, hy, hr⟩ := q
  have g := f.g
  refine cv_of cdX0_goOn ?_
  show EV _ _ 0 [rv 8, rv (tc : Int), rv 31, iv (e : Int), uv, uv] [] h _
  refine goOn_pre g f.2.2.2.1.l he hp hs h9 hgz (fun h1 c => ?_) (fun h1 c p1 r9 v8 v23 => ?_)
  · exact (f.2.2.2.1.xt c (fun y z => by
      have z : y = 8 ∨ (19 ≤ y ∧ y ≤ 23) := z
      exact z.imp id (fun w => Or.inl (by omega)))).l
  obtain ⟨hs1, f1⟩ := h1'.fr f hsc c v23 (v8 6 (by decide)) (v8 7 (by decide))
  exact kk h1 ⟨f1, hs1, p1, hf.xt (fun j _ j9 => v8 j j9), ⟨r9, (c.fl 5).trans h5⟩, v23.trans hv, (YL.x c N).trans hy, (v8 8 (by decide)).trans hr⟩
end AtS
