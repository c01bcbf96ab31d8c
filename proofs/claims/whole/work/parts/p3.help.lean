/-! the law's calls: what joins both sides -/
theorem wy_iff {N l : Nat} {LL : Nat → List Nd} {kp : Nat → Option TE} (o : LkO N LL kp) (hl : l < N) {r : IR} {S : IS} (hf : fnR (LL l) kp r S) (hr : r.1 = 0) {ov : WO} (hw : wyO (LL l) kp ov) {y : Int} (hy : agR (LL l) y) : (y ≤ 300 → ov ≠ none) ∧ (300 < y → ov = none) := by
  obtain ⟨⟨T0, o1, o2⟩, o3, o4, o5, o6⟩ := o.1 l hl
  exact (wy_row o1 o3 (by omega) o.2 hf hr hw).2 y hy
theorem bo_no {L L' : List Nd} {kp : Nat → Option TE} {g : AH} (h : BoR L L' kp 0 g) : ¬ (TyP L kp ∧ TyP L' kp) := by
  rintro ⟨⟨r1, S1, a1, a2⟩, ⟨r2, S2, c1, c2⟩⟩
  obtain ⟨r, S, h1, h2⟩ := h
  obtain ⟨rfl, -⟩ := fnR_det h1 a1
  rcases h2 with ⟨h2, -⟩ | ⟨-, r', S', h3, h4⟩
  · exact h2 a2
  · obtain ⟨rfl, -⟩ := fnR_det h3 c1
    rcases h4 with ⟨h4, -⟩ | ⟨-, h4, -⟩
    · exact h4 c2
    · exact absurd h4 (by decide)
theorem iff01 {x y : Int} {P : Prop} (hx : x = 0 ∨ x = 1) (hy : y = 0 ∨ y = 1) (h : x = 1 ↔ P) (h' : y = 1 ↔ P) : x = y := by
  by_cases c : P
  · rw [h.mpr c, h'.mpr c]
  · have h1 : ¬ x = 1 := fun z => c (h.mp z)
    have h2 : ¬ y = 1 := fun z => c (h'.mp z)
    omega
section Hlp
variable {h h1 : AH} {a K : Nat → Nat} {v bv sv : Nat → Int} {isS : Int} {c : Nat} {pv : Nat → Nat → Int} {w d cw cd : Int} {X1 X3 : List Int} {b1 N1 b3 N3 : Nat} {N : Nat} {LL : Nat → List Nd} {kp : Nat → Option TE}
theorem JC.jn (j : JC h a K v bv isS sv c pv w d cw cd X1 X3 b1 N1 b3 N3) (q : ∃ h2 a1 K1, QF h a K h2 a1 K1 QY ∧ NwI h2 h1) : JQ h K N1 N3 1 300 v bv isS sv c pv w d cw cd X1 X3 h1 := by
  obtain ⟨h2, a1, K1, q, n1, n2, n3, n4, n5⟩ := q
  have j2 := j.qf q
  have gc : GC h2 h1 (fun _ _ => False) 1 200 := ⟨⟨by omega, n2, fun x i hx _ => by rw [n3 x hx]⟩, by omega, n5⟩
  exact ⟨a1, K1, b1, N1, b3, N3, ((q.fj (N1 := N1) (N3 := N3) j.1.2.2 j.1.1 (fun _ z => z)).tr (gc.fj j2.1.1 (fun _ _ z => z.elim))).wk (by decide) (by decide), j2.gf gc.1 (fun _ _ z => z.elim)⟩
theorem kept_iff (hv : VS v N LL kp) (hs : StI h a 31 N LL kp (v 1) (v 2)) {p : Int} (hp : 0 ≤ p ∧ p < 8) : (if kpAt h 33 p < 0 then (0 : Int) else 1) = (if 0 < v (369 + 25 * p.toNat) then 1 else 0) := by
  obtain ⟨l, rfl⟩ : ∃ l : Nat, p = (l : Int) := ⟨p.toNat, by omega⟩
  rw [show ((l : Nat) : Int).toNat = l from rfl, show kpAt h 33 (l : Int) = h.vl 33 l from by unfold kpAt; rw [if_pos (by omega)]; rfl]
  rcases hs.2.2.2.2 l (by omega) with ⟨u1, u2⟩ | ⟨R, s, b, n, u1, u2, -⟩
  · rcases hv.2.1 l (by omega) with ⟨-, y⟩ | ⟨R, y, -⟩
    · have u2 : h.vl 33 l = -1 := u2
      rw [u2, y, if_pos (by decide), if_neg (by decide)]
    · rw [u1] at y; exact nomatch y
  · rcases hv.2.1 l (by omega) with ⟨y, -⟩ | ⟨R', y, y2, -⟩
    · rw [u1] at y; exact nomatch y
    · have u2 : h.vl 33 l = (s : Int) := u2
      have := sz_pos R'
      rw [u2, y2, if_neg (by omega), if_pos (by omega)]
end Hlp
