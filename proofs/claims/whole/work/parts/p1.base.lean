/-! the law's calls: questions -/
/-- what the reference must do then -/
def RefQ (k : Nat) (kk : Int) (g : AH) (Mm : MD) (bs : List AV) : Prop := STR g ∧ ∃ d2, d2 < 20 ∧ CV Mm d2 (rv 42 :: bs) g (oi fun b h2 => RI h2 ∧ STR h2 ∧ h2.vl 42 0 = kk ∧ (kk = 0 → h2.vl 92 0 = b) ∧ JW k h2)
def RefB (k : Nat) (kk : Int) (g : AH) (Mm : MD) (bs : List AV) : Prop := STR g ∧ ∃ d2, d2 < 20 ∧ CV Mm d2 (rv 42 :: bs) g (oi fun b h2 => RI h2 ∧ STR h2 ∧ h2.vl 42 0 = kk ∧ (kk = 0 → h2.vl 92 0 = b ∧ (b = 0 ∨ b = 1)) ∧ JW k h2)
theorem nv_nd {v : Nat → Int} {N : Nat} {LL : Nat → List Nd} {kp : Nat → Option TE} (s : VS v N LL kp) {l j : Nat} (hl : l < N) (hj : j < (LL l).length) : ndOK (TBL (LL l) 57 j, TBL (LL l) 58 j, TBL (LL l) 63 j) := by
  have nv : NV ((0, fun _ => (0, 0), fun _ j => v j, 0, 0) : AH) N LL := s.1
  exact nv.nd hl hj
section Ask
variable {k : Nat} {h b0 h1 g h2 : AH} {a K a1 K1 : Nat → Nat} {v bv sv : Nat → Int} {isS : Int} {c : Nat} {pv : Nat → Nat → Int} {w d cw cd : Int} {X1 X3 : List Int} {b1 N1 b3 N3 M1 M3 dc ds : Nat} {N : Nat} {LL : Nat → List Nd} {kp : Nat → Option TE} {kk : Int} {Mm : MD} {bs : List AV}
/-- a question of the class leaves all -/
theorem JC.jt (j : JC h a K v bv isS sv c pv w d cw cd X1 X3 b1 N1 b3 N3) : JQ h K N1 N3 1 300 v bv isS sv c pv w d cw cd X1 X3 h.thr := ⟨a, K, b1, N1, b3, N3, FrJ.rf.th.wk (by decide) (by decide), j⟩
theorem JC.js (j : JC h a K v bv isS sv c pv w d cw cd X1 X3 b1 N1 b3 N3) : JQ h K N1 N3 1 300 v bv isS sv c pv w d cw cd X1 X3 h := ⟨a, K, b1, N1, b3, N3, FrJ.rf.wk (by decide) (by decide), j⟩
theorem JC.jf (j : JC h a K v bv isS sv c pv w d cw cd X1 X3 b1 N1 b3 N3) (q : ∃ a1 K1, QF h a K h1 a1 K1 QY) : JQ h K N1 N3 1 300 v bv isS sv c pv w d cw cd X1 X3 h1 := by
  obtain ⟨a1, K1, q⟩ := q
  exact ⟨a1, K1, b1, N1, b3, N3, (q.fj j.1.2.2 j.1.1 (fun _ z => z)).wk (by decide) (by decide), j.qf q⟩
theorem JC.jr (j : JC h a K v bv isS sv c pv w d cw cd X1 X3 b1 N1 b3 N3) (q : QR h a K QY h1) : JQ h K N1 N3 1 300 v bv isS sv c pv w d cw cd X1 X3 h1 := by
  obtain ⟨h2, a1, K1, e, q⟩ := q
  rw [e]
  have j2 := j.qf q
  exact ⟨a1, K1, b1, N1, b3, N3, (q.fj (N1 := N1) (N3 := N3) j.1.2.2 j.1.1 (fun _ z => z)).th.wk (by decide) (by decide), j2⟩
theorem JQ.k92 (q : JQ b0 K N1 N3 dc ds v bv isS sv c pv w d cw cd X1 X3 h1) (b : BsE h b0) (s : STR h) : (h1.kd 92 = (102, 1) ∧ 92 < h1.n) ∧ (h1.kd 93 = (103, 1) ∧ 93 < h1.n) := by
  obtain ⟨a1, K1, b2, M1, b4, M3, f, -⟩ := q
  have n94 := s.2.2.2.2
  have f1 := f.1
  rw [b.1] at f1
  exact ⟨⟨by rw [f.2.1 92 (by rw [b.1]; omega), b.2.1]; exact s.2.2.1, by omega⟩, ⟨by rw [f.2.1 93 (by rw [b.1]; omega), b.2.1]; exact s.2.2.2.1, by omega⟩⟩
/-- the reference is asked the same -/
theorem q_ref (A F : List Nat) (n : Int) {d2 : Nat} {Q2 : Int → AH → Prop} (J : JA k h a K v bv isS sv c pv w d cw cd X1 X3 b1 N1 b3 N3) (hv : VS v N LL kp) (q : JQ h K N1 N3 1 300 v bv isS sv c pv w d cw cd X1 X3 h1) (e : EqP h1 g) (hd : d2 < 20) (f : RI g → VS (g.vl 43) N LL kp → (∀ j, g.vl 71 j ≤ g.vl 42 50) → (0 ≤ g.vl 42 50 ∧ g.vl 42 50 ≤ 4120200 * (k : Int)) → RV g v isS sv c pv w d cw cd X1 X3 → CV Mm d2 (rv 42 :: bs) g (oi Q2)) (hq : (∀ j, g.vl 71 j ≤ g.vl 42 50) → RV g v isS sv c pv w d cw cd X1 X3 → ∀ r h2, Q2 r h2 → KP g h2 A F ∧ ((∀ j, h2.vl 71 j ≤ h2.vl 42 50) ∧ g.vl 42 50 ≤ h2.vl 42 50 ∧ h2.vl 42 50 ≤ g.vl 42 50 + n) ∧ h2.vl 42 0 = kk ∧ (kk = 0 → g.vl 92 0 = r)) (hn : n ≤ 4120200) (hA : A.all (fun x => decide ((43 ≤ x ∧ x ≤ 91) ∧ x ∉ [43, 45, 46, 88, 90])) = true := by decide) (hF : F.all (fun j => decide (j ∉ [2, 3, 4, 5, 6, 9, 10, 71, 80])) = true := by decide) (hF2 : F.all (fun j => decide (j ∈ [0, 1, 2, 3, 4, 5, 6, 7, 8, 9, 10, 34, 35, 36, 49, 50, 51, 52, 53, 54, 55, 59, 60, 68, 69, 71, 73, 74, 75, 76, 77, 80, 81])) = true := by decide) : RefQ (k + 1) kk g Mm bs := by
  obtain ⟨a1, K1, b2, M1, b4, M3, fj, j1⟩ := id q
  obtain ⟨p1, p2, p3, p4, p5, p6⟩ := j_pre J hv BsE.rf fj e
  refine ⟨p2, d2, hd, cv_mono (f p1 p3 p4 p5 p6) fun o h2 z => ?_⟩
  obtain ⟨r, rfl, z⟩ := z
  obtain ⟨z1, z2, z3, z4⟩ := hq p4 p6 r h2 z
  have r2 := z1.ri p1 hF2
  obtain ⟨s2, jw⟩ := q_end J q (by decide) (by decide) e z1 hA hF r2 z2 hn
  refine ⟨r, rfl, r2, s2, z3, fun y => ?_, jw⟩
  rw [z1.vl (r := 92) (by decide) (fun y => by have := (of_decide_eq_true (List.all_eq_true.mp hA 92 y)).1; omega)]
  exact z4 y
theorem q_refb (A F : List Nat) (n : Int) {d2 : Nat} {Q2 : Int → AH → Prop} (J : JA k h a K v bv isS sv c pv w d cw cd X1 X3 b1 N1 b3 N3) (hv : VS v N LL kp) (q : JQ h K N1 N3 1 300 v bv isS sv c pv w d cw cd X1 X3 h1) (e : EqP h1 g) (hd : d2 < 20) (f : RI g → VS (g.vl 43) N LL kp → (∀ j, g.vl 71 j ≤ g.vl 42 50) → (0 ≤ g.vl 42 50 ∧ g.vl 42 50 ≤ 4120200 * (k : Int)) → RV g v isS sv c pv w d cw cd X1 X3 → CV Mm d2 (rv 42 :: bs) g (oi Q2)) (hq : (∀ j, g.vl 71 j ≤ g.vl 42 50) → RV g v isS sv c pv w d cw cd X1 X3 → ∀ r h2, Q2 r h2 → KP g h2 A F ∧ ((∀ j, h2.vl 71 j ≤ h2.vl 42 50) ∧ g.vl 42 50 ≤ h2.vl 42 50 ∧ h2.vl 42 50 ≤ g.vl 42 50 + n) ∧ h2.vl 42 0 = kk ∧ (kk = 0 → g.vl 92 0 = r ∧ (r = 0 ∨ r = 1))) (hn : n ≤ 4120200) (hA : A.all (fun x => decide ((43 ≤ x ∧ x ≤ 91) ∧ x ∉ [43, 45, 46, 88, 90])) = true := by decide) (hF : F.all (fun j => decide (j ∉ [2, 3, 4, 5, 6, 9, 10, 71, 80])) = true := by decide) (hF2 : F.all (fun j => decide (j ∈ [0, 1, 2, 3, 4, 5, 6, 7, 8, 9, 10, 34, 35, 36, 49, 50, 51, 52, 53, 54, 55, 59, 60, 68, 69, 71, 73, 74, 75, 76, 77, 80, 81])) = true := by decide) : RefB (k + 1) kk g Mm bs := by
  obtain ⟨a1, K1, b2, M1, b4, M3, fj, j1⟩ := id q
  obtain ⟨p1, p2, p3, p4, p5, p6⟩ := j_pre J hv BsE.rf fj e
  refine ⟨p2, d2, hd, cv_mono (f p1 p3 p4 p5 p6) fun o h2 z => ?_⟩
  obtain ⟨r, rfl, z⟩ := z
  obtain ⟨z1, z2, z3, z4⟩ := hq p4 p6 r h2 z
  have r2 := z1.ri p1 hF2
  obtain ⟨s2, jw⟩ := q_end J q (by decide) (by decide) e z1 hA hF r2 z2 hn
  refine ⟨r, rfl, r2, s2, z3, fun y => ?_, jw⟩
  rw [z1.vl (r := 92) (by decide) (fun y => by have := (of_decide_eq_true (List.all_eq_true.mp hA 92 y)).1; omega)]
  exact z4 y
theorem st_n {A F : List Nat} (kk : KP g h2 A F) (h : ∀ j, g.vl 71 j ≤ g.vl 42 50) (hA : 71 ∉ A) (hF : 50 ∉ F) : (∀ j, h2.vl 71 j ≤ h2.vl 42 50) ∧ g.vl 42 50 ≤ h2.vl 42 50 ∧ h2.vl 42 50 ≤ g.vl 42 50 + 0 := by
  rw [kk.fl hF, kk.vl (by decide) hA]
  exact ⟨h, by omega, by omega⟩
theorem put92 {x : Int} : (h.put 92 0 x).vl 92 0 = x := by rw [AH.put_vl, if_pos ⟨rfl, rfl⟩]
theorem stk (hk : k < 512) (h : 0 ≤ g.vl 42 50 ∧ g.vl 42 50 ≤ 4120200 * (k : Int)) : 0 ≤ g.vl 42 50 ∧ g.vl 42 50 + 4120200 ≤ 2147483000 := by omega
variable {p q9 w9 : Int}
end Ask
