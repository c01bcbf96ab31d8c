/-! the law's calls: what changes, on both sides -/
section Chg
variable {k : Nat} {h b0 h1 g h2 : AH} {a K a1 K1 : Nat → Nat} {v bv sv : Nat → Int} {isS : Int} {c : Nat} {pv : Nat → Nat → Int} {w d cw cd : Int} {X1 X3 : List Int} {b1 N1 b3 N3 M1 M3 dc ds : Nat} {N : Nat} {LL : Nat → List Nd} {kp : Nat → Option TE} {kk : Int} {Mm : MD} {bs : List AV}
variable {p q9 w9 : Int}
variable {v' bv' sv' : Nat → Int} {isS' : Int} {c' : Nat} {pv' : Nat → Nat → Int} {w' d' cw' cd' : Int} {X1' X3' : List Int} {V : Nat → Int}
/-- the reference changes the same -/
theorem c_ref (A F : List Nat) {d2 : Nat} {Q2 : Int → AH → Prop} (J : JA k h a K v bv isS sv c pv w d cw cd X1 X3 b1 N1 b3 N3) (hv : VS v N LL kp) (b : BsE h b0) (q : JQ b0 K N1 N3 dc ds v' bv' isS' sv' c' pv' w' d' cw' cd' X1' X3' h1) (hdc : dc ≤ 80) (hds : ds ≤ 1000) (cn : CnB (k + 1) v' isS' sv' c' pv' X3') (e : EqP h1 g) (hd : d2 < 20) (f : RI g → VS (g.vl 43) N LL kp → (∀ j, g.vl 71 j ≤ g.vl 42 50) → (0 ≤ g.vl 42 50 ∧ g.vl 42 50 ≤ 4120200 * (k : Int)) → RV g v isS sv c pv w d cw cd X1 X3 → CV Mm d2 (rv 42 :: bs) g (oi Q2)) (hq : (∀ j, g.vl 71 j ≤ g.vl 42 50) → RV g v isS sv c pv w d cw cd X1 X3 → g.vl 42 9 = h.vl 0 11 → ∀ r h2, Q2 r h2 → KP g h2 A F ∧ RV h2 v' isS' sv' c' pv' w' d' cw' cd' X1' X3' ∧ ((∀ j, h2.vl 71 j ≤ h2.vl 42 50) ∧ g.vl 42 50 ≤ h2.vl 42 50 ∧ h2.vl 42 50 ≤ g.vl 42 50 + 4120200) ∧ h2.vl 42 9 = b0.vl 0 11 ∧ h2.vl 42 0 = kk ∧ (kk = 0 → g.vl 92 0 = r)) (hA : A.all (fun x => decide (43 ≤ x ∧ x ≤ 91)) = true := by decide) (hF2 : F.all (fun j => decide (j ∈ [0, 1, 2, 3, 4, 5, 6, 7, 8, 9, 10, 34, 35, 36, 49, 50, 51, 52, 53, 54, 55, 59, 60, 68, 69, 71, 73, 74, 75, 76, 77, 80, 81])) = true := by decide) : RefQ (k + 1) kk g Mm bs := by
  obtain ⟨a1, K1, b2, M1, b4, M3, fj, j1⟩ := q
  obtain ⟨p1, p2, p3, p4, p5, p6⟩ := j_pre J hv b fj e
  obtain ⟨j, s, ri, rv, cn0, sb, bu, fl⟩ := J
  have e42 := jq_lo b fj e 42 (by decide) (by decide)
  refine ⟨p2, d2, hd, cv_mono (f p1 p3 p4 p5 p6) fun o h2 z => ?_⟩
  obtain ⟨r, rfl, z⟩ := z
  obtain ⟨z1, z2, z3, z5, z6, z7⟩ := hq p4 p6 (by rw [e42, fl]) r h2 z
  have r2 := z1.ri p1 hF2
  have sn : snn b0 = snn h := by unfold snn; rw [b.2.2.2.2 26 (by decide)]
  obtain ⟨s2, jw⟩ := jw_end bu s b fj j1 hdc hds e z1 hA r2 z2 cn ⟨z3.1, by have := p5.1; omega, by have := p5.2; have := z3.2.2; omega⟩ (by rw [fj.2.2.2.2.2, z5]) sn
  refine ⟨r, rfl, r2, s2, z6, fun y => ?_, jw⟩
  rw [z1.vl (r := 92) (by decide) (fun y => by have := of_decide_eq_true (List.all_eq_true.mp hA 92 y); omega)]
  exact z7 y
theorem cg_rv (hc8 : c ≤ 8) (r : RV g v isS sv c pv w d cw cd X1 X3) (q : CgQ g c V h2) (hV : ∀ j, j < 569 → V j = v' j) : RV h2 v' isS sv (if c = 8 then 8 else c + 1) (pvN c pv v) w d cw cd X1 X3 := by
  obtain ⟨q1, q2, q3, q4, q5, q6, q7, q8, q9⟩ := q
  obtain ⟨r1, ⟨r2, r3⟩, ⟨r4, r5⟩, ⟨r6, r7⟩, ⟨r8, r9⟩, ⟨r10, r11⟩⟩ := r
  refine ⟨fun j hj => (q3 j hj).trans (hV j hj), ⟨(q1.fl (by decide)).trans r2, fun z j hj => by rw [q1.vl (by decide) (by decide)]; exact r3 z j hj⟩, ⟨?_, fun i j hi hj => ?_⟩, ⟨q7.trans r6, fun z => ⟨q8.trans (r7 z).1, q9.trans (r7 z).2.1, fun y => (q1.fl (by decide)).trans ((r7 z).2.2 y)⟩⟩, ⟨(q1.fl (by decide)).trans r8, fun i hi => by rw [q1.vl (by decide) (by decide)]; exact r9 i hi⟩, ⟨(q1.fl (by decide)).trans r10, fun i hi => by rw [q1.vl (by decide) (by decide)]; exact r11 i hi⟩⟩
  · rw [q4]
    split <;> rfl
  · unfold pvN
    by_cases z : c = 8
    · rw [if_pos z] at hi ⊢
      obtain ⟨u1, u2⟩ := q5 z
      by_cases y : i < 7
      · rw [if_pos y, u1 i j y hj]
        exact r5 (i + 1) j (by omega) hj
      · have : i = 7 := by omega
        rw [if_neg y, this, u2 j hj]
        exact r1 j hj
    · rw [if_neg z] at hi ⊢
      obtain ⟨u1, u2⟩ := q6 (by omega)
      by_cases y : i < c
      · rw [if_pos y, u1 i j y hj]
        exact r5 i j y hj
      · have : i = c := by omega
        rw [if_neg y, this, u2 j hj]
        exact r1 j hj
theorem rf_rv {t w1 d1 : Int} (r : RV g v isS sv c pv w d cw cd X1 X3) (q : RfQ g t w1 d1 h2) : RV h2 v isS sv c pv w1 d1 0 0 X1 X3 := by
  obtain ⟨q1, q2, q3, q4, q5, q6, q7, q8⟩ := q
  obtain ⟨r1, ⟨r2, r3⟩, ⟨r4, r5⟩, ⟨r6, r7⟩, ⟨r8, r9⟩, ⟨r10, r11⟩⟩ := r
  refine ⟨fun j hj => (q6 j hj).trans (r1 j hj), ⟨(q1.fl (by decide)).trans r2, fun z j hj => by rw [q1.vl (by decide) (by decide)]; exact r3 z j hj⟩, ⟨q7.trans r4, fun i j hi hj => ?_⟩, ⟨q3, fun z => ⟨q4, q5, fun y => absurd rfl y⟩⟩, ⟨(q1.fl (by decide)).trans r8, fun i hi => by rw [q1.vl (by decide) (by decide)]; exact r9 i hi⟩, ⟨(q1.fl (by decide)).trans r10, fun i hi => by rw [q1.vl (by decide) (by decide)]; exact r11 i hi⟩⟩
  unfold PV
  rw [q8]
  exact r5 i j hi hj
theorem rn_rv {w1 d1 : Int} {m : Nat} (r : RV g v isS sv c pv w d cw cd X1 X3) (q : RnQ g w1 d1 m h2) : RV h2 v isS sv c pv 9 (m : Int) w1 d1 X1 X3 := by
  obtain ⟨q1, q2, q3, q4, q5, q5', q6, q7, q8⟩ := q
  obtain ⟨r1, ⟨r2, r3⟩, ⟨r4, r5⟩, ⟨r6, r7⟩, ⟨r8, r9⟩, ⟨r10, r11⟩⟩ := r
  refine ⟨fun j hj => (q6 j hj).trans (r1 j hj), ⟨(q1.fl (by decide)).trans r2, fun z j hj => by rw [q1.vl (by decide) (by decide)]; exact r3 z j hj⟩, ⟨q7.trans r4, fun i j hi hj => ?_⟩, ⟨q3, fun z => ⟨q4, q5, fun y => q5'⟩⟩, ⟨(q1.fl (by decide)).trans r8, fun i hi => by rw [q1.vl (by decide) (by decide)]; exact r9 i hi⟩, ⟨(q1.fl (by decide)).trans r10, fun i hi => by rw [q1.vl (by decide) (by decide)]; exact r11 i hi⟩⟩
  unfold PV
  rw [q8]
  exact r5 i j hi hj
/-- the input is read, its fault noted -/
theorem in_rv {x : Int} (r : RV g v isS sv c pv w d cw cd X1 X3) : RV ((g.put 42 9 x).put 42 71 0) v isS sv c pv w d cw cd [] X3 := by
  obtain ⟨r1, r2, r3, r4, r5, r6⟩ := r
  have e : ∀ y, y ≠ 42 → ((g.put 42 9 x).put 42 71 0).vl y = g.vl y := fun y hy => by rw [put_ne _ hy, put_ne _ hy]
  have e2 : ∀ i, i ≠ 9 → i ≠ 71 → ((g.put 42 9 x).put 42 71 0).vl 42 i = g.vl 42 i := fun i h1 h2 => by rw [AH.put_vl, if_neg (fun z => h2 z.2), AH.put_vl, if_neg (fun z => h1 z.2)]
  unfold RV PV
  rw [e 43 (by decide), e 45 (by decide), e 46 (by decide), e 88 (by decide), e 90 (by decide), e2 10 (by decide) (by decide), e2 2 (by decide) (by decide), e2 3 (by decide) (by decide), e2 4 (by decide) (by decide), e2 5 (by decide) (by decide), e2 6 (by decide) (by decide), e2 80 (by decide) (by decide)]
  exact ⟨r1, r2, r3, r4, ⟨by rw [AH.put_vl, if_pos ⟨rfl, rfl⟩]; rfl, fun i hi => absurd hi (Nat.not_lt_zero _)⟩, r6⟩
theorem in_kp {x : Int} {A F : List Nat} (q : KP ((g.put 42 9 x).put 42 71 0) h2 A F) : KP g h2 A (9 :: 71 :: F) := ((KP.rf.pf (by simp)).pf (by simp)).tr (q.wk (fun _ z => z) (fun _ z => List.mem_cons_of_mem _ (List.mem_cons_of_mem _ z)))
theorem cn_push (h : CnB k v isS sv c pv X3) (h2 : C2 (k + 1) v') : CnB (k + 1) v' isS sv (if c = 8 then 8 else c + 1) (pvN c pv v) X3 := by
  obtain ⟨h1, h3, h4, h5⟩ := h
  refine ⟨h2, fun z => (h3 z).up, fun i hi => ?_, h5⟩
  unfold pvN
  by_cases z : c = 8
  · rw [if_pos z] at hi ⊢
    by_cases y : i < 7
    · rw [if_pos y]; exact (h4 (i + 1) (by omega)).up
    · rw [if_neg y]; exact h1.up
  · rw [if_neg z] at hi ⊢
    by_cases y : i < c
    · rw [if_pos y]; exact (h4 i y).up
    · rw [if_neg y]; exact h1.up
theorem dr_cg {v v' : Nat → Int} {l N : Nat} (e : ∀ j, j < 569 → v' j = v j) : ∀ j, j < 569 → drV v' l N j = drV v l N j := fun j hj => by
  unfold drV
  by_cases c0 : j = 0
  · rw [if_pos c0, if_pos c0]
  rw [if_neg c0, if_neg c0]
  by_cases c1 : 3 + 61 * l ≤ j ∧ j < 308
  · rw [if_pos c1, if_pos c1, e _ (by omega)]
  rw [if_neg c1, if_neg c1]
  by_cases c2 : 308 ≤ j ∧ j < 369
  · rw [if_pos c2, if_pos c2]
  · rw [if_neg c2, if_neg c2, e j hj]
theorem uk_cg {v v' : Nat → Int} {l : Nat} (e : ∀ j, j < 569 → v' j = v j) : ∀ j, j < 569 → ukV v' l j = ukV v l j := fun j hj => by
  unfold ukV
  by_cases c0 : 369 + 25 * l ≤ j ∧ j < 394 + 25 * l
  · rw [if_pos c0, if_pos c0]
  · rw [if_neg c0, if_neg c0, e j hj]
theorem ke_cg {v v' : Nat → Int} {l : Nat} {r : List Int} (e : ∀ j, j < 569 → v' j = v j) : ∀ j, j < 569 → keV v' l r j = keV v l r j := fun j hj => by
  unfold keV keW
  by_cases c0 : j = 2
  · rw [if_pos c0, if_pos c0, e 2 (by decide)]
  rw [if_neg c0, if_neg c0]
  by_cases c1 : j = 369 + 25 * l
  · rw [if_pos c1, if_pos c1]
  rw [if_neg c1, if_neg c1]
  by_cases c2 : 369 + 25 * l + 1 ≤ j ∧ j < 369 + 25 * l + 1 + 24
  · rw [if_pos c2, if_pos c2]
  · rw [if_neg c2, if_neg c2, e j hj]
theorem le_cg {v v' i1 i2 : Nat → Int} {n N : Nat} (e : ∀ j, j < 569 → v' j = v j) (ei : ∀ i, i < n → i2 i = i1 i) : ∀ j, j < 569 → leV v' i2 n N j = leV v i1 n N j := fun j hj => by
  unfold leV leW
  by_cases c0 : j = 0
  · rw [if_pos c0, if_pos c0]
  rw [if_neg c0, if_neg c0]
  by_cases c1 : j = 1
  · rw [if_pos c1, if_pos c1, e 1 (by decide)]
  rw [if_neg c1, if_neg c1]
  by_cases c2 : j = 3 + 61 * N
  · rw [if_pos c2, if_pos c2]
  rw [if_neg c2, if_neg c2]
  by_cases c3 : 4 + 61 * N ≤ j ∧ j < 4 + 61 * N + 60
  · rw [if_pos c3, if_pos c3]
    by_cases c4 : j - (4 + 61 * N) < n
    · rw [if_pos c4, if_pos c4, ei _ c4]
    · rw [if_neg c4, if_neg c4]
  · rw [if_neg c3, if_neg c3, e j hj]
end Chg
