/-! what stands between two calls: class and reference -/
/-- the reference says the same -/
def RV (h : AH) (v : Nat → Int) (isS : Int) (sv : Nat → Int) (c : Nat) (pv : Nat → Nat → Int) (w d cw cd : Int) (X1 X3 : List Int) : Prop := (∀ j, j < 569 → h.vl 43 j = v j) ∧ (h.vl 42 10 = isS ∧ (isS = 1 → ∀ j, j < 569 → h.vl 45 j = sv j)) ∧ (h.vl 42 2 = (c : Int) ∧ ∀ i j, i < c → j < 569 → PV h i j = pv i j) ∧ (h.vl 42 3 = w ∧ (w ≠ 0 → h.vl 42 4 = d ∧ h.vl 42 5 = cw ∧ (cw ≠ 0 → h.vl 42 6 = cd))) ∧ (h.vl 42 71 = (X1.length : Int) ∧ ∀ i, i < X1.length → h.vl 88 i = cX X1 i) ∧ (h.vl 42 80 = (X3.length : Int) ∧ ∀ i, i < X3.length → h.vl 90 i = cX X3 i)
def C2 (k : Nat) (v : Nat → Int) : Prop := (0 ≤ v 1 ∧ v 1 ≤ 61 * (k : Int)) ∧ (0 ≤ v 2 ∧ v 2 ≤ 61 * (k : Int))
/-- numbers that grow with the calls -/
def CnB (k : Nat) (v : Nat → Int) (isS : Int) (sv : Nat → Int) (c : Nat) (pv : Nat → Nat → Int) (X3 : List Int) : Prop := C2 k v ∧ (isS = 1 → C2 k sv) ∧ (∀ i, i < c → C2 k (pv i)) ∧ X3.length ≤ 900
def StB (k : Nat) (h : AH) : Prop := (∀ j, h.vl 71 j ≤ h.vl 42 50) ∧ 0 ≤ h.vl 42 50 ∧ h.vl 42 50 ≤ 4120200 * (k : Int)
def BuB (k : Nat) (h : AH) (K : Nat → Nat) (N1 N3 : Nat) : Prop := 64 * h.cs ≤ 12800 + 5120 * k + capK K + 128 * snn h + 4 * N1 + 4 * N3 ∧ h.ss ≤ 212000 + 1000 * k + 2 * capK K + 300 * snn h + 2 * N1 + 2 * N3
def JA (k : Nat) (h : AH) (a K : Nat → Nat) (v bv : Nat → Int) (isS : Int) (sv : Nat → Int) (c : Nat) (pv : Nat → Nat → Int) (w d cw cd : Int) (X1 X3 : List Int) (b1 N1 b3 N3 : Nat) : Prop := JC h a K v bv isS sv c pv w d cw cd X1 X3 b1 N1 b3 N3 ∧ STR h ∧ RI h ∧ RV h v isS sv c pv w d cw cd X1 X3 ∧ CnB k v isS sv c pv X3 ∧ StB k h ∧ BuB k h K N1 N3 ∧ h.vl 0 11 = h.vl 42 9
def JW (k : Nat) (h : AH) : Prop := ∃ a K v bv isS sv c pv w d cw cd X1 X3 b1 N1 b3 N3, JA k h a K v bv isS sv c pv w d cw cd X1 X3 b1 N1 b3 N3
/-- an answer was noted -/
def EqP (h g : AH) : Prop := g.n = h.n ∧ g.kd = h.kd ∧ g.cs = h.cs ∧ g.ss = h.ss ∧ ∀ c, c ≠ 92 → c ≠ 93 → g.vl c = h.vl c
theorem EqP.rf {h : AH} : EqP h h := ⟨rfl, rfl, rfl, rfl, fun _ _ _ => rfl⟩
theorem EqP.pu {h : AH} {i : Nat} {x : Int} : EqP h (h.put 92 i x) := ⟨rfl, rfl, rfl, rfl, fun c h1 _ => put_ne _ h1⟩
theorem EqP.pd {h : AH} {i : Nat} {x : Int} : EqP h (h.put 93 i x) := ⟨rfl, rfl, rfl, rfl, fun c _ h1 => put_ne _ h1⟩
section Jws
variable {k : Nat} {h b0 h1 g h2 : AH} {a K a1 K1 : Nat → Nat} {v bv sv v' bv' sv' : Nat → Int} {isS isS' : Int} {c c' : Nat} {pv pv' : Nat → Nat → Int} {w d cw cd w' d' cw' cd' : Int} {X1 X3 X1' X3' : List Int} {b1 N1 b3 N3 M1 M3 dc ds : Nat} {N : Nat} {LL : Nat → List Nd} {kp : Nat → Option TE}
theorem RV.eq (r : RV h v isS sv c pv w d cw cd X1 X3) (e42 : ∀ j, (j = 2 ∨ j = 3 ∨ j = 4 ∨ j = 5 ∨ j = 6 ∨ j = 10 ∨ j = 71 ∨ j = 80) → g.vl 42 j = h.vl 42 j) (e : ∀ x, (x = 43 ∨ x = 45 ∨ x = 46 ∨ x = 88 ∨ x = 90) → g.vl x = h.vl x) : RV g v isS sv c pv w d cw cd X1 X3 := by
  unfold RV PV at r ⊢
  rw [e 43 (by decide), e 45 (by decide), e 46 (by decide), e 88 (by decide), e 90 (by decide), e42 10 (by decide), e42 2 (by decide), e42 3 (by decide), e42 4 (by decide), e42 5 (by decide), e42 6 (by decide), e42 71 (by decide), e42 80 (by decide)]
  exact r
/-- a base that differs in the noted fault alone -/
def BsE (h b0 : AH) : Prop := b0.n = h.n ∧ b0.kd = h.kd ∧ b0.cs = h.cs ∧ b0.ss = h.ss ∧ ∀ c, c ≠ 0 → b0.vl c = h.vl c
theorem BsE.rf : BsE h h := ⟨rfl, rfl, rfl, rfl, fun _ _ => rfl⟩
theorem BsE.pu {x : Int} : BsE h (h.put 0 11 x) := ⟨rfl, rfl, rfl, rfl, fun c h1 => put_ne _ h1⟩
/-- the reference's cells before it is called -/
theorem jq_lo (b : BsE h b0) (f : FrJ b0 K N1 N3 h1 K1 M1 M3 dc ds) (e : EqP h1 g) : ∀ x, 42 ≤ x → x ≤ 91 → g.vl x = h.vl x := fun x x1 x2 => by
  rw [e.2.2.2.2 x (by omega) (by omega), f.2.2.1 x x1 (by omega), b.2.2.2.2 x (by omega)]
theorem jq_ri (J : RI h) (s : STR h) (b : BsE h b0) (f : FrJ b0 K N1 N3 h1 K1 M1 M3 dc ds) (e : EqP h1 g) : RI g ∧ STR g := by
  have n94 := s.2.2.2.2
  have kd : ∀ x, x < h.n → g.kd x = h.kd x := fun x hx => by rw [e.2.1, f.2.1 x (by rw [b.1]; exact hx), b.2.1]
  have gn : h.n ≤ g.n := by rw [e.1]; have := f.1; rw [b.1] at this; exact this
  exact ⟨J.of gn (fun x hx => kd x (by omega)) (fun j => by rw [jq_lo b f e 42 (by decide) (by decide)]), ⟨(kd 0 (by omega)).trans s.1, (kd 42 (by omega)).trans s.2.1, (kd 92 (by omega)).trans s.2.2.1, (kd 93 (by omega)).trans s.2.2.2.1, by omega⟩⟩
theorem jw_end {A F : List Nat} {a1 K1 : Nat → Nat} {b2 b4 : Nat} (hB : BuB k h K N1 N3) (hS : STR h) (b : BsE h b0) (f : FrJ b0 K N1 N3 h1 K1 M1 M3 dc ds) (j : JC h1 a1 K1 v' bv' isS' sv' c' pv' w' d' cw' cd' X1' X3' b2 M1 b4 M3) (hdc : dc ≤ 80) (hds : ds ≤ 1000) (e : EqP h1 g) (kk : KP g h2 A F) (hA : A.all (fun x => decide (43 ≤ x ∧ x ≤ 91)) = true) (r2 : RI h2) (rv : RV h2 v' isS' sv' c' pv' w' d' cw' cd' X1' X3') (cn : CnB (k + 1) v' isS' sv' c' pv' X3') (st : StB (k + 1) h2) (fl : h1.vl 0 11 = h2.vl 42 9) (sn : snn b0 = snn h) : STR h2 ∧ JW (k + 1) h2 := by
  have n94 := hS.2.2.2.2
  have kd : ∀ x, x < h.n → h2.kd x = h.kd x := fun x hx => by rw [kk.2.1, e.2.1, f.2.1 x (by rw [b.1]; exact hx), b.2.1]
  have f1 := f.1
  rw [b.1] at f1
  have s2 : STR h2 := ⟨(kd 0 (by omega)).trans hS.1, (kd 42 (by omega)).trans hS.2.1, (kd 92 (by omega)).trans hS.2.2.1, (kd 93 (by omega)).trans hS.2.2.2.1, by rw [kk.1, e.1]; omega⟩
  have vl : ∀ x, ¬ (42 ≤ x ∧ x ≤ 93) → h2.vl x = h1.vl x := fun x hx => by
    rw [kk.2.2.2.2.1 x (by omega) (fun z => by
      have := of_decide_eq_true (List.all_eq_true.mp hA x z)
      omega), e.2.2.2.2 x (by omega) (by omega)]
  have gf : GF h1 h2 (fun x _ => 42 ≤ x ∧ x ≤ 93) := ⟨by rw [kk.1, e.1]; exact Nat.le_refl _, fun x _ => by rw [kk.2.1, e.2.1], fun x i _ hn => by rw [vl x hn]⟩
  have j2 := j.gf gf (fun x i z => Or.inr (Or.inr (Or.inr (Or.inr z))))
  have e26 : snn h2 = snn h1 := by unfold snn; rw [vl 26 (by decide)]
  obtain ⟨-, -, -, f4, f5, -⟩ := f
  obtain ⟨B1, B2⟩ := hB
  rw [b.2.2.1] at f4
  rw [b.2.2.2.1] at f5
  rw [sn] at f4 f5
  refine ⟨s2, a1, K1, v', bv', isS', sv', c', pv', w', d', cw', cd', X1', X3', b2, M1, b4, M3, j2, s2, r2, rv, cn, st, ⟨?_, ?_⟩, by rw [vl 0 (by decide)]; exact fl⟩
  · rw [e26, show h2.cs = h1.cs by rw [kk.2.2.1, e.2.2.1]]
    omega
  · rw [e26, show h2.ss = h1.ss by rw [kk.2.2.2.1, e.2.2.2.1]]
    omega
theorem C2.up (h : C2 k v) : C2 (k + 1) v := ⟨⟨h.1.1, by have := h.1.2; omega⟩, ⟨h.2.1, by have := h.2.2; omega⟩⟩
theorem CnB.up (h : CnB k v isS sv c pv X3) : CnB (k + 1) v isS sv c pv X3 := ⟨h.1.up, fun z => (h.2.1 z).up, fun i hi => (h.2.2.1 i hi).up, h.2.2.2⟩
/-- a question: the reference's part -/
theorem q_end {A F : List Nat} {n : Int} (J : JA k h a K v bv isS sv c pv w d cw cd X1 X3 b1 N1 b3 N3) (q : JQ h K N1 N3 dc ds v bv isS sv c pv w d cw cd X1 X3 h1) (hdc : dc ≤ 80) (hds : ds ≤ 1000) (e : EqP h1 g) (kk : KP g h2 A F) (hA : A.all (fun x => decide ((43 ≤ x ∧ x ≤ 91) ∧ x ∉ [43, 45, 46, 88, 90])) = true) (hF : F.all (fun j => decide (j ∉ [2, 3, 4, 5, 6, 9, 10, 71, 80])) = true) (r2 : RI h2) (st : (∀ j, h2.vl 71 j ≤ h2.vl 42 50) ∧ g.vl 42 50 ≤ h2.vl 42 50 ∧ h2.vl 42 50 ≤ g.vl 42 50 + n) (hn : n ≤ 4120200) : STR h2 ∧ JW (k + 1) h2 := by
  obtain ⟨j, s, ri, rv, cn, sb, bu, fl⟩ := J
  obtain ⟨a1, K1, b2, M1, b4, M3, f, j1⟩ := q
  have lo := jq_lo BsE.rf f e
  have nA : ∀ x, x ∈ [43, 45, 46, 88, 90] → x ∉ A := fun x hx z => (of_decide_eq_true (List.all_eq_true.mp hA x z)).2 hx
  have nF : ∀ x, x ∈ [2, 3, 4, 5, 6, 9, 10, 71, 80] → x ∉ F := fun x hx z => of_decide_eq_true (List.all_eq_true.mp hF x z) hx
  have ef : ∀ j, j ∈ [2, 3, 4, 5, 6, 9, 10, 71, 80] → h2.vl 42 j = h.vl 42 j := fun j hj => by rw [kk.fl (nF j hj), lo 42 (by decide) (by decide)]
  have rv2 : RV h2 v isS sv c pv w d cw cd X1 X3 := rv.eq (fun j hj => ef j (by rcases hj with rfl | rfl | rfl | rfl | rfl | rfl | rfl | rfl <;> decide)) (fun x hx => by
    rw [kk.vl (by omega) (nA x (by rcases hx with rfl | rfl | rfl | rfl | rfl <;> decide)), lo x (by omega) (by omega)])
  refine jw_end bu s BsE.rf f j1 hdc hds e kk ?_ r2 rv2 cn.up ⟨st.1, ?_, ?_⟩ ?_ rfl
  · refine List.all_eq_true.mpr (fun x hx => ?_)
    exact decide_eq_true (of_decide_eq_true (List.all_eq_true.mp hA x hx)).1
  · have := sb.2.1
    rw [lo 42 (by decide) (by decide)] at st
    omega
  · have := sb.2.2
    rw [lo 42 (by decide) (by decide)] at st
    omega
  · rw [ef 9 (by decide), f.2.2.2.2.2]
    exact fl
/-- what the reference asks for, before it is called -/
theorem j_pre (J : JA k h a K v bv isS sv c pv w d cw cd X1 X3 b1 N1 b3 N3) (hv : VS v N LL kp) (b : BsE h b0) (f : FrJ b0 K N1 N3 h1 K1 M1 M3 dc ds) (e : EqP h1 g) : RI g ∧ STR g ∧ VS (g.vl 43) N LL kp ∧ (∀ j, g.vl 71 j ≤ g.vl 42 50) ∧ (0 ≤ g.vl 42 50 ∧ g.vl 42 50 ≤ 4120200 * (k : Int)) ∧ RV g v isS sv c pv w d cw cd X1 X3 := by
  obtain ⟨j, s, ri, rv, cn, sb, bu, fl⟩ := J
  have lo := jq_lo b f e
  obtain ⟨r1, r2⟩ := jq_ri ri s b f e
  have e42 := lo 42 (by decide) (by decide)
  refine ⟨r1, r2, hv.eq (fun j hj => by rw [lo 43 (by decide) (by decide)]; exact rv.1 j hj), fun j => by rw [lo 71 (by decide) (by decide), e42]; exact sb.1 j, by rw [e42]; exact sb.2, rv.eq (fun j _ => by rw [e42]) (fun x hx => lo x (by omega) (by omega))⟩
end Jws
