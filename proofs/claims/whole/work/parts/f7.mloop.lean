/-! all pairs are made to fit: the class -/
/-- what stays while pairs are made to fit -/
def MlX (h0 : AH) (a0 K0 : Nat → Nat) (h : AH) (a K : Nat → Nat) : Prop := YX h0 a0 K0 h a K MtD MtF (fun _ => False) 0 ∧ YSt a0 K0 a K
/-- one call more: what it must leave to go on -/
def MlS (h0 : AH) (a0 K0 : Nat → Nat) (i b : Int) (P : Int → AH → Prop) (F : Int → AH → Prop) : Prop := ∀ (j : Int) (h : AH) (a K : Nat → Nat), MlX h0 a0 K0 h a K → 0 < h.vl 9 9 → i ≤ j → j ≤ b → CV mX9_matchNext 5 [rv 9] h (oi fun r h1 => (∃ a1 K1, MlX h0 a0 K0 h1 a1 K1) ∧ (r = 0 → P (j + 1) h1) ∧ (r ≠ 0 → F r h1)) → P j h
theorem ml_all {h0 : AH} {a0 K0 : Nat → Nat} {N : Nat} {C : Nat → Prop} {Ar : List Nat} {KM H : Nat} {ck : List UE → MS → Bool} {R : UR} {m' : MS} {i0 b : Int} {P F : Int → AH → Prop} (hN : N ≤ 61000) (hKM : KM ≤ 150000) (b0 : YB h0 K0 N) (hck : ∀ st m, ck st m = true → UI (soY (h0.vl (a0 0))) (h0.vl (a0 0)) (h0.vl (a0 1)) N C Ar m ∧ SI (soY (h0.vl (a0 0))) N m st) (hS : MlS h0 a0 K0 i0 b P F)
    (hok : ∀ (j : Int) (h : AH) (a K : Nat → Nat), MlX h0 a0 K0 h a K → YPs h a K [] → YMk h a N → i0 ≤ j → j ≤ b → h.vl 9 5 ≤ h0.vl 9 5 + (j - i0) → R = (0, -1, -1) → h.vl (a 2) = m'.2.2 → P j h)
    (hbad : ∀ (r : Int) (h : AH) (a K : Nat → Nat), MlX h0 a0 K0 h a K → YMk h a N → r ≠ 0 → r = R.1 → (R.1 = 4 → h.vl 9 13 = R.2.1 ∧ h.vl 9 14 = R.2.2) → (R.1 ≠ 4 → R.2 = (-1, -1)) → (K 7 = K 6 ∧ K 8 = K 6) → F r h) :
    ∀ (f : Nat) (st : List UE) (m : MS) (j : Int) (h : AH) (a K : Nat → Nat), uR ck KM H true (soY (h0.vl (a0 0))) (h0.vl (a0 0)) (h0.vl (a0 1)) f st m = some (R, m') → j + (f : Int) ≤ b + 1 → i0 ≤ j → h0.vl 9 5 + (b - i0) ≤ 2147480000 → MlX h0 a0 K0 h a K → YPs h a K st → YMk h a N → h.vl (a 2) = m.2.2 → h.vl 9 5 ≤ h0.vl 9 5 + (j - i0) → P j h := by
  intro f
  induction f with
  | zero => intro st m j h a K hu; exact nomatch hu
  | succ f ih =>
    intro st m j h a K hu hj hi h9 hX hP hm hli h5
    obtain ⟨x1, x2⟩ := id hX
    obtain ⟨ea0, ev0⟩ := x1.rw' 0
    obtain ⟨ea1, ev1⟩ := x1.rw' 1
    cases st with
    | nil =>
      rw [uR] at hu
      have e := Option.some.inj hu
      have eR : R = (0, -1, -1) := (congrArg Prod.fst e).symm
      have em : m = m' := congrArg Prod.snd e
      exact hok j h a K hX hP hm hi (by omega) h5 eR (by rw [← em]; exact hli)
    | cons e st =>
      have B : YB h K N := b0.x x1 (fun k hk => x2.1 k (by omega))
      refine hS j h a K hX (by rw [hP.1, List.length_cons]; omega) hi (by omega) ?_
      have e0 : h.vl (a 0) = h0.vl (a0 0) := by rw [ea0]; exact ev0
      have e1 : h.vl (a 1) = h0.vl (a0 1) := by rw [ea1]; exact ev1
      refine cv_mono (s_match (C := C) (Ar := Ar) (ck := ck) (KM := KM) (H := H) (f := f) (m := m) (m' := m') (R := R) x1.1 B hN hKM (by rw [e0, e1]; exact hck) (by rw [e0, e1]; exact hu) hli hP hm (by omega)) fun o h1 q => ?_
      obtain ⟨r, rfl, a1, K1, q1, q2, q3, ⟨q4, q5⟩, q6⟩ := q
      have hX1 : MlX h0 a0 K0 h1 a1 K1 := ⟨x1.tr q1.x, x2.tr q2⟩
      refine ⟨r, rfl, ⟨a1, K1, hX1⟩, fun z => ?_, fun z => ?_⟩
      · rcases q6 with ⟨q6, st1, m1, q7, q8, q9⟩ | ⟨q6, -⟩
        · rw [e0, e1] at q7
          exact ih st1 m1 (j + 1) h1 a1 K1 q7 (by omega) (by omega) h9 hX1 q9 q3 q8 (by omega)
        · exact absurd z q6
      · rcases q6 with ⟨q6, -⟩ | ⟨q6, q7, q8, q9⟩
        · exact absurd q6 z
        · exact hbad r h1 a1 K1 hX1 q3 q6 q7 q8 q9.1 q9.2
theorem s_pairs1 {h0 : AH} {a0 K0 : Nat → Nat} {N x y nv : Nat} {T : Nat → TE} {τ : Nat → Nat} {i0 : Int} {P F : Int → AH → Prop} (s : YS h0 a0 K0 N T τ nv) (hN : N ≤ 61000) (hx : x < N) (hy : y < N) (hP : YPs h0 a0 K0 [(x, y, false)]) (h5 : h0.vl 9 5 ≤ 2000000000) (hS : MlS h0 a0 K0 i0 (i0 + 4 * (YL h0 a0 N : Int) + 2) P F)
    (hok : ∀ (j : Int) (h : AH) (a K : Nat → Nat) (f : Nat) (σ : List (Nat × TE)), MlX h0 a0 K0 h a K → YPs h a K [] → YS h a K N (fun c => ap σ (T c)) τ nv → un f [(T x, T y)] = some ((0, -1, -1), σ) → i0 ≤ j → j + 4 * (YL h a N : Int) ≤ i0 + 4 * (YL h0 a0 N : Int) + 2 → h.vl 9 5 ≤ h0.vl 9 5 + (j - i0) → P j h)
    (hbad : ∀ (h : AH) (a K : Nat → Nat) (f : Nat) (R : UR) (σ : List (Nat × TE)), MlX h0 a0 K0 h a K → un f [(T x, T y)] = some (R, σ) → R.1 ≠ 0 → (R.1 = 4 → h.vl 9 13 = R.2.1 ∧ h.vl 9 14 = R.2.2) → (R.1 ≠ 4 → R.2 = (-1, -1)) → (K 7 = K 6 ∧ K 8 = K 6) → F R.1 h) : P i0 h0 := by
  obtain ⟨s1, s2, ⟨rr, tr, G, s3⟩, s4, s5, s6, s7⟩ := id s
  obtain ⟨n1, n2, n3, n4, n5⟩ := id G
  have hC : Cl (soY (h0.vl (a0 0))) (h0.vl (a0 0)) (h0.vl (a0 1)) N (fun c => c < N) (List.range N) rr := fun t ht0 _ => ⟨(n2 t ht0).1, fun _ z => ⟨by have := n1.2.2 t ht0 z; omega, List.mem_range.mpr ht0⟩⟩
  have hck : ∀ st (m : MS), (fun st m => @decide (UI (soY (h0.vl (a0 0))) (h0.vl (a0 0)) (h0.vl (a0 1)) N (fun c => c < N) (List.range N) m ∧ SI (soY (h0.vl (a0 0))) N m st) (Classical.propDecidable _)) st m = true → UI (soY (h0.vl (a0 0))) (h0.vl (a0 0)) (h0.vl (a0 1)) N (fun c => c < N) (List.range N) m ∧ SI (soY (h0.vl (a0 0))) N m st := fun st m z => @of_decide_eq_true _ (Classical.propDecidable _) z
  obtain ⟨k, R, m', u1, u2, f, σ, u3, u4⟩ := uR_all (ck := fun st m => @decide (UI (soY (h0.vl (a0 0))) (h0.vl (a0 0)) (h0.vl (a0 1)) N (fun c => c < N) (List.range N) m ∧ SI (soY (h0.vl (a0 0))) N m st) (Classical.propDecidable _)) (K := 2 * (N + 1) + 1) (H := N + 1) (dir := true) (X := []) (C := fun c => c < N) (Ar := List.range N) n3 (by rw [List.length_range]; exact Nat.le_refl _) (Nat.le_refl _) (fun _ _ z => nomatch z) (fun st m a b => @decide_eq_true _ (Classical.propDecidable _) ⟨a, b⟩) (uMe true N [] [(x, y, false)] (rr, tr, h0.vl (a0 2))) [(x, y, false)] (rr, tr, h0.vl (a0 2)) (Nat.le_refl _) ⟨n1, n2, hC⟩ ⟨⟨⟨hx, hy⟩, (fun q hq => nomatch hq), (fun z => Bool.noConfusion z)⟩, trivial⟩ trivial ⟨trivial, fun z => Bool.noConfusion z⟩ (Nat.le_refl _) (fun e he => by rw [List.mem_singleton.mp he]; exact ⟨hx, hy⟩)
  have hM : uMe true N [] [(x, y, false)] (rr, tr, h0.vl (a0 2)) = 4 * YL h0 a0 N + 2 := rfl
  have hLN : YL h0 a0 N ≤ N := cU_N N
  have hun : un f [(tr x, tr y)] = some (R, σ) := u3
  obtain ⟨f1, f2⟩ := G.fit (li' := m'.2.2) (rr' := m'.1) (tr' := m'.2.1) hx hy hun
  rw [s3 x hx, s3 y hy] at f1
  refine ml_all (i0 := i0) (b := i0 + (k : Int)) hN (by omega) s2 hck (fun j h a K q1 q2 q3 q4 q5 => hS j h a K q1 q2 q3 (by omega) q5) (fun j h a K q1 q2 q3 q4 q5 q6 eR el => ?_) (fun r h a K q1 q2 q3 q4 q5 q6 q7 => ?_) (k + 1) [(x, y, false)] (rr, tr, h0.vl (a0 2)) i0 h0 a0 K0 u1 (by omega) (Int.le_refl _) (by omega) ⟨YX.rf s1, YSt.rf⟩ hP s4 rfl (by omega)
  · obtain ⟨v1, v2, v3⟩ := u4 (by rw [eR])
    obtain ⟨f3, f4⟩ := f2 v1.1 v1.2.1 v2
    obtain ⟨x1, x2⟩ := id q1
    obtain ⟨ea0, ev0⟩ := x1.rw' 0
    obtain ⟨ea1, ev1⟩ := x1.rw' 1
    refine hok j h a K f _ q1 q2 ⟨x1.1, s2.x x1 (fun k hk => x2.1 k (by omega)), ⟨m'.1, m'.2.1, ?_, fun c hc => (f4 c hc).trans (by rw [s3 c hc])⟩, q3, s5, ?_, ?_⟩ (by rw [← eR]; exact f1) q4 ?_ q6
    · unfold YG
      rw [ea0, ev0, ea1, ev1, el]
      exact f3
    · show ap _ (T 0) = _
      rw [s6]; exact ap_lf _ 0 (by decide)
    · show ap _ (T 1) = _
      rw [s7]; exact ap_lf _ 1 (by decide)
    · unfold YL at hM ⊢
      rw [el]
      omega
  · rw [q4]
    exact hbad h a K f R _ q1 f1 (by rw [← q4]; exact q3) q5 q6 q7
