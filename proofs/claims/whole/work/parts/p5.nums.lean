/-! the law's calls: numbers alike -/
theorem dc64 : ∀ b : Nat, b < 6 → ∀ a : Nat, a < 1201 → dcv (FP.ddiv (FP.i2d (Int32.ofInt (a : Int))) (FP.i2d (Int32.ofInt ((b + 1 : Nat) : Int)))) (FP.ddiv (FP.i2d (Int32.ofInt (a : Int))) (FP.i2d (Int32.ofInt ((b + 1 : Nat) : Int)))) .l = 0 := by decide +kernel
theorem dc32 : ∀ a : Nat, a < 7 → ∀ b : Nat, b < 6 → dcv (FP.f2d (FP.fdiv (FP.i2f (Int32.ofInt (a : Int))) (FP.i2f (Int32.ofInt ((b + 1 : Nat) : Int))))) (FP.f2d (FP.fdiv (FP.i2f (Int32.ofInt (a : Int))) (FP.i2f (Int32.ofInt ((b + 1 : Nat) : Int))))) .l = 0 := by decide +kernel
theorem kpN_ag {v v' : Nat → Int} : ∀ k, k ≤ 8 → (∀ j, j < 569 → v' j = v j) → kpN v' k = kpN v k
  | 0, _, _ => rfl
  | k + 1, hk, e => by rw [kpN, kpN, kpN_ag k (by omega) e, e _ (by omega)]
theorem ac_eq {v v' : Nat → Int} {i c : Int} {N : Nat} {LL : Nat → List Nd} {kp : Nat → Option TE} {p x y : Int} (hv : VS v N LL kp) (e : ∀ j, j < 569 → v' j = v j) (h : acC (v 1) (v 2) i c N LL kp p x) (h' : acR v' i c N LL kp p y) : x = y := by
  have k8 : kpN v' 8 = kcN kp 8 := by rw [kpN_ag 8 (Nat.le_refl _) e, kcN_v hv.2.1 8 (Nat.le_refl _)]
  unfold acC at h
  unfold acR at h'
  rw [k8, e 1 (by decide), e 2 (by decide)] at h'
  by_cases q0 : p = 0
  · rw [if_pos q0] at h h'; rw [h, h']
  rw [if_neg q0] at h h'
  by_cases q1 : p = 1
  · rw [if_pos q1] at h h'; exact ofR_det _ _ _ h h'
  rw [if_neg q1] at h h'
  by_cases q2 : 2 ≤ p ∧ p ≤ 4
  · rw [if_pos q2] at h h'; exact ofR_det _ _ _ h h'
  rw [if_neg q2] at h h'
  by_cases q5 : p = 5
  · rw [if_pos q5] at h h'; rw [h, h']
  rw [if_neg q5] at h h'
  by_cases q6 : p = 6
  · rw [if_pos q6] at h h'; rw [h, h']
  rw [if_neg q6] at h h'
  by_cases q7 : p = 7
  · rw [if_pos q7] at h h'; rw [h, h']
  rw [if_neg q7] at h h'
  by_cases q8 : p = 8
  · rw [if_pos q8] at h h'; rw [h, h']
  rw [if_neg q8] at h h'
  by_cases q9 : p = 9
  · rw [if_pos q9] at h h'; exact ofR_det _ _ _ h h'
  rw [if_neg q9] at h h'
  by_cases qa : p = 10
  · rw [if_pos qa] at h h'; rw [h, h']
  rw [if_neg qa] at h h'
  by_cases qb : p = 11
  · rw [if_pos qb] at h h'; rw [h, h']
  rw [if_neg qb] at h h'
  exact ofR_det _ _ _ h h'
