/-! the class's objects: cells 0 to 41 -/
def CI (h : AH) : Prop := 94 ≤ h.n ∧ h.kd 0 = (10, 13) ∧ h.kd 1 = (0, 4) ∧ h.kd 3 = (0, 4) ∧ h.kd 5 = (8, 4) ∧ h.kd 6 = (100, 60) ∧ h.kd 7 = (100, 240) ∧ h.kd 8 = (1, 14) ∧ h.kd 9 = (9, 15) ∧ h.kd 18 = (100, 200) ∧ h.kd 19 = (3, 4) ∧ h.kd 20 = (100, 120) ∧ h.kd 21 = (100, 120) ∧ h.kd 22 = (100, 120) ∧ h.kd 23 = (100, 120) ∧ h.kd 24 = (100, 120) ∧ h.kd 25 = (100, 120) ∧ h.kd 26 = (105, 12) ∧ h.kd 27 = (5, 2) ∧ h.kd 28 = (100, 200) ∧ h.kd 29 = (5, 2) ∧ h.kd 30 = (100, 200) ∧ h.kd 31 = (6, 5) ∧ h.kd 32 = (107, 6) ∧ h.kd 33 = (105, 8) ∧ h.kd 34 = (6, 5) ∧ h.kd 35 = (107, 6) ∧ h.kd 36 = (105, 8) ∧ h.kd 37 = (6, 5) ∧ h.kd 38 = (107, 6) ∧ h.kd 39 = (105, 8) ∧ h.kd 40 = (2, 3) ∧ h.kd 41 = (106, 8) ∧ h.vl 0 0 = 1 ∧ h.vl 0 1 = 3 ∧ h.vl 0 2 = 5 ∧ h.vl 0 3 = 8 ∧ h.vl 0 4 = 27 ∧ h.vl 0 5 = 29 ∧ h.vl 0 6 = 31 ∧ h.vl 0 7 = 34 ∧ h.vl 0 8 = 37 ∧ h.vl 0 9 = 40 ∧ h.vl 5 0 = 6 ∧ h.vl 5 2 = 7 ∧ h.vl 8 0 = 9 ∧ h.vl 8 1 = 19 ∧ h.vl 8 2 = 23 ∧ h.vl 8 3 = 24 ∧ h.vl 8 4 = 25 ∧ h.vl 8 5 = 26 ∧ h.vl 9 12 = 18 ∧ h.vl 19 0 = 20 ∧ h.vl 19 1 = 21 ∧ h.vl 19 2 = 22 ∧ h.vl 27 0 = 28 ∧ h.vl 29 0 = 30 ∧ h.vl 31 0 = 32 ∧ h.vl 31 1 = 33 ∧ h.vl 34 0 = 35 ∧ h.vl 34 1 = 36 ∧ h.vl 37 0 = 38 ∧ h.vl 37 1 = 39 ∧ h.vl 40 0 = 41
theorem CI.k0 {h : AH} (hC : CI h) : h.kd 0 = (10, 13) := hC.2.1
theorem CI.n0 {h : AH} (hC : CI h) : 0 < h.n := by have := hC.1; omega
theorem CI.k1 {h : AH} (hC : CI h) : h.kd 1 = (0, 4) := hC.2.2.1
theorem CI.n1 {h : AH} (hC : CI h) : 1 < h.n := by have := hC.1; omega
theorem CI.k3 {h : AH} (hC : CI h) : h.kd 3 = (0, 4) := hC.2.2.2.1
theorem CI.n3 {h : AH} (hC : CI h) : 3 < h.n := by have := hC.1; omega
theorem CI.k5 {h : AH} (hC : CI h) : h.kd 5 = (8, 4) := hC.2.2.2.2.1
theorem CI.n5 {h : AH} (hC : CI h) : 5 < h.n := by have := hC.1; omega
theorem CI.k6 {h : AH} (hC : CI h) : h.kd 6 = (100, 60) := hC.2.2.2.2.2.1
theorem CI.n6 {h : AH} (hC : CI h) : 6 < h.n := by have := hC.1; omega
theorem CI.k7 {h : AH} (hC : CI h) : h.kd 7 = (100, 240) := hC.2.2.2.2.2.2.1
theorem CI.n7 {h : AH} (hC : CI h) : 7 < h.n := by have := hC.1; omega
theorem CI.k8 {h : AH} (hC : CI h) : h.kd 8 = (1, 14) := hC.2.2.2.2.2.2.2.1
theorem CI.n8 {h : AH} (hC : CI h) : 8 < h.n := by have := hC.1; omega
theorem CI.k9 {h : AH} (hC : CI h) : h.kd 9 = (9, 15) := hC.2.2.2.2.2.2.2.2.1
theorem CI.n9 {h : AH} (hC : CI h) : 9 < h.n := by have := hC.1; omega
theorem CI.k18 {h : AH} (hC : CI h) : h.kd 18 = (100, 200) := hC.2.2.2.2.2.2.2.2.2.1
theorem CI.n18 {h : AH} (hC : CI h) : 18 < h.n := by have := hC.1; omega
theorem CI.k19 {h : AH} (hC : CI h) : h.kd 19 = (3, 4) := hC.2.2.2.2.2.2.2.2.2.2.1
theorem CI.n19 {h : AH} (hC : CI h) : 19 < h.n := by have := hC.1; omega
theorem CI.k20 {h : AH} (hC : CI h) : h.kd 20 = (100, 120) := hC.2.2.2.2.2.2.2.2.2.2.2.1
theorem CI.n20 {h : AH} (hC : CI h) : 20 < h.n := by have := hC.1; omega
theorem CI.k21 {h : AH} (hC : CI h) : h.kd 21 = (100, 120) := hC.2.2.2.2.2.2.2.2.2.2.2.2.1
theorem CI.n21 {h : AH} (hC : CI h) : 21 < h.n := by have := hC.1; omega
theorem CI.k22 {h : AH} (hC : CI h) : h.kd 22 = (100, 120) := hC.2.2.2.2.2.2.2.2.2.2.2.2.2.1
theorem CI.n22 {h : AH} (hC : CI h) : 22 < h.n := by have := hC.1; omega
theorem CI.k23 {h : AH} (hC : CI h) : h.kd 23 = (100, 120) := hC.2.2.2.2.2.2.2.2.2.2.2.2.2.2.1
theorem CI.n23 {h : AH} (hC : CI h) : 23 < h.n := by have := hC.1; omega
theorem CI.k24 {h : AH} (hC : CI h) : h.kd 24 = (100, 120) := hC.2.2.2.2.2.2.2.2.2.2.2.2.2.2.2.1
theorem CI.n24 {h : AH} (hC : CI h) : 24 < h.n := by have := hC.1; omega
theorem CI.k25 {h : AH} (hC : CI h) : h.kd 25 = (100, 120) := hC.2.2.2.2.2.2.2.2.2.2.2.2.2.2.2.2.1
theorem CI.n25 {h : AH} (hC : CI h) : 25 < h.n := by have := hC.1; omega
theorem CI.k26 {h : AH} (hC : CI h) : h.kd 26 = (105, 12) := hC.2.2.2.2.2.2.2.2.2.2.2.2.2.2.2.2.2.1
theorem CI.n26 {h : AH} (hC : CI h) : 26 < h.n := by have := hC.1; omega
theorem CI.k27 {h : AH} (hC : CI h) : h.kd 27 = (5, 2) := hC.2.2.2.2.2.2.2.2.2.2.2.2.2.2.2.2.2.2.1
theorem CI.n27 {h : AH} (hC : CI h) : 27 < h.n := by have := hC.1; omega
theorem CI.k28 {h : AH} (hC : CI h) : h.kd 28 = (100, 200) := hC.2.2.2.2.2.2.2.2.2.2.2.2.2.2.2.2.2.2.2.1
theorem CI.n28 {h : AH} (hC : CI h) : 28 < h.n := by have := hC.1; omega
theorem CI.k29 {h : AH} (hC : CI h) : h.kd 29 = (5, 2) := hC.2.2.2.2.2.2.2.2.2.2.2.2.2.2.2.2.2.2.2.2.1
theorem CI.n29 {h : AH} (hC : CI h) : 29 < h.n := by have := hC.1; omega
theorem CI.k30 {h : AH} (hC : CI h) : h.kd 30 = (100, 200) := hC.2.2.2.2.2.2.2.2.2.2.2.2.2.2.2.2.2.2.2.2.2.1
theorem CI.n30 {h : AH} (hC : CI h) : 30 < h.n := by have := hC.1; omega
theorem CI.k31 {h : AH} (hC : CI h) : h.kd 31 = (6, 5) := hC.2.2.2.2.2.2.2.2.2.2.2.2.2.2.2.2.2.2.2.2.2.2.1
theorem CI.n31 {h : AH} (hC : CI h) : 31 < h.n := by have := hC.1; omega
theorem CI.k32 {h : AH} (hC : CI h) : h.kd 32 = (107, 6) := hC.2.2.2.2.2.2.2.2.2.2.2.2.2.2.2.2.2.2.2.2.2.2.2.1
theorem CI.n32 {h : AH} (hC : CI h) : 32 < h.n := by have := hC.1; omega
theorem CI.k33 {h : AH} (hC : CI h) : h.kd 33 = (105, 8) := hC.2.2.2.2.2.2.2.2.2.2.2.2.2.2.2.2.2.2.2.2.2.2.2.2.1
theorem CI.n33 {h : AH} (hC : CI h) : 33 < h.n := by have := hC.1; omega
theorem CI.k34 {h : AH} (hC : CI h) : h.kd 34 = (6, 5) := hC.2.2.2.2.2.2.2.2.2.2.2.2.2.2.2.2.2.2.2.2.2.2.2.2.2.1
theorem CI.n34 {h : AH} (hC : CI h) : 34 < h.n := by have := hC.1; omega
theorem CI.k35 {h : AH} (hC : CI h) : h.kd 35 = (107, 6) := hC.2.2.2.2.2.2.2.2.2.2.2.2.2.2.2.2.2.2.2.2.2.2.2.2.2.2.1
theorem CI.n35 {h : AH} (hC : CI h) : 35 < h.n := by have := hC.1; omega
theorem CI.k36 {h : AH} (hC : CI h) : h.kd 36 = (105, 8) := hC.2.2.2.2.2.2.2.2.2.2.2.2.2.2.2.2.2.2.2.2.2.2.2.2.2.2.2.1
theorem CI.n36 {h : AH} (hC : CI h) : 36 < h.n := by have := hC.1; omega
theorem CI.k37 {h : AH} (hC : CI h) : h.kd 37 = (6, 5) := hC.2.2.2.2.2.2.2.2.2.2.2.2.2.2.2.2.2.2.2.2.2.2.2.2.2.2.2.2.1
theorem CI.n37 {h : AH} (hC : CI h) : 37 < h.n := by have := hC.1; omega
theorem CI.k38 {h : AH} (hC : CI h) : h.kd 38 = (107, 6) := hC.2.2.2.2.2.2.2.2.2.2.2.2.2.2.2.2.2.2.2.2.2.2.2.2.2.2.2.2.2.1
theorem CI.n38 {h : AH} (hC : CI h) : 38 < h.n := by have := hC.1; omega
theorem CI.k39 {h : AH} (hC : CI h) : h.kd 39 = (105, 8) := hC.2.2.2.2.2.2.2.2.2.2.2.2.2.2.2.2.2.2.2.2.2.2.2.2.2.2.2.2.2.2.1
theorem CI.n39 {h : AH} (hC : CI h) : 39 < h.n := by have := hC.1; omega
theorem CI.k40 {h : AH} (hC : CI h) : h.kd 40 = (2, 3) := hC.2.2.2.2.2.2.2.2.2.2.2.2.2.2.2.2.2.2.2.2.2.2.2.2.2.2.2.2.2.2.2.1
theorem CI.n40 {h : AH} (hC : CI h) : 40 < h.n := by have := hC.1; omega
theorem CI.k41 {h : AH} (hC : CI h) : h.kd 41 = (106, 8) := hC.2.2.2.2.2.2.2.2.2.2.2.2.2.2.2.2.2.2.2.2.2.2.2.2.2.2.2.2.2.2.2.2.1
theorem CI.n41 {h : AH} (hC : CI h) : 41 < h.n := by have := hC.1; omega
theorem CI.v0_0 {h : AH} (hC : CI h) : h.vl 0 0 = 1 := hC.2.2.2.2.2.2.2.2.2.2.2.2.2.2.2.2.2.2.2.2.2.2.2.2.2.2.2.2.2.2.2.2.2.1
theorem CI.v0_1 {h : AH} (hC : CI h) : h.vl 0 1 = 3 := hC.2.2.2.2.2.2.2.2.2.2.2.2.2.2.2.2.2.2.2.2.2.2.2.2.2.2.2.2.2.2.2.2.2.2.1
theorem CI.v0_2 {h : AH} (hC : CI h) : h.vl 0 2 = 5 := hC.2.2.2.2.2.2.2.2.2.2.2.2.2.2.2.2.2.2.2.2.2.2.2.2.2.2.2.2.2.2.2.2.2.2.2.1
theorem CI.v0_3 {h : AH} (hC : CI h) : h.vl 0 3 = 8 := hC.2.2.2.2.2.2.2.2.2.2.2.2.2.2.2.2.2.2.2.2.2.2.2.2.2.2.2.2.2.2.2.2.2.2.2.2.1
theorem CI.v0_4 {h : AH} (hC : CI h) : h.vl 0 4 = 27 := hC.2.2.2.2.2.2.2.2.2.2.2.2.2.2.2.2.2.2.2.2.2.2.2.2.2.2.2.2.2.2.2.2.2.2.2.2.2.1
theorem CI.v0_5 {h : AH} (hC : CI h) : h.vl 0 5 = 29 := hC.2.2.2.2.2.2.2.2.2.2.2.2.2.2.2.2.2.2.2.2.2.2.2.2.2.2.2.2.2.2.2.2.2.2.2.2.2.2.1
theorem CI.v0_6 {h : AH} (hC : CI h) : h.vl 0 6 = 31 := hC.2.2.2.2.2.2.2.2.2.2.2.2.2.2.2.2.2.2.2.2.2.2.2.2.2.2.2.2.2.2.2.2.2.2.2.2.2.2.2.1
theorem CI.v0_7 {h : AH} (hC : CI h) : h.vl 0 7 = 34 := hC.2.2.2.2.2.2.2.2.2.2.2.2.2.2.2.2.2.2.2.2.2.2.2.2.2.2.2.2.2.2.2.2.2.2.2.2.2.2.2.2.1
theorem CI.v0_8 {h : AH} (hC : CI h) : h.vl 0 8 = 37 := hC.2.2.2.2.2.2.2.2.2.2.2.2.2.2.2.2.2.2.2.2.2.2.2.2.2.2.2.2.2.2.2.2.2.2.2.2.2.2.2.2.2.1
theorem CI.v0_9 {h : AH} (hC : CI h) : h.vl 0 9 = 40 := hC.2.2.2.2.2.2.2.2.2.2.2.2.2.2.2.2.2.2.2.2.2.2.2.2.2.2.2.2.2.2.2.2.2.2.2.2.2.2.2.2.2.2.1
theorem CI.v5_0 {h : AH} (hC : CI h) : h.vl 5 0 = 6 := hC.2.2.2.2.2.2.2.2.2.2.2.2.2.2.2.2.2.2.2.2.2.2.2.2.2.2.2.2.2.2.2.2.2.2.2.2.2.2.2.2.2.2.2.1
theorem CI.v5_2 {h : AH} (hC : CI h) : h.vl 5 2 = 7 := hC.2.2.2.2.2.2.2.2.2.2.2.2.2.2.2.2.2.2.2.2.2.2.2.2.2.2.2.2.2.2.2.2.2.2.2.2.2.2.2.2.2.2.2.2.1
theorem CI.v8_0 {h : AH} (hC : CI h) : h.vl 8 0 = 9 := hC.2.2.2.2.2.2.2.2.2.2.2.2.2.2.2.2.2.2.2.2.2.2.2.2.2.2.2.2.2.2.2.2.2.2.2.2.2.2.2.2.2.2.2.2.2.1
theorem CI.v8_1 {h : AH} (hC : CI h) : h.vl 8 1 = 19 := hC.2.2.2.2.2.2.2.2.2.2.2.2.2.2.2.2.2.2.2.2.2.2.2.2.2.2.2.2.2.2.2.2.2.2.2.2.2.2.2.2.2.2.2.2.2.2.1
theorem CI.v8_2 {h : AH} (hC : CI h) : h.vl 8 2 = 23 := hC.2.2.2.2.2.2.2.2.2.2.2.2.2.2.2.2.2.2.2.2.2.2.2.2.2.2.2.2.2.2.2.2.2.2.2.2.2.2.2.2.2.2.2.2.2.2.2.1
theorem CI.v8_3 {h : AH} (hC : CI h) : h.vl 8 3 = 24 := hC.2.2.2.2.2.2.2.2.2.2.2.2.2.2.2.2.2.2.2.2.2.2.2.2.2.2.2.2.2.2.2.2.2.2.2.2.2.2.2.2.2.2.2.2.2.2.2.2.1
theorem CI.v8_4 {h : AH} (hC : CI h) : h.vl 8 4 = 25 := hC.2.2.2.2.2.2.2.2.2.2.2.2.2.2.2.2.2.2.2.2.2.2.2.2.2.2.2.2.2.2.2.2.2.2.2.2.2.2.2.2.2.2.2.2.2.2.2.2.2.1
theorem CI.v8_5 {h : AH} (hC : CI h) : h.vl 8 5 = 26 := hC.2.2.2.2.2.2.2.2.2.2.2.2.2.2.2.2.2.2.2.2.2.2.2.2.2.2.2.2.2.2.2.2.2.2.2.2.2.2.2.2.2.2.2.2.2.2.2.2.2.2.1
theorem CI.v9_12 {h : AH} (hC : CI h) : h.vl 9 12 = 18 := hC.2.2.2.2.2.2.2.2.2.2.2.2.2.2.2.2.2.2.2.2.2.2.2.2.2.2.2.2.2.2.2.2.2.2.2.2.2.2.2.2.2.2.2.2.2.2.2.2.2.2.2.1
theorem CI.v19_0 {h : AH} (hC : CI h) : h.vl 19 0 = 20 := hC.2.2.2.2.2.2.2.2.2.2.2.2.2.2.2.2.2.2.2.2.2.2.2.2.2.2.2.2.2.2.2.2.2.2.2.2.2.2.2.2.2.2.2.2.2.2.2.2.2.2.2.2.1
theorem CI.v19_1 {h : AH} (hC : CI h) : h.vl 19 1 = 21 := hC.2.2.2.2.2.2.2.2.2.2.2.2.2.2.2.2.2.2.2.2.2.2.2.2.2.2.2.2.2.2.2.2.2.2.2.2.2.2.2.2.2.2.2.2.2.2.2.2.2.2.2.2.2.1
theorem CI.v19_2 {h : AH} (hC : CI h) : h.vl 19 2 = 22 := hC.2.2.2.2.2.2.2.2.2.2.2.2.2.2.2.2.2.2.2.2.2.2.2.2.2.2.2.2.2.2.2.2.2.2.2.2.2.2.2.2.2.2.2.2.2.2.2.2.2.2.2.2.2.2.1
theorem CI.v27_0 {h : AH} (hC : CI h) : h.vl 27 0 = 28 := hC.2.2.2.2.2.2.2.2.2.2.2.2.2.2.2.2.2.2.2.2.2.2.2.2.2.2.2.2.2.2.2.2.2.2.2.2.2.2.2.2.2.2.2.2.2.2.2.2.2.2.2.2.2.2.2.1
theorem CI.v29_0 {h : AH} (hC : CI h) : h.vl 29 0 = 30 := hC.2.2.2.2.2.2.2.2.2.2.2.2.2.2.2.2.2.2.2.2.2.2.2.2.2.2.2.2.2.2.2.2.2.2.2.2.2.2.2.2.2.2.2.2.2.2.2.2.2.2.2.2.2.2.2.2.1
theorem CI.v31_0 {h : AH} (hC : CI h) : h.vl 31 0 = 32 := hC.2.2.2.2.2.2.2.2.2.2.2.2.2.2.2.2.2.2.2.2.2.2.2.2.2.2.2.2.2.2.2.2.2.2.2.2.2.2.2.2.2.2.2.2.2.2.2.2.2.2.2.2.2.2.2.2.2.1
theorem CI.v31_1 {h : AH} (hC : CI h) : h.vl 31 1 = 33 := hC.2.2.2.2.2.2.2.2.2.2.2.2.2.2.2.2.2.2.2.2.2.2.2.2.2.2.2.2.2.2.2.2.2.2.2.2.2.2.2.2.2.2.2.2.2.2.2.2.2.2.2.2.2.2.2.2.2.2.1
theorem CI.v34_0 {h : AH} (hC : CI h) : h.vl 34 0 = 35 := hC.2.2.2.2.2.2.2.2.2.2.2.2.2.2.2.2.2.2.2.2.2.2.2.2.2.2.2.2.2.2.2.2.2.2.2.2.2.2.2.2.2.2.2.2.2.2.2.2.2.2.2.2.2.2.2.2.2.2.2.1
theorem CI.v34_1 {h : AH} (hC : CI h) : h.vl 34 1 = 36 := hC.2.2.2.2.2.2.2.2.2.2.2.2.2.2.2.2.2.2.2.2.2.2.2.2.2.2.2.2.2.2.2.2.2.2.2.2.2.2.2.2.2.2.2.2.2.2.2.2.2.2.2.2.2.2.2.2.2.2.2.2.1
theorem CI.v37_0 {h : AH} (hC : CI h) : h.vl 37 0 = 38 := hC.2.2.2.2.2.2.2.2.2.2.2.2.2.2.2.2.2.2.2.2.2.2.2.2.2.2.2.2.2.2.2.2.2.2.2.2.2.2.2.2.2.2.2.2.2.2.2.2.2.2.2.2.2.2.2.2.2.2.2.2.2.1
theorem CI.v37_1 {h : AH} (hC : CI h) : h.vl 37 1 = 39 := hC.2.2.2.2.2.2.2.2.2.2.2.2.2.2.2.2.2.2.2.2.2.2.2.2.2.2.2.2.2.2.2.2.2.2.2.2.2.2.2.2.2.2.2.2.2.2.2.2.2.2.2.2.2.2.2.2.2.2.2.2.2.2.1
theorem CI.v40_0 {h : AH} (hC : CI h) : h.vl 40 0 = 41 := hC.2.2.2.2.2.2.2.2.2.2.2.2.2.2.2.2.2.2.2.2.2.2.2.2.2.2.2.2.2.2.2.2.2.2.2.2.2.2.2.2.2.2.2.2.2.2.2.2.2.2.2.2.2.2.2.2.2.2.2.2.2.2.2
/-- all stays but cells A and fields F -/
def KS (h h1 : AH) (A : List Nat) (F : List (Nat × Nat)) : Prop := h1.n = h.n ∧ h1.kd = h.kd ∧ h1.cs = h.cs ∧ h1.ss = h.ss ∧ ∀ c j, c ∉ A → (c, j) ∉ F → h1.vl c j = h.vl c j
theorem KS.rf {h : AH} {A : List Nat} {F : List (Nat × Nat)} : KS h h A F := ⟨rfl, rfl, rfl, rfl, fun _ _ _ _ => rfl⟩
theorem KS.tr {h h1 h2 : AH} {A : List Nat} {F : List (Nat × Nat)} (a : KS h h1 A F) (b : KS h1 h2 A F) : KS h h2 A F := ⟨b.1.trans a.1, b.2.1.trans a.2.1, b.2.2.1.trans a.2.2.1, b.2.2.2.1.trans a.2.2.2.1, fun c j h1 h2 => (b.2.2.2.2 c j h1 h2).trans (a.2.2.2.2 c j h1 h2)⟩
theorem KS.pa {h h1 : AH} {A : List Nat} {F : List (Nat × Nat)} (a : KS h h1 A F) {b i : Nat} {x : Int} (hb : b ∈ A) : KS h (h1.put b i x) A F := ⟨a.1, a.2.1, a.2.2.1, a.2.2.2.1, fun c j g1 g2 => by
  rw [AH.put_vl, if_neg (fun z => g1 (by rw [z.1]; exact hb))]
  exact a.2.2.2.2 c j g1 g2⟩
theorem KS.pf {h h1 : AH} {A : List Nat} {F : List (Nat × Nat)} (a : KS h h1 A F) {b i : Nat} {x : Int} (hb : (b, i) ∈ F) : KS h (h1.put b i x) A F := ⟨a.1, a.2.1, a.2.2.1, a.2.2.2.1, fun c j g1 g2 => by
  rw [AH.put_vl, if_neg (fun z => g2 (by rw [z.1, z.2]; exact hb))]
  exact a.2.2.2.2 c j g1 g2⟩
theorem KS.wk {h h1 : AH} {A A' : List Nat} {F F' : List (Nat × Nat)} (a : KS h h1 A F) (hA : ∀ x ∈ A, x ∈ A') (hF : ∀ x ∈ F, x ∈ F') : KS h h1 A' F' := ⟨a.1, a.2.1, a.2.2.1, a.2.2.2.1, fun c j g1 g2 => a.2.2.2.2 c j (fun z => g1 (hA c z)) (fun z => g2 (hF _ z))⟩
theorem KS.v {h h1 : AH} {A : List Nat} {F : List (Nat × Nat)} (a : KS h h1 A F) {c j : Nat} (hA : c ∉ A := by decide) (hF : (c, j) ∉ F := by decide) : h1.vl c j = h.vl c j := a.2.2.2.2 c j hA hF
def CIs : List (Nat × Nat) := [(0, 0), (0, 1), (0, 2), (0, 3), (0, 4), (0, 5), (0, 6), (0, 7), (0, 8), (0, 9), (5, 0), (5, 2), (8, 0), (8, 1), (8, 2), (8, 3), (8, 4), (8, 5), (9, 12), (19, 0), (19, 1), (19, 2), (27, 0), (29, 0), (31, 0), (31, 1), (34, 0), (34, 1), (37, 0), (37, 1), (40, 0)]
theorem CI.ks {h h1 : AH} {A : List Nat} {F : List (Nat × Nat)} (hC : CI h) (k : KS h h1 A F) (hs : CIs.all (fun q => decide (q.1 ∉ A ∧ q ∉ F)) = true := by decide) : CI h1 := by
  have g : ∀ c j, (c, j) ∈ CIs → h1.vl c j = h.vl c j := fun c j hm => by
    have z := of_decide_eq_true (List.all_eq_true.mp hs _ hm)
    exact k.2.2.2.2 c j z.1 z.2
  have d : h1.kd = h.kd := k.2.1
  exact ⟨by rw [k.1]; exact hC.1, by rw [d]; exact hC.k0, by rw [d]; exact hC.k1, by rw [d]; exact hC.k3, by rw [d]; exact hC.k5, by rw [d]; exact hC.k6, by rw [d]; exact hC.k7, by rw [d]; exact hC.k8, by rw [d]; exact hC.k9, by rw [d]; exact hC.k18, by rw [d]; exact hC.k19, by rw [d]; exact hC.k20, by rw [d]; exact hC.k21, by rw [d]; exact hC.k22, by rw [d]; exact hC.k23, by rw [d]; exact hC.k24, by rw [d]; exact hC.k25, by rw [d]; exact hC.k26, by rw [d]; exact hC.k27, by rw [d]; exact hC.k28, by rw [d]; exact hC.k29, by rw [d]; exact hC.k30, by rw [d]; exact hC.k31, by rw [d]; exact hC.k32, by rw [d]; exact hC.k33, by rw [d]; exact hC.k34, by rw [d]; exact hC.k35, by rw [d]; exact hC.k36, by rw [d]; exact hC.k37, by rw [d]; exact hC.k38, by rw [d]; exact hC.k39, by rw [d]; exact hC.k40, by rw [d]; exact hC.k41, (g 0 0 (by decide)).trans hC.v0_0, (g 0 1 (by decide)).trans hC.v0_1, (g 0 2 (by decide)).trans hC.v0_2, (g 0 3 (by decide)).trans hC.v0_3, (g 0 4 (by decide)).trans hC.v0_4, (g 0 5 (by decide)).trans hC.v0_5, (g 0 6 (by decide)).trans hC.v0_6, (g 0 7 (by decide)).trans hC.v0_7, (g 0 8 (by decide)).trans hC.v0_8, (g 0 9 (by decide)).trans hC.v0_9, (g 5 0 (by decide)).trans hC.v5_0, (g 5 2 (by decide)).trans hC.v5_2, (g 8 0 (by decide)).trans hC.v8_0, (g 8 1 (by decide)).trans hC.v8_1, (g 8 2 (by decide)).trans hC.v8_2, (g 8 3 (by decide)).trans hC.v8_3, (g 8 4 (by decide)).trans hC.v8_4, (g 8 5 (by decide)).trans hC.v8_5, (g 9 12 (by decide)).trans hC.v9_12, (g 19 0 (by decide)).trans hC.v19_0, (g 19 1 (by decide)).trans hC.v19_1, (g 19 2 (by decide)).trans hC.v19_2, (g 27 0 (by decide)).trans hC.v27_0, (g 29 0 (by decide)).trans hC.v29_0, (g 31 0 (by decide)).trans hC.v31_0, (g 31 1 (by decide)).trans hC.v31_1, (g 34 0 (by decide)).trans hC.v34_0, (g 34 1 (by decide)).trans hC.v34_1, (g 37 0 (by decide)).trans hC.v37_0, (g 37 1 (by decide)).trans hC.v37_1, (g 40 0 (by decide)).trans hC.v40_0⟩
