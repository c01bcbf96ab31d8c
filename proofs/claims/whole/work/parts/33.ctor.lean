/-! constructors -/
def eReader (a : Nat) (h : AH) : AH := ((((h.new (100, 60)).put a 0 ((h.n + 0 : Nat) : Int)).new (100, 240)).put a 2 ((h.n + 1 : Nat) : Int))
theorem eReader_n {a : Nat} {h : AH} : (eReader a h).n = h.n + 2 := rfl
theorem eReader_l {b a : Nat} {h : AH} (hn : b < h.n) : b < (eReader a h).n := by rw [eReader_n]; omega
theorem eReader_k {b a : Nat} {h : AH} {q : Nat × Nat} (hk : h.kd b = q) (hn : b < h.n) : (eReader a h).kd b = q := pk (nk (pk (nk (hk) (hn))) (pn (nn (hn))))
set_option maxRecDepth 100000 in
theorem s_eReader {a : Nat} {h : AH} (ka : h.kd a = (8, 4)) (an : a < h.n) : CV mX8_init 2 [rv a] h (on fun h1 => h1 = eReader a h) := by
  refine cv_of cdX8_init ?_
  show EV _ _ 0 [rv a] [] h _
  refine ev_aload_n dX8_init_0 rfl ?_
  refine ev_oinit dX8_init_1 oX8_3 (by omega) (Nat.le_of_ble_eq_true rfl) ?_
  refine ev_aload_n dX8_init_4 rfl ?_
  refine ev_bipush dX8_init_5 ?_
  refine ev_newi dX8_init_7 (by omega) (by omega) ?_ q_ai
  refine ev_ptF dX8_init_9 fX8_9F rfl (nk (ka) (an)) (nn (an)) rfl ?_
  refine ev_aload_n dX8_init_12 rfl ?_
  refine ev_sipush dX8_init_13 ?_
  refine ev_newi dX8_init_16 (by omega) (by omega) ?_ q_ai
  refine ev_ptF dX8_init_18 fX8_15F rfl (nk (pk (nk (ka) (an))) (pn (nn (an)))) (nn (pn (nn (an)))) rfl ?_
  exact ev_vret dX8_init_21 (⟨rfl, rfl⟩)
def eTypes (a : Nat) (h : AH) : AH := ((((((((((((((((((h.new (100, 256)).put a 0 ((h.n + 0 : Nat) : Int)).new (100, 256)).put a 1 ((h.n + 1 : Nat) : Int)).new (100, 256)).put a 2 ((h.n + 2 : Nat) : Int)).new (100, 256)).put a 3 ((h.n + 3 : Nat) : Int)).new (100, 64)).put a 6 ((h.n + 4 : Nat) : Int)).new (100, 64)).put a 7 ((h.n + 5 : Nat) : Int)).new (100, 64)).put a 8 ((h.n + 6 : Nat) : Int)).new (100, 64)).put a 10 ((h.n + 7 : Nat) : Int)).new (100, 200)).put a 12 ((h.n + 8 : Nat) : Int))
theorem eTypes_n {a : Nat} {h : AH} : (eTypes a h).n = h.n + 9 := rfl
theorem eTypes_l {b a : Nat} {h : AH} (hn : b < h.n) : b < (eTypes a h).n := by rw [eTypes_n]; omega
theorem eTypes_k {b a : Nat} {h : AH} {q : Nat × Nat} (hk : h.kd b = q) (hn : b < h.n) : (eTypes a h).kd b = q := pk (nk (pk (nk (pk (nk (pk (nk (pk (nk (pk (nk (pk (nk (pk (nk (pk (nk (hk) (hn))) (pn (nn (hn))))) (pn (nn (pn (nn (hn))))))) (pn (nn (pn (nn (pn (nn (hn))))))))) (pn (nn (pn (nn (pn (nn (pn (nn (hn))))))))))) (pn (nn (pn (nn (pn (nn (pn (nn (pn (nn (hn))))))))))))) (pn (nn (pn (nn (pn (nn (pn (nn (pn (nn (pn (nn (hn))))))))))))))) (pn (nn (pn (nn (pn (nn (pn (nn (pn (nn (pn (nn (pn (nn (hn))))))))))))))))) (pn (nn (pn (nn (pn (nn (pn (nn (pn (nn (pn (nn (pn (nn (pn (nn (hn))))))))))))))))))
set_option maxRecDepth 100000 in
theorem s_eTypes {a : Nat} {h : AH} (ka : h.kd a = (9, 15)) (an : a < h.n) : CV mX9_init 2 [rv a] h (on fun h1 => h1 = eTypes a h) := by
  refine cv_of cdX9_init ?_
  show EV _ _ 0 [rv a] [] h _
  refine ev_aload_n dX9_init_0 rfl ?_
  refine ev_oinit dX9_init_1 oX9_3 (by omega) (Nat.le_of_ble_eq_true rfl) ?_
  refine ev_aload_n dX9_init_4 rfl ?_
  refine ev_sipush dX9_init_5 ?_
  refine ev_newi dX9_init_8 (by omega) (by omega) ?_ q_ai
  refine ev_pt dX9_init_10 fX9_9 (nk (ka) (an)) (nn (an)) rfl ?_
  refine ev_aload_n dX9_init_13 rfl ?_
  refine ev_sipush dX9_init_14 ?_
  refine ev_newi dX9_init_17 (by omega) (by omega) ?_ q_ai
  refine ev_pt dX9_init_19 fX9_15 (nk (pk (nk (ka) (an))) (pn (nn (an)))) (nn (pn (nn (an)))) rfl ?_
  refine ev_aload_n dX9_init_22 rfl ?_
  refine ev_sipush dX9_init_23 ?_
  refine ev_newi dX9_init_26 (by omega) (by omega) ?_ q_ai
  refine ev_pt dX9_init_28 fX9_18 (nk (pk (nk (pk (nk (ka) (an))) (pn (nn (an))))) (pn (nn (pn (nn (an)))))) (nn (pn (nn (pn (nn (an)))))) rfl ?_
  refine ev_aload_n dX9_init_31 rfl ?_
  refine ev_sipush dX9_init_32 ?_
  refine ev_newi dX9_init_35 (by omega) (by omega) ?_ q_ai
  refine ev_pt dX9_init_37 fX9_21 (nk (pk (nk (pk (nk (pk (nk (ka) (an))) (pn (nn (an))))) (pn (nn (pn (nn (an))))))) (pn (nn (pn (nn (pn (nn (an)))))))) (nn (pn (nn (pn (nn (pn (nn (an)))))))) rfl ?_
  refine ev_aload_n dX9_init_40 rfl ?_
  refine ev_bipush dX9_init_41 ?_
  refine ev_newi dX9_init_43 (by omega) (by omega) ?_ q_ai
  refine ev_pt dX9_init_45 fX9_24 (nk (pk (nk (pk (nk (pk (nk (pk (nk (ka) (an))) (pn (nn (an))))) (pn (nn (pn (nn (an))))))) (pn (nn (pn (nn (pn (nn (an))))))))) (pn (nn (pn (nn (pn (nn (pn (nn (an)))))))))) (nn (pn (nn (pn (nn (pn (nn (pn (nn (an)))))))))) rfl ?_
  refine ev_aload_n dX9_init_48 rfl ?_
  refine ev_bipush dX9_init_49 ?_
  refine ev_newi dX9_init_51 (by omega) (by omega) ?_ q_ai
  refine ev_pt dX9_init_53 fX9_27 (nk (pk (nk (pk (nk (pk (nk (pk (nk (pk (nk (ka) (an))) (pn (nn (an))))) (pn (nn (pn (nn (an))))))) (pn (nn (pn (nn (pn (nn (an))))))))) (pn (nn (pn (nn (pn (nn (pn (nn (an))))))))))) (pn (nn (pn (nn (pn (nn (pn (nn (pn (nn (an)))))))))))) (nn (pn (nn (pn (nn (pn (nn (pn (nn (pn (nn (an)))))))))))) rfl ?_
  refine ev_aload_n dX9_init_56 rfl ?_
  refine ev_bipush dX9_init_57 ?_
  refine ev_newi dX9_init_59 (by omega) (by omega) ?_ q_ai
  refine ev_pt dX9_init_61 fX9_30 (nk (pk (nk (pk (nk (pk (nk (pk (nk (pk (nk (pk (nk (ka) (an))) (pn (nn (an))))) (pn (nn (pn (nn (an))))))) (pn (nn (pn (nn (pn (nn (an))))))))) (pn (nn (pn (nn (pn (nn (pn (nn (an))))))))))) (pn (nn (pn (nn (pn (nn (pn (nn (pn (nn (an))))))))))))) (pn (nn (pn (nn (pn (nn (pn (nn (pn (nn (pn (nn (an)))))))))))))) (nn (pn (nn (pn (nn (pn (nn (pn (nn (pn (nn (pn (nn (an)))))))))))))) rfl ?_
  refine ev_aload_n dX9_init_64 rfl ?_
  refine ev_bipush dX9_init_65 ?_
  refine ev_newi dX9_init_67 (by omega) (by omega) ?_ q_ai
  refine ev_pt dX9_init_69 fX9_33 (nk (pk (nk (pk (nk (pk (nk (pk (nk (pk (nk (pk (nk (pk (nk (ka) (an))) (pn (nn (an))))) (pn (nn (pn (nn (an))))))) (pn (nn (pn (nn (pn (nn (an))))))))) (pn (nn (pn (nn (pn (nn (pn (nn (an))))))))))) (pn (nn (pn (nn (pn (nn (pn (nn (pn (nn (an))))))))))))) (pn (nn (pn (nn (pn (nn (pn (nn (pn (nn (pn (nn (an))))))))))))))) (pn (nn (pn (nn (pn (nn (pn (nn (pn (nn (pn (nn (pn (nn (an)))))))))))))))) (nn (pn (nn (pn (nn (pn (nn (pn (nn (pn (nn (pn (nn (pn (nn (an)))))))))))))))) rfl ?_
  refine ev_aload_n dX9_init_72 rfl ?_
  refine ev_sipush dX9_init_73 ?_
  refine ev_newi dX9_init_76 (by omega) (by omega) ?_ q_ai
  refine ev_ptF dX9_init_78 fX9_36F rfl (nk (pk (nk (pk (nk (pk (nk (pk (nk (pk (nk (pk (nk (pk (nk (pk (nk (ka) (an))) (pn (nn (an))))) (pn (nn (pn (nn (an))))))) (pn (nn (pn (nn (pn (nn (an))))))))) (pn (nn (pn (nn (pn (nn (pn (nn (an))))))))))) (pn (nn (pn (nn (pn (nn (pn (nn (pn (nn (an))))))))))))) (pn (nn (pn (nn (pn (nn (pn (nn (pn (nn (pn (nn (an))))))))))))))) (pn (nn (pn (nn (pn (nn (pn (nn (pn (nn (pn (nn (pn (nn (an))))))))))))))))) (pn (nn (pn (nn (pn (nn (pn (nn (pn (nn (pn (nn (pn (nn (pn (nn (an)))))))))))))))))) (nn (pn (nn (pn (nn (pn (nn (pn (nn (pn (nn (pn (nn (pn (nn (pn (nn (an)))))))))))))))))) rfl ?_
  exact ev_vret dX9_init_81 (⟨rfl, rfl⟩)
def eState (a : Nat) (h : AH) : AH := ((((h.new (107, 6)).put a 0 ((h.n + 0 : Nat) : Int)).new (105, 8)).put a 1 ((h.n + 1 : Nat) : Int))
theorem eState_n {a : Nat} {h : AH} : (eState a h).n = h.n + 2 := rfl
theorem eState_l {b a : Nat} {h : AH} (hn : b < h.n) : b < (eState a h).n := by rw [eState_n]; omega
theorem eState_k {b a : Nat} {h : AH} {q : Nat × Nat} (hk : h.kd b = q) (hn : b < h.n) : (eState a h).kd b = q := pk (nk (pk (nk (hk) (hn))) (pn (nn (hn))))
set_option maxRecDepth 100000 in
theorem s_eState {a : Nat} {h : AH} (ka : h.kd a = (6, 5)) (an : a < h.n) : CV mX6_init 2 [rv a] h (on fun h1 => h1 = eState a h) := by
  refine cv_of cdX6_init ?_
  show EV _ _ 0 [rv a] [] h _
  refine ev_aload_n dX6_init_0 rfl ?_
  refine ev_oinit dX6_init_1 oX6_3 (by omega) (Nat.le_of_ble_eq_true rfl) ?_
  refine ev_aload_n dX6_init_4 rfl ?_
  refine ev_bipush dX6_init_5 ?_
  refine ev_newq dX6_init_7 q_403 rfl (c := 107) (by decide) (by decide) (by omega) (by omega) ?_
  refine ev_ptF dX6_init_10 fX6_11F rfl (nk (ka) (an)) (nn (an)) rfl ?_
  refine ev_aload_n dX6_init_13 rfl ?_
  refine ev_bipush dX6_init_14 ?_
  refine ev_newq dX6_init_16 q_405 rfl (c := 105) (by decide) (by decide) (by omega) (by omega) ?_
  refine ev_ptF dX6_init_19 fX6_19F rfl (nk (pk (nk (ka) (an))) (pn (nn (an)))) (nn (pn (nn (an)))) rfl ?_
  exact ev_vret dX6_init_22 (⟨rfl, rfl⟩)
def eHist (a : Nat) (h : AH) : AH := ((h.new (106, 8)).put a 0 ((h.n + 0 : Nat) : Int))
theorem eHist_n {a : Nat} {h : AH} : (eHist a h).n = h.n + 1 := rfl
theorem eHist_l {b a : Nat} {h : AH} (hn : b < h.n) : b < (eHist a h).n := by rw [eHist_n]; omega
theorem eHist_k {b a : Nat} {h : AH} {q : Nat × Nat} (hk : h.kd b = q) (hn : b < h.n) : (eHist a h).kd b = q := pk (nk (hk) (hn))
set_option maxRecDepth 100000 in
theorem s_eHist {a : Nat} {h : AH} (ka : h.kd a = (2, 3)) (an : a < h.n) : CV mX1_init 2 [rv a] h (on fun h1 => h1 = eHist a h) := by
  refine cv_of cdX1_init ?_
  show EV _ _ 0 [rv a] [] h _
  refine ev_aload_n dX1_init_0 rfl ?_
  refine ev_oinit dX1_init_1 oX1_3 (by omega) (Nat.le_of_ble_eq_true rfl) ?_
  refine ev_aload_n dX1_init_4 rfl ?_
  refine ev_bipush dX1_init_5 ?_
  refine ev_newq dX1_init_7 q_431 rfl (c := 106) (by decide) (by decide) (by omega) (by omega) ?_
  refine ev_ptF dX1_init_10 fX1_11F rfl (nk (ka) (an)) (nn (an)) rfl ?_
  exact ev_vret dX1_init_13 (⟨rfl, rfl⟩)
def ePath (a : Nat) (h : AH) : AH := ((((((h.new (100, 120)).put a 0 ((h.n + 0 : Nat) : Int)).new (100, 120)).put a 1 ((h.n + 1 : Nat) : Int)).new (100, 120)).put a 2 ((h.n + 2 : Nat) : Int))
theorem ePath_n {a : Nat} {h : AH} : (ePath a h).n = h.n + 3 := rfl
theorem ePath_l {b a : Nat} {h : AH} (hn : b < h.n) : b < (ePath a h).n := by rw [ePath_n]; omega
theorem ePath_k {b a : Nat} {h : AH} {q : Nat × Nat} (hk : h.kd b = q) (hn : b < h.n) : (ePath a h).kd b = q := pk (nk (pk (nk (pk (nk (hk) (hn))) (pn (nn (hn))))) (pn (nn (pn (nn (hn))))))
set_option maxRecDepth 100000 in
theorem s_ePath {a : Nat} {h : AH} (ka : h.kd a = (3, 4)) (an : a < h.n) : CV mX3_init 2 [rv a] h (on fun h1 => h1 = ePath a h) := by
  refine cv_of cdX3_init ?_
  show EV _ _ 0 [rv a] [] h _
  refine ev_aload_n dX3_init_0 rfl ?_
  refine ev_oinit dX3_init_1 oX3_3 (by omega) (Nat.le_of_ble_eq_true rfl) ?_
  refine ev_aload_n dX3_init_4 rfl ?_
  refine ev_bipush dX3_init_5 ?_
  refine ev_newi dX3_init_7 (by omega) (by omega) ?_ q_ai
  refine ev_ptF dX3_init_9 fX3_9F rfl (nk (ka) (an)) (nn (an)) rfl ?_
  refine ev_aload_n dX3_init_12 rfl ?_
  refine ev_bipush dX3_init_13 ?_
  refine ev_newi dX3_init_15 (by omega) (by omega) ?_ q_ai
  refine ev_ptF dX3_init_17 fX3_15F rfl (nk (pk (nk (ka) (an))) (pn (nn (an)))) (nn (pn (nn (an)))) rfl ?_
  refine ev_aload_n dX3_init_20 rfl ?_
  refine ev_bipush dX3_init_21 ?_
  refine ev_newi dX3_init_23 (by omega) (by omega) ?_ q_ai
  refine ev_ptF dX3_init_25 fX3_18F rfl (nk (pk (nk (pk (nk (ka) (an))) (pn (nn (an))))) (pn (nn (pn (nn (an)))))) (nn (pn (nn (pn (nn (an)))))) rfl ?_
  exact ev_vret dX3_init_28 (⟨rfl, rfl⟩)
def eShape (a n : Nat) (h : AH) : AH := (h.new (100, n)).put a 0 ((h.n : Nat) : Int)
theorem eShape_n {a n : Nat} {h : AH} : (eShape a n h).n = h.n + 1 := rfl
theorem eShape_l {b a n : Nat} {h : AH} (hn : b < h.n) : b < (eShape a n h).n := by rw [eShape_n]; omega
theorem eShape_k {b a n : Nat} {h : AH} {q : Nat × Nat} (hk : h.kd b = q) (hn : b < h.n) : (eShape a n h).kd b = q := pk (nk hk hn)
set_option maxRecDepth 100000 in
theorem s_eShape {a n : Nat} {h : AH} (ka : h.kd a = (5, 2)) (an : a < h.n) (n9 : n ≤ 100000) : CV mX5_init 2 [rv a, iv n] h (on fun h1 => h1 = eShape a n h) := by
  refine cv_of cdX5_init ?_
  show EV _ _ 0 [rv a, iv n] [] h _
  refine ev_aload_n dX5_init_0 rfl ?_
  refine ev_oinit dX5_init_1 oX5_3 (by omega) (Nat.le_of_ble_eq_true rfl) ?_
  refine ev_aload_n dX5_init_4 rfl ?_
  refine ev_iload_n dX5_init_5 rfl ?_
  refine ev_ifge 13 dX5_init_6 (fun hc => ?_) (fun h_no => (by exfalso; omega))
  refine ev_iload_n dX5_init_13 rfl ?_
  refine ev_newi dX5_init_14 (by omega) (by omega) ?_ q_ai
  refine ev_ptF dX5_init_16 fX5_9F rfl (nk (ka) (an)) (nn (an)) rfl ?_
  exact ev_vret dX5_init_19 (⟨rfl, rfl⟩)
/-- a text builder's start -/
def eSBa (a : Nat) (h : AH) : AH := ((h.new (101, 16)).put a 0 ((h.n : Nat) : Int)).put a 1 0
theorem eSBa_n {a : Nat} {h : AH} : (eSBa a h).n = h.n + 1 := rfl
theorem eSBa_l {b a : Nat} {h : AH} (hn : b < h.n) : b < (eSBa a h).n := by rw [eSBa_n]; omega
theorem eSBa_k {b a : Nat} {h : AH} {q : Nat × Nat} (hk : h.kd b = q) (hn : b < h.n) : (eSBa a h).kd b = q := pk (pk (nk hk hn))
set_option maxRecDepth 100000 in
theorem s_J5i {a : Nat} {h : AH} (ka : h.kd a = (0, 4)) (an : a < h.n) : CV mJ5_init_d00df 2 [rv a, iv 16] h (on fun h1 => h1 = eSBa a h) := by
  refine cv_of cdJ5_init_d00df ?_
  show EV _ _ 0 [rv a, iv 16] [] h _
  refine ev_aload_n dJ5_init_d00df_0 rfl ?_
  refine ev_oinit dJ5_init_d00df_1 oJ5_3 (by omega) (Nat.le_of_ble_eq_true rfl) ?_
  refine ev_gcs dJ5_init_d00df_4 q_208 ?_
  refine ev_ifeq 25 dJ5_init_d00df_7 (fun h_no => (by exfalso; omega)) (fun hc => ?_)
  refine ev_aload_n dJ5_init_d00df_10 rfl ?_
  refine ev_iload_n dJ5_init_d00df_11 rfl ?_
  refine ev_newb dJ5_init_d00df_12 (by omega) (by omega) ?_ q_ab
  refine ev_pt dJ5_init_d00df_14 fJ5_15 (nk (ka) (an)) (nn (an)) rfl ?_
  refine ev_aload_n dJ5_init_d00df_17 rfl ?_
  refine ev_iconst dJ5_init_d00df_18 ?_
  refine ev_pt dJ5_init_d00df_19 fJ5_22 (pk (nk (ka) (an))) (pn (nn (an))) rfl ?_
  refine ev_gt 38 dJ5_init_d00df_22 ?_
  exact ev_vret dJ5_init_d00df_38 (⟨rfl, rfl⟩)
set_option maxRecDepth 100000 in
theorem s_eSBa {a : Nat} {h : AH} (ka : h.kd a = (0, 4)) (an : a < h.n) : CV mJ4_init_da8c8 3 [rv a] h (on fun h1 => h1 = eSBa a h) := by
  refine cv_of cdJ4_init_da8c8 ?_
  show EV _ _ 0 [rv a] [] h _
  refine ev_aload_n dJ4_init_da8c8_0 rfl ?_
  refine ev_bipush dJ4_init_da8c8_1 ?_
  refine ev_ci dJ4_init_da8c8_3 lJ4_1 (s_J5i ka an) (by decide) (by omega) rfl rfl (Nat.le_of_ble_eq_true rfl) rfl (fun h1 q => ?_)
  subst q
  exact ev_vret dJ4_init_da8c8_6 (⟨rfl, rfl⟩)
