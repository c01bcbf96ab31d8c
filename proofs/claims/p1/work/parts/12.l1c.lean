section EvB
variable {M : MD} {d pc : Nat} {L S : List AV} {h : AH} {Q : AV → AH → Prop}
theorem i8 {n : Int} (h1 : -128 ≤ n) (h2 : n ≤ 127) : (Int8.ofInt n).toInt32 = Int32.ofInt n := by
  rw [← Int32.toInt_inj, Int8.toInt_toInt32, Int8.toInt_ofInt_of_le h1 (by omega), ofI_t (by unfold ir; omega)]
theorem i16 {n : Int} (h1 : -32768 ≤ n) (h2 : n ≤ 32767) : (Int16.ofInt n).toInt32 = Int32.ofInt n := by
  rw [← Int32.toInt_inj, Int16.toInt_toInt32, Int16.toInt_ofInt_of_le h1 (by omega), ofI_t (by unfold ir; omega)]
theorem ev_bipush {n : Int} (hd : decode M.cc pc = .ok (.bipush n, 2)) (k : EV M d (pc + 2) L (iv n :: S) h Q) (h1 : -128 ≤ n := by decide) (h2 : n ≤ 127 := by decide) : EV M d pc L S h Q :=
  ev_pure k (fun _ hS _ => SR_c (VR_i (by unfold ir; omega)) hS) (fun _ _ _ C _ _ k => lv_bipush C.1 C.2.1 hd (i8 h1 h2) k)
theorem ev_sipush {n : Int} (hd : decode M.cc pc = .ok (.sipush n, 3)) (k : EV M d (pc + 3) L (iv n :: S) h Q) (h1 : -32768 ≤ n := by decide) (h2 : n ≤ 32767 := by decide) : EV M d pc L S h Q :=
  ev_pure k (fun _ hS _ => SR_c (VR_i (by unfold ir; omega)) hS) (fun _ _ _ C _ _ k => lv_sipush C.1 C.2.1 hd (i16 h1 h2) k)
theorem ev_null (hd : decode M.cc pc = .ok (.aconst_null, 1)) (k : EV M d (pc + 1) L (rv (-1) :: S) h Q) : EV M d pc L S h Q :=
  ev_pure k (fun _ hS _ => SR_c (VR_r (by omega)) hS) (fun _ _ _ C _ _ k => lv_null C.1 C.2.1 hd k)
theorem ev_iload {i : Nat} {x : Int} (hd : decode M.cc pc = .ok (.iload i, 2)) (hi : L[i]? = some (iv x)) (k : EV M d (pc + 2) L (iv x :: S) h Q) : EV M d pc L S h Q :=
  ev_pure k (fun hL hS _ => SR_c (hL _ (List.mem_of_getElem? hi)) hS) (fun _ _ _ C _ hl k => lv_iload C.1 C.2.1 hd (hl.at hi t09) k)
theorem ev_iload_n {j : Fin 4} {x : Int} (hd : decode M.cc pc = .ok (.iload_n j, 1)) (hi : L[(j : Nat)]? = some (iv x)) (k : EV M d (pc + 1) L (iv x :: S) h Q) : EV M d pc L S h Q :=
  ev_pure k (fun hL hS _ => SR_c (hL _ (List.mem_of_getElem? hi)) hS) (fun _ _ _ C _ hl k => lv_iload_n C.1 C.2.1 hd rfl (hl.at hi t09) k)
theorem ev_aload {i : Nat} {x : Int} (hd : decode M.cc pc = .ok (.aload i, 2)) (hi : L[i]? = some (rv x)) (k : EV M d (pc + 2) L (rv x :: S) h Q) : EV M d pc L S h Q :=
  ev_pure k (fun hL hS _ => SR_c (hL _ (List.mem_of_getElem? hi)) hS) (fun _ _ _ C _ hl k => by
    have e := hl.at hi t19
    by_cases q : x < 0
    · simp only [av_c, if_pos q, List.map_cons] at e k
      exact lv_aloadN C.1 C.2.1 hd e k
    · simp only [av_c, if_neg q, List.map_cons] at e k
      exact lv_aload C.1 C.2.1 hd e k)
theorem ev_aload_n {j : Fin 4} {x : Int} (hd : decode M.cc pc = .ok (.aload_n j, 1)) (hi : L[(j : Nat)]? = some (rv x)) (k : EV M d (pc + 1) L (rv x :: S) h Q) : EV M d pc L S h Q :=
  ev_pure k (fun hL hS _ => SR_c (hL _ (List.mem_of_getElem? hi)) hS) (fun _ _ _ C _ hl k => by
    have e := hl.at hi t19
    by_cases q : x < 0
    · simp only [av_c, if_pos q, List.map_cons] at e k
      exact lv_aload_nN C.1 C.2.1 hd rfl e k
    · simp only [av_c, if_neg q, List.map_cons] at e k
      exact lv_aload_n C.1 C.2.1 hd rfl e k)
theorem ev_istore {i : Nat} {x : Int} (hd : decode M.cc pc = .ok (.istore i, 2)) (k : EV M d (pc + 2) (L.set i (iv x)) S h Q) (hi : i < M.ml := by decide) (hc : catok L i = true := by rfl) : EV M d pc L (iv x :: S) h Q :=
  ev_st k (fun _ hS => SR_h hS) hi hc (fun q => q) (fun _ _ C hl k => lv_istore C.1 C.2.1 hd hl hi rfl k)
theorem ev_istore_n {j : Fin 4} {x : Int} (hd : decode M.cc pc = .ok (.istore_n j, 1)) (k : EV M d (pc + 1) (L.set j (iv x)) S h Q) (hi : (j : Nat) < M.ml := by decide) (hc : catok L j = true := by rfl) : EV M d pc L (iv x :: S) h Q :=
  ev_st k (fun _ hS => SR_h hS) hi hc (fun q => q) (fun _ _ C hl k => lv_istore_n C.1 C.2.1 hd rfl hl hi rfl k)
theorem ev_astore {i : Nat} {x : Int} (hd : decode M.cc pc = .ok (.astore i, 2)) (k : EV M d (pc + 2) (L.set i (rv x)) S h Q) (hi : i < M.ml := by decide) (hc : catok L i = true := by rfl) : EV M d pc L (rv x :: S) h Q :=
  ev_st k (fun _ hS => SR_h hS) hi hc (fun q => q) (fun _ _ C hl k => by
    by_cases q : x < 0
    · simp only [av_c, if_pos q, List.map_cons] at k ⊢
      exact lv_astoreN C.1 C.2.1 hd hl hi rfl k
    · simp only [av_c, if_neg q, List.map_cons] at k ⊢
      exact lv_astore C.1 C.2.1 hd hl hi rfl k)
theorem ev_astore_n {j : Fin 4} {x : Int} (hd : decode M.cc pc = .ok (.astore_n j, 1)) (k : EV M d (pc + 1) (L.set j (rv x)) S h Q) (hi : (j : Nat) < M.ml := by decide) (hc : catok L j = true := by rfl) : EV M d pc L (rv x :: S) h Q :=
  ev_st k (fun _ hS => SR_h hS) hi hc (fun q => q) (fun _ _ C hl k => by
    by_cases q : x < 0
    · simp only [av_c, if_pos q, List.map_cons] at k ⊢
      exact lv_astore_nN C.1 C.2.1 hd rfl hl hi rfl k
    · simp only [av_c, if_neg q, List.map_cons] at k ⊢
      exact lv_astore_n C.1 C.2.1 hd rfl hl hi rfl k)
theorem ev_iinc {i : Nat} {n x : Int} (hd : decode M.cc pc = .ok (.iinc i n, 3)) (hx : L[i]? = some (iv x)) (hr : ir (x + n)) (k : EV M d (pc + 3) (L.set i (iv (x + n))) S h Q) (hi : i < M.ml := by decide) (hc : catok L i = true := by rfl) : EV M d pc L S h Q :=
  ev_st k (fun _ _ => VR_i hr) hi hc (fun hS => SR_c (VR_i hr) hS) (fun _ _ C hl k => by
    obtain ⟨j, hj⟩ := List.getElem?_of_mem (lA_mem.mpr ⟨i, _, hx, t09, by rw [Nat.zero_add]⟩ : (i, av_c _ (iv x)) ∈ lA _ 0 L)
    exact lv_iinc C.1 C.2.1 hd hl hj (v := Int32.ofInt (x + n)) (by rw [Int32.ofInt_add]) hi rfl k)
theorem ev_iadd {x y : Int} (hd : decode M.cc pc = .ok (.iadd, 1)) (hr : ir (x + y)) (k : EV M d (pc + 1) L (iv (x + y) :: S) h Q) : EV M d pc L (iv y :: iv x :: S) h Q :=
  ev_pure k (fun _ hS _ => SR_c (VR_i hr) (SR_t (SR_t hS))) (fun _ _ _ C _ _ k => lv_iadd C.1 C.2.1 hd (by rw [← Int32.ofInt_add]; exact k))
theorem ev_isub {x y : Int} (hd : decode M.cc pc = .ok (.isub, 1)) (hr : ir (x - y)) (k : EV M d (pc + 1) L (iv (x - y) :: S) h Q) : EV M d pc L (iv y :: iv x :: S) h Q :=
  ev_pure k (fun _ hS _ => SR_c (VR_i hr) (SR_t (SR_t hS))) (fun _ _ _ C _ _ k => lv_isub C.1 C.2.1 hd (by rw [← Int32.ofInt_sub]; exact k))
theorem ev_imul {x y : Int} (hd : decode M.cc pc = .ok (.imul, 1)) (hr : ir (x * y)) (k : EV M d (pc + 1) L (iv (x * y) :: S) h Q) : EV M d pc L (iv y :: iv x :: S) h Q :=
  ev_pure k (fun _ hS _ => SR_c (VR_i hr) (SR_t (SR_t hS))) (fun _ _ _ C _ _ k => lv_imul C.1 C.2.1 hd (by rw [← Int32.ofInt_mul]; exact k))
theorem ev_goto {off : Int} {tgt : Nat} (hd : decode M.cc pc = .ok (.goto off, 3)) (k : EV M d tgt L S h Q) (ht : (pc : Int) + off = (tgt : Int) := by decide) : EV M d pc L S h Q :=
  ev_pure k (fun _ hS _ => hS) (fun _ _ _ C _ _ k => lv_goto C.1 C.2.1 hd ht k)
theorem ev_dup {t : Nat} {x : Int} (hd : decode M.cc pc = .ok (.dup, 1)) (k : EV M d (pc + 1) L ((t, x) :: (t, x) :: S) h Q) (h2 : t ≠ 2 := by decide) (h4 : t ≠ 4 := by decide) : EV M d pc L ((t, x) :: S) h Q :=
  ev_pure k (fun _ hS _ => SR_c (SR_h hS) hS) (fun _ _ _ C _ _ k => lv_dup C.1 C.2.1 hd (av_cat h2 h4) k)
theorem ev_pop {t : Nat} {x : Int} (hd : decode M.cc pc = .ok (.pop, 1)) (k : EV M d (pc + 1) L S h Q) (h2 : t ≠ 2 := by decide) (h4 : t ≠ 4 := by decide) : EV M d pc L ((t, x) :: S) h Q :=
  ev_pure k (fun _ hS _ => SR_t hS) (fun _ _ _ C _ _ k => lv_pop C.1 C.2.1 hd (av_cat h2 h4) k)
theorem ev_icmplt {x y : Int} {off : Int} (tgt : Nat) (hd : decode M.cc pc = .ok (.if_icmp .lt off, 3)) (kt : x < y → EV M d tgt L S h Q) (kf : ¬ x < y → EV M d (pc + 3) L S h Q) (ht : (pc : Int) + off = (tgt : Int) := by decide) : EV M d pc L (iv y :: iv x :: S) h Q := by
  by_cases q : x < y
  · exact ev_pure (kt q) (fun _ hS _ => SR_t (SR_t hS)) (fun _ hS _ C _ _ k => lv_icmp_lt C.1 C.2.1 hd ht (fun _ => k) (fun n => absurd ((ofI_lt (SR_hi (SR_t hS)) (SR_hi hS)).mpr q) n))
  · exact ev_pure (kf q) (fun _ hS _ => SR_t (SR_t hS)) (fun _ hS _ C _ _ k => lv_icmp_lt C.1 C.2.1 hd ht (fun n => absurd ((ofI_lt (SR_hi (SR_t hS)) (SR_hi hS)).mp n) q) (fun _ => k))
theorem ev_icmple {x y : Int} {off : Int} (tgt : Nat) (hd : decode M.cc pc = .ok (.if_icmp .le off, 3)) (kt : x ≤ y → EV M d tgt L S h Q) (kf : ¬ x ≤ y → EV M d (pc + 3) L S h Q) (ht : (pc : Int) + off = (tgt : Int) := by decide) : EV M d pc L (iv y :: iv x :: S) h Q := by
  by_cases q : x ≤ y
  · exact ev_pure (kt q) (fun _ hS _ => SR_t (SR_t hS)) (fun _ hS _ C _ _ k => lv_icmp_le C.1 C.2.1 hd ht (fun _ => k) (fun n => absurd ((ofI_le (SR_hi (SR_t hS)) (SR_hi hS)).mpr q) n))
  · exact ev_pure (kf q) (fun _ hS _ => SR_t (SR_t hS)) (fun _ hS _ C _ _ k => lv_icmp_le C.1 C.2.1 hd ht (fun n => absurd ((ofI_le (SR_hi (SR_t hS)) (SR_hi hS)).mp n) q) (fun _ => k))
theorem ev_icmpgt {x y : Int} {off : Int} (tgt : Nat) (hd : decode M.cc pc = .ok (.if_icmp .gt off, 3)) (kt : y < x → EV M d tgt L S h Q) (kf : ¬ y < x → EV M d (pc + 3) L S h Q) (ht : (pc : Int) + off = (tgt : Int) := by decide) : EV M d pc L (iv y :: iv x :: S) h Q := by
  by_cases q : y < x
  · exact ev_pure (kt q) (fun _ hS _ => SR_t (SR_t hS)) (fun _ hS _ C _ _ k => lv_icmp_gt C.1 C.2.1 hd ht (fun _ => k) (fun n => absurd ((ofI_lt (SR_hi hS) (SR_hi (SR_t hS))).mpr q) n))
  · exact ev_pure (kf q) (fun _ hS _ => SR_t (SR_t hS)) (fun _ hS _ C _ _ k => lv_icmp_gt C.1 C.2.1 hd ht (fun n => absurd ((ofI_lt (SR_hi hS) (SR_hi (SR_t hS))).mp n) q) (fun _ => k))
theorem ev_icmpge {x y : Int} {off : Int} (tgt : Nat) (hd : decode M.cc pc = .ok (.if_icmp .ge off, 3)) (kt : y ≤ x → EV M d tgt L S h Q) (kf : ¬ y ≤ x → EV M d (pc + 3) L S h Q) (ht : (pc : Int) + off = (tgt : Int) := by decide) : EV M d pc L (iv y :: iv x :: S) h Q := by
  by_cases q : y ≤ x
  · exact ev_pure (kt q) (fun _ hS _ => SR_t (SR_t hS)) (fun _ hS _ C _ _ k => lv_icmp_ge C.1 C.2.1 hd ht (fun _ => k) (fun n => absurd ((ofI_le (SR_hi hS) (SR_hi (SR_t hS))).mpr q) n))
  · exact ev_pure (kf q) (fun _ hS _ => SR_t (SR_t hS)) (fun _ hS _ C _ _ k => lv_icmp_ge C.1 C.2.1 hd ht (fun n => absurd ((ofI_le (SR_hi hS) (SR_hi (SR_t hS))).mp n) q) (fun _ => k))
theorem ev_icmpeq {x y : Int} {off : Int} (tgt : Nat) (hd : decode M.cc pc = .ok (.if_icmp .eq off, 3)) (kt : x = y → EV M d tgt L S h Q) (kf : ¬ x = y → EV M d (pc + 3) L S h Q) (ht : (pc : Int) + off = (tgt : Int) := by decide) : EV M d pc L (iv y :: iv x :: S) h Q := by
  by_cases q : x = y
  · exact ev_pure (kt q) (fun _ hS _ => SR_t (SR_t hS)) (fun _ hS _ C _ _ k => lv_icmp_eq C.1 C.2.1 hd ht (fun _ => k) (fun n => absurd ((ofI_eq (SR_hi (SR_t hS)) (SR_hi hS)).mpr q) n))
  · exact ev_pure (kf q) (fun _ hS _ => SR_t (SR_t hS)) (fun _ hS _ C _ _ k => lv_icmp_eq C.1 C.2.1 hd ht (fun n => absurd ((ofI_eq (SR_hi (SR_t hS)) (SR_hi hS)).mp n) q) (fun _ => k))
theorem ev_icmpne {x y : Int} {off : Int} (tgt : Nat) (hd : decode M.cc pc = .ok (.if_icmp .ne off, 3)) (kt : ¬ x = y → EV M d tgt L S h Q) (kf : x = y → EV M d (pc + 3) L S h Q) (ht : (pc : Int) + off = (tgt : Int) := by decide) : EV M d pc L (iv y :: iv x :: S) h Q := by
  by_cases q : x = y
  · exact ev_pure (kf q) (fun _ hS _ => SR_t (SR_t hS)) (fun _ hS _ C _ _ k => lv_icmp_ne C.1 C.2.1 hd ht (fun n => absurd ((ofI_eq (SR_hi (SR_t hS)) (SR_hi hS)).mpr q) n) (fun _ => k))
  · exact ev_pure (kt q) (fun _ hS _ => SR_t (SR_t hS)) (fun _ hS _ C _ _ k => lv_icmp_ne C.1 C.2.1 hd ht (fun _ => k) (fun n => absurd ((ofI_eq (SR_hi (SR_t hS)) (SR_hi hS)).mp n) q))
theorem of0 : (0 : Int32) = Int32.ofInt 0 := rfl
theorem ev_iflt {x : Int} {off : Int} (tgt : Nat) (hd : decode M.cc pc = .ok (.ifCond .lt off, 3)) (kt : x < 0 → EV M d tgt L S h Q) (kf : ¬ x < 0 → EV M d (pc + 3) L S h Q) (ht : (pc : Int) + off = (tgt : Int) := by decide) : EV M d pc L (iv x :: S) h Q := by
  by_cases q : x < 0
  · exact ev_pure (kt q) (fun _ hS _ => SR_t hS) (fun _ hS _ C _ _ k => lv_if_lt C.1 C.2.1 hd ht (fun _ => k) (fun n => absurd ((ofI_lt (SR_hi hS) ir_0).mpr q) n))
  · exact ev_pure (kf q) (fun _ hS _ => SR_t hS) (fun _ hS _ C _ _ k => lv_if_lt C.1 C.2.1 hd ht (fun n => absurd ((ofI_lt (SR_hi hS) ir_0).mp n) q) (fun _ => k))
theorem ev_ifle {x : Int} {off : Int} (tgt : Nat) (hd : decode M.cc pc = .ok (.ifCond .le off, 3)) (kt : x ≤ 0 → EV M d tgt L S h Q) (kf : ¬ x ≤ 0 → EV M d (pc + 3) L S h Q) (ht : (pc : Int) + off = (tgt : Int) := by decide) : EV M d pc L (iv x :: S) h Q := by
  by_cases q : x ≤ 0
  · exact ev_pure (kt q) (fun _ hS _ => SR_t hS) (fun _ hS _ C _ _ k => lv_if_le C.1 C.2.1 hd ht (fun _ => k) (fun n => absurd ((ofI_le (SR_hi hS) ir_0).mpr q) n))
  · exact ev_pure (kf q) (fun _ hS _ => SR_t hS) (fun _ hS _ C _ _ k => lv_if_le C.1 C.2.1 hd ht (fun n => absurd ((ofI_le (SR_hi hS) ir_0).mp n) q) (fun _ => k))
theorem ev_ifgt {x : Int} {off : Int} (tgt : Nat) (hd : decode M.cc pc = .ok (.ifCond .gt off, 3)) (kt : 0 < x → EV M d tgt L S h Q) (kf : ¬ 0 < x → EV M d (pc + 3) L S h Q) (ht : (pc : Int) + off = (tgt : Int) := by decide) : EV M d pc L (iv x :: S) h Q := by
  by_cases q : 0 < x
  · exact ev_pure (kt q) (fun _ hS _ => SR_t hS) (fun _ hS _ C _ _ k => lv_if_gt C.1 C.2.1 hd ht (fun _ => k) (fun n => absurd ((ofI_lt ir_0 (SR_hi hS)).mpr q) n))
  · exact ev_pure (kf q) (fun _ hS _ => SR_t hS) (fun _ hS _ C _ _ k => lv_if_gt C.1 C.2.1 hd ht (fun n => absurd ((ofI_lt ir_0 (SR_hi hS)).mp n) q) (fun _ => k))
theorem ev_ifge {x : Int} {off : Int} (tgt : Nat) (hd : decode M.cc pc = .ok (.ifCond .ge off, 3)) (kt : 0 ≤ x → EV M d tgt L S h Q) (kf : ¬ 0 ≤ x → EV M d (pc + 3) L S h Q) (ht : (pc : Int) + off = (tgt : Int) := by decide) : EV M d pc L (iv x :: S) h Q := by
  by_cases q : 0 ≤ x
  · exact ev_pure (kt q) (fun _ hS _ => SR_t hS) (fun _ hS _ C _ _ k => lv_if_ge C.1 C.2.1 hd ht (fun _ => k) (fun n => absurd ((ofI_le ir_0 (SR_hi hS)).mpr q) n))
  · exact ev_pure (kf q) (fun _ hS _ => SR_t hS) (fun _ hS _ C _ _ k => lv_if_ge C.1 C.2.1 hd ht (fun n => absurd ((ofI_le ir_0 (SR_hi hS)).mp n) q) (fun _ => k))
theorem ev_ifeq {x : Int} {off : Int} (tgt : Nat) (hd : decode M.cc pc = .ok (.ifCond .eq off, 3)) (kt : x = 0 → EV M d tgt L S h Q) (kf : ¬ x = 0 → EV M d (pc + 3) L S h Q) (ht : (pc : Int) + off = (tgt : Int) := by decide) : EV M d pc L (iv x :: S) h Q := by
  by_cases q : x = 0
  · exact ev_pure (kt q) (fun _ hS _ => SR_t hS) (fun _ hS _ C _ _ k => lv_if_eq C.1 C.2.1 hd ht (fun _ => k) (fun n => absurd ((ofI_eq (SR_hi hS) ir_0).mpr q) n))
  · exact ev_pure (kf q) (fun _ hS _ => SR_t hS) (fun _ hS _ C _ _ k => lv_if_eq C.1 C.2.1 hd ht (fun n => absurd ((ofI_eq (SR_hi hS) ir_0).mp n) q) (fun _ => k))
theorem ev_ifne {x : Int} {off : Int} (tgt : Nat) (hd : decode M.cc pc = .ok (.ifCond .ne off, 3)) (kt : ¬ x = 0 → EV M d tgt L S h Q) (kf : x = 0 → EV M d (pc + 3) L S h Q) (ht : (pc : Int) + off = (tgt : Int) := by decide) : EV M d pc L (iv x :: S) h Q := by
  by_cases q : x = 0
  · exact ev_pure (kf q) (fun _ hS _ => SR_t hS) (fun _ hS _ C _ _ k => lv_if_ne C.1 C.2.1 hd ht (fun n => absurd ((ofI_eq (SR_hi hS) ir_0).mpr q) n) (fun _ => k))
  · exact ev_pure (kt q) (fun _ hS _ => SR_t hS) (fun _ hS _ C _ _ k => lv_if_ne C.1 C.2.1 hd ht (fun _ => k) (fun n => absurd ((ofI_eq (SR_hi hS) ir_0).mp n) q))
theorem ev_ifnull {x : Int} {off : Int} (tgt : Nat) (hd : decode M.cc pc = .ok (.ifnull off, 3)) (kt : x < 0 → EV M d tgt L S h Q) (kf : ¬ x < 0 → EV M d (pc + 3) L S h Q) (ht : (pc : Int) + off = (tgt : Int) := by decide) : EV M d pc L (rv x :: S) h Q := by
  by_cases q : x < 0
  · exact ev_pure (kt q) (fun _ hS _ => SR_t hS) (fun _ hS _ C _ _ k => by
      simp only [av_c, if_pos q, List.map_cons]
      exact lv_ifnullN C.1 C.2.1 hd ht k)
  · exact ev_pure (kf q) (fun _ hS _ => SR_t hS) (fun _ hS _ C _ _ k => by
      simp only [av_c, if_neg q, List.map_cons]
      exact lv_ifnull C.1 C.2.1 hd k)
theorem ev_ifnonnull {x : Int} {off : Int} (tgt : Nat) (hd : decode M.cc pc = .ok (.ifnonnull off, 3)) (kt : 0 ≤ x → EV M d tgt L S h Q) (kf : ¬ 0 ≤ x → EV M d (pc + 3) L S h Q) (ht : (pc : Int) + off = (tgt : Int) := by decide) : EV M d pc L (rv x :: S) h Q := by
  by_cases q : 0 ≤ x
  · exact ev_pure (kt q) (fun _ hS _ => SR_t hS) (fun _ hS _ C _ _ k => by
      simp only [av_c, if_neg (show ¬ x < 0 by omega), List.map_cons]
      exact lv_ifnonnull C.1 C.2.1 hd ht k)
  · exact ev_pure (kf q) (fun _ hS _ => SR_t hS) (fun _ hS _ C _ _ k => by
      simp only [av_c, if_pos (show x < 0 by omega), List.map_cons]
      exact lv_ifnonnullN C.1 C.2.1 hd k)
end EvB
