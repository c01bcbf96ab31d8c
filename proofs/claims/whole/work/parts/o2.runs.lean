/-! the class runs orders -/
section Rns
variable {v0 bv sv : Nat → Int} {isS : Int} {c : Nat} {pv : Nat → Nat → Int} {w d cw cd : Int} {X1 X3 : List Int} {Q : AV → AH → Prop}
set_option maxRecDepth 100000 in
theorem run_loop : ∀ (t i k kk : Nat) (h : AH) (a K : Nat → Nat) (v : Nat → Int) (b1 N1 b3 N3 : Nat) (an : Int) (u4 u5 : AV), JC h a K v v0 isS sv c pv w d cw cd X1 X3 b1 N1 b3 N3 → 0 ≤ an → (-2147483648 ≤ v 2 ∧ v 2 + (t : Int) + 1 ≤ 2147483647) → X1.length ≤ i + t → k ≤ 100 + i → (io (cX X1) X1.length i).1 = true → (ao (cX X1) X1.length t (io (cX X1) X1.length i).2 kk).1 = true →
    (∀ (h1 : AH) (a1 K1 : Nat → Nat) (v' : Nat → Int) (det : Int) (m : Nat) (b M b' M' : Nat) (an i1 : Int) (u4 u5 : AV), runR (cX X1) X1.length (t + 1) i k v 0 det m v' → JC h1 a1 K1 v' v0 isS sv c pv w d cw cd X1 X3 b M b' M' → FrJ h K N1 N3 h1 K1 M M' (X1.length + 1 - i) (9 * (X1.length + 1 - i)) → 0 ≤ an → EV mX10_run 13 182 [rv 0, iv ((m : Int) + 1), iv an, iv i1, u4, u5] [] h1 Q) →
    (∀ (h1 : AH) (a1 K1 : Nat → Nat) (v' : Nat → Int) (why det : Int) (m : Nat) (b M b' M' : Nat) (i1 : Int) (u4 u5 : AV), why ≠ 0 → runR (cX X1) X1.length (t + 1) i k v why det m v' → JC h1 a1 K1 v' v0 isS sv c pv why det 0 0 X1 X3 b M b' M' → FrJ h K N1 N3 h1 K1 M M' (X1.length + 1 - i) (9 * (X1.length + 1 - i)) → EV mX10_run 13 182 [rv 0, iv (m : Int), iv (-1), iv i1, u4, u5] [] h1 Q) →
    EV mX10_run 13 53 [rv 0, iv (k : Int), iv an, iv (i : Int), u4, u5] [] h Q := by
  intro t
  induction t with
  | zero =>
    intro i k kk h a K v b1 N1 b3 N3 an u4 u5 j han hv2 hit hk1 hio hao ok bad
    rcases io_in hio with z | z | z <;> omega
  | succ t ih =>
    intro i k kk h a K v b1 N1 b3 N3 an u4 u5 j han hv2 hit hk1 hio hao ok bad
    obtain ⟨C, hCX⟩ : ∃ C : Nat → Int, C = cX X1 := ⟨_, rfl⟩
    obtain ⟨n, hn⟩ : ∃ n, n = X1.length := ⟨_, rfl⟩
    have hC := j.1.1.1
    have tx := j.tx
    rw [← hCX, ← hn] at hio hao tx
    simp only [← hCX, ← hn] at ok bad
    rw [← hn] at hit
    have n60 : n ≤ 60 := tx.2.1
    have inn := io_in hio
    have il : i + 1 < n := by rcases inn with z | z | z <;> omega
    have nxi : ∀ x, x < n → nxt2 C n x = C x := fun x hx => if_pos hx
    have cr : ∀ x, x < n → 0 ≤ C x ∧ C x ≤ 127 := tx.2.2
    obtain ⟨N, LL, kp, hv, hs⟩ := j.2.1.1
    obtain ⟨len, hlen⟩ : ∃ len : Nat, len = (if C i = 107 then 3 else 2) := ⟨_, rfl⟩
    have io2 : (io C n i).2 = i + len := by
      rw [hlen]
      rcases inn with z | z | z
      · rw [if_pos z.1]; exact z.2.2
      · rw [if_neg (by omega)]; exact z.2.2
      · rw [if_neg (by omega)]; exact z.2.2
    have len3 : len = 2 ∨ len = 3 := by rw [hlen]; split <;> omega
    have iol : (io C n i).2 ≤ n := by rcases inn with z | z | z <;> omega
    -- behind an order
    have fin : ∀ (h1 : AH) (a1 K1 : Nat → Nat) (v1 : Nat → Int) (w1 d1 cw1 cd1 : Int) (b M b' M' : Nat) (ans : Int), JC h1 a1 K1 v1 v0 isS sv c pv w1 d1 cw1 cd1 X1 X3 b M b' M' →
        (∀ (u4 u5 : AV), EV mX10_run 13 53 [rv 0, iv ((k : Int) + (if ans < 0 then 0 else 1)), iv ans, iv ((i + len + 1 : Nat) : Int), u4, u5] [] h1 Q) → EV mX10_run 13 150 [rv 0, iv (k : Int), iv an, iv (i : Int), iv (C i), iv (C (i + 1))] [iv ans] h1 Q := by
      intro h1 a1 K1 v1 w1 d1 cw1 cd1 b M b' M' ans j1 kk1
      have hC1 := j1.1.1.1
      have tx1 := j1.tx
      rw [← hCX, ← hn] at tx1
      have go2 : ∀ z : Int, z = (k : Int) + (if ans < 0 then 0 else 1) → EV mX10_run 13 163 [rv 0, iv z, iv ans, iv (i : Int), iv (C i), iv (C (i + 1))] [] h1 Q := by
        intro z hz
        refine ev_iload_n dX10_run_163 rfl ?_
        refine ev_aload_n dX10_run_164 rfl ?_
        refine ev_getrv dX10_run_165 fX10_12 hC1.k0 hC1.n0 rfl hC1.v0_0 ?_
        refine ev_iload_n dX10_run_168 rfl ?_
        refine ev_csi dX10_run_169 lX10_250 (s_signAt hC1 tx1) (by decide) rfl rfl (Nat.le_of_ble_eq_true rfl) rfl (fun r h2 q => ?_)
        obtain ⟨er, e⟩ := q
        rw [e, er, if_pos (by omega), show ((i : Nat) : Int).toNat = i from rfl]
        refine ev_csi dX10_run_172 lX10_254 (s_lenOf) (by decide) rfl rfl (Nat.le_of_ble_eq_true rfl) rfl (fun r h2 q => ?_)
        obtain ⟨er, e⟩ := q
        have el : r = (len : Int) := by rw [er, hlen]; split <;> rfl
        rw [e, el]
        refine ev_iconst dX10_run_175 ?_
        refine ev_iadd dX10_run_176 (by unfold ir; omega) ?_
        refine ev_iadd dX10_run_177 (by unfold ir; omega) ?_
        refine ev_ist3 dX10_run_178 ?_
        refine ev_gt 53 dX10_run_179 ?_
        rw [hz, show (i : Int) + ((len : Int) + 1) = ((i + len + 1 : Nat) : Int) by omega]
        exact kk1 _ _
      refine ev_ist2 dX10_run_150 ?_
      refine ev_iload_n dX10_run_151 rfl ?_
      refine ev_iload_n dX10_run_152 rfl ?_
      by_cases an0 : ans < 0
      · skip
        refine ev_ifge 160 dX10_run_153 (fun h_no => (by exfalso; omega)) (fun hb => ?_)
        refine ev_iconst dX10_run_156 ?_
        refine ev_gt 161 dX10_run_157 ?_
        refine ev_iadd dX10_run_161 (by unfold ir; omega) ?_
        refine ev_ist1 dX10_run_162 ?_
        exact go2 _ (by rw [if_pos an0])
      refine ev_ifge 160 dX10_run_153 (fun hb => ?_) (fun h_no => (by exfalso; omega))
      refine ev_iconst dX10_run_160 ?_
      refine ev_iadd dX10_run_161 (by unfold ir; omega) ?_
      refine ev_ist1 dX10_run_162 ?_
      exact go2 _ (by rw [if_neg an0])
    have run1 : ∀ (why det : Int) (m : Nat) (v1 v' : Nat → Int), odR v (C i) (oD C n i) (oC C n i) why det v1 → ((why ≠ 0 ∧ m = k ∧ v' = v1) ∨ (why = 0 ∧ ¬ (i + len) < n ∧ m = k ∧ v' = v1)) → runR C n (t + 2) i k v why det m v' := fun why det m v1 v' ho hz => by
      refine ⟨why, det, v1, by rw [nxi i (by omega)]; exact ho, ?_⟩
      rcases hz with ⟨z1, z2, z3⟩ | ⟨z0, z1, z2, z3⟩
      · exact Or.inl ⟨z1, rfl, rfl, z2, z3⟩
      · exact Or.inr ⟨z0, Or.inr ⟨by rw [io2]; exact z1, z0, z2, z3⟩⟩
    have finO : ∀ (h1 : AH) (a1 K1 : Nat → Nat) (v1 : Nat → Int) (b M b' M' : Nat) (ans det : Int), 0 ≤ ans → odR v (C i) (oD C n i) (oC C n i) 0 det v1 → (v 2 ≤ v1 2 ∧ v1 2 ≤ v 2 + 1) → JC h1 a1 K1 v1 v0 isS sv c pv w d cw cd X1 X3 b M b' M' → FrJ h K N1 N3 h1 K1 M M' 2 26 → EV mX10_run 13 150 [rv 0, iv (k : Int), iv an, iv (i : Int), iv (C i), iv (C (i + 1))] [iv ans] h1 Q := by
      intro h1 a1 K1 v1 b M b' M' ans det h0 ho hv12 j1 f1
      refine fin h1 a1 K1 v1 w d cw cd b M b' M' ans j1 (fun u4 u5 => ?_)
      rw [if_neg (by omega), show (k : Int) + 1 = ((k + 1 : Nat) : Int) by omega]
      by_cases z : i + len < n
      · rw [io2, ao, if_pos z] at hao
        by_cases z1 : C (i + len) = 59
        rotate_left
        · rw [if_neg z1] at hao; exact Bool.noConfusion (show false = true from hao)
        rw [if_pos z1] at hao
        by_cases z2 : (io C n (i + len + 1)).1 = true
        rotate_left
        · rw [if_neg z2] at hao; exact Bool.noConfusion (show false = true from hao)
        rw [if_pos z2] at hao
        have rs : ∀ (why det : Int) (m : Nat) (v' : Nat → Int), runR C n (t + 1) (i + len + 1) (k + 1) v1 why det m v' → runR C n (t + 2) i k v why det m v' := fun why det' m v' hr => ⟨0, det, v1, by rw [nxi i (by omega)]; exact ho, Or.inr ⟨rfl, Or.inl ⟨by rw [io2]; exact z, by rw [io2]; exact hr⟩⟩⟩
        refine ih (i + len + 1) (k + 1) (kk + 1) h1 a1 K1 v1 b M b' M' ans u4 u5 j1 h0 ⟨by omega, by omega⟩ (by omega) (by omega) (by rw [← hCX, ← hn]; exact z2) (by rw [← hCX, ← hn]; exact hao) (fun h2 a2 K2 v' det' m b2 M2 b4 M4 an' i1 u4 u5 r2 j2 f2 a0 => ?_) (fun h2 a2 K2 v' why det' m b2 M2 b4 M4 i1 u4 u5 w0 r2 j2 f2 => ?_)
        · rw [← hCX, ← hn] at r2
          rw [← hn] at f2
          exact ok h2 a2 K2 v' det' m b2 M2 b4 M4 an' i1 u4 u5 (rs _ _ _ _ r2) j2 ((f1.tr f2).wk (by omega) (by omega)) a0
        · rw [← hCX, ← hn] at r2
          rw [← hn] at f2
          exact bad h2 a2 K2 v' why det' m b2 M2 b4 M4 i1 u4 u5 w0 (rs _ _ _ _ r2) j2 ((f1.tr f2).wk (by omega) (by omega))
      · have hC1 := j1.1.1.1
        have ts1 := j1.2.2.2.2.1.1.1
        refine ev_iload_n dX10_run_53 rfl ?_
        refine ev_aload_n dX10_run_54 rfl ?_
        refine ev_getrv dX10_run_55 fX10_12 hC1.k0 hC1.n0 rfl hC1.v0_0 ?_
        refine ev_cvi dX10_run_58 lX10_236 (s_J4len ts1) (by decide) hC1.k1 hC1.n1 rfl rfl rfl (Nat.le_of_ble_eq_true rfl) rfl (fun r h2 q => ?_)
        obtain ⟨er, e⟩ := q
        rw [e, er, ← hn]
        refine ev_icmpge 182 dX10_run_61 (fun hb => ?_) (fun h_no => (by exfalso; omega))
        rw [show ((k + 1 : Nat) : Int) = (k : Int) + 1 by omega]
        exact ok h1 a1 K1 v1 det k b M b' M' ans _ u4 u5 (run1 0 det k v1 v1 ho (Or.inr ⟨rfl, z, rfl, rfl⟩)) j1 (f1.wk (by omega) (by omega)) h0
    have finB : ∀ (h1 : AH) (a1 K1 : Nat → Nat) (b M b' M' : Nat) (why det : Int), why ≠ 0 → odR v (C i) (oD C n i) (oC C n i) why det v → JC h1 a1 K1 v v0 isS sv c pv why det 0 0 X1 X3 b M b' M' → FrJ h K N1 N3 h1 K1 M M' 2 26 → EV mX10_run 13 150 [rv 0, iv (k : Int), iv an, iv (i : Int), iv (C i), iv (C (i + 1))] [iv (-1)] h1 Q := by
      intro h1 a1 K1 b M b' M' why det w0 ho j1 f1
      refine fin h1 a1 K1 v why det 0 0 b M b' M' (-1) j1 (fun u4 u5 => ?_)
      rw [if_pos (by decide), Int.add_zero]
      have hC1 := j1.1.1.1
      have ts1 := j1.2.2.2.2.1.1.1
      have K9 := bad h1 a1 K1 v why det k b M b' M' ((i + len + 1 : Nat) : Int) u4 u5 w0 (run1 why det k v v ho (Or.inl ⟨w0, rfl, rfl⟩)) j1 (f1.wk (by omega) (by omega))
      refine ev_iload_n dX10_run_53 rfl ?_
      refine ev_aload_n dX10_run_54 rfl ?_
      refine ev_getrv dX10_run_55 fX10_12 hC1.k0 hC1.n0 rfl hC1.v0_0 ?_
      refine ev_cvi dX10_run_58 lX10_236 (s_J4len ts1) (by decide) hC1.k1 hC1.n1 rfl rfl rfl (Nat.le_of_ble_eq_true rfl) rfl (fun r h2 q => ?_)
      obtain ⟨er, e⟩ := q
      rw [e, er, ← hn]
      by_cases z : n ≤ i + len + 1
      · skip
        refine ev_icmpge 182 dX10_run_61 (fun hb => ?_) (fun h_no => (by exfalso; omega))
        exact K9
      refine ev_icmpge 182 dX10_run_61 (fun h_no => (by exfalso; omega)) (fun hb => ?_)
      refine ev_iload_n dX10_run_64 rfl ?_
      refine ev_iflt 182 dX10_run_65 (fun hb2 => ?_) (fun h_no => (by exfalso; omega))
      exact K9
    have r1 := cr (i + 1) il
    have ts := j.2.2.2.2.1.1.1
    refine ev_iload_n dX10_run_53 rfl ?_
    refine ev_aload_n dX10_run_54 rfl ?_
    refine ev_getrv dX10_run_55 fX10_12 hC.k0 hC.n0 rfl hC.v0_0 ?_
    refine ev_cvi dX10_run_58 lX10_236 (s_J4len ts) (by decide) hC.k1 hC.n1 rfl rfl rfl (Nat.le_of_ble_eq_true rfl) rfl (fun r h2 q => ?_)
    obtain ⟨er, e⟩ := q
    rw [e, er, ← hn]
    refine ev_icmpge 182 dX10_run_61 (fun h_no => (by exfalso; omega)) (fun hb => ?_)
    refine ev_iload_n dX10_run_64 rfl ?_
    refine ev_iflt 182 dX10_run_65 (fun h_no => (by exfalso; omega)) (fun hb2 => ?_)
    refine ev_aload_n dX10_run_68 rfl ?_
    refine ev_getrv dX10_run_69 fX10_12 hC.k0 hC.n0 rfl hC.v0_0 ?_
    refine ev_iload_n dX10_run_72 rfl ?_
    refine ev_csi dX10_run_73 lX10_250 (s_signAt hC tx) (by decide) rfl rfl (Nat.le_of_ble_eq_true rfl) rfl (fun r h2 q => ?_)
    obtain ⟨er, e⟩ := q
    rw [e, er, if_pos (by omega), show ((i : Nat) : Int).toNat = i from rfl]
    refine ev_ist4 dX10_run_76 ?_
    refine ev_aload_n dX10_run_78 rfl ?_
    refine ev_getrv dX10_run_79 fX10_12 hC.k0 hC.n0 rfl hC.v0_0 ?_
    refine ev_iload_n dX10_run_82 rfl ?_
    refine ev_iconst dX10_run_83 ?_
    refine ev_iadd dX10_run_84 (by unfold ir; omega) ?_
    refine ev_csi dX10_run_85 lX10_250 (s_signAt hC tx) (by decide) rfl rfl (Nat.le_of_ble_eq_true rfl) rfl (fun r h2 q => ?_)
    obtain ⟨er, e⟩ := q
    rw [e, er, if_pos (by omega), show ((i : Nat) : Int) + 1 = ((i + 1 : Nat) : Int) by omega, show ((i + 1 : Nat) : Int).toNat = i + 1 from rfl]
    refine ev_ist5 dX10_run_88 ?_
    refine ev_iload dX10_run_90 rfl ?_
    refine ev_bipush dX10_run_92 ?_
    obtain ⟨ci, hci⟩ : ∃ ci, ci = C i := ⟨_, rfl⟩
    rcases inn with ⟨z1, z2, z3⟩ | ⟨z1, z2, z3⟩ | ⟨z1, z2, z3⟩
    · skip
      have eD : oD C n i = C (i + 1) - 48 := by unfold oD; rw [nxi i (by omega), if_neg (by omega), nxi (i + 1) (by omega)]
      have r2 := cr (i + 2) (by omega)
      have eC : oC C n i = C (i + 2) - 65 := by unfold oC io1; rw [nxi i (by omega), if_neg (by omega), if_neg (by omega), nxi (i + 2) (by omega)]
      refine ev_icmpne 122 dX10_run_94 (fun h_no => (by exfalso; omega)) (fun hb3 => ?_)
      refine ev_aload_n dX10_run_97 rfl ?_
      refine ev_iload dX10_run_98 rfl ?_
      refine ev_bipush dX10_run_100 ?_
      refine ev_isub dX10_run_102 (by unfold ir; omega) ?_
      refine ev_aload_n dX10_run_103 rfl ?_
      refine ev_getrv dX10_run_104 fX10_12 hC.k0 hC.n0 rfl hC.v0_0 ?_
      refine ev_iload_n dX10_run_107 rfl ?_
      refine ev_iconst dX10_run_108 ?_
      refine ev_iadd dX10_run_109 (by unfold ir; omega) ?_
      refine ev_csi dX10_run_110 lX10_250 (s_signAt hC tx) (by decide) rfl rfl (Nat.le_of_ble_eq_true rfl) rfl (fun r h2 q => ?_)
      obtain ⟨er, e⟩ := q
      rw [e, er, if_pos (by omega), show ((i : Nat) : Int) + 2 = ((i + 2 : Nat) : Int) by omega, show ((i + 2 : Nat) : Int).toNat = i + 2 from rfl]
      refine ev_bipush dX10_run_113 ?_
      refine ev_isub dX10_run_115 (by unfold ir; omega) ?_
      rw [← eD, ← eC]
      refine ev_cvi dX10_run_116 lX10_116 (s_keepL (p := oD C n i) (q9 := oC C n i) j hv hs ⟨by omega, by omega⟩) (by decide) hC.k0 hC.n0 rfl rfl rfl (Nat.le_of_ble_eq_true rfl) rfl (fun r h2 q => ?_)
      rcases q with ⟨w', d', q1, q2, a2, K2, b2, M2, b4, M4, f2, j2⟩ | ⟨T, q1, q0, q2, a2, K2, b2, M2, b4, M4, f2, j2⟩
      · rw [q2]
        refine ev_gt 150 dX10_run_119 ?_
        exact finB h2 a2 K2 b2 M2 b4 M4 w' d' (keN_ne q1) ⟨N, LL, kp, hv, Or.inl ⟨z1, Or.inl ⟨q1, rfl⟩⟩⟩ j2 (f2.wk (by omega) (by omega))
      · skip
        refine ev_gt 150 dX10_run_119 ?_
        refine finO h2 a2 K2 _ b2 M2 b4 M4 r 0 q0 ⟨N, LL, kp, hv, Or.inl ⟨z1, Or.inr ⟨T, q1, rfl, rfl⟩⟩⟩ ?_ j2 (f2.wk (by omega) (by omega))
        unfold keV
        rw [if_pos rfl]
        omega
    · skip
      have eC : oC C n i = C (i + 1) - 65 := by unfold oC io1; rw [nxi i (by omega), if_neg (by omega), if_pos (by omega), nxi (i + 1) (by omega)]
      refine ev_icmpne 122 dX10_run_94 (fun hb3 => ?_) (fun h_no => (by exfalso; omega))
      refine ev_iload dX10_run_122 rfl ?_
      refine ev_bipush dX10_run_124 ?_
      refine ev_icmpne 141 dX10_run_126 (fun h_no => (by exfalso; omega)) (fun hb4 => ?_)
      refine ev_aload_n dX10_run_129 rfl ?_
      refine ev_iload dX10_run_130 rfl ?_
      refine ev_bipush dX10_run_132 ?_
      refine ev_isub dX10_run_134 (by unfold ir; omega) ?_
      rw [← eC]
      refine ev_cvi dX10_run_135 lX10_121 (s_unkeepL (p := oC C n i) j hv hs) (by decide) hC.k0 hC.n0 rfl rfl rfl (Nat.le_of_ble_eq_true rfl) rfl (fun r h2 q => ?_)
      have uk2 : ∀ x, ukV v x 2 = v 2 := fun x => by unfold ukV; rw [if_neg (by omega)]
      rcases q with ⟨q1, q2, a2, K2, b2, M2, b4, M4, f2, j2⟩ | ⟨q1, q0, q2, a2, K2, b2, M2, b4, M4, f2, j2⟩ | ⟨q1, q0, q00, q2, a2, K2, b2, M2, b4, M4, f2, j2⟩
      · rw [q2]
        refine ev_gt 150 dX10_run_138 ?_
        exact finB h2 a2 K2 b2 M2 b4 M4 8 _ (by decide) ⟨N, LL, kp, hv, Or.inr (Or.inl ⟨z1, Or.inl ⟨q1, rfl, rfl, rfl⟩⟩)⟩ j2 (f2.wk (by omega) (by omega))
      · rw [q2]
        refine ev_gt 150 dX10_run_138 ?_
        exact finB h2 a2 K2 b2 M2 b4 M4 6 _ (by decide) ⟨N, LL, kp, hv, Or.inr (Or.inl ⟨z1, Or.inr (Or.inl ⟨q1, q0, rfl, rfl, rfl⟩)⟩)⟩ j2 (f2.wk (by omega) (by omega))
      · skip
        refine ev_gt 150 dX10_run_138 ?_
        exact finO h2 a2 K2 _ b2 M2 b4 M4 r 0 q00 ⟨N, LL, kp, hv, Or.inr (Or.inl ⟨z1, Or.inr (Or.inr ⟨q1, q0, rfl, rfl⟩)⟩)⟩ (by rw [uk2]; omega) j2 (f2.wk (by omega) (by omega))
    have eD : oD C n i = C (i + 1) - 48 := by unfold oD; rw [nxi i (by omega), if_neg (by omega), nxi (i + 1) (by omega)]
    refine ev_icmpne 122 dX10_run_94 (fun hb3 => ?_) (fun h_no => (by exfalso; omega))
    refine ev_iload dX10_run_122 rfl ?_
    refine ev_bipush dX10_run_124 ?_
    refine ev_icmpne 141 dX10_run_126 (fun hb4 => ?_) (fun h_no => (by exfalso; omega))
    refine ev_aload_n dX10_run_141 rfl ?_
    refine ev_iload dX10_run_142 rfl ?_
    refine ev_bipush dX10_run_144 ?_
    refine ev_isub dX10_run_146 (by unfold ir; omega) ?_
    rw [← eD]
    refine ev_cvi dX10_run_147 lX10_110 (s_dropL (p := oD C n i) j hv hs) (by decide) hC.k0 hC.n0 rfl rfl rfl (Nat.le_of_ble_eq_true rfl) rfl (fun r h2 q => ?_)
    have dr2 : ∀ x, drV v x N 2 = v 2 := fun x => by unfold drV; rw [if_neg (by decide), if_neg (by omega), if_neg (by omega)]
    rcases q with ⟨q1, q2, a2, K2, b2, M2, b4, M4, f2, j2⟩ | ⟨q1, q2, a2, K2, b2, M2, b4, M4, f2, j2⟩
    · rw [q2]
      exact finB h2 a2 K2 b2 M2 b4 M4 2 _ (by decide) ⟨N, LL, kp, hv, Or.inr (Or.inr ⟨by omega, by omega, Or.inl ⟨q1, rfl, rfl, rfl⟩⟩)⟩ j2 (f2.wk (by omega) (by omega))
    · skip
      exact finO h2 a2 K2 _ b2 M2 b4 M4 r 0 (by omega) ⟨N, LL, kp, hv, Or.inr (Or.inr ⟨by omega, by omega, Or.inr ⟨q1, rfl, rfl⟩⟩)⟩ (by rw [dr2]; omega) j2 (f2.wk (by omega) (by omega))
end Rns
