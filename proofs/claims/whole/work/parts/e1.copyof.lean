/-! Arrays.copyOf over ints and bytes, Arrays.fill -/
def cpN (f : Nat → Int) (n : Nat) : Nat → Int := fun j => if j < n then f j else 0
def eCpy (h : AH) (r c N n : Nat) : AH := (h.new (c, n)).row h.n (cpN (h.vl r) (if n < N then n else N))
theorem eCpy_eq {h g : AH} {r c N n m : Nat} {x : Int} (hg : g = h.new (c, n)) (hr : r < h.n) (hc : c = 100 ∨ c = 101) (hx : x = (if (n : Int) < (N : Int) then (n : Int) else (N : Int))) (hm : m = h.n) : g.row m (cpF (g.vl r) (g.vl m) (0 : Int).toNat (0 : Int).toNat x.toNat) = eCpy h r c N n := by
  unfold eCpy
  rw [hm, hg]
  congr 1
  funext j
  have ex : x.toNat = (if n < N then n else N) := by
    rw [hx]
    by_cases z : n < N
    · rw [if_pos (by omega), if_pos z]; rfl
    · rw [if_neg (by omega), if_neg z]; rfl
  rw [ex]
  unfold cpF cpN
  rw [show (0 : Int).toNat = 0 from rfl]
  by_cases z : j < (if n < N then n else N)
  · rw [if_pos ⟨Nat.zero_le _, by omega⟩, if_pos z, AH.new_vl, if_neg (by omega), Nat.zero_add, Nat.sub_zero]
  · rw [if_neg (fun y => z (by omega)), if_neg z, AH.new_vl, if_pos rfl]
    rcases hc with rfl | rfl <;> rfl
set_option maxRecDepth 100000 in
theorem s_copyI {r N n : Nat} {h : AH} (hk : h.kd r = (100, N)) (hn : r < h.n) (hN : N ≤ 400000) (hne : n ≠ N) (hn9 : n ≤ 400000) : CV mJ7_copyOf_59c91 1 [rv r, iv (n : Int)] h (oa fun x h1 => x = (h.n : Int) ∧ h1 = eCpy h r 100 N n) := by
  refine cv_of cdJ7_copyOf_59c91 ?_
  show EV _ _ 0 [rv r, iv (n : Int), uv] [] h _
  refine ev_iload_n dJ7_copyOf_59c91_0 rfl ?_
  refine ev_aload_n dJ7_copyOf_59c91_1 rfl ?_
  refine ev_al dJ7_copyOf_59c91_2 hk hn rfl (by decide) (by omega) ?_
  refine ev_icmpne 14 dJ7_copyOf_59c91_3 (fun hb => ?_) (fun h_no => (by exfalso; omega))
  refine ev_iload_n dJ7_copyOf_59c91_14 rfl ?_
  refine ev_newi dJ7_copyOf_59c91_15 (by omega) (by omega) ?_ q_ai
  rw [show ((n : Int)).toNat = n from rfl]
  obtain ⟨g, hg⟩ : ∃ g, g = h.new (100, n) := ⟨_, rfl⟩
  rw [← hg]
  have kr : g.kd r = (100, N) := by rw [hg, AH.new_kd, if_neg (by omega)]; exact hk
  have nr : r < g.n := by rw [hg, AH.new_n]; omega
  have kn : g.kd h.n = (100, n) := by rw [hg, AH.new_kd, if_pos rfl]
  have nn : h.n < g.n := by rw [hg, AH.new_n]; omega
  refine ev_ast2 dJ7_copyOf_59c91_17 ?_
  refine ev_aload_n dJ7_copyOf_59c91_18 rfl ?_
  refine ev_iconst dJ7_copyOf_59c91_19 ?_
  refine ev_aload_n dJ7_copyOf_59c91_20 rfl ?_
  refine ev_iconst dJ7_copyOf_59c91_21 ?_
  refine ev_aload_n dJ7_copyOf_59c91_22 rfl ?_
  refine ev_al dJ7_copyOf_59c91_23 kr nr rfl (by decide) (by omega) ?_
  refine ev_iload_n dJ7_copyOf_59c91_24 rfl ?_
  refine ev_mmin dJ7_copyOf_59c91_25 q_522 q_523 q_169 q_524 rfl ?_
  refine ev_acpy dJ7_copyOf_59c91_28 q_acl q_acn q_acs q_aci (Or.inl rfl) kr nr rfl kn nn rfl (Int.le_refl 0) (Int.le_refl 0) ?_ ?_ ?_ (fun z => absurd z (by decide)) (Nat.zero_le _) ?_
  · split <;> omega
  · split <;> omega
  · split <;> omega
  rw [eCpy_eq hg hn (Or.inl rfl) rfl rfl]
  refine ev_aload_n dJ7_copyOf_59c91_31 rfl ?_
  exact ev_aret dJ7_copyOf_59c91_32 (⟨_, rfl, rfl, rfl⟩) rfl (Or.inr ⟨_, rfl⟩)
set_option maxRecDepth 100000 in
theorem s_copyB {r N n : Nat} {h : AH} (hk : h.kd r = (101, N)) (hn : r < h.n) (hN : N ≤ 400000) (hne : n ≠ N) (hn9 : n ≤ 400000) (hby : ∀ j, j < N → -128 ≤ h.vl r j ∧ h.vl r j ≤ 127) : CV mJ7_copyOf_9075b 1 [rv r, iv (n : Int)] h (oa fun x h1 => x = (h.n : Int) ∧ h1 = eCpy h r 101 N n) := by
  refine cv_of cdJ7_copyOf_9075b ?_
  show EV _ _ 0 [rv r, iv (n : Int), uv] [] h _
  refine ev_iload_n dJ7_copyOf_9075b_0 rfl ?_
  refine ev_aload_n dJ7_copyOf_9075b_1 rfl ?_
  refine ev_al dJ7_copyOf_9075b_2 hk hn rfl (by decide) (by omega) ?_
  refine ev_icmpne 14 dJ7_copyOf_9075b_3 (fun hb => ?_) (fun h_no => (by exfalso; omega))
  refine ev_iload_n dJ7_copyOf_9075b_14 rfl ?_
  refine ev_newb dJ7_copyOf_9075b_15 (by omega) (by omega) ?_ q_ab
  rw [show ((n : Int)).toNat = n from rfl]
  obtain ⟨g, hg⟩ : ∃ g, g = h.new (101, n) := ⟨_, rfl⟩
  rw [← hg]
  have kr : g.kd r = (101, N) := by rw [hg, AH.new_kd, if_neg (by omega)]; exact hk
  have nr : r < g.n := by rw [hg, AH.new_n]; omega
  have kn : g.kd h.n = (101, n) := by rw [hg, AH.new_kd, if_pos rfl]
  have nn : h.n < g.n := by rw [hg, AH.new_n]; omega
  have vr : g.vl r = h.vl r := by rw [hg]; funext j; rw [AH.new_vl, if_neg (by omega)]
  refine ev_ast2 dJ7_copyOf_9075b_17 ?_
  refine ev_aload_n dJ7_copyOf_9075b_18 rfl ?_
  refine ev_iconst dJ7_copyOf_9075b_19 ?_
  refine ev_aload_n dJ7_copyOf_9075b_20 rfl ?_
  refine ev_iconst dJ7_copyOf_9075b_21 ?_
  refine ev_aload_n dJ7_copyOf_9075b_22 rfl ?_
  refine ev_al dJ7_copyOf_9075b_23 kr nr rfl (by decide) (by omega) ?_
  refine ev_iload_n dJ7_copyOf_9075b_24 rfl ?_
  refine ev_mmin dJ7_copyOf_9075b_25 q_522 q_523 q_169 q_524 rfl ?_
  refine ev_acpy dJ7_copyOf_9075b_28 q_acl q_acn q_acs q_aci (Or.inr rfl) kr nr rfl kn nn rfl (Int.le_refl 0) (Int.le_refl 0) ?_ ?_ ?_ (fun _ i hi => ?_) (Nat.zero_le _) ?_
  · split <;> omega
  · split <;> omega
  · split <;> omega
  · rw [vr]
    refine hby _ ?_
    rw [show (0 : Int).toNat = 0 from rfl]
    split at hi <;> omega
  rw [eCpy_eq hg hn (Or.inr rfl) rfl rfl]
  refine ev_aload_n dJ7_copyOf_9075b_31 rfl ?_
  exact ev_aret dJ7_copyOf_9075b_32 (⟨_, rfl, rfl, rfl⟩) rfl (Or.inr ⟨_, rfl⟩)
set_option maxRecDepth 100000 in
theorem s_fillI {r N : Nat} {x : Int} {h : AH} (hk : h.kd r = (100, N)) (hn : r < h.n) (hN : N ≤ 400000) : CV mJ7_fill_53178 1 [rv r, iv x] h (on fun h1 => h1.n = h.n ∧ h1.kd = h.kd ∧ h1.cs = h.cs ∧ h1.ss = h.ss ∧ (∀ b, b ≠ r → h1.vl b = h.vl b) ∧ ∀ j, j < N → h1.vl r j = x) := by
  have Lp : ∀ (m i : Nat) (g : AH), i + m = N → g.n = h.n → g.kd = h.kd → g.cs = h.cs → g.ss = h.ss → (∀ b, b ≠ r → g.vl b = h.vl b) → (∀ j, j < i → g.vl r j = x) → EV mJ7_fill_53178 1 5 [rv r, iv x, iv (i : Int), iv (N : Int)] [] g (on fun h1 => h1.n = h.n ∧ h1.kd = h.kd ∧ h1.cs = h.cs ∧ h1.ss = h.ss ∧ (∀ b, b ≠ r → h1.vl b = h.vl b) ∧ ∀ j, j < N → h1.vl r j = x) := by
    intro m
    induction m with
    | zero =>
      intro i g hi e1 e2 e3 e4 e5 e6
      obtain rfl : i = N := by omega
      refine ev_iload_n dJ7_fill_53178_5 rfl ?_
      refine ev_iload_n dJ7_fill_53178_6 rfl ?_
      refine ev_icmpge 20 dJ7_fill_53178_7 (fun hb => ?_) (fun h_no => (by exfalso; omega))
      exact ev_vret dJ7_fill_53178_20 (⟨rfl, e1, e2, e3, e4, e5, e6⟩)
    | succ m ih =>
      intro i g hi e1 e2 e3 e4 e5 e6
      have kr : g.kd r = (100, N) := by rw [e2]; exact hk
      have nr : r < g.n := by omega
      refine ev_iload_n dJ7_fill_53178_5 rfl ?_
      refine ev_iload_n dJ7_fill_53178_6 rfl ?_
      refine ev_icmpge 20 dJ7_fill_53178_7 (fun h_no => (by exfalso; omega)) (fun hb => ?_)
      refine ev_aload_n dJ7_fill_53178_10 rfl ?_
      refine ev_iload_n dJ7_fill_53178_11 rfl ?_
      refine ev_iload_n dJ7_fill_53178_12 rfl ?_
      refine ev_istr dJ7_fill_53178_13 kr nr rfl (by omega) (by omega) ?_
      refine ev_iin2 dJ7_fill_53178_14 (by unfold ir; omega) ?_
      refine ev_gt 5 dJ7_fill_53178_17 ?_
      rw [show ((i : Nat) : Int).toNat = i from rfl, show (i : Int) + 1 = ((i + 1 : Nat) : Int) by omega]
      refine ih (i + 1) _ (by omega) e1 e2 e3 e4 (fun b hb => ?_) (fun j hj => ?_)
      · rw [put_ne _ hb]; exact e5 b hb
      · rw [AH.put_vl]
        by_cases z : j = i
        · rw [if_pos ⟨rfl, z⟩]
        · rw [if_neg (fun y => z y.2)]; exact e6 j (by omega)
  refine cv_of cdJ7_fill_53178 ?_
  show EV _ _ 0 [rv r, iv x, uv, uv] [] h _
  refine ev_iconst dJ7_fill_53178_0 ?_
  refine ev_ist2 dJ7_fill_53178_1 ?_
  refine ev_aload_n dJ7_fill_53178_2 rfl ?_
  refine ev_al dJ7_fill_53178_3 hk hn rfl (by decide) (by omega) ?_
  refine ev_ist3 dJ7_fill_53178_4 ?_
  exact Lp N 0 h (by omega) rfl rfl rfl rfl (fun _ _ => rfl) (fun j hj => absurd hj (Nat.not_lt_zero j))
set_option maxRecDepth 100000 in
theorem s_atJ {r N : Nat} {j : Int} {h : AH} (hk : h.kd r = (100, N)) (hn : r < h.n) (hN : N ≤ 400000) : CV mX10_at 1 [rv r, iv j] h (oi fun x h1 => x = (if 0 ≤ j ∧ j < (N : Int) then h.vl r j.toNat else -1) ∧ h1 = h) := by
  refine cv_of cdX10_at ?_
  show EV _ _ 0 [rv r, iv j] [] h _
  by_cases hj : 0 ≤ j ∧ j < (N : Int)
  · skip
    rw [if_pos hj]
    refine ev_iload_n dX10_at_0 rfl ?_
    refine ev_iflt 16 dX10_at_1 (fun h_no => (by exfalso; omega)) (fun hc => ?_)
    refine ev_iload_n dX10_at_4 rfl ?_
    refine ev_aload_n dX10_at_5 rfl ?_
    refine ev_al dX10_at_6 hk hn rfl (by decide) (by omega) ?_
    refine ev_icmpge 16 dX10_at_7 (fun h_no => (by exfalso; omega)) (fun hc2 => ?_)
    refine ev_aload_n dX10_at_10 rfl ?_
    refine ev_iload_n dX10_at_11 rfl ?_
    refine ev_ild dX10_at_12 hk hn rfl (by omega) (by omega) ?_
    refine ev_gt 17 dX10_at_13 ?_
    exact ev_iret dX10_at_17 (⟨_, rfl, rfl, rfl⟩)
  · skip
    rw [if_neg hj]
    refine ev_iload_n dX10_at_0 rfl ?_
    by_cases h0 : j < 0
    · skip
      refine ev_iflt 16 dX10_at_1 (fun hc => ?_) (fun h_no => (by exfalso; omega))
      refine ev_iconst dX10_at_16 ?_
      exact ev_iret dX10_at_17 (⟨_, rfl, rfl, rfl⟩)
    · skip
      refine ev_iflt 16 dX10_at_1 (fun h_no => (by exfalso; omega)) (fun hc => ?_)
      refine ev_iload_n dX10_at_4 rfl ?_
      refine ev_aload_n dX10_at_5 rfl ?_
      refine ev_al dX10_at_6 hk hn rfl (by decide) (by omega) ?_
      refine ev_icmpge 16 dX10_at_7 (fun hc2 => ?_) (fun h_no => (by exfalso; omega))
      refine ev_iconst dX10_at_16 ?_
      exact ev_iret dX10_at_17 (⟨_, rfl, rfl, rfl⟩)
set_option maxRecDepth 100000 in
theorem s_putJ {r N : Nat} {j x : Int} {h : AH} (hk : h.kd r = (100, N)) (hn : r < h.n) (hN : N ≤ 400000) : CV mX10_put 1 [rv r, iv j, iv x] h (on fun h1 => h1 = (if 0 ≤ j ∧ j < (N : Int) then h.put r j.toNat x else h)) := by
  refine cv_of cdX10_put ?_
  show EV _ _ 0 [rv r, iv j, iv x] [] h _
  by_cases hj : 0 ≤ j ∧ j < (N : Int)
  · skip
    rw [if_pos hj]
    refine ev_iload_n dX10_put_0 rfl ?_
    refine ev_iflt 14 dX10_put_1 (fun h_no => (by exfalso; omega)) (fun hc => ?_)
    refine ev_iload_n dX10_put_4 rfl ?_
    refine ev_aload_n dX10_put_5 rfl ?_
    refine ev_al dX10_put_6 hk hn rfl (by decide) (by omega) ?_
    refine ev_icmpge 14 dX10_put_7 (fun h_no => (by exfalso; omega)) (fun hc2 => ?_)
    refine ev_aload_n dX10_put_10 rfl ?_
    refine ev_iload_n dX10_put_11 rfl ?_
    refine ev_iload_n dX10_put_12 rfl ?_
    refine ev_istr dX10_put_13 hk hn rfl (by omega) (by omega) ?_
    exact ev_vret dX10_put_14 (⟨rfl, rfl⟩)
  · skip
    rw [if_neg hj]
    refine ev_iload_n dX10_put_0 rfl ?_
    by_cases h0 : j < 0
    · skip
      refine ev_iflt 14 dX10_put_1 (fun hc => ?_) (fun h_no => (by exfalso; omega))
      exact ev_vret dX10_put_14 (⟨rfl, rfl⟩)
    · skip
      refine ev_iflt 14 dX10_put_1 (fun h_no => (by exfalso; omega)) (fun hc => ?_)
      refine ev_iload_n dX10_put_4 rfl ?_
      refine ev_aload_n dX10_put_5 rfl ?_
      refine ev_al dX10_put_6 hk hn rfl (by decide) (by omega) ?_
      refine ev_icmpge 14 dX10_put_7 (fun hc2 => ?_) (fun h_no => (by exfalso; omega))
      exact ev_vret dX10_put_14 (⟨rfl, rfl⟩)
