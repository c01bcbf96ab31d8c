/-! two types in the second row: are they the same? -/
theorem ian_b {x y : Int} (hx : x = 0 ∨ x = 1) (hy : y = 0 ∨ y = 1) : (ian x y = 0 ∨ ian x y = 1) ∧ (ian x y = 1 ↔ x = 1 ∧ y = 1) := by
  rcases hx with rfl | rfl <;> rcases hy with rfl | rfl <;> decide
def SmP (v : Nat → Int) (k m i : Nat) : Prop := ∀ j, j < i → v (k + j) = v (m + j)
theorem SmP.st {v : Nat → Int} {k m i : Nat} : SmP v k m (i + 1) ↔ SmP v k m i ∧ v (k + i) = v (m + i) := by
  constructor
  · exact fun h => ⟨fun j hj => h j (by omega), h i (by omega)⟩
  · rintro ⟨h1, h2⟩ j hj
    by_cases z : j = i
    · rw [z]; exact h2
    · exact h1 j (by omega)
set_option maxRecDepth 100000 in
theorem sm_loop {h : AH} {k m f : Nat} (hI : RI h) (hk : k + f ≤ 209) (hm : m + f ≤ 209) : ∀ (n i : Nat) (b : Int), i + n = f → (b = 0 ∨ b = 1) → (b = 1 ↔ SmP (h.vl 80) k m i) → EV mX11_isSame 2 27 [rv 42, iv (k : Int), iv (m : Int), iv (f : Int), iv b, iv (i : Int)] [] h (oi fun x h1 => (x = 0 ∨ x = 1) ∧ (x = 1 ↔ SmP (h.vl 80) k m f) ∧ h1 = h)
  | 0, i, b, hi, hb, hs => by
    obtain rfl : i = f := by omega
    refine ev_iload dX11_isSame_27 rfl ?_
    refine ev_iload_n dX11_isSame_29 rfl ?_
    refine ev_icmpge 70 dX11_isSame_30 (fun hc => ?_) (fun h_no => (by exfalso; omega))
    refine ev_iload dX11_isSame_70 rfl ?_
    exact ev_zret dX11_isSame_72 (⟨_, rfl, hb, hs, rfl⟩) (by omega)
  | n + 1, i, b, hi, hb, hs => by
    have p61 : ∀ y : Int, (y = 0 ∨ y = 1) → (y = 1 ↔ h.vl 80 (k + i) = h.vl 80 (m + i)) → EV mX11_isSame 2 61 [rv 42, iv (k : Int), iv (m : Int), iv (f : Int), iv b, iv (i : Int)] [iv y, iv b] h (oi fun x h1 => (x = 0 ∨ x = 1) ∧ (x = 1 ↔ SmP (h.vl 80) k m f) ∧ h1 = h) := by
      intro y hy hy2
      obtain ⟨a1, a2⟩ := ian_b hb hy
      refine ev_iand dX11_isSame_61 ?_
      refine ev_ist4 dX11_isSame_62 ?_
      refine ev_iin5 dX11_isSame_64 (by unfold ir; omega) ?_
      refine ev_gt 27 dX11_isSame_67 ?_
      rw [show (i : Int) + 1 = ((i + 1 : Nat) : Int) by omega]
      exact sm_loop hI hk hm n (i + 1) _ (by omega) a1 (by rw [a2, hs, hy2, SmP.st])
    obtain ⟨x1, e1⟩ : ∃ x1, h.vl 80 (k + i) = x1 := ⟨_, rfl⟩
    obtain ⟨x2, e2⟩ : ∃ x2, h.vl 80 (m + i) = x2 := ⟨_, rfl⟩
    rw [e1, e2] at p61
    refine ev_iload dX11_isSame_27 rfl ?_
    refine ev_iload_n dX11_isSame_29 rfl ?_
    refine ev_icmpge 70 dX11_isSame_30 (fun h_no => (by exfalso; omega)) (fun hc => ?_)
    refine ev_iload dX11_isSame_33 rfl ?_
    refine ev_aload_n dX11_isSame_35 rfl ?_
    refine ev_getrv dX11_isSame_36 fX11_125 hI.o hI.n rfl hI.v_two ?_
    refine ev_iload_n dX11_isSame_39 rfl ?_
    refine ev_iload dX11_isSame_40 rfl ?_
    refine ev_iadd dX11_isSame_42 (by unfold ir; omega) ?_
    rw [show (k : Int) + (i : Int) = ((k + i : Nat) : Int) by omega]
    refine ev_ildv dX11_isSame_43 hI.k_two hI.n_two rfl (by omega) (by omega) e1 ?_
    refine ev_aload_n dX11_isSame_44 rfl ?_
    refine ev_getrv dX11_isSame_45 fX11_125 hI.o hI.n rfl hI.v_two ?_
    refine ev_iload_n dX11_isSame_48 rfl ?_
    refine ev_iload dX11_isSame_49 rfl ?_
    refine ev_iadd dX11_isSame_51 (by unfold ir; omega) ?_
    rw [show (m : Int) + (i : Int) = ((m + i : Nat) : Int) by omega]
    refine ev_ildv dX11_isSame_52 hI.k_two hI.n_two rfl (by omega) (by omega) e2 ?_
    by_cases c : x1 = x2
    · skip
      refine ev_icmpne 60 dX11_isSame_53 (fun h_no => (by exfalso; omega)) (fun hd => ?_)
      refine ev_iconst dX11_isSame_56 ?_
      refine ev_gt 61 dX11_isSame_57 ?_
      exact p61 1 (Or.inr rfl) ⟨fun _ => c, fun _ => rfl⟩
    refine ev_icmpne 60 dX11_isSame_53 (fun hd => ?_) (fun h_no => (by exfalso; omega))
    refine ev_iconst dX11_isSame_60 ?_
    exact p61 0 (Or.inl rfl) ⟨fun z => absurd z (by decide), fun z => absurd z c⟩
theorem rows_eq {v : Nat → Int} {k m : Nat} {r s : List Int} (hr : RwA v k r) (hs : RwA v m s) (hl : r.length = s.length) : SmP v k m r.length ↔ r = s := by
  constructor
  · intro h
    refine List.ext_getElem hl fun i h1 h2 => ?_
    rw [← hr i h1, ← hs i h2]
    exact h i h1
  · intro e j hj
    subst e
    rw [hr j hj, hs j hj]
set_option maxRecDepth 100000 in
theorem s_isSame {h : AH} {A B : TE} {s s' : List Nat} {k m : Nat} (hI : RI h) (hr : RwA (h.vl 80) k (cnT A s).1) (hr' : RwA (h.vl 80) m (cnT B s').1) (hk : k + sz A ≤ 209) (hm : m + sz B ≤ 209) : CV mX11_isSame 2 [rv 42, iv (k : Int), iv (m : Int)] h (oi fun x h1 => (x = 0 ∨ x = 1) ∧ (x = 1 ↔ (cnT A s).1 = (cnT B s').1) ∧ h1 = h) := by
  refine cv_of cdX11_isSame ?_
  show EV _ _ 0 [rv 42, iv (k : Int), iv (m : Int), uv, uv, uv] [] h _
  refine ev_aload_n dX11_isSame_0 rfl ?_
  refine ev_iload_n dX11_isSame_1 rfl ?_
  refine ev_cvi dX11_isSame_2 lX11_406 (s_endOf (T := A) (s := s) (k := k) hI hr hk) (by decide) hI.o hI.n rfl rfl rfl (Nat.le_of_ble_eq_true rfl) rfl (fun r z1 q => ?_)
  obtain ⟨rfl, e1⟩ := q
  rw [e1]
  refine ev_iload_n dX11_isSame_5 rfl ?_
  refine ev_isub dX11_isSame_6 (by unfold ir; omega) ?_
  refine ev_ist3 dX11_isSame_7 ?_
  rw [show ((k + sz A : Nat) : Int) - (k : Int) = (sz A : Int) by omega]
  refine ev_aload_n dX11_isSame_8 rfl ?_
  refine ev_iload_n dX11_isSame_9 rfl ?_
  refine ev_cvi dX11_isSame_10 lX11_406 (s_endOf (T := B) (s := s') (k := m) hI hr' hm) (by decide) hI.o hI.n rfl rfl rfl (Nat.le_of_ble_eq_true rfl) rfl (fun r z1 q => ?_)
  obtain ⟨rfl, e2⟩ := q
  rw [e2]
  refine ev_iload_n dX11_isSame_13 rfl ?_
  refine ev_isub dX11_isSame_14 (by unfold ir; omega) ?_
  refine ev_iload_n dX11_isSame_15 rfl ?_
  by_cases c : sz B = sz A
  · skip
    refine ev_icmpeq 21 dX11_isSame_16 (fun hb => ?_) (fun h_no => (by exfalso; omega))
    refine ev_iconst dX11_isSame_21 ?_
    refine ev_ist4 dX11_isSame_22 ?_
    refine ev_iconst dX11_isSame_24 ?_
    refine ev_ist5 dX11_isSame_25 ?_
    refine ev_mono (sm_loop hI hk (by omega) (sz A) 0 1 (by omega) (Or.inr rfl) ⟨fun _ j hj => absurd hj (Nat.not_lt_zero _), fun _ => rfl⟩) fun o h1 q => ?_
    obtain ⟨x, rfl, q1, q2, q3⟩ := q
    refine ⟨x, rfl, q1, ?_, q3⟩
    have := rows_eq hr hr' (by rw [cn_len, cn_len, c])
    rw [cn_len] at this
    rw [q2, this]
  refine ev_icmpeq 21 dX11_isSame_16 (fun h_no => (by exfalso; omega)) (fun hb => ?_)
  refine ev_iconst dX11_isSame_19 ?_
  exact ev_zret dX11_isSame_20 (⟨_, rfl, Or.inl rfl, ⟨fun z => absurd z (by decide), fun z => absurd (by rw [← cn_len A s, ← cn_len B s', z]) c⟩, rfl⟩) (by omega)
