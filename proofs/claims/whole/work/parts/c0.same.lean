/-! two types in the second row: are they the same? -/
theorem ian_b {x y : Int} (hx : x = 0 ∨ x = 1) (hy : y = 0 ∨ y = 1) : (ian x y = 0 ∨ ian x y = 1) ∧ (ian x y = 1 ↔ x = 1 ∧ y = 1) := by
  rcases hx with rfl | rfl <;> rcases hy with rfl | rfl <;> decide
def SmP (v : Nat → Int) (k m i : Nat) : Prop := ∀ j, j < i → v (k + j) = v (m + j)
theorem SmP.st {v : Nat → Int} {k m i : Nat} : SmP v k m (i + 1) ↔ SmP v k m i ∧ v (k + i) = v (m + i) := by
  constructor
  · exact fun h => ⟨fun j hj => h j (by omega), h i (by omega)⟩
  · rintro ⟨h1, h2⟩ j hj
    by_cases z : j = i
    · rw [z]; exact h2
    · exact h1 j (by omega)
set_option maxRecDepth 100000 in
theorem sm_loop {h : AH} {k m f : Nat} (hI : RI h) (hk : k + f ≤ 209) (hm : m + f ≤ 209) : ∀ (n i : Nat) (b : Int), i + n = f → (b = 0 ∨ b = 1) → (b = 1 ↔ SmP (h.vl 80) k m i) → EV mX11_isSame 2 27 [rv 42, iv (k : Int), iv (m : Int), iv (f : Int), iv b, iv (i : Int)] [] h (oi fun x h1 => (x = 0 ∨ x = 1) ∧ (x = 1 ↔ SmP (h.vl 80) k m f) ∧ h1 = h)
  | 0, i, b, hi, hb, hs => by
    obtain rfl : i = f := by omega
    refine ev_iload dX11_isSame_27 rfl ?_
    refine ev_iload_n dX11_isSame_29 rfl ?_
    refine ev_icmpge 70 dX11_isSame_30 (fun hc => ?_) (fun h_no => (by exfalso; omega))
    refine ev_iload dX11_isSame_70 rfl ?_
    exact ev_zret dX11_isSame_72 (⟨_, rfl, hb, hs, rfl⟩) (by omega)
  | n + 1, i, b, hi, hb, hs => by
    have p61 : ∀ y : Int, (y = 0 ∨ y = 1) → (y = 1 ↔ h.vl 80 (k + i) = h.vl 80 (m + i)) → EV mX11_isSame 2 61 [rv 42, iv (k : Int), iv (m : Int), iv (f : Int), iv b, iv (i : Int)] [iv y, iv b] h (oi fun x h1 => (x = 0 ∨ x = 1) ∧ (x = 1 ↔ SmP (h.vl 80) k m f) ∧ h1 = h) := by
      intro y hy hy2
      obtain ⟨a1, a2⟩ := ian_b hb hy
      refine ev_iand dX11_isSame_61 ?_
      refine ev_ist4 dX11_isSame_62 ?_
      refine ev_iin5 dX11_isSame_64 (by unfold ir; omega) ?_
      refine ev_gt 27 dX11_isSame_67 ?_
      rw [show (i : Int) + 1 = ((i + 1 : Nat) : Int) by omega]
      exact sm_loop hI hk hm n (i + 1) _ (by omega) a1 (by rw [a2, hs, hy2, SmP.st])
    obtain ⟨x1, e1⟩ : ∃ x1, h.vl 80 (k + i) = x1 := ⟨_, rfl⟩
    obtain ⟨x2, e2⟩ : ∃ x2, h.vl 80 (m + i) = x2 := ⟨_, rfl⟩
    rw [e1, e2] at p61
    refine ev_iload dX11_isSame_27 rfl ?_
    refine ev_iload_n dX11_isSame_29 rfl ?_
    refine ev_icmpge 70 dX11_isSame_30 (fun h_no => (by exfalso; omega)) (fun hc => ?_)
    refine ev_iload dX11_isSame_33 rfl ?_
    refine ev_aload_n dX11_isSame_35 rfl ?_
    refine ev_getrv dX11_isSame_36 fX11_125 hI.o hI.n rfl hI.v_two ?_
    refine ev_iload_n dX11_isSame_39 rfl ?_
    refine ev_iload dX11_isSame_40 rfl ?_
    refine ev_iadd dX11_isSame_42 (by unfold ir; omega) ?_
    rw [show (k : Int) + (i : Int) = ((k + i : Nat) : Int) by omega]
    refine ev_ildv dX11_isSame_43 hI.k_two hI.n_two rfl (by omega) (by omega) e1 ?_
    refine ev_aload_n dX11_isSame_44 rfl ?_
    refine ev_getrv dX11_isSame_45 fX11_125 hI.o hI.n rfl hI.v_two ?_
    refine ev_iload_n dX11_isSame_48 rfl ?_
    refine ev_iload dX11_isSame_49 rfl ?_
    refine ev_iadd dX11_isSame_51 (by unfold ir; omega) ?_
    rw [show (m : Int) + (i : Int) = ((m + i : Nat) : Int) by omega]
    refine ev_ildv dX11_isSame_52 hI.k_two hI.n_two rfl (by omega) (by omega) e2 ?_
    by_cases c : x1 = x2
    · skip
      refine ev_icmpne 60 dX11_isSame_53 (fun h_no => (by exfalso; omega)) (fun hd => ?_)
      refine ev_iconst dX11_isSame_56 ?_
      refine ev_gt 61 dX11_isSame_57 ?_
      exact p61 1 (Or.inr rfl) ⟨fun _ => c, fun _ => rfl⟩
    refine ev_icmpne 60 dX11_isSame_53 (fun hd => ?_) (fun h_no => (by exfalso; omega))
    refine ev_iconst dX11_isSame_60 ?_
    exact p61 0 (Or.inl rfl) ⟨fun z => absurd z (by decide), fun z => absurd z c⟩
