/-! two lessons of the same type: the reference -/
def AlP (u v : Nat → Int) (i : Nat) : Prop := ∀ j, j < i → u j = v j
theorem AlP.st {u v : Nat → Int} {i : Nat} : AlP u v (i + 1) ↔ AlP u v i ∧ u i = v i := by
  constructor
  · exact fun h => ⟨fun j hj => h j (by omega), h i (by omega)⟩
  · rintro ⟨h1, h2⟩ j hj
    by_cases z : j = i
    · rw [z]; exact h2
    · exact h1 j (by omega)
set_option maxRecDepth 100000 in
theorem al_loop {h : AH} {p q : Int} {f : Nat} (hI : RI h) (hf : f ≤ 209) (h73 : h.vl 42 73 = (f : Int)) : ∀ (n i : Nat) (b : Int), i + n = f → (b = 0 ∨ b = 1) → (b = 1 ↔ AlP (h.vl 79) (h.vl 80) i) → EV mX11_isAlike 12 35 [rv 42, iv p, iv q, iv b, iv (i : Int)] [] h (oi fun x h1 => (x = 0 ∨ x = 1) ∧ (x = 1 ↔ AlP (h.vl 79) (h.vl 80) f) ∧ h1 = h)
  | 0, i, b, hi, hb, hs => by
    obtain rfl : i = f := by omega
    refine ev_iload dX11_isAlike_35 rfl ?_
    refine ev_aload_n dX11_isAlike_37 rfl ?_
    refine ev_getiv dX11_isAlike_38 fX11_394 hI.o hI.n rfl h73 ?_
    refine ev_icmpge 75 dX11_isAlike_41 (fun hc => ?_) (fun h_no => (by exfalso; omega))
    refine ev_iload_n dX11_isAlike_75 rfl ?_
    exact ev_zret dX11_isAlike_76 (⟨_, rfl, hb, hs, rfl⟩) (by omega)
  | n + 1, i, b, hi, hb, hs => by
    have p67 : ∀ y : Int, (y = 0 ∨ y = 1) → (y = 1 ↔ h.vl 79 i = h.vl 80 i) → EV mX11_isAlike 12 67 [rv 42, iv p, iv q, iv b, iv (i : Int)] [iv y, iv b] h (oi fun x h1 => (x = 0 ∨ x = 1) ∧ (x = 1 ↔ AlP (h.vl 79) (h.vl 80) f) ∧ h1 = h) := by
      intro y hy hy2
      obtain ⟨a1, a2⟩ := ian_b hb hy
      refine ev_iand dX11_isAlike_67 ?_
      refine ev_ist3 dX11_isAlike_68 ?_
      refine ev_iin4 dX11_isAlike_69 (by unfold ir; omega) ?_
      refine ev_gt 35 dX11_isAlike_72 ?_
      rw [show (i : Int) + 1 = ((i + 1 : Nat) : Int) by omega]
      exact al_loop hI hf h73 n (i + 1) _ (by omega) a1 (by rw [a2, hs, hy2, AlP.st])
    obtain ⟨x1, e1⟩ : ∃ x1, h.vl 79 i = x1 := ⟨_, rfl⟩
    obtain ⟨x2, e2⟩ : ∃ x2, h.vl 80 i = x2 := ⟨_, rfl⟩
    rw [e1, e2] at p67
    refine ev_iload dX11_isAlike_35 rfl ?_
    refine ev_aload_n dX11_isAlike_37 rfl ?_
    refine ev_getiv dX11_isAlike_38 fX11_394 hI.o hI.n rfl h73 ?_
    refine ev_icmpge 75 dX11_isAlike_41 (fun h_no => (by exfalso; omega)) (fun hc => ?_)
    refine ev_iload_n dX11_isAlike_44 rfl ?_
    refine ev_aload_n dX11_isAlike_45 rfl ?_
    refine ev_getrv dX11_isAlike_46 fX11_122 hI.o hI.n rfl hI.v_one ?_
    refine ev_iload dX11_isAlike_49 rfl ?_
    refine ev_ildv dX11_isAlike_51 hI.k_one hI.n_one rfl (by omega) (by omega) e1 ?_
    refine ev_aload_n dX11_isAlike_52 rfl ?_
    refine ev_getrv dX11_isAlike_53 fX11_125 hI.o hI.n rfl hI.v_two ?_
    refine ev_iload dX11_isAlike_56 rfl ?_
    refine ev_ildv dX11_isAlike_58 hI.k_two hI.n_two rfl (by omega) (by omega) e2 ?_
    by_cases c : x1 = x2
    · skip
      refine ev_icmpne 66 dX11_isAlike_59 (fun h_no => (by exfalso; omega)) (fun hd => ?_)
      refine ev_iconst dX11_isAlike_62 ?_
      refine ev_gt 67 dX11_isAlike_63 ?_
      exact p67 1 (Or.inr rfl) ⟨fun _ => c, fun _ => rfl⟩
    refine ev_icmpne 66 dX11_isAlike_59 (fun hd => ?_) (fun h_no => (by exfalso; omega))
    refine ev_iconst dX11_isAlike_66 ?_
    exact p67 0 (Or.inl rfl) ⟨fun z => absurd z (by decide), fun z => absurd z c⟩
