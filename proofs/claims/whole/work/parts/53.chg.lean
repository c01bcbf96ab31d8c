/-! changes of the reference's state -/
section EvDup2
variable {M : MD} {d pc : Nat} {L S : List AV} {h : AH} {Q : AV → AH → Prop}
theorem ev_dup2 {t u : Nat} {x y : Int} (hd : decode M.cc pc = .ok (.dup2, 1)) (k : EV M d (pc + 1) L ((t, x) :: (u, y) :: (t, x) :: (u, y) :: S) h Q) (h2 : t ≠ 2 := by decide) (h4 : t ≠ 4 := by decide) (h2' : u ≠ 2 := by decide) (h4' : u ≠ 4 := by decide) : EV M d pc L ((t, x) :: (u, y) :: S) h Q :=
  ev_pure k (fun _ hS _ => SR_c (SR_h hS) (SR_c (SR_h (SR_t hS)) hS)) (fun _ _ _ C _ _ k => lv_dup2_11 C.1 C.2.1 hd (av_cat h2 h4) (av_cat h2' h4') k)
end EvDup2
/-- the states ahead of the changes -/
def PV (h : AH) (k j : Nat) : Int := h.vl 46 (569 * k + j)
set_option maxRecDepth 100000 in
theorem ends_shift {h0 : AH} {a b : Int} {Q : AV → AH → Prop} (hI0 : RI h0) (K : ∀ g : AH, KP h0 g [46] [] → (∀ k, k < 3983 → g.vl 46 k = h0.vl 46 (k + 569)) → ∀ i : Int, EV mX11_ends 3 85 [rv 42, iv a, iv b, iv i] [] g Q) : ∀ (m i : Nat) (g : AH), i + m = 3983 → KP h0 g [46] [] → (∀ k, k < i → g.vl 46 k = h0.vl 46 (k + 569)) → (∀ k, i ≤ k → g.vl 46 k = h0.vl 46 k) → EV mX11_ends 3 56 [rv 42, iv a, iv b, iv (i : Int)] [] g Q := by
  intro m
  induction m with
  | zero =>
    intro i g hi hk h1 h2
    have hI : RI g := hk.ri hI0
    refine ev_iload_n dX11_ends_56 rfl ?_
    refine ev_sipush dX11_ends_57 ?_
    refine ev_icmpge 85 dX11_ends_60 (fun hc => ?_) (fun h_no => (by exfalso; omega))
    exact K g hk (fun k hk => h1 k (by omega)) _
  | succ m ih =>
    intro i g hi hk h1 h2
    have hI : RI g := hk.ri hI0
    refine ev_iload_n dX11_ends_56 rfl ?_
    refine ev_sipush dX11_ends_57 ?_
    refine ev_icmpge 85 dX11_ends_60 (fun h_no => (by exfalso; omega)) (fun hc => ?_)
    refine ev_aload_n dX11_ends_63 rfl ?_
    refine ev_getrv dX11_ends_64 fX11_23 hI.o hI.n rfl hI.v_past ?_
    refine ev_iload_n dX11_ends_67 rfl ?_
    refine ev_aload_n dX11_ends_68 rfl ?_
    refine ev_getrv dX11_ends_69 fX11_23 hI.o hI.n rfl hI.v_past ?_
    refine ev_iload_n dX11_ends_72 rfl ?_
    refine ev_sipush dX11_ends_73 ?_
    refine ev_iadd dX11_ends_76 (by unfold ir; omega) ?_
    refine ev_ild dX11_ends_77 hI.k_past hI.n_past rfl (by omega) (by omega) ?_
    rw [show ((i : Int) + 569).toNat = i + 569 from by omega]
    refine ev_istr dX11_ends_78 hI.k_past hI.n_past rfl (by omega) (by omega) ?_
    refine ev_iin3 dX11_ends_79 (by unfold ir; omega) ?_
    refine ev_gt 56 dX11_ends_82 ?_
    rw [show (i : Int) + 1 = ((i + 1 : Nat) : Int) from rfl, show ((i : Nat) : Int).toNat = i from rfl]
    refine ih (i + 1) _ (by omega) (hk.pr (by decide) (by decide)) (fun k hk9 => ?_) (fun k hk9 => ?_)
    · by_cases e : k = i
      · rw [AH.put_vl, if_pos ⟨rfl, e⟩, h2 _ (by omega), e]
      · rw [AH.put_vl, if_neg (fun z => e z.2)]
        exact h1 k (by omega)
    · rw [AH.put_vl, if_neg (by omega)]
      exact h2 k (by omega)
set_option maxRecDepth 100000 in
theorem ends_push {h0 : AH} {a b : Int} {c : Nat} {Q : AV → AH → Prop} (hI0 : RI h0) (hc0 : h0.vl 42 2 = (c : Int)) (hc7 : c ≤ 7) (K : ∀ g : AH, KP h0 g [46] [] → (∀ k, k < 569 → g.vl 46 (569 * c + k) = h0.vl 44 k) → (∀ k, (k < 569 * c ∨ 569 * c + 569 ≤ k) → g.vl 46 k = h0.vl 46 k) → ∀ i : Int, EV mX11_ends 3 131 [rv 42, iv a, iv b, iv i] [] g Q) : ∀ (m i : Nat) (g : AH), i + m = 569 → KP h0 g [46] [] → (∀ k, k < i → g.vl 46 (569 * c + k) = h0.vl 44 k) → (∀ k, (k < 569 * c ∨ 569 * c + i ≤ k) → g.vl 46 k = h0.vl 46 k) → EV mX11_ends 3 97 [rv 42, iv a, iv b, iv (i : Int)] [] g Q := by
  intro m
  induction m with
  | zero =>
    intro i g hi hk h1 h2
    have hI : RI g := hk.ri hI0
    refine ev_iload_n dX11_ends_97 rfl ?_
    refine ev_sipush dX11_ends_98 ?_
    refine ev_icmpge 131 dX11_ends_101 (fun hc => ?_) (fun h_no => (by exfalso; omega))
    exact K g hk (fun k hk => h1 k (by omega)) (fun k hk => h2 k (by omega)) _
  | succ m ih =>
    intro i g hi hk h1 h2
    have hI : RI g := hk.ri hI0
    have hcg : g.vl 42 2 = (c : Int) := (hk.fl).trans hc0
    refine ev_iload_n dX11_ends_97 rfl ?_
    refine ev_sipush dX11_ends_98 ?_
    refine ev_icmpge 131 dX11_ends_101 (fun h_no => (by exfalso; omega)) (fun hc => ?_)
    refine ev_aload_n dX11_ends_104 rfl ?_
    refine ev_getrv dX11_ends_105 fX11_23 hI.o hI.n rfl hI.v_past ?_
    refine ev_aload_n dX11_ends_108 rfl ?_
    refine ev_getiv dX11_ends_109 fX11_347 hI.o hI.n rfl hcg ?_
    refine ev_sipush dX11_ends_112 ?_
    refine ev_imul dX11_ends_115 (by unfold ir; omega) ?_
    refine ev_iload_n dX11_ends_116 rfl ?_
    refine ev_iadd dX11_ends_117 (by unfold ir; omega) ?_
    rw [show (c : Int) * 569 + (i : Int) = ((569 * c + i : Nat) : Int) from by omega]
    obtain ⟨e, he⟩ : ∃ e, e = 569 * c + i := ⟨_, rfl⟩
    rw [← he]
    refine ev_aload_n dX11_ends_118 rfl ?_
    refine ev_getrv dX11_ends_119 fX11_17 hI.o hI.n rfl hI.v_before ?_
    refine ev_iload_n dX11_ends_122 rfl ?_
    refine ev_ildv dX11_ends_123 hI.k_before hI.n_before rfl (by omega) (by omega) (show _ = g.vl 44 i from rfl) ?_
    refine ev_istr dX11_ends_124 hI.k_past hI.n_past rfl (by omega) (by omega) ?_
    refine ev_iin3 dX11_ends_125 (by unfold ir; omega) ?_
    refine ev_gt 97 dX11_ends_128 ?_
    rw [show (i : Int) + 1 = ((i + 1 : Nat) : Int) from rfl, show ((e : Nat) : Int).toNat = e from rfl]
    refine ih (i + 1) _ (by omega) (hk.pr (by decide) (by decide)) (fun k hk9 => ?_) (fun k hk9 => ?_)
    · by_cases e9 : k = i
      · rw [AH.put_vl, if_pos ⟨rfl, by omega⟩, e9, hk.vl (r := 44)]
      · rw [AH.put_vl, if_neg (by omega)]
        exact h1 k (by omega)
    · rw [AH.put_vl, if_neg (by omega)]
      exact h2 k (by omega)
/-- a change is kept, the state ahead of it with it -/
def PshQ (h : AH) (c : Nat) (h1 : AH) : Prop := KP h h1 [46] [2] ∧ h1.vl 42 2 = (if c = 8 then 8 else ((c + 1 : Nat) : Int)) ∧ (c = 8 → (∀ k j, k < 7 → j < 569 → PV h1 k j = PV h (k + 1) j) ∧ ∀ j, j < 569 → PV h1 7 j = h.vl 44 j) ∧ (c < 8 → (∀ k j, k < c → j < 569 → PV h1 k j = PV h k j) ∧ ∀ j, j < 569 → PV h1 c j = h.vl 44 j)
set_option maxRecDepth 100000 in
theorem s_endsO {a b : Int} {c : Nat} {h : AH} (hI : RI h) (hr : h.vl 42 69 = 0) (hc0 : h.vl 42 2 = (c : Int)) (hc8 : c ≤ 8) : CV mX11_ends 3 [rv 42, iv a, iv b] h (oi fun r h1 => r = a ∧ PshQ h c h1) := by
  refine cv_of cdX11_ends ?_
  show EV _ _ 0 [rv 42, iv a, iv b, uv] [] h _
  have fin : ∀ (c' : Nat) (g : AH), c' ≤ 7 → KP h g [46] [2] → g.vl 42 2 = (c' : Int) → (∀ h2 : AH, KP g h2 [46] [2] → h2.vl 42 2 = (c' : Int) + 1 → (∀ k, k < 569 → h2.vl 46 (569 * c' + k) = g.vl 44 k) → (∀ k, (k < 569 * c' ∨ 569 * c' + 569 ≤ k) → h2.vl 46 k = g.vl 46 k) → PshQ h c h2) → ∀ v, EV mX11_ends 3 95 [rv 42, iv a, iv b, v] [] g (oi fun r h1 => r = a ∧ PshQ h c h1) := by
    intro c' g hc7 kg hg hQ v
    have hIg : RI g := kg.ri hI
    refine ev_iconst dX11_ends_95 ?_
    refine ev_ist3 dX11_ends_96 ?_
    refine ends_push hIg hg hc7 (fun g2 k2 e1 e2 i => ?_) 569 0 g (by omega) KP.rf (fun k hk => absurd hk (Nat.not_lt_zero k)) (fun k _ => rfl)
    have hI2 : RI g2 := k2.ri hIg
    have hg2 : g2.vl 42 2 = (c' : Int) := (k2.fl).trans hg
    refine ev_aload_n dX11_ends_131 rfl ?_
    refine ev_dup dX11_ends_132 ?_
    refine ev_getiv dX11_ends_133 fX11_347 hI2.o hI2.n rfl hg2 ?_
    refine ev_iconst dX11_ends_136 ?_
    refine ev_iadd dX11_ends_137 (by unfold ir; omega) ?_
    refine ev_pt dX11_ends_138 fX11_347 hI2.o hI2.n rfl ?_
    refine ev_iload_n dX11_ends_141 rfl ?_
    exact ev_iret dX11_ends_142 (⟨_, rfl, rfl, hQ _ ((k2.wk (by decide) (by decide)).pf (by decide)) rfl e1 e2⟩)
  refine ev_aload_n dX11_ends_0 rfl ?_
  refine ev_getiv dX11_ends_1 fX11_321 hI.o hI.n rfl hr ?_
  refine ev_ifeq 45 dX11_ends_4 (fun hbr => ?_) (fun h_no => (by exfalso; omega))
  refine ev_aload_n dX11_ends_45 rfl ?_
  refine ev_getiv dX11_ends_46 fX11_347 hI.o hI.n rfl hc0 ?_
  refine ev_bipush dX11_ends_49 ?_
  by_cases h8 : c = 8
  · skip
    refine ev_icmpne 95 dX11_ends_51 (fun h_no => (by exfalso; omega)) (fun hc => ?_)
    refine ev_iconst dX11_ends_54 ?_
    refine ev_ist3 dX11_ends_55 ?_
    refine ends_shift hI (fun g kg e1 i => ?_) 3983 0 h (by omega) KP.rf (fun k hk => absurd hk (Nat.not_lt_zero k)) (fun k _ => rfl)
    have hI2 : RI g := kg.ri hI
    have hg : g.vl 42 2 = (c : Int) := (kg.fl).trans hc0
    refine ev_aload_n dX11_ends_85 rfl ?_
    refine ev_dup dX11_ends_86 ?_
    refine ev_getiv dX11_ends_87 fX11_347 hI2.o hI2.n rfl hg ?_
    refine ev_iconst dX11_ends_90 ?_
    refine ev_isub dX11_ends_91 (by unfold ir; omega) ?_
    refine ev_pt dX11_ends_92 fX11_347 hI2.o hI2.n rfl ?_
    rw [show (c : Int) - 1 = ((7 : Nat) : Int) from by omega]
    refine fin 7 _ (by omega) ((kg.wk (by decide) (by decide)).pf (by decide)) rfl (fun h2 k2 n2 e2 e3 => ?_) _
    refine ⟨((kg.wk (by decide) (by decide)).pf (by decide)).tr k2, by rw [if_pos h8, n2]; rfl, fun _ => ⟨fun k j hk hj => ?_, fun j hj => ?_⟩, fun z => absurd z (by omega)⟩
    · show h2.vl 46 (569 * k + j) = h.vl 46 (569 * (k + 1) + j)
      rw [e3 _ (by omega)]
      show g.vl 46 (569 * k + j) = _
      rw [e1 _ (by omega)]
      congr 1
      omega
    · show h2.vl 46 (569 * 7 + j) = _
      rw [e2 j hj]
      exact congrFun (kg.vl) j
  · skip
    refine ev_icmpne 95 dX11_ends_51 (fun hc => ?_) (fun h_no => (by exfalso; omega))
    refine fin c h (by omega) KP.rf hc0 (fun h2 k2 n2 e2 e3 => ?_) _
    refine ⟨k2, by rw [if_neg h8, n2]; rfl, fun z => absurd z h8, fun _ => ⟨fun k j hk hj => ?_, fun j hj => e2 j hj⟩⟩
    show h2.vl 46 (569 * k + j) = h.vl 46 (569 * k + j)
    refine e3 _ (Or.inl ?_)
    have : 569 * (k + 1) ≤ 569 * c := Nat.mul_le_mul_left _ hk
    omega
