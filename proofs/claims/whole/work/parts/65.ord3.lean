/-! the reference reads orders without doing them -/
set_option maxRecDepth 100000 in
theorem s_next2 {i n : Nat} {h : AH} (hI : RI h) (h1 : h.vl 42 75 = (i : Int)) (h2 : h.vl 42 76 = (n : Int)) (hn : n ≤ 60) : CV mX11_next 1 [rv 42] h (oi fun r h1 => r = nxt2 (h.vl 88) n i ∧ h1 = h) := by
  refine cv_of cdX11_next ?_
  show EV _ _ 0 [rv 42] [] h _
  refine ev_aload_n dX11_next_0 rfl ?_
  refine ev_getiv dX11_next_1 fX11_418 hI.o hI.n rfl h1 ?_
  refine ev_aload_n dX11_next_4 rfl ?_
  refine ev_getiv dX11_next_5 fX11_421 hI.o hI.n rfl h2 ?_
  by_cases hin : i < n
  · skip
    refine ev_icmpge 23 dX11_next_8 (fun h_no => (by exfalso; omega)) (fun hc => ?_)
    refine ev_aload_n dX11_next_11 rfl ?_
    refine ev_getrv dX11_next_12 fX11_149 hI.o hI.n rfl hI.v_input ?_
    refine ev_aload_n dX11_next_15 rfl ?_
    refine ev_getiv dX11_next_16 fX11_418 hI.o hI.n rfl h1 ?_
    refine ev_ildv dX11_next_19 hI.k_input hI.n_input rfl (by omega) (by omega) (show _ = h.vl 88 i from rfl) ?_
    refine ev_gt 24 dX11_next_20 ?_
    exact ev_iret dX11_next_24 (⟨_, rfl, (nxt2_lt hin).symm, rfl⟩)
  · skip
    refine ev_icmpge 23 dX11_next_8 (fun hc => ?_) (fun h_no => (by exfalso; omega))
    refine ev_iconst dX11_next_23 ?_
    exact ev_iret dX11_next_24 (⟨_, rfl, (nxt2_ge hin).symm, rfl⟩)
/-- an order read, not done -/
def IoQ (h : AH) (n : Nat) (p : Bool × Nat) (r : Int) (h1 : AH) : Prop := r = (if p.1 = true then 1 else 0) ∧ KP h h1 [] [75] ∧ h1.vl 42 75 = (p.2 : Int)
set_option maxRecDepth 100000 in
theorem s_isOrd0 {i n : Nat} {h : AH} (hI : RI h) (h1 : h.vl 42 75 = (i : Int)) (h2 : h.vl 42 76 = (n : Int)) (hn : n ≤ 60) (hi : i ≤ n) : CV mX11_isOrder 4 [rv 42, iv 0] h (oi (IoQ h n (io (h.vl 88) n i))) := by
  obtain ⟨c, hc⟩ : ∃ c, c = h.vl 88 := ⟨_, rfl⟩
  rw [← hc]
  obtain ⟨w, hw⟩ : ∃ w, w = nxt2 c n i := ⟨_, rfl⟩
  have ein : ∀ g : AH, KP h g [] [75] → g.vl 88 = c := fun g k => by rw [hc]; exact k.vl
  have een : ∀ g : AH, KP h g [] [75] → g.vl 42 76 = (n : Int) := fun g k => (k.fl).trans h2
  have p117 : ∀ (g : AH) (j : Nat) (d e : Int), KP h g [] [75] → g.vl 42 75 = (j : Int) → io c n i = (true, j) → EV mX11_isOrder 4 117 [rv 42, iv 0, iv w, iv d, iv e] [] g (oi (IoQ h n (io c n i))) := by
    intro g j d e k hj hio
    refine ev_iload_n dX11_isOrder_117 rfl ?_
    refine ev_ifeq 158 dX11_isOrder_118 (fun hb => ?_) (fun h_no => (by exfalso; exact h_no rfl))
    refine ev_iconst dX11_isOrder_158 ?_
    exact ev_zret dX11_isOrder_159 (⟨_, rfl, by rw [hio]; rfl, k, by rw [hio]; exact hj⟩) (Or.inr rfl)
  have p80 : ∀ (g : AH) (j : Nat) (d : Int), KP h g [] [75] → g.vl 42 75 = (j : Int) → j ≤ 62 → io c n i = (if w ≠ 120 ∧ ¬ (65 ≤ nxt2 c n j ∧ nxt2 c n j ≤ 72) then (false, j) else (true, if w = 120 then j else j + 1)) → EV mX11_isOrder 4 80 [rv 42, iv 0, iv w, iv d, iv 0] [] g (oi (IoQ h n (io c n i))) := by
    intro g j d k hj hj9 hio
    have hIg : RI g := k.ri hI
    refine ev_iload_n dX11_isOrder_80 rfl ?_
    refine ev_bipush dX11_isOrder_81 ?_
    by_cases k120 : w = 120
    · skip
      refine ev_icmpeq 117 dX11_isOrder_83 (fun hb => ?_) (fun h_no => (by exfalso; omega))
      exact p117 g j d 0 k hj (by rw [hio, if_neg (fun z => z.1 k120), if_pos k120])
    · skip
      refine ev_icmpeq 117 dX11_isOrder_83 (fun h_no => (by exfalso; omega)) (fun hb => ?_)
      refine ev_aload_n dX11_isOrder_86 rfl ?_
      refine ev_cvi dX11_isOrder_87 lX11_424 (s_next2 hIg hj (een g k) hn) (by decide) hIg.o hIg.n rfl rfl rfl (Nat.le_of_ble_eq_true rfl) rfl (fun r z1 q => ?_)
      obtain ⟨rfl, e⟩ := q
      rw [e, ein g k]
      by_cases cp : 65 ≤ nxt2 c n j ∧ nxt2 c n j ≤ 72
      · skip
        refine ev_csi dX11_isOrder_90 lX11_182 (f_cap1 cp) (by decide) rfl rfl (Nat.le_of_ble_eq_true rfl) rfl (fun r z2 q => ?_)
        obtain ⟨rfl, e⟩ := q
        rw [e]
        refine ev_ifne 98 dX11_isOrder_93 (fun hbr => ?_) (fun h_no => (by exfalso; omega))
        refine ev_aload_n dX11_isOrder_98 rfl ?_
        refine ev_cvi dX11_isOrder_99 lX11_424 (s_next2 hIg hj (een g k) hn) (by decide) hIg.o hIg.n rfl rfl rfl (Nat.le_of_ble_eq_true rfl) rfl (fun r z3 q => ?_)
        obtain ⟨rfl, e⟩ := q
        rw [e, ein g k]
        refine ev_bipush dX11_isOrder_102 ?_
        refine ev_isub dX11_isOrder_104 (by unfold ir; omega) ?_
        refine ev_ist4 dX11_isOrder_105 ?_
        refine ev_aload_n dX11_isOrder_107 rfl ?_
        refine ev_dup dX11_isOrder_108 ?_
        refine ev_getiv dX11_isOrder_109 fX11_418 hIg.o hIg.n rfl hj ?_
        refine ev_iconst dX11_isOrder_112 ?_
        refine ev_iadd dX11_isOrder_113 (by unfold ir; omega) ?_
        refine ev_pt dX11_isOrder_114 fX11_418 hIg.o hIg.n rfl ?_
        have e9 : (j : Int) + 1 = ((j + 1 : Nat) : Int) := rfl
        rw [e9]
        exact p117 _ (j + 1) _ _ (k.pf (by decide)) rfl (by rw [hio, if_neg (fun z => z.2 cp), if_neg k120])
      · skip
        refine ev_csi dX11_isOrder_90 lX11_182 (f_cap0 cp) (by decide) rfl rfl (Nat.le_of_ble_eq_true rfl) rfl (fun r z2 q => ?_)
        obtain ⟨rfl, e⟩ := q
        rw [e]
        refine ev_ifne 98 dX11_isOrder_93 (fun h_no => (by exfalso; omega)) (fun hbr => ?_)
        refine ev_iconst dX11_isOrder_96 ?_
        have hio2 : io c n i = (false, j) := by rw [hio]; exact if_pos ⟨k120, cp⟩
        exact ev_zret dX11_isOrder_97 (⟨_, rfl, by rw [hio2]; rfl, k, by rw [hio2]; exact hj⟩) (Or.inl rfl)
  have p30 : (w = 107 ∨ w = 117 ∨ w = 120) → EV mX11_isOrder 4 30 [rv 42, iv 0, iv w, iv 0, iv 0] [] h (oi (IoQ h n (io c n i))) := by
    intro hww
    have e9 : (i : Int) + 1 = ((i + 1 : Nat) : Int) := rfl
    refine ev_aload_n dX11_isOrder_30 rfl ?_
    refine ev_dup dX11_isOrder_31 ?_
    refine ev_getiv dX11_isOrder_32 fX11_418 hI.o hI.n rfl h1 ?_
    refine ev_iconst dX11_isOrder_35 ?_
    refine ev_iadd dX11_isOrder_36 (by unfold ir; omega) ?_
    rw [e9]
    refine ev_pt dX11_isOrder_37 fX11_418 hI.o hI.n rfl ?_
    have k1 : KP h (h.put 42 75 ((i + 1 : Nat) : Int)) [] [75] := KP.rf.pf (by decide)
    have hI1 : RI (h.put 42 75 ((i + 1 : Nat) : Int)) := k1.ri hI
    obtain ⟨g, hg⟩ : ∃ g, g = h.put 42 75 ((i + 1 : Nat) : Int) := ⟨_, rfl⟩
    have j1 : g.vl 42 75 = ((i + 1 : Nat) : Int) := by rw [hg]; rfl
    rw [← hg] at k1 hI1
    rw [← hg]
    refine ev_iload_n dX11_isOrder_40 rfl ?_
    refine ev_bipush dX11_isOrder_41 ?_
    by_cases k117 : w = 117
    · skip
      refine ev_icmpeq 80 dX11_isOrder_43 (fun hb => ?_) (fun h_no => (by exfalso; omega))
      refine p80 g (i + 1) 0 k1 j1 (by omega) ?_
      rw [io, ← hw, if_neg (fun z => z hww), if_neg (fun z => z.1 k117), io1, ← hw, if_pos k117]
    · skip
      refine ev_icmpeq 80 dX11_isOrder_43 (fun h_no => (by exfalso; omega)) (fun hb => ?_)
      refine ev_aload_n dX11_isOrder_46 rfl ?_
      refine ev_cvi dX11_isOrder_47 lX11_424 (s_next2 hI1 j1 (een g k1) hn) (by decide) hI1.o hI1.n rfl rfl rfl (Nat.le_of_ble_eq_true rfl) rfl (fun r z1 q => ?_)
      obtain ⟨rfl, e⟩ := q
      rw [e, ein g k1]
      refine ev_bipush dX11_isOrder_50 ?_
      refine ev_bipush dX11_isOrder_52 ?_
      by_cases dg : 48 ≤ nxt2 c n (i + 1) ∧ nxt2 c n (i + 1) ≤ 57
      · skip
        refine ev_csi dX11_isOrder_54 lX11_164 (f_isIn1 dg) (by decide) rfl rfl (Nat.le_of_ble_eq_true rfl) rfl (fun r z2 q => ?_)
        obtain ⟨rfl, e⟩ := q
        rw [e]
        refine ev_ifne 62 dX11_isOrder_57 (fun hbr => ?_) (fun h_no => (by exfalso; omega))
        refine ev_aload_n dX11_isOrder_62 rfl ?_
        refine ev_cvi dX11_isOrder_63 lX11_424 (s_next2 hI1 j1 (een g k1) hn) (by decide) hI1.o hI1.n rfl rfl rfl (Nat.le_of_ble_eq_true rfl) rfl (fun r z3 q => ?_)
        obtain ⟨rfl, e⟩ := q
        rw [e, ein g k1]
        refine ev_bipush dX11_isOrder_66 ?_
        refine ev_isub dX11_isOrder_68 (by unfold ir; omega) ?_
        refine ev_ist3 dX11_isOrder_69 ?_
        refine ev_aload_n dX11_isOrder_70 rfl ?_
        refine ev_dup dX11_isOrder_71 ?_
        refine ev_getiv dX11_isOrder_72 fX11_418 hI1.o hI1.n rfl j1 ?_
        refine ev_iconst dX11_isOrder_75 ?_
        refine ev_iadd dX11_isOrder_76 (by unfold ir; omega) ?_
        refine ev_pt dX11_isOrder_77 fX11_418 hI1.o hI1.n rfl ?_
        have e8 : ((i + 1 : Nat) : Int) + 1 = ((i + 2 : Nat) : Int) := rfl
        rw [e8]
        refine p80 _ (i + 2) _ (k1.pf (by decide)) rfl (by omega) ?_
        rw [io, ← hw, if_neg (fun z => z hww), if_neg (fun z => z.2 dg), io1, ← hw, if_neg k117]
      · skip
        refine ev_csi dX11_isOrder_54 lX11_164 (f_isIn0 dg) (by decide) rfl rfl (Nat.le_of_ble_eq_true rfl) rfl (fun r z2 q => ?_)
        obtain ⟨rfl, e⟩ := q
        rw [e]
        refine ev_ifne 62 dX11_isOrder_57 (fun h_no => (by exfalso; omega)) (fun hbr => ?_)
        refine ev_iconst dX11_isOrder_60 ?_
        have hio : io c n i = (false, i + 1) := by rw [io, ← hw, if_neg (fun z => z hww), if_pos ⟨k117, dg⟩]
        exact ev_zret dX11_isOrder_61 (⟨_, rfl, by rw [hio]; rfl, k1, by rw [hio]; exact j1⟩) (Or.inl rfl)
  refine cv_of cdX11_isOrder ?_
  show EV _ _ 0 [rv 42, iv 0, uv, uv, uv] [] h _
  refine ev_aload_n dX11_isOrder_0 rfl ?_
  refine ev_cvi dX11_isOrder_1 lX11_424 (s_next2 hI h1 h2 hn) (by decide) hI.o hI.n rfl rfl rfl (Nat.le_of_ble_eq_true rfl) rfl (fun r z1 q => ?_)
  obtain ⟨rfl, e⟩ := q
  rw [e, ← hc, ← hw]
  refine ev_ist2 dX11_isOrder_4 ?_
  refine ev_iconst dX11_isOrder_5 ?_
  refine ev_ist3 dX11_isOrder_6 ?_
  refine ev_iconst dX11_isOrder_7 ?_
  refine ev_ist4 dX11_isOrder_8 ?_
  refine ev_iload_n dX11_isOrder_10 rfl ?_
  refine ev_bipush dX11_isOrder_11 ?_
  by_cases a1 : w = 107
  · skip
    refine ev_icmpeq 30 dX11_isOrder_13 (fun hb1 => ?_) (fun h_no => (by exfalso; omega))
    exact p30 (Or.inl a1)
  · skip
    refine ev_icmpeq 30 dX11_isOrder_13 (fun h_no => (by exfalso; omega)) (fun hb1 => ?_)
    refine ev_iload_n dX11_isOrder_16 rfl ?_
    refine ev_bipush dX11_isOrder_17 ?_
    by_cases a2 : w = 117
    · skip
      refine ev_icmpeq 30 dX11_isOrder_19 (fun hb2 => ?_) (fun h_no => (by exfalso; omega))
      exact p30 (Or.inr (Or.inl a2))
    · skip
      refine ev_icmpeq 30 dX11_isOrder_19 (fun h_no => (by exfalso; omega)) (fun hb2 => ?_)
      refine ev_iload_n dX11_isOrder_22 rfl ?_
      refine ev_bipush dX11_isOrder_23 ?_
      by_cases a3 : w = 120
      · skip
        refine ev_icmpeq 30 dX11_isOrder_25 (fun hb3 => ?_) (fun h_no => (by exfalso; omega))
        exact p30 (Or.inr (Or.inr a3))
      · skip
        refine ev_icmpeq 30 dX11_isOrder_25 (fun h_no => (by exfalso; omega)) (fun hb3 => ?_)
        refine ev_iconst dX11_isOrder_28 ?_
        have hio : io c n i = (false, i) := by rw [io, ← hw, if_pos (by omega)]
        exact ev_zret dX11_isOrder_29 (⟨_, rfl, by rw [hio]; rfl, KP.rf, by rw [hio]; exact h1⟩) (Or.inl rfl)
