/-! an order is done: the reference -/
def oD (c : Nat → Int) (n i : Nat) : Int := if nxt2 c n i = 117 then 0 else nxt2 c n (i + 1) - 48
def oC (c : Nat → Int) (n i : Nat) : Int := if nxt2 c n i = 120 then 0 else nxt2 c n (io1 c n i) - 65
abbrev OdA : List Nat := KeA
abbrev OdF : List Nat := 75 :: KeF
def OdQ (h : AH) (n i : Nat) (x : Int) (h1 : AH) : Prop := x = 1 ∧ KP h h1 OdA OdF ∧ h1.vl 42 75 = ((io (h.vl 88) n i).2 : Int) ∧ StQ h h1 206010 ∧ ∃ why det, odR (h.vl 43) (nxt2 (h.vl 88) n i) (oD (h.vl 88) n i) (oC (h.vl 88) n i) why det (h1.vl 43) ∧ ((why = 0 ∧ h1.vl 42 69 = h.vl 42 69) ∨ (why ≠ 0 ∧ h1.vl 42 69 = 1 ∧ h1.vl 42 7 = why ∧ h1.vl 42 8 = det))
theorem keN_ne {N : Nat} {LL : Nat → List Nd} {kp : Nat → Option TE} {p q w d : Int} (h : keN N LL kp p q w d) : w ≠ 0 := by
  rcases h with ⟨-, h, -⟩ | ⟨-, -, h, -⟩ | ⟨-, -, r, S, -, ⟨h1, h2, -⟩ | ⟨-, -, h2, -⟩⟩
  · omega
  · omega
  · rw [h2]; exact h1
  · omega
set_option maxRecDepth 100000 in
theorem s_isOrd1 {i n : Nat} {h : AH} (hI : RI h) (h1 : h.vl 42 75 = (i : Int)) (h2 : h.vl 42 76 = (n : Int)) (hn : n ≤ 60) (hi : i ≤ n) (ok : (io (h.vl 88) n i).1 = true) {N : Nat} {LL : Nat → List Nd} {kp : Nat → Option TE} (hS : VS (h.vl 43) N LL kp) (hsn : ∀ k, h.vl 71 k ≤ h.vl 42 50) (hst : 0 ≤ h.vl 42 50 ∧ h.vl 42 50 + 206010 ≤ 2147483000) (hv2 : -2147483648 ≤ h.vl 43 2 + 1 ∧ h.vl 43 2 + 1 ≤ 2147483647) : CV mX11_isOrder 11 [rv 42, iv 1] h (oi (OdQ h n i)) := by
  obtain ⟨c, hc⟩ : ∃ c, c = h.vl 88 := ⟨_, rfl⟩
  rw [← hc] at ok
  obtain ⟨w, hw⟩ : ∃ w, w = nxt2 c n i := ⟨_, rfl⟩
  have ein : ∀ g : AH, KP h g [] [75] → g.vl 88 = c := fun g k => by rw [hc]; exact k.vl
  have een : ∀ g : AH, KP h g [] [75] → g.vl 42 76 = (n : Int) := fun g k => (k.fl).trans h2
  have p157 : ∀ (g g1 : AH) (j : Nat) (d e r why det : Int), KP h g [] [75] → g.vl 42 75 = (j : Int) → io c n i = (true, j) → d = oD c n i → e = oC c n i → KP g g1 KeA KeF → StQ g g1 206010 → odR (h.vl 43) w d e why det (g1.vl 43) → ((why = 0 ∧ g1.vl 42 69 = g.vl 42 69) ∨ (why ≠ 0 ∧ g1.vl 42 69 = 1 ∧ g1.vl 42 7 = why ∧ g1.vl 42 8 = det)) → EV mX11_isOrder 11 157 [rv 42, iv 1, iv w, iv d, iv e] [iv r] g1 (oi (OdQ h n i)) := by
    intro g g1 j d e r why det k hj hio hd he k1 s1 ho hr
    have f75 : g1.vl 42 75 = (j : Int) := (k1.fl).trans hj
    have f50 : g.vl 42 50 = h.vl 42 50 := k.fl
    have f69 : g.vl 42 69 = h.vl 42 69 := k.fl
    refine ev_ist3 dX11_isOrder_157 ?_
    refine ev_iconst dX11_isOrder_158 ?_
    exact ev_zret dX11_isOrder_159 (⟨_, rfl, rfl, (k.wk (by decide) (by decide)).tr (k1.wk (by decide) (by decide)), by rw [← hc, hio]; exact f75, ⟨s1.1, by have := s1.2; omega⟩, why, det, by rw [← hc, ← hw, ← hd, ← he]; exact ho, by rw [← f69]; exact hr⟩) (Or.inr rfl)
  have p117 : ∀ (g : AH) (j : Nat) (d e : Int), KP h g [] [75] → g.vl 42 75 = (j : Int) → io c n i = (true, j) → d = oD c n i → e = oC c n i → (w = 117 → 0 ≤ e ∧ e ≤ 7) → EV mX11_isOrder 11 117 [rv 42, iv 1, iv w, iv d, iv e] [] g (oi (OdQ h n i)) := by
    intro g j d e k hj hio hd he he7
    have hIg : RI g := k.ri hI
    have f43 : g.vl 43 = h.vl 43 := k.vl
    have f50 : g.vl 42 50 = h.vl 42 50 := k.fl
    have f71 : g.vl 71 = h.vl 71 := k.vl
    have sng : ∀ x, g.vl 71 x ≤ g.vl 42 50 := fun x => by rw [f71, f50]; exact hsn x
    have hSg : VS (g.vl 43) N LL kp := by rw [f43]; exact hS
    refine ev_iload_n dX11_isOrder_117 rfl ?_
    refine ev_ifeq 158 dX11_isOrder_118 (fun h_no => (by exfalso; omega)) (fun hb => ?_)
    refine ev_iload_n dX11_isOrder_121 rfl ?_
    refine ev_bipush dX11_isOrder_122 ?_
    by_cases a1 : w = 107
    · skip
      refine ev_icmpne 137 dX11_isOrder_124 (fun h_no => (by exfalso; omega)) (fun hb2 => ?_)
      refine ev_aload_n dX11_isOrder_127 rfl ?_
      refine ev_iload_n dX11_isOrder_128 rfl ?_
      refine ev_iload dX11_isOrder_129 rfl ?_
      refine ev_cvi dX11_isOrder_131 lX11_373 (s_keeps hIg hSg.nv (hSg.kj sng) (by omega) (by rw [f43]; exact hv2)) (by decide) hIg.o hIg.n rfl rfl rfl (Nat.le_of_ble_eq_true rfl) rfl (fun r g1 q1 => ?_)
      obtain ⟨k1, sn1, st1, q1⟩ := q1
      refine ev_gt 157 dX11_isOrder_134 ?_
      rcases q1 with ⟨w', d', hk, rfl, r1, w1, d1, v1⟩ | ⟨T, hk, rfl, r1, v1⟩
      · exact p157 g g1 j d e _ w' d' k hj hio hd he k1 ⟨sn1, st1⟩ ⟨N, LL, kp, hS, Or.inl ⟨a1, Or.inl ⟨hk, by rw [v1, f43]⟩⟩⟩ (Or.inr ⟨keN_ne hk, r1, w1, d1⟩)
      · exact p157 g g1 j d e _ 0 0 k hj hio hd he k1 ⟨sn1, st1⟩ ⟨N, LL, kp, hS, Or.inl ⟨a1, Or.inr ⟨T, hk, rfl, by rw [v1, f43]⟩⟩⟩ (Or.inl ⟨rfl, r1⟩)
    refine ev_icmpne 137 dX11_isOrder_124 (fun hb2 => ?_) (fun h_no => (by exfalso; omega))
    refine ev_iload_n dX11_isOrder_137 rfl ?_
    refine ev_bipush dX11_isOrder_138 ?_
    by_cases a2 : w = 117
    · skip
      refine ev_icmpne 152 dX11_isOrder_140 (fun h_no => (by exfalso; omega)) (fun hb3 => ?_)
      refine ev_aload_n dX11_isOrder_143 rfl ?_
      refine ev_iload dX11_isOrder_144 rfl ?_
      refine ev_cvi dX11_isOrder_146 lX11_376 (s_unkeeps hIg) (by decide) hIg.o hIg.n rfl rfl rfl (Nat.le_of_ble_eq_true rfl) rfl (fun r g1 q => ?_)
      have hin := he7 a2
      refine ev_gt 157 dX11_isOrder_149 ?_
      rcases q with ⟨hp, rfl, hg1⟩ | ⟨hp, hz, rfl, hg1⟩ | ⟨hp, hz, rfl, k1, hv1⟩
      · exact absurd hin hp
      · have k1 : KP g g1 [] [7, 8, 69] := by rw [hg1]; exact ((KP.rf.pf (by decide)).pf (by decide)).pf (by decide)
        have e50 : g1.vl 42 50 = g.vl 42 50 := k1.fl
        have e43 : g1.vl 43 = g.vl 43 := k1.vl
        rw [f43] at hz
        exact p157 g g1 j d e _ 6 e k hj hio hd he (k1.wk (by decide) (by decide)) ⟨fun x => by rw [e50, k1.vl]; exact sng x, by omega⟩ ⟨N, LL, kp, hS, Or.inr (Or.inl ⟨a2, Or.inr (Or.inl ⟨hp, hz, rfl, rfl, by rw [e43, f43]⟩)⟩)⟩ (Or.inr ⟨by decide, by rw [hg1]; rfl, by rw [hg1]; rfl, by rw [hg1]; rfl⟩)
      · have e50 : g1.vl 42 50 = g.vl 42 50 := k1.fl
        rw [f43] at hz hv1
        exact p157 g g1 j d e _ 0 0 k hj hio hd he (k1.wk (by decide) (by decide)) ⟨fun x => by rw [e50, k1.vl]; exact sng x, by omega⟩ ⟨N, LL, kp, hS, Or.inr (Or.inl ⟨a2, Or.inr (Or.inr ⟨hp, hz, rfl, hv1⟩)⟩)⟩ (Or.inl ⟨rfl, k1.fl⟩)
    refine ev_icmpne 152 dX11_isOrder_140 (fun hb3 => ?_) (fun h_no => (by exfalso; omega))
    refine ev_aload_n dX11_isOrder_152 rfl ?_
    refine ev_iload_n dX11_isOrder_153 rfl ?_
    refine ev_cvi dX11_isOrder_154 lX11_364 (s_drops hIg hSg.nv) (by decide) hIg.o hIg.n rfl rfl rfl (Nat.le_of_ble_eq_true rfl) rfl (fun r g1 q => ?_)
    rcases q with ⟨hp, rfl, hg1⟩ | ⟨hp, rfl, k1, hv1⟩
    · have k1 : KP g g1 [] [7, 8, 69] := by rw [hg1]; exact ((KP.rf.pf (by decide)).pf (by decide)).pf (by decide)
      have e50 : g1.vl 42 50 = g.vl 42 50 := k1.fl
      have e43 : g1.vl 43 = g.vl 43 := k1.vl
      exact p157 g g1 j d e _ 2 d k hj hio hd he (k1.wk (by decide) (by decide)) ⟨fun x => by rw [e50, k1.vl]; exact sng x, by omega⟩ ⟨N, LL, kp, hS, Or.inr (Or.inr ⟨a1, a2, Or.inl ⟨hp, rfl, rfl, by rw [e43, f43]⟩⟩)⟩ (Or.inr ⟨by decide, by rw [hg1]; rfl, by rw [hg1]; rfl, by rw [hg1]; rfl⟩)
    · have e50 : g1.vl 42 50 = g.vl 42 50 := k1.fl (by decide)
      rw [f43] at hv1
      exact p157 g g1 j d e _ 0 0 k hj hio hd he (k1.wk (by decide) (by decide)) ⟨fun x => by rw [e50, k1.vl (by decide) (by decide)]; exact sng x, by omega⟩ ⟨N, LL, kp, hS, Or.inr (Or.inr ⟨a1, a2, Or.inr ⟨hp, rfl, hv1⟩⟩)⟩ (Or.inl ⟨rfl, k1.fl (by decide)⟩)
  have p80 : ∀ (g : AH) (j : Nat) (d : Int), KP h g [] [75] → g.vl 42 75 = (j : Int) → j ≤ 62 → d = oD c n i → io1 c n i = j → io c n i = (if w ≠ 120 ∧ ¬ (65 ≤ nxt2 c n j ∧ nxt2 c n j ≤ 72) then (false, j) else (true, if w = 120 then j else j + 1)) → EV mX11_isOrder 11 80 [rv 42, iv 1, iv w, iv d, iv 0] [] g (oi (OdQ h n i)) := by
    intro g j d k hj hj9 hd hj1 hio
    have hIg : RI g := k.ri hI
    refine ev_iload_n dX11_isOrder_80 rfl ?_
    refine ev_bipush dX11_isOrder_81 ?_
    by_cases k120 : w = 120
    · skip
      refine ev_icmpeq 117 dX11_isOrder_83 (fun hb => ?_) (fun h_no => (by exfalso; omega))
      exact p117 g j d 0 k hj (by rw [hio, if_neg (fun z => z.1 k120), if_pos k120]) hd (by rw [oC, ← hw, if_pos k120]) (fun z => by omega)
    · skip
      refine ev_icmpeq 117 dX11_isOrder_83 (fun h_no => (by exfalso; omega)) (fun hb => ?_)
      refine ev_aload_n dX11_isOrder_86 rfl ?_
      refine ev_cvi dX11_isOrder_87 lX11_424 (s_next2 hIg hj (een g k) hn) (by decide) hIg.o hIg.n rfl rfl rfl (Nat.le_of_ble_eq_true rfl) rfl (fun r z1 q => ?_)
      obtain ⟨rfl, e⟩ := q
      rw [e, ein g k]
      have cp : 65 ≤ nxt2 c n j ∧ nxt2 c n j ≤ 72 := Decidable.byContradiction fun z => by
        rw [hio, if_pos ⟨k120, z⟩] at ok
        exact Bool.noConfusion ok
      refine ev_csi dX11_isOrder_90 lX11_182 (f_cap1 cp) (by decide) rfl rfl (Nat.le_of_ble_eq_true rfl) rfl (fun r z2 q => ?_)
      obtain ⟨rfl, e⟩ := q
      rw [e]
      refine ev_ifne 98 dX11_isOrder_93 (fun hbr => ?_) (fun h_no => (by exfalso; omega))
      refine ev_aload_n dX11_isOrder_98 rfl ?_
      refine ev_cvi dX11_isOrder_99 lX11_424 (s_next2 hIg hj (een g k) hn) (by decide) hIg.o hIg.n rfl rfl rfl (Nat.le_of_ble_eq_true rfl) rfl (fun r z3 q => ?_)
      obtain ⟨rfl, e⟩ := q
      rw [e, ein g k]
      refine ev_bipush dX11_isOrder_102 ?_
      refine ev_isub dX11_isOrder_104 (by unfold ir; omega) ?_
      refine ev_ist4 dX11_isOrder_105 ?_
      refine ev_aload_n dX11_isOrder_107 rfl ?_
      refine ev_dup dX11_isOrder_108 ?_
      refine ev_getiv dX11_isOrder_109 fX11_418 hIg.o hIg.n rfl hj ?_
      refine ev_iconst dX11_isOrder_112 ?_
      refine ev_iadd dX11_isOrder_113 (by unfold ir; omega) ?_
      refine ev_pt dX11_isOrder_114 fX11_418 hIg.o hIg.n rfl ?_
      have e9 : (j : Int) + 1 = ((j + 1 : Nat) : Int) := rfl
      rw [e9]
      exact p117 _ (j + 1) _ _ (k.pf (by decide)) rfl (by rw [hio, if_neg (fun z => z.2 cp), if_neg k120]) hd (by rw [oC, ← hw, if_neg k120, hj1]) (fun _ => by omega)
  have p30 : (w = 107 ∨ w = 117 ∨ w = 120) → EV mX11_isOrder 11 30 [rv 42, iv 1, iv w, iv 0, iv 0] [] h (oi (OdQ h n i)) := by
    intro hww
    have e9 : (i : Int) + 1 = ((i + 1 : Nat) : Int) := rfl
    refine ev_aload_n dX11_isOrder_30 rfl ?_
    refine ev_dup dX11_isOrder_31 ?_
    refine ev_getiv dX11_isOrder_32 fX11_418 hI.o hI.n rfl h1 ?_
    refine ev_iconst dX11_isOrder_35 ?_
    refine ev_iadd dX11_isOrder_36 (by unfold ir; omega) ?_
    rw [e9]
    refine ev_pt dX11_isOrder_37 fX11_418 hI.o hI.n rfl ?_
    have k1 : KP h (h.put 42 75 ((i + 1 : Nat) : Int)) [] [75] := KP.rf.pf (by decide)
    have hI1 : RI (h.put 42 75 ((i + 1 : Nat) : Int)) := k1.ri hI
    obtain ⟨g, hg⟩ : ∃ g, g = h.put 42 75 ((i + 1 : Nat) : Int) := ⟨_, rfl⟩
    have j1 : g.vl 42 75 = ((i + 1 : Nat) : Int) := by rw [hg]; rfl
    rw [← hg] at k1 hI1
    rw [← hg]
    refine ev_iload_n dX11_isOrder_40 rfl ?_
    refine ev_bipush dX11_isOrder_41 ?_
    by_cases k117 : w = 117
    · skip
      refine ev_icmpeq 80 dX11_isOrder_43 (fun hb => ?_) (fun h_no => (by exfalso; omega))
      have i1 : io1 c n i = i + 1 := by rw [io1, ← hw, if_pos k117]
      refine p80 g (i + 1) 0 k1 j1 (by omega) (by rw [oD, ← hw, if_pos k117]) i1 ?_
      rw [io, ← hw, if_neg (fun z => z hww), if_neg (fun z => z.1 k117), i1]
    · skip
      refine ev_icmpeq 80 dX11_isOrder_43 (fun h_no => (by exfalso; omega)) (fun hb => ?_)
      refine ev_aload_n dX11_isOrder_46 rfl ?_
      refine ev_cvi dX11_isOrder_47 lX11_424 (s_next2 hI1 j1 (een g k1) hn) (by decide) hI1.o hI1.n rfl rfl rfl (Nat.le_of_ble_eq_true rfl) rfl (fun r z1 q => ?_)
      obtain ⟨rfl, e⟩ := q
      rw [e, ein g k1]
      refine ev_bipush dX11_isOrder_50 ?_
      refine ev_bipush dX11_isOrder_52 ?_
      have dg : 48 ≤ nxt2 c n (i + 1) ∧ nxt2 c n (i + 1) ≤ 57 := Decidable.byContradiction fun z => by
        rw [io, ← hw, if_neg (fun z => z hww), if_pos ⟨k117, z⟩] at ok
        exact Bool.noConfusion ok
      refine ev_csi dX11_isOrder_54 lX11_164 (f_isIn1 dg) (by decide) rfl rfl (Nat.le_of_ble_eq_true rfl) rfl (fun r z2 q => ?_)
      obtain ⟨rfl, e⟩ := q
      rw [e]
      refine ev_ifne 62 dX11_isOrder_57 (fun hbr => ?_) (fun h_no => (by exfalso; omega))
      refine ev_aload_n dX11_isOrder_62 rfl ?_
      refine ev_cvi dX11_isOrder_63 lX11_424 (s_next2 hI1 j1 (een g k1) hn) (by decide) hI1.o hI1.n rfl rfl rfl (Nat.le_of_ble_eq_true rfl) rfl (fun r z3 q => ?_)
      obtain ⟨rfl, e⟩ := q
      rw [e, ein g k1]
      refine ev_bipush dX11_isOrder_66 ?_
      refine ev_isub dX11_isOrder_68 (by unfold ir; omega) ?_
      refine ev_ist3 dX11_isOrder_69 ?_
      refine ev_aload_n dX11_isOrder_70 rfl ?_
      refine ev_dup dX11_isOrder_71 ?_
      refine ev_getiv dX11_isOrder_72 fX11_418 hI1.o hI1.n rfl j1 ?_
      refine ev_iconst dX11_isOrder_75 ?_
      refine ev_iadd dX11_isOrder_76 (by unfold ir; omega) ?_
      refine ev_pt dX11_isOrder_77 fX11_418 hI1.o hI1.n rfl ?_
      have e8 : ((i + 1 : Nat) : Int) + 1 = ((i + 2 : Nat) : Int) := rfl
      rw [e8]
      have i1 : io1 c n i = i + 2 := by rw [io1, ← hw, if_neg k117]
      refine p80 _ (i + 2) _ (k1.pf (by decide)) rfl (by omega) (by rw [oD, ← hw, if_neg k117]) i1 ?_
      rw [io, ← hw, if_neg (fun z => z hww), if_neg (fun z => z.2 dg), i1]
  refine cv_of cdX11_isOrder ?_
  show EV _ _ 0 [rv 42, iv 1, uv, uv, uv] [] h _
  refine ev_aload_n dX11_isOrder_0 rfl ?_
  refine ev_cvi dX11_isOrder_1 lX11_424 (s_next2 hI h1 h2 hn) (by decide) hI.o hI.n rfl rfl rfl (Nat.le_of_ble_eq_true rfl) rfl (fun r z1 q => ?_)
  obtain ⟨rfl, e⟩ := q
  rw [e, ← hc, ← hw]
  refine ev_ist2 dX11_isOrder_4 ?_
  refine ev_iconst dX11_isOrder_5 ?_
  refine ev_ist3 dX11_isOrder_6 ?_
  refine ev_iconst dX11_isOrder_7 ?_
  refine ev_ist4 dX11_isOrder_8 ?_
  refine ev_iload_n dX11_isOrder_10 rfl ?_
  refine ev_bipush dX11_isOrder_11 ?_
  by_cases a1 : w = 107
  · skip
    refine ev_icmpeq 30 dX11_isOrder_13 (fun hb1 => ?_) (fun h_no => (by exfalso; omega))
    exact p30 (Or.inl a1)
  · skip
    refine ev_icmpeq 30 dX11_isOrder_13 (fun h_no => (by exfalso; omega)) (fun hb1 => ?_)
    refine ev_iload_n dX11_isOrder_16 rfl ?_
    refine ev_bipush dX11_isOrder_17 ?_
    by_cases a2 : w = 117
    · skip
      refine ev_icmpeq 30 dX11_isOrder_19 (fun hb2 => ?_) (fun h_no => (by exfalso; omega))
      exact p30 (Or.inr (Or.inl a2))
    · skip
      refine ev_icmpeq 30 dX11_isOrder_19 (fun h_no => (by exfalso; omega)) (fun hb2 => ?_)
      refine ev_iload_n dX11_isOrder_22 rfl ?_
      refine ev_bipush dX11_isOrder_23 ?_
      have a3 : w = 120 := Decidable.byContradiction fun z => by
        rw [io, ← hw, if_pos (by omega)] at ok
        exact Bool.noConfusion ok
      refine ev_icmpeq 30 dX11_isOrder_25 (fun hb3 => ?_) (fun h_no => (by exfalso; omega))
      exact p30 (Or.inr (Or.inr a3))
