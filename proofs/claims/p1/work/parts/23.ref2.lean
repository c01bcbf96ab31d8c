/-! the reference's walks over parts -/
def lk (c : Int) : Int := if 97 ≤ c ∧ c ≤ 122 then 0 else if 65 ≤ c ∧ c ≤ 72 then 1 else if 48 ≤ c ∧ c ≤ 57 then 2 else if c = 43 ∨ c = 60 ∨ c = 63 then 3 else -1
set_option maxRecDepth 100000 in
theorem s_is {t k N : Nat} {h : AH} (hI : RI h) (hN : N ≤ 20000) (hl : ∀ u, u < N → h.vl 69 u < (N : Int)) (ht : t < N) (hr : h.vl 69 (rt (h.vl 69) k t) < 0) : CV mX11_is 1 [rv 42, iv t] h (oi fun r h1 => r = (rt (h.vl 69) k t : Int) ∧ h1 = h) := by
  refine cv_of cdX11_is ?_
  show EV _ _ 0 [rv 42, iv t, uv] [] h _
  refine ev_iload_n dX11_is_0 rfl ?_
  refine ev_ist2 dX11_is_1 ?_
  suffices K : ∀ (k u : Nat), u < N → h.vl 69 (rt (h.vl 69) k u) < 0 → EV mX11_is 1 2 [rv 42, iv t, iv u] [] h (oi fun r h1 => r = (rt (h.vl 69) k u : Int) ∧ h1 = h) from K k t ht hr
  intro k
  induction k with
  | zero =>
    intro u hu hr
    refine ev_aload_n dX11_is_2 rfl ?_
    refine ev_getrv dX11_is_3 fX11_92 hI.o hI.n rfl hI.v_link ?_
    refine ev_iload_n dX11_is_6 rfl ?_
    refine ev_ildv dX11_is_7 hI.k_link hI.n_link rfl (by omega) (by omega) (show _ = h.vl 69 u from rfl) ?_
    refine ev_iflt 21 dX11_is_8 (fun hc => ?_) (fun h_no => (by exfalso; have hr : h.vl 69 u < 0 := hr; omega))
    refine ev_iload_n dX11_is_21 rfl ?_
    exact ev_iret dX11_is_22 (⟨_, rfl, rfl, rfl⟩)
  | succ k ih =>
    intro u hu hr
    refine ev_aload_n dX11_is_2 rfl ?_
    refine ev_getrv dX11_is_3 fX11_92 hI.o hI.n rfl hI.v_link ?_
    refine ev_iload_n dX11_is_6 rfl ?_
    refine ev_ildv dX11_is_7 hI.k_link hI.n_link rfl (by omega) (by omega) (show _ = h.vl 69 u from rfl) ?_
    refine ev_iflt 21 dX11_is_8 (fun hc => ?_) (fun hc => ?_)
    · refine ev_iload_n dX11_is_21 rfl ?_
      exact ev_iret dX11_is_22 (⟨_, rfl, by rw [rt_end hc], rfl⟩)
    · have e : rt (h.vl 69) (k + 1) u = rt (h.vl 69) k (h.vl 69 u).toNat := if_neg hc
      have hw := hl u hu
      obtain ⟨w, hw2⟩ : ∃ w : Nat, h.vl 69 u = w := ⟨_, (Int.toNat_of_nonneg (by omega)).symm⟩
      rw [e] at hr ⊢
      rw [show (h.vl 69 u).toNat = w by omega] at hr ⊢
      refine ev_aload_n dX11_is_11 rfl ?_
      refine ev_getrv dX11_is_12 fX11_92 hI.o hI.n rfl hI.v_link ?_
      refine ev_iload_n dX11_is_15 rfl ?_
      refine ev_ildv dX11_is_16 hI.k_link hI.n_link rfl (by omega) (by omega) (show _ = h.vl 69 u from rfl) ?_
      refine ev_ist2 dX11_is_17 ?_
      rw [hw2]
      refine ev_gt 2 dX11_is_18 ?_
      exact ih w (by omega) hr
set_option maxRecDepth 100000 in
theorem s_is' {N : Nat} {t : Int} {rr : Nat → Nat} {h : AH} (hI : RI h) (hN : N ≤ 20000) (hg : GW (h.vl 66) (h.vl 67) (h.vl 68) (h.vl 69) N rr) (h0 : 0 ≤ t) (ht : t < (N : Int)) : CV mX11_is 1 [rv 42, iv t] h (oi fun r h1 => r = (rr t.toNat : Int) ∧ h1 = h) := by
  obtain ⟨k, e1, e2, -⟩ := hg.2.1 t.toNat (by omega)
  have := s_is (t := t.toNat) (k := k) hI hN hg.1 (by omega) (by rw [e1]; exact e2)
  rw [e1, show ((t.toNat : Nat) : Int) = t by omega] at this
  exact this
set_option maxRecDepth 100000 in
theorem s_starts {N : Nat} {t : Int} {rr : Nat → Nat} {h : AH} (hI : RI h) (hN : N ≤ 20000) (hg : GW (h.vl 66) (h.vl 67) (h.vl 68) (h.vl 69) N rr) (h0 : 0 ≤ t) (ht : t < (N : Int)) : CV mX11_starts 2 [rv 42, iv t] h (on fun h1 => h1 = (h.put 74 0 (rr t.toNat : Int)).put 42 51 1) := by
  refine cv_of cdX11_starts ?_
  show EV _ _ 0 [rv 42, iv t] [] h _
  refine ev_aload_n dX11_starts_0 rfl ?_
  refine ev_getrv dX11_starts_1 fX11_107 hI.o hI.n rfl hI.v_stack ?_
  refine ev_iconst dX11_starts_4 ?_
  refine ev_aload_n dX11_starts_5 rfl ?_
  refine ev_iload_n dX11_starts_6 rfl ?_
  refine ev_cvi dX11_starts_7 lX11_223 (s_is' hI hN hg h0 ht) (by decide) hI.o hI.n rfl rfl rfl (Nat.le_of_ble_eq_true rfl) rfl (fun r h1 q => ?_)
  obtain ⟨rfl, rfl⟩ := q
  refine ev_istr dX11_starts_10 hI.k_stack hI.n_stack rfl (by omega) (by omega) ?_
  refine ev_aload_n dX11_starts_11 rfl ?_
  refine ev_iconst dX11_starts_12 ?_
  refine ev_pt dX11_starts_13 fX11_220 hI.o hI.n rfl ?_
  exact ev_vret dX11_starts_16 (⟨rfl, rfl⟩)
set_option maxHeartbeats 1000000 in
set_option maxRecDepth 100000 in
theorem s_turn {N : Nat} {rr : Nat → Nat} (hN : N ≤ 20000) {so fr to li : Nat → Int} (hg : GW so fr to li N rr) {st : Int} : ∀ (f n : Nat) (stk seen : Nat → Int) (r : Int) (n' : Nat) (stk' seen' : Nat → Int) (h h0 : AH) (v1 : AV), RI h → KP h0 h [74, 71] [51] → h.vl 66 = so → h.vl 67 = fr → h.vl 68 = to → h.vl 69 = li → h.vl 42 50 = st → h.vl 42 51 = (n : Int) → h.vl 74 = stk → h.vl 71 = seen → 1 ≤ n → n + f ≤ 20000 → (∀ i, i < n → 0 ≤ stk i ∧ stk i < (N : Int)) → turnP so fr to rr st f n stk seen = some (r, n', stk', seen') →
    EV mX11_turn 3 0 [rv 42, v1] [] h (oi fun x h1 => x = r ∧ KP h0 h1 [74, 71] [51] ∧ h1.vl 42 51 = (n' : Int) ∧ h1.vl 74 = stk' ∧ h1.vl 71 = seen') := by
  intro f
  induction f with
  | zero => intro n stk seen r n' stk' seen' h h0 v1 _ _ _ _ _ _ _ _ _ _ _ _ _ hp; exact absurd hp (by simp [turnP])
  | succ f ih =>
    intro n stk seen r n' stk' seen' h h0 v1 hI hK hso hfr hto hli hst hn hstk hseen h1 h9 hs hp
    obtain ⟨m, rfl⟩ : ∃ m, n = m + 1 := ⟨n - 1, by omega⟩
    have hg' : GW (h.vl 66) (h.vl 67) (h.vl 68) (h.vl 69) N rr := by rw [hso, hfr, hto, hli]; exact hg
    have hm := hs m (by omega)
    have e1 : h.vl 74 (h.vl 42 51 - 1).toNat = stk m := by rw [hn, hstk]; congr 1; omega
    refine ev_aload_n dX11_turn_0 rfl ?_
    refine ev_aload_n dX11_turn_1 rfl ?_
    refine ev_getrv dX11_turn_2 fX11_107 hI.o hI.n rfl hI.v_stack ?_
    refine ev_aload_n dX11_turn_5 rfl ?_
    refine ev_geti dX11_turn_6 fX11_220 hI.o hI.n rfl ?_
    refine ev_iconst dX11_turn_9 ?_
    refine ev_isub dX11_turn_10 (by unfold ir; omega) ?_
    refine ev_ild dX11_turn_11 hI.k_stack hI.n_stack rfl (by omega) (by omega) ?_
    rw [e1]
    refine ev_cvi dX11_turn_12 lX11_223 (s_is' hI hN hg' hm.1 hm.2) (by decide) hI.o hI.n rfl rfl rfl (Nat.le_of_ble_eq_true rfl) rfl (fun r h1 q => ?_)
    obtain ⟨rfl, rfl⟩ := q
    unfold turnP at hp
    rw [Nat.add_sub_cancel] at hp
    obtain ⟨t, ht⟩ : ∃ t, t = rr (stk m).toNat := ⟨_, rfl⟩
    have htN : t < N := by rw [ht]; obtain ⟨_, _, _, z⟩ := hg.2.1 (stk m).toNat (by omega); exact z
    rw [← ht] at hp ⊢
    refine ev_ist1 dX11_turn_15 ?_
    refine ev_aload_n dX11_turn_16 rfl ?_
    refine ev_getrv dX11_turn_17 fX11_98 hI.o hI.n rfl hI.v_seen ?_
    refine ev_iload_n dX11_turn_20 rfl ?_
    refine ev_ildv dX11_turn_21 hI.k_seen hI.n_seen rfl (by omega) (by omega) (show _ = h1.vl 71 t from rfl) ?_
    refine ev_aload_n dX11_turn_22 rfl ?_
    refine ev_geti dX11_turn_23 fX11_226 hI.o hI.n rfl ?_
    rw [show h1.vl 71 t = seen t by rw [hseen], show h1.vl 42 50 = st from hst]
    have push : ∀ x : Nat, x < N → turnP so fr to rr st f (m + 1 + 1) (upI stk (m + 1) x) seen = some (r, n', stk', seen') →
        EV mX11_turn 3 0 [rv 42, iv t] [] ((h1.put 74 (h1.vl 42 51).toNat (x : Int)).put 42 51 (h1.vl 42 51 + 1)) (oi fun x h1 => x = r ∧ KP h0 h1 [74, 71] [51] ∧ h1.vl 42 51 = (n' : Int) ∧ h1.vl 74 = stk' ∧ h1.vl 71 = seen') := by
      intro x hx hp
      refine ih (m + 1 + 1) (upI stk (m + 1) x) seen r n' stk' seen' _ h0 _ (((KP.rf (A := [74, 71]) (F := [51])).pr (by decide) (by decide) |>.pf (by decide)).ri hI) ((hK.pr (by decide) (by decide)).pf (by decide)) ((put_ne _ (by decide)).trans ((put_ne _ (by decide)).trans hso)) ((put_ne _ (by decide)).trans ((put_ne _ (by decide)).trans hfr)) ((put_ne _ (by decide)).trans ((put_ne _ (by decide)).trans hto)) ((put_ne _ (by decide)).trans ((put_ne _ (by decide)).trans hli)) hst (by show h1.vl 42 51 + 1 = _; omega) ?_ ((put_ne _ (by decide)).trans ((put_ne _ (by decide)).trans hseen)) (by omega) (by omega) (fun i hi => ?_) hp
      · refine (put_ne _ (by decide)).trans ((put_row _ _ _ _).trans ?_)
        rw [hstk, show (h1.vl 42 51).toNat = m + 1 by omega]
      · by_cases q : i = m + 1
        · rw [q, upI_s]; omega
        · rw [upI_n q]; exact hs i (by omega)
    refine ev_icmpne 41 dX11_turn_26 (fun hc => ?_) (fun hc => ?_)
    · rw [if_neg hc] at hp
      refine ev_aload_n dX11_turn_41 rfl ?_
      refine ev_getrv dX11_turn_42 fX11_83 hI.o hI.n rfl hI.v_sort ?_
      refine ev_iload_n dX11_turn_45 rfl ?_
      refine ev_ildv dX11_turn_46 hI.k_sort hI.n_sort rfl (by omega) (by omega) (show _ = h1.vl 66 t from rfl) ?_
      refine ev_iconst dX11_turn_47 ?_
      rw [show h1.vl 66 t = so t by rw [hso]]
      have h2 : ∀ (_ : ¬ (so t = 2 ∧ seen (rr (fr t).toNat) ≠ st)), EV mX11_turn 3 105 [rv 42, iv t] [] h1 (oi fun x h1 => x = r ∧ KP h0 h1 [74, 71] [51] ∧ h1.vl 42 51 = (n' : Int) ∧ h1.vl 74 = stk' ∧ h1.vl 71 = seen') := by
        intro hno
        rw [if_neg hno] at hp
        have h3 : ∀ (_ : ¬ (so t = 2 ∧ seen (rr (to t).toNat) ≠ st)), EV mX11_turn 3 169 [rv 42, iv t] [] h1 (oi fun x h1 => x = r ∧ KP h0 h1 [74, 71] [51] ∧ h1.vl 42 51 = (n' : Int) ∧ h1.vl 74 = stk' ∧ h1.vl 71 = seen') := by
          intro hno
          rw [if_neg hno] at hp
          simp only [Option.some.injEq, Prod.mk.injEq] at hp
          obtain ⟨rfl, rfl, rfl, rfl⟩ := hp
          refine ev_aload_n dX11_turn_169 rfl ?_
          refine ev_getrv dX11_turn_170 fX11_98 hI.o hI.n rfl hI.v_seen ?_
          refine ev_iload_n dX11_turn_173 rfl ?_
          refine ev_aload_n dX11_turn_174 rfl ?_
          refine ev_geti dX11_turn_175 fX11_226 hI.o hI.n rfl ?_
          refine ev_istr dX11_turn_178 hI.k_seen hI.n_seen rfl (by omega) (by omega) ?_
          refine ev_aload_n dX11_turn_179 rfl ?_
          refine ev_dup dX11_turn_180 ?_
          refine ev_getiv dX11_turn_181 fX11_220 hI.o hI.n rfl (show _ = h1.vl 42 51 from rfl) ?_
          refine ev_iconst dX11_turn_184 ?_
          refine ev_isub dX11_turn_185 (by unfold ir; omega) ?_
          refine ev_pt dX11_turn_186 fX11_220 hI.o hI.n rfl ?_
          refine ev_iload_n dX11_turn_189 rfl ?_
          exact ev_iret dX11_turn_190 (⟨_, rfl, rfl, (hK.pr (by decide) (by decide)).pf (by decide), by show h1.vl 42 51 - 1 = _; omega, (put_ne _ (by decide)).trans ((put_ne _ (by decide)).trans hstk), (put_ne _ (by decide)).trans ((put_row _ _ _ _).trans (by rw [hseen, hst]; rfl))⟩)
        refine ev_aload_n dX11_turn_105 rfl ?_
        refine ev_getrv dX11_turn_106 fX11_83 hI.o hI.n rfl hI.v_sort ?_
        refine ev_iload_n dX11_turn_109 rfl ?_
        refine ev_ildv dX11_turn_110 hI.k_sort hI.n_sort rfl (by omega) (by omega) (show _ = h1.vl 66 t from rfl) ?_
        refine ev_iconst dX11_turn_111 ?_
        rw [show h1.vl 66 t = so t by rw [hso]]
        refine ev_icmpne 169 dX11_turn_112 (fun hc2 => ?_) (fun hc2 => ?_)
        · exact h3 (fun z => hc2 z.1)
        · have hft := (hg.2.2 t htN hc2).2
          refine ev_aload_n dX11_turn_115 rfl ?_
          refine ev_getrv dX11_turn_116 fX11_98 hI.o hI.n rfl hI.v_seen ?_
          refine ev_aload_n dX11_turn_119 rfl ?_
          refine ev_aload_n dX11_turn_120 rfl ?_
          refine ev_getrv dX11_turn_121 fX11_89 hI.o hI.n rfl hI.v_to ?_
          refine ev_iload_n dX11_turn_124 rfl ?_
          refine ev_ildv dX11_turn_125 hI.k_to hI.n_to rfl (by omega) (by omega) (show _ = h1.vl 68 t from rfl) ?_
          rw [show h1.vl 68 t = to t by rw [hto]]
          refine ev_cvi dX11_turn_126 lX11_223 (s_is' hI hN hg' hft.1 hft.2) (by decide) hI.o hI.n rfl rfl rfl (Nat.le_of_ble_eq_true rfl) rfl (fun r2 h2 q => ?_)
          obtain ⟨rfl, rfl⟩ := q
          have htN2 : rr (to t).toNat < N := by obtain ⟨_, _, _, z⟩ := hg.2.1 (to t).toNat (by omega); exact z
          refine ev_ild dX11_turn_129 hI.k_seen hI.n_seen rfl (by omega) (by omega) ?_
          refine ev_aload_n dX11_turn_130 rfl ?_
          refine ev_geti dX11_turn_131 fX11_226 hI.o hI.n rfl ?_
          rw [show h2.vl 71 ((rr (to t).toNat : Nat) : Int).toNat = seen (rr (to t).toNat) by rw [hseen]; rfl, show h2.vl 42 50 = st from hst]
          refine ev_icmpeq 169 dX11_turn_134 (fun hc3 => ?_) (fun hc3 => ?_)
          · exact h3 (fun z => z.2 hc3)
          · rw [if_pos ⟨hc2, hc3⟩] at hp
            refine ev_aload_n dX11_turn_137 rfl ?_
            refine ev_getrv dX11_turn_138 fX11_107 hI.o hI.n rfl hI.v_stack ?_
            refine ev_aload_n dX11_turn_141 rfl ?_
            refine ev_geti dX11_turn_142 fX11_220 hI.o hI.n rfl ?_
            refine ev_aload_n dX11_turn_145 rfl ?_
            refine ev_aload_n dX11_turn_146 rfl ?_
            refine ev_getrv dX11_turn_147 fX11_89 hI.o hI.n rfl hI.v_to ?_
            refine ev_iload_n dX11_turn_150 rfl ?_
            refine ev_ildv dX11_turn_151 hI.k_to hI.n_to rfl (by omega) (by omega) (show _ = h2.vl 68 t from rfl) ?_
            rw [show h2.vl 68 t = to t by rw [hto]]
            refine ev_cvi dX11_turn_152 lX11_223 (s_is' hI hN hg' hft.1 hft.2) (by decide) hI.o hI.n rfl rfl rfl (Nat.le_of_ble_eq_true rfl) rfl (fun r2 g3 q => ?_)
            obtain ⟨rfl, rfl⟩ := q
            refine ev_istr dX11_turn_155 hI.k_stack hI.n_stack rfl (by omega) (by omega) ?_
            refine ev_aload_n dX11_turn_156 rfl ?_
            refine ev_dup dX11_turn_157 ?_
            refine ev_getiv dX11_turn_158 fX11_220 hI.o hI.n rfl (show _ = g3.vl 42 51 from rfl) ?_
            refine ev_iconst dX11_turn_161 ?_
            refine ev_iadd dX11_turn_162 (by unfold ir; omega) ?_
            refine ev_pt dX11_turn_163 fX11_220 hI.o hI.n rfl ?_
            refine ev_gt 191 dX11_turn_166 ?_
            refine ev_gt 0 dX11_turn_191 ?_
            exact push _ htN2 hp
      refine ev_icmpne 105 dX11_turn_48 (fun hc2 => ?_) (fun hc2 => ?_)
      · exact h2 (fun z => hc2 z.1)
      · have hft := (hg.2.2 t htN hc2).1
        refine ev_aload_n dX11_turn_51 rfl ?_
        refine ev_getrv dX11_turn_52 fX11_98 hI.o hI.n rfl hI.v_seen ?_
        refine ev_aload_n dX11_turn_55 rfl ?_
        refine ev_aload_n dX11_turn_56 rfl ?_
        refine ev_getrv dX11_turn_57 fX11_86 hI.o hI.n rfl hI.v_from ?_
        refine ev_iload_n dX11_turn_60 rfl ?_
        refine ev_ildv dX11_turn_61 hI.k_from hI.n_from rfl (by omega) (by omega) (show _ = h1.vl 67 t from rfl) ?_
        rw [show h1.vl 67 t = fr t by rw [hfr]]
        refine ev_cvi dX11_turn_62 lX11_223 (s_is' hI hN hg' hft.1 hft.2) (by decide) hI.o hI.n rfl rfl rfl (Nat.le_of_ble_eq_true rfl) rfl (fun r2 h2' q => ?_)
        obtain ⟨rfl, rfl⟩ := q
        have htN2 : rr (fr t).toNat < N := by obtain ⟨_, _, _, z⟩ := hg.2.1 (fr t).toNat (by omega); exact z
        refine ev_ild dX11_turn_65 hI.k_seen hI.n_seen rfl (by omega) (by omega) ?_
        refine ev_aload_n dX11_turn_66 rfl ?_
        refine ev_geti dX11_turn_67 fX11_226 hI.o hI.n rfl ?_
        rw [show h2'.vl 71 ((rr (fr t).toNat : Nat) : Int).toNat = seen (rr (fr t).toNat) by rw [hseen]; rfl, show h2'.vl 42 50 = st from hst]
        refine ev_icmpeq 105 dX11_turn_70 (fun hc3 => ?_) (fun hc3 => ?_)
        · exact h2 (fun z => z.2 hc3)
        · rw [if_pos ⟨hc2, hc3⟩] at hp
          refine ev_aload_n dX11_turn_73 rfl ?_
          refine ev_getrv dX11_turn_74 fX11_107 hI.o hI.n rfl hI.v_stack ?_
          refine ev_aload_n dX11_turn_77 rfl ?_
          refine ev_geti dX11_turn_78 fX11_220 hI.o hI.n rfl ?_
          refine ev_aload_n dX11_turn_81 rfl ?_
          refine ev_aload_n dX11_turn_82 rfl ?_
          refine ev_getrv dX11_turn_83 fX11_86 hI.o hI.n rfl hI.v_from ?_
          refine ev_iload_n dX11_turn_86 rfl ?_
          refine ev_ildv dX11_turn_87 hI.k_from hI.n_from rfl (by omega) (by omega) (show _ = h2'.vl 67 t from rfl) ?_
          rw [show h2'.vl 67 t = fr t by rw [hfr]]
          refine ev_cvi dX11_turn_88 lX11_223 (s_is' hI hN hg' hft.1 hft.2) (by decide) hI.o hI.n rfl rfl rfl (Nat.le_of_ble_eq_true rfl) rfl (fun r2 g3 q => ?_)
          obtain ⟨rfl, rfl⟩ := q
          refine ev_istr dX11_turn_91 hI.k_stack hI.n_stack rfl (by omega) (by omega) ?_
          refine ev_aload_n dX11_turn_92 rfl ?_
          refine ev_dup dX11_turn_93 ?_
          refine ev_getiv dX11_turn_94 fX11_220 hI.o hI.n rfl (show _ = g3.vl 42 51 from rfl) ?_
          refine ev_iconst dX11_turn_97 ?_
          refine ev_iadd dX11_turn_98 (by unfold ir; omega) ?_
          refine ev_pt dX11_turn_99 fX11_220 hI.o hI.n rfl ?_
          refine ev_gt 191 dX11_turn_102 ?_
          refine ev_gt 0 dX11_turn_191 ?_
          exact push _ htN2 hp
    · rw [if_pos hc] at hp
      simp only [Option.some.injEq, Prod.mk.injEq] at hp
      obtain ⟨rfl, rfl, rfl, rfl⟩ := hp
      refine ev_aload_n dX11_turn_29 rfl ?_
      refine ev_dup dX11_turn_30 ?_
      refine ev_geti dX11_turn_31 fX11_220 hI.o hI.n rfl ?_
      refine ev_iconst dX11_turn_34 ?_
      refine ev_isub dX11_turn_35 (by unfold ir; omega) ?_
      refine ev_pt dX11_turn_36 fX11_220 hI.o hI.n rfl ?_
      refine ev_iconst dX11_turn_39 ?_
      exact ev_iret dX11_turn_40 (⟨_, rfl, rfl, hK.pf (by decide), by show h1.vl 42 51 - 1 = _; omega, (put_ne _ (by decide)).trans hstk, (put_ne _ (by decide)).trans hseen⟩)
