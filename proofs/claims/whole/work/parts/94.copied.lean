/-! the reference's copied -/
theorem ins_lf {nv : Nat} {gn : Nat → Bool} {x : Nat} (h : x < 2 ∨ gn x = false) : insG nv gn (.var x) = .var x := by
  unfold insG
  rw [sbs]
  by_cases c : x < 2
  · rw [if_pos c]
  · rw [if_neg c, if_neg (by rw [h.resolve_left c]; decide)]
theorem ins_gn {nv : Nat} {gn : Nat → Bool} {x : Nat} (h : ¬ x < 2) (hg : gn x = true) : insG nv gn (.var x) = .var (nv + x) := by
  unfold insG
  rw [sbs, if_neg h, if_pos hg]
set_option maxRecDepth 100000 in
theorem s_copied {h : AH} {N aB nv : Nat} {gn : Nat → Bool} {rr : Nat → Nat} {tr : Nat → TE} {τ : Nat → Nat} {t : Nat} (hI0 : RI h) (hR : RT h N aB rr tr τ nv gn) (htN : t < N) (hsz : gsz gn (nmC τ (tr t)) ≤ 200 ∧ gop gn (nmC τ (tr t)) ≤ 99) (hN : N + 200 ≤ 20000) (haB : aB + 100 ≤ 9800) (hgn : ∀ x, gn x = true → x < nv) (h2 : 2 ≤ nv) (hst0 : 0 ≤ h.vl 42 50) (hst9 : h.vl 42 50 + 1 ≤ 2147483000) :
    CV mX11_copied 5 [rv 42, iv (t : Int)] h (oi fun r h1 => ∃ (c M x z : Nat) (se : Nat → Int) (rr' : Nat → Nat) (tr' : Nat → TE) (τ' : Nat → Nat), r = (c : Int) ∧ c < M ∧ (x ≤ 200 ∧ z ≤ 99) ∧ CpO h N aB rr tr τ nv gn se N h1 x z M rr' tr' τ' ∧ nmC τ' (tr' c) = insG nv gn (nmC τ (tr t))) := by
  have hNG := hR.1
  obtain ⟨hrr, hrr2, -⟩ := hNG.2.1 t htN
  have Kl : ∀ (F n : Nat) (v2 v3 v4 : AV) (stkK seenK : Nat → Int) (xK : Nat × Nat) (g : AH) (x z M : Nat) (se : Nat → Int) (rr' : Nat → Nat) (tr' : Nat → TE) (τ' : Nat → Nat), CpO h N aB rr tr τ nv gn se N g x z M rr' tr' τ' → (∀ c, c < N → g.vl 71 c = se c) → g.vl 42 51 = (n : Int) → (∀ i, i < n → 0 ≤ g.vl 74 i ∧ g.vl 74 i < (N : Int)) → seenK (rr t) = h.vl 42 50 + 1 → (xK.1 ≤ 200 ∧ xK.2 ≤ 99) → loopP (h.vl 66) (h.vl 67) (h.vl 68) rr (h.vl 42 50 + 1) (bdC (h.vl 66) (fun k => gnO gn (nmC τ (tr k)))) (ht (tr t) + 1) F n (g.vl 74) se (x, z) = some (stkK, seenK, xK) →
      EV mX11_copied 5 15 [rv 42, iv (t : Int), v2, v3, v4] [] g (oi fun r h1 => ∃ (c M x z : Nat) (se : Nat → Int) (rr' : Nat → Nat) (tr' : Nat → TE) (τ' : Nat → Nat), r = (c : Int) ∧ c < M ∧ (x ≤ 200 ∧ z ≤ 99) ∧ CpO h N aB rr tr τ nv gn se N h1 x z M rr' tr' τ' ∧ nmC τ' (tr' c) = insG nv gn (nmC τ (tr t))) := by
    intro F
    induction F with
    | zero => intro n v2 v3 v4 stkK seenK xK g x z M se rr' tr' τ' _ _ _ _ _ _ hp; exact absurd hp (by simp [loopP])
    | succ F ih =>
      intro n v2 v3 v4 stkK seenK xK g x z M se rr' tr' τ' c hse hn hs hsK hxK hp
      have hI : RI g := c.1.1.ri hI0
      have hG := c.gh
      have hx0 := loop_cnt _ _ _ _ _ _ hp
      have hx : x ≤ xK.1 ∧ z ≤ xK.2 := hx0
      have hMN := c.2.2.1
      refine ev_aload_n dX11_copied_15 rfl ?_
      refine ev_geti dX11_copied_16 fX11_220 hI.o hI.n rfl ?_
      rw [hn]
      by_cases n0 : n = 0
      · skip
        subst n0
        refine ev_ifle 187 dX11_copied_19 (fun hc => ?_) (fun h_no => (by exfalso; omega))
        have hd := loop_done hp
        simp only [Prod.mk.injEq] at hd
        obtain ⟨m, m1, m2, m3, -⟩ := c.2.2.2.2.2.2 (rr t) hrr hrr2 (by rw [← hd.2.1]; exact hsK) (by omega)
        refine ev_aload_n dX11_copied_187 rfl ?_
        refine ev_getrv dX11_copied_188 fX11_101 hI.o hI.n rfl hI.v_memo ?_
        refine ev_aload_n dX11_copied_191 rfl ?_
        refine ev_iload_n dX11_copied_192 rfl ?_
        refine ev_cvi dX11_copied_193 lX11_223 (s_is' (t := (t : Int)) hI hG.1 hG.2.1 (by omega) (by omega)) (by decide) hI.o hI.n rfl rfl rfl (Nat.le_of_ble_eq_true rfl) rfl (fun r1 g1 q => ?_)
        obtain ⟨rfl, e⟩ := q
        rw [e, show ((t : Nat) : Int).toNat = t from rfl, (c.2.2.2.2.1 t htN).1]
        refine ev_ildv dX11_copied_196 hI.k_memo hI.n_memo rfl (by omega) (by omega) m2 ?_
        exact ev_iret dX11_copied_197 (⟨_, rfl, m, M, x, z, se, rr', tr', τ', rfl, m1, by omega, c, by rw [m3, hNG.2.1.rr htN]⟩)
      refine ev_ifle 187 dX11_copied_19 (fun h_no => (by exfalso; omega)) (fun hc => ?_)
      obtain ⟨m, rfl⟩ : ∃ m, n = m + 1 := ⟨n - 1, by omega⟩
      obtain ⟨hb, r, n', stk', seen', F', hF, hq, hp⟩ := loop_some hp
      obtain rfl : F' = F := by omega
      obtain ⟨s2, hq2, hs2⟩ := turn_cg (so2 := g.vl 66) (fr2 := g.vl 67) (to2 := g.vl 68) (rr2 := rr') hNG.1 hNG.2.1 (fun t h => (c.2.1 t h).1) (fun t h => (c.2.1 t h).2.1) (fun t h => (c.2.1 t h).2.2) (fun t h => (c.2.2.2.2.1 t h).1) _ _ _ se (g.vl 71) _ _ _ _ hq (by omega) hs hse
      have hr := turn_rng hNG.1 hq (by omega) hs
      have hrt := turn_ret hNG.1 hNG.2.1 hq (by omega) hs
      refine ev_aload_n dX11_copied_22 rfl ?_
      refine ev_cvi dX11_copied_23 lX11_232 (s_turnc hI hG hn (by omega) hb (fun i hi => by have := hs i hi; omega) (by rw [c.1.2]; exact hq2)) (by decide) hI.o hI.n rfl rfl rfl (Nat.le_of_ble_eq_true rfl) rfl (fun r1 g1 q => ?_)
      obtain ⟨rfl, hK1, hn1, hs1, hse1⟩ := q
      have hr1 := hr.1
      have q50 : g1.vl 42 50 = h.vl 42 50 + 1 := (hK1.fl).trans c.1.2
      have le71 : ∀ j, g1.vl 71 j ≤ h.vl 42 50 + 1 := fun j => by
        have h4 := c.2.2.2.1.2.2.2.1 j
        rw [c.1.2] at h4
        rw [hse1]
        rcases hs2 with ⟨-, e⟩ | ⟨k, -, e⟩
        · rw [e]; exact h4
        · rw [e]; unfold upI; split
          · exact Int.le_refl _
          · exact h4
      refine ev_ist2 dX11_copied_26 ?_
      refine ev_iload_n dX11_copied_27 rfl ?_
      by_cases hneg : r1 < 0
      · skip
        obtain ⟨e0, e9⟩ : r1 = -1 ∧ seen' = se := by
          rcases hrt with e | ⟨k, e, -⟩
          · exact e
          · omega
        have es2 : s2 = g.vl 71 := by
          rcases hs2 with ⟨-, e⟩ | ⟨k, e, -⟩
          · exact e
          · omega
        rw [if_pos hneg] at hp
        refine ev_ifge 34 dX11_copied_28 (fun h_no => (by exfalso; omega)) (fun hc2 => ?_)
        refine ev_gt 15 dX11_copied_31 ?_
        refine ih n' _ v3 v4 stkK seenK xK g1 x z M seen' rr' tr' τ' (c.mv (ex1 := N) (by omega) (hK1.wk (by decide) (by decide)) le71 (fun j hj => by rw [e9]; exact hj) (fun k k1 k2 k3 k4 => Or.inl ⟨by rw [e9] at k3; exact k3, k4, congrFun hK1.vl k⟩)) (fun j hj => by rw [hse1, es2, e9]; exact hse j hj) hn1 (by rw [hs1]; exact hr1) hsK hxK (by rw [hs1]; exact hp)
      rw [if_neg hneg] at hp
      obtain ⟨k, rfl, hkN, hkr, hk0, hks, hkc⟩ : ∃ k : Nat, r1 = (k : Int) ∧ k < N ∧ rr k = k ∧ se k ≠ h.vl 42 50 + 1 ∧ seen' = upI se k (h.vl 42 50 + 1) ∧ (h.vl 66 k = 2 → se (rr (h.vl 67 k).toNat) = h.vl 42 50 + 1 ∧ se (rr (h.vl 68 k).toNat) = h.vl 42 50 + 1) := by
        rcases hrt with ⟨e, -⟩ | e
        · omega
        · exact e
      have es2 : s2 = upI (g.vl 71) k (h.vl 42 50 + 1) := by
        rcases hs2 with ⟨e, -⟩ | ⟨k2, e, e2⟩
        · omega
        · have : k2 = k := by omega
          rw [e2, this]
      obtain ⟨xn, hxn⟩ : ∃ xn, xn = bdC (h.vl 66) (fun k => gnO gn (nmC τ (tr k))) k (x, z) := ⟨_, rfl⟩
      rw [show ((k : Nat) : Int).toNat = k from rfl, ← hxn] at hp
      have hx1 : xn.1 ≤ xK.1 ∧ xn.2 ≤ xK.2 := loop_cnt _ _ _ _ _ _ hp
      have hxG : gnO gn (nmC τ (tr k)) = true → xn.1 = x + 1 ∧ xn.2 = (if h.vl 66 k = 2 then z + 1 else z) := fun g => by rw [hxn, bdC, if_pos g]; exact ⟨rfl, rfl⟩
      have hxF : x ≤ xn.1 ∧ z ≤ xn.2 := by
        rw [hxn, bdC]
        split
        · show x ≤ x + 1 ∧ z ≤ (if h.vl 66 k = 2 then z + 1 else z)
          split <;> omega
        · exact ⟨Nat.le_refl _, Nat.le_refl _⟩
      have ag71 : ∀ j, j < N → g1.vl 71 j = seen' j := fun j hj => by
        rw [hse1, es2, hks]
        unfold upI
        split
        · rfl
        · exact hse j hj
      have hsk : seen' k = h.vl 42 50 + 1 := by rw [hks, upI_s]
      have hsup : ∀ j, se j = h.vl 42 50 + 1 → seen' j = h.vl 42 50 + 1 := fun j hj => by
        rw [hks]; unfold upI; split
        · rfl
        · exact hj
      have c1 : CpO h N aB rr tr τ nv gn seen' k g1 x z M rr' tr' τ' := c.mv (by omega) (hK1.wk (by decide) (by decide)) le71 hsup (fun j j1 j2 j3 j4 => Or.inl ⟨by rw [hks, upI_n j4] at j3; exact j3, by omega, congrFun hK1.vl j⟩)
      refine ev_ifge 34 dX11_copied_28 (fun hc2 => ?_) (fun h_no => (by exfalso; omega))
      have hI1 : RI g1 := c1.1.1.ri hI0
      refine ev_aload_n dX11_copied_34 rfl ?_
      refine ev_getrv dX11_copied_35 fX11_101 hI1.o hI1.n rfl hI1.v_memo ?_
      refine ev_iload_n dX11_copied_38 rfl ?_
      refine ev_iload_n dX11_copied_39 rfl ?_
      refine ev_istr dX11_copied_40 hI1.k_memo hI1.n_memo rfl (by omega) (by omega) ?_
      obtain ⟨g2, e2⟩ : ∃ g2, g2 = g1.put 72 k (k : Int) := ⟨_, rfl⟩
      rw [show ((k : Nat) : Int).toNat = k from rfl, ← e2]
      have K2 : KP g1 g2 [71, 72, 74] [51] := by rw [e2]; exact KP.rf.pr (by decide) (by decide)
      have c2 : CpO h N aB rr tr τ nv gn seen' k g2 x z M rr' tr' τ' := c1.mv (by omega) K2 (by rw [e2]; exact le71) (fun _ z => z) (fun j j1 j2 j3 j4 => Or.inl ⟨j3, j4, by rw [e2, AH.put_vl, if_neg (fun z => j4 z.2)]⟩)
      have hI2 : RI g2 := c2.1.1.ri hI0
      have m2k : g2.vl 72 k = (k : Int) := by rw [e2, AH.put_vl, if_pos ⟨rfl, rfl⟩]
      have n2 : g2.vl 42 51 = (n' : Int) := by rw [e2]; exact hn1
      have k2 : g2.vl 74 = stk' := by rw [e2]; exact hs1
      have a2 : ∀ j, j < N → g2.vl 71 j = seen' j := by rw [e2]; exact ag71
      have s66 : g2.vl 66 k = h.vl 66 k := (c2.2.1 k hkN).1
      have s67 : g2.vl 67 k = h.vl 67 k := (c2.2.1 k hkN).2.1
      have s68 : g2.vl 68 k = h.vl 68 k := (c2.2.1 k hkN).2.2
      have hTk := c2.tk hNG hkN
      have lfk := kd_lf (li := h.vl 69) hNG.2.1 hNG.2.2.1 hkN hkr
      have hs3 := hNG.2.2.1 k hkN
      -- what comes when k has its copy
      have fin : ∀ (g5 : AH) (x5 z5 M5 : Nat) (rr5 : Nat → Nat) (tr5 : Nat → TE) (τ5 : Nat → Nat) (v3 v4 : AV), CpO h N aB rr tr τ nv gn seen' k g5 x5 z5 M5 rr5 tr5 τ5 → x5 ≤ xn.1 → z5 ≤ xn.2 → g5.vl 42 51 = (n' : Int) → g5.vl 74 = stk' → (∀ j, j < N → g5.vl 71 j = seen' j) → (∃ m : Nat, m < M5 ∧ g5.vl 72 k = (m : Int) ∧ nmC τ5 (tr5 m) = insG nv gn (nmC τ (tr k)) ∧ (gnO gn (nmC τ (tr k)) = false → m = k)) →
          EV mX11_copied 5 15 [rv 42, iv (t : Int), iv (k : Int), v3, v4] [] g5 (oi fun r h1 => ∃ (c M x z : Nat) (se : Nat → Int) (rr' : Nat → Nat) (tr' : Nat → TE) (τ' : Nat → Nat), r = (c : Int) ∧ c < M ∧ (x ≤ 200 ∧ z ≤ 99) ∧ CpO h N aB rr tr τ nv gn se N h1 x z M rr' tr' τ' ∧ nmC τ' (tr' c) = insG nv gn (nmC τ (tr t))) := by
        intro g5 x5 z5 M5 rr5 tr5 τ5 v3 v4 c5 hx5 hz5 f1 f2 f3 f4
        refine ih n' _ v3 v4 stkK seenK xK g5 xn.1 xn.2 M5 seen' rr5 tr5 τ5 (c5.mv (ex1 := N) (by omega) KP.rf (fun j => by have := c5.2.2.2.1.2.2.2.1 j; rw [c5.1.2] at this; exact this) (fun _ z => z) (fun j j1 j2 j3 j4 => ?_)) f3 f1 (by rw [f2]; exact hr1) hsK hxK (by rw [f2]; exact hp)
        by_cases e : j = k
        · rw [e]; exact Or.inr f4
        · exact Or.inl ⟨j3, e, rfl⟩
      refine ev_aload_n dX11_copied_41 rfl ?_
      refine ev_getrv dX11_copied_42 fX11_83 hI2.o hI2.n rfl hI2.v_sort ?_
      refine ev_iload_n dX11_copied_45 rfl ?_
      refine ev_ildv dX11_copied_46 hI2.k_sort hI2.n_sort rfl (by omega) (by omega) (show _ = g2.vl 66 k from rfl) ?_
      refine ev_iconst dX11_copied_47 ?_
      rw [s66]
      by_cases v3' : h.vl 66 k = 3
      · skip
        have hvar := lfk.2.1 v3'
        have hτ := hNG.2.2.2.2 k hkN v3'
        have enm : nmC τ (tr k) = .var (τ k) := by
          rw [hvar]
          show nmT _ _ = _
          rw [nm_var, if_neg (by omega)]
          rfl
        have g70 : g2.vl 70 k = if gn (τ k) = true then 1 else 0 := by
          have := c2.2.2.2.1.2.2.1 k (by omega) (by rw [s66]; exact v3')
          rw [this, (c2.2.2.2.2.1 k hkN).2.2]
        refine ev_icmpne 83 dX11_copied_48 (fun h_no => (by exfalso; omega)) (fun hb1 => ?_)
        refine ev_aload_n dX11_copied_51 rfl ?_
        refine ev_getrv dX11_copied_52 fX11_95 hI2.o hI2.n rfl hI2.v_isNew ?_
        refine ev_iload_n dX11_copied_55 rfl ?_
        refine ev_ildv dX11_copied_56 hI2.k_isNew hI2.n_isNew rfl (by omega) (by omega) (show _ = g2.vl 70 k from rfl) ?_
        refine ev_iconst dX11_copied_57 ?_
        rw [g70]
        by_cases hg : gn (τ k) = true
        · skip
          rw [if_pos hg]
          refine ev_icmpne 83 dX11_copied_58 (fun h_no => (by exfalso; omega)) (fun hb2 => ?_)
          refine ev_aload_n dX11_copied_61 rfl ?_
          refine ev_getrv dX11_copied_62 fX11_101 hI2.o hI2.n rfl hI2.v_memo ?_
          refine ev_iload_n dX11_copied_65 rfl ?_
          refine ev_aload_n dX11_copied_66 rfl ?_
          have e49 : g2.vl 42 49 = (M : Int) := c2.2.2.2.1.2.1
          have hnn := hgn _ hg
          have hGk : gnO gn (nmC τ (tr k)) = true := by rw [enm, gnO, hg]; simp; omega
          have hxv := hxG hGk
          rw [if_neg (show ¬ h.vl 66 k = 2 by omega)] at hxv
          have fr1 : ∀ u, u < M → g2.vl 66 u = 3 → τ' u ≠ nv + τ k := fun u hu hu3 e => by
            by_cases z : u < N
            · rw [(c2.2.2.2.2.1 u z).2.2] at e
              have := hNG.2.2.2.2 u z (by rw [← (c2.2.1 u z).1]; exact hu3)
              omega
            · obtain ⟨i, i1, i2, i3, i4⟩ := c.2.2.2.2.2.1 u (by omega) hu (by rw [← hu3, e2, AH.put_vl, if_neg (by omega)]; exact (congrFun hK1.vl u).symm)
              have ei : τ i = τ k := by omega
              have := hNG.2.2.2.1 i k i1 hkN i2 v3' ei
              rw [this] at i3
              exact hk0 i3
          have fr2 : gn (nv + τ k) = false := by
            cases hz : gn (nv + τ k) with
            | false => rfl
            | true => have := hgn _ hz; omega
          obtain ⟨rr3, tr3, τ3, c3, c3n⟩ := c2.add (kk := 3) (a := -1) (b := -1) (nm := nv + τ k) (by omega) (by omega) (by decide) (fun z => absurd z (by decide)) (fun _ => ⟨fr1, fr2, by omega, k, hkN, v3', hsk, rfl⟩) hNG
          · rw [if_neg (by decide), if_neg (by decide), if_neg (by decide)] at c3n
            refine ev_cvi dX11_copied_67 lX11_239 (s_fresh hI2 (by omega) (by omega)) (by decide) hI2.o hI2.n rfl rfl rfl (Nat.le_of_ble_eq_true rfl) rfl (fun r g3 q => ?_)
            obtain ⟨rfl, q3⟩ := q
            have q3 : g3 = addH g2 M 3 (-1) (-1) := by rw [q3, e49]; rfl
            rw [e49]
            rw [← q3] at c3
            have hI3 : RI g3 := c3.1.1.ri hI0
            refine ev_istr dX11_copied_70 hI3.k_memo hI3.n_memo rfl (by omega) (by omega) ?_
            obtain ⟨g4, e4⟩ : ∃ g4, g4 = g3.put 72 k (M : Int) := ⟨_, rfl⟩
            rw [show ((k : Nat) : Int).toNat = k from rfl, ← e4]
            have m4 : g4.vl 72 k = (M : Int) := by rw [e4, AH.put_vl, if_pos ⟨rfl, rfl⟩]
            have hI4 : RI g4 := by rw [e4]; exact ((KP.rf (A := [72]) (F := [])).pr (by decide) (by decide)).ri hI3
            refine ev_aload_n dX11_copied_71 rfl ?_
            refine ev_getrv dX11_copied_72 fX11_98 hI4.o hI4.n rfl hI4.v_seen ?_
            refine ev_aload_n dX11_copied_75 rfl ?_
            refine ev_getrv dX11_copied_76 fX11_101 hI4.o hI4.n rfl hI4.v_memo ?_
            refine ev_iload_n dX11_copied_79 rfl ?_
            refine ev_ildv dX11_copied_80 hI4.k_memo hI4.n_memo rfl (by omega) (by omega) m4 ?_
            refine ev_iconst dX11_copied_81 ?_
            refine ev_istr dX11_copied_82 hI4.k_seen hI4.n_seen rfl (by omega) (by omega) ?_
            obtain ⟨g5, e5⟩ : ∃ g5, g5 = g4.put 71 M 0 := ⟨_, rfl⟩
            rw [show ((M : Nat) : Int).toNat = M from rfl, ← e5]
            have K5 : KP g3 g5 [71, 72, 74] [51] := by rw [e5, e4]; exact (KP.rf.pr (by decide) (by decide)).pr (by decide) (by decide)
            have v71 : ∀ j, g5.vl 71 j = if j = M then 0 else g3.vl 71 j := fun j => by
              rw [e5, AH.put_vl, e4, AH.put_vl]
              by_cases z : j = M
              · rw [if_pos ⟨rfl, z⟩, if_pos z]
              · rw [if_neg (fun w => z w.2), if_neg z, if_neg (by omega)]
            have v72 : ∀ j, g5.vl 72 j = if j = k then (M : Int) else g3.vl 72 j := fun j => by
              rw [e5, AH.put_vl, if_neg (by omega), e4, AH.put_vl]
              by_cases z : j = k
              · rw [if_pos ⟨rfl, z⟩, if_pos z]
              · rw [if_neg (fun w => z w.2), if_neg z]
            have w71 : g3.vl 71 = g2.vl 71 := by rw [q3]; exact addH_kp.vl
            have c5 : CpO h N aB rr tr τ nv gn seen' k g5 (x + 1) (z + (if (3 : Int) = 2 then 1 else 0)) (M + 1) rr3 tr3 τ3 := c3.mv ⟨Nat.le_refl _, Nat.le_refl _, by rw [if_neg (show ¬ (3 : Int) = 2 by decide)]; omega⟩ K5 (fun j => by
              rw [v71]
              by_cases z : j = M
              · rw [if_pos z]; omega
              · rw [if_neg z]; have := c3.2.2.2.1.2.2.2.1 j; rw [c3.1.2] at this; exact this) (fun _ z => z) (fun j j1 j2 j3 j4 => Or.inl ⟨j3, j4, by rw [v72, if_neg j4]⟩)
            have hI5 : RI g5 := c5.1.1.ri hI0
            have s665 : g5.vl 66 k = h.vl 66 k := (c5.2.1 k hkN).1
            refine ev_aload_n dX11_copied_83 rfl ?_
            refine ev_getrv dX11_copied_84 fX11_83 hI5.o hI5.n rfl hI5.v_sort ?_
            refine ev_iload_n dX11_copied_87 rfl ?_
            refine ev_ildv dX11_copied_88 hI5.k_sort hI5.n_sort rfl (by omega) (by omega) (show _ = g5.vl 66 k from rfl) ?_
            refine ev_iconst dX11_copied_89 ?_
            rw [s665]
            refine ev_icmpeq 96 dX11_copied_90 (fun h_no => (by exfalso; omega)) (fun hb3 => ?_)
            refine ev_gt 15 dX11_copied_93 ?_
            refine fin g5 (x + 1) _ (M + 1) rr3 tr3 τ3 _ _ c5 (by omega) (by rw [if_neg (show ¬ (3 : Int) = 2 by decide)]; omega) ?_ ?_ (fun j hj => ?_) ⟨M, by omega, by rw [v72, if_pos rfl], by rw [c3n, enm, ins_gn (by omega) hg], fun z => by rw [hGk] at z; exact Bool.noConfusion z⟩
            · rw [e5, e4, q3]; exact n2
            · rw [e5, put_ne _ (by decide), e4, put_ne _ (by decide), q3, addH_kp.vl]; exact k2
            · rw [v71, if_neg (by omega), w71]; exact a2 j hj
        rw [if_neg hg]
        refine ev_icmpne 83 dX11_copied_58 (fun hb2 => ?_) (fun h_no => (by exfalso; omega))
        refine ev_aload_n dX11_copied_83 rfl ?_
        refine ev_getrv dX11_copied_84 fX11_83 hI2.o hI2.n rfl hI2.v_sort ?_
        refine ev_iload_n dX11_copied_87 rfl ?_
        refine ev_ildv dX11_copied_88 hI2.k_sort hI2.n_sort rfl (by omega) (by omega) (show _ = g2.vl 66 k from rfl) ?_
        refine ev_iconst dX11_copied_89 ?_
        rw [s66]
        refine ev_icmpeq 96 dX11_copied_90 (fun h_no => (by exfalso; omega)) (fun hb3 => ?_)
        refine ev_gt 15 dX11_copied_93 ?_
        exact fin g2 x z M rr' tr' τ' _ _ c2 hxF.1 hxF.2 n2 k2 a2 ⟨k, by omega, m2k, by rw [hTk, enm, ins_lf (Or.inr (by simpa using hg))], fun _ => rfl⟩
      refine ev_icmpne 83 dX11_copied_48 (fun hb1 => ?_) (fun h_no => (by exfalso; omega))
      refine ev_aload_n dX11_copied_83 rfl ?_
      refine ev_getrv dX11_copied_84 fX11_83 hI2.o hI2.n rfl hI2.v_sort ?_
      refine ev_iload_n dX11_copied_87 rfl ?_
      refine ev_ildv dX11_copied_88 hI2.k_sort hI2.n_sort rfl (by omega) (by omega) (show _ = g2.vl 66 k from rfl) ?_
      refine ev_iconst dX11_copied_89 ?_
      rw [s66]
      by_cases v2' : h.vl 66 k = 2
      · skip
        have g := hNG.1.2.2 k hkN v2'
        obtain ⟨hka, hkb⟩ := hkc v2'
        have hop := lfk.2.2.1 v2'
        obtain ⟨a, ha⟩ : ∃ a, a = rr (h.vl 67 k).toNat := ⟨_, rfl⟩
        obtain ⟨b, hb'⟩ : ∃ b, b = rr (h.vl 68 k).toNat := ⟨_, rfl⟩
        rw [← ha] at hka
        rw [← hb'] at hkb
        have hra := hNG.2.1 (h.vl 67 k).toNat (by omega)
        have hrb := hNG.2.1 (h.vl 68 k).toNat (by omega)
        have hta := hNG.2.1.rr (t := (h.vl 67 k).toNat) (by omega)
        have htb := hNG.2.1.rr (t := (h.vl 68 k).toNat) (by omega)
        rw [← ha] at hra hta
        rw [← hb'] at hrb htb
        have hak : a ≠ k := fun z => hk0 (z ▸ hka)
        have hbk : b ≠ k := fun z => hk0 (z ▸ hkb)
        obtain ⟨ma, ma1, ma2, ma3, ma4⟩ := c2.2.2.2.2.2.2 a hra.1 hra.2.1 (hsup a hka) hak
        obtain ⟨mb, mb1, mb2, mb3, mb4⟩ := c2.2.2.2.2.2.2 b hrb.1 hrb.2.1 (hsup b hkb) hbk
        have era : rr' (h.vl 67 k).toNat = a := ((c2.2.2.2.2.1 _ (by omega)).1).trans ha.symm
        have erb : rr' (h.vl 68 k).toNat = b := ((c2.2.2.2.2.1 _ (by omega)).1).trans hb'.symm
        have hG2 := c2.gh
        have hTa := c2.tk hNG hra.1
        have hTb := c2.tk hNG hrb.1
        have eop : nmC τ (tr k) = .op (nmC τ (tr a)) (nmC τ (tr b)) := by
          rw [hop, hta, htb]; rfl
        have eins : insG nv gn (nmC τ (tr k)) = .op (nmC τ' (tr' ma)) (nmC τ' (tr' mb)) := by rw [eop, ma3, mb3]; rfl
        refine ev_icmpeq 96 dX11_copied_90 (fun hb2 => ?_) (fun h_no => (by exfalso; omega))
        refine ev_aload_n dX11_copied_96 rfl ?_
        refine ev_getrv dX11_copied_97 fX11_101 hI2.o hI2.n rfl hI2.v_memo ?_
        refine ev_aload_n dX11_copied_100 rfl ?_
        refine ev_aload_n dX11_copied_101 rfl ?_
        refine ev_getrv dX11_copied_102 fX11_86 hI2.o hI2.n rfl hI2.v_from ?_
        refine ev_iload_n dX11_copied_105 rfl ?_
        refine ev_ildv dX11_copied_106 hI2.k_from hI2.n_from rfl (by omega) (by omega) (show _ = g2.vl 67 k from rfl) ?_
        rw [s67]
        refine ev_cvi dX11_copied_107 lX11_223 (s_is' hI2 hG2.1 hG2.2.1 g.1.1 (by omega)) (by decide) hI2.o hI2.n rfl rfl rfl (Nat.le_of_ble_eq_true rfl) rfl (fun r1 z1 q => ?_)
        obtain ⟨rfl, e⟩ := q
        rw [e, era]
        refine ev_ildv dX11_copied_110 hI2.k_memo hI2.n_memo rfl (by omega) (by omega) ma2 ?_
        refine ev_ist3 dX11_copied_111 ?_
        refine ev_aload_n dX11_copied_112 rfl ?_
        refine ev_getrv dX11_copied_113 fX11_101 hI2.o hI2.n rfl hI2.v_memo ?_
        refine ev_aload_n dX11_copied_116 rfl ?_
        refine ev_aload_n dX11_copied_117 rfl ?_
        refine ev_getrv dX11_copied_118 fX11_89 hI2.o hI2.n rfl hI2.v_to ?_
        refine ev_iload_n dX11_copied_121 rfl ?_
        refine ev_ildv dX11_copied_122 hI2.k_to hI2.n_to rfl (by omega) (by omega) (show _ = g2.vl 68 k from rfl) ?_
        rw [s68]
        refine ev_cvi dX11_copied_123 lX11_223 (s_is' hI2 hG2.1 hG2.2.1 g.2.1 (by omega)) (by decide) hI2.o hI2.n rfl rfl rfl (Nat.le_of_ble_eq_true rfl) rfl (fun r1 z1 q => ?_)
        obtain ⟨rfl, e⟩ := q
        rw [e, erb]
        refine ev_ildv dX11_copied_126 hI2.k_memo hI2.n_memo rfl (by omega) (by omega) mb2 ?_
        refine ev_ist4 dX11_copied_127 ?_
        refine ev_iload_n dX11_copied_129 rfl ?_
        refine ev_aload_n dX11_copied_130 rfl ?_
        refine ev_aload_n dX11_copied_131 rfl ?_
        refine ev_getrv dX11_copied_132 fX11_86 hI2.o hI2.n rfl hI2.v_from ?_
        refine ev_iload_n dX11_copied_135 rfl ?_
        refine ev_ildv dX11_copied_136 hI2.k_from hI2.n_from rfl (by omega) (by omega) (show _ = g2.vl 67 k from rfl) ?_
        rw [s67]
        refine ev_cvi dX11_copied_137 lX11_223 (s_is' hI2 hG2.1 hG2.2.1 g.1.1 (by omega)) (by decide) hI2.o hI2.n rfl rfl rfl (Nat.le_of_ble_eq_true rfl) rfl (fun r1 z1 q => ?_)
        obtain ⟨rfl, e⟩ := q
        rw [e, era]
        have p158 : gnO gn (nmC τ (tr k)) = true → EV mX11_copied 5 158 [rv 42, iv (t : Int), iv (k : Int), iv (ma : Int), iv (mb : Int)] [] g2 (oi fun r h1 => ∃ (c M x z : Nat) (se : Nat → Int) (rr' : Nat → Nat) (tr' : Nat → TE) (τ' : Nat → Nat), r = (c : Int) ∧ c < M ∧ (x ≤ 200 ∧ z ≤ 99) ∧ CpO h N aB rr tr τ nv gn se N h1 x z M rr' tr' τ' ∧ nmC τ' (tr' c) = insG nv gn (nmC τ (tr t))) := by
          intro hGk
          have hxv := hxG hGk
          rw [if_pos v2'] at hxv
          have e49 : g2.vl 42 49 = (M : Int) := c2.2.2.2.1.2.1
          obtain ⟨rr3, tr3, τ3, c3, c3n⟩ := c2.add (kk := 2) (a := (ma : Int)) (b := (mb : Int)) (nm := 0) (by omega) (by omega) (by decide) (fun _ => by omega) (fun z => absurd z (by decide)) hNG
          rw [if_pos rfl] at c3n
          refine ev_aload_n dX11_copied_158 rfl ?_
          refine ev_getrv dX11_copied_159 fX11_101 hI2.o hI2.n rfl hI2.v_memo ?_
          refine ev_iload_n dX11_copied_162 rfl ?_
          refine ev_aload_n dX11_copied_163 rfl ?_
          refine ev_iconst dX11_copied_164 ?_
          refine ev_iload_n dX11_copied_165 rfl ?_
          refine ev_iload dX11_copied_166 rfl ?_
          refine ev_cvi dX11_copied_168 lX11_216 (s_part hI2 (by omega) (by omega)) (by decide) hI2.o hI2.n rfl rfl rfl (Nat.le_of_ble_eq_true rfl) rfl (fun r g3 q => ?_)
          obtain ⟨rfl, q3⟩ := q
          have q3 : g3 = addH g2 M 2 (ma : Int) (mb : Int) := by rw [q3, e49]; rfl
          rw [e49]
          rw [← q3] at c3
          have hI3 : RI g3 := c3.1.1.ri hI0
          refine ev_istr dX11_copied_171 hI3.k_memo hI3.n_memo rfl (by omega) (by omega) ?_
          obtain ⟨g4, e4⟩ : ∃ g4, g4 = g3.put 72 k (M : Int) := ⟨_, rfl⟩
          rw [show ((k : Nat) : Int).toNat = k from rfl, ← e4]
          have m4 : g4.vl 72 k = (M : Int) := by rw [e4, AH.put_vl, if_pos ⟨rfl, rfl⟩]
          have hI4 : RI g4 := by rw [e4]; exact ((KP.rf (A := [72]) (F := [])).pr (by decide) (by decide)).ri hI3
          refine ev_aload_n dX11_copied_172 rfl ?_
          refine ev_getrv dX11_copied_173 fX11_98 hI4.o hI4.n rfl hI4.v_seen ?_
          refine ev_aload_n dX11_copied_176 rfl ?_
          refine ev_getrv dX11_copied_177 fX11_101 hI4.o hI4.n rfl hI4.v_memo ?_
          refine ev_iload_n dX11_copied_180 rfl ?_
          refine ev_ildv dX11_copied_181 hI4.k_memo hI4.n_memo rfl (by omega) (by omega) m4 ?_
          refine ev_iconst dX11_copied_182 ?_
          refine ev_istr dX11_copied_183 hI4.k_seen hI4.n_seen rfl (by omega) (by omega) ?_
          obtain ⟨g5, e5⟩ : ∃ g5, g5 = g4.put 71 M 0 := ⟨_, rfl⟩
          rw [show ((M : Nat) : Int).toNat = M from rfl, ← e5]
          have K5 : KP g3 g5 [71, 72, 74] [51] := by rw [e5, e4]; exact (KP.rf.pr (by decide) (by decide)).pr (by decide) (by decide)
          have v71 : ∀ j, g5.vl 71 j = if j = M then 0 else g3.vl 71 j := fun j => by
            rw [e5, AH.put_vl, e4, AH.put_vl]
            by_cases z : j = M
            · rw [if_pos ⟨rfl, z⟩, if_pos z]
            · rw [if_neg (fun w => z w.2), if_neg z, if_neg (by omega)]
          have v72 : ∀ j, g5.vl 72 j = if j = k then (M : Int) else g3.vl 72 j := fun j => by
            rw [e5, AH.put_vl, if_neg (by omega), e4, AH.put_vl]
            by_cases z : j = k
            · rw [if_pos ⟨rfl, z⟩, if_pos z]
            · rw [if_neg (fun w => z w.2), if_neg z]
          have w71 : g3.vl 71 = g2.vl 71 := by rw [q3]; exact addH_kp.vl
          have c5 : CpO h N aB rr tr τ nv gn seen' k g5 (x + 1) (z + (if (2 : Int) = 2 then 1 else 0)) (M + 1) rr3 tr3 τ3 := c3.mv ⟨Nat.le_refl _, Nat.le_refl _, by rw [if_pos rfl]; omega⟩ K5 (fun j => by
            rw [v71]
            by_cases z : j = M
            · rw [if_pos z]; omega
            · rw [if_neg z]; have := c3.2.2.2.1.2.2.2.1 j; rw [c3.1.2] at this; exact this) (fun _ z => z) (fun j j1 j2 j3 j4 => Or.inl ⟨j3, j4, by rw [v72, if_neg j4]⟩)
          refine ev_gt 15 dX11_copied_184 ?_
          refine fin g5 (x + 1) _ (M + 1) rr3 tr3 τ3 _ _ c5 (by omega) (by rw [if_pos rfl]; omega) ?_ ?_ (fun j hj => ?_) ⟨M, by omega, by rw [v72, if_pos rfl], by rw [c3n, eins]; rfl, fun z => by rw [hGk] at z; exact Bool.noConfusion z⟩
          · rw [e5, e4, q3]; exact n2
          · rw [e5, put_ne _ (by decide), e4, put_ne _ (by decide), q3, addH_kp.vl]; exact k2
          · rw [v71, if_neg (by omega), w71]; exact a2 j hj
        by_cases d1 : ma = a
        · skip
          refine ev_icmpne 158 dX11_copied_140 (fun h_no => (by exfalso; omega)) (fun hb3 => ?_)
          refine ev_iload dX11_copied_143 rfl ?_
          refine ev_aload_n dX11_copied_145 rfl ?_
          refine ev_aload_n dX11_copied_146 rfl ?_
          refine ev_getrv dX11_copied_147 fX11_89 hI2.o hI2.n rfl hI2.v_to ?_
          refine ev_iload_n dX11_copied_150 rfl ?_
          refine ev_ildv dX11_copied_151 hI2.k_to hI2.n_to rfl (by omega) (by omega) (show _ = g2.vl 68 k from rfl) ?_
          rw [s68]
          refine ev_cvi dX11_copied_152 lX11_223 (s_is' hI2 hG2.1 hG2.2.1 g.2.1 (by omega)) (by decide) hI2.o hI2.n rfl rfl rfl (Nat.le_of_ble_eq_true rfl) rfl (fun r1 z1 q => ?_)
          obtain ⟨rfl, e⟩ := q
          rw [e, erb]
          by_cases d2 : mb = b
          · skip
            refine ev_icmpeq 184 dX11_copied_155 (fun hb4 => ?_) (fun h_no => (by exfalso; omega))
            refine ev_gt 15 dX11_copied_184 ?_
            refine fin g2 x z M rr' tr' τ' _ _ c2 hxF.1 hxF.2 n2 k2 a2 ⟨k, by omega, m2k, ?_, fun _ => rfl⟩
            · rw [hTk, eins, d1, d2, hTa, hTb, eop]
          refine ev_icmpeq 184 dX11_copied_155 (fun h_no => (by exfalso; omega)) (fun hb4 => ?_)
          refine p158 ?_
          cases hz : gnO gn (nmC τ (tr k)) with
          | true => rfl
          | false =>
            rw [eop] at hz
            simp only [gnO, Bool.or_eq_false_iff] at hz
            exact absurd (mb4 hz.2) d2
        refine ev_icmpne 158 dX11_copied_140 (fun hb3 => ?_) (fun h_no => (by exfalso; omega))
        refine p158 ?_
        cases hz : gnO gn (nmC τ (tr k)) with
        | true => rfl
        | false =>
          rw [eop] at hz
          simp only [gnO, Bool.or_eq_false_iff] at hz
          exact absurd (ma4 hz.1) d1
      refine ev_icmpeq 96 dX11_copied_90 (fun h_no => (by exfalso; omega)) (fun hb2 => ?_)
      refine ev_gt 15 dX11_copied_93 ?_
      have ek : nmC τ (tr k) = .var (h.vl 66 k).toNat := by
        rw [lfk.2.2.2 (by omega)]
        show nmT _ _ = _
        rw [nm_var, if_pos (by omega)]
      exact fin g2 x z M rr' tr' τ' _ _ c2 hxF.1 hxF.2 n2 k2 a2 ⟨k, by omega, m2k, by rw [hTk, ek, ins_lf (Or.inl (by omega))], fun _ => rfl⟩
  refine cv_of cdX11_copied ?_
  show EV _ _ 0 [rv 42, iv (t : Int), uv, uv, uv] [] h _
  have hG := hR.gh
  refine ev_aload_n dX11_copied_0 rfl ?_
  refine ev_dup dX11_copied_1 ?_
  refine ev_geti dX11_copied_2 fX11_226 hI0.o hI0.n rfl ?_
  refine ev_iconst dX11_copied_5 ?_
  refine ev_iadd dX11_copied_6 (by unfold ir; omega) ?_
  refine ev_pt dX11_copied_7 fX11_226 hI0.o hI0.n rfl ?_
  obtain ⟨g0, e0⟩ : ∃ g0, g0 = h.put 42 50 (h.vl 42 50 + 1) := ⟨_, rfl⟩
  rw [← e0]
  have K0 : KP h g0 CpA CpF := by rw [e0]; exact KP.rf.pf (by decide)
  have hI1 : RI g0 := K0.ri hI0
  have G0 : GH g0 N rr tr := hG.cg (by rw [e0]; exact put_ne _ (by decide)) (by rw [e0]; exact put_ne _ (by decide)) (by rw [e0]; exact put_ne _ (by decide)) (by rw [e0]; exact put_ne _ (by decide))
  refine ev_aload_n dX11_copied_10 rfl ?_
  refine ev_iload_n dX11_copied_11 rfl ?_
  refine ev_cvv dX11_copied_12 lX11_229 (s_starts (t := (t : Int)) hI1 hG.1 G0.2.1 (by omega) (by omega)) (by decide) hI1.o hI1.n rfl rfl rfl (Nat.le_of_ble_eq_true rfl) rfl (fun g1 q => ?_)
  rw [show ((t : Nat) : Int).toNat = t from rfl] at q
  obtain ⟨F, stkK, hF⟩ := dfs_run (st := h.vl 42 50 + 1) (body := bdC (h.vl 66) (fun k => gnO gn (nmC τ (tr k)))) (x := (0, 0)) (seen := h.vl 71) (stk := g1.vl 74) hNG.2.1 hNG.1 htN (by rw [q]; rfl) (hR.ht htN)
  have hcnt := dfs_cnt (st := h.vl 42 50 + 1) (τ := τ) (gn := gn) hNG.2.1 hNG.1 (tr t) (rr t) (h.vl 71) (0, 0) hrr hrr2 (hNG.2.1.rr htN)
  have etr : nmC τ (tr (rr t)) = nmC τ (tr t) := by rw [hNG.2.1.rr htN]
  have htop := dfs_top (st := h.vl 42 50 + 1) (body := bdC (h.vl 66) (fun k => gnO gn (nmC τ (tr k)))) hNG.2.1 (tr t) (rr t) (h.vl 71) (0, 0)
  have K1 : KP h g1 CpA CpF := by rw [q]; exact (K0.pr (by decide) (by decide)).pf (by decide)
  have w : ∀ r, r ≠ 74 → r ≠ 42 → g1.vl r = h.vl r := fun r h1 h2 => by rw [q, put_ne _ h2, put_ne _ h1, e0, put_ne _ h2]
  have w50 : g1.vl 42 50 = h.vl 42 50 + 1 := by rw [q, e0]; rfl
  have w49 : g1.vl 42 49 = (N : Int) := by rw [q, e0]; exact hR.2.1
  have R0 : RT g1 N (aB + 0) rr tr τ (nv + nv) gn := by
    obtain ⟨t1, t2, t3, t4, t5, t6⟩ := hR
    refine ⟨?_, w49, ?_, fun k => ?_, ?_, t6⟩
    · rw [w 66 (by decide) (by decide), w 67 (by decide) (by decide), w 68 (by decide) (by decide), w 69 (by decide) (by decide)]
      exact ⟨t1.1, t1.2.1, t1.2.2.1, t1.2.2.2.1, fun u hu h3 => by have := t1.2.2.2.2 u hu h3; omega⟩
    · rw [w 66 (by decide) (by decide), w 70 (by decide) (by decide)]; exact t3
    · rw [w 71 (by decide) (by decide), w50]; have := t4 k; omega
    · rw [w 66 (by decide) (by decide)]; exact t5
  refine Kl F 1 _ _ _ stkK _ _ g1 0 0 N (h.vl 71) rr tr τ ⟨⟨K1, w50⟩, fun c hc => by rw [w 66 (by decide) (by decide), w 67 (by decide) (by decide), w 68 (by decide) (by decide)]; exact ⟨rfl, rfl, rfl⟩, ⟨Nat.le_refl _, Nat.le_refl _⟩, R0, fun _ _ => ⟨rfl, rfl, rfl⟩, fun c h1 h2 _ => absurd h2 (by omega), fun k _ _ h3 _ => ?_⟩ (fun c _ => by rw [w 71 (by decide) (by decide)]) (by rw [q]; rfl) (fun i hi => ?_) htop (by omega) hF
  · have := hR.2.2.2.1 k; omega
  · have : i = 0 := by omega
    subst this
    rw [q]
    show 0 ≤ (rr t : Int) ∧ (rr t : Int) < (N : Int)
    omega
