/-! the reference's whole walks -/
theorem turn_rng {so fr to li : Nat → Int} {rr : Nat → Nat} {N : Nat} {st : Int} (hg : GW so fr to li N rr) : ∀ {f n : Nat} {stk seen : Nat → Int} {r : Int} {n' : Nat} {stk' seen' : Nat → Int}, turnP so fr to rr st f n stk seen = some (r, n', stk', seen') → 1 ≤ n → (∀ i, i < n → 0 ≤ stk i ∧ stk i < (N : Int)) → (∀ i, i < n' → 0 ≤ stk' i ∧ stk' i < (N : Int)) ∧ (r = -1 ∨ (0 ≤ r ∧ r < (N : Int) ∧ rr r.toNat = r.toNat ∨ r = -1) ∨ (0 ≤ r ∧ r < (N : Int)))
  | 0, n, stk, seen, r, n', stk', seen', h, _, _ => by simp [turnP] at h
  | f + 1, n, stk, seen, r, n', stk', seen', h, h1, hs => by
    have hm := hs (n - 1) (by omega)
    have root : ∀ x : Int, 0 ≤ x → x < (N : Int) → rr x.toNat < N := fun x a b => by obtain ⟨_, _, _, z⟩ := hg.2.1 x.toNat (by omega); exact z
    have ht := root _ hm.1 hm.2
    have psh : ∀ y : Nat, y < N → ∀ i, i < n + 1 → 0 ≤ upI stk n (y : Int) i ∧ upI stk n (y : Int) i < (N : Int) := fun y hy i hi => by
      by_cases q : i = n
      · rw [q, upI_s]; omega
      · rw [upI_n q]; exact hs i (by omega)
    unfold turnP at h
    split at h
    · simp only [Option.some.injEq, Prod.mk.injEq] at h
      obtain ⟨rfl, rfl, rfl, rfl⟩ := h
      exact ⟨fun i hi => hs i (by omega), Or.inl rfl⟩
    · split at h
      · rename_i e
        have g := (hg.2.2 _ ht e.1).1
        exact turn_rng hg h (by omega) (psh _ (root _ g.1 g.2))
      · split at h
        · rename_i e
          have g := (hg.2.2 _ ht e.1).2
          exact turn_rng hg h (by omega) (psh _ (root _ g.1 g.2))
        · simp only [Option.some.injEq, Prod.mk.injEq] at h
          obtain ⟨rfl, rfl, rfl, rfl⟩ := h
          exact ⟨fun i hi => hs i (by omega), Or.inr (Or.inr (by omega))⟩
/-- the walks' fixed rows: those of the heap at the start -/
def GH (h : AH) (N : Nat) (rr : Nat → Nat) (tr : Nat → TE) : Prop := N ≤ 20000 ∧ GW (h.vl 66) (h.vl 67) (h.vl 68) (h.vl 69) N rr ∧ GT (h.vl 66) (h.vl 67) (h.vl 68) rr N tr
theorem GH.on {h h1 : AH} {N : Nat} {rr : Nat → Nat} {tr : Nat → TE} {A F : List Nat} (g : GH h N rr tr) (k : KP h h1 A F) (hA : A.all (fun a => decide (a ∉ [66, 67, 68, 69])) = true := by decide) : GH h1 N rr tr := by
  have z : ∀ a, a ∈ [66, 67, 68, 69] → a ∉ A := fun a ha hq => by
    have := List.all_eq_true.mp hA a hq
    exact absurd ha (by simpa using this)
  have e1 : h1.vl 66 = h.vl 66 := k.vl (by decide) (z _ (by decide))
  have e2 : h1.vl 67 = h.vl 67 := k.vl (by decide) (z _ (by decide))
  have e3 : h1.vl 68 = h.vl 68 := k.vl (by decide) (z _ (by decide))
  have e4 : h1.vl 69 = h.vl 69 := k.vl (by decide) (z _ (by decide))
  exact ⟨g.1, by rw [e1, e2, e3, e4]; exact g.2.1, by rw [e1, e2, e3]; exact g.2.2⟩
theorem s_turnc {N : Nat} {rr : Nat → Nat} {tr : Nat → TE} {h : AH} (hI : RI h) (hG : GH h N rr tr) {f n : Nat} {r : Int} {n' : Nat} {stk' seen' : Nat → Int} (hn : h.vl 42 51 = (n : Int)) (h1 : 1 ≤ n) (h9 : n + f ≤ 20000) (hs : ∀ i, i < n → 0 ≤ h.vl 74 i ∧ h.vl 74 i < (N : Int)) (hp : turnP (h.vl 66) (h.vl 67) (h.vl 68) rr (h.vl 42 50) f n (h.vl 74) (h.vl 71) = some (r, n', stk', seen')) :
    CV mX11_turn 3 [rv 42] h (oi fun x h1 => x = r ∧ KP h h1 [74, 71] [51] ∧ h1.vl 42 51 = (n' : Int) ∧ h1.vl 74 = stk' ∧ h1.vl 71 = seen') :=
  cv_of cdX11_turn (show EV _ _ 0 [rv 42, uv] [] h _ from s_turn hG.1 hG.2.1 f n _ _ r n' stk' seen' h h uv hI KP.rf rfl rfl rfl rfl rfl hn rfl rfl h1 h9 hs hp)
theorem loop_some {σ : Type} {so fr to : Nat → Int} {rr : Nat → Nat} {st : Int} {body : Nat → σ → σ} {FT F n : Nat} {stk seen : Nat → Int} {x : σ} {K : (Nat → Int) × (Nat → Int) × σ} (h : loopP so fr to rr st body FT F (n + 1) stk seen x = some K) :
    n + 1 + FT ≤ 20000 ∧ ∃ r n' stk' seen' G, F = G + 1 ∧ turnP so fr to rr st FT (n + 1) stk seen = some (r, n', stk', seen') ∧ loopP so fr to rr st body FT G n' stk' seen' (if r < 0 then x else body r.toNat x) = some K := by
  cases F with
  | zero => simp [loopP] at h
  | succ F =>
    rw [loopP] at h
    split at h
    · cases h
    · rename_i hb
      cases hq : turnP so fr to rr st FT (n + 1) stk seen with
      | none => rw [hq] at h; cases h
      | some q =>
        obtain ⟨r, n', stk', seen'⟩ := q
        rw [hq] at h
        exact ⟨by omega, r, n', stk', seen', F, rfl, rfl, h⟩
theorem loop_done {σ : Type} {so fr to : Nat → Int} {rr : Nat → Nat} {st : Int} {body : Nat → σ → σ} {FT F : Nat} {stk seen : Nat → Int} {x : σ} {K : (Nat → Int) × (Nat → Int) × σ} (h : loopP so fr to rr st body FT F 0 stk seen x = some K) : K = (stk, seen, x) := by
  cases F with
  | zero => simp [loopP] at h
  | succ F => rw [loopP] at h; exact (Option.some.inj h).symm
/-- the start of a whole walk, and its end -/
theorem dfs_run {σ : Type} {so fr to li : Nat → Int} {rr : Nat → Nat} {N : Nat} {tr : Nat → TE} {st : Int} {body : Nat → σ → σ} (hT : GT so fr to rr N tr) (hg : GW so fr to li N rr) {t : Nat} (ht0 : t < N) {stk seen : Nat → Int} {x : σ} (hs : stk 0 = (rr t : Int)) (hH : ht (tr t) ≤ 9900) :
    ∃ F stkK, loopP so fr to rr st body (ht (tr t) + 1) F 1 stk seen x = some (stkK, (dfsP so fr to rr st body (tr t) (rr t) seen x).1, (dfsP so fr to rr st body (tr t) (rr t) seen x).2) := by
  obtain ⟨h1, h2, -⟩ := hT t ht0
  obtain ⟨stk', -, g⟩ := dfs_loop (f := ht (tr t)) (st := st) (body := body) hT hg (tr t) (rr t) 0 stk seen x h1 h2 (hT.rr ht0) (by rw [hs]; exact h2) (by omega) (by omega)
  obtain ⟨F, hF⟩ := g 1 _ rfl
  exact ⟨F, stk', hF⟩
set_option maxRecDepth 100000 in
theorem s_marks {N : Nat} {rr : Nat → Nat} {tr : Nat → TE} {t : Int} {h : AH} (hI : RI h) (hG : GH h N rr tr) (h0 : 0 ≤ t) (h9 : t < (N : Int)) (hH : ht (tr t.toNat) ≤ 9900) :
    CV mX11_marks 4 [rv 42, iv t] h (on fun h1 => KP h h1 [74, 71] [51] ∧ h1.vl 71 = (dfsP (h.vl 66) (h.vl 67) (h.vl 68) rr (h.vl 42 50) (fun _ x => x) (tr t.toNat) (rr t.toNat) (h.vl 71) ()).1) := by
  refine cv_of cdX11_marks ?_
  show EV _ _ 0 [rv 42, iv t, uv] [] h _
  have htN : t.toNat < N := by omega
  have K : ∀ (F n : Nat) (v2 : AV) (stkK seenK : Nat → Int) (g : AH), RI g → KP h g [74, 71] [51] → g.vl 42 51 = (n : Int) → (∀ i, i < n → 0 ≤ g.vl 74 i ∧ g.vl 74 i < (N : Int)) → loopP (h.vl 66) (h.vl 67) (h.vl 68) rr (h.vl 42 50) (fun _ (x : Unit) => x) (ht (tr t.toNat) + 1) F n (g.vl 74) (g.vl 71) () = some (stkK, seenK, ()) →
      EV mX11_marks 4 5 [rv 42, iv t, v2] [] g (on fun h1 => KP h h1 [74, 71] [51] ∧ h1.vl 71 = seenK) := by
    intro F
    induction F with
    | zero => intro n v2 stkK seenK g _ _ _ _ hp; exact absurd hp (by simp [loopP])
    | succ F ih =>
      intro n v2 stkK seenK g hI hK hn hs hp
      refine ev_aload_n dX11_marks_5 rfl ?_
      refine ev_geti dX11_marks_6 fX11_220 hI.o hI.n rfl ?_
      rw [hn]
      refine ev_ifle 20 dX11_marks_9 (fun hc => ?_) (fun hc => ?_)
      · obtain rfl : n = 0 := by omega
        have := loop_done hp
        simp only [Prod.mk.injEq] at this
        exact ev_vret dX11_marks_20 (⟨rfl, hK, this.2.1.symm⟩)
      · obtain ⟨m, rfl⟩ : ∃ m, n = m + 1 := ⟨n - 1, by omega⟩
        obtain ⟨hb, r, n', stk', seen', F', hF, hq, hp⟩ := loop_some hp
        obtain rfl : F' = F := by omega
        have hG' := hG.on hK
        refine ev_aload_n dX11_marks_12 rfl ?_
        refine ev_cvi dX11_marks_13 lX11_232 (s_turnc hI hG' hn (by omega) hb hs (by rw [hK.vl, hK.vl, hK.vl, hK.fl]; exact hq)) (by decide) hI.o hI.n rfl rfl rfl (Nat.le_of_ble_eq_true rfl) rfl (fun r1 g1 q => ?_)
        obtain ⟨rfl, hK1, hn1, hs1, hse1⟩ := q
        have hr := turn_rng hG.2.1 hq (by omega) hs
        refine ev_ist2 dX11_marks_16 ?_
        refine ev_gt 5 dX11_marks_17 ?_
        exact ih n' _ stkK seenK g1 (hK1.ri hI) (hK.tr hK1) hn1 (by rw [hs1]; exact hr.1) (by rw [hs1, hse1, ← hp])
  refine ev_aload_n dX11_marks_0 rfl ?_
  refine ev_iload_n dX11_marks_1 rfl ?_
  refine ev_cvv dX11_marks_2 lX11_229 (s_starts hI hG.1 hG.2.1 h0 h9) (by decide) hI.o hI.n rfl rfl rfl (Nat.le_of_ble_eq_true rfl) rfl (fun g q => ?_)
  subst q
  obtain ⟨F, stkK, hF⟩ := dfs_run (st := h.vl 42 50) (body := fun _ (x : Unit) => x) (stk := upI (h.vl 74) 0 (rr t.toNat : Int)) (seen := h.vl 71) (x := ()) hG.2.2 hG.2.1 htN upI_s hH
  have hK : KP h ((h.put 74 0 (rr t.toNat : Int)).put 42 51 1) [74, 71] [51] := (KP.rf.pr (by decide) (by decide)).pf (by decide)
  have e1 : ((h.put 74 0 (rr t.toNat : Int)).put 42 51 1).vl 74 = upI (h.vl 74) 0 (rr t.toNat : Int) := (put_ne _ (by decide)).trans (put_row _ _ _ _)
  have e2 : ((h.put 74 0 (rr t.toNat : Int)).put 42 51 1).vl 71 = h.vl 71 := (put_ne _ (by decide)).trans (put_ne _ (by decide))
  refine K F 1 _ stkK _ _ (hK.ri hI) hK rfl (fun i hi => ?_) (by rw [e1, e2]; exact hF)
  obtain rfl : i = 0 := by omega
  rw [e1, upI_s]
  have := (hG.2.2 _ htN).1
  omega
set_option maxRecDepth 100000 in
theorem s_has {N : Nat} {rr : Nat → Nat} {tr : Nat → TE} {t v : Int} {h : AH} (hI : RI h) (hG : GH h N rr tr) (h0 : 0 ≤ t) (h9 : t < (N : Int)) (hH : ht (tr t.toNat) ≤ 9900) (hv : 0 ≤ v) (hv9 : v < 20000) (hst : ir (h.vl 42 50 + 1)) :
    CV mX11_has 5 [rv 42, iv t, iv v] h (oi fun r h1 => r = (if (dfsP (h.vl 66) (h.vl 67) (h.vl 68) rr (h.vl 42 50 + 1) (fun _ x => x) (tr t.toNat) (rr t.toNat) (h.vl 71) ()).1 v.toNat = h.vl 42 50 + 1 then 1 else 0) ∧ KP h h1 [74, 71] [50, 51] ∧ h1.vl 42 50 = h.vl 42 50 + 1 ∧ h1.vl 71 = (dfsP (h.vl 66) (h.vl 67) (h.vl 68) rr (h.vl 42 50 + 1) (fun _ x => x) (tr t.toNat) (rr t.toNat) (h.vl 71) ()).1) := by
  refine cv_of cdX11_has ?_
  show EV _ _ 0 [rv 42, iv t, iv v] [] h _
  refine ev_aload_n dX11_has_0 rfl ?_
  refine ev_dup dX11_has_1 ?_
  refine ev_geti dX11_has_2 fX11_226 hI.o hI.n rfl ?_
  refine ev_iconst dX11_has_5 ?_
  refine ev_iadd dX11_has_6 hst ?_
  refine ev_pt dX11_has_7 fX11_226 hI.o hI.n rfl ?_
  refine ev_aload_n dX11_has_10 rfl ?_
  refine ev_iload_n dX11_has_11 rfl ?_
  have hK : KP h (h.put 42 50 (h.vl 42 50 + 1)) [74, 71] [50, 51] := KP.rf.pf (by decide)
  refine ev_cvv dX11_has_12 lX11_236 (s_marks (hK.ri hI) (hG.on hK) h0 h9 hH) (by decide) hI.o hI.n rfl rfl rfl (Nat.le_of_ble_eq_true rfl) rfl (fun g q => ?_)
  obtain ⟨hK1, hse⟩ := q
  have hK2 := hK.tr (hK1.wk (fun x h => h) (by decide) : KP _ g [74, 71] [50, 51])
  have hI := hK2.ri hI
  have e1 : g.vl 42 50 = h.vl 42 50 + 1 := hK1.fl
  rw [show (h.put 42 50 (h.vl 42 50 + 1)).vl 66 = h.vl 66 from put_ne _ (by decide), show (h.put 42 50 (h.vl 42 50 + 1)).vl 67 = h.vl 67 from put_ne _ (by decide), show (h.put 42 50 (h.vl 42 50 + 1)).vl 68 = h.vl 68 from put_ne _ (by decide), show (h.put 42 50 (h.vl 42 50 + 1)).vl 71 = h.vl 71 from put_ne _ (by decide), show (h.put 42 50 (h.vl 42 50 + 1)).vl 42 50 = h.vl 42 50 + 1 from rfl] at hse
  refine ev_aload_n dX11_has_15 rfl ?_
  refine ev_getrv dX11_has_16 fX11_98 hI.o hI.n rfl hI.v_seen ?_
  refine ev_iload_n dX11_has_19 rfl ?_
  refine ev_ild dX11_has_20 hI.k_seen hI.n_seen rfl (by omega) (by omega) ?_
  refine ev_aload_n dX11_has_21 rfl ?_
  refine ev_geti dX11_has_22 fX11_226 hI.o hI.n rfl ?_
  rw [hse, e1]
  refine ev_icmpne 32 dX11_has_25 (fun hc => ?_) (fun hc => ?_)
  · refine ev_iconst dX11_has_32 ?_
    exact ev_zret dX11_has_33 (⟨_, rfl, by rw [if_neg hc], hK2, e1, hse⟩) (by omega)
  · refine ev_iconst dX11_has_28 ?_
    refine ev_gt 33 dX11_has_29 ?_
    exact ev_zret dX11_has_33 (⟨_, rfl, by rw [if_pos hc], hK2, e1, hse⟩) (by omega)
/-- what a turn gives: -1 with nothing seen anew, or a part whose own parts were seen -/
theorem turn_ret {so fr to li : Nat → Int} {rr : Nat → Nat} {N : Nat} {tr : Nat → TE} {st : Int} (hg : GW so fr to li N rr) (hT : GT so fr to rr N tr) : ∀ {f n : Nat} {stk seen : Nat → Int} {r : Int} {n' : Nat} {stk' seen' : Nat → Int}, turnP so fr to rr st f n stk seen = some (r, n', stk', seen') → 1 ≤ n → (∀ i, i < n → 0 ≤ stk i ∧ stk i < (N : Int)) →
    (r = -1 ∧ seen' = seen) ∨ ∃ k : Nat, r = k ∧ k < N ∧ rr k = k ∧ seen k ≠ st ∧ seen' = upI seen k st ∧ (so k = 2 → seen (rr (fr k).toNat) = st ∧ seen (rr (to k).toNat) = st)
  | 0, n, stk, seen, r, n', stk', seen', h, _, _ => by simp [turnP] at h
  | f + 1, n, stk, seen, r, n', stk', seen', h, h1, hs => by
    have hm := hs (n - 1) (by omega)
    have ht := hT (stk (n - 1)).toNat (by omega)
    have psh : ∀ y : Nat, y < N → ∀ i, i < n + 1 → 0 ≤ upI stk n (y : Int) i ∧ upI stk n (y : Int) i < (N : Int) := fun y hy i hi => by
      by_cases q : i = n
      · rw [q, upI_s]; omega
      · rw [upI_n q]; exact hs i (by omega)
    unfold turnP at h
    split at h
    · simp only [Option.some.injEq, Prod.mk.injEq] at h
      obtain ⟨rfl, rfl, rfl, rfl⟩ := h
      exact Or.inl ⟨rfl, rfl⟩
    · rename_i e0
      split at h
      · rename_i e
        have g := (hg.2.2 _ ht.1 e.1).1
        exact turn_ret hg hT h (by omega) (psh _ (hT _ (by omega)).1)
      · rename_i e1
        split at h
        · rename_i e
          have g := (hg.2.2 _ ht.1 e.1).2
          exact turn_ret hg hT h (by omega) (psh _ (hT _ (by omega)).1)
        · rename_i e2
          simp only [Option.some.injEq, Prod.mk.injEq] at h
          obtain ⟨rfl, rfl, rfl, rfl⟩ := h
          refine Or.inr ⟨_, rfl, ht.1, ht.2.1, e0, rfl, fun q => ⟨?_, ?_⟩⟩
          · exact Classical.byContradiction fun z => e1 ⟨q, z⟩
          · exact Classical.byContradiction fun z => e2 ⟨q, z⟩
/-- sizes and orders of trees -/
def sz : TE → Nat
  | .var _ => 1
  | .op a b => 1 + sz a + sz b
def od : TE → Nat
  | .var _ => 0
  | .op a b => if od a + 1 > od b then od a + 1 else od b
def szc (T : TE) : Int := if sz T ≤ 201 then (sz T : Int) else 201
theorem sz_pos : ∀ T : TE, 1 ≤ sz T
  | .var _ => Nat.le_refl _
  | .op a b => by simp only [sz]; omega
theorem od_ht : ∀ T : TE, od T < ht T
  | .var _ => Nat.lt_succ_self 0
  | .op a b => by
    have := od_ht a
    have := od_ht b
    simp only [od, ht]
    split <;> omega
theorem szc_op (a b : TE) : szc (.op a b) = if 1 + szc a + szc b > 201 then 201 else 1 + szc a + szc b := by
  have := sz_pos a
  have := sz_pos b
  unfold szc
  simp only [sz]
  by_cases ha : sz a ≤ 201 <;> by_cases hb : sz b ≤ 201 <;> by_cases hc : 1 + sz a + sz b ≤ 201 <;> simp only [ha, hb, hc, if_true, if_false] <;> (try split) <;> omega
theorem szc_rng (a : TE) : 1 ≤ szc a ∧ szc a ≤ 201 := by
  have := sz_pos a
  unfold szc
  split <;> omega
theorem upI_u {f : Nat → Int} {k : Nat} {x y : Int} : upI (upI f k x) k y = upI f k y := by
  funext j
  unfold upI
  split <;> rfl
set_option maxHeartbeats 2000000 in
set_option maxRecDepth 100000 in
theorem s_size {N : Nat} {rr : Nat → Nat} {tr : Nat → TE} {t : Int} {h : AH} (hI : RI h) (hG : GH h N rr tr) (h0 : 0 ≤ t) (h9 : t < (N : Int)) (hH : ∀ k, k < N → ht (tr k) ≤ 9900) (hst : ir (h.vl 42 50 + 1)) (hse : ∀ k, h.vl 71 k ≤ h.vl 42 50) :
    CV mX11_size 5 [rv 42, iv t] h (oi fun r h1 => r = szc (tr t.toNat) ∧ KP h h1 [74, 71, 72, 73] [50, 51] ∧ h1.vl 42 50 = h.vl 42 50 + 1 ∧ (∀ k, h1.vl 71 k ≤ h1.vl 42 50) ∧ h1.vl 73 (rr t.toNat) = od (tr t.toNat)) := by
  refine cv_of cdX11_size ?_
  show EV _ _ 0 [rv 42, iv t, uv, uv, uv, uv] [] h _
  have htN : t.toNat < N := by omega
  have hrr := (hG.2.2 _ htN).1
  have hN := hG.1
  have hI0 := hI
  have K : ∀ (F n : Nat) (v2 v3 v4 v5 : AV) (stkK seenK : Nat → Int) (g : AH), RI g → KP h g [74, 71, 72, 73] [50, 51] → g.vl 42 50 = h.vl 42 50 + 1 → g.vl 42 51 = (n : Int) → (∀ i, i < n → 0 ≤ g.vl 74 i ∧ g.vl 74 i < (N : Int)) → (∀ k, g.vl 71 k ≤ h.vl 42 50 + 1) → (∀ k, k < N → rr k = k → g.vl 71 k = h.vl 42 50 + 1 → g.vl 72 k = szc (tr k) ∧ g.vl 73 k = od (tr k)) → seenK (rr t.toNat) = h.vl 42 50 + 1 → loopP (h.vl 66) (h.vl 67) (h.vl 68) rr (h.vl 42 50 + 1) (fun _ (x : Unit) => x) (ht (tr t.toNat) + 1) F n (g.vl 74) (g.vl 71) () = some (stkK, seenK, ()) →
      EV mX11_size 5 15 [rv 42, iv t, v2, v3, v4, v5] [] g (oi fun r h1 => r = szc (tr t.toNat) ∧ KP h h1 [74, 71, 72, 73] [50, 51] ∧ h1.vl 42 50 = h.vl 42 50 + 1 ∧ (∀ k, h1.vl 71 k ≤ h1.vl 42 50) ∧ h1.vl 73 (rr t.toNat) = od (tr t.toNat)) := by
    intro F
    induction F with
    | zero => intro n v2 v3 v4 v5 stkK seenK g _ _ _ _ _ _ _ _ hp; exact absurd hp (by simp [loopP])
    | succ F ih =>
      intro n v2 v3 v4 v5 stkK seenK g hI hK hst hn hs hse hJ hsK hp
      have hG' := hG.on hK
      refine ev_aload_n dX11_size_15 rfl ?_
      refine ev_geti dX11_size_16 fX11_220 hI.o hI.n rfl ?_
      rw [hn]
      refine ev_ifle 169 dX11_size_19 (fun hc => ?_) (fun hc => ?_)
      · obtain rfl : n = 0 := by omega
        have := loop_done hp
        simp only [Prod.mk.injEq] at this
        have hJt := hJ _ hrr (hG.2.2 _ htN).2.1 (by rw [← this.2.1]; exact hsK)
        rw [hG.2.2.rr htN] at hJt
        refine ev_aload_n dX11_size_169 rfl ?_
        refine ev_getrv dX11_size_170 fX11_101 hI.o hI.n rfl hI.v_memo ?_
        refine ev_aload_n dX11_size_173 rfl ?_
        refine ev_iload_n dX11_size_174 rfl ?_
        refine ev_cvi dX11_size_175 lX11_223 (s_is' hI hG'.1 hG'.2.1 h0 h9) (by decide) hI.o hI.n rfl rfl rfl (Nat.le_of_ble_eq_true rfl) rfl (fun r1 g1 q => ?_)
        obtain ⟨rfl, rfl⟩ := q
        refine ev_ild dX11_size_178 hI.k_memo hI.n_memo rfl (by omega) (by omega) ?_
        exact ev_iret dX11_size_179 (⟨_, rfl, hJt.1, hK, hst, by rw [hst]; exact hse, hJt.2⟩)
      · obtain ⟨m, rfl⟩ : ∃ m, n = m + 1 := ⟨n - 1, by omega⟩
        obtain ⟨hb, r, n', stk', seen', F', hF, hq, hp⟩ := loop_some hp
        obtain rfl : F' = F := by omega
        refine ev_aload_n dX11_size_22 rfl ?_
        refine ev_cvi dX11_size_23 lX11_232 (s_turnc hI hG' hn (by omega) hb hs (by rw [hK.vl, hK.vl, hK.vl, hst]; exact hq)) (by decide) hI.o hI.n rfl rfl rfl (Nat.le_of_ble_eq_true rfl) rfl (fun r1 g1 q => ?_)
        obtain ⟨rfl, hK1, hn1, hs1, hse1⟩ := q
        have hr := turn_rng hG.2.1 hq (by omega) hs
        have hrt := turn_ret hG.2.1 hG.2.2 hq (by omega) hs
        have hI := hK1.ri hI
        have hKa := hK.tr (hK1.wk (by decide) (by decide) : KP g g1 [74, 71, 72, 73] [50, 51])
        have em1 : g1.vl 72 = g.vl 72 := hK1.vl
        have eo1 : g1.vl 73 = g.vl 73 := hK1.vl
        have hst1 : g1.vl 42 50 = h.vl 42 50 + 1 := hK1.fl.trans hst
        have hp : loopP (h.vl 66) (h.vl 67) (h.vl 68) rr (h.vl 42 50 + 1) (fun _ (x : Unit) => x) (ht (tr t.toNat) + 1) F' n' stk' seen' () = some (stkK, seenK, ()) := by rw [← hp]
        have hse' : ∀ k, seen' k ≤ h.vl 42 50 + 1 := by
          rcases hrt with ⟨-, e⟩ | ⟨k, -, -, -, -, e, -⟩
          · rw [e]; exact hse
          · rw [e]; intro j; unfold upI; split
            · exact Int.le_refl _
            · exact hse j
        refine ev_ist2 dX11_size_26 ?_
        refine ev_iload_n dX11_size_27 rfl ?_
        refine ev_ifge 34 dX11_size_28 (fun hc2 => ?_) (fun hc2 => ?_)
        · obtain ⟨k, rfl, hkN, hkr, hk0, hks, hkc⟩ : ∃ k : Nat, r1 = k ∧ k < N ∧ rr k = k ∧ g.vl 71 k ≠ h.vl 42 50 + 1 ∧ seen' = upI (g.vl 71) k (h.vl 42 50 + 1) ∧ (h.vl 66 k = 2 → g.vl 71 (rr (h.vl 67 k).toNat) = h.vl 42 50 + 1 ∧ g.vl 71 (rr (h.vl 68 k).toNat) = h.vl 42 50 + 1) := by
            rcases hrt with ⟨e, -⟩ | e
            · omega
            · exact e
          refine ev_aload_n dX11_size_34 rfl ?_
          refine ev_getrv dX11_size_35 fX11_101 hI.o hI.n rfl hI.v_memo ?_
          refine ev_iload_n dX11_size_38 rfl ?_
          refine ev_iconst dX11_size_39 ?_
          refine ev_istr dX11_size_40 hI.k_memo hI.n_memo rfl (by omega) (by omega) ?_
          refine ev_aload_n dX11_size_41 rfl ?_
          refine ev_getrv dX11_size_42 fX11_104 hI.o hI.n rfl hI.v_orders ?_
          refine ev_iload_n dX11_size_45 rfl ?_
          refine ev_iconst dX11_size_46 ?_
          refine ev_istr dX11_size_47 hI.k_orders hI.n_orders rfl (by omega) (by omega) ?_
          refine ev_aload_n dX11_size_48 rfl ?_
          refine ev_getrv dX11_size_49 fX11_83 hI.o hI.n rfl hI.v_sort ?_
          refine ev_iload_n dX11_size_52 rfl ?_
          refine ev_ildv dX11_size_53 hI.k_sort hI.n_sort rfl (by omega) (by omega) (show _ = g1.vl 66 k from rfl) ?_
          refine ev_iconst dX11_size_54 ?_
          obtain ⟨g2, hg2⟩ : ∃ g2, g2 = (g1.put 72 (k : Int).toNat 1).put 73 (k : Int).toNat 0 := ⟨_, rfl⟩
          rw [← hg2]
          have e1 : g2.vl 72 = upI (g.vl 72) k 1 := by rw [hg2]; exact (put_ne _ (by decide)).trans ((put_row _ _ _ _).trans (by rw [em1]; rfl))
          have e2 : g2.vl 73 = upI (g.vl 73) k 0 := by rw [hg2]; exact (put_row _ _ _ _).trans (by rw [put_ne _ (by decide), eo1]; rfl)
          have e3 : g2.vl 74 = stk' := by rw [hg2]; exact (put_ne _ (by decide)).trans ((put_ne _ (by decide)).trans hs1)
          have e4 : g2.vl 71 = seen' := by rw [hg2]; exact (put_ne _ (by decide)).trans ((put_ne _ (by decide)).trans hse1)
          have hK2 : KP h g2 [74, 71, 72, 73] [50, 51] := by rw [hg2]; exact (hKa.pr (by decide) (by decide)).pr (by decide) (by decide)
          have hst2 : g2.vl 42 50 = h.vl 42 50 + 1 := by rw [hg2]; exact hst1
          have hn2 : g2.vl 42 51 = (n' : Int) := by rw [hg2]; exact hn1
          have hI := hK2.ri hI0
          have hG2 := hG.on hK2
          have hTk := (hG.2.2 k hkN).2.2
          rw [hkr] at hTk
          -- what holds when k has its own
          have nxt : ∀ (v w : Int) (v3 v4 v5 : AV) (g5 : AH), KP h g5 [74, 71, 72, 73] [50, 51] → g5.vl 42 50 = h.vl 42 50 + 1 → g5.vl 42 51 = (n' : Int) → g5.vl 74 = stk' → g5.vl 71 = seen' → g5.vl 72 = upI (g.vl 72) k v → g5.vl 73 = upI (g.vl 73) k w → v = szc (tr k) → w = od (tr k) →
              EV mX11_size 5 15 [rv 42, iv t, iv k, v3, v4, v5] [] g5 (oi fun r h1 => r = szc (tr t.toNat) ∧ KP h h1 [74, 71, 72, 73] [50, 51] ∧ h1.vl 42 50 = h.vl 42 50 + 1 ∧ (∀ k, h1.vl 71 k ≤ h1.vl 42 50) ∧ h1.vl 73 (rr t.toNat) = od (tr t.toNat)) := by
            intro v w v3 v4 v5 g5 f0 f1 f2 f3 f4 f5 f6 hv hw
            refine ih n' _ _ _ _ stkK seenK g5 (f0.ri hI0) f0 f1 f2 (by rw [f3]; exact hr.1) (by rw [f4]; exact hse') (fun j hj hjr hjs => ?_) hsK (by rw [f3, f4]; exact hp)
            rw [f5, f6]
            by_cases q : j = k
            · subst q; rw [upI_s, upI_s]; exact ⟨hv, hw⟩
            · rw [upI_n q, upI_n q]
              rw [f4, hks, upI_n q] at hjs
              exact hJ j hj hjr hjs
          rw [show g1.vl 66 k = h.vl 66 k by rw [hKa.vl]]
          refine ev_icmpeq 61 dX11_size_55 (fun hc3 => ?_) (fun hc3 => ?_)
          · have g := hG.2.1.2.2 k hkN hc3
            have hkc := hkc hc3
            rw [if_pos hc3] at hTk
            refine ev_aload_n dX11_size_61 rfl ?_
            refine ev_aload_n dX11_size_62 rfl ?_
            refine ev_getrv dX11_size_63 fX11_86 hI.o hI.n rfl hI.v_from ?_
            refine ev_iload_n dX11_size_66 rfl ?_
            refine ev_ildv dX11_size_67 hI.k_from hI.n_from rfl (by omega) (by omega) (show _ = g2.vl 67 k from rfl) ?_
            rw [show g2.vl 67 k = h.vl 67 k by rw [hK2.vl]]
            refine ev_cvi dX11_size_68 lX11_223 (s_is' hI hG2.1 hG2.2.1 g.1.1 g.1.2) (by decide) hI.o hI.n rfl rfl rfl (Nat.le_of_ble_eq_true rfl) rfl (fun r1 g3 q => ?_)
            obtain ⟨rfl, rfl⟩ := q
            have hra := hG.2.2 (h.vl 67 k).toNat (by omega)
            have hrb := hG.2.2 (h.vl 68 k).toNat (by omega)
            have hta := hG.2.2.rr (t := (h.vl 67 k).toNat) (by omega)
            have htb := hG.2.2.rr (t := (h.vl 68 k).toNat) (by omega)
            obtain ⟨a, ha⟩ : ∃ a, a = rr (h.vl 67 k).toNat := ⟨_, rfl⟩
            obtain ⟨b, hb2⟩ : ∃ b, b = rr (h.vl 68 k).toNat := ⟨_, rfl⟩
            rw [← ha] at hra hta hkc ⊢
            rw [← hb2] at hrb htb hkc
            have hJa := hJ a hra.1 hra.2.1 hkc.1
            have hJb := hJ b hrb.1 hrb.2.1 hkc.2
            rw [hta] at hJa
            rw [htb] at hJb
            have hak : a ≠ k := fun z => hk0 (z ▸ hkc.1)
            have hbk : b ≠ k := fun z => hk0 (z ▸ hkc.2)
            refine ev_ist3 dX11_size_71 ?_
            refine ev_aload_n dX11_size_72 rfl ?_
            refine ev_aload_n dX11_size_73 rfl ?_
            refine ev_getrv dX11_size_74 fX11_89 hI.o hI.n rfl hI.v_to ?_
            refine ev_iload_n dX11_size_77 rfl ?_
            refine ev_ildv dX11_size_78 hI.k_to hI.n_to rfl (by omega) (by omega) (show _ = g3.vl 68 k from rfl) ?_
            rw [show g3.vl 68 k = h.vl 68 k by rw [hK2.vl]]
            refine ev_cvi dX11_size_79 lX11_223 (s_is' hI hG2.1 hG2.2.1 g.2.1 g.2.2) (by decide) hI.o hI.n rfl rfl rfl (Nat.le_of_ble_eq_true rfl) rfl (fun r1 g4 q => ?_)
            obtain ⟨rfl, rfl⟩ := q
            rw [← hb2]
            have hma : g4.vl 72 a = szc (tr (h.vl 67 k).toNat) := by rw [e1, upI_n hak]; exact hJa.1
            have hmb : g4.vl 72 b = szc (tr (h.vl 68 k).toNat) := by rw [e1, upI_n hbk]; exact hJb.1
            have hoa : g4.vl 73 a = od (tr (h.vl 67 k).toNat) := by rw [e2, upI_n hak]; exact hJa.2
            have hob : g4.vl 73 b = od (tr (h.vl 68 k).toNat) := by rw [e2, upI_n hbk]; exact hJb.2
            have hra1 := szc_rng (tr (h.vl 67 k).toNat)
            have hrb1 := szc_rng (tr (h.vl 68 k).toNat)
            have hoa1 := od_ht (tr (h.vl 67 k).toNat)
            have hob1 := od_ht (tr (h.vl 68 k).toNat)
            have hHa := hH (h.vl 67 k).toNat (by omega)
            have hHb := hH (h.vl 68 k).toNat (by omega)
            have eS := szc_op (tr (h.vl 67 k).toNat) (tr (h.vl 68 k).toNat)
            have eO : (od (tr k) : Int) = if g4.vl 73 a + 1 > g4.vl 73 b then g4.vl 73 a + 1 else g4.vl 73 b := by
              rw [hTk, hoa, hob]
              simp only [od]
              split <;> split <;> omega
            rw [← hTk] at eS
            refine ev_ist4 dX11_size_82 ?_
            refine ev_iconst dX11_size_84 ?_
            refine ev_aload_n dX11_size_85 rfl ?_
            refine ev_getrv dX11_size_86 fX11_101 hI.o hI.n rfl hI.v_memo ?_
            refine ev_iload_n dX11_size_89 rfl ?_
            refine ev_ildv dX11_size_90 hI.k_memo hI.n_memo rfl (by omega) (by omega) (show _ = g4.vl 72 a from rfl) ?_
            refine ev_iadd dX11_size_91 (by unfold ir; omega) ?_
            refine ev_aload_n dX11_size_92 rfl ?_
            refine ev_getrv dX11_size_93 fX11_101 hI.o hI.n rfl hI.v_memo ?_
            refine ev_iload dX11_size_96 rfl ?_
            refine ev_ildv dX11_size_98 hI.k_memo hI.n_memo rfl (by omega) (by omega) (show _ = g4.vl 72 b from rfl) ?_
            refine ev_iadd dX11_size_99 (by unfold ir; omega) ?_
            refine ev_ist5 dX11_size_100 ?_
            refine ev_aload_n dX11_size_102 rfl ?_
            refine ev_getrv dX11_size_103 fX11_101 hI.o hI.n rfl hI.v_memo ?_
            refine ev_iload_n dX11_size_106 rfl ?_
            refine ev_iload dX11_size_107 rfl ?_
            refine ev_sipush dX11_size_109 ?_
            have fo : ∀ (v : Int) (v5 : AV), v = szc (tr k) → EV mX11_size 5 124 [rv 42, iv t, iv k, iv a, iv b, v5] [] (g4.put 72 (k : Int).toNat v) (oi fun r h1 => r = szc (tr t.toNat) ∧ KP h h1 [74, 71, 72, 73] [50, 51] ∧ h1.vl 42 50 = h.vl 42 50 + 1 ∧ (∀ k, h1.vl 71 k ≤ h1.vl 42 50) ∧ h1.vl 73 (rr t.toNat) = od (tr t.toNat)) := by
              intro v v5 hv
              have hK4 := hK2.pr (r := 72) (i := (k : Int).toNat) (x := v) (by decide) (by decide)
              have hI := hK4.ri hI0
              have fin : ∀ w : Int, w = od (tr k) → EV mX11_size 5 15 [rv 42, iv t, iv k, iv a, iv b, v5] [] ((g4.put 72 (k : Int).toNat v).put 73 (k : Int).toNat w) (oi fun r h1 => r = szc (tr t.toNat) ∧ KP h h1 [74, 71, 72, 73] [50, 51] ∧ h1.vl 42 50 = h.vl 42 50 + 1 ∧ (∀ k, h1.vl 71 k ≤ h1.vl 42 50) ∧ h1.vl 73 (rr t.toNat) = od (tr t.toNat)) := fun w hw =>
                nxt v w _ _ _ _ (hK4.pr (by decide) (by decide)) hst2 hn2 ((put_ne _ (by decide)).trans ((put_ne _ (by decide)).trans e3)) ((put_ne _ (by decide)).trans ((put_ne _ (by decide)).trans e4)) ((put_ne _ (by decide)).trans ((put_row _ _ _ _).trans (by rw [e1]; exact upI_u))) ((put_row _ _ _ _).trans (by rw [put_ne _ (by decide), e2]; exact upI_u)) hv hw
              refine ev_aload_n dX11_size_124 rfl ?_
              refine ev_getrv dX11_size_125 fX11_104 hI.o hI.n rfl hI.v_orders ?_
              refine ev_iload_n dX11_size_128 rfl ?_
              refine ev_aload_n dX11_size_129 rfl ?_
              refine ev_getrv dX11_size_130 fX11_104 hI.o hI.n rfl hI.v_orders ?_
              refine ev_iload_n dX11_size_133 rfl ?_
              refine ev_ildv dX11_size_134 hI.k_orders hI.n_orders rfl (by omega) (by omega) (show _ = g4.vl 73 a from rfl) ?_
              refine ev_iconst dX11_size_135 ?_
              refine ev_iadd dX11_size_136 (by unfold ir; omega) ?_
              refine ev_aload_n dX11_size_137 rfl ?_
              refine ev_getrv dX11_size_138 fX11_104 hI.o hI.n rfl hI.v_orders ?_
              refine ev_iload dX11_size_141 rfl ?_
              refine ev_ildv dX11_size_143 hI.k_orders hI.n_orders rfl (by omega) (by omega) (show _ = g4.vl 73 b from rfl) ?_
              refine ev_icmple 158 dX11_size_144 (fun hc5 => ?_) (fun hc5 => ?_)
              · refine ev_aload_n dX11_size_158 rfl ?_
                refine ev_getrv dX11_size_159 fX11_104 hI.o hI.n rfl hI.v_orders ?_
                refine ev_iload dX11_size_162 rfl ?_
                refine ev_ildv dX11_size_164 hI.k_orders hI.n_orders rfl (by omega) (by omega) (show _ = g4.vl 73 b from rfl) ?_
                refine ev_istr dX11_size_165 hI.k_orders hI.n_orders rfl (by omega) (by omega) ?_
                refine ev_gt 15 dX11_size_166 ?_
                refine fin _ ?_
                rw [eO, if_neg (by omega)]
              · refine ev_aload_n dX11_size_147 rfl ?_
                refine ev_getrv dX11_size_148 fX11_104 hI.o hI.n rfl hI.v_orders ?_
                refine ev_iload_n dX11_size_151 rfl ?_
                refine ev_ildv dX11_size_152 hI.k_orders hI.n_orders rfl (by omega) (by omega) (show _ = g4.vl 73 a from rfl) ?_
                refine ev_iconst dX11_size_153 ?_
                refine ev_iadd dX11_size_154 (by unfold ir; omega) ?_
                refine ev_gt 165 dX11_size_155 ?_
                refine ev_istr dX11_size_165 hI.k_orders hI.n_orders rfl (by omega) (by omega) ?_
                refine ev_gt 15 dX11_size_166 ?_
                refine fin _ ?_
                rw [eO, if_pos (by omega)]
            refine ev_icmple 121 dX11_size_112 (fun hc4 => ?_) (fun hc4 => ?_)
            · refine ev_iload dX11_size_121 rfl ?_
              refine ev_istr dX11_size_123 hI.k_memo hI.n_memo rfl (by omega) (by omega) ?_
              exact fo _ _ (by rw [eS, if_neg (by omega)]; omega)
            · refine ev_sipush dX11_size_115 ?_
              refine ev_gt 123 dX11_size_118 ?_
              refine ev_istr dX11_size_123 hI.k_memo hI.n_memo rfl (by omega) (by omega) ?_
              exact fo _ _ (by rw [eS, if_pos (by omega)])
          · rw [if_neg hc3] at hTk
            obtain ⟨v, hv⟩ := lfc_var (k := h.vl 66 k) (r := k)
            rw [hv] at hTk
            refine ev_gt 15 dX11_size_58 ?_
            exact nxt 1 0 _ _ _ g2 hK2 hst2 hn2 e3 e4 e1 e2 (by rw [hTk]; rfl) (by rw [hTk]; rfl)
        · obtain ⟨e0, e9⟩ : r1 = -1 ∧ seen' = g.vl 71 := by
            rcases hrt with e | ⟨k, e, -⟩
            · exact e
            · omega
          refine ev_gt 15 dX11_size_31 ?_
          exact ih n' _ v3 v4 v5 stkK seenK g1 hI hKa hst1 hn1 (by rw [hs1]; exact hr.1) (by rw [hse1]; exact hse') (by rw [hse1, e9, em1, eo1]; exact hJ) hsK (by rw [hs1, hse1]; exact hp)
  refine ev_aload_n dX11_size_0 rfl ?_
  refine ev_dup dX11_size_1 ?_
  refine ev_geti dX11_size_2 fX11_226 hI.o hI.n rfl ?_
  refine ev_iconst dX11_size_5 ?_
  refine ev_iadd dX11_size_6 hst ?_
  refine ev_pt dX11_size_7 fX11_226 hI.o hI.n rfl ?_
  refine ev_aload_n dX11_size_10 rfl ?_
  refine ev_iload_n dX11_size_11 rfl ?_
  have hK : KP h (h.put 42 50 (h.vl 42 50 + 1)) [74, 71, 72, 73] [50, 51] := KP.rf.pf (by decide)
  refine ev_cvv dX11_size_12 lX11_229 (s_starts (hK.ri hI) hG.1 (hG.on hK).2.1 h0 h9) (by decide) hI.o hI.n rfl rfl rfl (Nat.le_of_ble_eq_true rfl) rfl (fun g q => ?_)
  obtain ⟨F, stkK, hF⟩ := dfs_run (st := h.vl 42 50 + 1) (body := fun _ (x : Unit) => x) (stk := upI (h.vl 74) 0 (rr t.toNat : Int)) (seen := h.vl 71) (x := ()) hG.2.2 hG.2.1 htN upI_s (hH _ htN)
  have hKg : KP h g [74, 71, 72, 73] [50, 51] := by rw [q]; exact (hK.pr (by decide) (by decide)).pf (by decide)
  have e1 : g.vl 74 = upI (h.vl 74) 0 (rr t.toNat : Int) := by rw [q]; exact (put_ne _ (by decide)).trans ((put_row _ _ _ _).trans (by rw [put_ne _ (by decide)]))
  have e2 : g.vl 71 = h.vl 71 := by rw [q]; exact (put_ne _ (by decide)).trans ((put_ne _ (by decide)).trans (put_ne _ (by decide)))
  refine K F 1 _ _ _ _ stkK _ g (hKg.ri hI) hKg (by rw [q]; rfl) (by rw [q]; rfl) (fun i hi => ?_) (by rw [e2]; intro k; have := hse k; omega) (fun k hk hkr hks => ?_) (dfs_top hG.2.2 _ _ _ _) (by rw [e1, e2]; exact hF)
  · obtain rfl : i = 0 := by omega
    rw [e1, upI_s]
    omega
  · rw [e2] at hks
    have := hse k
    omega
