/-! a call over a fuller stack -/
section EvCallW
variable {M : MD} {d pc : Nat} {L S : List AV} {h : AH} {Q : AV → AH → Prop}
theorem av_sum1 {φ : Nat → Nat} : ∀ (S : List AV), S.all (fun v => v.1 != 2 && v.1 != 4) = true → ((S.map (av_c φ)).map fun v => v.category).sum = S.length
  | [], _ => rfl
  | v :: S, h => by
    rw [List.all_cons, Bool.and_eq_true] at h
    have h1 := h.1
    simp only [Bool.and_eq_true, bne_iff_ne, ne_eq] at h1
    have := av_sum1 (φ := φ) S h.2
    simp only [List.map_cons, List.sum_cons, List.length_cons, av_cat (φ := φ) h1.1 h1.2, this]
    omega
theorem st_w1 {φ : Nat → Nat} {m : MethodId} {ls : Array Slot} {st0 : List Value} (hS : S.length ≤ 8) (h1 : S.all (fun v => v.1 != 2 && v.1 != 4) = true) : 2 * (F0 m pc ls st0).monitorRoom + ((S.map (av_c φ)).map fun v => v.category).sum ≤ 8 :=
  lv_room (by rw [av_sum1 S h1]; exact hS)
theorem ev_callvW {idx n ci N : Nat} {a : Int} {as st : List AV} {M' : MD} {d' : Nat} {Q1 : AV → AH → Prop} (hd : decode M.cc pc = .ok (.invokevirtual idx, 3)) (lk : LKV M.y.cls idx M' ci n) (hc : CV M' d' (rv a :: as) h Q1) (hdd : d' < d) (ha : 0 ≤ a) (hna : a < (h.n : Int)) (hk : h.kd a.toNat = (ci, N)) (hst : st = (rv a :: as).reverse ++ S) (hn : as.length = n) (hS : S.length ≤ 8) (hS1 : S.all (fun v => v.1 != 2 && v.1 != 4) = true) (hh : M.hh = [])
    (k : ∀ o h1, Q1 o h1 → (o.1 = 7 → Q o h1) ∧ (o.1 ≠ 7 → EV M d (pc + 3) L (pu o S) h1 Q)) (h7 : (∀ o h1, Q1 o h1 → o.1 ≠ 7) ∨ Cond.methodLink M.y.cls idx M'.y ∈ gw) : EV M d pc L st h Q := by
  obtain ⟨hM, hml', hnp, hin, hse, hlk, T, ty, N', hKC⟩ := lk
  refine ev_call hc hst hh k ?_
  intro p l e R s m args below meth c D base scr φ cA H locs ls cells slots o h1 C P hl ct q1 hcl hsl
  refine ⟨(Value.ref (φ a.toNat) :: as.map (av_c φ)).toArray, ?_⟩
  have C0 := C
  obtain ⟨hx, hb, hr, hml, hown, hts, hlo', htr, htb, hnm, hK, hbs, hG, hf, hlo⟩ := C
  have hMt := ct.2 l D base scr φ cA htr
  have hpre : PreV s H M'.y.cls (φ a.toNat) (PCc D base scr φ cA (rv a :: as) h) (as.map (av_c φ)) := ⟨pc_blind, vrecv C0 P hKC ha hna hk, fun U hU hW => by
    have := pc_at (as := rv a :: as) C0 P hU hW
    rw [List.map_cons, rv_c ha] at this
    exact this⟩
  subst hst
  by_cases hg : Cond.methodLink M.y.cls idx M'.y ∈ gw
  · exact vx_runV (cc := M.cc) (C := M'.y.cls) (As := as.map (av_c φ)) ⟨hx, hb, hml, hown, hts⟩ hMt ⟨callB_of n hts (gw_good hM) rfl rfl rfl (hts _ hM.2.1) (hts _ hg) ⟨hM.2.2.2.1.1, hM.2.2.2.1.2, hnp⟩ ⟨by show d' + 8 + 1 ≤ R.frames; omega, by show 8 + (M'.ml + 11) + (64 * d' + 200) ≤ R.locals; omega⟩, hts _ hin, hts _ hse⟩ hpre rfl (by rw [List.length_map]; exact hn) hl.1 (st_v ha) (st_w1 hS hS1) hd ⟨hcl, hsl⟩
  · obtain ⟨host, hng⟩ := hlk.resolve_left hg
    have h7' := h7.resolve_right hg
    exact vx_of_va (va_runVN (cc := M.cc) (C := M'.y.cls) (As := as.map (av_c φ)) ⟨hx, hb, hml, hown, hts⟩ (met_of hMt (fun E s t hXC => by obtain ⟨_, _, _, h8, _⟩ := hXC; exact h7' _ _ q1 h8)) ⟨va_cnB n hts (gw_good hM) rfl rfl rfl (hG.2.2.1 _ hng rfl) (hts _ hM.2.1) ⟨hM.2.2.2.1.1, hM.2.2.2.1.2, hnp⟩ ⟨by show d' + 8 + 1 ≤ R.frames; omega, by show 8 + (M'.ml + 11) + (64 * d' + 200) ≤ R.locals; omega⟩, hts _ hin, hts _ hse⟩ hpre rfl (by rw [List.length_map]; exact hn) hl.1 (st_v ha) (st_w1 hS hS1) hd ⟨hcl, hsl⟩)
theorem ev_cviW {idx n ci N r : Nat} {a : Int} {as st : List AV} {M' : MD} {d' : Nat} {P : Int → AH → Prop} (hd : decode M.cc pc = .ok (.invokevirtual idx, 3)) (lk : LKV M.y.cls idx M' ci n) (hc : CV M' d' (rv a :: as) h (oi P)) (hdd : d' < d) (hk : h.kd r = (ci, N)) (hn : r < h.n) (ha : a = (r : Int)) (hst : st = (rv a :: as).reverse ++ S) (hl : as.length = n) (hS : S.length ≤ 8) (hS1 : S.all (fun v => v.1 != 2 && v.1 != 4) = true) (hh : M.hh = [])
    (k : ∀ x h1, P x h1 → EV M d (pc + 3) L (iv x :: S) h1 Q) : EV M d pc L st h Q := by
  subst ha
  refine ev_callvW hd lk hc hdd (by omega) (by omega) hk hst hl hS hS1 hh (fun o h1 q => ?_) (Or.inl fun o h1 q => ?_)
  · obtain ⟨x, rfl, q⟩ := q
    exact ⟨fun e => absurd (show (0 : Nat) = 7 from e) (by decide), fun _ => k x h1 q⟩
  · obtain ⟨x, rfl, q⟩ := q
    exact fun e => absurd (show (0 : Nat) = 7 from e) (by decide)
end EvCallW
/-! the class reads a term: what is new, what is put in at last, the way through the text -/
theorem q_mna : Cond.classLink RX7 9 "[[I" ∈ gw := gw_in (t_in_5 (List.mem_of_getElem? (i := 59) rfl)) rfl
theorem CI.gen {h h1 : AH} (hC : CI h) (hn : h.n ≤ h1.n) (hk : ∀ c, c < 94 → h1.kd c = h.kd c) (hv : ∀ c j, (c, j) ∈ CIs → h1.vl c j = h.vl c j) : CI h1 :=
  ⟨Nat.le_trans hC.1 hn, (hk 0 (by decide)).trans hC.k0, (hk 1 (by decide)).trans hC.k1, (hk 3 (by decide)).trans hC.k3, (hk 5 (by decide)).trans hC.k5, (hk 6 (by decide)).trans hC.k6, (hk 7 (by decide)).trans hC.k7, (hk 8 (by decide)).trans hC.k8, (hk 9 (by decide)).trans hC.k9, (hk 18 (by decide)).trans hC.k18, (hk 19 (by decide)).trans hC.k19, (hk 20 (by decide)).trans hC.k20, (hk 21 (by decide)).trans hC.k21, (hk 22 (by decide)).trans hC.k22, (hk 23 (by decide)).trans hC.k23, (hk 24 (by decide)).trans hC.k24, (hk 25 (by decide)).trans hC.k25, (hk 26 (by decide)).trans hC.k26, (hk 27 (by decide)).trans hC.k27, (hk 28 (by decide)).trans hC.k28, (hk 29 (by decide)).trans hC.k29, (hk 30 (by decide)).trans hC.k30, (hk 31 (by decide)).trans hC.k31, (hk 32 (by decide)).trans hC.k32, (hk 33 (by decide)).trans hC.k33, (hk 34 (by decide)).trans hC.k34, (hk 35 (by decide)).trans hC.k35, (hk 36 (by decide)).trans hC.k36, (hk 37 (by decide)).trans hC.k37, (hk 38 (by decide)).trans hC.k38, (hk 39 (by decide)).trans hC.k39, (hk 40 (by decide)).trans hC.k40, (hk 41 (by decide)).trans hC.k41, (hv 0 0 (by decide)).trans hC.v0_0, (hv 0 1 (by decide)).trans hC.v0_1, (hv 0 2 (by decide)).trans hC.v0_2, (hv 0 3 (by decide)).trans hC.v0_3, (hv 0 4 (by decide)).trans hC.v0_4, (hv 0 5 (by decide)).trans hC.v0_5, (hv 0 6 (by decide)).trans hC.v0_6, (hv 0 7 (by decide)).trans hC.v0_7, (hv 0 8 (by decide)).trans hC.v0_8, (hv 0 9 (by decide)).trans hC.v0_9, (hv 5 0 (by decide)).trans hC.v5_0, (hv 5 2 (by decide)).trans hC.v5_2, (hv 8 0 (by decide)).trans hC.v8_0, (hv 8 1 (by decide)).trans hC.v8_1, (hv 8 2 (by decide)).trans hC.v8_2, (hv 8 3 (by decide)).trans hC.v8_3, (hv 8 4 (by decide)).trans hC.v8_4, (hv 8 5 (by decide)).trans hC.v8_5, (hv 9 12 (by decide)).trans hC.v9_12, (hv 19 0 (by decide)).trans hC.v19_0, (hv 19 1 (by decide)).trans hC.v19_1, (hv 19 2 (by decide)).trans hC.v19_2, (hv 27 0 (by decide)).trans hC.v27_0, (hv 29 0 (by decide)).trans hC.v29_0, (hv 31 0 (by decide)).trans hC.v31_0, (hv 31 1 (by decide)).trans hC.v31_1, (hv 34 0 (by decide)).trans hC.v34_0, (hv 34 1 (by decide)).trans hC.v34_1, (hv 37 0 (by decide)).trans hC.v37_0, (hv 37 1 (by decide)).trans hC.v37_1, (hv 40 0 (by decide)).trans hC.v40_0⟩
/-- a heap that grew: what was there is as before, but for A and F -/
def KG (h h1 : AH) (A : List Nat) (F : List (Nat × Nat)) (dc ds : Nat) : Prop := h.n ≤ h1.n ∧ h1.cs ≤ h.cs + dc ∧ h1.ss ≤ h.ss + ds ∧ (∀ c, c < h.n → h1.kd c = h.kd c) ∧ ∀ c j, c < h.n → c ∉ A → (c, j) ∉ F → h1.vl c j = h.vl c j
theorem KG.v {h h1 : AH} {A : List Nat} {F : List (Nat × Nat)} {dc ds : Nat} (k : KG h h1 A F dc ds) {c j : Nat} (hc : c < h.n) (hA : c ∉ A := by decide) (hF : (c, j) ∉ F := by decide) : h1.vl c j = h.vl c j := k.2.2.2.2 c j hc hA hF
theorem KG.ci {h h1 : AH} {A : List Nat} {F : List (Nat × Nat)} {dc ds : Nat} (k : KG h h1 A F dc ds) (hC : CI h) (hs : CIs.all (fun q => decide (q.1 ∉ A ∧ q ∉ F)) = true := by decide) : CI h1 :=
  hC.gen k.1 (fun c hc => k.2.2.2.1 c (Nat.lt_of_lt_of_le hc hC.1)) (fun c j hm => by
    have z := of_decide_eq_true (List.all_eq_true.mp hs _ hm)
    have h41 : ∀ q ∈ CIs, q.1 < 94 := by decide
    exact k.2.2.2.2 c j (Nat.lt_of_lt_of_le (h41 _ hm) hC.1) z.1 z.2)
set_option maxRecDepth 100000 in
theorem s_X7init {m : Int} {a : Nat} {h : AH} (ka : h.kd a = (7, 2)) (na : a < h.n) (h0 : 0 ≤ m) (h9 : m ≤ 1000) : CV mX7_init 2 [rv a, iv m] h (on fun h1 => h1 = (h.mna 8 m.toNat).put a 0 (h.n : Int)) := by
  refine cv_of cdX7_init ?_
  show EV _ _ 0 [rv a, iv m] [] h _
  have k2 : (h.mna 8 m.toNat).kd a = (7, 2) := by rw [AH.mna_kd, if_neg (by omega), if_neg (by omega)]; exact ka
  have n2 : a < (h.mna 8 m.toNat).n := by rw [AH.mna_n]; omega
  refine ev_aload_n dX7_init_0 rfl ?_
  refine ev_oinit dX7_init_1 oX7_3 (by omega) (Nat.le_of_ble_eq_true rfl) ?_
  refine ev_aload_n dX7_init_4 rfl ?_
  refine ev_bipush dX7_init_5 ?_
  refine ev_iload_n dX7_init_7 rfl ?_
  refine ev_ifge 15 dX7_init_8 (fun hb => ?_) (fun h_no => (by exfalso; omega))
  refine ev_iload_n dX7_init_15 rfl ?_
  refine ev_mna dX7_init_16 q_mna q_ai (by omega) (by omega) (by omega) (by omega) ?_
  refine ev_ptF dX7_init_20 fX7_11F rfl k2 n2 rfl ?_
  exact ev_vret dX7_init_23 (⟨rfl, rfl⟩)
/-- a new term: its cells, and what was there before -/
theorem nt_RE {h h1 : AH} {K : Nat} (hC : CI h) (e : h1 = (((h.new (7, 2)).mna 8 K).put h.n 0 ((h.n + 1 : Nat) : Int)).put 5 3 0) (hK : K ≤ 1000) : KG h h1 [] [(5, 3)] 10 (10 + 8 * K) ∧ RE h1 h1 h.n K [] := by
  have n94 := hC.1
  have en : h1.n = h.n + 10 := by rw [e, AH.put_n, AH.put_n, AH.mna_n, AH.new_n]
  have ek : ∀ c, h1.kd c = if c = h.n + 1 then (104, 8) else if h.n + 1 < c ∧ c < h.n + 2 + 8 then (100, K) else if c = h.n then (7, 2) else h.kd c := fun c => by rw [e, AH.put_kd, AH.put_kd, AH.mna_kd, AH.new_kd, AH.new_n]
  have ev : ∀ c j, h1.vl c j = if c = 5 ∧ j = 3 then 0 else if c = h.n ∧ j = 0 then ((h.n + 1 : Nat) : Int) else if c = h.n + 1 then (if j < 8 then ((h.n + 1 + 1 + j : Nat) : Int) else -1) else if h.n + 1 < c ∧ c < h.n + 2 + 8 then 0 else if c = h.n then kz (7, 2) j else h.vl c j := fun c j => by rw [e, AH.put_vl, AH.put_vl, AH.mna_vl, AH.new_vl, mnaf, AH.new_n]
  have g : KG h h1 [] [(5, 3)] 10 (10 + 8 * K) := by
    refine ⟨by omega, ?_, ?_, fun c hc => ?_, fun c j hc _ hF => ?_⟩
    · rw [e, AH.put_cs, AH.put_cs, AH.mna_cs, AH.new_cs]; omega
    · rw [e, AH.put_ss, AH.put_ss, AH.mna_ss, AH.new_ss]
      show h.ss + 2 + 8 + 8 * K ≤ _
      omega
    · rw [ek, if_neg (by omega), if_neg (by omega), if_neg (by omega)]
    · have hF2 : ¬ (c = 5 ∧ j = 3) := fun z => hF (by rw [z.1, z.2]; decide)
      rw [ev, if_neg hF2, if_neg (by omega), if_neg (by omega), if_neg (by omega), if_neg (by omega)]
  refine ⟨g, g.ci hC, n94, ⟨⟨?_, by omega⟩, ⟨?_, ?_, by omega⟩, fun k hk => ⟨?_, ?_, by show h.n + 2 + k < h1.n; omega⟩, ?_, Nat.zero_le _, by omega⟩, fun c j _ hj => ?_, KS.rf, trivial, ?_⟩
  · rw [ek, if_neg (by omega), if_neg (by omega), if_pos rfl]
  · rw [ev, if_neg (by omega), if_pos ⟨rfl, rfl⟩]
  · rw [ek, if_pos rfl]
  · rw [ev, if_neg (by omega), if_neg (by omega), if_pos rfl, if_pos hk]
  · show h1.kd (h.n + 2 + k) = (100, K)
    rw [ek, if_neg (by omega), if_pos (by omega)]
  · rw [ev, if_neg (by omega), if_neg (by omega), if_neg (by omega), if_neg (by omega), if_pos rfl]
    rfl
  · rcases hj with hj | hj
    · exact absurd hj (Nat.not_lt_zero j)
    · exact nomatch hj.2
  · rw [ev, if_pos ⟨rfl, rfl⟩]
    rfl
/-- the nodes below j have yet to be told where they start, if they are applications -/
def LB (j : Nat) (L : List Nd) : List Nd := (L.take j).map zN ++ L.drop j
theorem LB_len {j : Nat} {L : List Nd} : (LB j L).length = L.length := by
  rw [LB, List.length_append, List.length_map, ← List.length_append, List.take_append_drop]
theorem LB_pr {j : Nat} {L : List Nd} : (LB j L).map pr2 = L.map pr2 := by
  rw [LB, List.map_append, List.map_map, show pr2 ∘ zN = pr2 from rfl, ← List.map_append, List.take_append_drop]
theorem LB_at {j i : Nat} {L : List Nd} (hi : i < L.length) : (LB j L).getD i (0, 0, 0) = if i < j then zN (L.getD i (0, 0, 0)) else L.getD i (0, 0, 0) := by
  rw [LB, List.getD_eq_getElem?_getD, List.getD_eq_getElem?_getD]
  by_cases h : i < j
  · rw [if_pos h, List.getElem?_append_left (by rw [List.length_map, List.length_take]; omega), List.getElem?_map, List.getElem?_take, if_pos h, List.getElem?_eq_getElem hi]
    rfl
  · rw [if_neg h, List.getElem?_append_right (by rw [List.length_map, List.length_take]; omega), List.length_map, List.length_take, List.getElem?_drop]
    congr 2
    omega
/-- the rows when the nodes from j on are done -/
def FS (L : List Nd) (j : Nat) : Nat → Nat → Int := fun c i => if c < 7 then TBL (LB j L) (colC c) i else if j ≤ i then (if TBL L 57 i = 0 then bd (TBL L) i else -1) else -1
theorem FS_c {L : List Nd} {j j1 : Nat} {c i : Nat} (hc : c < 7) (h5 : c ≠ 5) : FS L j c i = FS L j1 c i := by
  rw [FS, FS, if_pos hc, if_pos hc]
  exact TBL_ag (LB_pr.trans LB_pr.symm) (by unfold cc6 colC; split <;> first | omega | (split <;> first | omega | (split <;> first | omega | (split <;> first | omega | (split <;> first | omega | (split <;> omega)))))) i
theorem FS_5 {L : List Nd} {j i : Nat} (hi : i < L.length) : FS L j 5 i = if i < j then (zN (L.getD i (0, 0, 0))).2.2 else (L.getD i (0, 0, 0)).2.2 := by
  rw [FS, if_pos (by decide)]
  show TBL (LB j L) 63 i = _
  rw [(TBL_own (by rw [LB_len]; exact hi)).2.2, LB_at hi]
  split <;> rfl
theorem FS_7 {L : List Nd} {j i : Nat} : FS L j 7 i = if j ≤ i then (if TBL L 57 i = 0 then bd (TBL L) i else -1) else -1 := if_neg (by decide : ¬ (7 : Nat) < 7)
theorem FS_st {L : List Nd} {j : Nat} {S : Nat → Nat → Int} (hj : j < L.length) (h5 : S 5 j = (L.getD j (0, 0, 0)).2.2) (h7 : S 7 j = (if TBL L 57 j = 0 then bd (TBL L) j else -1)) (ho : ∀ c i, c < 8 → i < L.length → ((c ≠ 5 ∧ c ≠ 7) ∨ i ≠ j) → S c i = FS L (j + 1) c i) : ∀ c i, c < 8 → i < L.length → S c i = FS L j c i := by
  intro c i hc hi
  by_cases e : i = j
  · subst e
    by_cases c5 : c = 5
    · subst c5
      rw [h5, FS_5 hj, if_neg (by omega)]
    · by_cases c7 : c = 7
      · subst c7
        rw [h7, FS_7, if_pos (Nat.le_refl _)]
      · rw [ho c i hc hi (Or.inl ⟨c5, c7⟩)]
        exact FS_c (by omega) c5
  · rw [ho c i hc hi (Or.inr e)]
    by_cases c5 : c = 5
    · subst c5
      rw [FS_5 hi, FS_5 hi]
      by_cases g : i < j
      · rw [if_pos (by omega), if_pos g]
      · rw [if_neg (by omega), if_neg g]
    · by_cases c7 : c = 7
      · subst c7
        rw [FS_7, FS_7]
        by_cases g : i < j
        · rw [if_neg (by omega), if_neg (by omega)]
        · have g1 : j + 1 ≤ i := by omega
          have g2 : j ≤ i := by omega
          rw [if_pos g1, if_pos g2]
      · exact FS_c (by omega) c5
def AgL (L : List Nd) (S S1 : Nat → Nat → Int) : Prop := ∀ c i, c < 8 → i < L.length → S c i = S1 c i
theorem FS_kd {L : List Nd} {j i : Nat} (hi : i < L.length) : FS L j 0 i = (L.getD i (0, 0, 0)).1 := by
  rw [FS, if_pos (by decide)]
  show TBL (LB j L) 57 i = _
  rw [TBL_ag LB_pr (by unfold cc6; omega), (TBL_own hi).1]
set_option maxRecDepth 100000 in
theorem fin_loop {h0 : AH} {a N w : Nat} {L : List Nd} {P : List Int} (hN : L.length ≤ N) (h9 : L.length ≤ 120) (hap : apOK L) : ∀ (j : Nat) (S : Nat → Nat → Int) (h : AH) (v2 : AV), j ≤ L.length → RB h0 h a N L.length L.length [] S P w → AgL L S (FS L j) → EV mX8_finish 5 7 [rv a, iv ((j : Int) - 1), v2] [] h (on fun h1 => ∃ S1, RB h0 h1 a N L.length L.length [] S1 P w ∧ AgL L S1 (FS L 0)) := by
  intro j
  induction j with
  | zero =>
    intro S h v2 hj hB hS
    refine ev_iload_n dX8_finish_7 rfl ?_
    refine ev_iflt 66 dX8_finish_8 (fun hc => ?_) (fun h_no => (by exfalso; omega))
    exact ev_vret dX8_finish_66 (⟨rfl, S, hB, hS⟩)
  | succ j ih =>
    intro S h v2 hj hB hS
    have e1 : ((j + 1 : Nat) : Int) - 1 = (j : Int) := by omega
    rw [e1]
    have hjl : j < L.length := by omega
    have next : ∀ (S1 : Nat → Nat → Int) (h1 : AH) (v : AV), RB h0 h1 a N L.length L.length [] S1 P w → S1 5 j = (L.getD j (0, 0, 0)).2.2 → S1 7 j = (if TBL L 57 j = 0 then bd (TBL L) j else -1) → (∀ c i, c < 8 → i < L.length → ((c ≠ 5 ∧ c ≠ 7) ∨ i ≠ j) → S1 c i = S c i) → EV mX8_finish 5 60 [rv a, iv (j : Int), v] [] h1 (on fun h1 => ∃ S1, RB h0 h1 a N L.length L.length [] S1 P w ∧ AgL L S1 (FS L 0)) := by
      intro S1 h1 v B1 h5 h7 ho
      refine ev_iin1 dX8_finish_60 (by unfold ir; omega) ?_
      refine ev_gt 7 dX8_finish_63 ?_
      exact ih S1 h1 v (by omega) B1 (FS_st hjl h5 h7 (fun c i hc hi hh => (ho c i hc hi hh).trans (hS c i hc hi)))
    have s0 : S 0 j = (L.getD j (0, 0, 0)).1 := (hS 0 j (by decide) hjl).trans (FS_kd hjl)
    have s7 : S 7 j = -1 := (hS 7 j (by decide) hjl).trans (by rw [FS_7, if_neg (by omega)])
    have s5 : S 5 j = (zN (L.getD j (0, 0, 0))).2.2 := (hS 5 j (by decide) hjl).trans (by rw [FS_5 hjl, if_pos (by omega)])
    have t57 : TBL L 57 j = (L.getD j (0, 0, 0)).1 := (TBL_own hjl).1
    refine ev_iload_n dX8_finish_7 rfl ?_
    refine ev_iflt 66 dX8_finish_8 (fun h_no => (by exfalso; omega)) (fun hc => ?_)
    refine ev_aload_n dX8_finish_11 rfl ?_
    refine ev_iconst dX8_finish_12 ?_
    refine ev_iload_n dX8_finish_13 rfl ?_
    refine ev_cvi dX8_finish_14 lX8_103 (s_ofRB (c := 0) (i := j) hB (by decide) hjl (Nat.le_refl _) hN) (by decide) hB.2.2.1.1.1 hB.2.2.1.1.2 rfl rfl rfl (Nat.le_of_ble_eq_true rfl) rfl (fun r z1 q => ?_)
    obtain ⟨rfl, e⟩ := q
    rw [e, s0]
    refine ev_ist2 dX8_finish_17 ?_
    refine ev_iload_n dX8_finish_18 rfl ?_
    refine ev_bipush dX8_finish_19 ?_
    by_cases k6 : (L.getD j (0, 0, 0)).1 = 6
    · skip
      obtain ⟨a1, a2⟩ := hap j hjl k6
      have s2 : S 2 j = ((j + 1 : Nat) : Int) := by
        rw [hS 2 j (by decide) hjl, FS, if_pos (by decide)]
        show TBL (LB (j + 1) L) 59 j = _
        rw [TBL_ag LB_pr (by unfold cc6; omega)]
        exact TBL_59 a1 (by rw [k6]; decide)
      have s51 : S 5 (j + 1) = (L.getD (j + 1) (0, 0, 0)).2.2 := (hS 5 (j + 1) (by decide) a1).trans (by rw [FS_5 a1, if_neg (by omega)])
      refine ev_icmpne 44 dX8_finish_21 (fun h_no => (by exfalso; omega)) (fun hb => ?_)
      refine ev_aload_n dX8_finish_24 rfl ?_
      refine ev_iconst dX8_finish_25 ?_
      refine ev_iload_n dX8_finish_26 rfl ?_
      refine ev_aload_n dX8_finish_27 rfl ?_
      refine ev_iconst dX8_finish_28 ?_
      refine ev_aload_n dX8_finish_29 rfl ?_
      refine ev_iconst dX8_finish_30 ?_
      refine ev_iload_n dX8_finish_31 rfl ?_
      refine ev_cviW dX8_finish_32 lX8_103 (s_ofRB (c := 2) (i := j) hB (by decide) hjl (Nat.le_refl _) hN) (by decide) hB.2.2.1.1.1 hB.2.2.1.1.2 rfl rfl rfl (Nat.le_of_ble_eq_true rfl) rfl rfl (fun r z2 q => ?_)
      obtain ⟨rfl, e⟩ := q
      rw [e, s2]
      refine ev_cvi dX8_finish_35 lX8_103 (s_ofRB (c := 5) (i := j + 1) hB (by decide) a1 (Nat.le_refl _) hN) (by decide) hB.2.2.1.1.1 hB.2.2.1.1.2 rfl rfl rfl (Nat.le_of_ble_eq_true rfl) rfl (fun r z3 q => ?_)
      obtain ⟨rfl, e⟩ := q
      rw [e, s51]
      refine ev_cvv dX8_finish_38 lX8_99 (s_setBl (c := 5) (i := j) hB (by decide) (by omega)) (by decide) hB.2.2.1.1.1 hB.2.2.1.1.2 rfl rfl rfl (Nat.le_of_ble_eq_true rfl) rfl (fun h1 B1 => ?_)
      refine ev_gt 60 dX8_finish_41 ?_
      refine next _ h1 _ B1 ?_ ?_ (fun c i hc hi hh => ?_)
      · rw [pt7, if_pos ⟨rfl, rfl⟩, a2]
      · rw [pt7, if_neg (by omega), s7, t57, k6]; rfl
      · rw [pt7, if_neg (by omega)]
    · skip
      have s5' : S 5 j = (L.getD j (0, 0, 0)).2.2 := by rw [s5, zN]; exact if_neg k6
      refine ev_icmpne 44 dX8_finish_21 (fun hb => ?_) (fun h_no => (by exfalso; omega))
      refine ev_iload_n dX8_finish_44 rfl ?_
      by_cases k0 : (L.getD j (0, 0, 0)).1 = 0
      · skip
        refine ev_ifne 60 dX8_finish_45 (fun h_no => (by exfalso; omega)) (fun hb2 => ?_)
        refine ev_aload_n dX8_finish_48 rfl ?_
        refine ev_bipush dX8_finish_49 ?_
        refine ev_iload_n dX8_finish_51 rfl ?_
        refine ev_aload_n dX8_finish_52 rfl ?_
        refine ev_iload_n dX8_finish_53 rfl ?_
        have hT : TmT h a (LB (j + 1) L) := ⟨a + 1, fun k => a + 2 + k, N, by rw [LB_len]; exact hB.2.2.1, by rw [LB_len]; exact hN, fun k i hk hi => by
          rw [LB_len] at hi
          rw [hB.2.2.2.1 k i (by omega) (Or.inl hi), hS k i (by omega) hi, FS, if_pos hk]⟩
        refine ev_cvi dX8_finish_54 lX8_107 (s_binderC (nd := j) hT (by rw [LB_len]; omega) (by rw [LB_len]; exact hjl)) (by decide) hB.2.2.1.1.1 hB.2.2.1.1.2 rfl rfl rfl (Nat.le_of_ble_eq_true rfl) rfl (fun r z2 q => ?_)
        obtain ⟨rfl, e⟩ := q
        rw [e, bd_ag (s' := TBL L) (fun c hc i => TBL_ag LB_pr hc i)]
        refine ev_cvv dX8_finish_57 lX8_99 (s_setBl (c := 7) (i := j) hB (by decide) (by omega)) (by decide) hB.2.2.1.1.1 hB.2.2.1.1.2 rfl rfl rfl (Nat.le_of_ble_eq_true rfl) rfl (fun h1 B1 => ?_)
        refine next _ h1 _ B1 ?_ ?_ (fun c i hc hi hh => ?_)
        · rw [pt7, if_neg (by omega), s5']
        · rw [pt7, if_pos ⟨rfl, rfl⟩, t57, if_pos k0]
        · rw [pt7, if_neg (by omega)]
      · skip
        refine ev_ifne 60 dX8_finish_45 (fun hb2 => ?_) (fun h_no => (by exfalso; omega))
        exact next S h _ hB s5' (by rw [s7, t57, if_neg k0]) (fun c i hc hi hh => rfl)
