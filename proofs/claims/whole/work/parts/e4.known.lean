/-! what a type is by now, and its kind; pairs that are still to fit -/
/-- links up to what stands for itself -/
def chn (li : Nat → Int) : Nat → Nat → Prop
  | 0, t => li t < 0
  | k + 1, t => 0 ≤ li t ∧ chn li k (li t).toNat
theorem chn_det {li : Nat → Int} : ∀ (k l t : Nat), chn li k t → chn li l t → k = l
  | 0, 0, _, _, _ => rfl
  | 0, l + 1, t, h, h' => by have h : li t < 0 := h; have := h'.1; omega
  | k + 1, 0, t, h, h' => by have h' : li t < 0 := h'; have := h.1; omega
  | k + 1, l + 1, t, h, h' => by rw [chn_det k l _ h.2 h'.2]
theorem chn_of {li : Nat → Int} : ∀ (k t : Nat), li (rt li k t) < 0 → ∃ l, chn li l t ∧ rt li l t = rt li k t
  | 0, t, h => ⟨0, h, rfl⟩
  | k + 1, t, h => by
    by_cases c : li t < 0
    · exact ⟨0, c, by rw [rt, rt, if_pos c]⟩
    · rw [rt, if_neg c] at h
      obtain ⟨l, l1, l2⟩ := chn_of k _ h
      refine ⟨l + 1, ⟨by omega, l1⟩, ?_⟩
      rw [rt, if_neg c, rt, if_neg c]
      exact l2
theorem chn_list {li : Nat → Int} {N : Nat} (hl : ∀ t, t < N → li t < (N : Int)) : ∀ (k t : Nat), t < N → chn li k t → ∃ L : List Nat, L.length = k + 1 ∧ L.Nodup ∧ ∀ x ∈ L, x < N ∧ ∃ j, j ≤ k ∧ chn li j x
  | 0, t, ht0, h => ⟨[t], rfl, List.nodup_cons.mpr ⟨List.not_mem_nil, List.nodup_nil⟩, fun x hx => by
    rw [List.mem_singleton.mp hx]
    exact ⟨ht0, 0, Nat.le_refl _, h⟩⟩
  | k + 1, t, ht0, h => by
    have := hl t ht0
    have h1 := h.1
    obtain ⟨L, l1, l2, l3⟩ := chn_list hl k (li t).toNat (by omega) h.2
    refine ⟨t :: L, by rw [List.length_cons, l1], List.nodup_cons.mpr ⟨fun hm => ?_, l2⟩, fun x hx => ?_⟩
    · obtain ⟨-, j, j1, j2⟩ := l3 t hm
      have := chn_det _ _ _ j2 h
      omega
    · rcases List.mem_cons.mp hx with rfl | hx
      · exact ⟨ht0, k + 1, Nat.le_refl _, h⟩
      · obtain ⟨a1, j, j1, j2⟩ := l3 x hx
        exact ⟨a1, j, by omega, j2⟩
theorem chn_lt {li : Nat → Int} {N : Nat} (hl : ∀ t, t < N → li t < (N : Int)) {k t : Nat} (ht0 : t < N) (h : chn li k t) : k < N := by
  obtain ⟨L, l1, l2, l3⟩ := chn_list hl k t ht0 h
  have := nodup_le L (List.range N) l2 (fun x hx => List.mem_range.mpr (l3 x hx).1)
  rw [List.length_range] at this
  omega
def soY (fr : Nat → Int) (t : Nat) : Int := if t = 0 then 0 else if t = 1 then 1 else if 0 ≤ fr t then 2 else 3
theorem soY_r {fr : Nat → Int} {t : Nat} : 0 ≤ soY fr t ∧ soY fr t ≤ 3 := by
  unfold soY
  split
  · omega
  · split
    · omega
    · split <;> omega
section YKn
variable {h : AH} {a K : Nat → Nat} {N : Nat}
set_option maxRecDepth 100000 in
theorem kn_loop {T : Int} (g : YA h a K) (s : YB h K N) (hl : ∀ t, t < N → h.vl (a 2) t < (N : Int)) : ∀ (k p i : Nat), p < N → chn (h.vl (a 2)) k p → i + k < N → EV mX9_known 2 4 [rv 9, iv T, iv (p : Int), iv (i : Int)] [] h (oi fun r h1 => r = (rt (h.vl (a 2)) k p : Int) ∧ h1 = h)
  | 0, p, i, hp, hc, hi => by
    obtain ⟨s1, s2, s3⟩ := s
    have v2 := g.v 2
    have n2 := g.n 2
    have hc : h.vl (a 2) p < 0 := hc
    refine ev_iload_n dX9_known_4 rfl ?_
    refine ev_aload_n dX9_known_5 rfl ?_
    refine ev_getiv dX9_known_6 fX9_39 g.1.k9 g.1.n9 rfl s1 ?_
    refine ev_icmpge 38 dX9_known_9 (fun h_no => (by exfalso; omega)) (fun hb => ?_)
    refine ev_aload_n dX9_known_12 rfl ?_
    refine ev_getrv dX9_known_13 fX9_18 g.1.k9 g.1.n9 rfl v2 ?_
    refine ev_iload_n dX9_known_16 rfl ?_
    refine ev_csi dX9_known_17 lX9_63 (s_atJ (g.k 2) n2 (g.r 2).2) (by decide) rfl rfl (Nat.le_of_ble_eq_true rfl) rfl (fun r z q => ?_)
    obtain ⟨rfl, e⟩ := q
    rw [e, if_pos (by omega), show ((p : Nat) : Int).toNat = p from rfl]
    refine ev_iflt 38 dX9_known_20 (fun hb2 => ?_) (fun h_no => (by exfalso; omega))
    refine ev_iload_n dX9_known_38 rfl ?_
    exact ev_iret dX9_known_39 (⟨_, rfl, rfl, rfl⟩)
  | k + 1, p, i, hp, hc, hi => by
    obtain ⟨s1, s2, s3⟩ := id s
    have r0 := g.r 0
    have v2 := g.v 2
    have n2 := g.n 2
    obtain ⟨c1, c2⟩ := hc
    have c3 := hl p hp
    obtain ⟨q0, hq0⟩ : ∃ q0 : Nat, h.vl (a 2) p = (q0 : Int) := ⟨(h.vl (a 2) p).toNat, by omega⟩
    refine ev_iload_n dX9_known_4 rfl ?_
    refine ev_aload_n dX9_known_5 rfl ?_
    refine ev_getiv dX9_known_6 fX9_39 g.1.k9 g.1.n9 rfl s1 ?_
    refine ev_icmpge 38 dX9_known_9 (fun h_no => (by exfalso; omega)) (fun hb => ?_)
    refine ev_aload_n dX9_known_12 rfl ?_
    refine ev_getrv dX9_known_13 fX9_18 g.1.k9 g.1.n9 rfl v2 ?_
    refine ev_iload_n dX9_known_16 rfl ?_
    refine ev_csi dX9_known_17 lX9_63 (s_atJ (g.k 2) n2 (g.r 2).2) (by decide) rfl rfl (Nat.le_of_ble_eq_true rfl) rfl (fun r z q => ?_)
    obtain ⟨rfl, e⟩ := q
    rw [e, if_pos (by omega), show ((p : Nat) : Int).toNat = p from rfl, hq0]
    refine ev_iflt 38 dX9_known_20 (fun h_no => (by exfalso; omega)) (fun hb2 => ?_)
    refine ev_aload_n dX9_known_23 rfl ?_
    refine ev_getrv dX9_known_24 fX9_18 g.1.k9 g.1.n9 rfl v2 ?_
    refine ev_iload_n dX9_known_27 rfl ?_
    refine ev_csi dX9_known_28 lX9_63 (s_atJ (g.k 2) n2 (g.r 2).2) (by decide) rfl rfl (Nat.le_of_ble_eq_true rfl) rfl (fun r z q => ?_)
    obtain ⟨rfl, e⟩ := q
    rw [e, if_pos (by omega), show ((p : Nat) : Int).toNat = p from rfl, hq0]
    refine ev_ist2 dX9_known_31 ?_
    refine ev_iin3 dX9_known_32 (by unfold ir; omega) ?_
    refine ev_gt 4 dX9_known_35 ?_
    rw [show (i : Int) + 1 = ((i + 1 : Nat) : Int) by omega]
    rw [hq0] at c2 c3
    rw [rt, if_neg (by omega), hq0]
    exact kn_loop g s hl k q0 (i + 1) (by omega) c2 (by omega)
set_option maxRecDepth 100000 in
theorem s_known {so fr to : Nat → Int} {rr : Nat → Nat} {t : Nat} (g : YA h a K) (s : YB h K N) (w : GW so fr to (h.vl (a 2)) N rr) (ht0 : t < N) : CV mX9_known 2 [rv 9, iv (t : Int)] h (oi fun r h1 => r = (rr t : Int) ∧ h1 = h) := by
  obtain ⟨k, k1, k2, k3⟩ := w.2.1 t ht0
  obtain ⟨l, l1, l2⟩ := chn_of k t (by rw [k1]; exact k2)
  have := chn_lt w.1 ht0 l1
  have := kn_loop (T := (t : Int)) g s w.1 l t 0 ht0 l1 (by omega)
  rw [l2, k1] at this
  refine cv_of cdX9_known ?_
  show EV _ _ 0 [rv 9, iv (t : Int), uv, uv] [] h _
  refine ev_iload_n dX9_known_0 rfl ?_
  refine ev_ist2 dX9_known_1 ?_
  refine ev_iconst dX9_known_2 ?_
  refine ev_ist3 dX9_known_3 ?_
  exact this
set_option maxRecDepth 100000 in
theorem s_kindY {t : Nat} (g : YA h a K) (s : YB h K N) (ht0 : t < N) : CV mX9_kindOf 2 [rv 9, iv (t : Int)] h (oi fun r h1 => r = soY (h.vl (a 0)) t ∧ h1 = h) := by
  have s3 := s.2.2
  have v0 := g.v 0
  have n0 := g.n 0
  refine cv_of cdX9_kindOf ?_
  show EV _ _ 0 [rv 9, iv (t : Int)] [] h _
  refine ev_iload_n dX9_kindOf_0 rfl ?_
  by_cases c0 : t = 0
  · skip
    refine ev_ifeq 9 dX9_kindOf_1 (fun hb => ?_) (fun h_no => (by exfalso; omega))
    refine ev_iload_n dX9_kindOf_9 rfl ?_
    refine ev_gt 29 dX9_kindOf_10 ?_
    exact ev_iret dX9_kindOf_29 (⟨_, rfl, by unfold soY; rw [if_pos c0, c0]; rfl, rfl⟩)
  refine ev_ifeq 9 dX9_kindOf_1 (fun h_no => (by exfalso; omega)) (fun hb => ?_)
  refine ev_iload_n dX9_kindOf_4 rfl ?_
  refine ev_iconst dX9_kindOf_5 ?_
  by_cases c1 : t = 1
  · skip
    refine ev_icmpne 13 dX9_kindOf_6 (fun h_no => (by exfalso; omega)) (fun hb2 => ?_)
    refine ev_iload_n dX9_kindOf_9 rfl ?_
    refine ev_gt 29 dX9_kindOf_10 ?_
    exact ev_iret dX9_kindOf_29 (⟨_, rfl, by unfold soY; rw [if_neg c0, if_pos c1, c1]; rfl, rfl⟩)
  refine ev_icmpne 13 dX9_kindOf_6 (fun hb2 => ?_) (fun h_no => (by exfalso; omega))
  refine ev_aload_n dX9_kindOf_13 rfl ?_
  refine ev_getrv dX9_kindOf_14 fX9_9 g.1.k9 g.1.n9 rfl v0 ?_
  refine ev_iload_n dX9_kindOf_17 rfl ?_
  refine ev_csi dX9_kindOf_18 lX9_63 (s_atJ (g.k 0) n0 (g.r 0).2) (by decide) rfl rfl (Nat.le_of_ble_eq_true rfl) rfl (fun r z q => ?_)
  obtain ⟨rfl, e⟩ := q
  rw [e, if_pos (by omega), show ((t : Nat) : Int).toNat = t from rfl]
  obtain ⟨f, hf⟩ : ∃ f, h.vl (a 0) t = f := ⟨_, rfl⟩
  rw [hf]
  by_cases c2 : 0 ≤ f
  · skip
    refine ev_iflt 28 dX9_kindOf_21 (fun h_no => (by exfalso; omega)) (fun hb3 => ?_)
    refine ev_iconst dX9_kindOf_24 ?_
    refine ev_gt 29 dX9_kindOf_25 ?_
    exact ev_iret dX9_kindOf_29 (⟨_, rfl, by unfold soY; rw [if_neg c0, if_neg c1, hf, if_pos c2], rfl⟩)
  refine ev_iflt 28 dX9_kindOf_21 (fun hb3 => ?_) (fun h_no => (by exfalso; omega))
  refine ev_iconst dX9_kindOf_28 ?_
  exact ev_iret dX9_kindOf_29 (⟨_, rfl, by unfold soY; rw [if_neg c0, if_neg c1, hf, if_neg c2], rfl⟩)
end YKn
/-- the pairs that are still to fit -/
def PYs (v1 v2 v3 : Nat → Int) : List UE → Prop
  | [] => True
  | e :: st => v1 st.length = (e.1 : Int) ∧ v2 st.length = (e.2.1 : Int) ∧ v3 st.length = (if e.2.2 = true then 1 else 0) ∧ PYs v1 v2 v3 st
theorem PYs.lo {v1 v2 v3 w1 w2 w3 : Nat → Int} : ∀ {st : List UE}, (∀ i, i < st.length → w1 i = v1 i ∧ w2 i = v2 i ∧ w3 i = v3 i) → PYs v1 v2 v3 st → PYs w1 w2 w3 st
  | [], _, _ => trivial
  | e :: st, hk, ⟨p1, p2, p3, p4⟩ => by
    obtain ⟨k1, k2, k3⟩ := hk st.length (Nat.lt_succ_self _)
    exact ⟨k1.trans p1, k2.trans p2, k3.trans p3, PYs.lo (fun i hi => hk i (Nat.lt_succ_of_lt hi)) p4⟩
def YPs (h : AH) (a K : Nat → Nat) (st : List UE) : Prop := h.vl 9 9 = (st.length : Int) ∧ PYs (h.vl (a 6)) (h.vl (a 7)) (h.vl (a 8)) st ∧ (K 7 = K 6 ∧ K 8 = K 6) ∧ st.length ≤ K 6
theorem YPs.mv {h h1 : AH} {a K a1 K1 : Nat → Nat} {D F : List Nat} {st : List UE} (s : YPs h a K st) (c : YC h a K h1 a1 K1 D F) (eK : K1 6 = K 6 ∧ K1 7 = K 7 ∧ K1 8 = K 8) (hD : 6 ∉ D ∧ 7 ∉ D ∧ 8 ∉ D := by decide) (hF : 9 ∉ F := by decide) : YPs h1 a1 K1 st := by
  obtain ⟨e1, e2⟩ := c.2.2.1 6 (by decide) hD.1
  obtain ⟨e3, e4⟩ := c.2.2.1 7 (by decide) hD.2.1
  obtain ⟨e5, e6⟩ := c.2.2.1 8 (by decide) hD.2.2
  obtain ⟨s1, s2, s3, s4⟩ := s
  exact ⟨(c.2.2.2 9 (by decide) hF).trans s1, by rw [e1, e3, e5, e2, e4, e6]; exact s2, by omega, by omega⟩
