/-! the class's methods on an object without lessons -/
theorem CI.st31 {h : AH} (hC : CI h) : ST h 31 32 33 := ⟨hC.k31, hC.n31, hC.v31_0, hC.k32, hC.n32, hC.v31_1, hC.k33, hC.n33⟩
theorem CI.st34 {h : AH} (hC : CI h) : ST h 34 35 36 := ⟨hC.k34, hC.n34, hC.v34_0, hC.k35, hC.n35, hC.v34_1, hC.k36, hC.n36⟩
theorem CI.st37 {h : AH} (hC : CI h) : ST h 37 38 39 := ⟨hC.k37, hC.n37, hC.v37_0, hC.k38, hC.n38, hC.v37_1, hC.k39, hC.n39⟩
/-- what the class may change: nothing of the reference's cells -/
def CQ (K : Nat) (h h1 : AH) : Prop := h.n ≤ h1.n ∧ (∀ b, b < h.n → h1.kd b = h.kd b) ∧ (∀ b j, 42 ≤ b → b < 94 → h1.vl b j = h.vl b j) ∧ h1.cs ≤ h.cs + K ∧ h1.ss ≤ h.ss + 20 * K
theorem CQ.rf {K : Nat} {h : AH} : CQ K h h := ⟨Nat.le_refl _, fun _ _ => rfl, fun _ _ _ _ => rfl, by omega, by omega⟩
theorem CQ.tr {a b : Nat} {h h1 h2 : AH} (p : CQ a h h1) (q : CQ b h1 h2) : CQ (a + b) h h2 := ⟨Nat.le_trans p.1 q.1, fun c hc => (q.2.1 c (Nat.lt_of_lt_of_le hc p.1)).trans (p.2.1 c hc), fun c j h1 h2 => (q.2.2.1 c j h1 h2).trans (p.2.2.1 c j h1 h2), by have := p.2.2.2.1; have := q.2.2.2.1; omega, by have := p.2.2.2.2; have := q.2.2.2.2; omega⟩
theorem CQ.mo {a b : Nat} {h h1 : AH} (p : CQ a h h1) (hab : a ≤ b) : CQ b h h1 := ⟨p.1, p.2.1, p.2.2.1, by have := p.2.2.2.1; omega, by have := p.2.2.2.2; omega⟩
theorem CQ.ks {h h1 : AH} {A : List Nat} {F : List (Nat × Nat)} (k : KS h h1 A F) (hA : A.all (fun c => decide (c < 42 ∨ 94 ≤ c)) = true := by decide) (hF : F.all (fun q => decide (q.1 < 42 ∨ 94 ≤ q.1)) = true := by decide) : CQ 0 h h1 := by
  refine ⟨by rw [k.1]; exact Nat.le_refl _, fun _ _ => by rw [k.2.1], fun b j h1 h2 => k.2.2.2.2 b j (fun z => ?_) (fun z => ?_), by rw [k.2.2.1]; omega, by rw [k.2.2.2.1]; omega⟩
  · have := of_decide_eq_true (List.all_eq_true.mp hA b z); omega
  · have := of_decide_eq_true (List.all_eq_true.mp hF _ z); simp only at this; omega
theorem CQ.th {h : AH} : CQ 1 h h.thr := ⟨Nat.le_refl _, fun _ _ => rfl, fun _ _ _ _ => rfl, by rw [AH.thr_cs]; omega, by rw [AH.thr_ss]; omega⟩
theorem CQ.ne {h : AH} {k : Nat × Nat} (h94 : 94 ≤ h.n) (h20 : k.2 ≤ 20) : CQ 1 h (h.new k) := ⟨by rw [AH.new_n]; omega, fun b hb => by rw [AH.new_kd, if_neg (by omega)], fun b j _ _ => by rw [AH.new_vl, if_neg (by omega)], by rw [AH.new_cs]; omega, by rw [AH.new_ss]; omega⟩
theorem CQ.pu {h : AH} {a i : Nat} {x : Int} (ha : a < 42 ∨ 94 ≤ a) : CQ 0 h (h.put a i x) := ⟨Nat.le_refl _, fun _ _ => rfl, fun b j _ _ => by rw [AH.put_vl, if_neg (by omega)], Nat.le_refl _, Nat.le_refl _⟩
/-- a reason is kept -/
def eRef (n d c : Int) (h : AH) : AH := ((((h.new (4, 3)).put h.n 0 n).put h.n 1 d).put h.n 2 c).put 0 12 ((h.n : Nat) : Int)
theorem cq_ref {n d c : Int} {h : AH} (h94 : 94 ≤ h.n) : CQ 1 h (eRef n d c h) := ((((CQ.ne (k := (4, 3)) h94 (by decide)).tr (CQ.pu (Or.inr h94))).tr (CQ.pu (Or.inr h94))).tr (CQ.pu (Or.inr h94))).tr (CQ.pu (Or.inl (by decide)))
set_option maxRecDepth 100000 in
theorem s_refuse {n d : Int} {h : AH} (hC : CI h) : CV mX10_refuse 3 [rv 0, iv n, iv d] h (oi fun r h1 => r = -1 ∧ h1 = eRef n d (-1) h) := by
  refine cv_of cdX10_refuse ?_
  show EV _ _ 0 [rv 0, iv n, iv d] [] h _
  refine ev_aload_n dX10_refuse_0 rfl ?_
  refine ev_new dX10_refuse_1 nX10_258 ?_
  refine ev_dup dX10_refuse_4 ?_
  refine ev_iload_n dX10_refuse_5 rfl ?_
  refine ev_iload_n dX10_refuse_6 rfl ?_
  refine ev_null dX10_refuse_7 ?_
  refine ev_ci dX10_refuse_8 lX10_264 (s_X4i nk0 nn0) (by decide) (by omega) rfl rfl (Nat.le_of_ble_eq_true rfl) rfl (fun h1 q => ?_)
  subst q
  refine ev_pt dX10_refuse_11 fX10_260 (pk (pk (pk (nk (hC.k0) (hC.n0))))) (pn (pn (pn (nn (hC.n0))))) rfl ?_
  refine ev_iconst dX10_refuse_14 ?_
  exact ev_iret dX10_refuse_15 (⟨_, rfl, rfl, rfl⟩)
/-- an object without lessons -/
def FRc (h : AH) : Prop := CI h ∧ (h.vl 31 2 = 0 ∧ h.vl 31 3 = 0 ∧ h.vl 31 4 = 0) ∧ (SBI h 1 2 16 0 ∧ SBI h 3 4 16 0) ∧ ((∀ j, h.vl 32 j = -1) ∧ ∀ j, h.vl 33 j = -1) ∧ h.vl 0 10 = 0 ∧ h.vl 0 11 = -1 ∧ h.vl 0 12 = -1 ∧ h.vl 40 2 = 0
theorem SBI.ks {h h1 : AH} {a b N : Nat} {k : Int} {A : List Nat} {F : List (Nat × Nat)} (hs : SBI h a b N k) (q : KS h h1 A F) (hA : a ∉ A := by decide) (h0 : (a, 0) ∉ F := by decide) (h1' : (a, 1) ∉ F := by decide) (h3 : (a, 3) ∉ F := by decide) : SBI h1 a b N k := by
  obtain ⟨⟨ka, an⟩, ⟨va, kb, bn⟩, hco, hk, r⟩ := hs
  have d : h1.kd = h.kd := q.2.1
  exact ⟨⟨by rw [d]; exact ka, by rw [q.1]; exact an⟩, ⟨(q.2.2.2.2 a 0 hA h0).trans va, by rw [d]; exact kb, by rw [q.1]; exact bn⟩, (q.2.2.2.2 a 1 hA h1').trans hco, (q.2.2.2.2 a 3 hA h3).trans hk, r⟩
theorem FRc.tk {h h1 : AH} {a ta ka : Nat} (hF : FRc h) (k : KS h h1 [ta, ka] [(a, 2), (a, 3), (a, 4)]) (hc : (a = 34 ∧ ta = 35 ∧ ka = 36) ∨ (a = 37 ∧ ta = 38 ∧ ka = 39)) : FRc h1 := by
  obtain ⟨hC, ⟨c1, c2, c3⟩, ⟨s1, s2⟩, ⟨t1, t2⟩, f1, f2, f3, f4⟩ := hF
  rcases hc with ⟨rfl, rfl, rfl⟩ | ⟨rfl, rfl, rfl⟩ <;> exact ⟨hC.ks k, ⟨k.v.trans c1, k.v.trans c2, k.v.trans c3⟩, ⟨s1.ks k, s2.ks k⟩, ⟨fun j => (k.2.2.2.2 32 j (by decide) (by simp)).trans (t1 j), fun j => (k.2.2.2.2 33 j (by decide) (by simp)).trans (t2 j)⟩, k.v.trans f1, k.v.trans f2, k.v.trans f3, k.v.trans f4⟩
theorem FRc.tm {h : AH} (hF : FRc h) (i : Int) : tmAt h 31 32 i = -1 := by
  unfold tmAt
  rw [hF.2.1.1, if_neg (by omega)]
theorem FRc.kp {h : AH} (hF : FRc h) (i : Int) : kpAt h 33 i = -1 := by
  unfold kpAt
  rw [hF.2.2.2.1.2, ite_self]
theorem fr_take {a ta ka : Nat} {h : AH} (hF : FRc h) (ha : ST h a ta ka) (hne : (32 : Nat) ≠ ta ∧ (32 : Nat) ≠ ka ∧ (33 : Nat) ≠ ta ∧ (33 : Nat) ≠ ka ∧ a ≠ ta ∧ a ≠ ka ∧ (31 : Nat) ≠ ta ∧ (31 : Nat) ≠ ka ∧ a ≠ 31 ∧ ta ≠ ka) : CV mX6_take 2 [rv a, rv (31 : Nat)] h (on fun h1 => TKQ h h1 a ta ka 31 32 33) :=
  s_take ha hF.1.st31 hne (fun j _ z => absurd z (by rw [hF.2.2.2.1.1]; decide)) (fun j _ z => absurd z (by rw [hF.2.2.2.1.2]; decide))
set_option maxRecDepth 100000 in
theorem c_termOf {p : Int} {h : AH} (hF : FRc h) : CV mX10_termOf 6 [rv 0, iv p] h (fun o h1 => o = xv 2 ∧ h1 = h.thr) := by
  obtain ⟨hC, ⟨c1, c2, c3⟩, ⟨s1, s2⟩, ⟨t1, t2⟩, f1, f2, f3, f4⟩ := id hF
  refine cv_of cdX10_termOf ?_
  show EV _ _ 0 [rv 0, iv p, uv] [] h _
  refine ev_aload_n dX10_termOf_0 rfl ?_
  refine ev_getrv dX10_termOf_1 fX10_48 hC.k0 hC.n0 rfl hC.v0_6 ?_
  refine ev_iload_n dX10_termOf_4 rfl ?_
  refine ev_cvr dX10_termOf_5 lX10_210 (s_termAt hC.st31) (by decide) hC.k31 hC.n31 rfl rfl rfl (Nat.le_of_ble_eq_true rfl) rfl (fun r h1 q => ?_)
  obtain ⟨rfl, rfl⟩ := q
  rw [hF.tm]
  refine ev_ast2 dX10_termOf_8 ?_
  refine ev_aload_n dX10_termOf_9 rfl ?_
  refine ev_ifnonnull 24 dX10_termOf_10 (fun h_no => (by exfalso; omega)) (fun hc => ?_)
  exact ev_throww _ tk_2 (List.mem_of_getElem? (i := 27) rfl) dX10_termOf_13 dX10_termOf_16 dX10_termOf_17 dX10_termOf_20 dX10_termOf_23 rfl (Nat.le_of_ble_eq_true rfl) (⟨rfl, rfl⟩)
set_option maxRecDepth 100000 in
theorem c_termWith {p q : Int} {h : AH} (hF : FRc h) : CV mX10_termWith 7 [rv 0, iv p, iv q] h (fun o h1 => o = xv 2 ∧ h1 = h.thr) := by
  obtain ⟨hC, ⟨c1, c2, c3⟩, ⟨s1, s2⟩, ⟨t1, t2⟩, f1, f2, f3, f4⟩ := id hF
  refine cv_of cdX10_termWith ?_
  show EV _ _ 0 [rv 0, iv p, iv q, uv] [] h _
  refine ev_aload_n dX10_termWith_0 rfl ?_
  refine ev_iload_n dX10_termWith_1 rfl ?_
  refine ev_callv dX10_termWith_2 lX10_126 (c_termOf hF) (by decide) (by decide) (by have := hC.n0; omega) hC.k0 rfl rfl (Nat.le_of_ble_eq_true rfl) rfl (fun o h1 q => by obtain ⟨rfl, rfl⟩ := q; exact ⟨fun _ => ⟨rfl, rfl⟩, fun e => absurd rfl e⟩) (Or.inr q_1326)
set_option maxRecDepth 100000 in
theorem c_nodes {p : Int} {h : AH} (hF : FRc h) : CV mX10_nodes 8 [rv 0, iv p] h (fun o h1 => o = xv 2 ∧ CQ 1 h h1) := by
  obtain ⟨hC, ⟨c1, c2, c3⟩, ⟨s1, s2⟩, ⟨t1, t2⟩, f1, f2, f3, f4⟩ := id hF
  refine cv_of cdX10_nodes ?_
  show EV _ _ 0 [rv 0, iv p] [] h _
  refine ev_aload_n dX10_nodes_0 rfl ?_
  refine ev_iload_n dX10_nodes_1 rfl ?_
  refine ev_callv dX10_nodes_2 lX10_126 (c_termOf hF) (by decide) (by decide) (by have := hC.n0; omega) hC.k0 rfl rfl (Nat.le_of_ble_eq_true rfl) rfl (fun o h1 q => by obtain ⟨rfl, rfl⟩ := q; exact ⟨fun _ => ⟨rfl, CQ.th⟩, fun e => absurd rfl e⟩) (Or.inr q_1326)
set_option maxRecDepth 100000 in
theorem c_unbound {p : Int} {h : AH} (hF : FRc h) : CV mX10_unbound 8 [rv 0, iv p] h (fun o h1 => o = xv 2 ∧ CQ 1 h h1) := by
  obtain ⟨hC, ⟨c1, c2, c3⟩, ⟨s1, s2⟩, ⟨t1, t2⟩, f1, f2, f3, f4⟩ := id hF
  refine cv_of cdX10_unbound ?_
  show EV _ _ 0 [rv 0, iv p] [] h _
  refine ev_aload_n dX10_unbound_0 rfl ?_
  refine ev_iload_n dX10_unbound_1 rfl ?_
  refine ev_callv dX10_unbound_2 lX10_126 (c_termOf hF) (by decide) (by decide) (by have := hC.n0; omega) hC.k0 rfl rfl (Nat.le_of_ble_eq_true rfl) rfl (fun o h1 q => by obtain ⟨rfl, rfl⟩ := q; exact ⟨fun _ => ⟨rfl, CQ.th⟩, fun e => absurd rfl e⟩) (Or.inr q_1326)
set_option maxRecDepth 100000 in
theorem c_isTyped {p : Int} {h : AH} (hF : FRc h) : CV mX10_isTyped 8 [rv 0, iv p] h (fun o h1 => o = xv 2 ∧ CQ 1 h h1) := by
  obtain ⟨hC, ⟨c1, c2, c3⟩, ⟨s1, s2⟩, ⟨t1, t2⟩, f1, f2, f3, f4⟩ := id hF
  refine cv_of cdX10_isTyped ?_
  show EV _ _ 0 [rv 0, iv p] [] h _
  refine ev_aload_n dX10_isTyped_0 rfl ?_
  refine ev_getrv dX10_isTyped_1 fX10_29 hC.k0 hC.n0 rfl hC.v0_3 ?_
  refine ev_aload_n dX10_isTyped_4 rfl ?_
  refine ev_iload_n dX10_isTyped_5 rfl ?_
  refine ev_callv dX10_isTyped_6 lX10_126 (c_termOf hF) (by decide) (by decide) (by have := hC.n0; omega) hC.k0 rfl rfl (Nat.le_of_ble_eq_true rfl) rfl (fun o h1 q => by obtain ⟨rfl, rfl⟩ := q; exact ⟨fun _ => ⟨rfl, CQ.th⟩, fun e => absurd rfl e⟩) (Or.inr q_1326)
set_option maxRecDepth 100000 in
theorem c_failure {p q : Int} {h : AH} (hF : FRc h) : CV mX10_failure 8 [rv 0, iv p, iv q] h (fun o h1 => o = xv 2 ∧ CQ 1 h h1) := by
  obtain ⟨hC, ⟨c1, c2, c3⟩, ⟨s1, s2⟩, ⟨t1, t2⟩, f1, f2, f3, f4⟩ := id hF
  refine cv_of cdX10_failure ?_
  show EV _ _ 0 [rv 0, iv p, iv q, uv] [] h _
  refine ev_aload_n dX10_failure_0 rfl ?_
  refine ev_iload_n dX10_failure_1 rfl ?_
  refine ev_callv dX10_failure_2 lX10_126 (c_termOf hF) (by decide) (by decide) (by have := hC.n0; omega) hC.k0 rfl rfl (Nat.le_of_ble_eq_true rfl) rfl (fun o h1 q => by obtain ⟨rfl, rfl⟩ := q; exact ⟨fun _ => ⟨rfl, CQ.th⟩, fun e => absurd rfl e⟩) (Or.inr q_1326)
set_option maxRecDepth 100000 in
theorem c_typeOf {p q : Int} {h : AH} (hF : FRc h) : CV mX10_typeOf 8 [rv 0, iv p, iv q] h (fun o h1 => o = xv 2 ∧ CQ 1 h h1) := by
  obtain ⟨hC, ⟨c1, c2, c3⟩, ⟨s1, s2⟩, ⟨t1, t2⟩, f1, f2, f3, f4⟩ := id hF
  refine cv_of cdX10_typeOf ?_
  show EV _ _ 0 [rv 0, iv p, iv q, uv] [] h _
  refine ev_aload_n dX10_typeOf_0 rfl ?_
  refine ev_iload_n dX10_typeOf_1 rfl ?_
  refine ev_callv dX10_typeOf_2 lX10_126 (c_termOf hF) (by decide) (by decide) (by have := hC.n0; omega) hC.k0 rfl rfl (Nat.le_of_ble_eq_true rfl) rfl (fun o h1 q => by obtain ⟨rfl, rfl⟩ := q; exact ⟨fun _ => ⟨rfl, CQ.th⟩, fun e => absurd rfl e⟩) (Or.inr q_1326)
set_option maxRecDepth 100000 in
theorem c_typeAgain {p q : Int} {h : AH} (hF : FRc h) : CV mX10_typeAgain 8 [rv 0, iv p, iv q] h (fun o h1 => o = xv 2 ∧ CQ 1 h h1) := by
  obtain ⟨hC, ⟨c1, c2, c3⟩, ⟨s1, s2⟩, ⟨t1, t2⟩, f1, f2, f3, f4⟩ := id hF
  refine cv_of cdX10_typeAgain ?_
  show EV _ _ 0 [rv 0, iv p, iv q, uv] [] h _
  refine ev_aload_n dX10_typeAgain_0 rfl ?_
  refine ev_iload_n dX10_typeAgain_1 rfl ?_
  refine ev_callv dX10_typeAgain_2 lX10_126 (c_termOf hF) (by decide) (by decide) (by have := hC.n0; omega) hC.k0 rfl rfl (Nat.le_of_ble_eq_true rfl) rfl (fun o h1 q => by obtain ⟨rfl, rfl⟩ := q; exact ⟨fun _ => ⟨rfl, CQ.th⟩, fun e => absurd rfl e⟩) (Or.inr q_1326)
set_option maxRecDepth 100000 in
theorem c_isAlike {p q : Int} {h : AH} (hF : FRc h) : CV mX10_isAlike 8 [rv 0, iv p, iv q] h (fun o h1 => o = xv 2 ∧ CQ 1 h h1) := by
  obtain ⟨hC, ⟨c1, c2, c3⟩, ⟨s1, s2⟩, ⟨t1, t2⟩, f1, f2, f3, f4⟩ := id hF
  refine cv_of cdX10_isAlike ?_
  show EV _ _ 0 [rv 0, iv p, iv q, uv, uv] [] h _
  refine ev_aload_n dX10_isAlike_0 rfl ?_
  refine ev_iload_n dX10_isAlike_1 rfl ?_
  refine ev_callv dX10_isAlike_2 lX10_126 (c_termOf hF) (by decide) (by decide) (by have := hC.n0; omega) hC.k0 rfl rfl (Nat.le_of_ble_eq_true rfl) rfl (fun o h1 q => by obtain ⟨rfl, rfl⟩ := q; exact ⟨fun _ => ⟨rfl, CQ.th⟩, fun e => absurd rfl e⟩) (Or.inr q_1326)
set_option maxRecDepth 100000 in
theorem c_isAsGeneral {p q : Int} {h : AH} (hF : FRc h) : CV mX10_isAsGeneral 8 [rv 0, iv p, iv q] h (fun o h1 => o = xv 2 ∧ CQ 1 h h1) := by
  obtain ⟨hC, ⟨c1, c2, c3⟩, ⟨s1, s2⟩, ⟨t1, t2⟩, f1, f2, f3, f4⟩ := id hF
  refine cv_of cdX10_isAsGeneral ?_
  show EV _ _ 0 [rv 0, iv p, iv q, uv, uv] [] h _
  refine ev_aload_n dX10_isAsGeneral_0 rfl ?_
  refine ev_iload_n dX10_isAsGeneral_1 rfl ?_
  refine ev_callv dX10_isAsGeneral_2 lX10_126 (c_termOf hF) (by decide) (by decide) (by have := hC.n0; omega) hC.k0 rfl rfl (Nat.le_of_ble_eq_true rfl) rfl (fun o h1 q => by obtain ⟨rfl, rfl⟩ := q; exact ⟨fun _ => ⟨rfl, CQ.th⟩, fun e => absurd rfl e⟩) (Or.inr q_1326)
set_option maxRecDepth 100000 in
theorem c_fit {p q : Int} {h : AH} (hF : FRc h) : CV mX10_fit 8 [rv 0, iv p, iv q] h (fun o h1 => o = xv 2 ∧ CQ 1 h h1) := by
  obtain ⟨hC, ⟨c1, c2, c3⟩, ⟨s1, s2⟩, ⟨t1, t2⟩, f1, f2, f3, f4⟩ := id hF
  refine cv_of cdX10_fit ?_
  show EV _ _ 0 [rv 0, iv p, iv q, uv, uv, uv] [] h _
  refine ev_aload_n dX10_fit_0 rfl ?_
  refine ev_iload_n dX10_fit_1 rfl ?_
  refine ev_callv dX10_fit_2 lX10_126 (c_termOf hF) (by decide) (by decide) (by have := hC.n0; omega) hC.k0 rfl rfl (Nat.le_of_ble_eq_true rfl) rfl (fun o h1 q => by obtain ⟨rfl, rfl⟩ := q; exact ⟨fun _ => ⟨rfl, CQ.th⟩, fun e => absurd rfl e⟩) (Or.inr q_1326)
set_option maxRecDepth 100000 in
theorem c_fitting {p : Int} {h : AH} (hF : FRc h) : CV mX10_fitting 8 [rv 0, iv p] h (fun o h1 => o = xv 2 ∧ CQ 1 h h1) := by
  obtain ⟨hC, ⟨c1, c2, c3⟩, ⟨s1, s2⟩, ⟨t1, t2⟩, f1, f2, f3, f4⟩ := id hF
  refine cv_of cdX10_fitting ?_
  show EV _ _ 0 [rv 0, iv p, uv, uv] [] h _
  refine ev_aload_n dX10_fitting_0 rfl ?_
  refine ev_aload_n dX10_fitting_1 rfl ?_
  refine ev_iload_n dX10_fitting_2 rfl ?_
  refine ev_callv dX10_fitting_3 lX10_126 (c_termOf hF) (by decide) (by decide) (by have := hC.n0; omega) hC.k0 rfl rfl (Nat.le_of_ble_eq_true rfl) rfl (fun o h1 q => by obtain ⟨rfl, rfl⟩ := q; exact ⟨fun _ => ⟨rfl, CQ.th⟩, fun e => absurd rfl e⟩) (Or.inr q_1326)
set_option maxRecDepth 100000 in
theorem c_tell {p : Int} {h : AH} (hF : FRc h) : CV mX10_tell 8 [rv 0, iv p] h (fun o h1 => o = xv 2 ∧ CQ 1 h h1) := by
  obtain ⟨hC, ⟨c1, c2, c3⟩, ⟨s1, s2⟩, ⟨t1, t2⟩, f1, f2, f3, f4⟩ := id hF
  refine cv_of cdX10_tell ?_
  show EV _ _ 0 [rv 0, iv p] [] h _
  refine ev_aload_n dX10_tell_0 rfl ?_
  refine ev_aload_n dX10_tell_1 rfl ?_
  refine ev_iload_n dX10_tell_2 rfl ?_
  refine ev_callv dX10_tell_3 lX10_126 (c_termOf hF) (by decide) (by decide) (by have := hC.n0; omega) hC.k0 rfl rfl (Nat.le_of_ble_eq_true rfl) rfl (fun o h1 q => by obtain ⟨rfl, rfl⟩ := q; exact ⟨fun _ => ⟨rfl, CQ.th⟩, fun e => absurd rfl e⟩) (Or.inr q_1326)
set_option maxRecDepth 100000 in
theorem c_tellTerm {p : Int} {h : AH} (hF : FRc h) : CV mX10_tellTerm 8 [rv 0, iv p] h (fun o h1 => o = xv 2 ∧ CQ 1 h h1) := by
  obtain ⟨hC, ⟨c1, c2, c3⟩, ⟨s1, s2⟩, ⟨t1, t2⟩, f1, f2, f3, f4⟩ := id hF
  refine cv_of cdX10_tellTerm ?_
  show EV _ _ 0 [rv 0, iv p, uv] [] h _
  refine ev_aload_n dX10_tellTerm_0 rfl ?_
  refine ev_iload_n dX10_tellTerm_1 rfl ?_
  refine ev_callv dX10_tellTerm_2 lX10_126 (c_termOf hF) (by decide) (by decide) (by have := hC.n0; omega) hC.k0 rfl rfl (Nat.le_of_ble_eq_true rfl) rfl (fun o h1 q => by obtain ⟨rfl, rfl⟩ := q; exact ⟨fun _ => ⟨rfl, CQ.th⟩, fun e => absurd rfl e⟩) (Or.inr q_1326)
set_option maxRecDepth 100000 in
theorem c_nodeOf {p q r : Int} {h : AH} (hF : FRc h) : CV mX10_nodeOf 8 [rv 0, iv p, iv q, iv r] h (fun o h1 => o = xv 2 ∧ CQ 1 h h1) := by
  obtain ⟨hC, ⟨c1, c2, c3⟩, ⟨s1, s2⟩, ⟨t1, t2⟩, f1, f2, f3, f4⟩ := id hF
  refine cv_of cdX10_nodeOf ?_
  show EV _ _ 0 [rv 0, iv p, iv q, iv r, uv] [] h _
  refine ev_aload_n dX10_nodeOf_0 rfl ?_
  refine ev_iload_n dX10_nodeOf_1 rfl ?_
  refine ev_iload_n dX10_nodeOf_2 rfl ?_
  refine ev_callv dX10_nodeOf_3 lX10_133 (c_termWith hF) (by decide) (by decide) (by have := hC.n0; omega) hC.k0 rfl rfl (Nat.le_of_ble_eq_true rfl) rfl (fun o h1 q => by obtain ⟨rfl, rfl⟩ := q; exact ⟨fun _ => ⟨rfl, CQ.th⟩, fun e => absurd rfl e⟩) (Or.inr q_1350)
set_option maxRecDepth 100000 in
theorem c_signOf {p q : Int} {h : AH} (hF : FRc h) : CV mX10_signOf 8 [rv 0, iv p, iv q] h (fun o h1 => o = xv 2 ∧ CQ 1 h h1) := by
  obtain ⟨hC, ⟨c1, c2, c3⟩, ⟨s1, s2⟩, ⟨t1, t2⟩, f1, f2, f3, f4⟩ := id hF
  refine cv_of cdX10_signOf ?_
  show EV _ _ 0 [rv 0, iv p, iv q, uv] [] h _
  refine ev_aload_n dX10_signOf_0 rfl ?_
  refine ev_iload_n dX10_signOf_1 rfl ?_
  refine ev_iload_n dX10_signOf_2 rfl ?_
  refine ev_callv dX10_signOf_3 lX10_133 (c_termWith hF) (by decide) (by decide) (by have := hC.n0; omega) hC.k0 rfl rfl (Nat.le_of_ble_eq_true rfl) rfl (fun o h1 q => by obtain ⟨rfl, rfl⟩ := q; exact ⟨fun _ => ⟨rfl, CQ.th⟩, fun e => absurd rfl e⟩) (Or.inr q_1350)
set_option maxRecDepth 100000 in
theorem c_binder {p q : Int} {h : AH} (hF : FRc h) : CV mX10_binder 8 [rv 0, iv p, iv q] h (fun o h1 => o = xv 2 ∧ CQ 1 h h1) := by
  obtain ⟨hC, ⟨c1, c2, c3⟩, ⟨s1, s2⟩, ⟨t1, t2⟩, f1, f2, f3, f4⟩ := id hF
  refine cv_of cdX10_binder ?_
  show EV _ _ 0 [rv 0, iv p, iv q, uv] [] h _
  refine ev_aload_n dX10_binder_0 rfl ?_
  refine ev_iload_n dX10_binder_1 rfl ?_
  refine ev_iload_n dX10_binder_2 rfl ?_
  refine ev_callv dX10_binder_3 lX10_133 (c_termWith hF) (by decide) (by decide) (by have := hC.n0; omega) hC.k0 rfl rfl (Nat.le_of_ble_eq_true rfl) rfl (fun o h1 q => by obtain ⟨rfl, rfl⟩ := q; exact ⟨fun _ => ⟨rfl, CQ.th⟩, fun e => absurd rfl e⟩) (Or.inr q_1350)
set_option maxRecDepth 100000 in
theorem c_uses {p q : Int} {h : AH} (hF : FRc h) : CV mX10_uses 8 [rv 0, iv p, iv q] h (fun o h1 => o = xv 2 ∧ CQ 1 h h1) := by
  obtain ⟨hC, ⟨c1, c2, c3⟩, ⟨s1, s2⟩, ⟨t1, t2⟩, f1, f2, f3, f4⟩ := id hF
  refine cv_of cdX10_uses ?_
  show EV _ _ 0 [rv 0, iv p, iv q, uv, uv] [] h _
  refine ev_aload_n dX10_uses_0 rfl ?_
  refine ev_iload_n dX10_uses_1 rfl ?_
  refine ev_iload_n dX10_uses_2 rfl ?_
  refine ev_callv dX10_uses_3 lX10_133 (c_termWith hF) (by decide) (by decide) (by have := hC.n0; omega) hC.k0 rfl rfl (Nat.le_of_ble_eq_true rfl) rfl (fun o h1 q => by obtain ⟨rfl, rfl⟩ := q; exact ⟨fun _ => ⟨rfl, CQ.th⟩, fun e => absurd rfl e⟩) (Or.inr q_1350)
set_option maxRecDepth 100000 in
theorem c_nodeType {p q r : Int} {h : AH} (hF : FRc h) : CV mX10_nodeType 8 [rv 0, iv p, iv q, iv r] h (fun o h1 => o = xv 2 ∧ CQ 1 h h1) := by
  obtain ⟨hC, ⟨c1, c2, c3⟩, ⟨s1, s2⟩, ⟨t1, t2⟩, f1, f2, f3, f4⟩ := id hF
  refine cv_of cdX10_nodeType ?_
  show EV _ _ 0 [rv 0, iv p, iv q, iv r, uv] [] h _
  refine ev_aload_n dX10_nodeType_0 rfl ?_
  refine ev_iload_n dX10_nodeType_1 rfl ?_
  refine ev_iload_n dX10_nodeType_2 rfl ?_
  refine ev_callv dX10_nodeType_3 lX10_133 (c_termWith hF) (by decide) (by decide) (by have := hC.n0; omega) hC.k0 rfl rfl (Nat.le_of_ble_eq_true rfl) rfl (fun o h1 q => by obtain ⟨rfl, rfl⟩ := q; exact ⟨fun _ => ⟨rfl, CQ.th⟩, fun e => absurd rfl e⟩) (Or.inr q_1350)
set_option maxRecDepth 100000 in
theorem c_tellNode {p q : Int} {h : AH} (hF : FRc h) : CV mX10_tellNode 8 [rv 0, iv p, iv q] h (fun o h1 => o = xv 2 ∧ CQ 1 h h1) := by
  obtain ⟨hC, ⟨c1, c2, c3⟩, ⟨s1, s2⟩, ⟨t1, t2⟩, f1, f2, f3, f4⟩ := id hF
  refine cv_of cdX10_tellNode ?_
  show EV _ _ 0 [rv 0, iv p, iv q] [] h _
  refine ev_aload_n dX10_tellNode_0 rfl ?_
  refine ev_aload_n dX10_tellNode_1 rfl ?_
  refine ev_iload_n dX10_tellNode_2 rfl ?_
  refine ev_iload_n dX10_tellNode_3 rfl ?_
  refine ev_callv dX10_tellNode_4 lX10_133 (c_termWith hF) (by decide) (by decide) (by have := hC.n0; omega) hC.k0 rfl rfl (Nat.le_of_ble_eq_true rfl) rfl (fun o h1 q => by obtain ⟨rfl, rfl⟩ := q; exact ⟨fun _ => ⟨rfl, CQ.th⟩, fun e => absurd rfl e⟩) (Or.inr q_1350)
set_option maxRecDepth 100000 in
theorem c_dropLesson {p : Int} {h : AH} (hF : FRc h) : CV mX10_dropLesson 6 [rv 0, iv p] h (oi fun r h1 => r = -1 ∧ CQ 1 h h1) := by
  obtain ⟨hC, ⟨c1, c2, c3⟩, ⟨s1, s2⟩, ⟨t1, t2⟩, f1, f2, f3, f4⟩ := id hF
  refine cv_of cdX10_dropLesson ?_
  show EV _ _ 0 [rv 0, iv p, uv] [] h _
  refine ev_aload_n dX10_dropLesson_0 rfl ?_
  refine ev_getrv dX10_dropLesson_1 fX10_48 hC.k0 hC.n0 rfl hC.v0_6 ?_
  refine ev_iload_n dX10_dropLesson_4 rfl ?_
  refine ev_cvr dX10_dropLesson_5 lX10_210 (s_termAt hC.st31) (by decide) hC.k31 hC.n31 rfl rfl rfl (Nat.le_of_ble_eq_true rfl) rfl (fun r h1 q => ?_)
  obtain ⟨rfl, rfl⟩ := q
  rw [hF.tm]
  refine ev_ast2 dX10_dropLesson_8 ?_
  refine ev_aload_n dX10_dropLesson_9 rfl ?_
  refine ev_ifnonnull 20 dX10_dropLesson_10 (fun h_no => (by exfalso; omega)) (fun hc => ?_)
  refine ev_aload_n dX10_dropLesson_13 rfl ?_
  refine ev_iconst dX10_dropLesson_14 ?_
  refine ev_iload_n dX10_dropLesson_15 rfl ?_
  refine ev_cvi dX10_dropLesson_16 lX10_86 (s_refuse hC) (by decide) hC.k0 hC.n0 rfl rfl rfl (Nat.le_of_ble_eq_true rfl) rfl (fun r h2 q => ?_)
  obtain ⟨rfl, rfl⟩ := q
  exact ev_iret dX10_dropLesson_19 (⟨_, rfl, rfl, cq_ref hC.1⟩)
set_option maxRecDepth 100000 in
theorem c_keepType {p q : Int} {h : AH} (hF : FRc h) : CV mX10_keepType 6 [rv 0, iv p, iv q] h (oi fun r h1 => r = -1 ∧ CQ 1 h h1) := by
  obtain ⟨hC, ⟨c1, c2, c3⟩, ⟨s1, s2⟩, ⟨t1, t2⟩, f1, f2, f3, f4⟩ := id hF
  refine cv_of cdX10_keepType ?_
  show EV _ _ 0 [rv 0, iv p, iv q, uv] [] h _
  refine ev_aload_n dX10_keepType_0 rfl ?_
  refine ev_getrv dX10_keepType_1 fX10_48 hC.k0 hC.n0 rfl hC.v0_6 ?_
  refine ev_iload_n dX10_keepType_4 rfl ?_
  refine ev_cvr dX10_keepType_5 lX10_210 (s_termAt hC.st31) (by decide) hC.k31 hC.n31 rfl rfl rfl (Nat.le_of_ble_eq_true rfl) rfl (fun r h1 q => ?_)
  obtain ⟨rfl, rfl⟩ := q
  rw [hF.tm]
  refine ev_ast3 dX10_keepType_8 ?_
  refine ev_aload_n dX10_keepType_9 rfl ?_
  refine ev_ifnonnull 20 dX10_keepType_10 (fun h_no => (by exfalso; omega)) (fun hc => ?_)
  refine ev_aload_n dX10_keepType_13 rfl ?_
  refine ev_iconst dX10_keepType_14 ?_
  refine ev_iload_n dX10_keepType_15 rfl ?_
  refine ev_cvi dX10_keepType_16 lX10_86 (s_refuse hC) (by decide) hC.k0 hC.n0 rfl rfl rfl (Nat.le_of_ble_eq_true rfl) rfl (fun r h2 q => ?_)
  obtain ⟨rfl, rfl⟩ := q
  exact ev_iret dX10_keepType_19 (⟨_, rfl, rfl, cq_ref hC.1⟩)
set_option maxRecDepth 100000 in
theorem s_isCapC {p : Int} {h : AH} : CV mX10_isCapital 1 [iv p] h (oi fun r h1 => r = (if 0 ≤ p ∧ p < 8 then 1 else 0) ∧ h1 = h) := by
  refine cv_of cdX10_isCapital ?_
  show EV _ _ 0 [iv p] [] h _
  refine ev_iload_n dX10_isCapital_0 rfl ?_
  refine ev_iflt 14 dX10_isCapital_1 (fun hb0 => ?_) (fun hb0 => ?_)
  · refine ev_iconst dX10_isCapital_14 ?_
    refine ev_zret dX10_isCapital_15 (by (refine ⟨_, rfl, ?_, rfl⟩; (first | rw [if_pos (by omega)] | rw [if_neg (by omega)]))) (by omega)
  · refine ev_iload_n dX10_isCapital_4 rfl ?_
    refine ev_bipush dX10_isCapital_5 ?_
    refine ev_icmpge 14 dX10_isCapital_7 (fun hb1 => ?_) (fun hb1 => ?_)
    · refine ev_iconst dX10_isCapital_14 ?_
      refine ev_zret dX10_isCapital_15 (by (refine ⟨_, rfl, ?_, rfl⟩; (first | rw [if_pos (by omega)] | rw [if_neg (by omega)]))) (by omega)
    · refine ev_iconst dX10_isCapital_10 ?_
      refine ev_gt 15 dX10_isCapital_11 ?_
      refine ev_zret dX10_isCapital_15 (by (refine ⟨_, rfl, ?_, rfl⟩; (first | rw [if_pos (by omega)] | rw [if_neg (by omega)]))) (by omega)
set_option maxRecDepth 100000 in
theorem c_unkeepType {p : Int} {h : AH} (hF : FRc h) : CV mX10_unkeepType 6 [rv 0, iv p] h (oi fun r h1 => r = -1 ∧ CQ 1 h h1) := by
  obtain ⟨hC, ⟨c1, c2, c3⟩, ⟨s1, s2⟩, ⟨t1, t2⟩, f1, f2, f3, f4⟩ := id hF
  refine cv_of cdX10_unkeepType ?_
  show EV _ _ 0 [rv 0, iv p, uv] [] h _
  refine ev_iload_n dX10_unkeepType_0 rfl ?_
  refine ev_csi dX10_unkeepType_1 lX10_344 (s_isCapC) (by decide) rfl rfl (Nat.le_of_ble_eq_true rfl) rfl (fun r h1 q => ?_)
  obtain ⟨rfl, rfl⟩ := q
  refine ev_ifne 15 dX10_unkeepType_4 (fun hc => ?_) (fun hc => ?_)
  · refine ev_aload_n dX10_unkeepType_15 rfl ?_
    refine ev_getrv dX10_unkeepType_16 fX10_48 hC.k0 hC.n0 rfl hC.v0_6 ?_
    refine ev_iload_n dX10_unkeepType_19 rfl ?_
    refine ev_cvr dX10_unkeepType_20 lX10_220 (s_keptAtC hC.st31) (by decide) hC.k31 hC.n31 rfl rfl rfl (Nat.le_of_ble_eq_true rfl) rfl (fun r h1 q => ?_)
    obtain ⟨rfl, rfl⟩ := q
    rw [hF.kp]
    refine ev_ast2 dX10_unkeepType_23 ?_
    refine ev_aload_n dX10_unkeepType_24 rfl ?_
    refine ev_ifnonnull 36 dX10_unkeepType_25 (fun h_no => (by exfalso; omega)) (fun hc2 => ?_)
    refine ev_aload_n dX10_unkeepType_28 rfl ?_
    refine ev_bipush dX10_unkeepType_29 ?_
    refine ev_iload_n dX10_unkeepType_31 rfl ?_
    refine ev_cvi dX10_unkeepType_32 lX10_86 (s_refuse hC) (by decide) hC.k0 hC.n0 rfl rfl rfl (Nat.le_of_ble_eq_true rfl) rfl (fun r h2 q => ?_)
    obtain ⟨rfl, rfl⟩ := q
    exact ev_iret dX10_unkeepType_35 (⟨_, rfl, rfl, cq_ref hC.1⟩)
  · refine ev_aload_n dX10_unkeepType_7 rfl ?_
    refine ev_bipush dX10_unkeepType_8 ?_
    refine ev_iload_n dX10_unkeepType_10 rfl ?_
    refine ev_cvi dX10_unkeepType_11 lX10_86 (s_refuse hC) (by decide) hC.k0 hC.n0 rfl rfl rfl (Nat.le_of_ble_eq_true rfl) rfl (fun r h2 q => ?_)
    obtain ⟨rfl, rfl⟩ := q
    exact ev_iret dX10_unkeepType_14 (⟨_, rfl, rfl, cq_ref hC.1⟩)
set_option maxRecDepth 100000 in
theorem c_drop {p : Int} {h : AH} (hF : FRc h) : CV mX10_drop 8 [rv 0, iv p] h (fun o h1 => o = xv 1 ∧ CQ 2 h h1) := by
  obtain ⟨hC, ⟨c1, c2, c3⟩, ⟨s1, s2⟩, ⟨t1, t2⟩, f1, f2, f3, f4⟩ := id hF
  refine cv_of cdX10_drop ?_
  show EV _ _ 0 [rv 0, iv p, uv] [] h _
  refine ev_aload_n dX10_drop_0 rfl ?_
  refine ev_getrv dX10_drop_1 fX10_52 hC.k0 hC.n0 rfl hC.v0_7 ?_
  refine ev_aload_n dX10_drop_4 rfl ?_
  refine ev_getrv dX10_drop_5 fX10_48 hC.k0 hC.n0 rfl hC.v0_6 ?_
  refine ev_cvv dX10_drop_8 lX10_95 (fr_take hF hC.st34 (by decide)) (by decide) hC.k34 hC.n34 rfl rfl rfl (Nat.le_of_ble_eq_true rfl) rfl (fun h1 q => ?_)
  have hF1 : FRc h1 := hF.tk q.1 (Or.inl ⟨rfl, rfl, rfl⟩)
  have hC1 := hF1.1
  refine ev_aload_n dX10_drop_11 rfl ?_
  refine ev_iload_n dX10_drop_12 rfl ?_
  refine ev_cvi dX10_drop_13 lX10_110 (c_dropLesson hF1) (by decide) hC1.k0 hC1.n0 rfl rfl rfl (Nat.le_of_ble_eq_true rfl) rfl (fun r h2 q2 => ?_)
  obtain ⟨rfl, hq2⟩ := q2
  refine ev_ist2 dX10_drop_16 ?_
  refine ev_iload_n dX10_drop_17 rfl ?_
  refine ev_ifge 31 dX10_drop_18 (fun h_no => (by exfalso; omega)) (fun hc => ?_)
  exact ev_throw _ tk_1 (List.mem_of_getElem? (i := 2) rfl) dX10_drop_21 dX10_drop_24 dX10_drop_25 dX10_drop_27 dX10_drop_30 rfl (Nat.le_of_ble_eq_true rfl) (⟨rfl, ((CQ.ks q.1).tr hq2).tr CQ.th⟩)
set_option maxRecDepth 100000 in
theorem c_keep {p q : Int} {h : AH} (hF : FRc h) : CV mX10_keep 8 [rv 0, iv p, iv q] h (fun o h1 => o = xv 1 ∧ CQ 2 h h1) := by
  obtain ⟨hC, ⟨c1, c2, c3⟩, ⟨s1, s2⟩, ⟨t1, t2⟩, f1, f2, f3, f4⟩ := id hF
  refine cv_of cdX10_keep ?_
  show EV _ _ 0 [rv 0, iv p, iv q, uv] [] h _
  refine ev_aload_n dX10_keep_0 rfl ?_
  refine ev_getrv dX10_keep_1 fX10_52 hC.k0 hC.n0 rfl hC.v0_7 ?_
  refine ev_aload_n dX10_keep_4 rfl ?_
  refine ev_getrv dX10_keep_5 fX10_48 hC.k0 hC.n0 rfl hC.v0_6 ?_
  refine ev_cvv dX10_keep_8 lX10_95 (fr_take hF hC.st34 (by decide)) (by decide) hC.k34 hC.n34 rfl rfl rfl (Nat.le_of_ble_eq_true rfl) rfl (fun h1 q => ?_)
  have hF1 : FRc h1 := hF.tk q.1 (Or.inl ⟨rfl, rfl, rfl⟩)
  have hC1 := hF1.1
  refine ev_aload_n dX10_keep_11 rfl ?_
  refine ev_iload_n dX10_keep_12 rfl ?_
  refine ev_iload_n dX10_keep_13 rfl ?_
  refine ev_cvi dX10_keep_14 lX10_116 (c_keepType hF1) (by decide) hC1.k0 hC1.n0 rfl rfl rfl (Nat.le_of_ble_eq_true rfl) rfl (fun r h2 q2 => ?_)
  obtain ⟨rfl, hq2⟩ := q2
  refine ev_ist3 dX10_keep_17 ?_
  refine ev_iload_n dX10_keep_18 rfl ?_
  refine ev_ifge 32 dX10_keep_19 (fun h_no => (by exfalso; omega)) (fun hc => ?_)
  exact ev_throw _ tk_1 (List.mem_of_getElem? (i := 3) rfl) dX10_keep_22 dX10_keep_25 dX10_keep_26 dX10_keep_28 dX10_keep_31 rfl (Nat.le_of_ble_eq_true rfl) (⟨rfl, ((CQ.ks q.1).tr hq2).tr CQ.th⟩)
set_option maxRecDepth 100000 in
theorem c_unkeep {p : Int} {h : AH} (hF : FRc h) : CV mX10_unkeep 8 [rv 0, iv p] h (fun o h1 => o = xv 1 ∧ CQ 2 h h1) := by
  obtain ⟨hC, ⟨c1, c2, c3⟩, ⟨s1, s2⟩, ⟨t1, t2⟩, f1, f2, f3, f4⟩ := id hF
  refine cv_of cdX10_unkeep ?_
  show EV _ _ 0 [rv 0, iv p, uv] [] h _
  refine ev_aload_n dX10_unkeep_0 rfl ?_
  refine ev_getrv dX10_unkeep_1 fX10_52 hC.k0 hC.n0 rfl hC.v0_7 ?_
  refine ev_aload_n dX10_unkeep_4 rfl ?_
  refine ev_getrv dX10_unkeep_5 fX10_48 hC.k0 hC.n0 rfl hC.v0_6 ?_
  refine ev_cvv dX10_unkeep_8 lX10_95 (fr_take hF hC.st34 (by decide)) (by decide) hC.k34 hC.n34 rfl rfl rfl (Nat.le_of_ble_eq_true rfl) rfl (fun h1 q => ?_)
  have hF1 : FRc h1 := hF.tk q.1 (Or.inl ⟨rfl, rfl, rfl⟩)
  have hC1 := hF1.1
  refine ev_aload_n dX10_unkeep_11 rfl ?_
  refine ev_iload_n dX10_unkeep_12 rfl ?_
  refine ev_cvi dX10_unkeep_13 lX10_121 (c_unkeepType hF1) (by decide) hC1.k0 hC1.n0 rfl rfl rfl (Nat.le_of_ble_eq_true rfl) rfl (fun r h2 q2 => ?_)
  obtain ⟨rfl, hq2⟩ := q2
  refine ev_ist2 dX10_unkeep_16 ?_
  refine ev_iload_n dX10_unkeep_17 rfl ?_
  refine ev_ifge 31 dX10_unkeep_18 (fun h_no => (by exfalso; omega)) (fun hc => ?_)
  exact ev_throw _ tk_1 (List.mem_of_getElem? (i := 4) rfl) dX10_unkeep_21 dX10_unkeep_24 dX10_unkeep_25 dX10_unkeep_27 dX10_unkeep_30 rfl (Nat.le_of_ble_eq_true rfl) (⟨rfl, ((CQ.ks q.1).tr hq2).tr CQ.th⟩)
set_option maxRecDepth 100000 in
theorem s_needCap1 {p : Int} {h : AH} (hp : 0 ≤ p ∧ p < 8) : CV mX10_needCapital 2 [iv p] h (on fun h1 => h1 = h) := by
  refine cv_of cdX10_needCapital ?_
  show EV _ _ 0 [iv p] [] h _
  refine ev_iload_n dX10_needCapital_0 rfl ?_
  refine ev_csi dX10_needCapital_1 lX10_344 (s_isCapC) (by decide) rfl rfl (Nat.le_of_ble_eq_true rfl) rfl (fun r h1 q => ?_)
  obtain ⟨rfl, rfl⟩ := q
  rw [if_pos hp]
  refine ev_ifne 18 dX10_needCapital_4 (fun hc => ?_) (fun h_no => (by exfalso; omega))
  exact ev_vret dX10_needCapital_18 (⟨rfl, rfl⟩)
set_option maxRecDepth 100000 in
theorem s_needCap0 {p : Int} {h : AH} (hp : ¬ (0 ≤ p ∧ p < 8)) : CV mX10_needCapital 2 [iv p] h (fun o h1 => o = xv 2 ∧ h1 = h.thr) := by
  refine cv_of cdX10_needCapital ?_
  show EV _ _ 0 [iv p] [] h _
  refine ev_iload_n dX10_needCapital_0 rfl ?_
  refine ev_csi dX10_needCapital_1 lX10_344 (s_isCapC) (by decide) rfl rfl (Nat.le_of_ble_eq_true rfl) rfl (fun r h1 q => ?_)
  obtain ⟨rfl, rfl⟩ := q
  rw [if_neg hp]
  refine ev_ifne 18 dX10_needCapital_4 (fun h_no => (by exfalso; exact h_no rfl)) (fun hc => ?_)
  exact ev_throww _ tk_2 (List.mem_of_getElem? (i := 30) rfl) dX10_needCapital_7 dX10_needCapital_10 dX10_needCapital_11 dX10_needCapital_14 dX10_needCapital_17 rfl (Nat.le_of_ble_eq_true rfl) (⟨rfl, rfl⟩)
set_option maxRecDepth 100000 in
theorem c_isKept {p : Int} {h : AH} (hF : FRc h) : CV mX10_isKept 8 [rv 0, iv p] h (fun o h1 => (o = iv 0 ∧ (0 ≤ p ∧ p < 8) ∧ CQ 1 h h1) ∨ (o = xv 2 ∧ ¬ (0 ≤ p ∧ p < 8) ∧ CQ 1 h h1)) := by
  obtain ⟨hC, ⟨c1, c2, c3⟩, ⟨s1, s2⟩, ⟨t1, t2⟩, f1, f2, f3, f4⟩ := id hF
  refine cv_of cdX10_isKept ?_
  show EV _ _ 0 [rv 0, iv p] [] h _
  refine ev_iload_n dX10_isKept_0 rfl ?_
  by_cases hp : 0 ≤ p ∧ p < 8
  · skip
    refine ev_csv dX10_isKept_1 lX10_217 (s_needCap1 hp) (by decide) rfl rfl (Nat.le_of_ble_eq_true rfl) rfl (fun h1 q => ?_)
    subst q
    refine ev_aload_n dX10_isKept_4 rfl ?_
    refine ev_getrv dX10_isKept_5 fX10_48 hC.k0 hC.n0 rfl hC.v0_6 ?_
    refine ev_iload_n dX10_isKept_8 rfl ?_
    refine ev_cvr dX10_isKept_9 lX10_220 (s_keptAtC hC.st31) (by decide) hC.k31 hC.n31 rfl rfl rfl (Nat.le_of_ble_eq_true rfl) rfl (fun r h1 q => ?_)
    obtain ⟨rfl, rfl⟩ := q
    rw [hF.kp]
    refine ev_ifnull 19 dX10_isKept_12 (fun hc => ?_) (fun h_no => (by exfalso; omega))
    refine ev_iconst dX10_isKept_19 ?_
    exact ev_zret dX10_isKept_20 (Or.inl ⟨rfl, hp, CQ.rf⟩) (Or.inl rfl)
  · skip
    refine ev_calls dX10_isKept_1 lX10_217 (s_needCap0 hp) (by decide) rfl rfl (Nat.le_of_ble_eq_true rfl) rfl (fun o h1 q => by obtain ⟨rfl, rfl⟩ := q; exact ⟨fun _ => Or.inr ⟨rfl, hp, CQ.th⟩, fun e => absurd rfl e⟩) (Or.inr q_1529)
set_option maxRecDepth 100000 in
theorem c_tellKept {p : Int} {h : AH} (hF : FRc h) : CV mX10_tellKept 8 [rv 0, iv p] h (fun o h1 => (o = xv 3 ∧ (0 ≤ p ∧ p < 8) ∧ CQ 1 h h1) ∨ (o = xv 2 ∧ ¬ (0 ≤ p ∧ p < 8) ∧ CQ 1 h h1)) := by
  obtain ⟨hC, ⟨c1, c2, c3⟩, ⟨s1, s2⟩, ⟨t1, t2⟩, f1, f2, f3, f4⟩ := id hF
  refine cv_of cdX10_tellKept ?_
  show EV _ _ 0 [rv 0, iv p, uv] [] h _
  refine ev_iload_n dX10_tellKept_0 rfl ?_
  by_cases hp : 0 ≤ p ∧ p < 8
  · skip
    refine ev_csv dX10_tellKept_1 lX10_217 (s_needCap1 hp) (by decide) rfl rfl (Nat.le_of_ble_eq_true rfl) rfl (fun h1 q => ?_)
    subst q
    refine ev_aload_n dX10_tellKept_4 rfl ?_
    refine ev_getrv dX10_tellKept_5 fX10_48 hC.k0 hC.n0 rfl hC.v0_6 ?_
    refine ev_iload_n dX10_tellKept_8 rfl ?_
    refine ev_cvr dX10_tellKept_9 lX10_220 (s_keptAtC hC.st31) (by decide) hC.k31 hC.n31 rfl rfl rfl (Nat.le_of_ble_eq_true rfl) rfl (fun r h1 q => ?_)
    obtain ⟨rfl, rfl⟩ := q
    rw [hF.kp]
    refine ev_ast2 dX10_tellKept_12 ?_
    refine ev_aload_n dX10_tellKept_13 rfl ?_
    refine ev_ifnonnull 28 dX10_tellKept_14 (fun h_no => (by exfalso; omega)) (fun hc => ?_)
    exact ev_throwxw _ tk_3 (List.mem_of_getElem? (i := 21) rfl) dX10_tellKept_17 dX10_tellKept_20 dX10_tellKept_21 dX10_tellKept_24 dX10_tellKept_27 rfl (Nat.le_of_ble_eq_true rfl) (Or.inl ⟨rfl, hp, CQ.th⟩)
  · skip
    refine ev_calls dX10_tellKept_1 lX10_217 (s_needCap0 hp) (by decide) rfl rfl (Nat.le_of_ble_eq_true rfl) rfl (fun o h1 q => by obtain ⟨rfl, rfl⟩ := q; exact ⟨fun _ => Or.inr ⟨rfl, hp, CQ.th⟩, fun e => absurd rfl e⟩) (Or.inr q_1529)
set_option maxRecDepth 100000 in
theorem c_largest {h : AH} (hF : FRc h) : CV mX10_largest 8 [rv 0] h (fun o h1 => o = xv 3 ∧ CQ 1 h h1) := by
  obtain ⟨hC, ⟨c1, c2, c3⟩, ⟨s1, s2⟩, ⟨t1, t2⟩, f1, f2, f3, f4⟩ := id hF
  refine cv_of cdX10_largest ?_
  show EV _ _ 0 [rv 0, uv, uv, uv] [] h _
  refine ev_iconst dX10_largest_0 ?_
  refine ev_ist1 dX10_largest_1 ?_
  refine ev_iconst dX10_largest_2 ?_
  refine ev_ist2 dX10_largest_3 ?_
  refine ev_iconst dX10_largest_4 ?_
  refine ev_ist3 dX10_largest_5 ?_
  refine ev_iload_n dX10_largest_6 rfl ?_
  refine ev_aload_n dX10_largest_7 rfl ?_
  refine ev_getrv dX10_largest_8 fX10_48 hC.k0 hC.n0 rfl hC.v0_6 ?_
  refine ev_getiv dX10_largest_11 fX10_83 hC.k31 hC.n31 rfl c1 ?_
  refine ev_icmpge 63 dX10_largest_14 (fun hc => ?_) (fun h_no => (by exfalso; omega))
  refine ev_iload_n dX10_largest_63 rfl ?_
  refine ev_ifge 77 dX10_largest_64 (fun h_no => (by exfalso; omega)) (fun hc2 => ?_)
  exact ev_throwx _ tk_3 (List.mem_of_getElem? (i := 13) rfl) dX10_largest_67 dX10_largest_70 dX10_largest_71 dX10_largest_73 dX10_largest_76 rfl (Nat.le_of_ble_eq_true rfl) (⟨rfl, CQ.th⟩)
set_option maxRecDepth 100000 in
theorem c_ranked {p : Int} {h : AH} (hF : FRc h) : CV mX10_ranked 8 [rv 0, iv p] h (fun o h1 => o = xv 3 ∧ CQ 1 h h1) := by
  obtain ⟨hC, ⟨c1, c2, c3⟩, ⟨s1, s2⟩, ⟨t1, t2⟩, f1, f2, f3, f4⟩ := id hF
  refine cv_of cdX10_ranked ?_
  show EV _ _ 0 [rv 0, iv p, uv] [] h _
  refine ev_iconst dX10_ranked_0 ?_
  refine ev_ist2 dX10_ranked_1 ?_
  refine ev_iload_n dX10_ranked_2 rfl ?_
  refine ev_aload_n dX10_ranked_3 rfl ?_
  refine ev_getrv dX10_ranked_4 fX10_48 hC.k0 hC.n0 rfl hC.v0_6 ?_
  refine ev_getiv dX10_ranked_7 fX10_83 hC.k31 hC.n31 rfl c1 ?_
  refine ev_icmpge 33 dX10_ranked_10 (fun hc => ?_) (fun h_no => (by exfalso; omega))
  exact ev_throwx _ tk_3 (List.mem_of_getElem? (i := 14) rfl) dX10_ranked_33 dX10_ranked_36 dX10_ranked_37 dX10_ranked_39 dX10_ranked_42 rfl (Nat.le_of_ble_eq_true rfl) (⟨rfl, CQ.th⟩)
set_option maxRecDepth 100000 in
theorem c_isTold {h : AH} (hF : FRc h) : CV mX10_isTold 8 [rv 0] h (oi fun r h1 => r = 1 ∧ CQ 1 h h1) := by
  obtain ⟨hC, ⟨c1, c2, c3⟩, ⟨s1, s2⟩, ⟨t1, t2⟩, f1, f2, f3, f4⟩ := id hF
  refine cv_of cdX10_isTold ?_
  show EV _ _ 0 [rv 0, uv, uv] [] h _
  refine ev_iconst dX10_isTold_0 ?_
  refine ev_ist1 dX10_isTold_1 ?_
  refine ev_iload_n dX10_isTold_2 rfl ?_
  refine ev_aload_n dX10_isTold_3 rfl ?_
  refine ev_getrv dX10_isTold_4 fX10_48 hC.k0 hC.n0 rfl hC.v0_6 ?_
  refine ev_getiv dX10_isTold_7 fX10_83 hC.k31 hC.n31 rfl c1 ?_
  refine ev_icmpge 83 dX10_isTold_10 (fun hc => ?_) (fun h_no => (by exfalso; omega))
  refine ev_iconst dX10_isTold_83 ?_
  exact ev_zret dX10_isTold_84 (⟨_, rfl, rfl, CQ.rf⟩) (Or.inr rfl)
set_option maxRecDepth 100000 in
theorem c_append {p : Int} {h : AH} (hF : FRc h) : CV mX10_append 8 [rv 0, iv p] h (fun o h1 => ((p < 33 ∨ 126 < p) ∧ o = xv 0 ∧ CQ 1 h h1) ∨ ((33 ≤ p ∧ p ≤ 126) ∧ o = iv 1 ∧ CQ 1 h h1)) := by
  obtain ⟨hC, ⟨c1, c2, c3⟩, ⟨s1, s2⟩, ⟨t1, t2⟩, f1, f2, f3, f4⟩ := id hF
  refine cv_of cdX10_append ?_
  show EV _ _ 0 [rv 0, iv p] [] h _
  refine ev_iload_n dX10_append_0 rfl ?_
  refine ev_bipush dX10_append_1 ?_
  refine ev_icmplt 12 dX10_append_3 (fun hc => ?_) (fun hc => ?_)
  · exact ev_throw _ tk_0 (List.mem_of_getElem? (i := 15) rfl) dX10_append_12 dX10_append_15 dX10_append_16 dX10_append_18 dX10_append_21 rfl (Nat.le_of_ble_eq_true rfl) (Or.inl ⟨Or.inl hc, rfl, CQ.th⟩)
  · refine ev_iload_n dX10_append_6 rfl ?_
    refine ev_bipush dX10_append_7 ?_
    refine ev_icmple 22 dX10_append_9 (fun hc2 => ?_) (fun hc2 => ?_)
    · refine ev_aload_n dX10_append_22 rfl ?_
      refine ev_getrv dX10_append_23 fX10_12 hC.k0 hC.n0 rfl hC.v0_0 ?_
      refine ev_cvi dX10_append_26 lX10_236 (s_J4len s1) (by decide) hC.k1 hC.n1 rfl rfl rfl (Nat.le_of_ble_eq_true rfl) rfl (fun r h9 q => ?_)
      obtain ⟨rfl, rfl⟩ := q
      refine ev_bipush dX10_append_29 ?_
      refine ev_icmplt 44 dX10_append_31 (fun hc3 => ?_) (fun h_no => (by exfalso; omega))
      refine ev_aload_n dX10_append_44 rfl ?_
      refine ev_getrv dX10_append_45 fX10_12 hC.k0 hC.n0 rfl hC.v0_0 ?_
      refine ev_iload_n dX10_append_48 rfl ?_
      refine ev_cvr dX10_append_49 lX10_241 (s_J4app s1 (by decide) (by omega) (by omega)) (by decide) hC.k1 hC.n1 rfl rfl rfl (Nat.le_of_ble_eq_true rfl) rfl (fun r h1 q => ?_)
      obtain ⟨rfl, rfl⟩ := q
      have s3 : SBI ((h9.put 1 3 (0 + 1)).put 2 (0 : Int).toNat p) 1 2 16 1 := ⟨s1.1, s1.2.1, s1.2.2.1, rfl, by decide, by decide, by decide⟩
      refine ev_pop dX10_append_52 ?_
      refine ev_aload_n dX10_append_53 rfl ?_
      refine ev_getrv dX10_append_54 fX10_12 hC.k0 hC.n0 rfl hC.v0_0 ?_
      refine ev_cvi dX10_append_57 lX10_236 (s_J4len s3) (by decide) hC.k1 hC.n1 rfl rfl rfl (Nat.le_of_ble_eq_true rfl) rfl (fun r h1 q => ?_)
      obtain ⟨rfl, rfl⟩ := q
      exact ev_iret dX10_append_60 (Or.inr ⟨⟨by omega, by omega⟩, rfl, ((CQ.pu (Or.inl (by decide))).tr (CQ.pu (Or.inl (by decide)))).mo (by decide)⟩)
    · exact ev_throw _ tk_0 (List.mem_of_getElem? (i := 15) rfl) dX10_append_12 dX10_append_15 dX10_append_16 dX10_append_18 dX10_append_21 rfl (Nat.le_of_ble_eq_true rfl) (Or.inl ⟨Or.inr (by omega), rfl, CQ.th⟩)
set_option maxRecDepth 100000 in
theorem c_faultInR {h : AH} (hF : FRc h) : CV mX8_faultIn 6 [rv 5, rv 1] h (oi fun r h1 => r = 0 ∧ h1 = h.put 5 1 0) := by
  obtain ⟨hC, ⟨c1, c2, c3⟩, ⟨s1, s2⟩, ⟨t1, t2⟩, f1, f2, f3, f4⟩ := id hF
  refine cv_of cdX8_faultIn ?_
  show EV _ _ 0 [rv 5, rv 1, uv, uv] [] h _
  refine ev_aload_n dX8_faultIn_0 rfl ?_
  refine ev_iconst dX8_faultIn_1 ?_
  refine ev_pt dX8_faultIn_2 fX8_18 hC.k5 hC.n5 rfl ?_
  refine ev_iconst dX8_faultIn_5 ?_
  refine ev_ist2 dX8_faultIn_6 ?_
  refine ev_iconst dX8_faultIn_7 ?_
  refine ev_ist3 dX8_faultIn_8 ?_
  refine ev_iload_n dX8_faultIn_9 rfl ?_
  refine ev_aload_n dX8_faultIn_10 rfl ?_
  have s3 : SBI (h.put 5 1 0) 1 2 16 0 := s1.ks (A := []) (F := [(5, 1)]) (KS.rf.pf (by simp))
  refine ev_cvi dX8_faultIn_11 lX8_22 (s_J4len s3) (by decide) hC.k1 hC.n1 rfl rfl rfl (Nat.le_of_ble_eq_true rfl) rfl (fun r h1 q => ?_)
  obtain ⟨rfl, rfl⟩ := q
  refine ev_icmpge 42 dX8_faultIn_14 (fun hc => ?_) (fun h_no => (by exfalso; omega))
  refine ev_iload_n dX8_faultIn_42 rfl ?_
  refine ev_iconst dX8_faultIn_43 ?_
  refine ev_icmpne 58 dX8_faultIn_44 (fun hc2 => ?_) (fun h_no => (by exfalso; omega))
  refine ev_aload_n dX8_faultIn_58 rfl ?_
  refine ev_cvi dX8_faultIn_59 lX8_22 (s_J4len s3) (by decide) hC.k1 hC.n1 rfl rfl rfl (Nat.le_of_ble_eq_true rfl) rfl (fun r h1 q => ?_)
  obtain ⟨rfl, rfl⟩ := q
  exact ev_iret dX8_faultIn_62 (⟨_, rfl, rfl, rfl⟩)
set_option maxRecDepth 100000 in
theorem c_faultInO {h : AH} (hF : FRc h) : CV mX2_faultIn 6 [rv 1] h (oi fun r h1 => r = 0 ∧ h1 = h) := by
  obtain ⟨hC, ⟨c1, c2, c3⟩, ⟨s1, s2⟩, ⟨t1, t2⟩, f1, f2, f3, f4⟩ := id hF
  refine cv_of cdX2_faultIn ?_
  show EV _ _ 0 [rv 1, uv, uv] [] h _
  refine ev_iconst dX2_faultIn_0 ?_
  refine ev_ist1 dX2_faultIn_1 ?_
  refine ev_iconst dX2_faultIn_2 ?_
  refine ev_ist2 dX2_faultIn_3 ?_
  refine ev_iload_n dX2_faultIn_4 rfl ?_
  refine ev_aload_n dX2_faultIn_5 rfl ?_
  refine ev_cvi dX2_faultIn_6 lX2_9 (s_J4len s1) (by decide) hC.k1 hC.n1 rfl rfl rfl (Nat.le_of_ble_eq_true rfl) rfl (fun r h1 q => ?_)
  obtain ⟨rfl, rfl⟩ := q
  refine ev_icmpge 35 dX2_faultIn_9 (fun hc => ?_) (fun h_no => (by exfalso; omega))
  refine ev_iload_n dX2_faultIn_35 rfl ?_
  refine ev_iconst dX2_faultIn_36 ?_
  refine ev_icmpne 44 dX2_faultIn_37 (fun hc2 => ?_) (fun h_no => (by exfalso; omega))
  refine ev_aload_n dX2_faultIn_44 rfl ?_
  refine ev_cvi dX2_faultIn_45 lX2_9 (s_J4len s1) (by decide) hC.k1 hC.n1 rfl rfl rfl (Nat.le_of_ble_eq_true rfl) rfl (fun r h1 q => ?_)
  obtain ⟨rfl, rfl⟩ := q
  exact ev_iret dX2_faultIn_48 (⟨_, rfl, rfl, rfl⟩)
set_option maxRecDepth 100000 in
theorem c_lesson {h : AH} (hF : FRc h) : CV mX10_lesson 8 [rv 0] h (fun o h1 => o = xv 0 ∧ CQ 1 h h1) := by
  obtain ⟨hC, ⟨c1, c2, c3⟩, ⟨s1, s2⟩, ⟨t1, t2⟩, f1, f2, f3, f4⟩ := id hF
  refine cv_of cdX10_lesson ?_
  show EV _ _ 0 [rv 0, uv] [] h _
  refine ev_aload_n dX10_lesson_0 rfl ?_
  refine ev_aload_n dX10_lesson_1 rfl ?_
  refine ev_getrv dX10_lesson_2 fX10_22 hC.k0 hC.n0 rfl hC.v0_2 ?_
  refine ev_aload_n dX10_lesson_5 rfl ?_
  refine ev_getrv dX10_lesson_6 fX10_12 hC.k0 hC.n0 rfl hC.v0_0 ?_
  refine ev_cvi dX10_lesson_9 lX10_69 (c_faultInR hF) (by decide) hC.k5 hC.n5 rfl rfl rfl (Nat.le_of_ble_eq_true rfl) rfl (fun r h1 q => ?_)
  obtain ⟨rfl, rfl⟩ := q
  refine ev_pt dX10_lesson_12 fX10_65 hC.k0 hC.n0 rfl ?_
  refine ev_aload_n dX10_lesson_15 rfl ?_
  refine ev_geti dX10_lesson_16 fX10_65 hC.k0 hC.n0 rfl ?_
  refine ev_iflt 40 dX10_lesson_19 (fun h_no => (by exfalso; exact absurd (show (0 : Int) < 0 from h_no) (by decide))) (fun hc => ?_)
  refine ev_aload_n dX10_lesson_22 rfl ?_
  refine ev_getrv dX10_lesson_23 fX10_12 hC.k0 hC.n0 rfl hC.v0_0 ?_
  refine ev_iconst dX10_lesson_26 ?_
  have s3 : SBI ((h.put 5 1 0).put 0 11 0) 1 2 16 0 := s1.ks (A := []) (F := [(5, 1), (0, 11)]) ((KS.rf.pf (by simp)).pf (by simp))
  refine ev_cvv dX10_lesson_27 lX10_73 (s_J4set0 s3) (by decide) hC.k1 hC.n1 rfl rfl rfl (Nat.le_of_ble_eq_true rfl) rfl (fun h2 q => ?_)
  exact ev_throw _ tk_0 (List.mem_of_getElem? (i := 0) rfl) dX10_lesson_30 dX10_lesson_33 dX10_lesson_34 dX10_lesson_36 dX10_lesson_39 rfl (Nat.le_of_ble_eq_true rfl) (⟨rfl, (((CQ.pu (Or.inl (by decide))).tr (CQ.pu (Or.inl (by decide)))).tr (CQ.ks q.1)).tr CQ.th⟩)
set_option maxRecDepth 100000 in
theorem c_run {h : AH} (hF : FRc h) : CV mX10_run 8 [rv 0] h (fun o h1 => o = xv 0 ∧ CQ 1 h h1) := by
  obtain ⟨hC, ⟨c1, c2, c3⟩, ⟨s1, s2⟩, ⟨t1, t2⟩, f1, f2, f3, f4⟩ := id hF
  refine cv_of cdX10_run ?_
  show EV _ _ 0 [rv 0, uv, uv, uv, uv, uv] [] h _
  refine ev_aload_n dX10_run_0 rfl ?_
  refine ev_aload_n dX10_run_1 rfl ?_
  refine ev_getrv dX10_run_2 fX10_12 hC.k0 hC.n0 rfl hC.v0_0 ?_
  refine ev_csi dX10_run_5 lX10_245 (c_faultInO hF) (by decide) rfl rfl (Nat.le_of_ble_eq_true rfl) rfl (fun r h1 q => ?_)
  obtain ⟨rfl, rfl⟩ := q
  refine ev_pt dX10_run_8 fX10_65 hC.k0 hC.n0 rfl ?_
  refine ev_aload_n dX10_run_11 rfl ?_
  refine ev_geti dX10_run_12 fX10_65 hC.k0 hC.n0 rfl ?_
  refine ev_iflt 36 dX10_run_15 (fun h_no => (by exfalso; exact absurd (show (0 : Int) < 0 from h_no) (by decide))) (fun hc => ?_)
  refine ev_aload_n dX10_run_18 rfl ?_
  refine ev_getrv dX10_run_19 fX10_12 hC.k0 hC.n0 rfl hC.v0_0 ?_
  refine ev_iconst dX10_run_22 ?_
  have s3 : SBI (h1.put 0 11 0) 1 2 16 0 := s1.ks (A := []) (F := [(0, 11)]) (KS.rf.pf (by simp))
  refine ev_cvv dX10_run_23 lX10_73 (s_J4set0 s3) (by decide) hC.k1 hC.n1 rfl rfl rfl (Nat.le_of_ble_eq_true rfl) rfl (fun h2 q => ?_)
  exact ev_throw _ tk_0 (List.mem_of_getElem? (i := 17) rfl) dX10_run_26 dX10_run_29 dX10_run_30 dX10_run_32 dX10_run_35 rfl (Nat.le_of_ble_eq_true rfl) (⟨rfl, ((CQ.pu (Or.inl (by decide))).tr (CQ.ks q.1)).tr CQ.th⟩)
set_option maxRecDepth 100000 in
theorem c_faultPosition {h : AH} (hF : FRc h) : CV mX10_faultPosition 8 [rv 0] h (oi fun r h1 => r = -1 ∧ CQ 1 h h1) := by
  obtain ⟨hC, ⟨c1, c2, c3⟩, ⟨s1, s2⟩, ⟨t1, t2⟩, f1, f2, f3, f4⟩ := id hF
  refine cv_of cdX10_faultPosition ?_
  show EV _ _ 0 [rv 0] [] h _
  refine ev_aload_n dX10_faultPosition_0 rfl ?_
  refine ev_getiv dX10_faultPosition_1 fX10_65 hC.k0 hC.n0 rfl f2 ?_
  exact ev_iret dX10_faultPosition_4 (⟨_, rfl, rfl, CQ.rf⟩)
set_option maxRecDepth 100000 in
theorem c_reason {p q : Int} {h : AH} (hF : FRc h) : CV mX10_reason 8 [rv 0, iv p, iv q] h (fun o h1 => (¬ (0 ≤ p ∧ p ≤ 1) ∧ o = xv 0 ∧ CQ 1 h h1) ∨ ((0 ≤ p ∧ p ≤ 1) ∧ o = xv 3 ∧ CQ 1 h h1)) := by
  obtain ⟨hC, ⟨c1, c2, c3⟩, ⟨s1, s2⟩, ⟨t1, t2⟩, f1, f2, f3, f4⟩ := id hF
  refine cv_of cdX10_reason ?_
  show EV _ _ 0 [rv 0, iv p, iv q, uv] [] h _
  have h1 : (0 ≤ p ∧ p ≤ 1) → EV mX10_reason 8 20 [rv 0, iv p, iv q, uv] [] h (fun o h1 => (¬ (0 ≤ p ∧ p ≤ 1) ∧ o = xv 0 ∧ CQ 1 h h1) ∨ ((0 ≤ p ∧ p ≤ 1) ∧ o = xv 3 ∧ CQ 1 h h1)) := by
    intro hp
    have h2 : EV mX10_reason 8 42 [rv 0, iv p, iv q, uv] [] h (fun o h1 => (¬ (0 ≤ p ∧ p ≤ 1) ∧ o = xv 0 ∧ CQ 1 h h1) ∨ ((0 ≤ p ∧ p ≤ 1) ∧ o = xv 3 ∧ CQ 1 h h1)) := by
      refine ev_aload_n dX10_reason_42 rfl ?_
      refine ev_getrv dX10_reason_43 fX10_260 hC.k0 hC.n0 rfl f3 ?_
      refine ev_ast3 dX10_reason_46 ?_
      refine ev_aload_n dX10_reason_47 rfl ?_
      refine ev_ifnonnull 62 dX10_reason_48 (fun h_no => (by exfalso; omega)) (fun hc => ?_)
      exact ev_throwxw _ tk_3 (List.mem_of_getElem? (i := 20) rfl) dX10_reason_51 dX10_reason_54 dX10_reason_55 dX10_reason_58 dX10_reason_61 rfl (Nat.le_of_ble_eq_true rfl) (Or.inr ⟨hp, rfl, CQ.th⟩)
    refine ev_iload_n dX10_reason_20 rfl ?_
    refine ev_iconst dX10_reason_21 ?_
    refine ev_icmpne 42 dX10_reason_22 (fun hc => ?_) (fun hc => ?_)
    · exact h2
    · refine ev_aload_n dX10_reason_25 rfl ?_
      refine ev_getrv dX10_reason_26 fX10_260 hC.k0 hC.n0 rfl f3 ?_
      refine ev_ifnull 42 dX10_reason_29 (fun hc2 => ?_) (fun h_no => (by exfalso; omega))
      exact h2
  refine ev_iload_n dX10_reason_0 rfl ?_
  refine ev_ifeq 20 dX10_reason_1 (fun hc => ?_) (fun hc => ?_)
  · exact h1 (by omega)
  · refine ev_iload_n dX10_reason_4 rfl ?_
    refine ev_iconst dX10_reason_5 ?_
    refine ev_icmpeq 20 dX10_reason_6 (fun hc2 => ?_) (fun hc2 => ?_)
    · exact h1 (by omega)
    · exact ev_throww _ tk_0 (List.mem_of_getElem? (i := 19) rfl) dX10_reason_9 dX10_reason_12 dX10_reason_13 dX10_reason_16 dX10_reason_19 rfl (Nat.le_of_ble_eq_true rfl) (Or.inl ⟨by omega, rfl, CQ.th⟩)
set_option maxRecDepth 100000 in
theorem c_character {p : Int} {h : AH} (hF : FRc h) : CV mX10_character 8 [rv 0, iv p] h (fun o h1 => o = xv 2 ∧ CQ 1 h h1) := by
  obtain ⟨hC, ⟨c1, c2, c3⟩, ⟨s1, s2⟩, ⟨t1, t2⟩, f1, f2, f3, f4⟩ := id hF
  refine cv_of cdX10_character ?_
  show EV _ _ 0 [rv 0, iv p] [] h _
  refine ev_iload_n dX10_character_0 rfl ?_
  refine ev_iflt 15 dX10_character_1 (fun hc => ?_) (fun hc => ?_)
  · exact ev_throww _ tk_2 (List.mem_of_getElem? (i := 22) rfl) dX10_character_15 dX10_character_18 dX10_character_19 dX10_character_22 dX10_character_25 rfl (Nat.le_of_ble_eq_true rfl) (⟨rfl, CQ.th⟩)
  · refine ev_iload_n dX10_character_4 rfl ?_
    refine ev_aload_n dX10_character_5 rfl ?_
    refine ev_getrv dX10_character_6 fX10_16 hC.k0 hC.n0 rfl hC.v0_1 ?_
    refine ev_cvi dX10_character_9 lX10_236 (s_J4len s2) (by decide) hC.k3 hC.n3 rfl rfl rfl (Nat.le_of_ble_eq_true rfl) rfl (fun r h1 q => ?_)
    obtain ⟨rfl, rfl⟩ := q
    refine ev_icmplt 26 dX10_character_12 (fun h_no => (by exfalso; omega)) (fun hc2 => ?_)
    exact ev_throww _ tk_2 (List.mem_of_getElem? (i := 22) rfl) dX10_character_15 dX10_character_18 dX10_character_19 dX10_character_22 dX10_character_25 rfl (Nat.le_of_ble_eq_true rfl) (⟨rfl, CQ.th⟩)
set_option maxRecDepth 100000 in
theorem c_meanSize {h : AH} (hF : FRc h) : CV mX10_meanSize 8 [rv 0] h (fun o h1 => o = xv 5 ∧ CQ 1 h h1) := by
  obtain ⟨hC, ⟨c1, c2, c3⟩, ⟨s1, s2⟩, ⟨t1, t2⟩, f1, f2, f3, f4⟩ := id hF
  refine cv_of cdX10_meanSize ?_
  show EV _ _ 0 [rv 0, uv, uv, uv] [] h _
  refine ev_iconst dX10_meanSize_0 ?_
  refine ev_ist1 dX10_meanSize_1 ?_
  refine ev_iconst dX10_meanSize_2 ?_
  refine ev_ist2 dX10_meanSize_3 ?_
  refine ev_iconst dX10_meanSize_4 ?_
  refine ev_ist3 dX10_meanSize_5 ?_
  refine ev_iload_n dX10_meanSize_6 rfl ?_
  refine ev_aload_n dX10_meanSize_7 rfl ?_
  refine ev_getrv dX10_meanSize_8 fX10_48 hC.k0 hC.n0 rfl hC.v0_6 ?_
  refine ev_getiv dX10_meanSize_11 fX10_83 hC.k31 hC.n31 rfl c1 ?_
  refine ev_icmpge 55 dX10_meanSize_14 (fun hc => ?_) (fun h_no => (by exfalso; omega))
  refine ev_iload_n dX10_meanSize_55 rfl ?_
  refine ev_ifne 69 dX10_meanSize_56 (fun h_no => (by exfalso; exact h_no rfl)) (fun hc2 => ?_)
  exact ev_throw _ tk_5 (List.mem_of_getElem? (i := 13) rfl) dX10_meanSize_59 dX10_meanSize_62 dX10_meanSize_63 dX10_meanSize_65 dX10_meanSize_68 rfl (Nat.le_of_ble_eq_true rfl) (⟨rfl, CQ.th⟩)
set_option maxRecDepth 100000 in
theorem c_typedShare {h : AH} (hF : FRc h) : CV mX10_typedShare 8 [rv 0] h (fun o h1 => o = xv 5 ∧ CQ 1 h h1) := by
  obtain ⟨hC, ⟨c1, c2, c3⟩, ⟨s1, s2⟩, ⟨t1, t2⟩, f1, f2, f3, f4⟩ := id hF
  refine cv_of cdX10_typedShare ?_
  show EV _ _ 0 [rv 0] [] h _
  refine ev_aload_n dX10_typedShare_0 rfl ?_
  refine ev_getrv dX10_typedShare_1 fX10_48 hC.k0 hC.n0 rfl hC.v0_6 ?_
  refine ev_getiv dX10_typedShare_4 fX10_83 hC.k31 hC.n31 rfl c1 ?_
  refine ev_ifne 21 dX10_typedShare_7 (fun h_no => (by exfalso; exact h_no rfl)) (fun hc2 => ?_)
  exact ev_throww _ tk_5 (List.mem_of_getElem? (i := 24) rfl) dX10_typedShare_10 dX10_typedShare_13 dX10_typedShare_14 dX10_typedShare_17 dX10_typedShare_20 rfl (Nat.le_of_ble_eq_true rfl) (⟨rfl, CQ.th⟩)
set_option maxRecDepth 100000 in
theorem c_undo {h : AH} (hF : FRc h) : CV mX10_undo 8 [rv 0] h (fun o h1 => o = xv 4 ∧ CQ 1 h h1) := by
  obtain ⟨hC, ⟨c1, c2, c3⟩, ⟨s1, s2⟩, ⟨t1, t2⟩, f1, f2, f3, f4⟩ := id hF
  refine cv_of cdX10_undo ?_
  show EV _ _ 0 [rv 0] [] h _
  refine ev_aload_n dX10_undo_0 rfl ?_
  refine ev_getrv dX10_undo_1 fX10_61 hC.k0 hC.n0 rfl hC.v0_9 ?_
  refine ev_getiv dX10_undo_4 fX10_319 hC.k40 hC.n40 rfl f4 ?_
  refine ev_ifne 21 dX10_undo_7 (fun h_no => (by exfalso; exact h_no rfl)) (fun hc2 => ?_)
  exact ev_throww _ tk_4 (List.mem_of_getElem? (i := 25) rfl) dX10_undo_10 dX10_undo_13 dX10_undo_14 dX10_undo_17 dX10_undo_20 rfl (Nat.le_of_ble_eq_true rfl) (⟨rfl, CQ.th⟩)
set_option maxRecDepth 100000 in
theorem c_restore {h : AH} (hF : FRc h) : CV mX10_restore 8 [rv 0] h (fun o h1 => o = xv 4 ∧ CQ 1 h h1) := by
  obtain ⟨hC, ⟨c1, c2, c3⟩, ⟨s1, s2⟩, ⟨t1, t2⟩, f1, f2, f3, f4⟩ := id hF
  refine cv_of cdX10_restore ?_
  show EV _ _ 0 [rv 0] [] h _
  refine ev_aload_n dX10_restore_0 rfl ?_
  refine ev_getiv dX10_restore_1 fX10_332 hC.k0 hC.n0 rfl f1 ?_
  refine ev_ifne 18 dX10_restore_4 (fun h_no => (by exfalso; exact h_no rfl)) (fun hc2 => ?_)
  exact ev_throww _ tk_4 (List.mem_of_getElem? (i := 26) rfl) dX10_restore_7 dX10_restore_10 dX10_restore_11 dX10_restore_14 dX10_restore_17 rfl (Nat.le_of_ble_eq_true rfl) (⟨rfl, CQ.th⟩)
set_option maxRecDepth 100000 in
theorem c_save {h : AH} (hF : FRc h) : CV mX10_save 8 [rv 0] h (oi fun r h1 => r = 0 ∧ CQ 1 h h1) := by
  obtain ⟨hC, ⟨c1, c2, c3⟩, ⟨s1, s2⟩, ⟨t1, t2⟩, f1, f2, f3, f4⟩ := id hF
  refine cv_of cdX10_save ?_
  show EV _ _ 0 [rv 0] [] h _
  refine ev_aload_n dX10_save_0 rfl ?_
  refine ev_getrv dX10_save_1 fX10_55 hC.k0 hC.n0 rfl hC.v0_8 ?_
  refine ev_aload_n dX10_save_4 rfl ?_
  refine ev_getrv dX10_save_5 fX10_48 hC.k0 hC.n0 rfl hC.v0_6 ?_
  refine ev_cvv dX10_save_8 lX10_95 (fr_take hF hC.st37 (by decide)) (by decide) hC.k37 hC.n37 rfl rfl rfl (Nat.le_of_ble_eq_true rfl) rfl (fun h1 q => ?_)
  have hF1 : FRc h1 := hF.tk q.1 (Or.inr ⟨rfl, rfl, rfl⟩)
  have hC1 := hF1.1
  refine ev_aload_n dX10_save_11 rfl ?_
  refine ev_iconst dX10_save_12 ?_
  refine ev_pt dX10_save_13 fX10_332 hC1.k0 hC1.n0 rfl ?_
  refine ev_aload_n dX10_save_16 rfl ?_
  refine ev_getrv dX10_save_17 fX10_48 hC1.k0 hC1.n0 rfl hC1.v0_6 ?_
  refine ev_getiv dX10_save_20 fX10_83 hC1.k31 hC1.n31 rfl hF1.2.1.1 ?_
  exact ev_iret dX10_save_23 (⟨_, rfl, rfl, ((CQ.ks q.1).tr (CQ.pu (Or.inl (by decide)))).mo (by decide)⟩)
set_option maxRecDepth 100000 in
theorem c_allNodes {h : AH} (hF : FRc h) : CV mX6_allNodes 6 [rv 31] h (oi fun r h1 => r = 0 ∧ h1 = h) := by
  obtain ⟨hC, ⟨c1, c2, c3⟩, ⟨s1, s2⟩, ⟨t1, t2⟩, f1, f2, f3, f4⟩ := id hF
  refine cv_of cdX6_allNodes ?_
  show EV _ _ 0 [rv 31, uv, uv] [] h _
  refine ev_iconst dX6_allNodes_0 ?_
  refine ev_ist1 dX6_allNodes_1 ?_
  refine ev_iconst dX6_allNodes_2 ?_
  refine ev_ist2 dX6_allNodes_3 ?_
  refine ev_iload_n dX6_allNodes_4 rfl ?_
  refine ev_aload_n dX6_allNodes_5 rfl ?_
  refine ev_getiv dX6_allNodes_6 fX6_31 hC.k31 hC.n31 rfl c1 ?_
  refine ev_icmpge 26 dX6_allNodes_9 (fun hc => ?_) (fun h_no => (by exfalso; omega))
  refine ev_iload_n dX6_allNodes_26 rfl ?_
  exact ev_iret dX6_allNodes_27 (⟨_, rfl, rfl, rfl⟩)
set_option maxRecDepth 100000 in
theorem c_capsK {h : AH} (hF : FRc h) : CV mX6_capitalsKeeping 6 [rv 31] h (oi fun r h1 => r = 0 ∧ h1 = h) := by
  obtain ⟨hC, ⟨c1, c2, c3⟩, ⟨s1, s2⟩, ⟨t1, t2⟩, f1, f2, f3, f4⟩ := id hF
  refine cv_of cdX6_capitalsKeeping ?_
  show EV _ _ 0 [rv 31, uv, uv] [] h _
  have L : ∀ (m : Nat) (i : Int), i + m = 8 → 0 ≤ i → EV mX6_capitalsKeeping 6 4 [rv 31, iv 0, iv i] [] h (oi fun r h1 => r = 0 ∧ h1 = h) := by
    intro m
    induction m with
    | zero =>
      intro i hi h0
      refine ev_iload_n dX6_capitalsKeeping_4 rfl ?_
      refine ev_bipush dX6_capitalsKeeping_5 ?_
      refine ev_icmpge 27 dX6_capitalsKeeping_7 (fun hc => ?_) (fun h_no => (by exfalso; omega))
      refine ev_iload_n dX6_capitalsKeeping_27 rfl ?_
      exact ev_iret dX6_capitalsKeeping_28 (⟨_, rfl, rfl, rfl⟩)
    | succ m ih =>
      intro i hi h0
      refine ev_iload_n dX6_capitalsKeeping_4 rfl ?_
      refine ev_bipush dX6_capitalsKeeping_5 ?_
      refine ev_icmpge 27 dX6_capitalsKeeping_7 (fun h_no => (by exfalso; omega)) (fun hc => ?_)
      refine ev_aload_n dX6_capitalsKeeping_10 rfl ?_
      refine ev_iload_n dX6_capitalsKeeping_11 rfl ?_
      refine ev_cvr dX6_capitalsKeeping_12 lX6_27 (s_keptAtC hC.st31) (by decide) hC.k31 hC.n31 rfl rfl rfl (Nat.le_of_ble_eq_true rfl) rfl (fun r h1 q => ?_)
      obtain ⟨rfl, rfl⟩ := q
      rw [hF.kp]
      refine ev_ifnull 21 dX6_capitalsKeeping_15 (fun hc2 => ?_) (fun h_no => (by exfalso; omega))
      refine ev_iin2 dX6_capitalsKeeping_21 (by unfold ir; omega) ?_
      refine ev_gt 4 dX6_capitalsKeeping_24 ?_
      exact ih (i + 1) (by omega) (by omega)
  refine ev_iconst dX6_capitalsKeeping_0 ?_
  refine ev_ist1 dX6_capitalsKeeping_1 ?_
  refine ev_iconst dX6_capitalsKeeping_2 ?_
  refine ev_ist2 dX6_capitalsKeeping_3 ?_
  exact L 8 0 rfl (by decide)
set_option maxRecDepth 100000 in
theorem c_lessonsFailing {p : Int} {h : AH} (hF : FRc h) : CV mX10_lessonsFailing 6 [rv 0, iv p] h (oi fun r h1 => r = 0 ∧ h1 = h) := by
  obtain ⟨hC, ⟨c1, c2, c3⟩, ⟨s1, s2⟩, ⟨t1, t2⟩, f1, f2, f3, f4⟩ := id hF
  refine cv_of cdX10_lessonsFailing ?_
  show EV _ _ 0 [rv 0, iv p, uv, uv, uv] [] h _
  refine ev_iconst dX10_lessonsFailing_0 ?_
  refine ev_ist2 dX10_lessonsFailing_1 ?_
  refine ev_iconst dX10_lessonsFailing_2 ?_
  refine ev_ist3 dX10_lessonsFailing_3 ?_
  refine ev_iload_n dX10_lessonsFailing_4 rfl ?_
  refine ev_aload_n dX10_lessonsFailing_5 rfl ?_
  refine ev_getrv dX10_lessonsFailing_6 fX10_48 hC.k0 hC.n0 rfl hC.v0_6 ?_
  refine ev_getiv dX10_lessonsFailing_9 fX10_83 hC.k31 hC.n31 rfl c1 ?_
  refine ev_icmpge 65 dX10_lessonsFailing_12 (fun hc => ?_) (fun h_no => (by exfalso; omega))
  refine ev_iload_n dX10_lessonsFailing_65 rfl ?_
  exact ev_iret dX10_lessonsFailing_66 (⟨_, rfl, rfl, rfl⟩)
set_option maxRecDepth 100000 in
theorem c_lessonsWV {h : AH} (hF : FRc h) : CV mX10_lessonsWithoutVariables 6 [rv 0] h (oi fun r h1 => r = 0 ∧ h1 = h) := by
  obtain ⟨hC, ⟨c1, c2, c3⟩, ⟨s1, s2⟩, ⟨t1, t2⟩, f1, f2, f3, f4⟩ := id hF
  refine cv_of cdX10_lessonsWithoutVariables ?_
  show EV _ _ 0 [rv 0, uv, uv, uv] [] h _
  refine ev_iconst dX10_lessonsWithoutVariables_0 ?_
  refine ev_ist1 dX10_lessonsWithoutVariables_1 ?_
  refine ev_iconst dX10_lessonsWithoutVariables_2 ?_
  refine ev_ist2 dX10_lessonsWithoutVariables_3 ?_
  refine ev_iload_n dX10_lessonsWithoutVariables_4 rfl ?_
  refine ev_aload_n dX10_lessonsWithoutVariables_5 rfl ?_
  refine ev_getrv dX10_lessonsWithoutVariables_6 fX10_48 hC.k0 hC.n0 rfl hC.v0_6 ?_
  refine ev_getiv dX10_lessonsWithoutVariables_9 fX10_83 hC.k31 hC.n31 rfl c1 ?_
  refine ev_icmpge 80 dX10_lessonsWithoutVariables_12 (fun hc => ?_) (fun h_no => (by exfalso; omega))
  refine ev_iload_n dX10_lessonsWithoutVariables_80 rfl ?_
  exact ev_iret dX10_lessonsWithoutVariables_81 (⟨_, rfl, rfl, rfl⟩)
set_option maxRecDepth 100000 in
theorem c_account {p : Int} {h : AH} (hF : FRc h) : CV mX10_account 8 [rv 0, iv p] h (fun o h1 => ((0 ≤ p ∧ p ≤ 12) ∧ o = iv 0 ∧ CQ 1 h h1) ∨ (¬ (0 ≤ p ∧ p ≤ 12) ∧ o = xv 0 ∧ CQ 1 h h1)) := by
  obtain ⟨hC, ⟨c1, c2, c3⟩, ⟨s1, s2⟩, ⟨t1, t2⟩, f1, f2, f3, f4⟩ := id hF
  refine cv_of cdX10_account ?_
  show EV _ _ 0 [rv 0, iv p] [] h _
  refine ev_iload_n dX10_account_0 rfl ?_
  by_cases hp0 : p = 0
  · subst hp0
    refine ev_tsI 68 (67) dX10_account_1 (by omega) (by omega) rfl ?_
    refine ev_aload_n dX10_account_68 rfl ?_
    refine ev_getrv dX10_account_69 fX10_48 hC.k0 hC.n0 rfl hC.v0_6 ?_
    refine ev_getiv dX10_account_72 fX10_83 hC.k31 hC.n31 rfl c1 ?_
    exact ev_iret dX10_account_75 (Or.inl ⟨⟨by decide, by decide⟩, rfl, CQ.rf⟩)
  by_cases hp1 : p = 1
  · subst hp1
    refine ev_tsI 76 (75) dX10_account_1 (by omega) (by omega) rfl ?_
    refine ev_aload_n dX10_account_76 rfl ?_
    refine ev_iconst dX10_account_77 ?_
    refine ev_cvi dX10_account_78 lX10_301 (c_lessonsFailing hF) (by decide) hC.k0 hC.n0 rfl rfl rfl (Nat.le_of_ble_eq_true rfl) rfl (fun r h1 q => ?_)
    obtain ⟨rfl, rfl⟩ := q
    exact ev_iret dX10_account_81 (Or.inl ⟨⟨by decide, by decide⟩, rfl, CQ.rf⟩)
  by_cases hp2 : p = 2
  · subst hp2
    refine ev_tsI 82 (81) dX10_account_1 (by omega) (by omega) rfl ?_
    refine ev_aload_n dX10_account_82 rfl ?_
    refine ev_iconst dX10_account_83 ?_
    refine ev_cvi dX10_account_84 lX10_301 (c_lessonsFailing hF) (by decide) hC.k0 hC.n0 rfl rfl rfl (Nat.le_of_ble_eq_true rfl) rfl (fun r h1 q => ?_)
    obtain ⟨rfl, rfl⟩ := q
    exact ev_iret dX10_account_87 (Or.inl ⟨⟨by decide, by decide⟩, rfl, CQ.rf⟩)
  by_cases hp3 : p = 3
  · subst hp3
    refine ev_tsI 88 (87) dX10_account_1 (by omega) (by omega) rfl ?_
    refine ev_aload_n dX10_account_88 rfl ?_
    refine ev_iconst dX10_account_89 ?_
    refine ev_cvi dX10_account_90 lX10_301 (c_lessonsFailing hF) (by decide) hC.k0 hC.n0 rfl rfl rfl (Nat.le_of_ble_eq_true rfl) rfl (fun r h1 q => ?_)
    obtain ⟨rfl, rfl⟩ := q
    exact ev_iret dX10_account_93 (Or.inl ⟨⟨by decide, by decide⟩, rfl, CQ.rf⟩)
  by_cases hp4 : p = 4
  · subst hp4
    refine ev_tsI 94 (93) dX10_account_1 (by omega) (by omega) rfl ?_
    refine ev_aload_n dX10_account_94 rfl ?_
    refine ev_iconst dX10_account_95 ?_
    refine ev_cvi dX10_account_96 lX10_301 (c_lessonsFailing hF) (by decide) hC.k0 hC.n0 rfl rfl rfl (Nat.le_of_ble_eq_true rfl) rfl (fun r h1 q => ?_)
    obtain ⟨rfl, rfl⟩ := q
    exact ev_iret dX10_account_99 (Or.inl ⟨⟨by decide, by decide⟩, rfl, CQ.rf⟩)
  by_cases hp5 : p = 5
  · subst hp5
    refine ev_tsI 100 (99) dX10_account_1 (by omega) (by omega) rfl ?_
    refine ev_aload_n dX10_account_100 rfl ?_
    refine ev_getrv dX10_account_101 fX10_48 hC.k0 hC.n0 rfl hC.v0_6 ?_
    refine ev_cvi dX10_account_104 lX10_304 (c_allNodes hF) (by decide) hC.k31 hC.n31 rfl rfl rfl (Nat.le_of_ble_eq_true rfl) rfl (fun r h1 q => ?_)
    obtain ⟨rfl, rfl⟩ := q
    exact ev_iret dX10_account_107 (Or.inl ⟨⟨by decide, by decide⟩, rfl, CQ.rf⟩)
  by_cases hp6 : p = 6
  · subst hp6
    refine ev_tsI 108 (107) dX10_account_1 (by omega) (by omega) rfl ?_
    refine ev_aload_n dX10_account_108 rfl ?_
    refine ev_getrv dX10_account_109 fX10_48 hC.k0 hC.n0 rfl hC.v0_6 ?_
    refine ev_cvi dX10_account_112 lX10_307 (c_capsK hF) (by decide) hC.k31 hC.n31 rfl rfl rfl (Nat.le_of_ble_eq_true rfl) rfl (fun r h1 q => ?_)
    obtain ⟨rfl, rfl⟩ := q
    exact ev_iret dX10_account_115 (Or.inl ⟨⟨by decide, by decide⟩, rfl, CQ.rf⟩)
  by_cases hp7 : p = 7
  · subst hp7
    refine ev_tsI 116 (115) dX10_account_1 (by omega) (by omega) rfl ?_
    refine ev_aload_n dX10_account_116 rfl ?_
    refine ev_getrv dX10_account_117 fX10_48 hC.k0 hC.n0 rfl hC.v0_6 ?_
    refine ev_getiv dX10_account_120 fX10_310 hC.k31 hC.n31 rfl c2 ?_
    exact ev_iret dX10_account_123 (Or.inl ⟨⟨by decide, by decide⟩, rfl, CQ.rf⟩)
  by_cases hp8 : p = 8
  · subst hp8
    refine ev_tsI 124 (123) dX10_account_1 (by omega) (by omega) rfl ?_
    refine ev_aload_n dX10_account_124 rfl ?_
    refine ev_getrv dX10_account_125 fX10_48 hC.k0 hC.n0 rfl hC.v0_6 ?_
    refine ev_getiv dX10_account_128 fX10_313 hC.k31 hC.n31 rfl c3 ?_
    exact ev_iret dX10_account_131 (Or.inl ⟨⟨by decide, by decide⟩, rfl, CQ.rf⟩)
  by_cases hp9 : p = 9
  · subst hp9
    refine ev_tsI 132 (131) dX10_account_1 (by omega) (by omega) rfl ?_
    refine ev_aload_n dX10_account_132 rfl ?_
    refine ev_cvi dX10_account_133 lX10_316 (c_lessonsWV hF) (by decide) hC.k0 hC.n0 rfl rfl rfl (Nat.le_of_ble_eq_true rfl) rfl (fun r h1 q => ?_)
    obtain ⟨rfl, rfl⟩ := q
    exact ev_iret dX10_account_136 (Or.inl ⟨⟨by decide, by decide⟩, rfl, CQ.rf⟩)
  by_cases hp10 : p = 10
  · subst hp10
    refine ev_tsI 137 (136) dX10_account_1 (by omega) (by omega) rfl ?_
    refine ev_aload_n dX10_account_137 rfl ?_
    refine ev_getrv dX10_account_138 fX10_12 hC.k0 hC.n0 rfl hC.v0_0 ?_
    refine ev_cvi dX10_account_141 lX10_236 (s_J4len s1) (by decide) hC.k1 hC.n1 rfl rfl rfl (Nat.le_of_ble_eq_true rfl) rfl (fun r h1 q => ?_)
    obtain ⟨rfl, rfl⟩ := q
    exact ev_iret dX10_account_144 (Or.inl ⟨⟨by decide, by decide⟩, rfl, CQ.rf⟩)
  by_cases hp11 : p = 11
  · subst hp11
    refine ev_tsI 145 (144) dX10_account_1 (by omega) (by omega) rfl ?_
    refine ev_aload_n dX10_account_145 rfl ?_
    refine ev_getrv dX10_account_146 fX10_61 hC.k0 hC.n0 rfl hC.v0_9 ?_
    refine ev_getiv dX10_account_149 fX10_319 hC.k40 hC.n40 rfl f4 ?_
    exact ev_iret dX10_account_152 (Or.inl ⟨⟨by decide, by decide⟩, rfl, CQ.rf⟩)
  by_cases hp12 : p = 12
  · subst hp12
    refine ev_tsI 153 (152) dX10_account_1 (by omega) (by omega) rfl ?_
    refine ev_aload_n dX10_account_153 rfl ?_
    refine ev_bipush dX10_account_154 ?_
    refine ev_cvi dX10_account_156 lX10_301 (c_lessonsFailing hF) (by decide) hC.k0 hC.n0 rfl rfl rfl (Nat.le_of_ble_eq_true rfl) rfl (fun r h1 q => ?_)
    obtain ⟨rfl, rfl⟩ := q
    exact ev_iret dX10_account_159 (Or.inl ⟨⟨by decide, by decide⟩, rfl, CQ.rf⟩)
  refine ev_tsO 160 dX10_account_1 (by omega) ?_
  exact ev_throww _ tk_0 (List.mem_of_getElem? (i := 23) rfl) dX10_account_160 dX10_account_163 dX10_account_164 dX10_account_167 dX10_account_170 rfl (Nat.le_of_ble_eq_true rfl) (Or.inr ⟨by omega, rfl, CQ.th⟩)
