/-! the reference's changes, whole -/
def AN2 : List Nat := [43, 44, 46, 47, 48, 49, 50, 51, 52, 53, 54, 55, 56, 57, 58, 59, 60, 61, 62, 63, 64, 65, 66, 67, 68, 69, 70, 71, 72, 73, 74, 75, 76, 77, 78, 79, 80, 81, 82, 83, 84, 85, 86, 87, 89]
def FN2 : List Nat := [0, 1, 2, 3, 4, 5, 7, 8, 34, 35, 36, 49, 50, 51, 52, 53, 54, 55, 59, 60, 68, 69, 73, 74, 75, 76, 77, 81]
/-- a change is done: the state is V, the one ahead of it is kept -/
def CgQ (h : AH) (c : Nat) (V : Nat → Int) (h1 : AH) : Prop := KP h h1 AN2 FN2 ∧ h1.vl 42 0 = 0 ∧ (∀ j, j < 569 → h1.vl 43 j = V j) ∧ h1.vl 42 2 = (if c = 8 then 8 else ((c + 1 : Nat) : Int)) ∧ (c = 8 → (∀ k j, k < 7 → j < 569 → PV h1 k j = PV h (k + 1) j) ∧ ∀ j, j < 569 → PV h1 7 j = h.vl 43 j) ∧ (c < 8 → (∀ k j, k < c → j < 569 → PV h1 k j = PV h k j) ∧ ∀ j, j < 569 → PV h1 c j = h.vl 43 j) ∧ (h1.vl 42 3 = h.vl 42 3 ∧ h1.vl 42 4 = h.vl 42 4 ∧ h1.vl 42 5 = h.vl 42 5)
/-- a change is refused for a reason -/
def RfQ (h : AH) (t w d : Int) (h1 : AH) : Prop := KP h h1 AN2 FN2 ∧ h1.vl 42 0 = t ∧ h1.vl 42 3 = w ∧ h1.vl 42 4 = d ∧ h1.vl 42 5 = 0 ∧ (∀ j, j < 569 → h1.vl 43 j = h.vl 43 j) ∧ h1.vl 42 2 = h.vl 42 2 ∧ h1.vl 46 = h.vl 46
def BgQ (h g : AH) : Prop := KP h g [44] [0, 69] ∧ g.vl 42 0 = 0 ∧ g.vl 42 69 = 0 ∧ ∀ j : Nat, j < 569 → g.vl 44 j = h.vl 43 j
theorem chg_o {h g0 g1 h1 : AH} {c : Nat} {V : Nat → Int} {A F : List Nat} (b : BgQ h g0) (k : KP g0 g1 A F) (hA : A.all (fun a => decide (a ∈ AN2) && decide (a ∉ [44, 46])) = true) (hF : F.all (fun a => decide (a ∈ FN2) && decide (a ∉ [0, 2, 3, 4, 5])) = true) (hv : ∀ j, j < 569 → g1.vl 43 j = V j) (p : PshQ g1 c h1) : CgQ h c V h1 := by
  obtain ⟨b1, b2, b3, b4⟩ := b
  obtain ⟨p1, p2, p3, p4⟩ := p
  have a1 : ∀ x ∈ A, x ∈ AN2 := fun x hx => by
    have z := List.all_eq_true.mp hA x hx
    rw [Bool.and_eq_true, decide_eq_true_eq] at z
    exact z.1
  have a2 : ∀ r, r ∈ [44, 46] → r ∉ A := fun r hr hx => by
    have z := List.all_eq_true.mp hA r hx
    rw [Bool.and_eq_true, decide_eq_true_eq, decide_eq_true_eq] at z
    exact z.2 hr
  have f1 : ∀ x ∈ F, x ∈ FN2 := fun x hx => by
    have z := List.all_eq_true.mp hF x hx
    rw [Bool.and_eq_true, decide_eq_true_eq] at z
    exact z.1
  have f2 : ∀ r, r ∈ [0, 2, 3, 4, 5] → r ∉ F := fun r hr hx => by
    have z := List.all_eq_true.mp hF r hx
    rw [Bool.and_eq_true, decide_eq_true_eq, decide_eq_true_eq] at z
    exact z.2 hr
  have e46 : g1.vl 46 = h.vl 46 := (k.vl (r := 46) (by decide) (a2 46 (by decide))).trans (b1.vl)
  have e44 : ∀ j, j < 569 → g1.vl 44 j = h.vl 43 j := fun j hj => (congrFun (k.vl (r := 44) (by decide) (a2 44 (by decide))) j).trans (b4 j hj)
  have ep : ∀ k j, PV g1 k j = PV h k j := fun k j => congrFun e46 _
  refine ⟨((b1.wk (by decide) (by decide)).tr (k.wk a1 f1)).tr (p1.wk (by decide) (by decide)), (p1.fl (j := 0)).trans ((k.fl (f2 0 (by decide))).trans b2), fun j hj => (congrFun (p1.vl (r := 43)) j).trans (hv j hj), p2, fun hc => ?_, fun hc => ?_, ?_⟩
  · exact ⟨fun k j hk hj => ((p3 hc).1 k j hk hj).trans (ep _ _), fun j hj => ((p3 hc).2 j hj).trans (e44 j hj)⟩
  · exact ⟨fun k j hk hj => ((p4 hc).1 k j hk hj).trans (ep _ _), fun j hj => ((p4 hc).2 j hj).trans (e44 j hj)⟩
  · exact ⟨(p1.fl).trans ((k.fl (f2 3 (by decide))).trans b1.fl), (p1.fl).trans ((k.fl (f2 4 (by decide))).trans b1.fl), (p1.fl).trans ((k.fl (f2 5 (by decide))).trans b1.fl)⟩
theorem chg_r {h g0 g1 h1 : AH} {t w d : Int} {A F : List Nat} (b : BgQ h g0) (k : KP g0 g1 A F) (hA : A.all (fun a => decide (a ∈ AN2) && decide (a ∉ [44, 46])) = true) (hF : F.all (fun a => decide (a ∈ FN2) && decide (a ∉ [2])) = true) (hw : g1.vl 42 7 = w) (hd : g1.vl 42 8 = d) (p : KP g1 h1 [43] [0, 3, 4, 5] ∧ (∀ j : Nat, j < 569 → h1.vl 43 j = g1.vl 44 j) ∧ h1.vl 42 0 = t ∧ h1.vl 42 3 = g1.vl 42 7 ∧ h1.vl 42 4 = g1.vl 42 8 ∧ h1.vl 42 5 = 0) : RfQ h t w d h1 := by
  obtain ⟨b1, b2, b3, b4⟩ := b
  obtain ⟨p1, p2, p3, p4, p5, p6⟩ := p
  have a1 : ∀ x ∈ A, x ∈ AN2 := fun x hx => by
    have z := List.all_eq_true.mp hA x hx
    rw [Bool.and_eq_true, decide_eq_true_eq] at z
    exact z.1
  have a2 : ∀ r, r ∈ [44, 46] → r ∉ A := fun r hr hx => by
    have z := List.all_eq_true.mp hA r hx
    rw [Bool.and_eq_true, decide_eq_true_eq, decide_eq_true_eq] at z
    exact z.2 hr
  have f1 : ∀ x ∈ F, x ∈ FN2 := fun x hx => by
    have z := List.all_eq_true.mp hF x hx
    rw [Bool.and_eq_true, decide_eq_true_eq] at z
    exact z.1
  have f2 : ∀ r, r ∈ [2] → r ∉ F := fun r hr hx => by
    have z := List.all_eq_true.mp hF r hx
    rw [Bool.and_eq_true, decide_eq_true_eq, decide_eq_true_eq] at z
    exact z.2 hr
  refine ⟨((b1.wk (by decide) (by decide)).tr (k.wk a1 f1)).tr (p1.wk (by decide) (by decide)), p3, p4.trans hw, p5.trans hd, p6, fun j hj => (p2 j hj).trans ((congrFun (k.vl (r := 44) (by decide) (a2 44 (by decide))) j).trans (b4 j hj)), (p1.fl).trans ((k.fl (f2 2 (by decide))).trans b1.fl), (p1.vl).trans ((k.vl (by decide) (a2 46 (by decide))).trans b1.vl)⟩
/-- the letters up to n tell what is read -/
theorem rdF_congr {c c' : Nat → Int} {n : Nat} (hc : ∀ j, j < n → c j = c' j) : ∀ (t : Nat) (f : Fr) (r : List Fr) (i : Nat), rdF c n t f r i = rdF c' n t f r i := by
  intro t
  induction t with
  | zero => intro f r i; rfl
  | succ t ih =>
    intro f r i
    have e1 : (if i < n then c i else -1) = (if i < n then c' i else -1) := by
      by_cases h : i < n
      · rw [if_pos h, if_pos h, hc i h]
      · rw [if_neg h, if_neg h]
    have e2 : (i + 1 < n ∧ 97 ≤ c (i + 1) ∧ c (i + 1) ≤ 122) ↔ (i + 1 < n ∧ 97 ≤ c' (i + 1) ∧ c' (i + 1) ≤ 122) := ⟨fun z => ⟨z.1, by rw [← hc _ z.1]; exact z.2⟩, fun z => ⟨z.1, by rw [hc _ z.1]; exact z.2⟩⟩
    have e3 : ∀ x : Int, (i + 2 < n ∧ c (i + 2) = x) ↔ (i + 2 < n ∧ c' (i + 2) = x) := fun x => ⟨fun z => ⟨z.1, by rw [← hc _ z.1]; exact z.2⟩, fun z => ⟨z.1, by rw [hc _ z.1]; exact z.2⟩⟩
    rw [rdF, rdF, e1]
    simp only [e2, e3, ih]
    by_cases g2 : i + 1 < n ∧ 97 ≤ c' (i + 1) ∧ c' (i + 1) ≤ 122
    · rw [hc _ g2.1]
    · simp only [g2, not_false_eq_true, if_true]
theorem NV.eq {h h1 : AH} {N : Nat} {LL : Nat → List Nd} (hN : NV h N LL) (hv : ∀ j, j < 569 → h1.vl 43 j = h.vl 43 j) : NV h1 N LL := by
  refine ⟨(hv 0 (by decide)).trans hN.1, hN.2.1, fun l hl => ?_⟩
  have h6 := hN.2.1
  obtain ⟨n, a, b, c⟩ := hN.2.2 l hl
  refine ⟨n, (hv _ (by omega)).trans a, b, ?_⟩
  rw [← c]
  exact rdF_congr (fun j hj => hv _ (by omega)) _ _ _ _
set_option maxRecDepth 100000 in
theorem r_drop {p : Int} {N c : Nat} {LL : Nat → List Nd} {h : AH} (hI : RI h) (hN : NV h N LL) (hc : h.vl 42 2 = (c : Int)) (hc8 : c ≤ 8) : CV mX11_drop 9 [rv 42, iv p] h (oi fun r h1 => (¬ (0 ≤ p ∧ p < (N : Int)) ∧ RfQ h 1 2 p h1) ∨ ((0 ≤ p ∧ p < (N : Int)) ∧ r = ((LL p.toNat).length : Int) ∧ CgQ h c (drV (h.vl 43) p.toNat N) h1)) := by
  refine cv_of cdX11_drop ?_
  show EV _ _ 0 [rv 42, iv p] [] h _
  refine ev_aload_n dX11_drop_0 rfl ?_
  refine ev_cvv dX11_drop_1 lX11_350 (s_begins hI) (by decide) hI.o hI.n rfl rfl rfl (Nat.le_of_ble_eq_true rfl) rfl (fun g0 q => ?_)
  have b0 : BgQ h g0 := q
  have hI0 : RI g0 := b0.1.ri hI
  have hN0 : NV g0 N LL := hN.kp b0.1
  have ev : g0.vl 43 = h.vl 43 := b0.1.vl
  refine ev_aload_n dX11_drop_4 rfl ?_
  refine ev_aload_n dX11_drop_5 rfl ?_
  refine ev_iload_n dX11_drop_6 rfl ?_
  refine ev_cvi dX11_drop_7 lX11_364 (s_drops hI0 hN0) (by decide) hI0.o hI0.n rfl rfl rfl (Nat.le_of_ble_eq_true rfl) rfl (fun r g1 q => ?_)
  rcases q with ⟨hp, rfl, hg1⟩ | ⟨hp, rfl, k1, hv1⟩
  · skip
    have k1 : KP g0 g1 [] [7, 8, 69] := by rw [hg1]; exact ((KP.rf.pf (by decide)).pf (by decide)).pf (by decide)
    have hI1 : RI g1 := k1.ri hI0
    have hr1 : g1.vl 42 69 = 1 := by rw [hg1]; rfl
    have hw1 : g1.vl 42 7 = 2 := by rw [hg1]; rfl
    have hd1 : g1.vl 42 8 = p := by rw [hg1]; rfl
    refine ev_iconst dX11_drop_10 ?_
    refine ev_cvi dX11_drop_11 lX11_359 (s_endsB hI1 hr1) (by decide) hI1.o hI1.n rfl rfl rfl (Nat.le_of_ble_eq_true rfl) rfl (fun r h1 q => ?_)
    obtain ⟨rfl, q⟩ := q
    exact ev_iret dX11_drop_14 (⟨_, rfl, Or.inl ⟨hp, chg_r b0 k1 (by decide) (by decide) hw1 hd1 q⟩⟩)
  · skip
    have hI1 : RI g1 := k1.ri hI0
    have hr1 : g1.vl 42 69 = 0 := (k1.fl).trans b0.2.2.1
    have hc1 : g1.vl 42 2 = (c : Int) := (k1.fl).trans ((b0.1.fl).trans hc)
    refine ev_iconst dX11_drop_10 ?_
    refine ev_cvi dX11_drop_11 lX11_359 (s_endsO hI1 hr1 hc1 hc8) (by decide) hI1.o hI1.n rfl rfl rfl (Nat.le_of_ble_eq_true rfl) rfl (fun r h1 q => ?_)
    obtain ⟨rfl, q⟩ := q
    exact ev_iret dX11_drop_14 (⟨_, rfl, Or.inr ⟨hp, rfl, chg_o b0 k1 (by decide) (by decide) (fun j _ => by rw [hv1, ev]) q⟩⟩)
set_option maxRecDepth 100000 in
theorem r_unkeep {p : Int} {c : Nat} {h : AH} (hI : RI h) (hc : h.vl 42 2 = (c : Int)) (hc8 : c ≤ 8) : CV mX11_unkeep 9 [rv 42, iv p] h (oi fun r h1 => (¬ (0 ≤ p ∧ p ≤ 7) ∧ RfQ h 1 8 p h1) ∨ ((0 ≤ p ∧ p ≤ 7) ∧ h.vl 43 (369 + 25 * p.toNat) = 0 ∧ RfQ h 1 6 p h1) ∨ ((0 ≤ p ∧ p ≤ 7) ∧ h.vl 43 (369 + 25 * p.toNat) ≠ 0 ∧ r = h.vl 43 (369 + 25 * p.toNat) ∧ CgQ h c (ukV (h.vl 43) p.toNat) h1)) := by
  refine cv_of cdX11_unkeep ?_
  show EV _ _ 0 [rv 42, iv p] [] h _
  refine ev_aload_n dX11_unkeep_0 rfl ?_
  refine ev_cvv dX11_unkeep_1 lX11_350 (s_begins hI) (by decide) hI.o hI.n rfl rfl rfl (Nat.le_of_ble_eq_true rfl) rfl (fun g0 q => ?_)
  have b0 : BgQ h g0 := q
  have hI0 : RI g0 := b0.1.ri hI
  have ev : g0.vl 43 = h.vl 43 := b0.1.vl
  refine ev_aload_n dX11_unkeep_4 rfl ?_
  refine ev_aload_n dX11_unkeep_5 rfl ?_
  refine ev_iload_n dX11_unkeep_6 rfl ?_
  refine ev_cvi dX11_unkeep_7 lX11_376 (s_unkeeps hI0) (by decide) hI0.o hI0.n rfl rfl rfl (Nat.le_of_ble_eq_true rfl) rfl (fun r g1 q => ?_)
  rw [ev] at q
  have ref : ∀ (w : Int), g1 = ((g0.put 42 69 1).put 42 7 w).put 42 8 p → (∀ h1, RfQ h 1 w p h1 → (oi fun r h1 => (¬ (0 ≤ p ∧ p ≤ 7) ∧ RfQ h 1 8 p h1) ∨ ((0 ≤ p ∧ p ≤ 7) ∧ h.vl 43 (369 + 25 * p.toNat) = 0 ∧ RfQ h 1 6 p h1) ∨ ((0 ≤ p ∧ p ≤ 7) ∧ h.vl 43 (369 + 25 * p.toNat) ≠ 0 ∧ r = h.vl 43 (369 + 25 * p.toNat) ∧ CgQ h c (ukV (h.vl 43) p.toNat) h1)) (iv 0) h1) → EV mX11_unkeep 9 10 [rv 42, iv p] [iv 0, rv 42] g1 (oi fun r h1 => (¬ (0 ≤ p ∧ p ≤ 7) ∧ RfQ h 1 8 p h1) ∨ ((0 ≤ p ∧ p ≤ 7) ∧ h.vl 43 (369 + 25 * p.toNat) = 0 ∧ RfQ h 1 6 p h1) ∨ ((0 ≤ p ∧ p ≤ 7) ∧ h.vl 43 (369 + 25 * p.toNat) ≠ 0 ∧ r = h.vl 43 (369 + 25 * p.toNat) ∧ CgQ h c (ukV (h.vl 43) p.toNat) h1)) := by
    intro w hg1 K
    have k1 : KP g0 g1 [] [7, 8, 69] := by rw [hg1]; exact ((KP.rf.pf (by decide)).pf (by decide)).pf (by decide)
    have hI1 : RI g1 := k1.ri hI0
    have hr1 : g1.vl 42 69 = 1 := by rw [hg1]; rfl
    have hw1 : g1.vl 42 7 = w := by rw [hg1]; rfl
    have hd1 : g1.vl 42 8 = p := by rw [hg1]; rfl
    refine ev_iconst dX11_unkeep_10 ?_
    refine ev_cvi dX11_unkeep_11 lX11_359 (s_endsB hI1 hr1) (by decide) hI1.o hI1.n rfl rfl rfl (Nat.le_of_ble_eq_true rfl) rfl (fun r h1 q => ?_)
    obtain ⟨rfl, q⟩ := q
    exact ev_iret dX11_unkeep_14 (K _ (chg_r b0 k1 (by decide) (by decide) hw1 hd1 q))
  rcases q with ⟨hp, rfl, hg1⟩ | ⟨hp, hz, rfl, hg1⟩ | ⟨hp, hz, rfl, k1, hv1⟩
  · exact ref 8 hg1 (fun h1 z => ⟨_, rfl, Or.inl ⟨hp, z⟩⟩)
  · exact ref 6 hg1 (fun h1 z => ⟨_, rfl, Or.inr (Or.inl ⟨hp, hz, z⟩)⟩)
  · have hI1 : RI g1 := k1.ri hI0
    have hr1 : g1.vl 42 69 = 0 := (k1.fl).trans b0.2.2.1
    have hc1 : g1.vl 42 2 = (c : Int) := (k1.fl).trans ((b0.1.fl).trans hc)
    refine ev_iconst dX11_unkeep_10 ?_
    refine ev_cvi dX11_unkeep_11 lX11_359 (s_endsO hI1 hr1 hc1 hc8) (by decide) hI1.o hI1.n rfl rfl rfl (Nat.le_of_ble_eq_true rfl) rfl (fun r h1 q => ?_)
    obtain ⟨rfl, q⟩ := q
    exact ev_iret dX11_unkeep_14 (⟨_, rfl, Or.inr (Or.inr ⟨hp, hz, rfl, chg_o b0 k1 (by decide) (by decide) (fun j _ => by rw [hv1]) q⟩)⟩)
