/-! the class reads a term -/
def awF : List Nd → Nat → List Int → List Int
  | [], _, P => P
  | x :: L, k, P => awF L (k + 1) (List.replicate (arN x.1) (k : Int) ++ P.tail)
theorem awF_app : ∀ (E R : List Nd) (k : Nat) (P : List Int), awF (E ++ R) k P = awF R (k + E.length) (awF E k P)
  | [], R, k, P => rfl
  | x :: E, R, k, P => by
    show awF (E ++ R) (k + 1) _ = _
    rw [awF_app E R (k + 1)]
    show _ = awF R (k + (E.length + 1)) _
    rw [show k + (E.length + 1) = k + 1 + E.length by omega]
    rfl
theorem tbF_app : ∀ (E R : List Nd) (k : Nat) (P : List Int) (s : Nat → Nat → Int), tbF (E ++ R) k P s = tbF R (k + E.length) (awF E k P) (tbF E k P s)
  | [], R, k, P, s => rfl
  | x :: E, R, k, P, s => by
    show tbF (E ++ R) (k + 1) _ _ = _
    rw [tbF_app E R (k + 1)]
    show _ = tbF R (k + (E.length + 1)) _ _
    rw [show k + (E.length + 1) = k + 1 + E.length by omega]
    rfl
theorem awF_bal : ∀ (E R : List Nd) (k : Nat) (P : List Int), balW (E ++ R) P.length → balW R (awF E k P).length
  | [], R, k, P, h => h
  | x :: E, R, k, P, h => by
    refine awF_bal E R (k + 1) _ ?_
    rw [List.length_append, List.length_replicate, List.length_tail, Nat.add_comm]
    exact h.2
theorem arN_le {a : Int} : arN a ≤ 2 := by
  unfold arN
  split
  · omega
  · split <;> omega
theorem awF_len : ∀ (E : List Nd) (k : Nat) (P : List Int), (awF E k P).length ≤ P.length + 2 * E.length
  | [], k, P => Nat.le_refl _
  | x :: E, k, P => by
    refine Nat.le_trans (awF_len E (k + 1) _) ?_
    have := arN_le (a := x.1)
    rw [List.length_append, List.length_replicate, List.length_tail, List.length_cons]
    omega
theorem aw_inv : ∀ (E : List Nd) (k : Nat) (P : List Int) (s : Nat → Nat → Int) (R : List Nd), (InvP k P s ∨ P = [-1]) → balW (E ++ R) P.length → (E = [] → P ≠ [-1]) → InvP (k + E.length) (awF E k P) (tbF E k P s)
  | [], k, P, s, R, h, _, h0 => h.resolve_right (h0 rfl)
  | x :: E, k, P, s, R, h, hb, _ => by
    have hp : P.headD (-1) < (k : Int) := by
      cases P with
      | nil => show (-1 : Int) < k; omega
      | cons p P =>
        rcases h with h | h
        · have := h p List.mem_cons_self
          show p < (k : Int)
          omega
        · have : p = -1 := (List.cons.inj h).1
          show p < (k : Int)
          omega
    have h1 := InvP.st (x := x) h rfl hp
    have hb1 : balW (E ++ R) (List.replicate (arN x.1) (k : Int) ++ P.tail).length := by
      rw [List.length_append, List.length_replicate, List.length_tail, Nat.add_comm]
      exact hb.2
    have e : k + (x :: E).length = k + 1 + E.length := by rw [List.length_cons]; omega
    rw [e]
    refine aw_inv E (k + 1) _ _ R (Or.inl h1) hb1 (fun _ z => ?_)
    have := h1 (-1) (by rw [z]; exact List.mem_cons_self)
    omega
def zf : Nat → Nat → Int := fun _ _ => 0
def awE (E : List Nd) : List Int := if E = [] then [] else awF E 0 [-1]
theorem awE_hd {E R : List Nd} {x : Nd} (hb : balW (E ++ x :: R) 1) : HdP E.length (awE E) ((awF E 0 [-1]).headD (-1)) ∧ (0 ≤ (awF E 0 [-1]).headD (-1) → (((E.length : Nat) : Int) = (awF E 0 [-1]).headD (-1) + 1 ↔ tbF E 0 [-1] zf 59 ((awF E 0 [-1]).headD (-1)).toNat < 0)) := by
  cases E with
  | nil => exact ⟨Or.inl ⟨rfl, rfl, rfl⟩, fun z => absurd z (by decide)⟩
  | cons y E =>
    have e : awE (y :: E) = awF (y :: E) 0 [-1] := if_neg (List.cons_ne_nil _ _)
    rw [e]
    have hi := aw_inv (y :: E) 0 [-1] zf (x :: R) (Or.inr rfl) hb (fun z => absurd z (List.cons_ne_nil _ _))
    have hl := awF_bal (y :: E) (x :: R) 0 [-1] hb
    generalize awF (y :: E) 0 [-1] = P at *
    rw [Nat.zero_add] at hi
    cases P with
    | nil => exact absurd hl.1 (by decide)
    | cons p P =>
      have h1 := hi p List.mem_cons_self
      refine ⟨Or.inr ⟨by rw [List.length_cons]; omega, p.toNat, P, by rw [show ((p.toNat : Nat) : Int) = p by omega], by show p = _; omega, by omega⟩, fun _ => ?_⟩
      show ((y :: E).length : Int) = p + 1 ↔ tbF (y :: E) 0 [-1] zf 59 p.toNat < 0
      omega
theorem awE_sn {E : List Nd} {x : Nd} : awE (E ++ [x]) = List.replicate (arN x.1) (E.length : Int) ++ (awE E).tail ∧ tbF (E ++ [x]) 0 [-1] zf = tb1 x E.length ((awF E 0 [-1]).headD (-1)) (tbF E 0 [-1] zf) := by
  have e : awE (E ++ [x]) = awF (E ++ [x]) 0 [-1] := if_neg (by cases E <;> exact List.cons_ne_nil _ _)
  rw [e, awF_app, tbF_app, Nat.zero_add]
  refine ⟨?_, rfl⟩
  show List.replicate (arN x.1) (E.length : Int) ++ (awF E 0 [-1]).tail = _
  cases E with
  | nil => rfl
  | cons y E => rw [show awE (y :: E) = awF (y :: E) 0 [-1] from if_neg (List.cons_ne_nil _ _)]
theorem awE_len {E : List Nd} : (awE E).length ≤ 2 * E.length := by
  cases E with
  | nil => exact Nat.zero_le _
  | cons y E =>
    rw [show awE (y :: E) = awF E 1 (List.replicate (arN y.1) ((0 : Nat) : Int) ++ []) from if_neg (List.cons_ne_nil _ _)]
    have := awF_len E 1 (List.replicate (arN y.1) ((0 : Nat) : Int) ++ [])
    have := arN_le (a := y.1)
    rw [List.length_append, List.length_replicate, List.length_nil] at *
    rw [List.length_cons]
    omega
/-- the nodes E were written -/
def RE (h0 h : AH) (a N : Nat) (E : List Nd) : Prop := RB h0 h a N E.length E.length [] (Sx (tbF E 0 [-1] zf)) (awE E) (awE E).length
theorem RB.cg8 {h0 h : AH} {a N cnt k w : Nat} {D : List Nat} {S S' : Nat → Nat → Int} {P : List Int} (hB : RB h0 h a N cnt k D S P w) (e : ∀ c, c < 8 → ∀ j, S c j = S' c j) : RB h0 h a N cnt k D S' P w := by
  obtain ⟨q1, q2, q3, q4, q5, q6, q7⟩ := hB
  exact ⟨q1, q2, q3, fun c j hc hj => (q4 c j hc hj).trans (e c hc j), q5, q6, q7⟩
set_option maxRecDepth 100000 in
theorem s_addE {h0 h : AH} {a N : Nat} {E R : List Nd} {x0 x1 x2 : Int} (hE : RE h0 h a N E) (hb : balW (E ++ (x0, x1, x2) :: R) 1) (hN : E.length < N) (h9 : E.length ≤ 100 + 20) (hx : 0 ≤ x0 ∧ x0 ≤ 6) (hm : (awE E).length ≤ 200) :
    CV mX8_addNode 3 [rv 5, rv a, iv x0, iv x1, iv x2] h (on fun h1 => RE h0 h1 a N (E ++ [(x0, x1, x2)])) := by
  obtain ⟨p1, p2⟩ := awE_hd hb
  have gd : GdT (0 + E.length) (tbF E 0 [-1] zf) := tbF_gd E 0 [-1] zf (fun j hj => absurd hj (Nat.not_lt_zero j)) (fun p hp => by rw [List.mem_singleton.mp hp]; decide)
  have hp : (awF E 0 [-1]).headD (-1) < (E.length : Int) := by
    rcases p1 with ⟨e1, e2, e3⟩ | ⟨e1, q0, P1, e2, e3, e4⟩ <;> omega
  refine cv_mono (s_addNode hE hN (by omega) hm p1 hx (fun j hj => ?_)) fun o h1 q => ?_
  · exact (gd j (by omega)).2.1
  · obtain ⟨rfl, q⟩ := q
    refine ⟨rfl, ?_⟩
    have el : (E ++ [(x0, x1, x2)]).length = E.length + 1 := by rw [List.length_append]; rfl
    unfold RE
    rw [el, awE_sn.1, awE_sn.2]
    exact q.cg8 (fun c hc j => tcl_tb hp p2 hc j)
theorem awE_ok {E R : List Nd} (hb : balW (E ++ R) 1) (h : E.length ≤ 120) : (awE E).length ≤ 120 + 80 := by
  have := awE_len (E := E)
  have h2 : ∀ (E : List Nd) (k : Nat) (P : List Int), balW (E ++ R) P.length → (awF E k P).length ≤ P.length + E.length := by
    intro E
    induction E with
    | nil => intro k P _; exact Nat.le_refl _
    | cons x E ih =>
      intro k P hb
      have hb1 : balW (E ++ R) (List.replicate (arN x.1) (k : Int) ++ P.tail).length := by
        rw [List.length_append, List.length_replicate, List.length_tail, Nat.add_comm]
        exact hb.2
      have h0 := hb.1
      have := ih (k + 1) (List.replicate (arN x.1) (k : Int) ++ P.tail) hb1
      have := arN_le (a := x.1)
      rw [List.length_append, List.length_replicate, List.length_tail] at *
      show (awF E (k + 1) _).length ≤ _
      rw [List.length_cons]
      omega
  cases E with
  | nil => exact Nat.zero_le _
  | cons y E =>
    rw [show awE (y :: E) = awF (y :: E) 0 [-1] from if_neg (List.cons_ne_nil _ _)]
    have := h2 (y :: E) 0 [-1] hb
    simp only [List.length_cons, List.length_nil] at *
    omega
set_option maxRecDepth 100000 in
theorem apps_loop {h0 : AH} {a N : Nat} {R : List Nd} {m : Nat} (hm9 : m ≤ 120) : ∀ (t i : Nat) (E : List Nd) (h : AH), i + t = m → RE h0 h a N E → balW (E ++ (List.replicate t apz ++ R)) 1 → E.length + t ≤ N → E.length + t ≤ 120 → EV mX8_addApplications 4 2 [rv 5, rv a, iv (m : Int), iv (i : Int)] [] h (on fun h1 => RE h0 h1 a N (E ++ List.replicate t apz)) := by
  intro t
  induction t with
  | zero =>
    intro i E h hi hE hb hN h9
    refine ev_iload_n dX8_addApplications_2 rfl ?_
    refine ev_iload_n dX8_addApplications_3 rfl ?_
    refine ev_icmpge 22 dX8_addApplications_4 (fun hc => ?_) (fun h_no => (by exfalso; omega))
    exact ev_vret dX8_addApplications_22 (⟨rfl, by rw [List.replicate_zero, List.append_nil]; exact hE⟩)
  | succ t ih =>
    intro i E h hi hE hb hN h9
    have hC := hE.1
    refine ev_iload_n dX8_addApplications_2 rfl ?_
    refine ev_iload_n dX8_addApplications_3 rfl ?_
    refine ev_icmpge 22 dX8_addApplications_4 (fun h_no => (by exfalso; omega)) (fun hc => ?_)
    refine ev_aload_n dX8_addApplications_7 rfl ?_
    refine ev_aload_n dX8_addApplications_8 rfl ?_
    refine ev_bipush dX8_addApplications_9 ?_
    refine ev_iconst dX8_addApplications_11 ?_
    refine ev_iconst dX8_addApplications_12 ?_
    refine ev_cvv dX8_addApplications_13 lX8_88 (s_addE (x0 := 6) (x1 := 0) (x2 := 0) (R := List.replicate t apz ++ R) hE (by rw [List.replicate_succ] at hb; exact hb) (by omega) (by omega) (by decide) (awE_ok hb (by omega))) (by decide) hC.k5 hC.n5 rfl rfl rfl (Nat.le_of_ble_eq_true rfl) rfl (fun h1 q => ?_)
    refine ev_iin3 dX8_addApplications_16 (by unfold ir; omega) ?_
    refine ev_gt 2 dX8_addApplications_19 ?_
    rw [show (i : Int) + 1 = ((i + 1 : Nat) : Int) from rfl, List.replicate_succ, show E ++ apz :: List.replicate t apz = (E ++ [apz]) ++ List.replicate t apz by rw [List.append_assoc]; rfl]
    refine ih (i + 1) (E ++ [apz]) h1 (by omega) q ?_ (by rw [List.length_append]; show E.length + 1 + t ≤ N; omega) (by rw [List.length_append]; show E.length + 1 + t ≤ 120; omega)
    rw [List.append_assoc]
    rw [List.replicate_succ] at hb
    exact hb
set_option maxRecDepth 100000 in
theorem s_addApps {h0 h : AH} {a N : Nat} {E R : List Nd} {m : Int} (hE : RE h0 h a N E) (hb : balW (E ++ (List.replicate m.toNat apz ++ R)) 1) (hN : E.length + m.toNat ≤ N) (h9 : E.length + m.toNat ≤ 120) : CV mX8_addApplications 4 [rv 5, rv a, iv m] h (on fun h1 => RE h0 h1 a N (E ++ List.replicate m.toNat apz)) := by
  refine cv_of cdX8_addApplications ?_
  show EV _ _ 0 [rv 5, rv a, iv m, uv] [] h _
  have hC := hE.1
  refine ev_iconst dX8_addApplications_0 ?_
  refine ev_ist3 dX8_addApplications_1 ?_
  by_cases hm : 0 ≤ m
  · skip
    obtain ⟨k, rfl⟩ : ∃ k : Nat, m = (k : Int) := ⟨m.toNat, by omega⟩
    exact apps_loop (by omega) k 0 E h (by omega) hE hb hN h9
  · skip
    refine ev_iload_n dX8_addApplications_2 rfl ?_
    refine ev_iload_n dX8_addApplications_3 rfl ?_
    refine ev_icmpge 22 dX8_addApplications_4 (fun hc => ?_) (fun h_no => (by exfalso; omega))
    exact ev_vret dX8_addApplications_22 (⟨rfl, by rw [show m.toNat = 0 by omega, List.replicate_zero, List.append_nil]; exact hE⟩)
/-- the letters stand in a row that was there before the term -/
def TXb (h : AH) (a : Nat) (c : Nat → Int) (n : Nat) : Prop := (∃ b N, (b = 2 ∨ 94 ≤ b) ∧ b < a ∧ SBI h 1 b N (n : Int) ∧ ∀ j, j < n → h.vl b j = c j) ∧ n ≤ 60 ∧ ∀ j, j < n → 0 ≤ c j ∧ c j ≤ 127
theorem TXb.t {h : AH} {a : Nat} {c : Nat → Int} {n : Nat} (t : TXb h a c n) : TXs h c n := by
  obtain ⟨⟨b, N, h1, h2, h3, h4⟩, h5⟩ := t
  exact ⟨⟨b, N, h1, h3, h4⟩, h5⟩
theorem TXb.kr {h h1 : AH} {a : Nat} {c : Nat → Int} {n : Nat} (ha : 94 ≤ a) (t : TXb h a c n) (k : KS h h1 (rdA a) [(5, 3)]) : TXb h1 a c n := by
  obtain ⟨⟨b, N, g1, g2, g3, g4⟩, g5⟩ := t
  have n1 : (1 : Nat) ∉ rdA a := by simp only [rdA, List.mem_cons, List.not_mem_nil, or_false]; omega
  have nb : b ∉ rdA a := by simp only [rdA, List.mem_cons, List.not_mem_nil, or_false]; omega
  refine ⟨⟨b, N, g1, g2, g3.ks k n1, fun j hj => (k.v nb (by simp; omega)).trans (g4 j hj)⟩, g5⟩
