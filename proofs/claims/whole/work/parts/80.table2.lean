/-! what every list of a term's nodes is -/
theorem cl1_q {Q : List Nd → Prop} (hf : ∀ a b L, Q L → Q ((4, a, b) :: L)) (hb : ∀ a b L M, Q L → Q M → Q ((5, a, b) :: (L ++ M))) {f g : Fr} (h2 : f.1 = 2 ∨ f.1 = 4) (h : Q f.2.2.2.2) (h4 : f.1 = 4 → Q f.2.2.2.1) : Q (cl1 f g).2.2.2.2 := by
  show Q (if f.1 = 2 then (4, f.2.1, f.2.2.1) :: f.2.2.2.2 else (5, f.2.1, f.2.2.1) :: (f.2.2.2.1 ++ f.2.2.2.2))
  by_cases g : f.1 = 2
  · rw [if_pos g]; exact hf _ _ _ h
  · rw [if_neg g]; exact hb _ _ _ _ (h4 (by omega)) h
def FrQ (Q : List Nd → Prop) (s : List Fr) : Prop := ∀ f ∈ s, (f.2.2.2.2 = [] ∨ Q f.2.2.2.2) ∧ (f.1 = 4 → Q f.2.2.2.1)
theorem clH_q {Q : List Nd → Prop} (hf : ∀ a b L, Q L → Q ((4, a, b) :: L)) (hb : ∀ a b L M, Q L → Q M → Q ((5, a, b) :: (L ++ M))) : ∀ (r : List Fr) (f : Fr), FrQ Q (f :: r) → Q f.2.2.2.2 → Q (clH f r).1.2.2.2.2 ∧ FrQ Q (clH f r).2
  | [], f, h, hd => ⟨hd, fun x hx => nomatch hx⟩
  | g :: r, f, h, hd => by
    unfold clH
    by_cases hf2 : f.1 = 2 ∨ f.1 = 4
    · rw [if_pos hf2]
      have hq : Q (cl1 f g).2.2.2.2 := cl1_q hf hb hf2 hd (h f List.mem_cons_self).2
      refine clH_q hf hb r (cl1 f g) (fun x hx => ?_) hq
      rcases List.mem_cons.mp hx with rfl | hx
      · exact ⟨Or.inr hq, (h g (List.mem_cons_of_mem _ List.mem_cons_self)).2⟩
      · exact h x (List.mem_cons_of_mem _ (List.mem_cons_of_mem _ hx))
    · rw [if_neg hf2]
      exact ⟨hd, fun x hx => h x (List.mem_cons_of_mem _ hx)⟩
theorem adF_q {Q : List Nd → Prop} (ha : ∀ L M, L ≠ [] → Q L → Q M → Q ((6, 0, atL L) :: (L ++ M))) {f : Fr} {L : List Nd} (h : f.2.2.2.2 = [] ∨ Q f.2.2.2.2) (hL : Q L) : Q (adF f L).2.2.2.2 := by
  show Q (if f.2.2.2.2 = [] then L else (6, 0, atL f.2.2.2.2) :: (f.2.2.2.2 ++ L))
  by_cases g : f.2.2.2.2 = []
  · rw [if_pos g]; exact hL
  · rw [if_neg g]; exact ha _ _ g (h.resolve_left g) hL
theorem rdF_q {Q : List Nd → Prop} (hl : ∀ x i, 0 ≤ lk x → Q [(lk x, x, i)]) (hf : ∀ a b L, Q L → Q ((4, a, b) :: L)) (hb : ∀ a b L M, Q L → Q M → Q ((5, a, b) :: (L ++ M))) (ha : ∀ L M, L ≠ [] → Q L → Q M → Q ((6, 0, atL L) :: (L ++ M))) {c : Nat → Int} {n : Nat} : ∀ (t : Nat) (f : Fr) (r : List Fr) (i : Nat), FrQ Q (f :: r) → (rdF c n t f r i).1 = -1 → Q (rdF c n t f r i).2 := by
  intro t
  induction t with
  | zero => intro f r i _ e; exact absurd (show (i : Int) = -1 from e) (by omega)
  | succ t ih =>
    intro f r i hF
    obtain ⟨ch, hch⟩ : ∃ ch, ch = (if i < n then c i else -1) := ⟨_, rfl⟩
    rw [rdF, ← hch]
    have nw : ∀ (g : Fr), (g.2.2.2.2 = [] ∨ Q g.2.2.2.2) → (g.1 = 4 → Q g.2.2.2.1) → FrQ Q r → FrQ Q (g :: r) := fun g h1 h2 h3 x hx => by
      rcases List.mem_cons.mp hx with rfl | hx
      · exact ⟨h1, h2⟩
      · exact h3 x hx
    have hr : FrQ Q r := fun x hx => hF x (List.mem_cons_of_mem _ hx)
    have hf0 := hF f List.mem_cons_self
    have pu : ∀ (g : Fr), g.2.2.2.2 = [] → g.1 ≠ 4 → FrQ Q (g :: f :: r) := fun g h1 h2 x hx => by
      rcases List.mem_cons.mp hx with rfl | hx
      · exact ⟨Or.inl h1, fun z => absurd z h2⟩
      · exact hF x hx
    by_cases c1 : f.2.2.2.2 = [] ∧ (ch = 94 ∨ ch = 33)
    · rw [if_pos c1]
      by_cases d1 : ¬ (i + 1 < n ∧ 97 ≤ c (i + 1) ∧ c (i + 1) ≤ 122)
      · rw [if_pos d1]
        intro e
        exact absurd (show ((i + 1 : Nat) : Int) = -1 from e) (by omega)
      rw [if_neg d1]
      by_cases d2 : ¬ (i + 2 < n ∧ c (i + 2) = (if ch = 94 then 46 else 61))
      · rw [if_pos d2]
        intro e
        exact absurd (show ((i + 2 : Nat) : Int) = -1 from e) (by omega)
      rw [if_neg d2]
      exact ih _ _ _ (pu _ rfl (by by_cases g : ch = 94 <;> simp [g]))
    rw [if_neg c1]
    by_cases c2 : ch = 40
    · rw [if_pos c2]
      exact ih _ _ _ (pu _ rfl (by show (1 : Int) ≠ 4; decide))
    rw [if_neg c2]
    by_cases c3 : 0 ≤ lk ch
    · rw [if_pos c3]
      exact ih _ _ _ (nw _ (Or.inr (adF_q ha hf0.1 (hl _ _ c3))) hf0.2 hr)
    rw [if_neg c3]
    by_cases c4 : f.2.2.2.2 = [] ∨ ¬ (ch = 41 ∨ ch = 59 ∨ ch = -1)
    · rw [if_pos c4]
      intro e
      exact absurd (show (i : Int) = -1 from e) (by omega)
    rw [if_neg c4]
    have hd : f.2.2.2.2 ≠ [] := fun z => c4 (Or.inl z)
    obtain ⟨a1, a2⟩ := clH_q hf hb r f hF (hf0.1.resolve_left hd)
    generalize (clH f r).1 = p at *
    generalize (clH f r).2 = q at *
    by_cases c5 : ch = -1 ∧ p.1 = 0
    · rw [if_pos c5]
      exact fun _ => a1
    rw [if_neg c5]
    by_cases c6 : ch = 41 ∧ p.1 = 1
    · rw [if_pos c6]
      cases q with
      | nil =>
        intro e
        exact absurd (show (i : Int) = -1 from e) (by omega)
      | cons g s9 =>
        have hg := a2 g List.mem_cons_self
        refine ih _ _ _ (fun x hx => ?_)
        rcases List.mem_cons.mp hx with rfl | hx
        · exact ⟨Or.inr (adF_q ha hg.1 a1), hg.2⟩
        · exact a2 x (List.mem_cons_of_mem _ hx)
    rw [if_neg c6]
    by_cases c7 : ch = 59 ∧ p.1 = 3
    · rw [if_pos c7]
      refine ih _ _ _ (fun x hx => ?_)
      rcases List.mem_cons.mp hx with rfl | hx
      · exact ⟨Or.inl rfl, fun _ => a1⟩
      · exact a2 x hx
    rw [if_neg c7]
    intro e
    exact absurd (show (i : Int) = -1 from e) (by omega)
theorem rd_q {Q : List Nd → Prop} (hl : ∀ x i, 0 ≤ lk x → Q [(lk x, x, i)]) (hf : ∀ a b L, Q L → Q ((4, a, b) :: L)) (hb : ∀ a b L M, Q L → Q M → Q ((5, a, b) :: (L ++ M))) (ha : ∀ L M, L ≠ [] → Q L → Q M → Q ((6, 0, atL L) :: (L ++ M))) {c : Nat → Int} {n : Nat} (h : (rd c n).1 = -1) : Q (rd c n).2 :=
  rdF_q hl hf hb ha _ _ _ _ (fun x hx => by
    rcases List.mem_cons.mp hx with rfl | hx
    · exact ⟨Or.inl rfl, fun z => absurd (show (0 : Int) = 4 from z) (by decide)⟩
    · exact nomatch hx) h
/-- the parts of every node are there -/
def balW : List Nd → Nat → Prop
  | [], w => w = 0
  | x :: L, w => 0 < w ∧ balW L (w - 1 + arN x.1)
def cmpT (D : List Nd) : Prop := ∀ R w, balW R w → balW (D ++ R) (w + 1)
theorem rd_cmp {c : Nat → Int} {n : Nat} (h : (rd c n).1 = -1) : cmpT (rd c n).2 := by
  refine rd_q (fun x i hx R w hR => ?_) (fun a b L hL R w hR => ?_) (fun a b L M hL hM R w hR => ?_) (fun L M _ hL hM R w hR => ?_) h
  · have e : arN (lk x) = 0 := if_pos lk_lt
    refine ⟨by omega, ?_⟩
    show balW R (w + 1 - 1 + arN (lk x))
    rw [e]
    exact hR
  · exact ⟨by omega, hL R w hR⟩
  · refine ⟨by omega, ?_⟩
    show balW ((L ++ M) ++ R) (w + 1 - 1 + 2)
    rw [List.append_assoc]
    exact hL _ (w + 1) (hM R w hR)
  · refine ⟨by omega, ?_⟩
    show balW ((L ++ M) ++ R) (w + 1 - 1 + 2)
    rw [List.append_assoc]
    exact hL _ (w + 1) (hM R w hR)
theorem rd_bal {c : Nat → Int} {n : Nat} (h : (rd c n).1 = -1) : balW (rd c n).2 1 := by
  have := rd_cmp h [] 0 rfl
  rw [List.append_nil] at this
  exact this
/-- an application starts where its first part starts -/
def apOK (L : List Nd) : Prop := ∀ j, j < L.length → (L.getD j (0, 0, 0)).1 = 6 → j + 1 < L.length ∧ (L.getD j (0, 0, 0)).2.2 = (L.getD (j + 1) (0, 0, 0)).2.2
theorem apOK_c {x : Nd} {L : List Nd} (h : apOK L) (hx : x.1 = 6 → L ≠ [] ∧ x.2.2 = atL L) : apOK (x :: L) := by
  intro j hj h6
  cases j with
  | zero =>
    obtain ⟨h1, h2⟩ := hx h6
    cases L with
    | nil => exact absurd rfl h1
    | cons y M => exact ⟨by simp, h2⟩
  | succ j =>
    obtain ⟨h1, h2⟩ := h j (by simpa using hj) h6
    exact ⟨by simpa using h1, h2⟩
theorem apOK_a {L M : List Nd} (h : apOK L) (hM : apOK M) : apOK (L ++ M) := by
  intro j hj h6
  by_cases q : j < L.length
  · have e : (L ++ M).getD j (0, 0, 0) = L.getD j (0, 0, 0) := by rw [List.getD_eq_getElem?_getD, List.getD_eq_getElem?_getD, List.getElem?_append_left q]
    rw [e] at h6 ⊢
    obtain ⟨h1, h2⟩ := h j q h6
    have e2 : (L ++ M).getD (j + 1) (0, 0, 0) = L.getD (j + 1) (0, 0, 0) := by rw [List.getD_eq_getElem?_getD, List.getD_eq_getElem?_getD, List.getElem?_append_left h1]
    rw [e2]
    exact ⟨by rw [List.length_append]; omega, h2⟩
  · have e : ∀ k, L.length ≤ k → (L ++ M).getD k (0, 0, 0) = M.getD (k - L.length) (0, 0, 0) := fun k hk => by rw [List.getD_eq_getElem?_getD, List.getD_eq_getElem?_getD, List.getElem?_append_right hk]
    rw [List.length_append] at hj ⊢
    rw [e j (by omega)] at h6 ⊢
    obtain ⟨h1, h2⟩ := hM (j - L.length) (by omega) h6
    rw [e (j + 1) (by omega), show j + 1 - L.length = j - L.length + 1 by omega]
    exact ⟨by omega, h2⟩
theorem rd_ap {c : Nat → Int} {n : Nat} (h : (rd c n).1 = -1) : apOK (rd c n).2 := by
  refine rd_q (Q := apOK) (fun x i hx => ?_) (fun a b L hL => apOK_c hL (fun z => absurd (show (4 : Int) = 6 from z) (by decide))) (fun a b L M hL hM => apOK_c (apOK_a hL hM) (fun z => absurd (show (5 : Int) = 6 from z) (by decide))) (fun L M hn hL hM => apOK_c (apOK_a hL hM) (fun _ => ?_)) h
  · refine apOK_c (fun j hj => absurd hj (Nat.not_lt_zero j)) (fun z => ?_)
    have := lk_lt (c := x)
    exact absurd (show lk x = 6 from z) (by omega)
  · cases L with
    | nil => exact absurd rfl hn
    | cons y M => exact ⟨List.cons_ne_nil _ _, rfl⟩
/-! the table as the class lays it: rows 0 to 7; a second part is one that doesn't come next -/
def tcl0 (x : Nd) (k : Nat) (p : Int) (S : Nat → Nat → Int) : Nat → Nat → Int :=
  pt7 (pt7 (pt7 (pt7 (pt7 (pt7 (pt7 (pt7 S 0 k x.1) 1 k p) 2 k (-1)) 3 k (-1)) 4 k (if p < 0 then 0 else S 4 p.toNat + 1)) 5 k x.2.2) 6 k x.2.1) 7 k (-1)
def tcl (x : Nd) (k : Nat) (p : Int) (S : Nat → Nat → Int) : Nat → Nat → Int :=
  if p < 0 then tcl0 x k p S else pt7 (tcl0 x k p S) (if (k : Int) = p + 1 then 2 else 3) p.toNat k
def Sx (s : Nat → Nat → Int) : Nat → Nat → Int := fun kk j => if kk < 7 then s (colC kk) j else -1
theorem tcl_tb {x : Nd} {k : Nat} {p : Int} {s : Nat → Nat → Int} (hp : p < (k : Int)) (hi : 0 ≤ p → ((k : Int) = p + 1 ↔ s 59 p.toNat < 0)) {kk : Nat} (hk : kk < 8) (j : Nat) : tcl x k p (Sx s) kk j = Sx (tb1 x k p s) kk j := by
  have e0 : ∀ kk j, tcl0 x k p (Sx s) kk j = (if kk = 7 ∧ j = k then -1 else if kk = 6 ∧ j = k then x.2.1 else if kk = 5 ∧ j = k then x.2.2 else if kk = 4 ∧ j = k then (if p < 0 then 0 else s 62 p.toNat + 1) else if kk = 3 ∧ j = k then -1 else if kk = 2 ∧ j = k then -1 else if kk = 1 ∧ j = k then p else if kk = 0 ∧ j = k then x.1 else Sx s kk j) := fun kk j => rfl
  by_cases hp0 : p < 0
  · rw [tcl, if_pos hp0, e0]
    have n0 : ¬ 0 ≤ p := by omega
    obtain rfl | rfl | rfl | rfl | rfl | rfl | rfl | rfl : kk = 0 ∨ kk = 1 ∨ kk = 2 ∨ kk = 3 ∨ kk = 4 ∨ kk = 5 ∨ kk = 6 ∨ kk = 7 := by omega
    · simp [Sx, colC, tb1_57]
    · simp [Sx, colC, tb1_61]
    · simp [Sx, colC, tb1_59, n0]
    · simp [Sx, colC, tb1_60, n0]
    · simp [Sx, colC, tb1_62]
    · simp [Sx, colC, tb1_63]
    · simp [Sx, colC, tb1_58]
    · simp [Sx]
  · rw [tcl, if_neg hp0]
    have q0 : 0 ≤ p := by omega
    have hi := hi q0
    have hjp : ∀ j : Nat, j = p.toNat → ¬ j = k := by intro j hj; omega
    by_cases hk1 : (k : Int) = p + 1
    · rw [if_pos hk1]
      have h59 := hi.mp hk1
      rw [pt7, e0]
      obtain rfl | rfl | rfl | rfl | rfl | rfl | rfl | rfl : kk = 0 ∨ kk = 1 ∨ kk = 2 ∨ kk = 3 ∨ kk = 4 ∨ kk = 5 ∨ kk = 6 ∨ kk = 7 := by omega
      · simp [Sx, colC, tb1_57]
      · simp [Sx, colC, tb1_61]
      · simp [Sx, colC, tb1_59, q0, h59]
      · simp [Sx, colC, tb1_60, h59]
      · simp [Sx, colC, tb1_62]
      · simp [Sx, colC, tb1_63]
      · simp [Sx, colC, tb1_58]
      · simp [Sx]
    · rw [if_neg hk1]
      have h59 : ¬ s 59 p.toNat < 0 := fun z => hk1 (hi.mpr z)
      rw [pt7, e0]
      obtain rfl | rfl | rfl | rfl | rfl | rfl | rfl | rfl : kk = 0 ∨ kk = 1 ∨ kk = 2 ∨ kk = 3 ∨ kk = 4 ∨ kk = 5 ∨ kk = 6 ∨ kk = 7 := by omega
      · simp [Sx, colC, tb1_57]
      · simp [Sx, colC, tb1_61]
      · simp [Sx, colC, tb1_59, h59]
      · simp [Sx, colC, tb1_60, q0, h59]
      · simp [Sx, colC, tb1_62]
      · simp [Sx, colC, tb1_63]
      · simp [Sx, colC, tb1_58]
      · simp [Sx]
/-- the awaited: the newest node awaits its first part, all others have one -/
def InvP (k : Nat) (P : List Int) (s : Nat → Nat → Int) : Prop := ∀ p ∈ P, (0 ≤ p ∧ p < (k : Int)) ∧ ((p + 1 < (k : Int) ∧ 0 ≤ s 59 p.toNat) ∨ (p + 1 = (k : Int) ∧ s 59 p.toNat < 0 ∧ P.head? = some p))
theorem InvP.st {k : Nat} {p : Int} {P : List Int} {s : Nat → Nat → Int} {x : Nd} (h : InvP k P s ∨ P = [-1]) (hp : p = P.headD (-1)) (hk : p < (k : Int)) : InvP (k + 1) (List.replicate (arN x.1) (k : Int) ++ P.tail) (tb1 x k p s) := by
  intro q hq
  rcases List.mem_append.mp hq with hq | hq
  · obtain ⟨hn, rfl⟩ := List.mem_replicate.mp hq
    refine ⟨by omega, Or.inr ⟨by omega, ?_, ?_⟩⟩
    · rw [show ((k : Nat) : Int).toNat = k from rfl, tb1_59]
      by_cases c : 0 ≤ p ∧ s 59 p.toNat < 0 ∧ k = p.toNat
      · exact absurd c.2.2 (by omega)
      · rw [if_neg c, if_pos rfl]; decide
    · cases ha : arN x.1 with
      | zero => exact absurd ha hn
      | succ a => rfl
  · rcases h with h | h
    · cases P with
      | nil => exact nomatch hq
      | cons p0 P =>
        have hp : p = p0 := hp
        subst hp
        have h1 := h q (List.mem_cons_of_mem _ hq)
        have h0 := h p List.mem_cons_self
        refine ⟨by omega, Or.inl ⟨by omega, ?_⟩⟩
        rw [tb1_59]
        by_cases e : q = p
        · subst e
          by_cases c : s 59 q.toNat < 0
          · rw [if_pos ⟨by omega, c, rfl⟩]; omega
          · rw [if_neg (fun z => c z.2.1), if_neg (by omega)]; omega
        · have h2 : q + 1 < (k : Int) ∧ 0 ≤ s 59 q.toNat := by
            rcases h1.2 with h2 | h2
            · exact h2
            · exact absurd (Option.some.inj h2.2.2).symm e
          rw [if_neg (by omega), if_neg (by omega)]
          exact h2.2
    · subst h
      exact nomatch hq
theorem tbF_59k : ∀ (L : List Nd) (k : Nat) (P : List Int) (s : Nat → Nat → Int) (j : Nat), j < k → 0 ≤ s 59 j → tbF L k P s 59 j = s 59 j
  | [], _, _, _, _, _, _ => rfl
  | x :: L, k, P, s, j, hj, h0 => by
    have e : tb1 x k (P.headD (-1)) s 59 j = s 59 j := by
      rw [tb1_59]
      by_cases c : 0 ≤ P.headD (-1) ∧ s 59 (P.headD (-1)).toNat < 0 ∧ j = (P.headD (-1)).toNat
      · exact absurd h0 (by rw [c.2.2]; omega)
      · rw [if_neg c, if_neg (by omega)]
    rw [tbF, tbF_59k L (k + 1) _ _ j (by omega) (by rw [e]; exact h0), e]
theorem tbF_59 : ∀ (L : List Nd) (k : Nat) (P : List Int) (s : Nat → Nat → Int) (j : Nat), (∀ p ∈ P, p < (k : Int)) → k ≤ j → j + 1 < k + L.length → 0 < arN (L.getD (j - k) (0, 0, 0)).1 → tbF L k P s 59 j = ((j + 1 : Nat) : Int)
  | [], k, P, s, j, _, h1, h2, _ => by rw [List.length_nil] at h2; omega
  | x :: L, k, P, s, j, hP, h1, h2, h3 => by
    rw [List.length_cons] at h2
    have hp : P.headD (-1) < (k : Int) := by
      cases P with
      | nil => show (-1 : Int) < k; omega
      | cons p P => exact hP p List.mem_cons_self
    have hP2 : ∀ p ∈ List.replicate (arN x.1) (k : Int) ++ P.tail, p < ((k + 1 : Nat) : Int) := fun p hp => by
      rcases List.mem_append.mp hp with hp | hp
      · obtain ⟨-, rfl⟩ := List.mem_replicate.mp hp
        omega
      · have := hP p (List.mem_of_mem_tail hp)
        omega
    by_cases e : j = k
    · subst e
      rw [Nat.sub_self] at h3
      cases L with
      | nil => rw [List.length_nil] at h2; omega
      | cons y M =>
        have e1 : (List.replicate (arN x.1) (j : Int) ++ P.tail).headD (-1) = (j : Int) := by
          cases ha : arN x.1 with
          | zero => exact absurd h3 (by show ¬ 0 < arN x.1; omega)
          | succ a => rfl
        have e2 : tb1 x j (P.headD (-1)) s 59 j < 0 := by
          rw [tb1_59, if_neg (by omega), if_pos rfl]; decide
        have e3 : tb1 y (j + 1) (j : Int) (tb1 x j (P.headD (-1)) s) 59 j = ((j + 1 : Nat) : Int) := by
          rw [tb1_59, if_pos ⟨by omega, e2, rfl⟩]
        rw [tbF, tbF, e1, tbF_59k M (j + 1 + 1) _ _ j (by omega) (by rw [e3]; omega), e3]
    · rw [tbF]
      refine tbF_59 L (k + 1) _ _ j hP2 (by omega) (by omega) ?_
      rw [show j - k = (j - (k + 1)) + 1 by omega] at h3
      exact h3
theorem TBL_59 {L : List Nd} {j : Nat} (h : j + 1 < L.length) (ha : 0 < arN (L.getD j (0, 0, 0)).1) : TBL L 59 j = ((j + 1 : Nat) : Int) :=
  tbF_59 L 0 [-1] _ j (fun p hp => by rw [List.mem_singleton.mp hp]; decide) (Nat.zero_le _) (by omega) ha
/-- tables don't hang on where nodes start, but for the column that tells it -/
def cc6 (c : Nat) : Prop := 57 ≤ c ∧ c ≤ 62
def pr2 (x : Nd) : Int × Int := (x.1, x.2.1)
theorem tb1_ag {x y : Nd} (hxy : pr2 x = pr2 y) {k : Nat} {p : Int} {s s' : Nat → Nat → Int} (h : ∀ c, cc6 c → ∀ j, s c j = s' c j) : ∀ c, cc6 c → ∀ j, tb1 x k p s c j = tb1 y k p s' c j := by
  intro c hc j
  have h1 : x.1 = y.1 := (Prod.mk.inj hxy).1
  have h2 : x.2.1 = y.2.1 := (Prod.mk.inj hxy).2
  obtain rfl | rfl | rfl | rfl | rfl | rfl : c = 57 ∨ c = 58 ∨ c = 59 ∨ c = 60 ∨ c = 61 ∨ c = 62 := by unfold cc6 at hc; omega
  · rw [tb1_57, tb1_57, h1, h _ hc]
  · rw [tb1_58, tb1_58, h2, h _ hc]
  · rw [tb1_59, tb1_59, h _ hc, h _ hc]
  · rw [tb1_60, tb1_60, h _ hc, h 59 (by unfold cc6; omega)]
  · rw [tb1_61, tb1_61, h _ hc]
  · rw [tb1_62, tb1_62, h _ hc, h _ hc]
theorem tbF_ag : ∀ (L L' : List Nd) (k : Nat) (P : List Int) (s s' : Nat → Nat → Int), L.map pr2 = L'.map pr2 → (∀ c, cc6 c → ∀ j, s c j = s' c j) → ∀ c, cc6 c → ∀ j, tbF L k P s c j = tbF L' k P s' c j
  | [], [], _, _, _, _, _, h, c, hc, j => h c hc j
  | x :: L, y :: L', k, P, s, s', e, h, c, hc, j => by
    have e1 := (List.cons.inj e).1
    rw [tbF, tbF, show arN y.1 = arN x.1 by rw [show y.1 = x.1 from (Prod.mk.inj e1).1.symm]]
    exact tbF_ag L L' (k + 1) _ _ _ (List.cons.inj e).2 (tb1_ag e1 h) c hc j
theorem TBL_ag {L L' : List Nd} (h : L.map pr2 = L'.map pr2) {c : Nat} (hc : cc6 c) (j : Nat) : TBL L c j = TBL L' c j := tbF_ag L L' 0 [-1] _ _ h (fun _ _ _ => rfl) c hc j
theorem bdW_ag {s s' : Nat → Nat → Int} (h : ∀ c, cc6 c → ∀ j, s c j = s' c j) {a : Int} : ∀ (f : Nat) (b k : Int), bdW s a f b k = bdW s' a f b k
  | 0, b, k => rfl
  | f + 1, b, k => by
    rw [bdW, bdW, h 57 (by unfold cc6; omega), h 58 (by unfold cc6; omega), h 60 (by unfold cc6; omega), h 61 (by unfold cc6; omega), bdW_ag h f]
theorem bd_ag {s s' : Nat → Nat → Int} (h : ∀ c, cc6 c → ∀ j, s c j = s' c j) (j : Nat) : bd s j = bd s' j := by
  rw [bd, bd, h 58 (by unfold cc6; omega), h 61 (by unfold cc6; omega), bdW_ag h]
