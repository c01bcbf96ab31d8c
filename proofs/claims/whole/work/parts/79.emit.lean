/-! the class's one pass over a term writes the reference's nodes, in their order -/
def apz : Nd := (6, 0, 0)
def zN (x : Nd) : Nd := (x.1, x.2.1, if x.1 = 6 then 0 else x.2.2)
def ptF (c : Nat → Int) (n i q : Nat) : Nat := (pfF c (n - i) i (q : Int) 0).toNat
theorem pfF_add {c : Nat → Int} : ∀ (t i : Nat) (d q : Int), pfF c t i d q = q + pfF c t i d 0
  | 0, i, d, q => by rw [pfF, pfF]; omega
  | t + 1, i, d, q => by
    rw [pfF, pfF]
    by_cases h : d = 0 ∧ (c i = 41 ∨ c i = 59)
    · rw [if_pos h, if_pos h]; omega
    · rw [if_neg h, if_neg h, pfF_add t _ _ (if pfd (c i) d = 0 then q + 1 else q), pfF_add t _ _ (if pfd (c i) d = 0 then 0 + 1 else 0)]
      by_cases h2 : pfd (c i) d = 0
      · rw [if_pos h2, if_pos h2]; omega
      · rw [if_neg h2, if_neg h2]; omega
theorem pfF_nn {c : Nat → Int} : ∀ (t i : Nat) (d : Int), 0 ≤ pfF c t i d 0
  | 0, i, d => by rw [pfF]; omega
  | t + 1, i, d => by
    rw [pfF]
    by_cases h : d = 0 ∧ (c i = 41 ∨ c i = 59)
    · rw [if_pos h]; omega
    · rw [if_neg h, pfF_add]
      have := pfF_nn (c := c) t (i + 1) (pfd (c i) d)
      by_cases h2 : pfd (c i) d = 0
      · rw [if_pos h2]; omega
      · rw [if_neg h2]; omega
theorem pt_st {c : Nat → Int} {n i : Nat} (hi : i < n) (q : Nat) : ptF c n i q = if q = 0 ∧ (c i = 41 ∨ c i = 59) then 0 else (if pfd (c i) q = 0 then 1 else 0) + (pfF c (n - (i + 1)) (i + 1) (pfd (c i) q) 0).toNat := by
  rw [ptF, show n - i = (n - (i + 1)) + 1 by omega, pfF]
  by_cases h : q = 0 ∧ (c i = 41 ∨ c i = 59)
  · rw [if_pos h, if_pos ⟨by omega, h.2⟩]; rfl
  · rw [if_neg h, if_neg (fun z => h ⟨by omega, z.2⟩), pfF_add]
    have := pfF_nn (c := c) (n - (i + 1)) (i + 1) (pfd (c i) q)
    by_cases h2 : pfd (c i) q = 0
    · rw [if_pos h2, if_pos h2]; omega
    · rw [if_neg h2, if_neg h2]; omega
theorem pt_end {c : Nat → Int} {n i : Nat} (hi : n ≤ i) (q : Nat) : ptF c n i q = 0 := by rw [ptF, show n - i = 0 by omega, pfF]; rfl
theorem pt_s {c : Nat → Int} {n i : Nat} (hi : i < n) (h1 : c i ≠ 40) (h2 : c i ≠ 41) (q : Nat) : ptF c n i (q + 1) = ptF c n (i + 1) (q + 1) := by
  have e : pfd (c i) ((q + 1 : Nat) : Int) = ((q + 1 : Nat) : Int) := by rw [pfd, if_neg h1, if_neg h2]; omega
  rw [pt_st hi, if_neg (by omega), e, if_neg (by omega), ptF]
  omega
theorem pt_o {c : Nat → Int} {n i : Nat} (hi : i < n) (h1 : c i ≠ 40) (h2 : c i ≠ 41) (h3 : c i ≠ 59) : ptF c n i 0 = ptF c n (i + 1) 0 + 1 := by
  have e : pfd (c i) ((0 : Nat) : Int) = ((0 : Nat) : Int) := by rw [pfd, if_neg h1, if_neg h2]; omega
  rw [pt_st hi, if_neg (by omega), e, if_pos (show ((0 : Nat) : Int) = 0 from rfl), ptF]
  omega
theorem pt_c {c : Nat → Int} {n i : Nat} (hi : i < n) (h : c i = 41 ∨ c i = 59) : ptF c n i 0 = 0 := by rw [pt_st hi, if_pos ⟨rfl, h⟩]
theorem pt_40 {c : Nat → Int} {n i : Nat} (hi : i < n) (h : c i = 40) (q : Nat) : ptF c n i q = ptF c n (i + 1) (q + 1) := by
  have e : pfd (c i) (q : Int) = ((q + 1 : Nat) : Int) := by rw [pfd, if_pos h]; omega
  rw [pt_st hi, if_neg (by omega), e, if_neg (by omega), ptF]
  omega
theorem pt_41 {c : Nat → Int} {n i : Nat} (hi : i < n) (h : c i = 41) (q : Nat) : ptF c n i (q + 1) = (if q = 0 then 1 else 0) + ptF c n (i + 1) q := by
  have e : pfd (c i) ((q + 1 : Nat) : Int) = (q : Int) := by rw [pfd, if_neg (by omega), if_pos h]; omega
  rw [pt_st hi, if_neg (by omega), e, ptF]
  by_cases h2 : q = 0
  · rw [if_pos h2, if_pos (by omega)]
  · rw [if_neg h2, if_neg (by omega)]
def emA (c : Nat → Int) (n i : Nat) (ta : Bool) : List Nd := if ta = true ∧ ¬ (c i = 94 ∨ c i = 33) then List.replicate (ptF c n i 0 - 1) apz else []
def emN (c : Nat → Int) (i : Nat) : List Nd := if c i = 94 ∨ c i = 33 then [(if c i = 94 then 4 else 5, c (i + 1), (i : Int))] else if 0 ≤ lk (c i) then [(lk (c i), c i, (i : Int))] else []
def nxT (x : Int) : Bool := decide ((x = 94 ∨ x = 33) ∨ x = 40 ∨ x = 59)
def emF (c : Nat → Int) (n : Nat) : Nat → Nat → Bool → List Nd
  | 0, _, _ => []
  | t + 1, i, ta => if i < n then emA c n i ta ++ (emN c i ++ emF c n t (i + (if c i = 94 ∨ c i = 33 then 3 else 1)) (nxT (c i))) else []
/-- what was written for what is open: P tells how many parts are to come at a depth -/
def paF (f : Fr) : Nat := if f.1 = 1 then 1 else 0
def pbF (f : Fr) : Bool := decide (f.1 = 1)
def oprF (f : Fr) : List Nd := if f.1 = 2 then [(4, f.2.1, f.2.2.1)] else if f.1 = 3 then [(5, f.2.1, f.2.2.1)] else if f.1 = 4 then (5, f.2.1, f.2.2.1) :: f.2.2.2.1.map zN else []
def bodF (P : Nat → Nat) (q : Nat) (b : Bool) (g : Fr) : List Nd := if g.2.2.2.2 = [] then (if b = true then List.replicate (P q - 1) apz else []) else List.replicate (P q) apz ++ g.2.2.2.2.map zN
def prT (P : Nat → Nat) : List Fr → Nat → Bool → List Nd
  | [], _, _ => []
  | g :: r, q, b => prT P r (q + paF g) (pbF g) ++ (oprF g ++ bodF P q b g)
def WF2 : List Fr → Bool → Prop
  | [], _ => True
  | g :: r, b => (b = false → g.2.2.2.2 = []) ∧ WF2 r (pbF g)
theorem pab {f : Fr} (h : pbF f = true) : paF f = 1 := if_pos (of_decide_eq_true h)
theorem pab0 {f : Fr} (h : f.1 ≠ 1) : paF f = 0 ∧ pbF f = false := ⟨if_neg h, decide_eq_false h⟩
theorem prT_cg {P P' : Nat → Nat} : ∀ (s : List Fr) (b : Bool) (q q' : Nat), WF2 s b → (b = true → P q = P' q') → (∀ j, 1 ≤ j → P (q + j) = P' (q' + j)) → prT P s q b = prT P' s q' b
  | [], _, _, _, _, _, _ => rfl
  | g :: r, b, q, q', h1, h2, h3 => by
    rw [prT, prT, prT_cg r (pbF g) (q + paF g) (q' + paF g) h1.2 (fun e => by rw [pab e]; exact h3 1 (Nat.le_refl _)) (fun j hj => by rw [Nat.add_assoc, Nat.add_assoc]; exact h3 _ (by omega))]
    congr 2
    rw [bodF, bodF]
    by_cases hd : g.2.2.2.2 = []
    · rw [if_pos hd, if_pos hd]
      by_cases hb : b = true
      · rw [if_pos hb, if_pos hb, h2 hb]
      · rw [if_neg hb, if_neg hb]
    · rw [if_neg hd, if_neg hd]
      have hb : b = true := by
        cases b with
        | true => rfl
        | false => exact absurd (h1.1 rfl) hd
      rw [h2 hb]
theorem cl_pr {P : Nat → Nat} (hP : P 0 = 0) : ∀ (r : List Fr) (f : Fr), WFs f r → WF2 r (pbF f) → f.2.2.2.2 ≠ [] → prT P ((clH f r).1 :: (clH f r).2) 0 false = prT P (f :: r) 0 false ∧ WF2 (clH f r).2 (pbF (clH f r).1)
  | [], f, _, h2, _ => ⟨rfl, h2⟩
  | g :: r, f, hW, h2, hd => by
    unfold clH
    by_cases hf : f.1 = 2 ∨ f.1 = 4
    · rw [if_pos hf]
      obtain ⟨p1, p2⟩ := pab0 (f := f) (by omega)
      have hg : g.2.2.2.2 = [] := h2.1 p2
      have hd2 : (cl1 f g).2.2.2.2 ≠ [] := by
        show (if f.1 = 2 then (4, f.2.1, f.2.2.1) :: f.2.2.2.2 else (5, f.2.1, f.2.2.1) :: (f.2.2.2.1 ++ f.2.2.2.2)) ≠ []
        by_cases h2 : f.1 = 2
        · rw [if_pos h2]; exact List.cons_ne_nil _ _
        · rw [if_neg h2]; exact List.cons_ne_nil _ _
      have hWc : WFs (cl1 f g) r := by
        cases r with
        | nil => exact hW.2
        | cons x s => exact hW.2
      obtain ⟨e1, e2⟩ := cl_pr hP r (cl1 f g) hWc h2.2 hd2
      refine ⟨e1.trans ?_, e2⟩
      rw [prT, prT, prT, p1, p2]
      show prT P r (0 + paF g) (pbF g) ++ (oprF g ++ bodF P 0 false (cl1 f g)) = _
      rw [bodF, if_neg hd2, bodF, if_pos hg, if_neg (by decide), bodF, if_neg hd, hP]
      show prT P r (0 + paF g) (pbF g) ++ (oprF g ++ ([] ++ (if f.1 = 2 then (4, f.2.1, f.2.2.1) :: f.2.2.2.2 else (5, f.2.1, f.2.2.1) :: (f.2.2.2.1 ++ f.2.2.2.2)).map zN)) = (prT P r (0 + paF g) (pbF g) ++ (oprF g ++ [])) ++ (oprF f ++ ([] ++ f.2.2.2.2.map zN))
      rw [List.append_nil, List.nil_append, List.nil_append, List.append_assoc]
      congr 2
      rw [oprF]
      by_cases h2 : f.1 = 2
      · rw [if_pos h2, if_pos h2]; rfl
      · rw [if_neg h2, if_neg h2, if_neg (by omega), if_pos (by omega), List.map_cons, List.map_append]; rfl
    · rw [if_neg hf]
      exact ⟨rfl, h2⟩
theorem zN_lk {c i : Int} : zN (lk c, c, i) = (lk c, c, i) := by
  have := lk_lt (c := c)
  rw [zN]
  simp only
  rw [if_neg (by omega)]
theorem nx0 {x : Int} (h : 0 ≤ lk x) : nxT x = false := decide_eq_false (fun z => lk_no (by omega) h)
theorem rep_s {k : Nat} {L : List Nd} : List.replicate (k + 1) apz ++ L = List.replicate k apz ++ (apz :: L) := by
  rw [List.replicate_succ', List.append_assoc]; rfl
theorem bod_ad {P P1 : Nat → Nat} {f : Fr} {L : List Nd} (hL : L ≠ []) (hp : P 0 = P1 0 + 1) : bodF P 0 false f ++ (if f.2.2.2.2 = [] then List.replicate (P 0 - 1) apz else []) ++ L.map zN = bodF P1 0 false (adF f L) := by
  rw [bodF, bodF, if_neg (adF_ne hL)]
  show _ = List.replicate (P1 0) apz ++ (if f.2.2.2.2 = [] then L else (6, 0, atL f.2.2.2.2) :: (f.2.2.2.2 ++ L)).map zN
  by_cases hd : f.2.2.2.2 = []
  · rw [if_pos hd, if_neg (by decide), if_pos hd, if_pos hd, hp]
    rfl
  · rw [if_neg hd, if_neg hd, if_neg hd, hp, List.map_cons, List.map_append, List.append_nil, rep_s, List.append_assoc]
    rfl
theorem em_rd {c : Nat → Int} {n : Nat} (hc : ∀ j, j < n → 0 ≤ c j) : ∀ (t t' : Nat) (f : Fr) (r : List Fr) (i : Nat), n ≤ i + t' → n < i + t → i ≤ n → WFs f r → WF2 r (pbF f) → (rdF c n t f r i).1 = -1 → (rdF c n t f r i).2.map zN = prT (ptF c n i) (f :: r) 0 false ++ emF c n t' i (decide (f.2.2.2.2 = [])) := by
  intro t
  induction t with
  | zero => intro t' f r i h1 h2 h3; exact absurd h2 (by omega)
  | succ t ih =>
    intro t' f r i h1 h2 h3 hW hW2
    obtain ⟨ch, hch⟩ : ∃ ch, ch = (if i < n then c i else -1) := ⟨_, rfl⟩
    rw [rdF, ← hch]
    have inn : ch ≠ -1 → i < n := fun z => by
      by_cases q : i < n
      · exact q
      · rw [if_neg q] at hch; exact absurd hch z
    have emS : ∀ (hi : i < n) (ta : Bool), ∃ s, n ≤ i + 1 + s ∧ emF c n t' i ta = emA c n i ta ++ (emN c i ++ emF c n s (i + (if c i = 94 ∨ c i = 33 then 3 else 1)) (nxT (c i))) := fun hi ta => by
      cases t' with
      | zero => exact absurd h1 (by omega)
      | succ s => exact ⟨s, by omega, by rw [emF, if_pos hi]⟩
    by_cases c1 : f.2.2.2.2 = [] ∧ (ch = 94 ∨ ch = 33)
    · rw [if_pos c1]
      have hi : i < n := inn (by omega)
      have ech : ch = c i := by rw [hch, if_pos hi]
      by_cases d1 : ¬ (i + 1 < n ∧ 97 ≤ c (i + 1) ∧ c (i + 1) ≤ 122)
      · rw [if_pos d1]
        intro e
        exact absurd (show ((i + 1 : Nat) : Int) = -1 from e) (by omega)
      rw [if_neg d1]
      by_cases d2 : ¬ (i + 2 < n ∧ c (i + 2) = (if ch = 94 then 46 else 61))
      · rw [if_pos d2]
        intro e
        exact absurd (show ((i + 2 : Nat) : Int) = -1 from e) (by omega)
      rw [if_neg d2]
      have d1 := Classical.not_not.mp d1
      have d2 := Classical.not_not.mp d2
      intro e
      obtain ⟨s, hs, es⟩ := emS hi (decide (f.2.2.2.2 = []))
      have eB : c i = 94 ∨ c i = 33 := by rw [← ech]; exact c1.2
      have c46 : c (i + 2) = 46 ∨ c (i + 2) = 61 := by
        by_cases g : ch = 94
        · rw [if_pos g] at d2; exact Or.inl d2.2
        · rw [if_neg g] at d2; exact Or.inr d2.2
      have ft : (if ch = 94 then (2 : Int) else 3) ≠ 1 := by
        by_cases g : ch = 94
        · rw [if_pos g]; decide
        · rw [if_neg g]; decide
      have hn := ih s (if ch = 94 then 2 else 3, c (i + 1), (i : Int), [], []) (f :: r) (i + 3) (by omega) (by omega) (by omega) ⟨by by_cases g : ch = 94 <;> simp [g], hW⟩ ⟨fun _ => c1.1, hW2⟩ e
      have nA : ¬ (decide (f.2.2.2.2 = []) = true ∧ ¬ (c i = 94 ∨ c i = 33)) := fun z => z.2 eB
      obtain ⟨p1, p2⟩ := pab0 (f := ((if ch = 94 then 2 else 3, c (i + 1), (i : Int), [], []) : Fr)) ft
      rw [hn, es, emA, if_neg nA, emN, if_pos eB, if_pos eB, prT, p1, p2]
      have e0 : prT (ptF c n (i + 3)) (f :: r) (0 + 0) false = prT (ptF c n i) (f :: r) 0 false := by
        refine prT_cg (f :: r) false _ _ ⟨fun _ => c1.1, hW2⟩ (fun z => by cases z) (fun j hj => ?_)
        obtain ⟨k, rfl⟩ : ∃ k, j = k + 1 := ⟨j - 1, by omega⟩
        rw [Nat.zero_add, pt_s hi (by omega) (by omega), pt_s d1.1 (by omega) (by omega), pt_s d2.1 (by omega) (by omega)]
      have e1 : bodF (ptF c n (i + 3)) 0 false ((if ch = 94 then 2 else 3, c (i + 1), (i : Int), [], []) : Fr) = [] := rfl
      have e2 : oprF ((if ch = 94 then 2 else 3, c (i + 1), (i : Int), [], []) : Fr) = [(if c i = 94 then 4 else 5, c (i + 1), (i : Int))] := by
        rw [← ech, oprF]
        by_cases g : ch = 94
        · simp only [if_pos g]
          rfl
        · simp only [if_neg g]
          rfl
      have e3 : nxT (c i) = true := decide_eq_true (Or.inl eB)
      rw [e0, e1, e2, e3, List.append_nil, List.append_assoc, List.nil_append]
      rfl
    rw [if_neg c1]
    by_cases c2 : ch = 40
    · rw [if_pos c2]
      intro e
      have hi : i < n := inn (by omega)
      have ech : ch = c i := by rw [hch, if_pos hi]
      have e40 : c i = 40 := by omega
      obtain ⟨s, hs, es⟩ := emS hi (decide (f.2.2.2.2 = []))
      have hn := ih s (1, 0, (i : Int), [], []) (f :: r) (i + 1) (by omega) (by omega) (by omega) ⟨⟨by show (1 : Int) ≤ 1; decide, by show (1 : Int) ≤ 4; decide⟩, hW⟩ ⟨fun z => Bool.noConfusion (show true = false from z), hW2⟩ e
      rw [hn, es, emN, if_neg (by omega), if_neg (lk_no (by omega)), if_neg (by omega), show nxT (c i) = true from decide_eq_true (by omega)]
      rw [prT]
      show (prT (ptF c n (i + 1)) (f :: r) 1 true ++ ([] ++ [])) ++ emF c n s (i + 1) true = _
      rw [List.append_nil, List.append_nil, List.nil_append, ← List.append_assoc]
      congr 1
      rw [prT, prT, prT_cg r (pbF f) (1 + paF f) (0 + paF f) (P := ptF c n (i + 1)) (P' := ptF c n i) hW2 (fun _ => by rw [pt_40 hi e40]; congr 1; omega) (fun j _ => by rw [pt_40 hi e40]; congr 1; omega)]
      rw [List.append_assoc, List.append_assoc]
      congr 2
      rw [bodF, bodF, emA]
      by_cases hd : f.2.2.2.2 = []
      · rw [if_pos hd, if_pos rfl, if_pos hd, if_neg (by decide), if_pos ⟨decide_eq_true hd, by omega⟩, pt_40 hi e40]
        rfl
      · rw [if_neg hd, if_neg hd, if_neg (fun z => hd (of_decide_eq_true z.1)), List.append_nil, pt_40 hi e40 0]
    rw [if_neg c2]
    by_cases c3 : 0 ≤ lk ch
    · rw [if_pos c3]
      intro e
      have hi : i < n := inn (fun z => lk_no (by omega) c3)
      have ech : ch = c i := by rw [hch, if_pos hi]
      have c3i : 0 ≤ lk (c i) := by rw [← ech]; exact c3
      obtain ⟨s, hs, es⟩ := emS hi (decide (f.2.2.2.2 = []))
      have n40 : c i ≠ 40 := fun z => lk_no (by omega) c3i
      have n41 : c i ≠ 41 := fun z => lk_no (by omega) c3i
      have n59 : c i ≠ 59 := fun z => lk_no (by omega) c3i
      have nB : ¬ (c i = 94 ∨ c i = 33) := fun z => lk_no (by omega) c3i
      have hn := ih s (adF f [(lk ch, ch, (i : Int))]) r (i + 1) (by omega) (by omega) (by omega) (WFs_ad hW) hW2 e
      rw [hn, es, emN, if_neg nB, if_pos c3i, if_neg nB, nx0 c3i, show decide ((adF f [(lk ch, ch, (i : Int))]).2.2.2.2 = []) = false from decide_eq_false (adF_ne (List.cons_ne_nil _ _))]
      rw [prT]
      show (prT (ptF c n (i + 1)) r (0 + paF f) (pbF f) ++ (oprF f ++ bodF (ptF c n (i + 1)) 0 false (adF f [(lk ch, ch, (i : Int))]))) ++ emF c n s (i + 1) false = _
      rw [← bod_ad (P := ptF c n i) (List.cons_ne_nil _ _) (pt_o hi n40 n41 n59), prT, prT_cg r (pbF f) (0 + paF f) (0 + paF f) (P := ptF c n (i + 1)) (P' := ptF c n i) hW2 (fun z => by rw [pab z, Nat.zero_add, pt_s hi n40 n41]) (fun j hj => by
        obtain ⟨k, rfl⟩ : ∃ k, j = k + 1 := ⟨j - 1, by omega⟩
        rw [← Nat.add_assoc, pt_s hi n40 n41])]
      have e1 : [(lk ch, ch, (i : Int))].map zN = [(lk (c i), c i, (i : Int))] := by rw [ech, List.map_cons, zN_lk]; rfl
      rw [e1]
      have e2 : (if f.2.2.2.2 = [] then List.replicate (ptF c n i 0 - 1) apz else []) = emA c n i (decide (f.2.2.2.2 = [])) := by
        rw [emA]
        by_cases hd : f.2.2.2.2 = []
        · rw [if_pos hd, if_pos ⟨decide_eq_true hd, nB⟩]
        · rw [if_neg hd, if_neg (fun z => hd (of_decide_eq_true z.1))]
      rw [e2]
      simp only [List.append_assoc]
    rw [if_neg c3]
    by_cases c4 : f.2.2.2.2 = [] ∨ ¬ (ch = 41 ∨ ch = 59 ∨ ch = -1)
    · rw [if_pos c4]
      intro e
      exact absurd (show (i : Int) = -1 from e) (by omega)
    rw [if_neg c4]
    have hd : f.2.2.2.2 ≠ [] := fun z => c4 (Or.inl z)
    have hch3 : ch = 41 ∨ ch = 59 ∨ ch = -1 := Classical.not_not.mp (fun z => c4 (Or.inr z))
    have hP0 : ptF c n i 0 = 0 := by
      by_cases hi : i < n
      · have ech : ch = c i := by rw [hch, if_pos hi]
        have := hc i hi
        exact pt_c hi (by omega)
      · exact pt_end (by omega) 0
    obtain ⟨a1, a2, a3, a4⟩ := clH_inv r f hW hd
    obtain ⟨b1, b2⟩ := cl_pr hP0 r f hW hW2 hd
    rw [← b1, show decide (f.2.2.2.2 = []) = false from decide_eq_false hd]
    generalize hp : (clH f r).1 = p at *
    generalize hq : (clH f r).2 = q at *
    by_cases c5 : ch = -1 ∧ p.1 = 0
    · rw [if_pos c5]
      intro _
      have hq0 : q = [] := by
        rcases a4 with a4 | a4 | a4
        · exact a4.2
        · omega
        · omega
      have hin : ¬ i < n := fun z => by
        have := hc i z
        rw [if_pos z] at hch
        omega
      have e0 : emF c n t' i false = [] := by
        cases t' with
        | zero => rfl
        | succ s => rw [emF, if_neg hin]
      rw [e0, hq0, prT, bodF, if_neg a3, hP0, oprF, if_neg (by omega), if_neg (by omega), if_neg (by omega)]
      show p.2.2.2.2.map zN = ([] ++ ([] ++ ([] ++ p.2.2.2.2.map zN))) ++ []
      rw [List.append_nil]
      rfl
    rw [if_neg c5]
    by_cases c6 : ch = 41 ∧ p.1 = 1
    · rw [if_pos c6]
      cases q with
      | nil =>
        intro e
        exact absurd (show (i : Int) = -1 from e) (by omega)
      | cons g s9 =>
        intro e
        have hi : i < n := inn (by omega)
        have ech : ch = c i := by rw [hch, if_pos hi]
        have e41 : c i = 41 := by omega
        obtain ⟨s, hs, es⟩ := emS hi false
        have hWg : WFs (adF g p.2.2.2.2) s9 := WFs_ad a1.2
        have hn := ih s (adF g p.2.2.2.2) s9 (i + 1) (by omega) (by omega) (by omega) hWg b2.2 e
        have nB : ¬ (c i = 94 ∨ c i = 33) := by omega
        refine hn.trans ?_
        rw [es, emA, if_neg (fun z => by cases z.1), emN, if_neg nB, if_neg (lk_no (by omega)), if_neg nB, show nxT (c i) = false from decide_eq_false (by omega), show decide ((adF g p.2.2.2.2).2.2.2.2 = []) = false from decide_eq_false (adF_ne a3), List.nil_append, List.nil_append]
        congr 1
        rw [prT]
        show prT (ptF c n (i + 1)) s9 (0 + paF g) (pbF g) ++ (oprF g ++ bodF (ptF c n (i + 1)) 0 false (adF g p.2.2.2.2)) = _
        rw [prT, prT, show paF p = 1 from if_pos c6.2, show pbF p = true from decide_eq_true c6.2, show oprF p = [] from by rw [oprF, if_neg (by omega), if_neg (by omega), if_neg (by omega)]]
        rw [prT_cg s9 (pbF g) (0 + paF g) (0 + 1 + paF g) (P := ptF c n (i + 1)) (P' := ptF c n i) b2.2 (fun z => by rw [pab z]; show ptF c n (i + 1) 1 = ptF c n i 2; rw [pt_41 hi e41 1, if_neg (by omega), Nat.zero_add]) (fun j hj => by
          rw [show 0 + 1 + paF g + j = (0 + paF g + j) + 1 by omega, pt_41 hi e41, if_neg (by omega)]
          exact (Nat.zero_add _).symm)]
        rw [List.append_assoc, List.append_assoc]
        congr 2
        rw [bodF, bodF, bodF, if_neg (adF_ne a3), if_neg a3, hP0, List.nil_append]
        show List.replicate (ptF c n (i + 1) 0) apz ++ (if g.2.2.2.2 = [] then p.2.2.2.2 else (6, 0, atL g.2.2.2.2) :: (g.2.2.2.2 ++ p.2.2.2.2)).map zN = _ ++ ([] ++ p.2.2.2.2.map zN)
        have e1 : ptF c n i (0 + 1) = 1 + ptF c n (i + 1) 0 := pt_41 hi e41 0
        by_cases hg : g.2.2.2.2 = []
        · rw [if_pos hg, if_pos hg, if_pos rfl, e1, show 1 + ptF c n (i + 1) 0 - 1 = ptF c n (i + 1) 0 by omega]
          rfl
        · rw [if_neg hg, if_neg hg, e1, show 1 + ptF c n (i + 1) 0 = ptF c n (i + 1) 0 + 1 by omega, rep_s, List.map_cons, List.map_append, List.append_assoc]
          rfl
    rw [if_neg c6]
    by_cases c7 : ch = 59 ∧ p.1 = 3
    · rw [if_pos c7]
      intro e
      have hi : i < n := inn (by omega)
      have ech : ch = c i := by rw [hch, if_pos hi]
      have e59 : c i = 59 := by omega
      obtain ⟨s, hs, es⟩ := emS hi false
      obtain ⟨p1, p2⟩ := pab0 (f := p) (by omega)
      have hWq : WFs (4, p.2.1, p.2.2.1, p.2.2.2.2, []) q := by
        cases q with
        | nil => exact absurd (show p.1 = 0 from a1) (by omega)
        | cons g q => exact ⟨⟨by show (1 : Int) ≤ 4; decide, by show (4 : Int) ≤ 4; decide⟩, a1.2⟩
      rw [p2] at b2
      have hn := ih s (4, p.2.1, p.2.2.1, p.2.2.2.2, []) q (i + 1) (by omega) (by omega) (by omega) hWq b2 e
      have nB : ¬ (c i = 94 ∨ c i = 33) := by omega
      refine hn.trans ?_
      rw [es, emA, if_neg (fun z => by cases z.1), emN, if_neg nB, if_neg (lk_no (by omega)), if_neg nB, show nxT (c i) = true from decide_eq_true (by omega), List.nil_append, List.nil_append]
      show prT (ptF c n (i + 1)) ((4, p.2.1, p.2.2.1, p.2.2.2.2, []) :: q) 0 false ++ emF c n s (i + 1) true = _
      congr 1
      rw [prT, prT, p1, p2]
      show prT (ptF c n (i + 1)) q (0 + 0) false ++ ((5, p.2.1, p.2.2.1) :: p.2.2.2.2.map zN ++ []) = _
      rw [prT_cg q false (0 + 0) (0 + 0) (P := ptF c n (i + 1)) (P' := ptF c n i) b2 (fun z => by cases z) (fun j hj => by
        obtain ⟨k, rfl⟩ : ∃ k, j = k + 1 := ⟨j - 1, by omega⟩
        rw [Nat.add_zero, Nat.zero_add, pt_s hi (by omega) (by omega)])]
      congr 1
      rw [bodF, if_neg a3, hP0, oprF, if_neg (by omega), if_pos c7.2, List.append_nil]
      rfl
    rw [if_neg c7]
    intro e
    exact absurd (show (i : Int) = -1 from e) (by omega)
theorem em_eq {c : Nat → Int} {n : Nat} (hc : ∀ j, j < n → 0 ≤ c j) (h : (rd c n).1 = -1) : emF c n n 0 true = (rd c n).2.map zN :=
  ((em_rd hc (n + 1) n (0, 0, 0, [], []) [] 0 (by omega) (by omega) (by omega) rfl trivial h).trans rfl).symm
