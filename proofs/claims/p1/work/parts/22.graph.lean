/-! pictures of the reference's loops over its rows -/
def upI (f : Nat → Int) (k : Nat) (x : Int) : Nat → Int := fun j => if j = k then x else f j
theorem upI_s {f : Nat → Int} {k : Nat} {x : Int} : upI f k x k = x := if_pos rfl
theorem upI_n {f : Nat → Int} {k j : Nat} {x : Int} (h : j ≠ k) : upI f k x j = f j := if_neg h
/-- all stays but rows A and the object's fields F -/
def KP (h h1 : AH) (A F : List Nat) : Prop := h1.n = h.n ∧ h1.kd = h.kd ∧ h1.cs = h.cs ∧ h1.ss = h.ss ∧ (∀ b, b ≠ 42 → b ∉ A → h1.vl b = h.vl b) ∧ ∀ j, j ∉ F → h1.vl 42 j = h.vl 42 j
theorem KP.rf {h : AH} {A F : List Nat} : KP h h A F := ⟨rfl, rfl, rfl, rfl, fun _ _ _ => rfl, fun _ _ => rfl⟩
theorem KP.tr {h h1 h2 : AH} {A F : List Nat} (a : KP h h1 A F) (b : KP h1 h2 A F) : KP h h2 A F :=
  ⟨b.1.trans a.1, b.2.1.trans a.2.1, b.2.2.1.trans a.2.2.1, b.2.2.2.1.trans a.2.2.2.1, fun c h h' => (b.2.2.2.2.1 c h h').trans (a.2.2.2.2.1 c h h'), fun j hj => (b.2.2.2.2.2 j hj).trans (a.2.2.2.2.2 j hj)⟩
theorem KP.wk {h h1 : AH} {A F A' F' : List Nat} (a : KP h h1 A F) (hA : ∀ x ∈ A, x ∈ A') (hF : ∀ x ∈ F, x ∈ F') : KP h h1 A' F' :=
  ⟨a.1, a.2.1, a.2.2.1, a.2.2.2.1, fun c h h' => a.2.2.2.2.1 c h (fun z => h' (hA c z)), fun j hj => a.2.2.2.2.2 j (fun z => hj (hF j z))⟩
theorem KP.pr {h h1 : AH} {A F : List Nat} (a : KP h h1 A F) {r i : Nat} {x : Int} (hr : r ∈ A) (h42 : r ≠ 42) : KP h (h1.put r i x) A F := by
  refine ⟨a.1, a.2.1, a.2.2.1, a.2.2.2.1, fun c hc h' => ?_, fun j hj => ?_⟩
  · rw [← a.2.2.2.2.1 c hc h']
    funext j
    rw [AH.put_vl, if_neg (fun z => h' (by rw [z.1]; exact hr))]
  · rw [AH.put_vl, if_neg (fun z => h42 z.1.symm)]
    exact a.2.2.2.2.2 j hj
theorem KP.pf {h h1 : AH} {A F : List Nat} (a : KP h h1 A F) {i : Nat} {x : Int} (hi : i ∈ F) : KP h (h1.put 42 i x) A F := by
  refine ⟨a.1, a.2.1, a.2.2.1, a.2.2.2.1, fun c hc h' => ?_, fun j hj => ?_⟩
  · rw [← a.2.2.2.2.1 c hc h']
    funext j
    rw [AH.put_vl, if_neg (fun z => hc z.1)]
  · rw [AH.put_vl, if_neg (fun z => hj (by rw [z.2]; exact hi))]
    exact a.2.2.2.2.2 j hj
theorem KP.vl {h h1 : AH} {A F : List Nat} (a : KP h h1 A F) {r : Nat} (h42 : r ≠ 42 := by decide) (hr : r ∉ A := by decide) : h1.vl r = h.vl r := a.2.2.2.2.1 r h42 hr
theorem KP.fl {h h1 : AH} {A F : List Nat} (a : KP h h1 A F) {j : Nat} (hj : j ∉ F := by decide) : h1.vl 42 j = h.vl 42 j := a.2.2.2.2.2 j hj
theorem KP.ri {h h1 : AH} {A F : List Nat} (a : KP h h1 A F) (hI : RI h) (hF : F.all (fun j => decide (j ∈ [0, 1, 2, 3, 4, 5, 6, 7, 8, 9, 10, 34, 35, 36, 49, 50, 51, 52, 53, 54, 55, 59, 60, 68, 69, 71, 73, 74, 75, 76, 77, 80, 81])) = true := by decide) : RI h1 := by
  refine hI.to (by rw [a.1]; exact Nat.le_refl _) (fun b _ _ => by rw [a.2.1]) (fun j => ?_)
  by_cases q : j ∈ F
  · exact Or.inr (by simpa using List.all_eq_true.mp hF j q)
  · exact Or.inl (a.2.2.2.2.2 j q)
theorem put_row (h : AH) (r i : Nat) (x : Int) : (h.put r i x).vl r = upI (h.vl r) i x := by
  funext j
  rw [AH.put_vl]
  unfold upI
  by_cases q : j = i <;> simp [q]
theorem put_ne (h : AH) {r i b : Nat} {x : Int} (hb : b ≠ r) : (h.put r i x).vl b = h.vl b := by
  funext j
  rw [AH.put_vl, if_neg (fun z => hb z.1)]
/-- the end of a chain of links -/
def rt (li : Nat → Int) : Nat → Nat → Nat
  | 0, t => t
  | k + 1, t => if li t < 0 then t else rt li k (li t).toNat
theorem rt_end {li : Nat → Int} {t : Nat} (h : li t < 0) : ∀ k, rt li k t = t
  | 0 => rfl
  | k + 1 => if_pos h
/-- a step of a walk over parts, those ahead that are in it -/
def turnP (so fr to : Nat → Int) (rr : Nat → Nat) (st : Int) : Nat → Nat → (Nat → Int) → (Nat → Int) → Option (Int × Nat × (Nat → Int) × (Nat → Int))
  | 0, _, _, _ => none
  | f + 1, n, stk, seen =>
    if seen (rr (stk (n - 1)).toNat) = st then some (-1, n - 1, stk, seen)
    else if so (rr (stk (n - 1)).toNat) = 2 ∧ seen (rr (fr (rr (stk (n - 1)).toNat)).toNat) ≠ st then turnP so fr to rr st f (n + 1) (upI stk n (rr (fr (rr (stk (n - 1)).toNat)).toNat)) seen
    else if so (rr (stk (n - 1)).toNat) = 2 ∧ seen (rr (to (rr (stk (n - 1)).toNat)).toNat) ≠ st then turnP so fr to rr st f (n + 1) (upI stk n (rr (to (rr (stk (n - 1)).toNat)).toNat)) seen
    else some (rr (stk (n - 1)).toNat, n - 1, stk, upI seen (rr (stk (n - 1)).toNat) st)
/-- the parts below N stand in range, and their chains of links end -/
def GW (so fr to li : Nat → Int) (N : Nat) (rr : Nat → Nat) : Prop := (∀ t, t < N → li t < (N : Int)) ∧ (∀ t, t < N → ∃ k, rt li k t = rr t ∧ li (rr t) < 0 ∧ rr t < N) ∧ ∀ t, t < N → so t = 2 → (0 ≤ fr t ∧ fr t < (N : Int)) ∧ 0 ≤ to t ∧ to t < (N : Int)
