/-! an abstract picture of the machine: values are numbers, the heap is numbered in the order of making -/
abbrev AV : Type := Nat × Int
abbrev iv (x : Int) : AV := (0, x)
abbrev rv (x : Int) : AV := (1, x)
abbrev uv : AV := (9, 0)
abbrev ov : AV := (8, 0)
abbrev xv (k : Int) : AV := (7, k)
def ir (x : Int) : Prop := -2147483648 ≤ x ∧ x ≤ 2147483647
def av_c (φ : Nat → Nat) (v : AV) : Value := match v with
  | (0, x) => .int (Int32.ofInt x)
  | (1, x) => if x < 0 then .null else .ref (φ x.toNat)
  | (2, x) => .long (Int64.ofInt x)
  | (3, x) => .float (UInt32.ofNat x.toNat)
  | (4, x) => .double (UInt64.ofNat x.toNat)
  | (5, x) => .ref x.toNat
  | _ => .null
/-- of which tag the slots of a kind are: kinds below 100 are the classes of vwCl, from 100 on arrays -/
def ktab : List (List Nat) := [[1, 0, 0, 0], [1, 1, 1, 1, 1, 1, 0, 0, 0, 0, 0, 0, 0, 0], [1, 0, 0], [1, 1, 1, 0], [0, 0, 1], [1, 0], [1, 1, 0, 0, 0], [1, 0], [1, 0, 1, 0], [1, 1, 1, 1, 0, 0, 1, 1, 1, 0, 1, 0, 1, 0, 0], [1, 1, 1, 1, 1, 1, 1, 1, 1, 1, 0, 0, 1],
  [0, 0, 0, 0, 0, 0, 0, 0, 0, 0, 0, 1, 1, 1, 1, 1, 1, 1, 1, 1, 1, 1, 1, 1, 1, 1, 1, 1, 1, 1, 1, 1, 1, 1, 0, 0, 0, 1, 1, 1, 1, 1, 1, 1, 1, 1, 1, 1, 1, 0, 0, 0, 0, 0, 0, 0, 1, 1, 1, 0, 0, 1, 1, 1, 1, 1, 1, 1, 0, 0, 1, 0, 1, 0, 0, 0, 0, 0, 1, 1, 0, 0]]
def kt (c j : Nat) : Nat := if c < 100 then (ktab.getD c []).getD j 0 else if c = 102 then 2 else if c = 103 then 4 else if c < 104 then 0 else 1
def kz (k : Nat × Nat) (j : Nat) : Int := if kt k.1 j = 1 then -1 else 0
def aty (c : Nat) : FieldType := if c = 100 then .int else if c = 101 then .byte else if c = 102 then .long else if c = 103 then .double else if c = 105 then .object "TypeTutor$Shape" else if c = 106 then .object "TypeTutor$State" else if c = 107 then .object "TypeTutor$Term" else .array .int
/-- the heap: how many cells, the kind of each (class or array, and its size), what its slots hold; cells and slots made so far -/
def AH : Type := Nat × (Nat → Nat × Nat) × (Nat → Nat → Int) × Nat × Nat
def AH.n (h : AH) : Nat := h.1
def AH.kd (h : AH) : Nat → Nat × Nat := h.2.1
def AH.vl (h : AH) : Nat → Nat → Int := h.2.2.1
def AH.cs (h : AH) : Nat := h.2.2.2.1
def AH.ss (h : AH) : Nat := h.2.2.2.2
def AH.put (h : AH) (a i : Nat) (x : Int) : AH := (h.n, h.kd, fun b j => if b = a ∧ j = i then x else h.vl b j, h.cs, h.ss)
def AH.row (h : AH) (a : Nat) (f : Nat → Int) : AH := (h.n, h.kd, fun b j => if b = a then f j else h.vl b j, h.cs, h.ss)
def AH.new (h : AH) (k : Nat × Nat) : AH := (h.n + 1, fun b => if b = h.n then k else h.kd b, fun b j => if b = h.n then kz k j else h.vl b j, h.cs + 1, h.ss + k.2)
def AH.thr (h : AH) : AH := (h.n, h.kd, h.vl, h.cs + 1, h.ss + 6)
theorem AH.put_n (h : AH) (a i : Nat) (x : Int) : (h.put a i x).n = h.n := rfl
theorem AH.put_kd (h : AH) (a i : Nat) (x : Int) : (h.put a i x).kd = h.kd := rfl
theorem AH.put_cs (h : AH) (a i : Nat) (x : Int) : (h.put a i x).cs = h.cs := rfl
theorem AH.put_ss (h : AH) (a i : Nat) (x : Int) : (h.put a i x).ss = h.ss := rfl
theorem AH.put_vl (h : AH) (a i : Nat) (x : Int) (b j : Nat) : (h.put a i x).vl b j = if b = a ∧ j = i then x else h.vl b j := rfl
theorem AH.row_n (h : AH) (a : Nat) (f : Nat → Int) : (h.row a f).n = h.n := rfl
theorem AH.row_kd (h : AH) (a : Nat) (f : Nat → Int) : (h.row a f).kd = h.kd := rfl
theorem AH.row_cs (h : AH) (a : Nat) (f : Nat → Int) : (h.row a f).cs = h.cs := rfl
theorem AH.row_ss (h : AH) (a : Nat) (f : Nat → Int) : (h.row a f).ss = h.ss := rfl
theorem AH.row_vl (h : AH) (a : Nat) (f : Nat → Int) (b j : Nat) : (h.row a f).vl b j = if b = a then f j else h.vl b j := rfl
theorem AH.new_n (h : AH) (k : Nat × Nat) : (h.new k).n = h.n + 1 := rfl
theorem AH.new_cs (h : AH) (k : Nat × Nat) : (h.new k).cs = h.cs + 1 := rfl
theorem AH.new_ss (h : AH) (k : Nat × Nat) : (h.new k).ss = h.ss + k.2 := rfl
theorem AH.new_kd (h : AH) (k : Nat × Nat) (b : Nat) : (h.new k).kd b = if b = h.n then k else h.kd b := rfl
theorem AH.new_vl (h : AH) (k : Nat × Nat) (b j : Nat) : (h.new k).vl b j = if b = h.n then kz k j else h.vl b j := rfl
theorem AH.thr_n (h : AH) : h.thr.n = h.n := rfl
theorem AH.thr_kd (h : AH) : h.thr.kd = h.kd := rfl
theorem AH.thr_vl (h : AH) : h.thr.vl = h.vl := rfl
theorem AH.thr_cs (h : AH) : h.thr.cs = h.cs + 1 := rfl
theorem AH.thr_ss (h : AH) : h.thr.ss = h.ss + 6 := rfl
def VR (n : Nat) (v : AV) : Prop := (v.1 = 0 → ir v.2) ∧ (v.1 = 1 → v.2 < (n : Int))
def SR (n : Nat) (S : List AV) : Prop := ∀ v ∈ S, VR n v
def RGh (h : AH) : Prop := ∀ a, a < h.n → ∀ j, VR h.n (kt (h.kd a).1 j, h.vl a j)
def aE (φ : Nat → Nat) (cA : ClassId) (k : Nat × Nat) (v : Nat → Int) : va_E :=
  if k.1 < 100 then .inr (k.1, (List.range k.2).map (fun j => av_c φ (kt k.1 j, v j)))
  else if k.1 = 102 then .inl (cA, k.2, .inr (.inl (fun j => Int64.ofInt (v j))))
  else if k.1 = 103 then .inl (cA, k.2, .inr (.inr (.inr (.inl (fun j => UInt64.ofNat (v j).toNat)))))
  else if k.1 < 104 then .inl (cA, k.2, .inl (fun j => Int32.ofInt (v j)))
  else .inl (cA, k.2, .inr (.inr (.inr (.inr (fun j => if v j < 0 then none else some (φ (v j).toNat))))))
def wl (φ : Nat → Nat) (cA : Nat → ClassId) (h : AH) : va_W := (List.range h.n).map (fun a => (φ a, aE φ (cA a) (h.kd a) (h.vl a)))
theorem wl_at {φ : Nat → Nat} {cA : Nat → ClassId} {h : AH} {a : Nat} (ha : a < h.n) : (wl φ cA h)[a]? = some (φ a, aE φ (cA a) (h.kd a) (h.vl a)) := by
  simp [wl, ha]
theorem wl_len {φ : Nat → Nat} {cA : Nat → ClassId} {h : AH} : (wl φ cA h).length = h.n := by simp [wl]
/-- the words that hold in every state -/
def gwx : List Cond := [.selects RJ4 yJ5_ensureCapacityInternal_d00df yJ5_ensureCapacityInternal_d00df, .selects RJ4 yJ5_newCapacity_0f7a4 yJ5_newCapacity_0f7a4]
def gw : List Cond := gwx ++ lw_tbl.filter goodWord
theorem gw_in {w : Cond} (h : w ∈ lw_tbl) (hg : goodWord w = true) : w ∈ gw := List.mem_append_right _ (List.mem_filter.mpr ⟨h, hg⟩)
theorem gw_g {w : Cond} (h : w ∈ gw) : goodWord w = true := (List.mem_append.mp h).elim (fun h => by
  have : gwx.all goodWord = true := rfl
  exact List.all_eq_true.mp this w h) (fun h => (List.mem_filter.mp h).2)
/-- the script that the law reads: its cell, its length, its numbers -/
abbrev SC : Type := Nat × Nat × (Nat → Int32)
/-- a method: its name, code, how many locals, what it returns, its table of handlers, what it asks of the script -/
abbrev MD : Type := MethodName × ByteArray × Nat × Option FieldType × List (Nat × Nat × Nat × Nat) × (SC → Prop)
def MD.y (M : MD) : MethodName := M.1
def MD.cc (M : MD) : ByteArray := M.2.1
def MD.ml (M : MD) : Nat := M.2.2.1
def MD.rt (M : MD) : Option FieldType := M.2.2.2.1
def MD.hh (M : MD) : List (Nat × Nat × Nat × Nat) := M.2.2.2.2.1
def MD.ok (M : MD) : SC → Prop := M.2.2.2.2.2
abbrev tt : SC → Prop := fun _ => True
/-- the texts of what is thrown: class, entry, text -/
def txts : List (String × Nat × String) := [("TypeTutor", 78, "the term has a fault"), ("TypeTutor", 92, "there are as many lessons as there can be"), ("TypeTutor", 114, "the lesson can't be dropped"), ("TypeTutor", 119, "the type can't be kept"), ("TypeTutor", 124, "the capital can't be emptied"), ("TypeTutor", 137, "there is no such number of a node"), ("TypeTutor", 144, "an application has no sign"), ("TypeTutor", 147, "nothing binds this node"), ("TypeTutor", 149, "the node is neither a function nor a let"), ("TypeTutor", 158, "there is no such number of a failure"), ("TypeTutor", 160, "the lesson has a type"), ("TypeTutor", 186, "the second way goes through too many nodes"), ("TypeTutor", 208, "the lessons do not fit"), ("TypeTutor", 227, "no lesson has a type"), ("TypeTutor", 232, "there is no such place"), ("TypeTutor", 234, "no such character can be appended"), ("TypeTutor", 239, "the input is full"), ("TypeTutor", 248, "the text has a fault"), ("TypeTutor", 267, "an order is refused"), ("TypeTutor", 269, "the depth is neither 0 nor 1"), ("TypeTutor", 274, "there is no such reason"), ("TypeTutor", 286, "the capital keeps nothing"), ("TypeTutor", 294, "there is no such character"), ("TypeTutor", 320, "there is no such account"), ("TypeTutor", 325, "there are no lessons"), ("TypeTutor", 327, "there is no change to undo"), ("TypeTutor", 336, "nothing was saved"), ("TypeTutor", 358, "there is no such lesson"), ("TypeTutor", 363, "there is no such node"), ("TypeTutor", 365, "there is no such number of a type"), ("TypeTutor", 367, "there is no such capital"), ("TypeTutor", 369, "the lesson has no type")]
