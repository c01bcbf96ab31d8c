theorem VR_i {n : Nat} {x : Int} (h : ir x) : VR n (iv x) := ⟨fun _ => h, fun q => absurd (show (0 : Nat) = 1 from q) (by decide)⟩
theorem VR_r {n : Nat} {x : Int} (h : x < (n : Int)) : VR n (rv x) := ⟨fun q => absurd (show (1 : Nat) = 0 from q) (by decide), fun _ => h⟩
theorem VR_o {n : Nat} {v : AV} (h0 : v.1 ≠ 0) (h1 : v.1 ≠ 1) : VR n v := ⟨fun q => absurd q h0, fun q => absurd q h1⟩
theorem VR.mono {n k : Nat} {v : AV} (h : VR n v) (hk : n ≤ k) : VR k v := ⟨h.1, fun q => by have := h.2 q; omega⟩
theorem SR.mono {n k : Nat} {S : List AV} (h : SR n S) (hk : n ≤ k) : SR k S := fun v hv => (h v hv).mono hk
theorem SR_c {n : Nat} {v : AV} {S : List AV} (h : VR n v) (hS : SR n S) : SR n (v :: S) := fun w hw => (List.mem_cons.mp hw).elim (fun e => by rw [e]; exact h) (hS w)
theorem SR_t {n : Nat} {v : AV} {S : List AV} (hS : SR n (v :: S)) : SR n S := fun w hw => hS w (List.mem_cons_of_mem _ hw)
theorem SR_h {n : Nat} {v : AV} {S : List AV} (hS : SR n (v :: S)) : VR n v := hS v List.mem_cons_self
theorem SR_hi {n : Nat} {x : Int} {S : List AV} (hS : SR n (iv x :: S)) : ir x := (SR_h hS).1 rfl
theorem SR_0 {n : Nat} : SR n [] := fun _ h => nomatch h
theorem ir_b {x : Int} (h : -32768 ≤ x) (h2 : x ≤ 32767) : ir x := by unfold ir; omega
theorem av_cat {φ : Nat → Nat} {v : AV} (h2 : v.1 ≠ 2) (h4 : v.1 ≠ 4) : (av_c φ v).category = 1 := by
  obtain ⟨t, x⟩ := v
  unfold av_c
  split <;> first | rfl | (split <;> rfl) | (rename_i e; exact absurd (congrArg Prod.fst e) (by first | exact h2 | exact h4))
theorem av_catle {φ : Nat → Nat} (v : AV) : (av_c φ v).category ≤ 2 := by
  rcases lv_cat (av_c φ v) with h | h <;> omega
theorem av_sum {φ : Nat → Nat} (S : List AV) : ((S.map (av_c φ)).map fun v => v.category).sum ≤ 2 * S.length := by
  induction S with
  | nil => simp
  | cons v S ih =>
    have := av_catle (φ := φ) v
    simp only [List.map_cons, List.sum_cons, List.length_cons]
    omega
theorem av_φ {φ φ' : Nat → Nat} {n : Nat} (hφ : ∀ a, a < n → φ' a = φ a) {v : AV} (hv : VR n v) : av_c φ' v = av_c φ v := by
  obtain ⟨t, x⟩ := v
  unfold av_c
  split <;> first | rfl | skip
  split
  · rfl
  · rename_i y e h
    have h1 : t = 1 := congrArg Prod.fst e
    have h2 : x = y := congrArg Prod.snd e
    have h3 := hv.2 h1
    rw [hφ _ (by simp only at h3; omega)]
theorem av_φS {φ φ' : Nat → Nat} {n : Nat} (hφ : ∀ a, a < n → φ' a = φ a) {S : List AV} (hS : SR n S) : S.map (av_c φ') = S.map (av_c φ) := List.map_congr_left fun v hv => av_φ hφ (hS v hv)
theorem ofI_t {x : Int} (h : ir x) : (Int32.ofInt x).toInt = x := Int32.toInt_ofInt_of_le h.1 (by have := h.2; omega)
theorem ofI_c {x : Int} (h : ir x) : (Int32.ofInt x).toNatClampNeg = x.toNat := Int32.toNatClampNeg_ofInt_of_le h.1 (by have := h.2; omega)
theorem ofI_lt {x y : Int} (hx : ir x) (hy : ir y) : Int32.ofInt x < Int32.ofInt y ↔ x < y := by rw [Int32.lt_iff_toInt_lt, ofI_t hx, ofI_t hy]
theorem ofI_le {x y : Int} (hx : ir x) (hy : ir y) : Int32.ofInt x ≤ Int32.ofInt y ↔ x ≤ y := by rw [Int32.le_iff_toInt_le, ofI_t hx, ofI_t hy]
theorem ofI_eq {x y : Int} (hx : ir x) (hy : ir y) : Int32.ofInt x = Int32.ofInt y ↔ x = y := by rw [← Int32.toInt_inj, ofI_t hx, ofI_t hy]
theorem ofI_in {x : Int} {n : Nat} (h0 : 0 ≤ x) (h : x < (n : Int)) (hr : ir x) : vp_in (Int32.ofInt x) n := vp_in_iff.mpr ⟨by rw [ofI_t hr]; exact h0, by rw [ofI_t hr]; exact h⟩
theorem ir_0 : ir 0 := by unfold ir; omega
/-- the locals -/
def lA (φ : Nat → Nat) : Nat → List AV → List (Nat × Value)
  | _, [] => []
  | i, v :: L => if v.1 = 9 then lA φ (i + 1) L else (i, av_c φ v) :: lA φ (i + 1) L
theorem lA_mem {φ : Nat → Nat} {q : Nat × Value} : ∀ {L : List AV} {i : Nat}, q ∈ lA φ i L ↔ ∃ (k : Nat) (v : AV), L[k]? = some v ∧ v.1 ≠ 9 ∧ q = (i + k, av_c φ v)
  | [], i => by simp [lA]
  | v :: L, i => by
    unfold lA
    constructor
    · intro h
      by_cases h9 : v.1 = 9
      · rw [if_pos h9] at h
        obtain ⟨k, w, h1, h2, h3⟩ := lA_mem.mp h
        exact ⟨k + 1, w, by simpa using h1, h2, by rw [h3]; congr 1; omega⟩
      · rw [if_neg h9] at h
        rcases List.mem_cons.mp h with h | h
        · exact ⟨0, v, rfl, h9, h⟩
        · obtain ⟨k, w, h1, h2, h3⟩ := lA_mem.mp h
          exact ⟨k + 1, w, by simpa using h1, h2, by rw [h3]; congr 1; omega⟩
    · rintro ⟨k, w, h1, h2, h3⟩
      cases k with
      | zero =>
        have e : v = w := by simpa using h1
        subst e
        rw [if_neg h2, h3]
        exact List.mem_cons_self
      | succ k =>
        have h4 : q ∈ lA φ (i + 1) L := lA_mem.mpr ⟨k, w, by simpa using h1, h2, by rw [h3]; congr 1; omega⟩
        split
        · exact h4
        · exact List.mem_cons_of_mem _ h4
def LSv (φ : Nat → Nat) (L : List AV) (ls : Array Slot) (nL : Nat) : Prop := lv_has ls nL (lA φ 0 L)
theorem LSv.at {φ : Nat → Nat} {L : List AV} {ls : Array Slot} {nL : Nat} (h : LSv φ L ls nL) {i : Nat} {v : AV} (hi : L[i]? = some v) (h9 : v.1 ≠ 9) : ls[i]? = some (.val (av_c φ v)) :=
  h.2.2 (i, av_c φ v) (lA_mem.mpr ⟨i, v, hi, h9, by simp⟩)
theorem LSv.mv {φ φ' : Nat → Nat} {n : Nat} {L : List AV} {ls : Array Slot} {nL : Nat} (h : LSv φ L ls nL) (hφ : ∀ a, a < n → φ' a = φ a) (hL : SR n L) : LSv φ' L ls nL := by
  refine ⟨h.1, h.2.1, fun q hq => ?_⟩
  obtain ⟨i, v, h1, h2, h3⟩ := lA_mem.mp hq
  rw [h3, av_φ hφ (hL v (List.mem_of_getElem? h1))]
  exact h.2.2 _ (lA_mem.mpr ⟨i, v, h1, h2, rfl⟩)
def catok (L : List AV) (i : Nat) : Bool := match i with
  | 0 => true
  | k + 1 => match L[k]? with
    | some v => v.1 != 2 && v.1 != 4
    | none => true
theorem LSv.set {φ : Nat → Nat} {L : List AV} {ls' : Array Slot} {nL i : Nat} {v' : AV} {w : Value} (hc : catok L i = true) (hw : v'.1 = 9 ∨ av_c φ v' = w)
    (h' : lv_has ls' nL ((i, w) :: (lA φ 0 L).filter (fun q => !(q.1 == i) && !(q.1 + 1 == i && q.2.category == 2)))) : LSv φ (L.set i v') ls' nL := by
  refine ⟨h'.1, h'.2.1, fun q hq => ?_⟩
  obtain ⟨k, u, h1, h2, h3⟩ := lA_mem.mp hq
  rw [Nat.zero_add] at h3
  by_cases hk : k = i
  · subst hk
    rw [List.getElem?_set] at h1
    simp only [if_true] at h1
    split at h1
    · cases h1
      rcases hw with hw | hw
      · exact absurd hw h2
      · rw [h3, hw]
        exact h'.2.2 _ List.mem_cons_self
    · cases h1
  · rw [List.getElem?_set_ne (fun e => hk e.symm)] at h1
    refine h'.2.2 q (List.mem_cons_of_mem _ (List.mem_filter.mpr ⟨lA_mem.mpr ⟨k, u, h1, h2, by rw [Nat.zero_add]; exact h3⟩, ?_⟩))
    rw [h3]
    have h5 : ¬ (k + 1 = i ∧ (av_c φ u).category = 2) := by
      rintro ⟨rfl, h6⟩
      simp only [catok, h1, Bool.and_eq_true, bne_iff_ne, ne_eq] at hc
      have := av_cat (φ := φ) hc.1 hc.2
      omega
    simp only [Bool.and_eq_true, Bool.not_eq_true', beq_eq_false_iff_ne, ne_eq, Bool.and_eq_false_iff]
    refine ⟨hk, ?_⟩
    by_cases h7 : k + 1 = i
    · exact Or.inr fun h8 => h5 ⟨h7, h8⟩
    · exact Or.inl h7
theorem SR.set {n : Nat} {L : List AV} {i : Nat} {v : AV} (h : SR n L) (hv : VR n v) : SR n (L.set i v) := fun w hw => by
  rcases List.mem_or_eq_of_mem_set hw with h1 | h1
  · exact h w h1
  · rw [h1]; exact hv
theorem VR_9 {n : Nat} {x : Int} : VR n ((9, x) : AV) := VR_o (show (9 : Nat) ≠ 0 by decide) (show (9 : Nat) ≠ 1 by decide)
theorem t09 {x : Int} : (iv x).1 ≠ 9 := (by decide : (0 : Nat) ≠ 9)
theorem t19 {x : Int} : (rv x).1 ≠ 9 := (by decide : (1 : Nat) ≠ 9)
/-- words on the tables that calls and throws take beside gw -/
def nwOk : Cond → Bool
  | .fieldLinkNest .. => true
  | .methodLinkNest .. => true
  | .castable .. => true
  | .declares .. => true
  | _ => false
theorem nw_warm {w : Cond} (h : nwOk w = true) {s U : State} (hW : s.WarmedH U.vm) (hZ : va_Nw w s) : va_Nw w U := by
  cases w <;> first | exact Bool.noConfusion (show false = true from h) | exact va_Nw.warmF hW hZ | exact va_Nw.warmM hW hZ | exact va_Nw.warmC hW hZ | exact va_Nw.warmD hW hZ
theorem nw_tab {w : Cond} (h : nwOk w = true) : w.onTables = true := by
  cases w <;> first | exact Bool.noConfusion (show false = true from h) | rfl
/-- which exception a thrown number is -/
def xn (k : Int) : String := if k = 0 then "java/lang/IllegalArgumentException" else if k = 1 then "java/lang/UnsupportedOperationException" else if k = 2 then "java/lang/IndexOutOfBoundsException" else if k = 3 then "java/util/NoSuchElementException" else if k = 4 then "java/lang/IllegalStateException" else "java/lang/ArithmeticException"
theorem va_AOA.moved {t : FieldType} {u U : State} (hvm : u.vm.Alike U.vm) (h : va_AOA t u) : va_AOA t U := by
  unfold va_AOA Cond.before at h ⊢
  simp only [Cond.holds, Cond.value, beq_iff_eq] at h
  cases hc : u.vm.findClass (FieldType.array t).toString with
  | none => simp [hc] at h
  | some comp =>
    simp only [hc, Option.bind_some, Option.bind_eq_some_iff, Option.map_eq_some_iff] at h
    obtain ⟨c, h2, k, h3, h4⟩ := h
    obtain ⟨k', hk', he⟩ := hvm.2.2 _ _ h3
    have b1 := va_idx_bare U.vm comp
    have hb : U.vm.bare = u.vm.bare := by first | exact hvm.bare_eq | exact hvm.bare_eq.symm
    rw [hb] at b1
    have hi := (b1.symm.trans (va_idx_bare u.vm comp)).trans h2
    have hkind : k'.kind = k.kind := by rw [he]
    have f1 : U.vm.findClass (FieldType.array t).toString = some comp := by rw [hvm.findClass]; exact hc
    cases hkd : k.kind with
    | array component ty =>
      rw [hkd] at h4
      simp only [Bool.and_eq_true, decide_eq_true_eq] at h4
      have f2 : U.vm.findClass ("[" ++ (FieldType.array t).toString) = some c := by rw [hvm.findClass]; exact h4.2
      unfold Cond.holds
      simp only [Cond.value]
      rw [f1, Option.bind_some]
      refine (congrArg (fun o : Option Nat => (o.bind (fun c => (U.vm.classes[c]?).map fun (k : Class) => match k.kind with | .array _ ty => decide (ty = FieldType.array t) && decide (U.vm.findClass ("[" ++ (FieldType.array t).toString) = some c) | _ => false) == some true)) hi).trans ?_
      simp [hk', hkind, hkd, h4.1, f2]
    | _ => rw [hkd] at h4; simp at h4
/-- two statics of the JDK: what is called for an index out of its bounds, and the row of digits -/
def SXs (A : Nat → Prop) (U : State) (H : Heap) : Prop := vx_Zq "jdk/internal/util/Preconditions" "SIOOBE_FORMATTER" "Ljava/util/function/BiFunction;" A U H ∧ ∃ t : Nat, va_Z "java/lang/Integer" "DigitOnes" "[B" (.ref t) A U H ∧ va_T .byte t 100 (fun j => .int (Int32.ofNat (48 + j % 10))) A U H
def NCs (A : Nat → Prop) (U : State) (H : Heap) : Prop := (∀ i j : Nat, i < 6 → j < 6 → i ≠ j → va_Nc (xn i) (xn j) U) ∧ (∀ C ∈ ["TypeTutor$Shape", "TypeTutor$State", "TypeTutor$Term"], va_AO C U) ∧ va_AOA .int U ∧ SXs A U H
theorem NCs.to {A : Nat → Prop} {u U : State} {H H1 : Heap} (ha : u.vm.Alike U.vm) (hq : ∀ q : Nat, q < H.size → ¬ A q → H1[q]? = H[q]?) (h : NCs A u H) : NCs A U H1 := by
  obtain ⟨t, h1, h2⟩ := h.2.2.2.2
  exact ⟨fun i j hi hj hn => va_Nc.moved ha (h.1 i j hi hj hn), fun C hC => va_AO.moved ha (h.2.1 C hC), va_AOA.moved ha h.2.2.1, (vx_Zq.moved ha h.2.2.2.1).kept hq, t, va_Z.kept (va_Z.moved ha h1) hq, va_T.kept (va_T.moved ha h2) hq⟩
/-- what the statics and the texts are, in every state of the run -/
def GS (base : Nat) (scr : SC) (U : State) (H : Heap) : Prop :=
  (vx_Zq Bundle.tN "UNASSIGNED_STACK" Bundle.steD (fun q => base ≤ q) U H ∧ vx_Zq Bundle.tN "SUPPRESSED_SENTINEL" Bundle.listD (fun q => base ≤ q) U H ∧
  va_Z "java/lang/String" "COMPACT_STRINGS" "Z" (.int 1) (fun q => base ≤ q) U H ∧ NCs (fun q => base ≤ q) U H) ∧
  (va_X scr.1 scr.2.1 scr.2.2 U H ∧ scr.1 < base ∧ scr.1 < H.size) ∧ (∀ w ∈ lw_tbl, nwOk w = true → va_Nw w U) ∧ ∀ q ∈ txts, ∃ a, vk_R q.1 q.2.1 q.2.2 a U
theorem GS.to {base : Nat} {scr : SC} {s U : State} {H H1 : Heap} (h : GS base scr s H) (hW : s.WarmedH U.vm) (hz : H.size ≤ H1.size) (hq : ∀ q : Nat, q < H.size → ¬ base ≤ q → H1[q]? = H[q]?) : GS base scr U H1 := by
  obtain ⟨⟨h1, h2, h3, h9⟩, ⟨h4, h5, h6⟩, h7, h8⟩ := h
  have ha := hW.alike
  exact ⟨⟨(vx_Zq.moved ha h1).kept hq, (vx_Zq.moved ha h2).kept hq, va_Z.kept (va_Z.moved ha h3) hq, NCs.to ha hq h9⟩, ⟨(va_X.moved ha h4).kept (hq _ h6 (by omega)), h5, by omega⟩,
    fun w hw hn => nw_warm hn hW (h7 w hw hn), fun q hq => (h8 q hq).imp fun a h => h.warm hW⟩
/-- the state of a walk -/
def CX (M : MD) (d : Nat) (p : Program) (l : Launch) (R : Room) (s : State) (m : MethodId) (args : Array Value) (meth : Method) (c : Code) (D : va_G) (base : Nat) (scr : SC) : Prop :=
  p.tables.exec = Jvm.exec ∧ c.code = M.cc ∧ meth.sig.returnType = M.rt ∧ c.maxLocals = M.ml ∧ s.vm.findClass M.y.cls = some m.cls ∧ (∀ w ∈ gw, w.before args s = true) ∧ meth.locks = false ∧ l.stackTraces = false ∧
  (c.exceptionTable.toList = tableOf M.hh ∧ M.ok scr) ∧ meth.name = M.y.name ∧ va_K D vwCl [] s ∧ base ≤ s.heap.size ∧ GS base scr s s.heap ∧ d + 8 ≤ R.frames ∧ 64 * d + 200 ≤ R.locals
def RQ (D : va_G) (base : Nat) (H0 : Heap) (s : State) (φ : Nat → Nat) (cA : Nat → ClassId) (h : AH) (H : Heap) : Prop :=
  va_P D vwCl (wl φ cA h) H ∧ va_D (fun q => base ≤ q) (wl φ cA h) ∧ (H0.size ≤ H.size ∧ ∀ q : Nat, q < H0.size → ¬ base ≤ q → H[q]? = H0[q]?) ∧ ∀ a, a < h.n → 100 ≤ (h.kd a).1 → va_K D vwCl [(cA a, aty (h.kd a).1)] s
def RP (D : va_G) (base : Nat) (s : State) (φ : Nat → Nat) (cA : Nat → ClassId) (h : AH) (H : Heap) (locs : List Loc) : Prop := RQ D base s.heap s φ cA h H ∧ ∀ q ∈ locs, base ≤ q.base
theorem RP.S {D : va_G} {base : Nat} {s : State} {φ : Nat → Nat} {cA : Nat → ClassId} {h : AH} {H : Heap} {locs : List Loc} (P : RP D base s φ cA h H locs) : va_S (fun q => base ≤ q) s.heap H locs := ⟨P.1.2.2.1.1, P.1.2.2.1.2, P.2⟩
def ro (φ : Nat → Nat) (o : AV) : Option Value := if o.1 = 8 then none else some (av_c φ o)
/-- what a walk's end must give -/
def QK (base : Nat) (D : va_G) (s : State) (args : Array Value) (φ : Nat → Nat) (n : Nat) (o : AV) (h' : AH) (Qc : Array Value → State → Outcome → State → Prop) (XC : String → State → State → Prop) : Prop :=
  ∀ (φ' : Nat → Nat) (cA' : Nat → ClassId) (t : State), (∀ a, a < n → φ' a = φ a) → s.vm.Alike t.vm → RQ D base s.heap t φ' cA' h' t.heap → (o.1 ≠ 7 → Qc args s (.returned (ro φ' o)) t) ∧ (o.1 = 7 → XC (xn o.2) s t)
theorem QK.mv {base : Nat} {D : va_G} {s : State} {args : Array Value} {φ φ' : Nat → Nat} {n k : Nat} {o : AV} {h' : AH} {Qc : Array Value → State → Outcome → State → Prop} {XC : String → State → State → Prop} (h : QK base D s args φ n o h' Qc XC) (hφ : ∀ a, a < n → φ' a = φ a) (hk : n ≤ k) : QK base D s args φ' k o h' Qc XC :=
  fun ψ cA t h1 => h ψ cA t (fun a ha => (h1 a (by omega)).trans (hφ a ha))
def EX (M : MD) (d pc : Nat) (L S : List AV) (h : AH) (o : AV) (h' : AH) : Prop :=
  (h.n ≤ h'.n ∧ h.cs ≤ h'.cs ∧ h.ss ≤ h'.ss ∧ RGh h' ∧ VR h'.n o) ∧
  ∀ (p : Program) (l : Launch) (e : Env) (R : Room) (s : State) (m : MethodId) (args : Array Value) (below : List Frame) (meth : Method) (c : Code) (D : va_G) (base : Nat) (scr : SC) (φ : Nat → Nat) (cA : Nat → ClassId) (H : Heap) (locs : List Loc) (ls : Array Slot) (x0 y0 : Nat) (Qc : Array Value → State → Outcome → State → Prop) (XC : String → State → State → Prop),
    CX M d p l R s m args meth c D base scr → x0 ≤ h.cs → y0 ≤ h.ss → h'.cs - x0 ≤ R.cells → h'.ss - y0 ≤ R.slots →
    RP D base s φ cA h H locs → LSv φ L ls M.ml → QK base D s args φ h.n o h' Qc XC →
    W p l e R s m args below meth c H locs (h.cs - x0) (h.ss - y0) (vx_MQ below Qc XC args s (h'.cs - x0) (h'.ss - y0) (fun q => base ≤ q)) (F0 m pc ls (S.map (av_c φ)))
/-- from here the method ends, in an outcome and a heap with Q -/
def EV (M : MD) (d pc : Nat) (L S : List AV) (h : AH) (Q : AV → AH → Prop) : Prop := SR h.n L → SR h.n S → RGh h → ∃ o h', Q o h' ∧ EX M d pc L S h o h'
section EvA
variable {M : MD} {d pc : Nat} {L S : List AV} {h : AH} {Q : AV → AH → Prop}
theorem ev_rng (k : SR h.n L → SR h.n S → RGh h → EV M d pc L S h Q) : EV M d pc L S h Q := fun a b c => k a b c a b c
theorem ev_mono {Q' : AV → AH → Prop} (k : EV M d pc L S h Q') (hq : ∀ o h', Q' o h' → Q o h') : EV M d pc L S h Q := fun a b c => by
  obtain ⟨o, h', q, x⟩ := k a b c
  exact ⟨o, h', hq o h' q, x⟩
/-- an instruction that touches the operand stack alone -/
theorem ev_pure {pc' : Nat} {S' : List AV} (k : EV M d pc' L S' h Q) (hs : SR h.n L → SR h.n S → RGh h → SR h.n S')
    (st : ∀ {p : Program} {l : Launch} {e : Env} {R : Room} {s : State} {m : MethodId} {args : Array Value} {below : List Frame} {meth : Method} {c : Code} {D : va_G} {base : Nat} {scr : SC} {φ : Nat → Nat} {cA : Nat → ClassId} {H : Heap} {locs : List Loc} {ls : Array Slot} {cells slots : Nat} {Q : State → Prop},
      SR h.n L → SR h.n S → RGh h → CX M d p l R s m args meth c D base scr → RP D base s φ cA h H locs → LSv φ L ls M.ml → W p l e R s m args below meth c H locs cells slots Q (F0 m pc' ls (S'.map (av_c φ))) → W p l e R s m args below meth c H locs cells slots Q (F0 m pc ls (S.map (av_c φ)))) : EV M d pc L S h Q := by
  intro hL hS hR
  obtain ⟨o, h', q, x⟩ := k hL (hs hL hS hR) hR
  refine ⟨o, h', q, x.1, ?_⟩
  intro p l e R s m args below meth c D base scr φ cA H locs ls x0 y0 Qc XC C h1 h2 h3 h4 hP hl hQ
  exact st hL hS hR C hP hl (x.2 p l e R s m args below meth c D base scr φ cA H locs ls x0 y0 Qc XC C h1 h2 h3 h4 hP hl hQ)
/-- an instruction that stores into a local, one slot wide -/
theorem ev_st {pc' i : Nat} {v : AV} (k : EV M d pc' (L.set i v) S h Q) (hv : SR h.n L → SR h.n (v :: S) → VR h.n v) (hi : i < M.ml) (hc : catok L i = true) {S0 : List AV} (hS0 : SR h.n S0 → SR h.n (v :: S))
    (st : ∀ {p : Program} {l : Launch} {e : Env} {R : Room} {s : State} {m : MethodId} {args : Array Value} {below : List Frame} {meth : Method} {c : Code} {D : va_G} {base : Nat} {scr : SC} {φ : Nat → Nat} {H : Heap} {locs : List Loc} {ls : Array Slot} {cells slots : Nat} {Q : State → Prop},
      SR h.n L → SR h.n S0 → CX M d p l R s m args meth c D base scr → LSv φ L ls M.ml → (∀ ls' : Array Slot, lv_has ls' M.ml ((i, av_c φ v) :: (lA φ 0 L).filter (fun q => !(q.1 == i) && !(q.1 + 1 == i && q.2.category == 2))) → W p l e R s m args below meth c H locs cells slots Q (F0 m pc' ls' (S.map (av_c φ)))) → W p l e R s m args below meth c H locs cells slots Q (F0 m pc ls (S0.map (av_c φ)))) : EV M d pc L S0 h Q := by
  intro hL hS1 hR
  have hS := hS0 hS1
  obtain ⟨o, h', q, x⟩ := k (hL.set (hv hL hS)) (SR_t hS) hR
  refine ⟨o, h', q, x.1, ?_⟩
  intro p l e R s m args below meth c D base scr φ cA H locs ls x0 y0 Qc XC C h1 h2 h3 h4 hP hl hQ
  exact st hL hS1 C hl (fun ls' h' => x.2 p l e R s m args below meth c D base scr φ cA H locs ls' x0 y0 Qc XC C h1 h2 h3 h4 hP (LSv.set hc (Or.inr rfl) h') hQ)
theorem ev_iconst {n : Int} (hd : decode M.cc pc = .ok (.iconst n, 1)) (k : EV M d (pc + 1) L (iv n :: S) h Q) (hr : ir n := by unfold ir; omega) : EV M d pc L S h Q :=
  ev_pure k (fun _ hS _ => SR_c (VR_i hr) hS) (fun _ _ _ C _ _ k => lv_iconst C.1 C.2.1 hd rfl k)
end EvA
