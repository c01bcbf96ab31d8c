theorem RQ.at {D : va_G} {base : Nat} {H0 : Heap} {s t : State} {φ : Nat → Nat} {cA : Nat → ClassId} {h : AH} {H : Heap} (P : RQ D base H0 s φ cA h H) (ha : s.vm.Alike t.vm) : RQ D base H0 t φ cA h H :=
  ⟨P.1, P.2.1, P.2.2.1, fun a h1 h2 => (P.2.2.2 a h1 h2).moved ha⟩
theorem RQ.on {D : va_G} {base : Nat} {H0 : Heap} {s : State} {φ φ' : Nat → Nat} {cA cA' : Nat → ClassId} {h h' : AH} {H H1 : Heap} (P : RQ D base H0 s φ cA h H) (P1 : RQ D base H s φ' cA' h' H1) : RQ D base H0 s φ' cA' h' H1 :=
  ⟨P1.1, P1.2.1, ⟨Nat.le_trans P.2.2.1.1 P1.2.2.1.1, fun q h1 h2 => (P1.2.2.1.2 q (Nat.lt_of_lt_of_le h1 P.2.2.1.1) h2).trans (P.2.2.1.2 q h1 h2)⟩, P1.2.2.2⟩
section EvR
variable {M : MD} {d pc : Nat} {L S : List AV} {h : AH} {Q : AV → AH → Prop}
theorem ev_end {o : AV} (hq : Q o h) (ho : SR h.n L → SR h.n S → VR h.n o)
    (st : ∀ {p : Program} {l : Launch} {e : Env} {R : Room} {s : State} {m : MethodId} {args : Array Value} {below : List Frame} {meth : Method} {c : Code} {D : va_G} {base : Nat} {scr : SC} {φ : Nat → Nat} {H : Heap} {locs : List Loc} {ls : Array Slot} {cells slots : Nat} {Qc : Array Value → State → Outcome → State → Prop} {free : Addr → Prop},
      CX M d p l R s m args meth c D base scr → (∀ t : State, t.heap = H → s.WarmedH t.vm → Qc args s (.returned (ro φ o)) t) → (∀ q ∈ locs, free q.base) → W p l e R s m args below meth c H locs cells slots (MQ below Qc args s cells slots free) (F0 m pc ls (S.map (av_c φ)))) (h7 : o.1 ≠ 7) : EV M d pc L S h Q := by
  intro hL hS hR
  refine ⟨o, h, hq, ⟨Nat.le_refl _, Nat.le_refl _, Nat.le_refl _, hR, ho hL hS⟩, ?_⟩
  intro p l e R s m args below meth c D base scr φ cA H locs ls x0 y0 Qc XC C h1 h2 h3 h4 hP hl hQ
  exact vx_ret (st C (fun t ht hw => (hQ φ cA t (fun _ _ => rfl) hw.alike (by rw [ht]; exact hP.1.at hw.alike)).1 h7) hP.2)
theorem ev_iret {x : Int} (hd : decode M.cc pc = .ok (.ireturn, 1)) (hq : Q (iv x) h) (hr : M.rt = some .int := by rfl) : EV M d pc L [iv x] h Q :=
  ev_end hq (fun _ hS => SR_h hS) (fun C hQ hf => W.iret C.1 C.2.1 (C.2.2.1.trans hr) hQ hf hd C.2.2.2.2.2.2.1) (show (0 : Nat) ≠ 7 by decide)
theorem ev_zret {x : Int} (hd : decode M.cc pc = .ok (.ireturn, 1)) (hq : Q (iv x) h) (hx : x = 0 ∨ x = 1) (hr : M.rt = some .boolean := by rfl) : EV M d pc L [iv x] h Q :=
  ev_end hq (fun _ hS => SR_h hS) (fun C hQ hf => W.zret C.1 C.2.1 (C.2.2.1.trans hr) (by rcases hx with rfl | rfl <;> rfl) hQ hf hd C.2.2.2.2.2.2.1) (show (0 : Nat) ≠ 7 by decide)
theorem ev_cret {x : Int} (hd : decode M.cc pc = .ok (.ireturn, 1)) (hq : Q (iv x) h) (h0 : 0 ≤ x) (h9 : x < 65536) (hr : M.rt = some .char := by rfl) : EV M d pc L [iv x] h Q :=
  ev_end hq (fun _ hS => SR_h hS) (fun C hQ hf => W.zret C.1 C.2.1 (C.2.2.1.trans hr) (by
    have e : Int32.ofInt x = nI x.toNat := by rw [show nI x.toNat = Int32.ofInt (x.toNat : Int) from (Int32.ofInt_eq_ofNat).symm, show ((x.toNat : Nat) : Int) = x by omega]
    rw [e]
    exact (pk_charN (by omega)).1) hQ hf hd C.2.2.2.2.2.2.1) (show (0 : Nat) ≠ 7 by decide)
theorem ev_vret (hd : decode M.cc pc = .ok (.return_, 1)) (hq : Q ov h) (hr : M.rt = none := by rfl) : EV M d pc L [] h Q :=
  ev_end hq (fun _ _ => VR_o (show (8 : Nat) ≠ 0 by decide) (show (8 : Nat) ≠ 1 by decide)) (fun C hQ hf => W.vret C.1 C.2.1 (C.2.2.1.trans hr) hQ hf hd C.2.2.2.2.2.2.1) (show (8 : Nat) ≠ 7 by decide)
theorem ev_aret {x : Int} {rt : FieldType} (hd : decode M.cc pc = .ok (.areturn, 1)) (hq : Q (rv x) h) (hr : M.rt = some rt) (hrt : (∃ n, rt = .object n) ∨ ∃ t, rt = .array t) : EV M d pc L [rv x] h Q :=
  ev_end hq (fun _ hS => SR_h hS) (fun {p l e R s m args below meth c D base scr φ H locs ls cells slots Qc free} C hQ hf => W.aret C.1 C.2.1 (C.2.2.1.trans hr) hrt (by
    by_cases q : x < 0
    · exact Or.inl (show (if x < 0 then Value.null else .ref (φ x.toNat)) = _ from if_pos q)
    · exact Or.inr ⟨φ x.toNat, show (if x < 0 then Value.null else .ref (φ x.toNat)) = _ from if_neg q⟩) hQ hf hd C.2.2.2.2.2.2.1) (show (1 : Nat) ≠ 7 by decide)
end EvR
/-! contracts -/
theorem tbl_nil {T : List ExceptionTableEntry} (h : ∀ x ∈ T, False) : T = tableOf [] := by
  cases T with
  | nil => rfl
  | cons x T => exact (h x List.mem_cons_self).elim
theorem tbl_no {T : List ExceptionTableEntry} {hh : List (Nat × Nat × Nat × Nat)} (h : T = tableOf hh) (e : hh = []) : ∀ x ∈ T, False := by
  subst e
  intro x hx
  rw [h] at hx
  exact nomatch hx
/-- what the tables say of a method without handlers -/
def CD (M : MD) : Prop := Cond.code M.y M.cc M.ml M.rt ∈ gw ∧ Cond.initialized M.y.cls ∈ gw ∧ plainName M.y.cls = true ∧ (M.y.cls ≠ "java/lang/invoke/MethodHandle" ∧ M.y.cls ≠ "java/lang/invoke/VarHandle") ∧ M.hh = [] ∧ ∀ scr, M.ok scr
def PCc (D : va_G) (base : Nat) (scr : SC) (φ : Nat → Nat) (cA : Nat → ClassId) (as : List AV) (h : AH) : Array Value → State → Prop := va_Pc (as.map (av_c φ)) (fun U => va_K D vwCl [] U ∧ base ≤ U.heap.size ∧ GS base scr U U.heap ∧ RQ D base U.heap U φ cA h U.heap)
def QCc (D : va_G) (base : Nat) (φ : Nat → Nat) (n : Nat) (o : AV) (h' : AH) : Array Value → State → Outcome → State → Prop := fun _ st oc t => ∃ (φ' : Nat → Nat) (cA' : Nat → ClassId), (∀ a, a < n → φ' a = φ a) ∧ o.1 ≠ 7 ∧ oc = .returned (ro φ' o) ∧ RQ D base st.heap t φ' cA' h' t.heap
def XCc (D : va_G) (base : Nat) (φ : Nat → Nat) (n : Nat) (o : AV) (h' : AH) : String → State → State → Prop := fun E st t => ∃ (φ' : Nat → Nat) (cA' : Nat → ClassId), (∀ a, a < n → φ' a = φ a) ∧ o.1 = 7 ∧ E = xn o.2 ∧ RQ D base st.heap t φ' cA' h' t.heap
def rmOf (d c s : Nat) : Room := { frames := d + 8, cells := c, slots := s, locals := 64 * d + 200 }
def CT (M : MD) (d : Nat) (as : List AV) (h : AH) (o : AV) (h' : AH) : Prop :=
  (h.n ≤ h'.n ∧ h.cs ≤ h'.cs ∧ h.ss ≤ h'.ss ∧ RGh h' ∧ VR h'.n o) ∧
  ∀ (l : Launch) (D : va_G) (base : Nat) (scr : SC) (φ : Nat → Nat) (cA : Nat → ClassId), l.stackTraces = false →
    vx_Met l M.y (Cond.code M.y M.cc M.ml M.rt :: gw) (rmOf d (h'.cs - h.cs) (h'.ss - h.ss)) (PCc D base scr φ cA as h) (QCc D base φ h.n o h') (XCc D base φ h.n o h') (h'.cs - h.cs) (h'.ss - h.ss) (fun q => base ≤ q)
/-- the method, called with these in this heap, ends in an outcome and a heap with Q -/
def CV (M : MD) (d : Nat) (as : List AV) (h : AH) (Q : AV → AH → Prop) : Prop := SR h.n as → RGh h → ∃ o h', Q o h' ∧ CT M d as h o h'
theorem lA_args {φ : Nat → Nat} {k : Nat} {q : Nat × Value} : ∀ {as : List AV} {i : Nat}, (∀ v ∈ as, v.1 ≠ 2 ∧ v.1 ≠ 4) → q ∈ lA φ i (as ++ List.replicate k uv) → q ∈ lv_args i (as.map (av_c φ))
  | [], i, _, h => by
    obtain ⟨j, v, h1, h2, -⟩ := lA_mem.mp h
    rw [List.nil_append] at h1
    have := List.eq_of_mem_replicate (List.mem_of_getElem? h1)
    rw [this] at h2
    exact absurd rfl h2
  | v :: as, i, hc, h => by
    have hv := av_cat (φ := φ) (hc v List.mem_cons_self).1 (hc v List.mem_cons_self).2
    have ih := fun h' => lA_args (φ := φ) (k := k) (q := q) (as := as) (i := i + 1) (fun w hw => hc w (List.mem_cons_of_mem _ hw)) h'
    rw [List.map_cons]
    unfold lv_args
    rw [List.cons_append] at h
    unfold lA at h
    simp only [hv]
    split at h
    · exact List.mem_cons_of_mem _ (ih h)
    · rcases List.mem_cons.mp h with h | h
      · rw [h]; exact List.mem_cons_self
      · exact List.mem_cons_of_mem _ (ih h)
theorem lg_len {φ : Nat → Nat} : ∀ {as : List AV}, (∀ v ∈ as, v.1 ≠ 2 ∧ v.1 ≠ 4) → (lg_sl (as.map (av_c φ))).length = as.length
  | [], _ => rfl
  | v :: as, hc => by
    have hv := av_cat (φ := φ) (hc v List.mem_cons_self).1 (hc v List.mem_cons_self).2
    have ih := lg_len (φ := φ) (as := as) (fun w hw => hc w (List.mem_cons_of_mem _ hw))
    unfold lg_sl at ih ⊢
    rw [List.map_cons, List.flatMap_cons, List.length_append, ih, if_neg (by omega)]
    simp
    omega
theorem ls_entry {φ : Nat → Nat} {as : List AV} {n : Nat} (hc : ∀ v ∈ as, v.1 ≠ 2 ∧ v.1 ≠ 4) (hn : as.length ≤ n) : LSv φ (as ++ List.replicate (n - as.length) uv) ((lg_sl (as.map (av_c φ)) ++ List.replicate (n - (lg_sl (as.map (av_c φ))).length) Slot.unset).toArray) n := by
  have h := lv_entry (as.map (av_c φ)) (n := n) (by rw [lg_len hc]; exact hn)
  exact ⟨h.1, h.2.1, fun q hq => h.2.2 q (lA_args hc hq)⟩
theorem cv_of {M : MD} {d : Nat} {as : List AV} {h : AH} {Q : AV → AH → Prop} (hM : CD M) (k : EV M d 0 (as ++ List.replicate (M.ml - as.length) uv) [] h Q) (hn : as.length ≤ M.ml := by exact Nat.le_of_ble_eq_true rfl) (hc : as.all (fun v => v.1 != 2 && v.1 != 4) = true := by rfl) : CV M d as h Q := by
  intro hS hR
  have hc : ∀ v ∈ as, v.1 ≠ 2 ∧ v.1 ≠ 4 := fun v hv => by
    have := List.all_eq_true.mp hc v hv
    simpa [Bool.and_eq_true] using this
  obtain ⟨o, h', q, m, x⟩ := k (fun v hv => (List.mem_append.mp hv).elim (hS v) (fun hv => by rw [List.eq_of_mem_replicate hv]; exact VR_9)) SR_0 hR
  refine ⟨o, h', q, m, fun l D base scr φ cA htr => ?_⟩
  refine vx_ofW (cc := M.cc) (maxL := M.ml) (ret := M.rt) hM.2.2.1 rfl ?_
  intro p e s mm args below meth c s₁ B hml htb hP
  obtain ⟨rfl, hK, hbs, hG, hP⟩ := hP
  rw [lg_entry_eq]
  have hts := atoms_spec (ws := Cond.code M.y M.cc M.ml M.rt :: gw) B.pre
  have hx := x p l e (rmOf d (h'.cs - h.cs) (h'.ss - h.ss)) s mm _ below meth c D base scr φ cA s.heap [] _ h.cs h.ss (QCc D base φ h.n o h') (XCc D base φ h.n o h')
    ⟨B.exec, B.bytes, B.returns, hml, findClass_of_methodNamed B.named, fun w hw => hts w (List.mem_cons_of_mem _ hw), B.notSynchronized, htr, ⟨by rw [hM.2.2.2.2.1]; exact tbl_nil htb, hM.2.2.2.2.2 scr⟩, (name_of_methodNamed B.named B.method).1, hK, hbs, hG, Nat.le_refl _, Nat.le_refl _⟩
    (Nat.le_refl _) (Nat.le_refl _) (Nat.le_refl _) (Nat.le_refl _) ⟨hP, fun _ h => nomatch h⟩ (ls_entry hc hn)
    (fun φ' cA' t ag ha hq => ⟨fun h7 => ⟨φ', cA', ag, h7, rfl, hq⟩, fun h7 => ⟨φ', cA', ag, h7, rfl, hq⟩⟩)
  rw [Nat.sub_self, Nat.sub_self] at hx
  exact hx
