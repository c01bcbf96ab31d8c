/-! Math.floorMod: the class's name is not plain, but the method has no native row -/
section EvFm
variable {M : MD} {d pc : Nat} {L S : List AV} {h : AH} {Q : AV → AH → Prop}
def CDF (M : MD) : Prop := Cond.code M.y M.cc M.ml M.rt ∈ gw ∧ Cond.initialized M.y.cls ∈ gw ∧ plainFor M.y = true ∧ (M.y.cls ≠ "java/lang/invoke/MethodHandle" ∧ M.y.cls ≠ "java/lang/invoke/VarHandle") ∧ M.hh = [] ∧ ∀ scr, M.ok scr
theorem vx_ofF {l : Launch} {y : MethodName} {ws ws' : List Cond} {rm : Room} {Pc : Array Value → State → Prop} {Qc : Array Value → State → Outcome → State → Prop} {XC : String → State → State → Prop} {mc ms : Nat} {free : Addr → Prop} {cc : ByteArray} {maxL : Nat} {ret : Option FieldType}
    (hy : plainFor y = true) (hw : ws = Cond.code y cc maxL ret :: ws')
    (body : ∀ p e s m args below meth c s₁, BodyLoose p l y (headSpec ws rm) cc maxL ret e s m args below meth c s₁ → c.maxLocals = maxL → (∀ x ∈ c.exceptionTable.toList, False) → Pc args s →
      W p l e (headSpec ws rm).room s m args below meth c s.heap [] 0 0 (vx_MQ below Qc XC args s mc ms free) (entryFrame m args maxL)) : vx_Met l y ws rm Pc Qc XC mc ms free := by
  refine MetFree.of_bodySF (code := cc) (maxLocals := maxL) (ret := ret) hy ?_ ?_
  · intro args s m h hn
    obtain ⟨meth, c, h1, h2, h3, h4, h5, h6, -, -⟩ := Cond.code_spec hn (atoms_spec (ws := ws) h _ (by rw [hw]; exact List.mem_cons_self))
    exact ⟨meth, c, h1, h2, h3, h4, h5, h6⟩
  · intro p e s m args below meth c s₁ B hml hP _
    have hh0 : s₁.heap = s.heap := by rw [B.state]; rfl
    have ht : ∀ x ∈ c.exceptionTable.toList, False := by
      obtain ⟨meth9, c9, h1, h2, -, -, -, -, h7, -⟩ := Cond.code_spec B.named (atoms_spec (ws := ws) B.pre _ (by rw [hw]; exact List.mem_cons_self))
      cases Option.some.inj (h1.symm.trans B.method)
      cases Option.some.inj (h2.symm.trans (Stand.of_body B).code)
      intro x hx
      rw [Array.isEmpty_iff.mp h7] at hx
      cases hx
    obtain ⟨t, a1, o, b1, b2, b3⟩ := body p e s m args below meth c s₁ B hml ht hP s₁ hh0 (Stand.of_body B)
    exact ⟨t, o, a1, b1, b2, b3⟩
theorem cv_ofF {M : MD} {d : Nat} {as : List AV} {h : AH} {Q : AV → AH → Prop} (hM : CDF M) (k : EV M d 0 (as ++ List.replicate (M.ml - as.length) uv) [] h Q) (hn : as.length ≤ M.ml := by exact Nat.le_of_ble_eq_true rfl) (hc : as.all (fun v => v.1 != 2 && v.1 != 4) = true := by rfl) : CV M d as h Q := by
  intro hS hR
  have hc : ∀ v ∈ as, v.1 ≠ 2 ∧ v.1 ≠ 4 := fun v hv => by
    have := List.all_eq_true.mp hc v hv
    simpa [Bool.and_eq_true] using this
  obtain ⟨o, h', q, m, x⟩ := k (fun v hv => (List.mem_append.mp hv).elim (hS v) (fun hv => by rw [List.eq_of_mem_replicate hv]; exact VR_9)) SR_0 hR
  refine ⟨o, h', q, m, fun l D base scr φ cA htr => ?_⟩
  refine vx_ofF (cc := M.cc) (maxL := M.ml) (ret := M.rt) hM.2.2.1 rfl ?_
  intro p e s mm args below meth c s₁ B hml htb hP
  obtain ⟨rfl, hK, hbs, hG, hP⟩ := hP
  rw [lg_entry_eq]
  have hts := atoms_spec (ws := Cond.code M.y M.cc M.ml M.rt :: gw) B.pre
  have hx := x p l e (rmOf d (h'.cs - h.cs) (h'.ss - h.ss)) s mm _ below meth c D base scr φ cA s.heap [] _ h.cs h.ss (QCc D base φ h.n o h') (XCc D base φ h.n o h')
    ⟨B.exec, B.bytes, B.returns, hml, findClass_of_methodNamed B.named, fun w hw => hts w (List.mem_cons_of_mem _ hw), B.notSynchronized, htr, ⟨by rw [hM.2.2.2.2.1]; exact tbl_nil htb, hM.2.2.2.2.2 scr⟩, (name_of_methodNamed B.named B.method).1, hK, hbs, hG, Nat.le_refl _, Nat.le_refl _⟩
    (Nat.le_refl _) (Nat.le_refl _) (Nat.le_refl _) (Nat.le_refl _) ⟨hP, fun _ h => nomatch h⟩ (ls_entry hc hn)
    (fun φ' cA' t ag ha hq => ⟨fun h7 => ⟨φ', cA', ag, h7, rfl, hq⟩, fun h7 => ⟨φ', cA', ag, h7, rfl, hq⟩⟩)
  rw [Nat.sub_self, Nat.sub_self] at hx
  exact hx
theorem gw_goodF {M' : MD} (hM : CDF M') : GoodIn gw (Cond.code M'.y M'.cc M'.ml M'.rt :: gw) := by
  intro w hw
  have : w ∈ gw := (List.mem_cons.mp hw).elim (fun e => by rw [e]; exact hM.1) id
  exact ⟨this, good_of_word (gw_g this)⟩
theorem ev_callsF {idx n : Nat} {as st : List AV} {M' : MD} {d' : Nat} {Q1 : AV → AH → Prop} (hd : decode M.cc pc = .ok (.invokestatic idx, 3)) (hM : CDF M') (hml' : M'.ml ≤ 45) (hnp : (parseMethodDescriptor M'.y.desc).map (fun d => d.parameters.length) = some n) (hstt : Cond.static M'.y ∈ gw) (hg : Cond.methodLink M.y.cls idx M'.y ∈ gw) (hc : CV M' d' as h Q1) (hdd : d' < d) (hst : st = as.reverse ++ S) (hn : as.length = n) (hS : S.length ≤ 4) (hh : M.hh = [])
    (k : ∀ o h1, Q1 o h1 → (o.1 = 7 → Q o h1) ∧ (o.1 ≠ 7 → EV M d (pc + 3) L (pu o S) h1 Q)) : EV M d pc L st h Q := by
  refine ev_call hc hst hh k ?_
  intro p l e R s m args below meth c D base scr φ cA H locs ls cells slots o h1 C P hl ct q1 hcl hsl
  refine ⟨(as.map (av_c φ)).toArray, ?_⟩
  have C0 := C
  obtain ⟨hx, hb, hr, hml, hown, hts, hlo', htr, htb, hnm, hK, hbs, hG, hf, hlo⟩ := C
  have hMt := ct.2 l D base scr φ cA htr
  have hpre : PreS s H (PCc D base scr φ cA as h) (as.map (av_c φ)) := ⟨pc_blind, fun U hU hW => pc_at C0 P hU hW⟩
  subst hst
  exact vx_runS (cc := M.cc) (As := as.map (av_c φ)) ⟨hx, hb, hml, hown, hts⟩ hMt ⟨callB_of n hts (gw_goodF hM) rfl rfl rfl (hts _ hM.2.1) (hts _ hg) ⟨hM.2.2.2.1.1, hM.2.2.2.1.2, hnp⟩ ⟨by show d' + 8 + 1 ≤ R.frames; omega, by show 8 + (M'.ml + 11) + (64 * d' + 200) ≤ R.locals; omega⟩, hts _ hstt⟩ hpre rfl (by rw [List.length_map]; exact hn) hl.1 st_c (st_w hS) hd ⟨hcl, hsl⟩
def ixr (x y : Int) : Int := (Int32.ofInt x ^^^ Int32.ofInt y).toInt
theorem ixr_ir (x y : Int) : ir (ixr x y) := ⟨Int32.le_toInt _, by have := Int32.toInt_lt (Int32.ofInt x ^^^ Int32.ofInt y); unfold ixr; omega⟩
theorem ev_ixor {x y : Int} (hd : decode M.cc pc = .ok (.ixor, 1)) (k : EV M d (pc + 1) L (iv (ixr x y) :: S) h Q) : EV M d pc L (iv y :: iv x :: S) h Q :=
  ev_pure k (fun _ hS _ => SR_c (VR_i (ixr_ir x y)) (SR_t (SR_t hS))) (fun _ _ _ C _ _ k => lv_ixor C.1 C.2.1 hd (by
    have e : Int32.ofInt (ixr x y) = Int32.ofInt x ^^^ Int32.ofInt y := by unfold ixr; exact Int32.ofInt_toInt _
    rw [← e]; exact k))
end EvFm
theorem ev_irem1 {M : MD} {d pc : Nat} {L S : List AV} {h : AH} {Q : AV → AH → Prop} (hd : decode M.cc pc = .ok (.irem, 1)) (k : EV M d (pc + 1) L (iv (-1) :: S) h Q) : EV M d pc L (iv 8 :: iv (-1) :: S) h Q :=
  ev_pure k (fun _ hS _ => SR_t hS) (fun _ _ _ C _ _ k => lv_irem C.1 C.2.1 hd (by decide) (by
    have e : Int32.ofInt (-1) - Int32.ofInt (-1) / Int32.ofInt 8 * Int32.ofInt 8 = Int32.ofInt (-1) := by decide
    rw [e]; exact k))
theorem ixr_nn : ∀ a : Nat, a < 301 → 0 ≤ ixr (a : Int) 8 ∧ 0 ≤ ixr (a : Int) 26 := by
  unfold ixr
  decide +kernel
theorem ixr_m1 : ixr (-1) 8 < 0 := by
  unfold ixr
  decide +kernel
theorem q_1231 : Cond.methodLink RX1 29 yJ9_floorMod_7cf53 ∈ gw := gw_in (t_in_5 (List.mem_of_getElem? (i := 116) rfl)) rfl
theorem q_1634 : Cond.methodLink RX5 79 yJ9_floorMod_7cf53 ∈ gw := gw_in (t_in_7 (List.mem_of_getElem? (i := 39) rfl)) rfl
theorem q_1232 : Cond.static yJ9_floorMod_7cf53 ∈ gw := gw_in (t_in_5 (List.mem_of_getElem? (i := 117) rfl)) rfl
theorem q_1233 : Cond.code yJ9_floorMod_7cf53 cJ9_floorMod_7cf53 3 (some .int) ∈ gw := gw_in (t_in_5 (List.mem_of_getElem? (i := 118) rfl)) rfl
theorem cdf_fm : CDF mJ9_floorMod_7cf53 := ⟨q_1233, q_169, by decide +kernel, ⟨by decide +kernel, by decide +kernel⟩, rfl, fun _ => trivial⟩
set_option maxRecDepth 100000 in
theorem s_floorMod {x y : Int} {h : AH} (hx : -1 ≤ x ∧ x ≤ 300) (hy : y = 8 ∨ (y = 26 ∧ 0 ≤ x)) : CV mJ9_floorMod_7cf53 1 [iv x, iv y] h (oi fun r h1 => r = x % y ∧ h1 = h) := by
  refine cv_ofF cdf_fm ?_
  show EV _ _ 0 [iv x, iv y, uv] [] h _
  by_cases c : 0 ≤ x
  · have p18 : EV mJ9_floorMod_7cf53 1 4 [iv x, iv y, iv (x % y)] [] h (oi fun r h1 => r = x % y ∧ h1 = h) := by
      have e := ixr_nn x.toNat (by omega)
      rw [show ((x.toNat : Nat) : Int) = x by omega] at e
      refine ev_iload_n dJ9_floorMod_7cf53_4 rfl ?_
      refine ev_iload_n dJ9_floorMod_7cf53_5 rfl ?_
      refine ev_ixor dJ9_floorMod_7cf53_6 ?_
      refine ev_ifge 18 dJ9_floorMod_7cf53_7 (fun hb => ?_) (fun h_no => (by exfalso; (rcases hy with rfl | ⟨rfl, -⟩; exact h_no e.1; exact h_no e.2)))
      refine ev_iload_n dJ9_floorMod_7cf53_18 rfl ?_
      exact ev_iret dJ9_floorMod_7cf53_19 (⟨_, rfl, rfl, rfl⟩)
    rcases hy with rfl | ⟨rfl, -⟩
    · skip
      refine ev_iload_n dJ9_floorMod_7cf53_0 rfl ?_
      refine ev_iload_n dJ9_floorMod_7cf53_1 rfl ?_
      refine ev_irem dJ9_floorMod_7cf53_2 (by omega) (by omega) ?_
      refine ev_ist2 dJ9_floorMod_7cf53_3 ?_
      exact p18
    · skip
      refine ev_iload_n dJ9_floorMod_7cf53_0 rfl ?_
      refine ev_iload_n dJ9_floorMod_7cf53_1 rfl ?_
      refine ev_irem dJ9_floorMod_7cf53_2 (by omega) (by omega) ?_
      refine ev_ist2 dJ9_floorMod_7cf53_3 ?_
      exact p18
  · obtain rfl : x = -1 := by omega
    obtain rfl : y = 8 := by omega
    have e := ixr_m1
    refine ev_iload_n dJ9_floorMod_7cf53_0 rfl ?_
    refine ev_iload_n dJ9_floorMod_7cf53_1 rfl ?_
    refine ev_irem1 dJ9_floorMod_7cf53_2 ?_
    refine ev_ist2 dJ9_floorMod_7cf53_3 ?_
    refine ev_iload_n dJ9_floorMod_7cf53_4 rfl ?_
    refine ev_iload_n dJ9_floorMod_7cf53_5 rfl ?_
    refine ev_ixor dJ9_floorMod_7cf53_6 ?_
    refine ev_ifge 18 dJ9_floorMod_7cf53_7 (fun h_no => (by exfalso; omega)) (fun hb => ?_)
    refine ev_iload_n dJ9_floorMod_7cf53_10 rfl ?_
    refine ev_ifeq 18 dJ9_floorMod_7cf53_11 (fun h_no => (by exfalso; omega)) (fun hb2 => ?_)
    refine ev_iload_n dJ9_floorMod_7cf53_14 rfl ?_
    refine ev_iload_n dJ9_floorMod_7cf53_15 rfl ?_
    refine ev_iadd dJ9_floorMod_7cf53_16 (by unfold ir; omega) ?_
    exact ev_iret dJ9_floorMod_7cf53_17 (⟨_, rfl, by decide, rfl⟩)
theorem ev_mfm {M : MD} {d pc : Nat} {L S : List AV} {h : AH} {Q : AV → AH → Prop} {idx : Nat} {x y : Int} (hd : decode M.cc pc = .ok (.invokestatic idx, 3)) (hl : Cond.methodLink M.y.cls idx yJ9_floorMod_7cf53 ∈ gw) (hdd : 1 < d) (hS4 : S.length.ble 4 = true) (hh : M.hh = []) (hx : -1 ≤ x ∧ x ≤ 300) (hy : y = 8 ∨ (y = 26 ∧ 0 ≤ x)) (k : EV M d (pc + 3) L (iv (x % y) :: S) h Q) : EV M d pc L (iv y :: iv x :: S) h Q := by
  refine ev_callsF (n := 2) (as := [iv x, iv y]) hd cdf_fm (by decide) (by decide +kernel) q_1232 hl (s_floorMod hx hy) hdd rfl rfl (Nat.le_of_ble_eq_true hS4) hh (fun o h1 q => ?_)
  obtain ⟨r, rfl, rfl, rfl⟩ := q
  exact ⟨fun e => absurd (show (0 : Nat) = 7 from e) (by decide), fun _ => k⟩
