/-! calls whose throws are caught, texts by wide entries, the superclass's methods, doubles -/
/-- the row of the table that catches k at pc lays it into a local and answers kk -/
def HC (M : MD) (pc k : Nat) (kk : Int) : Prop := ∃ (pre : List ExceptionTableEntry) (x : ExceptionTableEntry) (suf : List ExceptionTableEntry) (i len : Nat),
  (k < 6 ∧ tableOf M.hh = pre ++ x :: suf ∧ (∀ z ∈ pre, covers z pc = false ∨ (z.catchType ≠ 0 ∧ ∃ j : Nat, j < 6 ∧ k ≠ j ∧ Cond.classLink M.y.cls z.catchType (xn j) ∈ gw))) ∧
  (covers x pc = true ∧ x.catchType ≠ 0 ∧ Cond.classLink M.y.cls x.catchType (xn k) ∈ gw ∧ Cond.castable (xn k) (xn k) ∈ lw_tbl) ∧
  ((len = 2 ∧ decode M.cc x.handlerPc = .ok (.astore i, 2)) ∨ (len = 1 ∧ ∃ j : Fin 4, (j : Nat) = i ∧ decode M.cc x.handlerPc = .ok (.astore_n j, 1))) ∧ i < M.ml ∧ decode M.cc (x.handlerPc + len) = .ok (.iconst kk, 1) ∧ decode M.cc (x.handlerPc + len + 1) = .ok (.ireturn, 1) ∧ ir kk
section EvH
variable {M : MD} {d pc : Nat} {L S : List AV} {h : AH} {Q : AV → AH → Prop}
theorem ev_callG {as st : List AV} {Q1 K : AV → AH → Prop} (hc : SR h.n as → RGh h → ∃ o h1, Q1 o h1 ∧ (h.n ≤ h1.n ∧ h.cs ≤ h1.cs ∧ h.ss ≤ h1.ss ∧ RGh h1 ∧ VR h1.n o) ∧ K o h1) (hst : st = as.reverse ++ S)
    (k : ∀ o h1, Q1 o h1 → (o.1 = 7 → (M.hh = [] ∧ Q o h1) ∨ (M.rt = some .int ∧ ∃ (k : Nat) (kk : Int), o.2 = k ∧ HC M pc k kk ∧ Q (iv kk) h1)) ∧ (o.1 ≠ 7 → EV M d (pc + 3) L (pu o S) h1 Q))
    (run : ∀ {p : Program} {l : Launch} {e : Env} {R : Room} {s : State} {m : MethodId} {args : Array Value} {below : List Frame} {meth : Method} {c : Code} {D : va_G} {base : Nat} {scr : SC} {φ : Nat → Nat} {cA : Nat → ClassId} {H : Heap} {locs : List Loc} {ls : Array Slot} {cells slots : Nat} {o : AV} {h1 : AH},
      CX M d p l R s m args meth c D base scr → RP D base s φ cA h H locs → LSv φ L ls M.ml → K o h1 → Q1 o h1 → cells + (h1.cs - h.cs) ≤ R.cells → slots + (h1.ss - h.ss) ≤ R.slots →
      ∃ a, vx_Run p l e R s m args below meth c H locs cells slots (h1.cs - h.cs) (h1.ss - h.ss) (F0 m pc ls (st.map (av_c φ))) (S.map (av_c φ)) (QCc D base φ h.n o h1 a) (XCc D base φ h.n o h1) (fun q => base ≤ q)) : EV M d pc L st h Q := by
  intro hL hS hR
  subst hst
  obtain ⟨o, h1, q1, ⟨m1, m2, m3, m4, m5⟩, ct⟩ := hc (fun v hv => hS v (List.mem_append_left _ (List.mem_reverse.mpr hv))) hR
  have hS2 : SR h.n S := fun v hv => hS v (List.mem_append_right _ hv)
  obtain ⟨kx, kk⟩ := k o h1 q1
  by_cases e7 : o.1 = 7
  · rcases kx e7 with ⟨hh, hq⟩ | ⟨hrt, k0, kv, ho, ⟨pre, x, suf, i, len, ⟨hk6, hsp, hpre⟩, ⟨hcov, hc0, hcl1, hcast⟩, hst1, hi, hd2, hd3, hir⟩, hq⟩
    · refine ⟨o, h1, hq, ⟨m1, m2, m3, m4, m5⟩, ?_⟩
      intro p l e R s m args below meth c D base scr φ cA H locs ls x0 y0 Qc XC C h01 h02 h03 h04 hP hl hQ
      obtain ⟨a, hr⟩ := run (e := e) (below := below) (cells := h.cs - x0) (slots := h.ss - y0) C hP hl ct q1 (by omega) (by omega)
      refine ct_go hr hP (fun ne => absurd e7 ne) (fun _ φ' cA' H1 locs1 q ce ag P1 hce hcv hcl => ?_)
      exact vx_out (fun x hx => (tbl_no C.2.2.2.2.2.2.2.2.1.1 hh x hx).elim) C.2.2.2.2.2.2.1 hce hcv hcl (fun t ht ha => (hQ φ' cA' t ag ha (by rw [ht]; exact P1.1.at ha)).2 e7) P1.2 (by omega) (by omega)
    · refine ⟨iv kv, h1, hq, ⟨m1, m2, m3, m4, VR_i hir⟩, ?_⟩
      intro p l e R s m args below meth c D base scr φ cA H locs ls x0 y0 Qc XC C h01 h02 h03 h04 hP hl hQ
      obtain ⟨a, hr⟩ := run (e := e) (below := below) (cells := h.cs - x0) (slots := h.ss - y0) C hP hl ct q1 (by omega) (by omega)
      refine ct_go hr hP (fun ne => absurd e7 ne) (fun _ φ' cA' H1 locs1 q ce ag P1 hce hcv hcl => ?_)
      obtain ⟨hx, hb, hrr, hml, hown, hts, hlk, htr, htb, hnm, hK, hbs, hG, hf, hlo⟩ := C
      rw [ho] at hcl
      refine vx_catch (E := xn k0) hown pre x suf (htb.1.trans hsp) (fun z hz => ?_) hcov hc0 (hts _ hcl1) (va_Nw.use (nw_tab rfl) (hG.2.2.1 _ hcast rfl)) hce hcv hcl ?_
      · rcases hpre z hz with g | ⟨g, j, j6, jn, gl⟩
        · exact Or.inl g
        · exact Or.inr ⟨g, _, hts _ gl, hG.1.2.2.2.1 k0 j hk6 j6 jn⟩
      · have fin : ∀ ls' : Array Slot, W p l e R s m args below meth c H1 locs1 (h.cs - x0 + (h1.cs - h.cs)) (h.ss - y0 + (h1.ss - h.ss)) (vx_MQ below Qc XC args s (h1.cs - x0) (h1.ss - y0) (fun q => base ≤ q)) (F0 m (x.handlerPc + len) ls' []) := fun ls' => by
          rw [show h.cs - x0 + (h1.cs - h.cs) = h1.cs - x0 by omega, show h.ss - y0 + (h1.ss - h.ss) = h1.ss - y0 by omega]
          refine lv_iconst hx hb hd2 rfl ?_
          refine vx_ret (W.iret hx hb (hrr.trans hrt) ?_ P1.2 hd3 hlk)
          intro t ht hw
          exact (hQ φ' cA' t ag hw.alike (by rw [ht]; exact P1.1.at hw.alike)).1 (show (0 : Nat) ≠ 7 by decide)
        rcases hst1 with ⟨rfl, hda⟩ | ⟨rfl, j, hj, hda⟩
        · exact lv_astore hx hb hda hl hi rfl (fun ls' _ => fin ls')
        · exact lv_astore_n hx hb hda hj hl hi rfl (fun ls' _ => fin ls')
  · have hS3 : SR h1.n (pu o S) := by
      unfold pu
      split
      · exact hS2.mono m1
      · exact SR_c m5 (hS2.mono m1)
    obtain ⟨o2, h2, q2, ⟨n1, n2, n3, n4, n5⟩, x2⟩ := kk e7 (hL.mono m1) hS3 m4
    refine ⟨o2, h2, q2, ⟨by omega, by omega, by omega, n4, n5⟩, ?_⟩
    intro p l e R s m args below meth c D base scr φ cA H locs ls x0 y0 Qc XC C h01 h02 h03 h04 hP hl hQ
    obtain ⟨a, hr⟩ := run (e := e) (below := below) (cells := h.cs - x0) (slots := h.ss - y0) C hP hl ct q1 (by omega) (by omega)
    refine ct_go hr hP (fun _ φ' cA' H1 locs1 ag P1 => ?_) (fun ne => absurd ne e7)
    have hx := x2 p l e R s m args below meth c D base scr φ' cA' H1 locs1 ls x0 y0 Qc XC C (by omega) (by omega) h03 h04 P1 (hl.mv ag hL) (hQ.mv ag m1)
    rw [show h.cs - x0 + (h1.cs - h.cs) = h1.cs - x0 by omega, show h.ss - y0 + (h1.ss - h.ss) = h1.ss - y0 by omega]
    have e1 : (pu o S).map (av_c φ') = (ro φ' o).toList ++ S.map (av_c φ) := by
      rw [← av_φS ag hS2]
      unfold pu ro
      split <;> rfl
    rw [e1] at hx
    exact hx
theorem cv_g {M' : MD} {d' : Nat} {as : List AV} {Q1 : AV → AH → Prop} (hc : CV M' d' as h Q1) : SR h.n as → RGh h → ∃ o h1, Q1 o h1 ∧ (h.n ≤ h1.n ∧ h.cs ≤ h1.cs ∧ h.ss ≤ h1.ss ∧ RGh h1 ∧ VR h1.n o) ∧ CT M' d' as h o h1 := fun a b => by
  obtain ⟨o, h1, q, ct⟩ := hc a b
  exact ⟨o, h1, q, ct.1, ct⟩
/-- a call of a public method of an object, in a method that catches what it throws -/
theorem ev_callvh {idx n ci N : Nat} {a : Int} {as st : List AV} {M' : MD} {d' : Nat} {Q1 : AV → AH → Prop} (hd : decode M.cc pc = .ok (.invokevirtual idx, 3)) (lk : LKV M.y.cls idx M' ci n) (hg : Cond.methodLink M.y.cls idx M'.y ∈ gw) (hc : CV M' d' (rv a :: as) h Q1) (hdd : d' < d) (ha : 0 ≤ a) (hna : a < (h.n : Int)) (hk : h.kd a.toNat = (ci, N)) (hst : st = (rv a :: as).reverse ++ S) (hn : as.length = n) (hS : S.length ≤ 4)
    (k : ∀ o h1, Q1 o h1 → (o.1 = 7 → (M.hh = [] ∧ Q o h1) ∨ (M.rt = some .int ∧ ∃ (k : Nat) (kk : Int), o.2 = k ∧ HC M pc k kk ∧ Q (iv kk) h1)) ∧ (o.1 ≠ 7 → EV M d (pc + 3) L (pu o S) h1 Q)) : EV M d pc L st h Q := by
  obtain ⟨hM, hml', hnp, hin, hse, hlk, T, ty, N', hKC⟩ := lk
  refine ev_callG (cv_g hc) hst k ?_
  intro p l e R s m args below meth c D base scr φ cA H locs ls cells slots o h1 C P hl ct q1 hcl hsl
  refine ⟨(Value.ref (φ a.toNat) :: as.map (av_c φ)).toArray, ?_⟩
  have C0 := C
  obtain ⟨hx, hb, hr, hml, hown, hts, hlo', htr, htb, hnm, hK, hbs, hG, hf, hlo⟩ := C
  have hMt := ct.2 l D base scr φ cA htr
  have hpre : PreV s H M'.y.cls (φ a.toNat) (PCc D base scr φ cA (rv a :: as) h) (as.map (av_c φ)) := ⟨pc_blind, vrecv C0 P hKC ha hna hk, fun U hU hW => by
    have := pc_at (as := rv a :: as) C0 P hU hW
    rw [List.map_cons, rv_c ha] at this
    exact this⟩
  subst hst
  exact vx_runV (cc := M.cc) (C := M'.y.cls) (As := as.map (av_c φ)) ⟨hx, hb, hml, hown, hts⟩ hMt ⟨callB_of n hts (gw_good hM) rfl rfl rfl (hts _ hM.2.1) (hts _ hg) ⟨hM.2.2.2.1.1, hM.2.2.2.1.2, hnp⟩ ⟨by show d' + 8 + 1 ≤ R.frames; omega, by show 8 + (M'.ml + 11) + (64 * d' + 200) ≤ R.locals; omega⟩, hts _ hin, hts _ hse⟩ hpre rfl (by rw [List.length_map]; exact hn) hl.1 (st_v ha) (st_w hS) hd ⟨hcl, hsl⟩
end EvH
/-! methods with handlers -/
def CDH (M : MD) : Prop := Cond.codeWith M.y M.cc M.ml M.rt M.hh ∈ gw ∧ Cond.initialized M.y.cls ∈ gw ∧ plainName M.y.cls = true ∧ (M.y.cls ≠ "java/lang/invoke/MethodHandle" ∧ M.y.cls ≠ "java/lang/invoke/VarHandle") ∧ ∀ scr, M.ok scr
def CTH (M : MD) (d : Nat) (as : List AV) (h : AH) (o : AV) (h' : AH) : Prop :=
  (h.n ≤ h'.n ∧ h.cs ≤ h'.cs ∧ h.ss ≤ h'.ss ∧ RGh h' ∧ VR h'.n o) ∧
  ∀ (l : Launch) (D : va_G) (base : Nat) (scr : SC) (φ : Nat → Nat) (cA : Nat → ClassId), l.stackTraces = false →
    vx_Met l M.y (Cond.codeWith M.y M.cc M.ml M.rt M.hh :: gw) (rmOf d (h'.cs - h.cs) (h'.ss - h.ss)) (PCc D base scr φ cA as h) (QCc D base φ h.n o h') (XCc D base φ h.n o h') (h'.cs - h.cs) (h'.ss - h.ss) (fun q => base ≤ q)
def CVH (M : MD) (d : Nat) (as : List AV) (h : AH) (Q : AV → AH → Prop) : Prop := SR h.n as → RGh h → ∃ o h', Q o h' ∧ CTH M d as h o h'
theorem cv_ofH {M : MD} {d : Nat} {as : List AV} {h : AH} {Q : AV → AH → Prop} (hM : CDH M) (k : EV M d 0 (as ++ List.replicate (M.ml - as.length) uv) [] h Q) (hn : as.length ≤ M.ml := by exact Nat.le_of_ble_eq_true rfl) (hc : as.all (fun v => v.1 != 2 && v.1 != 4) = true := by rfl) : CVH M d as h Q := by
  intro hS hR
  have hc : ∀ v ∈ as, v.1 ≠ 2 ∧ v.1 ≠ 4 := fun v hv => by
    have := List.all_eq_true.mp hc v hv
    simpa [Bool.and_eq_true] using this
  obtain ⟨o, h', q, m, x⟩ := k (fun v hv => (List.mem_append.mp hv).elim (hS v) (fun hv => by rw [List.eq_of_mem_replicate hv]; exact VR_9)) SR_0 hR
  refine ⟨o, h', q, m, fun l D base scr φ cA htr => ?_⟩
  refine vx_ofWH (cc := M.cc) (maxL := M.ml) (ret := M.rt) (hh := M.hh) hM.2.2.1 rfl ?_
  intro p e s mm args below meth c s₁ B hml hP
  obtain ⟨rfl, hK, hbs, hG, hP⟩ := hP
  rw [lg_entry_eq]
  have hts := atoms_spec (ws := Cond.codeWith M.y M.cc M.ml M.rt M.hh :: gw) B.pre
  have hx := x p l e (rmOf d (h'.cs - h.cs) (h'.ss - h.ss)) s mm _ below meth c D base scr φ cA s.heap [] _ h.cs h.ss (QCc D base φ h.n o h') (XCc D base φ h.n o h')
    ⟨B.exec, B.bytes, B.returns, hml, findClass_of_methodNamed B.named, fun w hw => hts w (List.mem_cons_of_mem _ hw), B.notSynchronized, htr, ⟨vx_table (x := M.y) B (hts _ List.mem_cons_self), hM.2.2.2.2 scr⟩, (name_of_methodNamed B.named B.method).1, hK, hbs, hG, Nat.le_refl _, Nat.le_refl _⟩
    (Nat.le_refl _) (Nat.le_refl _) (Nat.le_refl _) (Nat.le_refl _) ⟨hP, fun _ h => nomatch h⟩ (ls_entry hc hn)
    (fun φ' cA' t ag ha hq => ⟨fun h7 => ⟨φ', cA', ag, h7, rfl, hq⟩, fun h7 => ⟨φ', cA', ag, h7, rfl, hq⟩⟩)
  rw [Nat.sub_self, Nat.sub_self] at hx
  exact hx
theorem gw_gi {ws : List Cond} (h : ∀ w ∈ ws, w ∈ gw) : GoodIn gw ws := fun w hw => ⟨h w hw, good_of_word (gw_g (h w hw))⟩
section EvS
variable {M : MD} {d pc : Nat} {L S : List AV} {h : AH} {Q : AV → AH → Prop}
def LKH (own : String) (idx : Nat) (M' : MD) (n : Nat) : Prop := CDH M' ∧ M'.ml ≤ 45 ∧ (parseMethodDescriptor M'.y.desc).map (fun d => d.parameters.length) = some n ∧ Cond.static M'.y ∈ gw ∧ Cond.methodLink own idx M'.y ∈ gw
/-- a static call of a method with handlers -/
theorem ev_callsH {idx n : Nat} {as st : List AV} {M' : MD} {d' : Nat} {P : Int → AH → Prop} (hd : decode M.cc pc = .ok (.invokestatic idx, 3)) (lk : LKH M.y.cls idx M' n) (hc : CVH M' d' as h (oi P)) (hdd : d' < d) (hst : st = as.reverse ++ S) (hn : as.length = n) (hS : S.length ≤ 4)
    (k : ∀ x h1, P x h1 → EV M d (pc + 3) L (iv x :: S) h1 Q) : EV M d pc L st h Q := by
  obtain ⟨hM, hml', hnp, hstt, hg⟩ := lk
  refine ev_callG (Q1 := oi P) (K := fun o h1 => CTH M' d' as h o h1) (fun a b => by
    obtain ⟨o, h1, q, ct⟩ := hc a b
    exact ⟨o, h1, q, ct.1, ct⟩) hst (fun o h1 q => ?_) ?_
  · obtain ⟨x, rfl, q⟩ := q
    exact ⟨fun e => absurd (show (0 : Nat) = 7 from e) (by decide), fun _ => k x h1 q⟩
  intro p l e R s m args below meth c D base scr φ cA H locs ls cells slots o h1 C P hl ct q1 hcl hsl
  refine ⟨(as.map (av_c φ)).toArray, ?_⟩
  have C0 := C
  obtain ⟨hx, hb, hr, hml, hown, hts, hlo', htr, htb, hnm, hK, hbs, hG, hf, hlo⟩ := C
  have hMt := ct.2 l D base scr φ cA htr
  have hpre : PreS s H (PCc D base scr φ cA as h) (as.map (av_c φ)) := ⟨pc_blind, fun U hU hW => pc_at C0 P hU hW⟩
  subst hst
  have hgi : GoodIn gw (va_wsS M.y.cls idx M'.y (Cond.codeWith M'.y M'.cc M'.ml M'.rt M'.hh :: gw)) := gw_gi fun w hw => by
    unfold va_wsS at hw
    simp only [List.mem_append, List.mem_cons, List.not_mem_nil, or_false] at hw
    rcases hw with (rfl | rfl | rfl) | rfl | hw
    · exact hg
    · exact hstt
    · exact hM.2.1
    · exact hM.1
    · exact hw
  exact vx_runSX (cc := M.cc) (As := as.map (av_c φ)) ⟨hx, hb, hml, hown, hts⟩ hMt (vx_cwSW n hts hgi rfl rfl rfl ⟨hM.2.2.2.1.1, hM.2.2.2.1.2, hnp⟩ ⟨by show d' + 8 + 1 ≤ R.frames; omega, by show 8 + (M'.ml + 11) + (64 * d' + 200) ≤ R.locals; omega⟩) hpre rfl (by rw [List.length_map]; exact hn) hl.1 st_c (st_w hS) hd ⟨hcl, hsl⟩
/-- throw new E("text"), the text by a wide entry -/
theorem ev_throww {ik is ic : Nat} {kx : Int} {names : List String} (tx : String) (tk : TK M.y.cls ik ic kx names) (htx : (M.y.cls, is, tx) ∈ txts)
    (d0 : decode M.cc pc = .ok (.new ik, 3)) (d3 : decode M.cc (pc + 3) = .ok (.dup, 1)) (d4 : decode M.cc (pc + 4) = .ok (.ldc_w is, 3)) (d7 : decode M.cc (pc + 7) = .ok (.invokespecial ic, 3)) (d10 : decode M.cc (pc + 10) = .ok (.athrow, 1))
    (hh : M.hh = []) (hS : S.length ≤ 4) (hq : Q (xv kx) h.thr) : EV M d pc L S h Q := by
  intro hL hS' hR
  refine ⟨xv kx, h.thr, hq, ⟨Nat.le_refl _, by rw [AH.thr_cs]; omega, by rw [AH.thr_ss]; omega, hR, VR_o (show (7 : Nat) ≠ 0 by decide) (show (7 : Nat) ≠ 1 by decide)⟩, ?_⟩
  intro p l e R s m args below meth c D base scr φ cA H locs ls x0 y0 Qc XC C h01 h02 h03 h04 P hl hQ
  obtain ⟨hx, hb, hr, hml, hown, hts, hlk, htr, htb, hnm, hK, hbs, hG, hf, hlo⟩ := C
  obtain ⟨t1, t2, t3, t4, t5, t6⟩ := tk
  obtain ⟨sa, hsa⟩ := hG.2.2.2 _ htx
  have hw : ∀ w ∈ vx_atS M.y.cls ic (xn kx) names, w.before args s = true := fun w hw => by
    rcases t6 w hw with g | ⟨g, g2⟩
    · exact hts w g
    · exact va_Nw.use (nw_tab g2) (hG.2.2.1 w g g2)
  have hsum := av_sum (φ := φ) S
  rw [AH.thr_cs] at h03 ⊢
  rw [AH.thr_ss] at h04 ⊢
  refine vx_throwSW (A := fun q => base ≤ q) (own := M.y.cls) (cls := xn kx) (text := tx) (names := names) (ik := ik) (is := is) (ic := ic) (sa := sa) hx hb htr hown t1 t2 (hts _ t4) (hts _ t5) hsa hw (fun w hw => ?_) hG.1.1 hG.1.2.1 P.S (hl.1.trans hml.symm) d0 d3 d4 d7 d10 (fun x hx => (tbl_no htb.1 hh x hx).elim) (by omega) (by omega) (by omega) (by omega) hlk (fun t ha hz hk => ?_) P.2 (by omega) (by omega)
  · rcases List.mem_cons.mp hw with rfl | hw
    · exact gw_ot t4
    · rcases List.mem_cons.mp hw with rfl | hw
      · exact gw_ot t5
      · rcases t6 w hw with g | ⟨g, g2⟩
        · exact gw_ot g
        · exact nw_ot g2
  · refine (hQ φ cA t (fun _ _ => rfl) ha ?_).2 rfl
    refine ⟨fun k q hq => (P.1.1 k q hq).kept (hk _ (P.1.1 k q hq).lt), P.1.2.1, ⟨Nat.le_trans P.1.2.2.1.1 hz, fun q h1 h2 => (hk q (Nat.lt_of_lt_of_le h1 P.1.2.2.1.1)).trans (P.1.2.2.1.2 q h1 h2)⟩, fun a h1 h2 => (P.1.2.2.2 a h1 h2).moved ha⟩
/-- a method that the object's class has from its superclass -/
def LKU (own : String) (idx : Nat) (M' : MD) (ci n : Nat) : Prop := CD M' ∧ M'.ml ≤ 45 ∧ (parseMethodDescriptor M'.y.desc).map (fun d => d.parameters.length) = some n ∧ Cond.instanceMethod M'.y ∈ gw ∧ Cond.methodLink own idx M'.y ∈ gw ∧ Cond.sameMethod M'.y.cls M'.y.cls M'.y.name M'.y.desc ∈ gw ∧ ∃ C T ty N, KC ci C T ty N ∧ Cond.selects C M'.y M'.y ∈ gw
theorem ev_callu {idx n ci N : Nat} {a : Int} {as st : List AV} {M' : MD} {d' : Nat} {Q1 : AV → AH → Prop} (hd : decode M.cc pc = .ok (.invokevirtual idx, 3)) (lk : LKU M.y.cls idx M' ci n) (hc : CV M' d' (rv a :: as) h Q1) (hdd : d' < d) (ha : 0 ≤ a) (hna : a < (h.n : Int)) (hk : h.kd a.toNat = (ci, N)) (hst : st = (rv a :: as).reverse ++ S) (hn : as.length = n) (hS : S.length ≤ 4)
    (k : ∀ o h1, Q1 o h1 → o.1 ≠ 7 ∧ EV M d (pc + 3) L (pu o S) h1 Q) : EV M d pc L st h Q := by
  obtain ⟨hM, hml', hnp, hin, hlk, hsm, C', T, ty, N', hKC, hse⟩ := lk
  refine ev_callG (cv_g hc) hst (fun o h1 q => ⟨fun e => absurd e (k o h1 q).1, fun _ => (k o h1 q).2⟩) ?_
  intro p l e R s m args below meth c D base scr φ cA H locs ls cells slots o h1 C P hl ct q1 hcl hsl
  refine ⟨(Value.ref (φ a.toNat) :: as.map (av_c φ)).toArray, ?_⟩
  have C0 := C
  obtain ⟨hx, hb, hr, hml, hown, hts, hlo', htr, htb, hnm, hK, hbs, hG, hf, hlo⟩ := C
  have hMt := met_of (ct.2 l D base scr φ cA htr) (fun E s t hXC => by obtain ⟨_, _, _, h8, _⟩ := hXC; exact (k _ _ q1).1 h8)
  have hpre : PreV s H C' (φ a.toNat) (PCc D base scr φ cA (rv a :: as) h) (as.map (av_c φ)) := ⟨pc_blind, vrecv C0 P hKC ha hna hk, fun U hU hW => by
    have := pc_at (as := rv a :: as) C0 P hU hW
    rw [List.map_cons, rv_c ha] at this
    exact this⟩
  subst hst
  have hgi : GoodIn gw (va_wsU M.y.cls idx C' M'.y.cls M'.y M'.y (Cond.code M'.y M'.cc M'.ml M'.rt :: gw)) := gw_gi fun w hw => by
    unfold va_wsU at hw
    simp only [List.mem_append, List.mem_cons, List.not_mem_nil, or_false] at hw
    rcases hw with (rfl | rfl | rfl | rfl | rfl) | rfl | hw
    · exact hlk
    · exact hsm
    · exact hse
    · exact hin
    · exact hM.2.1
    · exact hM.1
    · exact hw
  exact vx_of_va (va_runU (cc := M.cc) (C := C') (As := as.map (av_c φ)) ⟨hx, hb, hml, hown, hts⟩ hMt (va_cwU n hts hgi rfl rfl rfl rfl ⟨hM.2.2.2.1.1, hM.2.2.2.1.2, hnp⟩ ⟨by show d' + 8 + 1 ≤ R.frames; omega, by show 8 + (M'.ml + 11) + (64 * d' + 200) ≤ R.locals; omega⟩) hpre rfl (by rw [List.length_map]; exact hn) hl.1 (st_v ha) (st_w hS) hd ⟨hcl, hsl⟩)
/-- super.m(..) -/
def LKP (own : String) (idx : Nat) (M' : MD) (ci n : Nat) : Prop := CD M' ∧ M'.ml ≤ 45 ∧ (parseMethodDescriptor M'.y.desc).map (fun d => d.parameters.length) = some n ∧ Cond.instanceMethod M'.y ∈ gw ∧ Cond.methodLink own idx M'.y ∈ gw ∧ Cond.sameMethod M'.y.cls M'.y.cls M'.y.name M'.y.desc ∈ gw ∧ Cond.superclass own M'.y.cls ∈ gw ∧ M'.y.name ≠ "<init>" ∧ ∃ C T ty N, KC ci C T ty N
theorem ev_callp {idx n ci N : Nat} {a : Int} {as st : List AV} {M' : MD} {d' : Nat} {Q1 : AV → AH → Prop} (hd : decode M.cc pc = .ok (.invokespecial idx, 3)) (lk : LKP M.y.cls idx M' ci n) (hc : CV M' d' (rv a :: as) h Q1) (hdd : d' < d) (ha : 0 ≤ a) (hna : a < (h.n : Int)) (hk : h.kd a.toNat = (ci, N)) (hst : st = (rv a :: as).reverse ++ S) (hn : as.length = n) (hS : S.length ≤ 4)
    (k : ∀ o h1, Q1 o h1 → o.1 ≠ 7 ∧ EV M d (pc + 3) L (pu o S) h1 Q) : EV M d pc L st h Q := by
  obtain ⟨hM, hml', hnp, hin, hlk, hsm, hsu, hni, C', T, ty, N', hKC⟩ := lk
  refine ev_callG (cv_g hc) hst (fun o h1 q => ⟨fun e => absurd e (k o h1 q).1, fun _ => (k o h1 q).2⟩) ?_
  intro p l e R s m args below meth c D base scr φ cA H locs ls cells slots o h1 C P hl ct q1 hcl hsl
  refine ⟨(Value.ref (φ a.toNat) :: as.map (av_c φ)).toArray, ?_⟩
  have C0 := C
  obtain ⟨hx, hb, hr, hml, hown, hts, hlo', htr, htb, hnm, hK, hbs, hG, hf, hlo⟩ := C
  have hMt := met_of (ct.2 l D base scr φ cA htr) (fun E s t hXC => by obtain ⟨_, _, _, h8, _⟩ := hXC; exact (k _ _ q1).1 h8)
  have hpre : PreV s H C' (φ a.toNat) (PCc D base scr φ cA (rv a :: as) h) (as.map (av_c φ)) := ⟨pc_blind, vrecv C0 P hKC ha hna hk, fun U hU hW => by
    have := pc_at (as := rv a :: as) C0 P hU hW
    rw [List.map_cons, rv_c ha] at this
    exact this⟩
  subst hst
  have hgi : GoodIn gw (va_wsSU M.y.cls idx M'.y (Cond.code M'.y M'.cc M'.ml M'.rt :: gw)) := gw_gi fun w hw => by
    unfold va_wsSU at hw
    simp only [List.mem_append, List.mem_cons, List.not_mem_nil, or_false] at hw
    rcases hw with (rfl | rfl | rfl | rfl | rfl) | rfl | hw
    · exact hlk
    · exact hsm
    · exact hsu
    · exact hin
    · exact hM.2.1
    · exact hM.1
    · exact hw
  exact vx_of_va (va_runSU (cc := M.cc) (C := C') (As := as.map (av_c φ)) (hK.1 ci (C', T, N') hKC.2.1).2 ⟨hx, hb, hml, hown, hts⟩ hMt (va_cwSU n hts hgi rfl rfl rfl ⟨hni, hnp⟩ ⟨by show d' + 8 + 1 ≤ R.frames; omega, by show 8 + (M'.ml + 11) + (64 * d' + 200) ≤ R.locals; omega⟩) hpre rfl (by rw [List.length_map]; exact hn) hl.1 (st_v ha) (st_w hS) hd ⟨hcl, hsl⟩)
end EvS
