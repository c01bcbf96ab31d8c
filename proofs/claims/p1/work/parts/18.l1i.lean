section EvCallV
variable {M : MD} {d pc : Nat} {L S : List AV} {h : AH} {Q : AV → AH → Prop}
/-- a call of a method of the object below its arguments; its class is class ci -/
def LKV (own : String) (idx : Nat) (M' : MD) (ci n : Nat) : Prop := CD M' ∧ M'.ml ≤ 45 ∧ (parseMethodDescriptor M'.y.desc).map (fun d => d.parameters.length) = some n ∧ Cond.instanceMethod M'.y ∈ gw ∧ Cond.selects M'.y.cls M'.y M'.y ∈ gw ∧ (Cond.methodLink own idx M'.y ∈ gw ∨ ∃ host, Cond.methodLinkNest own idx M'.y host ∈ lw_tbl) ∧ ∃ T ty N, KC ci M'.y.cls T ty N
theorem vrecv {p : Program} {l : Launch} {R : Room} {s : State} {m : MethodId} {args : Array Value} {meth : Method} {c : Code} {D : va_G} {base : Nat} {scr : SC} {φ : Nat → Nat} {cA : Nat → ClassId} {H : Heap} {locs : List Loc} (C0 : CX M d p l R s m args meth c D base scr) (P : RP D base s φ cA h H locs) {ci N N' : Nat} {C : String} {T : u_T} {ty : Nat → FieldType} (hc : KC ci C T ty N') {a : Int} (ha : 0 ≤ a) (hn : a < (h.n : Int)) (hk : h.kd a.toNat = (ci, N)) :
    ∃ cell : Cell, H[φ a.toNat]? = some cell ∧ cell.vm.isStatics = false ∧ s.vm.findClass C = some cell.cls := by
  refine va_recv (q0 := a.toNat) (ci := ci) C0.2.2.2.2.2.2.2.2.2.2.1 P.1.1 hc.2.1 (fs := (List.range N).map (fun j => av_c φ (kt ci j, h.vl a.toNat j))) ?_
  rw [wl_at (by omega)]
  unfold aE
  rw [hk, if_pos hc.1]
theorem rv_c {φ : Nat → Nat} {a : Int} (ha : 0 ≤ a) : av_c φ (rv a) = .ref (φ a.toNat) := by simp [av_c, show ¬ a < 0 by omega]
theorem st_v {as : List AV} {φ : Nat → Nat} {a : Int} (ha : 0 ≤ a) : ((rv a :: as).reverse ++ S).map (av_c φ) = (as.map (av_c φ)).reverse ++ .ref (φ a.toNat) :: S.map (av_c φ) := by
  rw [List.reverse_cons, List.append_assoc, List.map_append, List.map_reverse, List.singleton_append, List.map_cons, rv_c ha]
theorem ev_callv {idx n ci N : Nat} {a : Int} {as st : List AV} {M' : MD} {d' : Nat} {Q1 : AV → AH → Prop} (hd : decode M.cc pc = .ok (.invokevirtual idx, 3)) (lk : LKV M.y.cls idx M' ci n) (hc : CV M' d' (rv a :: as) h Q1) (hdd : d' < d) (ha : 0 ≤ a) (hna : a < (h.n : Int)) (hk : h.kd a.toNat = (ci, N)) (hst : st = (rv a :: as).reverse ++ S) (hn : as.length = n) (hS : S.length ≤ 4) (hh : M.hh = [])
    (k : ∀ o h1, Q1 o h1 → (o.1 = 7 → Q o h1) ∧ (o.1 ≠ 7 → EV M d (pc + 3) L (pu o S) h1 Q)) (h7 : (∀ o h1, Q1 o h1 → o.1 ≠ 7) ∨ Cond.methodLink M.y.cls idx M'.y ∈ gw) : EV M d pc L st h Q := by
  obtain ⟨hM, hml', hnp, hin, hse, hlk, T, ty, N', hKC⟩ := lk
  refine ev_call hc hst hh k ?_
  intro p l e R s m args below meth c D base scr φ cA H locs ls cells slots o h1 C P hl ct q1 hcl hsl
  refine ⟨(Value.ref (φ a.toNat) :: as.map (av_c φ)).toArray, ?_⟩
  have C0 := C
  obtain ⟨hx, hb, hr, hml, hown, hts, hlo', htr, htb, hnm, hK, hbs, hG, hf, hlo⟩ := C
  have hMt := ct.2 l D base scr φ cA htr
  have hpre : PreV s H M'.y.cls (φ a.toNat) (PCc D base scr φ cA (rv a :: as) h) (as.map (av_c φ)) := ⟨pc_blind, vrecv C0 P hKC ha hna hk, fun U hU hW => by
    have := pc_at (as := rv a :: as) C0 P hU hW
    rw [List.map_cons, rv_c ha] at this
    exact this⟩
  subst hst
  by_cases hg : Cond.methodLink M.y.cls idx M'.y ∈ gw
  · exact vx_runV (cc := M.cc) (C := M'.y.cls) (As := as.map (av_c φ)) ⟨hx, hb, hml, hown, hts⟩ hMt ⟨callB_of n hts (gw_good hM) rfl rfl rfl (hts _ hM.2.1) (hts _ hg) ⟨hM.2.2.2.1.1, hM.2.2.2.1.2, hnp⟩ ⟨by show d' + 8 + 1 ≤ R.frames; omega, by show 8 + (M'.ml + 11) + (64 * d' + 200) ≤ R.locals; omega⟩, hts _ hin, hts _ hse⟩ hpre rfl (by rw [List.length_map]; exact hn) hl.1 (st_v ha) (st_w hS) hd ⟨hcl, hsl⟩
  · obtain ⟨host, hng⟩ := hlk.resolve_left hg
    have h7' := h7.resolve_right hg
    exact vx_of_va (va_runVN (cc := M.cc) (C := M'.y.cls) (As := as.map (av_c φ)) ⟨hx, hb, hml, hown, hts⟩ (met_of hMt (fun E s t hXC => by obtain ⟨_, _, _, h8, _⟩ := hXC; exact h7' _ _ q1 h8)) ⟨va_cnB n hts (gw_good hM) rfl rfl rfl (hG.2.2.1 _ hng rfl) (hts _ hM.2.1) ⟨hM.2.2.2.1.1, hM.2.2.2.1.2, hnp⟩ ⟨by show d' + 8 + 1 ≤ R.frames; omega, by show 8 + (M'.ml + 11) + (64 * d' + 200) ≤ R.locals; omega⟩, hts _ hin, hts _ hse⟩ hpre rfl (by rw [List.length_map]; exact hn) hl.1 (st_v ha) (st_w hS) hd ⟨hcl, hsl⟩)
/-- a constructor's call -/
def LKI (own : String) (idx : Nat) (M' : MD) (n : Nat) : Prop := CD M' ∧ M'.ml ≤ 45 ∧ (parseMethodDescriptor M'.y.desc).map (fun d => d.parameters.length) = some n ∧ Cond.instanceMethod M'.y ∈ gw ∧ M'.y.name = "<init>" ∧ M'.rt = none ∧ (Cond.methodLink own idx M'.y ∈ gw ∨ ∃ host, Cond.methodLinkNest own idx M'.y host ∈ lw_tbl)
theorem ev_calli {idx n : Nat} {a : Int} {as st : List AV} {M' : MD} {d' : Nat} {Q1 : AV → AH → Prop} (hd : decode M.cc pc = .ok (.invokespecial idx, 3)) (lk : LKI M.y.cls idx M' n) (hc : CV M' d' (rv a :: as) h Q1) (hdd : d' < d) (ha : 0 ≤ a) (hst : st = (rv a :: as).reverse ++ S) (hn : as.length = n) (hS : S.length ≤ 4) (hh : M.hh = [])
    (k : ∀ o h1, Q1 o h1 → o = ov ∧ EV M d (pc + 3) L S h1 Q) : EV M d pc L st h Q := by
  obtain ⟨hM, hml', hnp, hin, hni, hrt, hlk⟩ := lk
  refine ev_call hc hst hh (fun o h1 q => ?_) ?_
  · obtain ⟨rfl, k⟩ := k o h1 q
    exact ⟨fun e => absurd e (by decide), fun _ => k⟩
  intro p l e R s m args below meth c D base scr φ cA H locs ls cells slots o h1 C P hl ct q1 hcl hsl
  refine ⟨(Value.ref (φ a.toNat) :: as.map (av_c φ)).toArray, ?_⟩
  have C0 := C
  obtain ⟨hx, hb, hr, hml, hown, hts, hlo', htr, htb, hnm, hK, hbs, hG, hf, hlo⟩ := C
  have hMt := ct.2 l D base scr φ cA htr
  have hpre : PreS s H (PCc D base scr φ cA (rv a :: as) h) (.ref (φ a.toNat) :: as.map (av_c φ)) := ⟨pc_blind, fun U hU hW => by
    have := pc_at (as := rv a :: as) C0 P hU hW
    rw [List.map_cons, rv_c ha] at this
    exact this⟩
  have h7' : o.1 ≠ 7 := by rw [(k o h1 q1).1]; decide
  have hMn := met_of hMt (fun E s t hXC => by obtain ⟨_, _, _, h8, _⟩ := hXC; exact h7' h8)
  subst hst
  rw [hrt] at hMn
  have hgd := gw_good hM
  rw [hrt] at hgd
  by_cases hg : Cond.methodLink M.y.cls idx M'.y ∈ gw
  · exact vx_of_va (va_runI (cc := M.cc) (As := as.map (av_c φ)) ⟨hx, hb, hml, hown, hts⟩ hMn (cwI n hts hgd rfl rfl rfl (hts _ hM.2.1) (hts _ hg) (hts _ hin) hni ⟨hM.2.2.2.1.1, hM.2.2.2.1.2, hnp⟩ ⟨by show d' + 8 + 1 ≤ R.frames; omega, by show 8 + (M'.ml + 11) + (64 * d' + 200) ≤ R.locals; omega⟩) hpre rfl (by rw [List.length_map]; exact hn) hl.1 (st_v ha) (st_w hS) hd ⟨hcl, hsl⟩)
  · obtain ⟨host, hng⟩ := hlk.resolve_left hg
    exact vx_of_va (va_runIN (cc := M.cc) (As := as.map (av_c φ)) ⟨hx, hb, hml, hown, hts⟩ hMn ⟨va_cnB n hts hgd rfl rfl rfl (hG.2.2.1 _ hng rfl) (hts _ hM.2.1) ⟨hM.2.2.2.1.1, hM.2.2.2.1.2, hnp⟩ ⟨by show d' + 8 + 1 ≤ R.frames; omega, by show 8 + (M'.ml + 11) + (64 * d' + 200) ≤ R.locals; omega⟩, hni, hts _ hin⟩ hpre rfl (by rw [List.length_map]; exact hn) hl.1 (st_v ha) (st_w hS) hd ⟨hcl, hsl⟩)
/-- throw new E("text") -/
def TK (own : String) (ik ic : Nat) (k : Int) (names : List String) : Prop := Bundle.fit (xn k) = true ∧ (∀ n ∈ names, Bundle.fit n = true) ∧ names.length ≤ 3 ∧ Cond.classLink own ik (xn k) ∈ gw ∧ Cond.initialized (xn k) ∈ gw ∧ (∀ w ∈ vx_atS own ic (xn k) names, w ∈ gw ∨ (w ∈ lw_tbl ∧ nwOk w = true))
theorem nw_ot {w : Cond} (h : nwOk w = true) : vx_ot w = true := by unfold vx_ot; rw [nw_tab h]; rfl
theorem gw_ot {w : Cond} (h : w ∈ gw) : vx_ot w = true := by unfold vx_ot; rw [gw_g h]; exact Bool.or_true _
theorem ev_throw {ik is ic : Nat} {kx : Int} {names : List String} (tx : String) (tk : TK M.y.cls ik ic kx names) (htx : (M.y.cls, is, tx) ∈ txts)
    (d0 : decode M.cc pc = .ok (.new ik, 3)) (d3 : decode M.cc (pc + 3) = .ok (.dup, 1)) (d4 : decode M.cc (pc + 4) = .ok (.ldc is, 2)) (d6 : decode M.cc (pc + 6) = .ok (.invokespecial ic, 3)) (d9 : decode M.cc (pc + 9) = .ok (.athrow, 1))
    (hh : M.hh = []) (hS : S.length ≤ 4) (hq : Q (xv kx) h.thr) : EV M d pc L S h Q := by
  intro hL hS' hR
  refine ⟨xv kx, h.thr, hq, ⟨Nat.le_refl _, by rw [AH.thr_cs]; omega, by rw [AH.thr_ss]; omega, hR, VR_o (show (7 : Nat) ≠ 0 by decide) (show (7 : Nat) ≠ 1 by decide)⟩, ?_⟩
  intro p l e R s m args below meth c D base scr φ cA H locs ls x0 y0 Qc XC C h01 h02 h03 h04 P hl hQ
  obtain ⟨hx, hb, hr, hml, hown, hts, hlk, htr, htb, hnm, hK, hbs, hG, hf, hlo⟩ := C
  obtain ⟨t1, t2, t3, t4, t5, t6⟩ := tk
  obtain ⟨sa, hsa⟩ := hG.2.2.2 _ htx
  have hw : ∀ w ∈ vx_atS M.y.cls ic (xn kx) names, w.before args s = true := fun w hw => by
    rcases t6 w hw with g | ⟨g, g2⟩
    · exact hts w g
    · exact va_Nw.use (nw_tab g2) (hG.2.2.1 w g g2)
  have hsum := av_sum (φ := φ) S
  rw [AH.thr_cs] at h03 ⊢
  rw [AH.thr_ss] at h04 ⊢
  refine vx_throwS (A := fun q => base ≤ q) (own := M.y.cls) (cls := xn kx) (text := tx) (names := names) (ik := ik) (is := is) (ic := ic) (sa := sa) hx hb htr hown t1 t2 (hts _ t4) (hts _ t5) hsa hw (fun w hw => ?_) hG.1.1 hG.1.2.1 P.S (hl.1.trans hml.symm) d0 d3 d4 d6 d9 (fun x hx => (tbl_no htb.1 hh x hx).elim) (by omega) (by omega) (by omega) (by omega) hlk (fun t ha hz hk => ?_) P.2 (by omega) (by omega)
  · rcases List.mem_cons.mp hw with rfl | hw
    · exact gw_ot t4
    · rcases List.mem_cons.mp hw with rfl | hw
      · exact gw_ot t5
      · rcases t6 w hw with g | ⟨g, g2⟩
        · exact gw_ot g
        · exact nw_ot g2
  · refine (hQ φ cA t (fun _ _ => rfl) ha ?_).2 rfl
    refine ⟨fun k q hq => (P.1.1 k q hq).kept (hk _ (P.1.1 k q hq).lt), P.1.2.1, ⟨Nat.le_trans P.1.2.2.1.1 hz, fun q h1 h2 => (hk q (Nat.lt_of_lt_of_le h1 P.1.2.2.1.1)).trans (P.1.2.2.1.2 q h1 h2)⟩, fun a h1 h2 => (P.1.2.2.2 a h1 h2).moved ha⟩
end EvCallV
