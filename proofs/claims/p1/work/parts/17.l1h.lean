def pu (o : AV) (S : List AV) : List AV := if o.1 = 8 then S else o :: S
theorem vx_of_va {p : Program} {l : Launch} {e : Env} {R : Room} {s : State} {m : MethodId} {args : Array Value} {below : List Frame} {meth : Method} {c : Code} {H : Heap} {locs : List Loc} {cells slots mc ms : Nat} {g : JFrame} {rest : List Value} {Qa : State → Outcome → State → Prop} {XC : String → State → State → Prop} {free : Addr → Prop}
    (h : va_Run p l e R s m args below meth c H locs cells slots mc ms g rest Qa free) : vx_Run p l e R s m args below meth c H locs cells slots mc ms g rest Qa XC free := fun T hT X => Or.inl (h T hT X)
theorem met_of {l : Launch} {y : MethodName} {ws : List Cond} {rm : Room} {Pc : Array Value → State → Prop} {Qc : Array Value → State → Outcome → State → Prop} {XC : String → State → State → Prop} {mc ms : Nat} {free : Addr → Prop} (h : vx_Met l y ws rm Pc Qc XC mc ms free) (hx : ∀ E s t, ¬ XC E s t) : Met l y ws rm Pc Qc mc ms free := by
  refine MetFree.mono h (fun _ _ q => q) (fun _ _ _ _ _ q => q) (fun _ _ _ _ _ q => ?_)
  rcases q with q | ⟨a, -, E, ce, L, q, -⟩
  · exact q
  · exact absurd q (hx _ _ _)
section EvCall
variable {M : MD} {d pc : Nat} {L S : List AV} {h : AH} {Q : AV → AH → Prop}
theorem ct_go {p : Program} {l : Launch} {e : Env} {R : Room} {s : State} {m : MethodId} {args : Array Value} {below : List Frame} {meth : Method} {c : Code} {H : Heap} {locs : List Loc} {cells slots mc ms : Nat} {Qf : State → Prop} {D : va_G} {base : Nat} {φ : Nat → Nat} {cA : Nat → ClassId} {n : Nat} {o : AV} {h1 : AH} {a : Array Value} {ls : Array Slot} {st0 rest : List Value}
    (hr : vx_Run p l e R s m args below meth c H locs cells slots mc ms (F0 m pc ls st0) rest (QCc D base φ n o h1 a) (XCc D base φ n o h1) (fun q => base ≤ q)) (P : RP D base s φ cA h H locs)
    (kk : o.1 ≠ 7 → ∀ (φ' : Nat → Nat) (cA' : Nat → ClassId) (H1 : Heap) (locs1 : List Loc), (∀ a, a < n → φ' a = φ a) → RP D base s φ' cA' h1 H1 locs1 → W p l e R s m args below meth c H1 locs1 (cells + mc) (slots + ms) Qf (F0 m (pc + 3) ls ((ro φ' o).toList ++ rest)))
    (kx : o.1 = 7 → ∀ (φ' : Nat → Nat) (cA' : Nat → ClassId) (H1 : Heap) (locs1 : List Loc) (q : Addr) (ce : Cell), (∀ a, a < n → φ' a = φ a) → RP D base s φ' cA' h1 H1 locs1 → H1[q]? = some ce → ce.vm = .none → s.vm.findClass (xn o.2) = some ce.cls → vx_W p l e R s m args below meth c H1 locs1 (cells + mc) (slots + ms) Qf (F0 m pc ls rest) q) : W p l e R s m args below meth c H locs cells slots Qf (F0 m pc ls st0) := by
  intro T hT X
  have loc : ∀ {L : List Loc}, (∀ q ∈ L, base ≤ q.base) → ∀ q ∈ locs ++ L, base ≤ q.base := fun hL q hq => (List.mem_append.mp hq).elim (P.2 q) (hL q)
  rcases hr T hT X with ⟨v, st₀, t, T', L, h0, X', hL, e1, e2, ⟨φ', cA', ag, h7, hv, hq⟩, st⟩ | ⟨q, st₀, t, T', L, E, ce, h0, X', hL, e1, e2, ⟨φ', cA', ag, h7, rfl, hq⟩, hce, hcv, hcl, st⟩
  · cases hv
    rw [h0, ← e1] at hq
    have hal : t.vm.Alike s.vm := by rw [← e2]; exact X'.warmed.alike.symm
    obtain ⟨t2, a1, b1⟩ := kk h7 φ' cA' T'.heap (locs ++ L) ag ⟨P.1.on (hq.at hal), loc hL⟩ T' rfl X'
    exact ⟨t2, st t2 a1, b1⟩
  · rw [h0, ← e1] at hq
    have hal : t.vm.Alike s.vm := by rw [← e2]; exact X'.warmed.alike.symm
    obtain ⟨t2, a1, b1⟩ := kx h7 φ' cA' T'.heap (locs ++ L) q ce ag ⟨P.1.on (hq.at hal), loc hL⟩ (by rw [e1]; exact hce) hcv hcl T' rfl X'
    exact ⟨t2, st.trans a1, b1⟩
theorem ev_call {as st : List AV} {M' : MD} {d' : Nat} {Q1 : AV → AH → Prop} (hc : CV M' d' as h Q1) (hst : st = as.reverse ++ S) (hh : M.hh = [])
    (k : ∀ o h1, Q1 o h1 → (o.1 = 7 → Q o h1) ∧ (o.1 ≠ 7 → EV M d (pc + 3) L (pu o S) h1 Q))
    (run : ∀ {p : Program} {l : Launch} {e : Env} {R : Room} {s : State} {m : MethodId} {args : Array Value} {below : List Frame} {meth : Method} {c : Code} {D : va_G} {base : Nat} {scr : SC} {φ : Nat → Nat} {cA : Nat → ClassId} {H : Heap} {locs : List Loc} {ls : Array Slot} {cells slots : Nat} {o : AV} {h1 : AH},
      CX M d p l R s m args meth c D base scr → RP D base s φ cA h H locs → LSv φ L ls M.ml → CT M' d' as h o h1 → Q1 o h1 → cells + (h1.cs - h.cs) ≤ R.cells → slots + (h1.ss - h.ss) ≤ R.slots →
      ∃ a, vx_Run p l e R s m args below meth c H locs cells slots (h1.cs - h.cs) (h1.ss - h.ss) (F0 m pc ls (st.map (av_c φ))) (S.map (av_c φ)) (QCc D base φ h.n o h1 a) (XCc D base φ h.n o h1) (fun q => base ≤ q)) : EV M d pc L st h Q := by
  intro hL hS hR
  subst hst
  obtain ⟨o, h1, q1, ct⟩ := hc (fun v hv => hS v (List.mem_append_left _ (List.mem_reverse.mpr hv))) hR
  have hS2 : SR h.n S := fun v hv => hS v (List.mem_append_right _ hv)
  obtain ⟨m1, m2, m3, m4, m5⟩ := ct.1
  obtain ⟨kx, kk⟩ := k o h1 q1
  by_cases e7 : o.1 = 7
  · refine ⟨o, h1, kx e7, ct.1, ?_⟩
    intro p l e R s m args below meth c D base scr φ cA H locs ls x0 y0 Qc XC C h01 h02 h03 h04 hP hl hQ
    obtain ⟨a, hr⟩ := run (e := e) (below := below) (cells := h.cs - x0) (slots := h.ss - y0) C hP hl ct q1 (by omega) (by omega)
    refine ct_go hr hP (fun ne => absurd e7 ne) (fun _ φ' cA' H1 locs1 q ce ag P1 hce hcv hcl => ?_)
    exact vx_out (fun x hx => (tbl_no C.2.2.2.2.2.2.2.2.1.1 hh x hx).elim) C.2.2.2.2.2.2.1 hce hcv hcl (fun t ht ha => (hQ φ' cA' t ag ha (by rw [ht]; exact P1.1.at ha)).2 e7) P1.2 (by omega) (by omega)
  · have hS3 : SR h1.n (pu o S) := by
      unfold pu
      split
      · exact hS2.mono m1
      · exact SR_c m5 (hS2.mono m1)
    obtain ⟨o2, h2, q2, ⟨n1, n2, n3, n4, n5⟩, x2⟩ := kk e7 (hL.mono m1) hS3 m4
    refine ⟨o2, h2, q2, ⟨by omega, by omega, by omega, n4, n5⟩, ?_⟩
    intro p l e R s m args below meth c D base scr φ cA H locs ls x0 y0 Qc XC C h01 h02 h03 h04 hP hl hQ
    obtain ⟨a, hr⟩ := run (e := e) (below := below) (cells := h.cs - x0) (slots := h.ss - y0) C hP hl ct q1 (by omega) (by omega)
    refine ct_go hr hP (fun _ φ' cA' H1 locs1 ag P1 => ?_) (fun ne => absurd ne e7)
    have hx := x2 p l e R s m args below meth c D base scr φ' cA' H1 locs1 ls x0 y0 Qc XC C (by omega) (by omega) h03 h04 P1 (hl.mv ag hL) (hQ.mv ag m1)
    rw [show h.cs - x0 + (h1.cs - h.cs) = h1.cs - x0 by omega, show h.ss - y0 + (h1.ss - h.ss) = h1.ss - y0 by omega]
    have e1 : (pu o S).map (av_c φ') = (ro φ' o).toList ++ S.map (av_c φ) := by
      rw [← av_φS ag hS2]
      unfold pu ro
      split <;> rfl
    rw [e1] at hx
    exact hx
theorem st_c {as : List AV} {φ : Nat → Nat} : (as.reverse ++ S).map (av_c φ) = (as.map (av_c φ)).reverse ++ S.map (av_c φ) := by
  rw [List.map_append, List.map_reverse]
theorem gw_good {M' : MD} (hM : CD M') : GoodIn gw (Cond.code M'.y M'.cc M'.ml M'.rt :: gw) := by
  intro w hw
  have : w ∈ gw := (List.mem_cons.mp hw).elim (fun e => by rw [e]; exact hM.1) id
  exact ⟨this, good_of_word (gw_g this)⟩
theorem pc_blind {D : va_G} {base : Nat} {scr : SC} {φ : Nat → Nat} {cA : Nat → ClassId} {as : List AV} : FrameBlind (PCc D base scr φ cA as h) := by
  intro a U g mk hp
  obtain ⟨h1, h2, h3, h4, h5⟩ := hp
  exact ⟨h1, va_K.moved (u := U) (U := U.calling g mk a) (Vm.Alike.refl U.vm) h2, h3, h4.to (State.WarmedH.refl U) (Nat.le_refl _) (fun _ _ _ => rfl), h5.at (t := U.calling g mk a) (Vm.Alike.refl U.vm)⟩
theorem pc_at {p : Program} {l : Launch} {R : Room} {s U : State} {m : MethodId} {args : Array Value} {meth : Method} {c : Code} {D : va_G} {base : Nat} {scr : SC} {φ : Nat → Nat} {cA : Nat → ClassId} {H : Heap} {locs : List Loc} {as : List AV} (C : CX M d p l R s m args meth c D base scr) (P : RP D base s φ cA h H locs) (hU : U.heap = H) (hW : s.WarmedH U.vm) :
    PCc D base scr φ cA as h (as.map (av_c φ)).toArray U := by
  obtain ⟨hx, hb, hr, hml, hown, hts, hlk, htr, htb, hnm, hK, hbs, hG, hf, hlo⟩ := C
  refine ⟨rfl, hK.moved hW.alike, by rw [hU]; exact Nat.le_trans hbs P.1.2.2.1.1, by rw [hU]; exact hG.to hW P.1.2.2.1.1 P.1.2.2.1.2, ?_⟩
  rw [hU]
  exact ⟨P.1.1, P.1.2.1, ⟨Nat.le_refl _, fun _ _ _ => rfl⟩, fun a h1 h2 => (P.1.2.2.2 a h1 h2).moved hW.alike⟩
theorem st_w {φ : Nat → Nat} {m : MethodId} {ls : Array Slot} {st0 : List Value} (hS : S.length ≤ 4) : 2 * (F0 m pc ls st0).monitorRoom + ((S.map (av_c φ)).map fun v => v.category).sum ≤ 8 :=
  lv_room (Nat.le_trans (av_sum S) (by omega))
/-- a static call of a method of any class -/
def LKS (own : String) (idx : Nat) (M' : MD) (n : Nat) : Prop := CD M' ∧ M'.ml ≤ 45 ∧ (parseMethodDescriptor M'.y.desc).map (fun d => d.parameters.length) = some n ∧ Cond.static M'.y ∈ gw ∧ (Cond.methodLink own idx M'.y ∈ gw ∨ ∃ host, Cond.methodLinkNest own idx M'.y host ∈ lw_tbl)
theorem ev_calls {idx n : Nat} {as st : List AV} {M' : MD} {d' : Nat} {Q1 : AV → AH → Prop} (hd : decode M.cc pc = .ok (.invokestatic idx, 3)) (lk : LKS M.y.cls idx M' n) (hc : CV M' d' as h Q1) (hdd : d' < d) (hst : st = as.reverse ++ S) (hn : as.length = n) (hS : S.length ≤ 4) (hh : M.hh = [])
    (k : ∀ o h1, Q1 o h1 → (o.1 = 7 → Q o h1) ∧ (o.1 ≠ 7 → EV M d (pc + 3) L (pu o S) h1 Q)) (h7 : (∀ o h1, Q1 o h1 → o.1 ≠ 7) ∨ Cond.methodLink M.y.cls idx M'.y ∈ gw) : EV M d pc L st h Q := by
  obtain ⟨hM, hml', hnp, hstt, hlk⟩ := lk
  refine ev_call hc hst hh k ?_
  intro p l e R s m args below meth c D base scr φ cA H locs ls cells slots o h1 C P hl ct q1 hcl hsl
  refine ⟨(as.map (av_c φ)).toArray, ?_⟩
  have C0 := C
  obtain ⟨hx, hb, hr, hml, hown, hts, hlo', htr, htb, hnm, hK, hbs, hG, hf, hlo⟩ := C
  have hMt := ct.2 l D base scr φ cA htr
  have hpre : PreS s H (PCc D base scr φ cA as h) (as.map (av_c φ)) := ⟨pc_blind, fun U hU hW => pc_at C0 P hU hW⟩
  subst hst
  by_cases hg : Cond.methodLink M.y.cls idx M'.y ∈ gw
  · exact vx_runS (cc := M.cc) (As := as.map (av_c φ)) ⟨hx, hb, hml, hown, hts⟩ hMt ⟨callB_of n hts (gw_good hM) rfl rfl rfl (hts _ hM.2.1) (hts _ hg) ⟨hM.2.2.2.1.1, hM.2.2.2.1.2, hnp⟩ ⟨by show d' + 8 + 1 ≤ R.frames; omega, by show 8 + (M'.ml + 11) + (64 * d' + 200) ≤ R.locals; omega⟩, hts _ hstt⟩ hpre rfl (by rw [List.length_map]; exact hn) hl.1 st_c (st_w hS) hd ⟨hcl, hsl⟩
  · obtain ⟨host, hng⟩ := hlk.resolve_left hg
    have h7' := h7.resolve_right hg
    exact vx_of_va (va_runSN (cc := M.cc) (As := as.map (av_c φ)) ⟨hx, hb, hml, hown, hts⟩ (met_of hMt (fun E s t hXC => by obtain ⟨_, _, _, h8, _⟩ := hXC; exact h7' _ _ q1 h8)) ⟨va_cnB n hts (gw_good hM) rfl rfl rfl (hG.2.2.1 _ hng rfl) (hts _ hM.2.1) ⟨hM.2.2.2.1.1, hM.2.2.2.1.2, hnp⟩ ⟨by show d' + 8 + 1 ≤ R.frames; omega, by show 8 + (M'.ml + 11) + (64 * d' + 200) ≤ R.locals; omega⟩, hts _ hstt, trivial⟩ hpre rfl (by rw [List.length_map]; exact hn) hl.1 st_c (st_w hS) hd ⟨hcl, hsl⟩)
end EvCall
