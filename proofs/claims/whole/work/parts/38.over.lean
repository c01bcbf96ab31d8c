/-! the law's abstract walk, over the machine -/
theorem law_W {p : Program} {e : Env} {s : State} {m : MethodId} {below : List Frame} {meth : Method} {c : Code} (l : Launch) (hfl : l.stackTraces = false) {b L : Nat} {xs : Nat → Int32} (hL : L ≤ 100000) (hx : p.tables.exec = Jvm.exec) (hb : c.code = code) (hr : meth.sig.returnType = ret) (hml : c.maxLocals = 9) (hown : s.vm.findClass RL = some m.cls)
    (hts : ∀ w ∈ lw_tbl, w.before #[Value.ref b] s = true) (hX : va_X b L xs s s.heap) (hbl : b < s.heap.size) (hlocks : meth.locks = false) (hgv : (Jvm.Cond.and given_1 narrow_1).before #[Value.ref b] s = true) (htab : c.exceptionTable.toList = []) (hnm : meth.name = "law") {R : Room} (hRf : 28 ≤ R.frames) (hRl : 1480 ≤ R.locals) {kc ks : Nat} (hkc : kc ≤ R.cells) (hks : ks ≤ R.slots)
    {J : Nat → AH → Prop} (H : ∀ k h, 4 * k + 4 ≤ L → J k h → STR h ∧ RI h ∧ LAWH (J (k + 1)) h) (h0 : J 0 hLaw) (hB : STR hLaw ∧ RI hLaw) (hJc : ∀ k h', 4 * k ≤ L → J k h' → h'.cs ≤ kc ∧ h'.ss ≤ ks) :
    W p l e R s m #[Value.ref b] below meth c s.heap [] 0 0 (fun t => ∃ o, t.status = .running ∧ Ended t below o ∧ o = .returned (some (.int 1)) ∧ s.WarmedH t.vm ∧ s.sameButNew ({ t with vm := s.vm } : State) [] kc ks) (entryFrame m ([Value.ref b] : List Value).toArray 9) := by
  have hg := gw_all hts
  obtain ⟨D, hK⟩ := kc_all hg
  have hneed : ∀ w ∈ lw_need, w.before #[Value.ref b] s = true := fun w hw => flat_of_before _ hgv w (lw_need_in w hw)
  have hneed2 : ∀ w ∈ lw_need2, w.before #[Value.ref b] s = true := fun w hw => flat_of_before _ hgv w (lw_need2_in w hw)
  have hG := gs_start hts hneed hneed2 hX hbl
  have hR0 : RGh h00 := fun a ha => absurd ha (Nat.not_lt_zero a)
  have hS0 : SR h00.n ([(5, (b : Int)), uv, uv, uv, uv, uv, uv, uv, uv] : List AV) := SR_c (VR_o (show (5 : Nat) ≠ 0 by decide) (show (5 : Nat) ≠ 1 by decide)) (SR_c VR_9 (SR_c VR_9 (SR_c VR_9 (SR_c VR_9 (SR_c VR_9 (SR_c VR_9 (SR_c VR_9 (SR_c VR_9 SR_0))))))))
  obtain ⟨o, h', ⟨ho, k, hk4, hJ⟩, hE⟩ := law_all (b := b) (n := L) (xs := xs) hL H h0 hB hS0 SR_0 hR0
  obtain ⟨hcs, hss⟩ := hJc k h' hk4 hJ
  subst ho
  have hl := lv_entry ([.ref b] : List Value) (n := 9) (Nat.le_of_ble_eq_true rfl)
  rw [lg_entry_eq]
  generalize (lg_sl ([.ref b] : List Value) ++ List.replicate (9 - (lg_sl ([.ref b] : List Value)).length) Slot.unset).toArray = ls at hl ⊢
  have hls : LSv (fun a => a) [(5, (b : Int)), uv, uv, uv, uv, uv, uv, uv, uv] ls 9 := by
    refine ⟨hl.1, hl.2.1, fun q hq => hl.2.2 q ?_⟩
    have e : lA (fun a => a) 0 ([(5, (b : Int)), uv, uv, uv, uv, uv, uv, uv, uv] : List AV) = [(0, .ref b)] := rfl
    rw [e] at hq
    exact hq
  have hx2 := hE.2 p l e R s m #[Value.ref b] below meth c D s.heap.size (b, L, xs) (fun a => a) (fun _ => 0) s.heap [] ls 0 0 (fun _ _ o _ => o = .returned (some (.int 1))) (fun _ _ _ => False)
    ⟨hx, hb, hr.trans rfl, hml, hown, hg, hlocks, hfl, ⟨htab, rfl, rfl, rfl⟩, hnm, hK, Nat.le_refl _, hG, by omega, by omega⟩ (Nat.le_refl _) (Nat.le_refl _) (by omega) (by omega)
    ⟨⟨fun k q hq => by simp [wl, h00, AH.n] at hq, ⟨fun i j p q hi => by simp [wl, h00, AH.n] at hi, fun k q hq => by simp [wl, h00, AH.n] at hq⟩, ⟨Nat.le_refl _, fun _ _ _ => rfl⟩, fun a ha => absurd ha (Nat.not_lt_zero a)⟩, fun _ h => nomatch h⟩ hls
    (fun φ' cA' t _ _ _ => ⟨fun _ => rfl, fun z => absurd (show (0 : Nat) = 7 from z) (by decide)⟩)
  intro T hT X
  obtain ⟨t, a1, o2, b1, b2, b3⟩ := hx2 T hT X
  refine ⟨t, a1, o2, b1, b2, ?_⟩
  rcases b3 with ⟨h1, Lc, ⟨-, hW, hs⟩, hf⟩ | ⟨q, -, E, ce, Lc, hXC, -⟩
  · refine ⟨h1, hW, hs.weaken (fun x hx hlt => absurd hlt (Nat.not_lt.mpr (hf x hx))) (by omega) (by omega)⟩
  · exact hXC.elim
