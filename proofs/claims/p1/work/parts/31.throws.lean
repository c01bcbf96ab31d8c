/-! throws of NoSuchElementException, whose constructor has an entry of its own -/
def nseB : ByteArray := ⟨#[0x2a, 0x2b, 0xb7, 0x00, 0x0d, 0xb1]⟩
theorem nseB_0 : decode nseB 0 = .ok (.aload_n 0, 1) := by decide +kernel
theorem nseB_1 : decode nseB 1 = .ok (.aload_n 1, 1) := by decide +kernel
theorem nseB_2 : decode nseB 2 = .ok (.invokespecial 13, 3) := by decide +kernel
theorem nseB_5 : decode nseB 5 = .ok (.return_, 1) := by decide +kernel
def nseW (own : String) (ic : Nat) : List Cond := (nse_own own ic (xn 3) 13 nseB "java/lang/RuntimeException" ["java/lang/Exception"]).filter vx_no
def TKX (own : String) (ik ic : Nat) : Prop := Cond.classLink own ik (xn 3) ∈ gw ∧ Cond.initialized (xn 3) ∈ gw ∧ (∀ w ∈ nseW own ic, w ∈ gw ∨ (w ∈ lw_tbl ∧ nwOk w = true))
section EvT
variable {M : MD} {d pc : Nat} {L S : List AV} {h : AH} {Q : AV → AH → Prop}
theorem ev_throwx {ik is ic : Nat} (tx : String) (tk : TKX M.y.cls ik ic) (htx : (M.y.cls, is, tx) ∈ txts)
    (d0 : decode M.cc pc = .ok (.new ik, 3)) (d3 : decode M.cc (pc + 3) = .ok (.dup, 1)) (d4 : decode M.cc (pc + 4) = .ok (.ldc is, 2)) (d6 : decode M.cc (pc + 6) = .ok (.invokespecial ic, 3)) (d9 : decode M.cc (pc + 9) = .ok (.athrow, 1))
    (hh : M.hh = []) (hS : S.length ≤ 4) (hq : Q (xv 3) h.thr) : EV M d pc L S h Q := by
  intro hL hS' hR
  refine ⟨xv 3, h.thr, hq, ⟨Nat.le_refl _, by rw [AH.thr_cs]; omega, by rw [AH.thr_ss]; omega, hR, VR_o (show (7 : Nat) ≠ 0 by decide) (show (7 : Nat) ≠ 1 by decide)⟩, ?_⟩
  intro p l e R s m args below meth c D base scr φ cA H locs ls x0 y0 Qc XC C h01 h02 h03 h04 P hl hQ
  obtain ⟨hx, hb, hr, hml, hown, hts, hlk, htr, htb, hnm, hK, hbs, hG, hf, hlo⟩ := C
  obtain ⟨t4, t5, t6⟩ := tk
  obtain ⟨sa, hsa⟩ := hG.2.2.2 _ htx
  have hw : ∀ w ∈ nseW M.y.cls ic, w.before args s = true := fun w hw => by
    rcases t6 w hw with g | ⟨g, g2⟩
    · exact hts w g
    · exact va_Nw.use (nw_tab g2) (hG.2.2.1 w g g2)
  have hsum := av_sum (φ := φ) S
  rw [AH.thr_cs] at h03 ⊢
  rw [AH.thr_ss] at h04 ⊢
  refine nse_throwS (A := fun q => base ≤ q) (own := M.y.cls) (cls := xn 3) (Y9 := "java/lang/RuntimeException") (text := tx) (names := ["java/lang/Exception"]) (ik := ik) (is := is) (ic := ic) (sa := sa) hx hb htr nseB_0 nseB_1 nseB_2 nseB_5 (by decide +kernel) hown (by decide +kernel) (by decide +kernel) (hts _ t4) (hts _ t5) hsa hw (fun w hw => ?_) hG.1.1 hG.1.2.1 P.S (hl.1.trans hml.symm) d0 d3 d4 d6 d9 (fun x hx => (tbl_no htb.1 hh x hx).elim) (by simp only [List.length_cons, List.length_nil]; omega) (by simp only [List.length_cons, List.length_nil]; omega) (by omega) (by omega) hlk (fun t ha hz hk => ?_) P.2 (by omega) (by omega)
  · rcases List.mem_cons.mp hw with rfl | hw
    · exact gw_ot t4
    · rcases List.mem_cons.mp hw with rfl | hw
      · exact gw_ot t5
      · rcases t6 w hw with g | ⟨g, g2⟩
        · exact gw_ot g
        · exact nw_ot g2
  · refine (hQ φ cA t (fun _ _ => rfl) ha ?_).2 rfl
    refine ⟨fun k q hq => (P.1.1 k q hq).kept (hk _ (P.1.1 k q hq).lt), P.1.2.1, ⟨Nat.le_trans P.1.2.2.1.1 hz, fun q h1 h2 => (hk q (Nat.lt_of_lt_of_le h1 P.1.2.2.1.1)).trans (P.1.2.2.1.2 q h1 h2)⟩, fun a h1 h2 => (P.1.2.2.2 a h1 h2).moved ha⟩
theorem ev_throwxw {ik is ic : Nat} (tx : String) (tk : TKX M.y.cls ik ic) (htx : (M.y.cls, is, tx) ∈ txts)
    (d0 : decode M.cc pc = .ok (.new ik, 3)) (d3 : decode M.cc (pc + 3) = .ok (.dup, 1)) (d4 : decode M.cc (pc + 4) = .ok (.ldc_w is, 3)) (d7 : decode M.cc (pc + 7) = .ok (.invokespecial ic, 3)) (d10 : decode M.cc (pc + 10) = .ok (.athrow, 1))
    (hh : M.hh = []) (hS : S.length ≤ 4) (hq : Q (xv 3) h.thr) : EV M d pc L S h Q := by
  intro hL hS' hR
  refine ⟨xv 3, h.thr, hq, ⟨Nat.le_refl _, by rw [AH.thr_cs]; omega, by rw [AH.thr_ss]; omega, hR, VR_o (show (7 : Nat) ≠ 0 by decide) (show (7 : Nat) ≠ 1 by decide)⟩, ?_⟩
  intro p l e R s m args below meth c D base scr φ cA H locs ls x0 y0 Qc XC C h01 h02 h03 h04 P hl hQ
  obtain ⟨hx, hb, hr, hml, hown, hts, hlk, htr, htb, hnm, hK, hbs, hG, hf, hlo⟩ := C
  obtain ⟨t4, t5, t6⟩ := tk
  obtain ⟨sa, hsa⟩ := hG.2.2.2 _ htx
  have hw : ∀ w ∈ nseW M.y.cls ic, w.before args s = true := fun w hw => by
    rcases t6 w hw with g | ⟨g, g2⟩
    · exact hts w g
    · exact va_Nw.use (nw_tab g2) (hG.2.2.1 w g g2)
  have hsum := av_sum (φ := φ) S
  rw [AH.thr_cs] at h03 ⊢
  rw [AH.thr_ss] at h04 ⊢
  refine nse_throwSW (A := fun q => base ≤ q) (own := M.y.cls) (cls := xn 3) (Y9 := "java/lang/RuntimeException") (text := tx) (names := ["java/lang/Exception"]) (ik := ik) (is := is) (ic := ic) (sa := sa) hx hb htr nseB_0 nseB_1 nseB_2 nseB_5 (by decide +kernel) hown (by decide +kernel) (by decide +kernel) (hts _ t4) (hts _ t5) hsa hw (fun w hw => ?_) hG.1.1 hG.1.2.1 P.S (hl.1.trans hml.symm) d0 d3 d4 d7 d10 (fun x hx => (tbl_no htb.1 hh x hx).elim) (by simp only [List.length_cons, List.length_nil]; omega) (by simp only [List.length_cons, List.length_nil]; omega) (by omega) (by omega) hlk (fun t ha hz hk => ?_) P.2 (by omega) (by omega)
  · rcases List.mem_cons.mp hw with rfl | hw
    · exact gw_ot t4
    · rcases List.mem_cons.mp hw with rfl | hw
      · exact gw_ot t5
      · rcases t6 w hw with g | ⟨g, g2⟩
        · exact gw_ot g
        · exact nw_ot g2
  · refine (hQ φ cA t (fun _ _ => rfl) ha ?_).2 rfl
    refine ⟨fun k q hq => (P.1.1 k q hq).kept (hk _ (P.1.1 k q hq).lt), P.1.2.1, ⟨Nat.le_trans P.1.2.2.1.1 hz, fun q h1 h2 => (hk q (Nat.lt_of_lt_of_le h1 P.1.2.2.1.1)).trans (P.1.2.2.1.2 q h1 h2)⟩, fun a h1 h2 => (P.1.2.2.2 a h1 h2).moved ha⟩
end EvT
theorem tk_3 : TKX RX10 142 146 := ⟨gw_ps (ws := [Cond.classLink RX10 142 (xn 3)]) [1366] (by decide +kernel) (by decide +kernel) _ List.mem_cons_self, gw_ps (ws := [Cond.initialized (xn 3)]) [187] (by decide +kernel) (by decide +kernel) _ List.mem_cons_self, tk_all (by decide +kernel)⟩
