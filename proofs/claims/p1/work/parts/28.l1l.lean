/-! doubles and floats -/
def dv (w : UInt64) : AV := (4, (w.toNat : Int))
def fv (w : UInt32) : AV := (3, (w.toNat : Int))
theorem av_dv {φ : Nat → Nat} {w : UInt64} : av_c φ (dv w) = .double w := by
  show Value.double (UInt64.ofNat ((w.toNat : Int)).toNat) = _
  rw [Int.toNat_natCast, UInt64.ofNat_toNat]
theorem av_fv {φ : Nat → Nat} {w : UInt32} : av_c φ (fv w) = .float w := by
  show Value.float (UInt32.ofNat ((w.toNat : Int)).toNat) = _
  rw [Int.toNat_natCast, UInt32.ofNat_toNat]
theorem VR_d {n : Nat} {w : UInt64} : VR n (dv w) := VR_o (show (4 : Nat) ≠ 0 by decide) (show (4 : Nat) ≠ 1 by decide)
theorem VR_f {n : Nat} {w : UInt32} : VR n (fv w) := VR_o (show (3 : Nat) ≠ 0 by decide) (show (3 : Nat) ≠ 1 by decide)
theorem m_dv {φ : Nat → Nat} {w : UInt64} {S : List AV} : (dv w :: S).map (av_c φ) = .double w :: S.map (av_c φ) := by rw [List.map_cons, av_dv]
theorem m_fv {φ : Nat → Nat} {w : UInt32} {S : List AV} : (fv w :: S).map (av_c φ) = .float w :: S.map (av_c φ) := by rw [List.map_cons, av_fv]
theorem LSv.set2 {φ : Nat → Nat} {L : List AV} {ls' : Array Slot} {nL i : Nat} {v' : AV} {w : Value} (hc : catok L i = true) (hw : av_c φ v' = w) (hi : i + 1 < L.length)
    (h' : lv_has ls' nL ((i, w) :: (lA φ 0 L).filter (fun q => !(q.1 == i) && (!(q.1 == i + 1) && !(q.1 + 1 == i && q.2.category == 2))))) : LSv φ ((L.set i v').set (i + 1) uv) ls' nL := by
  refine ⟨h'.1, h'.2.1, fun q hq => ?_⟩
  obtain ⟨k, u, h1, h2, h3⟩ := lA_mem.mp hq
  rw [Nat.zero_add] at h3
  by_cases hk1 : k = i + 1
  · subst hk1
    rw [List.getElem?_set_self (by rw [List.length_set]; exact hi)] at h1
    cases h1
    exact absurd rfl h2
  · rw [List.getElem?_set_ne (fun e => hk1 e.symm)] at h1
    by_cases hk : k = i
    · subst hk
      rw [List.getElem?_set_self (by omega)] at h1
      cases h1
      rw [h3, hw]
      exact h'.2.2 _ List.mem_cons_self
    · rw [List.getElem?_set_ne (fun e => hk e.symm)] at h1
      refine h'.2.2 q (List.mem_cons_of_mem _ (List.mem_filter.mpr ⟨lA_mem.mpr ⟨k, u, h1, h2, by rw [Nat.zero_add]; exact h3⟩, ?_⟩))
      rw [h3]
      have h5 : ¬ (k + 1 = i ∧ (av_c φ u).category = 2) := by
        rintro ⟨rfl, h6⟩
        simp only [catok, h1, Bool.and_eq_true, bne_iff_ne, ne_eq] at hc
        have := av_cat (φ := φ) hc.1 hc.2
        omega
      simp only [Bool.and_eq_true, Bool.not_eq_true', beq_eq_false_iff_ne, ne_eq, Bool.and_eq_false_iff]
      refine ⟨hk, hk1, ?_⟩
      by_cases h7 : k + 1 = i
      · exact Or.inr fun h8 => h5 ⟨h7, h8⟩
      · exact Or.inl h7
section EvD2
variable {M : MD} {d pc : Nat} {L S : List AV} {h : AH} {Q : AV → AH → Prop}
theorem ev_dconst0 (hd : decode M.cc pc = .ok (.dconst 0, 1)) (k : EV M d (pc + 1) L (dv FP.dconst0 :: S) h Q) : EV M d pc L S h Q :=
  ev_pure k (fun _ hS _ => SR_c VR_d hS) (fun _ _ _ C _ _ k => lv_dconst0 C.1 C.2.1 hd (by rw [← m_dv]; exact k))
theorem ev_fconst0 (hd : decode M.cc pc = .ok (.fconst 0, 1)) (k : EV M d (pc + 1) L (fv FP.fconst0 :: S) h Q) : EV M d pc L S h Q :=
  ev_pure k (fun _ hS _ => SR_c VR_f hS) (fun _ _ _ C _ _ k => lv_fconst0 C.1 C.2.1 hd (by rw [← m_fv]; exact k))
theorem ev_i2d {x : Int} (hd : decode M.cc pc = .ok (.i2d, 1)) (k : EV M d (pc + 1) L (dv (FP.i2d (Int32.ofInt x)) :: S) h Q) : EV M d pc L (iv x :: S) h Q :=
  ev_pure k (fun _ hS _ => SR_c VR_d (SR_t hS)) (fun _ _ _ C _ _ k => lv_i2d C.1 C.2.1 hd (by rw [← m_dv]; exact k))
theorem ev_i2f {x : Int} (hd : decode M.cc pc = .ok (.i2f, 1)) (k : EV M d (pc + 1) L (fv (FP.i2f (Int32.ofInt x)) :: S) h Q) : EV M d pc L (iv x :: S) h Q :=
  ev_pure k (fun _ hS _ => SR_c VR_f (SR_t hS)) (fun _ _ _ C _ _ k => lv_i2f C.1 C.2.1 hd (by rw [← m_fv]; exact k))
theorem ev_f2d {w : UInt32} (hd : decode M.cc pc = .ok (.f2d, 1)) (hne : vf_n64 (FP.f2d w)) (k : EV M d (pc + 1) L (dv (FP.f2d w) :: S) h Q) : EV M d pc L (fv w :: S) h Q :=
  ev_pure k (fun _ hS _ => SR_c VR_d (SR_t hS)) (fun _ _ _ C _ _ k => by
    rw [m_fv]
    exact lv_f2d C.1 C.2.1 hd hne (by rw [← m_dv]; exact k))
theorem ev_ddiv {x y : UInt64} (hd : decode M.cc pc = .ok (.ddiv, 1)) (hne : vf_n64 (FP.ddiv x y)) (k : EV M d (pc + 1) L (dv (FP.ddiv x y) :: S) h Q) : EV M d pc L (dv y :: dv x :: S) h Q :=
  ev_pure k (fun _ hS _ => SR_c VR_d (SR_t (SR_t hS))) (fun _ _ _ C _ _ k => by
    rw [m_dv, m_dv]
    exact lv_ddiv C.1 C.2.1 hd hne (by rw [← m_dv]; exact k))
theorem ev_fdiv {x y : UInt32} (hd : decode M.cc pc = .ok (.fdiv, 1)) (hne : vf_n32 (FP.fdiv x y)) (k : EV M d (pc + 1) L (fv (FP.fdiv x y) :: S) h Q) : EV M d pc L (fv y :: fv x :: S) h Q :=
  ev_pure k (fun _ hS _ => SR_c VR_f (SR_t (SR_t hS))) (fun _ _ _ C _ _ k => by
    rw [m_fv, m_fv]
    exact lv_fdiv C.1 C.2.1 hd hne (by rw [← m_fv]; exact k))
/-- what dcmp answers -/
def dcv (x y : UInt64) (op : CmpOp) : Int := (Op.cmpValue (FP.dcmp x y) op).toInt
theorem ev_dcmp {x y : UInt64} {op : CmpOp} (hd : decode M.cc pc = .ok (.dcmp op, 1)) (k : EV M d (pc + 1) L (iv (dcv x y op) :: S) h Q) : EV M d pc L (dv y :: dv x :: S) h Q :=
  ev_pure k (fun _ hS _ => SR_c (VR_i ⟨Int32.le_toInt _, by have := Int32.toInt_lt (Op.cmpValue (FP.dcmp x y) op); unfold dcv; omega⟩) (SR_t (SR_t hS))) (fun _ _ _ C _ _ k => by
    rw [m_dv, m_dv]
    refine lv_dcmp C.1 C.2.1 hd ?_
    have e : Int32.ofInt (dcv x y op) = Op.cmpValue (FP.dcmp x y) op := by unfold dcv; exact Int32.ofInt_toInt _
    rw [← e]; exact k)
theorem ev_dld {i : Nat} {w : UInt64} (hd : decode M.cc pc = .ok (.dload i, 2)) (hi : L[i]? = some (dv w)) (k : EV M d (pc + 2) L (dv w :: S) h Q) : EV M d pc L S h Q :=
  ev_pure k (fun _ hS _ => SR_c VR_d hS) (fun _ _ _ C _ hl k => lv_dload C.1 C.2.1 hd (by have := hl.at hi (show (4 : Nat) ≠ 9 by decide); rw [av_dv] at this; exact this) (by rw [← m_dv]; exact k))
theorem ev_fld {i : Nat} {w : UInt32} (hd : decode M.cc pc = .ok (.fload i, 2)) (hi : L[i]? = some (fv w)) (k : EV M d (pc + 2) L (fv w :: S) h Q) : EV M d pc L S h Q :=
  ev_pure k (fun _ hS _ => SR_c VR_f hS) (fun _ _ _ C _ hl k => lv_fload C.1 C.2.1 hd (by have := hl.at hi (show (3 : Nat) ≠ 9 by decide); rw [av_fv] at this; exact this) (by rw [← m_fv]; exact k))
theorem ev_fstx {i : Nat} {w : UInt32} (hd : decode M.cc pc = .ok (.fstore i, 2)) (k : EV M d (pc + 2) (L.set i (fv w)) S h Q) (hi : i < M.ml := by decide) (hc : catok L i = true := by rfl) : EV M d pc L (fv w :: S) h Q :=
  ev_st k (fun _ hS => SR_h hS) hi hc (fun q => q) (fun {p l e R s m args below meth c D base scr φ H locs ls cells slots Q} _ _ C hl k => by
    rw [m_fv]
    exact lv_fstore C.1 C.2.1 hd hl hi rfl (fun ls' h' => k ls' (by rw [av_fv]; exact h')))
theorem ev_dstx {i : Nat} {w : UInt64} (hd : decode M.cc pc = .ok (.dstore i, 2)) (k : EV M d (pc + 2) ((L.set i (dv w)).set (i + 1) uv) S h Q) (hi : i + 1 < M.ml := by decide) (hl : i + 1 < L.length := by decide) (hc : catok L i = true := by rfl) : EV M d pc L (dv w :: S) h Q := by
  intro hL hS hR
  obtain ⟨o, h', q, x⟩ := k ((hL.set VR_d).set VR_9) (SR_t hS) hR
  refine ⟨o, h', q, x.1, ?_⟩
  intro p l e R s m args below meth c D base scr φ cA H locs ls x0 y0 Qc XC C h1 h2 h3 h4 hP hls hQ
  rw [m_dv]
  exact lv_dstore C.1 C.2.1 hd hls hi rfl (fun ls' h' => x.2 p l e R s m args below meth c D base scr φ cA H locs ls' x0 y0 Qc XC C h1 h2 h3 h4 hP (LSv.set2 hc av_dv hl h') hQ)
theorem ev_dast {a i : Int} {w : UInt64} {n r : Nat} (hd : decode M.cc pc = .ok (.dastore, 1)) (hk : h.kd r = (103, n)) (hn : r < h.n) (ha : a = (r : Int)) (hi : 0 ≤ i) (hj : i < (n : Int))
    (kk : EV M d (pc + 1) L S (h.put r i.toNat (w.toNat : Int)) Q) : EV M d pc L (dv w :: iv i :: rv a :: S) h Q := by
  subst ha
  rw [AH.row_self] at kk
  refine ev_wr kk (fun _ hS hR => ⟨SR_t (SR_t (SR_t hS)), fun j => ?_⟩) ?_
  · by_cases q : j = i.toNat
    · rw [if_pos q, hk]
      exact VR_o (show (4 : Nat) ≠ 0 by decide) (show (4 : Nat) ≠ 1 by decide)
    · rw [if_neg q]
      exact hR r hn j
  · intro p l e R s m args below meth c D base scr φ cA H locs ls cells slots Q _ hS _ X P hl W0
    have e1 : (dv w :: iv i :: rv (r : Int) :: S).map (av_c φ) = .double w :: .int (Int32.ofInt i) :: .ref (φ r) :: S.map (av_c φ) := by
      rw [m_dv, List.map_cons, List.map_cons, av_n]; rfl
    have hK := P.1.2.2.2 r hn (by rw [hk]; show 100 ≤ 103; omega)
    rw [hk] at hK
    have hi' := SR_hi (SR_t hS)
    rw [e1]
    refine va_dast X.1 X.2.1 hK P.1.1 P.1.2.1 P.S r 0 (wl_d hn hk) rfl (ofI_in hi hj hi') hd (fun H1 locs1 p1 p2 p3 => W0 H1 locs1 (P.row hn ?_ p1 p2 p3))
    unfold aE
    rw [hk, ofI_c hi']
    refine congrArg (fun f => (Sum.inl (cA r, n, Sum.inr (Sum.inr (Sum.inr (Sum.inl f)))) : va_E)) (funext fun j => ?_)
    unfold vf_upd
    by_cases q : j = i.toNat <;> simp [q]
theorem ev_dald {a i : Int} {w : UInt64} {n r : Nat} (hd : decode M.cc pc = .ok (.daload, 1)) (hk : h.kd r = (103, n)) (hn : r < h.n) (ha : a = (r : Int)) (hi : 0 ≤ i) (hj : i < (n : Int)) (hw : h.vl r i.toNat = (w.toNat : Int))
    (kk : EV M d (pc + 1) L (dv w :: S) h Q) : EV M d pc L (iv i :: rv a :: S) h Q := by
  subst ha
  refine ev_pure kk (fun _ hS hR => SR_c VR_d (SR_t (SR_t hS))) ?_
  intro p l e R s m args below meth c D base scr φ cA H locs ls cells slots Q _ hS _ X P hl W0
  have e1 : (iv i :: rv (r : Int) :: S).map (av_c φ) = .int (Int32.ofInt i) :: .ref (φ r) :: S.map (av_c φ) := by
    rw [List.map_cons, List.map_cons, av_n]; rfl
  have hK := P.1.2.2.2 r hn (by rw [hk]; show 100 ≤ 103; omega)
  rw [hk] at hK
  rw [e1]
  refine va_dald X.1 X.2.1 hK P.1.1 r 0 (wl_d hn hk) rfl (ofI_in hi hj (SR_hi hS)) hd ?_
  rw [ofI_c (SR_hi hS)]
  show W p l e R s m args below meth c H locs cells slots Q (F0 m (pc + 1) ls (.double (UInt64.ofNat (h.vl r i.toNat).toNat) :: S.map (av_c φ)))
  rw [hw, Int.toNat_natCast, UInt64.ofNat_toNat, ← m_dv]
  exact W0
theorem ev_dret {w : UInt64} (hd : decode M.cc pc = .ok (.dreturn, 1)) (hq : Q (dv w) h) (hr : M.rt = some .double := by rfl) : EV M d pc L [dv w] h Q :=
  ev_end hq (fun _ hS => SR_h hS) (fun {p l e R s m args below meth c D base scr φ H locs ls cells slots Qc free} C hQ hf => by
    rw [m_dv]
    exact W.dret C.1 C.2.1 (C.2.2.1.trans hr) (fun t a b => by have := hQ t a b; rw [show ro φ (dv w) = some (av_c φ (dv w)) from rfl, av_dv] at this; exact this) hf hd C.2.2.2.2.2.2.1) (show (4 : Nat) ≠ 7 by decide)
theorem ev_fret {w : UInt32} (hd : decode M.cc pc = .ok (.freturn, 1)) (hq : Q (fv w) h) (hr : M.rt = some .float := by rfl) : EV M d pc L [fv w] h Q :=
  ev_end hq (fun _ hS => SR_h hS) (fun {p l e R s m args below meth c D base scr φ H locs ls cells slots Qc free} C hQ hf => by
    rw [m_fv]
    exact W.fret C.1 C.2.1 (C.2.2.1.trans hr) (fun t a b => by have := hQ t a b; rw [show ro φ (fv w) = some (av_c φ (fv w)) from rfl, av_fv] at this; exact this) hf hd C.2.2.2.2.2.2.1) (show (3 : Nat) ≠ 7 by decide)
end EvD2
