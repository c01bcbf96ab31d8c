/-! more instructions: Object's constructor, longs, switches, rows of references, the script -/
theorem i2l_of {x : Int} (h : ir x) : (Int32.ofInt x).toInt64 = Int64.ofInt x := by
  rw [← Int64.toInt_inj, Int32.toInt_toInt64, ofI_t h, Int64.toInt_ofInt_of_le (by have := h.1; omega) (by have := h.2; omega)]
theorem ofL_t {x : Int} (h : ir x) : (Int64.ofInt x).toInt = x := Int64.toInt_ofInt_of_le (by have := h.1; omega) (by have := h.2; omega)
def cmpI (x y : Int) : Int := if y < x then 1 else if x = y then 0 else -1
theorem cmpI_0 {x y : Int} : cmpI x y = 0 ↔ x = y := by
  unfold cmpI
  by_cases h : y < x
  · simp [h]; omega
  · by_cases h2 : x = y <;> simp [h2]
    omega
theorem lcmp_of {x y : Int} (hx : ir x) (hy : ir y) : lg_cmp (Int64.ofInt x) (Int64.ofInt y) = Int32.ofInt (cmpI x y) := by
  unfold lg_cmp cmpI
  have e1 : (Int64.ofInt x > Int64.ofInt y) ↔ y < x := by rw [gt_iff_lt, Int64.lt_iff_toInt_lt, ofL_t hx, ofL_t hy]
  have e2 : (Int64.ofInt x = Int64.ofInt y) ↔ x = y := by rw [← Int64.toInt_inj, ofL_t hx, ofL_t hy]
  by_cases h1 : y < x
  · rw [if_pos (e1.mpr h1), if_pos h1]; rfl
  · rw [if_neg (fun z => h1 (e1.mp z)), if_neg h1]
    by_cases h2 : x = y
    · rw [if_pos (e2.mpr h2), if_pos h2]; rfl
    · rw [if_neg (fun z => h2 (e2.mp z)), if_neg h2]; rfl
theorem wl_l {φ : Nat → Nat} {cA : Nat → ClassId} {h : AH} {r n : Nat} (hn : r < h.n) (hk : h.kd r = (102, n)) : (wl φ cA h)[r]? = some (φ r, .inl (cA r, n, .inr (.inl (fun j => Int64.ofInt (h.vl r j))))) := by
  rw [wl_at hn]
  unfold aE
  rw [hk]
  rfl
theorem wl_d {φ : Nat → Nat} {cA : Nat → ClassId} {h : AH} {r n : Nat} (hn : r < h.n) (hk : h.kd r = (103, n)) : (wl φ cA h)[r]? = some (φ r, .inl (cA r, n, .inr (.inr (.inr (.inl (fun j => UInt64.ofNat (h.vl r j).toNat)))))) := by
  rw [wl_at hn]
  unfold aE
  rw [hk]
  rfl
theorem wl_b {φ : Nat → Nat} {cA : Nat → ClassId} {h : AH} {r n : Nat} (hn : r < h.n) (hk : h.kd r = (101, n)) : (wl φ cA h)[r]? = some (φ r, .inl (cA r, n, .inl (fun j => Int32.ofInt (h.vl r j)))) := by
  rw [wl_at hn]
  unfold aE
  rw [hk]
  rfl
theorem aE_q {φ : Nat → Nat} {cA : ClassId} {c n : Nat} {v : Nat → Int} (hc : 104 ≤ c) : aE φ cA (c, n) v = .inl (cA, n, .inr (.inr (.inr (.inr (fun j => if v j < 0 then none else some (φ (v j).toNat)))))) := by
  unfold aE
  rw [if_neg (show ¬ c < 100 by omega), if_neg (show ¬ c = 102 by omega), if_neg (show ¬ c = 103 by omega), if_neg (show ¬ c < 104 by omega)]
theorem wl_q {φ : Nat → Nat} {cA : Nat → ClassId} {h : AH} {r n c : Nat} (hn : r < h.n) (hk : h.kd r = (c, n)) (hc : 104 ≤ c) : (wl φ cA h)[r]? = some (φ r, .inl (cA r, n, .inr (.inr (.inr (.inr (fun j => if h.vl r j < 0 then none else some (φ (h.vl r j).toNat))))))) := by
  rw [wl_at hn, hk, aE_q hc]
theorem kt_q {c j : Nat} (hc : 104 ≤ c) : kt c j = 1 := by
  unfold kt
  rw [if_neg (show ¬ c < 100 by omega), if_neg (show ¬ c = 102 by omega), if_neg (show ¬ c = 103 by omega), if_neg (show ¬ c < 104 by omega)]
theorem kz_q {c n j : Nat} (hc : 104 ≤ c) : kz (c, n) j = -1 := by
  unfold kz
  rw [if_pos (kt_q hc)]
theorem av_n {φ : Nat → Nat} {r : Nat} : av_c φ (rv (r : Int)) = .ref (φ r) := by simp [av_c, show ¬ ((r : Int) < 0) by omega]
section EvX
variable {M : MD} {d pc : Nat} {L S : List AV} {h : AH} {Q : AV → AH → Prop}
def LKO (own : String) (idx : Nat) : Prop := Cond.methodLink own idx Lib.objectInit ∈ gw ∧ Cond.instanceMethod Lib.objectInit ∈ gw ∧ Cond.code Lib.objectInit ⟨#[0xb1]⟩ 1 none ∈ gw
theorem ev_oinit {idx : Nat} {a : Int} (hd : decode M.cc pc = .ok (.invokespecial idx, 3)) (lk : LKO M.y.cls idx) (ha : 0 ≤ a) (hS : S.length ≤ 4) (k : EV M d (pc + 3) L S h Q) : EV M d pc L (rv a :: S) h Q := by
  refine ev_pure k (fun _ hS _ => SR_t hS) ?_
  intro p l e R s m args below meth c D base scr φ cA H locs ls cells slots Q _ hS' _ X P hl W0
  obtain ⟨hx, hb, hr, hml, hown, hts, hlk, htr, htb, hnm, hK, hbs, hG, hf, hlo⟩ := X
  have hrm := st_w (φ := φ) (m := m) (pc := pc) (ls := ls) (st0 := (rv a :: S).map (av_c φ)) hS
  rw [List.map_cons, rv_c ha] at hrm ⊢
  exact W.objInit hx hb hown (hts _ lk.1) (hts _ lk.2.1) (hts _ lk.2.2) rfl (hl.1.trans hml.symm) rfl hd (by omega) (by omega) W0
theorem ev_i2l {x : Int} (hd : decode M.cc pc = .ok (.i2l, 1)) (k : EV M d (pc + 1) L ((2, x) :: S) h Q) : EV M d pc L (iv x :: S) h Q :=
  ev_pure k (fun _ hS _ => SR_c (VR_o (show (2 : Nat) ≠ 0 by decide) (show (2 : Nat) ≠ 1 by decide)) (SR_t hS)) (fun _ hS _ C _ _ k => lv_i2l C.1 C.2.1 hd (i2l_of (SR_hi hS)) k)
theorem ev_lconst {n : Fin 2} (hd : decode M.cc pc = .ok (.lconst n, 1)) (k : EV M d (pc + 1) L ((2, ((n : Nat) : Int)) :: S) h Q) : EV M d pc L S h Q :=
  ev_pure k (fun _ hS _ => SR_c (VR_o (show (2 : Nat) ≠ 0 by decide) (show (2 : Nat) ≠ 1 by decide)) hS) (fun _ _ _ C _ _ k => lv_lconst C.1 C.2.1 hd (by rcases n with ⟨n, hn⟩; show Int64.ofNat n = Int64.ofInt (n : Int); exact (Int64.ofInt_eq_ofNat).symm) k)
theorem ev_last {a i x : Int} {n r : Nat} (hd : decode M.cc pc = .ok (.lastore, 1)) (hk : h.kd r = (102, n)) (hn : r < h.n) (ha : a = (r : Int)) (hi : 0 ≤ i) (hj : i < (n : Int))
    (kk : EV M d (pc + 1) L S (h.put r i.toNat x) Q) : EV M d pc L ((2, x) :: iv i :: rv a :: S) h Q := by
  subst ha
  rw [AH.row_self] at kk
  refine ev_wr kk (fun _ hS hR => ⟨SR_t (SR_t (SR_t hS)), fun j => ?_⟩) ?_
  · by_cases q : j = i.toNat
    · rw [if_pos q, hk]
      exact VR_o (show (2 : Nat) ≠ 0 by decide) (show (2 : Nat) ≠ 1 by decide)
    · rw [if_neg q]
      exact hR r hn j
  · intro p l e R s m args below meth c D base scr φ cA H locs ls cells slots Q _ hS _ X P hl W0
    have e1 : ((2, x) :: iv i :: rv (r : Int) :: S).map (av_c φ) = .long (Int64.ofInt x) :: .int (Int32.ofInt i) :: .ref (φ r) :: S.map (av_c φ) := by
      rw [List.map_cons, List.map_cons, List.map_cons, av_n]; rfl
    have hK := P.1.2.2.2 r hn (by rw [hk]; show 100 ≤ 102; omega)
    rw [hk] at hK
    have hi' := SR_hi (SR_t hS)
    rw [e1]
    refine va_last X.1 X.2.1 hK P.1.1 P.1.2.1 P.S r 0 (wl_l hn hk) rfl (ofI_in hi hj hi') hd (fun H1 locs1 p1 p2 p3 => W0 H1 locs1 (P.row hn ?_ p1 p2 p3))
    unfold aE
    rw [hk, ofI_c hi']
    refine congrArg (fun f => (Sum.inl (cA r, n, Sum.inr (Sum.inl f)) : va_E)) (funext fun j => ?_)
    unfold vp_updL
    by_cases q : j = i.toNat <;> simp [q]
theorem ev_lald {a i : Int} {n r : Nat} (hd : decode M.cc pc = .ok (.laload, 1)) (hk : h.kd r = (102, n)) (hn : r < h.n) (ha : a = (r : Int)) (hi : 0 ≤ i) (hj : i < (n : Int))
    (kk : EV M d (pc + 1) L ((2, h.vl r i.toNat) :: S) h Q) : EV M d pc L (iv i :: rv a :: S) h Q := by
  subst ha
  refine ev_pure kk (fun _ hS hR => SR_c (VR_o (show (2 : Nat) ≠ 0 by decide) (show (2 : Nat) ≠ 1 by decide)) (SR_t (SR_t hS))) ?_
  intro p l e R s m args below meth c D base scr φ cA H locs ls cells slots Q _ hS _ X P hl W0
  have e1 : (iv i :: rv (r : Int) :: S).map (av_c φ) = .int (Int32.ofInt i) :: .ref (φ r) :: S.map (av_c φ) := by
    rw [List.map_cons, List.map_cons, av_n]; rfl
  have hK := P.1.2.2.2 r hn (by rw [hk]; show 100 ≤ 102; omega)
  rw [hk] at hK
  rw [e1]
  refine va_lald X.1 X.2.1 hK P.1.1 r 0 (wl_l hn hk) rfl (ofI_in hi hj (SR_hi hS)) hd ?_
  rw [ofI_c (SR_hi hS)]
  exact W0
theorem ev_lcmp {x y : Int} (hd : decode M.cc pc = .ok (.lcmp, 1)) (hx : ir x) (hy : ir y) (k : EV M d (pc + 1) L (iv (cmpI x y) :: S) h Q) : EV M d pc L ((2, y) :: (2, x) :: S) h Q :=
  ev_pure k (fun _ hS _ => SR_c (VR_i (by unfold cmpI ir; split <;> (try split) <;> omega)) (SR_t (SR_t hS))) (fun _ hS _ C _ _ k => W.lcmp C.1 C.2.1 hd (by rw [lcmp_of hx hy]; exact k))
theorem ev_ineg {x : Int} (hd : decode M.cc pc = .ok (.ineg, 1)) (hr : ir (-x)) (k : EV M d (pc + 1) L (iv (-x) :: S) h Q) : EV M d pc L (iv x :: S) h Q :=
  ev_pure k (fun _ hS _ => SR_c (VR_i hr) (SR_t hS)) (fun _ _ _ C _ _ k => lv_ineg C.1 C.2.1 hd (by rw [← Int32.ofInt_neg]; exact k))
/-- bits in common -/
def ian (x y : Int) : Int := (Int32.ofInt x &&& Int32.ofInt y).toInt
theorem ian_ir (x y : Int) : ir (ian x y) := ⟨Int32.le_toInt _, by have := Int32.toInt_lt (Int32.ofInt x &&& Int32.ofInt y); unfold ian; omega⟩
theorem ev_iand {x y : Int} (hd : decode M.cc pc = .ok (.iand, 1)) (k : EV M d (pc + 1) L (iv (ian x y) :: S) h Q) : EV M d pc L (iv y :: iv x :: S) h Q :=
  ev_pure k (fun _ hS _ => SR_c (VR_i (ian_ir x y)) (SR_t (SR_t hS))) (fun _ _ _ C _ _ k => lv_iand C.1 C.2.1 hd (by
    have e : Int32.ofInt (ian x y) = Int32.ofInt x &&& Int32.ofInt y := by unfold ian; exact Int32.ofInt_toInt _
    rw [← e]; exact k))
theorem ev_tsI {dflt lo hi : Int} {offs : Array Int} {len : Nat} (tgt : Nat) {x : Int} (off : Int) (hd : decode M.cc pc = .ok (.tableswitch dflt lo hi offs, len)) (h1 : lo ≤ x) (h2 : x ≤ hi) (ho : offs[(x - lo).toNat]? = some off) (k : EV M d tgt L S h Q) (ht : (pc : Int) + off = (tgt : Int) := by decide) : EV M d pc L (iv x :: S) h Q :=
  ev_pure k (fun _ hS _ => SR_t hS) (fun _ hS _ C _ _ k => lv_tableIn C.1 C.2.1 hd (by rw [ofI_t (SR_hi hS)]; omega) (by rw [ofI_t (SR_hi hS)]; omega) (by rw [ofI_t (SR_hi hS)]; exact ho) ht k)
theorem ev_tsO {dflt lo hi : Int} {offs : Array Int} {len : Nat} (tgt : Nat) {x : Int} (hd : decode M.cc pc = .ok (.tableswitch dflt lo hi offs, len)) (h1 : x < lo ∨ hi < x) (k : EV M d tgt L S h Q) (ht : (pc : Int) + dflt = (tgt : Int) := by decide) : EV M d pc L (iv x :: S) h Q :=
  ev_pure k (fun _ hS _ => SR_t hS) (fun _ hS _ C _ _ k => lv_tableOut C.1 C.2.1 hd (by rw [ofI_t (SR_hi hS)]; exact h1) ht k)
theorem ev_aald {a i : Int} {n r c : Nat} {C : String} (hd : decode M.cc pc = .ok (.aaload, 1)) (hC : aty c = .object C) (hc : 104 ≤ c) (hk : h.kd r = (c, n)) (hn : r < h.n) (ha : a = (r : Int)) (hi : 0 ≤ i) (hj : i < (n : Int))
    (kk : EV M d (pc + 1) L (rv (h.vl r i.toNat) :: S) h Q) : EV M d pc L (iv i :: rv a :: S) h Q := by
  subst ha
  refine ev_pure kk (fun _ hS hR => SR_c ?_ (SR_t (SR_t hS))) ?_
  · have := hR r hn i.toNat
    rw [hk, show kt (c, n).1 i.toNat = 1 from kt_q hc] at this
    exact this
  · intro p l e R s m args below meth c' D base scr φ cA H locs ls cells slots Q _ hS _ X P hl W0
    have e1 : (iv i :: rv (r : Int) :: S).map (av_c φ) = .int (Int32.ofInt i) :: .ref (φ r) :: S.map (av_c φ) := by
      rw [List.map_cons, List.map_cons, av_n]; rfl
    have hK : va_K D vwCl [(cA r, .object C)] s := by
      have := P.1.2.2.2 r hn (by rw [hk]; show 100 ≤ c; omega)
      rw [hk] at this
      rw [← hC]; exact this
    rw [e1]
    refine va_aldq X.1 X.2.1 hK P.1.1 r 0 (wl_q hn hk hc) rfl (ofI_in hi hj (SR_hi hS)) hd ?_
    rw [ofI_c (SR_hi hS)]
    have e2 : va_rf (if h.vl r i.toNat < 0 then none else some (φ (h.vl r i.toNat).toNat)) = av_c φ (rv (h.vl r i.toNat)) := by
      by_cases q : h.vl r i.toNat < 0 <;> simp [av_c, q, va_rf]
    rw [e2]
    exact W0
theorem ev_aast {a i x : Int} {n r c ci N N' : Nat} {C : String} {T : u_T} {ty : Nat → FieldType} (hd : decode M.cc pc = .ok (.aastore, 1)) (hC : aty c = .object C) (hc : 104 ≤ c) (hKC : KC ci C T ty N') (hk : h.kd r = (c, n)) (hn : r < h.n) (ha : a = (r : Int)) (hi : 0 ≤ i) (hj : i < (n : Int)) (hx : 0 ≤ x → h.kd x.toNat = (ci, N))
    (kk : EV M d (pc + 1) L S (h.put r i.toNat x) Q) : EV M d pc L (rv x :: iv i :: rv a :: S) h Q := by
  subst ha
  rw [AH.row_self] at kk
  refine ev_wr kk (fun _ hS hR => ⟨SR_t (SR_t (SR_t hS)), fun j => ?_⟩) ?_
  · by_cases q : j = i.toNat
    · rw [if_pos q, hk, show kt (c, n).1 j = 1 from kt_q hc]
      exact SR_h hS
    · rw [if_neg q]
      exact hR r hn j
  · intro p l e R s m args below meth c' D base scr φ cA H locs ls cells slots Q _ hS _ X P hl W0
    have hK : va_K D vwCl [(cA r, .object C)] s := by
      have := P.1.2.2.2 r hn (by rw [hk]; show 100 ≤ c; omega)
      rw [hk] at this
      rw [← hC]; exact this
    have hi' := SR_hi (SR_t hS)
    have hxn := (SR_h hS).2 rfl
    by_cases q : x < 0
    · have e1 : (rv x :: iv i :: rv (r : Int) :: S).map (av_c φ) = .null :: .int (Int32.ofInt i) :: .ref (φ r) :: S.map (av_c φ) := by
        rw [List.map_cons, List.map_cons, List.map_cons, av_n]; simp [av_c, q]
      rw [e1]
      refine va_astqN X.1 X.2.1 hK P.1.1 P.1.2.1 P.S r 0 (wl_q hn hk hc) rfl (ofI_in hi hj hi') hd (fun H1 locs1 p1 p2 p3 => W0 H1 locs1 (P.row hn ?_ p1 p2 p3))
      rw [hk, aE_q hc, ofI_c hi']
      refine congrArg (fun f => (Sum.inl (cA r, n, Sum.inr (Sum.inr (Sum.inr (Sum.inr f)))) : va_E)) (funext fun j => ?_)
      unfold va_up
      by_cases q2 : j = i.toNat <;> simp [q2, q]
    · have e1 : (rv x :: iv i :: rv (r : Int) :: S).map (av_c φ) = .ref (φ x.toNat) :: .int (Int32.ofInt i) :: .ref (φ r) :: S.map (av_c φ) := by
        rw [List.map_cons, List.map_cons, List.map_cons, av_n]; simp [av_c, q]
      have hv : (wl φ cA h)[x.toNat]? = some (φ x.toNat, .inr (ci, (List.range N).map (fun j => av_c φ (kt ci j, h.vl x.toNat j)))) := by
        rw [wl_at (by simp only at hxn; omega)]
        unfold aE
        rw [hx (by omega), if_pos hKC.1]
      rw [e1]
      refine va_astq (r := (C, T, N')) X.1 X.2.1 hK P.1.1 P.1.2.1 P.S r 0 x.toNat ci (wl_q hn hk hc) rfl hv hKC.2.1 (ofI_in hi hj hi') hd (fun H1 locs1 p1 p2 p3 => W0 H1 locs1 (P.row hn ?_ p1 p2 p3))
      rw [hk, aE_q hc, ofI_c hi']
      refine congrArg (fun f => (Sum.inl (cA r, n, Sum.inr (Sum.inr (Sum.inr (Sum.inr f)))) : va_E)) (funext fun j => ?_)
      unfold va_up
      by_cases q2 : j = i.toNat <;> simp [q2, q]
theorem ev_newq {idx : Nat} {n : Int} {c : Nat} {C : String} (hd : decode M.cc pc = .ok (.anewarray idx, 3)) (hl : Cond.classLink M.y.cls idx C ∈ gw) (hC : aty c = .object C) (hc : 104 ≤ c) (hm : C ∈ ["TypeTutor$Shape", "TypeTutor$State", "TypeTutor$Term"]) (h0 : 0 ≤ n) (h9 : n ≤ 100000000) (kk : EV M d (pc + 3) L (rv h.n :: S) (h.new (c, n.toNat)) Q) : EV M d pc L (iv n :: S) h Q := by
  refine ev_mk kk (fun q => SR_t q) ?_
  intro p l e R s m args below meth c' D base scr φ cA H locs ls cells slots Q _ hS _ X P hll h1 h2 W0
  obtain ⟨hx, hb, hr, hml, hown, hts, hlk, htr, htb, hnm, hK, hbs, hG, hf, hlo⟩ := X
  have hi := SR_hi hS
  refine va_newq (own := M.y.cls) hx hb hown (hts _ hl) (hG.1.2.2.2.2.1 C hm) hK P.1.1 P.1.2.1 P.S (fun q hq => Nat.le_trans hbs hq) (N' := n.toNat) (fun q => ?_) (ofI_c hi) ?_ h1 h2 hd
    (fun q cq H1 k1 p1 p2 p3 => W0 q cq H1 _ ?_ (fun _ => ?_) p1 p2 p3)
  · rw [of0, ofI_lt hi ir_0] at q
    omega
  · show n.toNat * 4 ≤ 536870912
    omega
  · rw [aE_q hc]
    refine congrArg (fun f => (Sum.inl (cq, n.toNat, Sum.inr (Sum.inr (Sum.inr (Sum.inr f)))) : va_E)) (funext fun j => ?_)
    rw [kz_q hc]
    rfl
  · show va_K D vwCl [(cq, aty c)] s
    rw [hC]
    exact k1
theorem ev_newb {n : Int} (hd : decode M.cc pc = .ok (.newarray .byte, 2)) (h0 : 0 ≤ n) (h9 : n ≤ 100000000) (kk : EV M d (pc + 2) L (rv h.n :: S) (h.new (101, n.toNat)) Q) (hw : Cond.arrayClass .byte ∈ gw) : EV M d pc L (iv n :: S) h Q := by
  refine ev_mk kk (fun q => SR_t q) ?_
  intro p l e R s m args below meth c D base scr φ cA H locs ls cells slots Q _ hS _ X P hl h1 h2 W0
  obtain ⟨hx, hb, hr, hml, hown, hts, hlk, htr, htb, hnm, hK, hbs, hG, hf, hlo⟩ := X
  have hi := SR_hi hS
  refine va_newa (atype := .byte) (ty := .byte) hx hb (hts _ hw) rfl hK P.1.1 P.1.2.1 P.S (fun q hq => Nat.le_trans hbs hq) (a0 := (n.toNat, .inl (fun _ => 0))) (N' := n.toNat) (fun cA => ?_) (fun q => ?_) (ofI_c hi) ?_ h1 h2 hd
    (fun q cq H1 k1 p1 p2 p3 => W0 q cq H1 _ rfl (fun _ => k1) p1 p2 p3)
  · first | rfl | simp [vp_cell, arrV_new, defaultValue]
  · rw [of0, ofI_lt hi ir_0] at q
    omega
  · show n.toNat * 1 ≤ 536870912
    omega
theorem ev_newl {n : Int} (hd : decode M.cc pc = .ok (.newarray .long, 2)) (h0 : 0 ≤ n) (h9 : n ≤ 10000000) (kk : EV M d (pc + 2) L (rv h.n :: S) (h.new (102, n.toNat)) Q) (hw : Cond.arrayClass .long ∈ gw) : EV M d pc L (iv n :: S) h Q := by
  refine ev_mk kk (fun q => SR_t q) ?_
  intro p l e R s m args below meth c D base scr φ cA H locs ls cells slots Q _ hS _ X P hl h1 h2 W0
  obtain ⟨hx, hb, hr, hml, hown, hts, hlk, htr, htb, hnm, hK, hbs, hG, hf, hlo⟩ := X
  have hi := SR_hi hS
  refine va_newa (atype := .long) (ty := .long) hx hb (hts _ hw) rfl hK P.1.1 P.1.2.1 P.S (fun q hq => Nat.le_trans hbs hq) (a0 := (n.toNat, .inr (.inl (fun _ => 0)))) (N' := n.toNat) (fun cA => ?_) (fun q => ?_) (ofI_c hi) ?_ h1 h2 hd
    (fun q cq H1 k1 p1 p2 p3 => W0 q cq H1 _ rfl (fun _ => k1) p1 p2 p3)
  · first | rfl | simp [vp_cell, arrV_new, defaultValue]
  · rw [of0, ofI_lt hi ir_0] at q
    omega
  · show n.toNat * 8 ≤ 536870912
    omega
theorem ev_newd {n : Int} (hd : decode M.cc pc = .ok (.newarray .double, 2)) (h0 : 0 ≤ n) (h9 : n ≤ 10000000) (kk : EV M d (pc + 2) L (rv h.n :: S) (h.new (103, n.toNat)) Q) (hw : Cond.arrayClass .double ∈ gw) : EV M d pc L (iv n :: S) h Q := by
  refine ev_mk kk (fun q => SR_t q) ?_
  intro p l e R s m args below meth c D base scr φ cA H locs ls cells slots Q _ hS _ X P hl h1 h2 W0
  obtain ⟨hx, hb, hr, hml, hown, hts, hlk, htr, htb, hnm, hK, hbs, hG, hf, hlo⟩ := X
  have hi := SR_hi hS
  refine va_newa (atype := .double) (ty := .double) hx hb (hts _ hw) rfl hK P.1.1 P.1.2.1 P.S (fun q hq => Nat.le_trans hbs hq) (a0 := (n.toNat, .inr (.inr (.inr (.inl (fun _ => 0)))))) (N' := n.toNat) (fun cA => ?_) (fun q => ?_) (ofI_c hi) ?_ h1 h2 hd
    (fun q cq H1 k1 p1 p2 p3 => W0 q cq H1 _ rfl (fun _ => k1) p1 p2 p3)
  · first | rfl | simp [vp_cell, arrV_new, defaultValue]
  · rw [of0, ofI_lt hi ir_0] at q
    omega
  · show n.toNat * 8 ≤ 536870912
    omega
theorem ev_gcs {idx : Nat} (hd : decode M.cc pc = .ok (.getstatic idx, 3)) (hl : Cond.fieldLink M.y.cls idx "java/lang/String" "COMPACT_STRINGS" "Z" ∈ gw) (k : EV M d (pc + 3) L (iv 1 :: S) h Q) : EV M d pc L S h Q := by
  refine ev_pure k (fun _ hS _ => SR_c (VR_i (by unfold ir; omega)) hS) ?_
  intro p l e R s m args below meth c D base scr φ cA H locs ls cells slots Q _ hS _ X P hll W0
  obtain ⟨hx, hb, hr, hml, hown, hts, hlk, htr, htb, hnm, hK, hbs, hG, hf, hlo⟩ := X
  exact va_gets hx hb hG.1.2.2.1 P.S hown (hts _ hl) (fun _ z => z) hd W0
/-! the script -/
theorem ev_alx {j : Fin 4} {x : Int} (hd : decode M.cc pc = .ok (.aload_n j, 1)) (hi : L[(j : Nat)]? = some (5, x)) (k : EV M d (pc + 1) L ((5, x) :: S) h Q) : EV M d pc L S h Q :=
  ev_pure k (fun hL hS _ => SR_c (hL _ (List.mem_of_getElem? hi)) hS) (fun _ _ _ C _ hl k => lv_aload_n C.1 C.2.1 hd rfl (hl.at hi (show (5 : Nat) ≠ 9 by decide)) k)
theorem ev_slen {b : Int} {n : Nat} (hd : decode M.cc pc = .ok (.arraylength, 1)) (ho : ∀ scr, M.ok scr → scr.1 = b.toNat ∧ scr.2.1 = n) (hn : n ≤ 100000) (k : EV M d (pc + 1) L (iv n :: S) h Q) : EV M d pc L ((5, b) :: S) h Q := by
  refine ev_pure k (fun _ hS _ => SR_c (VR_i (by unfold ir; omega)) (SR_t hS)) ?_
  intro p l e R s m args below meth c D base scr φ cA H locs ls cells slots Q _ hS _ X P hll W0
  obtain ⟨hx, hb, hr, hml, hown, hts, hlk, htr, htb, hnm, hK, hbs, hG, hf, hlo⟩ := X
  obtain ⟨o1, o2⟩ := ho scr htb.2
  obtain ⟨g1, g2, g3⟩ := hG.2.1
  rw [o1] at g1 g2 g3
  rw [o2] at g1
  refine va_slen hx hb g1 g3 (by omega) P.S hd ?_
  have e2 : (iv (n : Int) :: S).map (av_c φ) = .int (Int32.ofNat n) :: S.map (av_c φ) := by
    rw [List.map_cons]
    show Value.int (Int32.ofInt (n : Int)) :: _ = _
    rw [Int32.ofInt_eq_ofNat]
  rw [e2] at W0
  exact W0
theorem ev_sld {b i : Int} {n : Nat} {xs : Nat → Int32} (hd : decode M.cc pc = .ok (.iaload, 1)) (ho : ∀ scr, M.ok scr → scr.1 = b.toNat ∧ scr.2.1 = n ∧ scr.2.2 = xs) (hi : 0 ≤ i) (hj : i < (n : Int)) (k : EV M d (pc + 1) L (iv (xs i.toNat).toInt :: S) h Q) : EV M d pc L (iv i :: (5, b) :: S) h Q := by
  refine ev_pure k (fun _ hS _ => SR_c (VR_i ⟨Int32.le_toInt _, by have := Int32.toInt_lt (xs i.toNat); omega⟩) (SR_t (SR_t hS))) ?_
  intro p l e R s m args below meth c D base scr φ cA H locs ls cells slots Q _ hS _ X P hll W0
  obtain ⟨hx, hb, hr, hml, hown, hts, hlk, htr, htb, hnm, hK, hbs, hG, hf, hlo⟩ := X
  obtain ⟨o1, o2, o3⟩ := ho scr htb.2
  obtain ⟨g1, g2, g3⟩ := hG.2.1
  rw [o1] at g1 g2 g3
  rw [o2, o3] at g1
  have e1 : (iv i :: (5, b) :: S).map (av_c φ) = .int (Int32.ofInt i) :: .ref b.toNat :: S.map (av_c φ) := rfl
  rw [e1]
  refine va_sld hx hb g1 g3 (by omega) P.S (ofI_in hi hj (SR_hi hS)) hd ?_
  rw [ofI_c (SR_hi hS)]
  have e2 : (iv (xs i.toNat).toInt :: S).map (av_c φ) = .int (xs i.toNat) :: S.map (av_c φ) := by
    rw [List.map_cons]
    show Value.int (Int32.ofInt (xs i.toNat).toInt) :: _ = _
    rw [Int32.ofInt_toInt]
  rw [e2] at W0
  exact W0
end EvX
