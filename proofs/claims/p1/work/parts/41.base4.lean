/-! shifts by nothing, bytes -/
section EvByte
variable {M : MD} {d pc : Nat} {L S : List AV} {h : AH} {Q : AV → AH → Prop}
theorem shr0 (x : Int32) : x >>> (Int32.ofInt 0 &&& 31) = x := by
  rw [show Int32.ofInt 0 &&& 31 = 0 from by decide]
  simp
theorem shl0 (x : Int32) : x <<< (Int32.ofInt 0 &&& 31) = x := by
  rw [show Int32.ofInt 0 &&& 31 = 0 from by decide]
  simp
theorem ev_ishr0 {x : Int} (hd : decode M.cc pc = .ok (.ishr, 1)) (k : EV M d (pc + 1) L (iv x :: S) h Q) : EV M d pc L (iv 0 :: iv x :: S) h Q :=
  ev_pure k (fun _ hS _ => SR_t hS) (fun _ _ _ C _ _ k => lv_ishr C.1 C.2.1 hd (by rw [shr0]; exact k))
theorem ev_ishl0 {x : Int} (hd : decode M.cc pc = .ok (.ishl, 1)) (k : EV M d (pc + 1) L (iv x :: S) h Q) : EV M d pc L (iv 0 :: iv x :: S) h Q :=
  ev_pure k (fun _ hS _ => SR_t hS) (fun _ _ _ C _ _ k => lv_ishl C.1 C.2.1 hd (by rw [shl0]; exact k))
theorem i2b_of {x : Int} (h1 : -128 ≤ x) (h2 : x ≤ 127) : (Int32.ofInt x).toInt8.toInt32 = Int32.ofInt x := by
  rw [show (Int32.ofInt x).toInt8 = Int8.ofInt x by rw [Int32.toInt8_ofInt]]
  exact i8 h1 h2
theorem ev_i2b {x : Int} (hd : decode M.cc pc = .ok (.i2b, 1)) (h1 : -128 ≤ x) (h2 : x ≤ 127) (k : EV M d (pc + 1) L (iv x :: S) h Q) : EV M d pc L (iv x :: S) h Q :=
  ev_pure k (fun _ hS _ => hS) (fun _ _ _ C _ _ k => lv_i2b C.1 C.2.1 hd (i2b_of h1 h2) k)
theorem ev_dupx1 {t u : Nat} {x y : Int} (hd : decode M.cc pc = .ok (.dup_x1, 1)) (k : EV M d (pc + 1) L ((t, x) :: (u, y) :: (t, x) :: S) h Q) (h2 : t ≠ 2 := by decide) (h4 : t ≠ 4 := by decide) (h2' : u ≠ 2 := by decide) (h4' : u ≠ 4 := by decide) : EV M d pc L ((t, x) :: (u, y) :: S) h Q :=
  ev_pure k (fun _ hS _ => SR_c (SR_h hS) (SR_c (SR_h (SR_t hS)) (SR_c (SR_h hS) (SR_t (SR_t hS))))) (fun _ _ _ C _ _ k => lv_dup_x1 C.1 C.2.1 hd (av_cat h2 h4) (av_cat h2' h4') k)
theorem ev_bast {a i x : Int} {n r : Nat} (hd : decode M.cc pc = .ok (.bastore, 1)) (h1 : -128 ≤ x) (h2 : x ≤ 127) (hk : h.kd r = (101, n)) (hn : r < h.n) (ha : a = (r : Int)) (hi : 0 ≤ i) (hj : i < (n : Int))
    (kk : EV M d (pc + 1) L S (h.put r i.toNat x) Q) : EV M d pc L (iv x :: iv i :: rv a :: S) h Q := by
  subst ha
  rw [AH.row_self] at kk
  refine ev_wr kk (fun _ hS hR => ⟨SR_t (SR_t (SR_t hS)), fun j => ?_⟩) ?_
  · by_cases q : j = i.toNat
    · rw [if_pos q, hk]
      exact SR_h hS
    · rw [if_neg q]
      exact hR r hn j
  · intro p l e R s m args below meth c D base scr φ cA H locs ls cells slots Q _ hS _ X P hl W0
    have e1 : (iv x :: iv i :: rv (r : Int) :: S).map (av_c φ) = .int (Int32.ofInt x) :: .int (Int32.ofInt i) :: .ref (φ r) :: S.map (av_c φ) := by
      rw [List.map_cons, List.map_cons, List.map_cons, av_n]; rfl
    have hK := P.1.2.2.2 r hn (by rw [hk]; show 100 ≤ 101; omega)
    rw [hk] at hK
    have hi' := SR_hi (SR_t hS)
    rw [e1]
    refine va_bast X.1 X.2.1 hK P.1.1 P.1.2.1 P.S r 0 (wl_b hn hk) rfl (ofI_in hi hj hi') hd (fun H1 locs1 p1 p2 p3 => W0 H1 locs1 (P.row hn ?_ p1 p2 p3))
    unfold aE
    rw [hk, ofI_c hi', vp_nar_byte, i2b_of h1 h2]
    refine congrArg (fun f => (Sum.inl (cA r, n, Sum.inl f) : va_E)) (funext fun j => ?_)
    unfold upd
    by_cases q : j = i.toNat <;> simp [q]
end EvByte
