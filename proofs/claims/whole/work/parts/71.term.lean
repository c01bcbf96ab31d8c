/-! rows of rows; a term's numbers -/
section EvRows
variable {M : MD} {d pc : Nat} {L S : List AV} {h : AH} {Q : AV → AH → Prop}
theorem ev_aal2 {a i : Int} {n r : Nat} (hd : decode M.cc pc = .ok (.aaload, 1)) (hk : h.kd r = (104, n)) (hn : r < h.n) (ha : a = (r : Int)) (hi : 0 ≤ i) (hj : i < (n : Int))
    (kk : EV M d (pc + 1) L (rv (h.vl r i.toNat) :: S) h Q) : EV M d pc L (iv i :: rv a :: S) h Q := by
  subst ha
  refine ev_pure kk (fun _ hS hR => SR_c ?_ (SR_t (SR_t hS))) ?_
  · have := hR r hn i.toNat
    rw [hk, show kt (104, n).1 i.toNat = 1 from kt_q (Nat.le_refl 104)] at this
    exact this
  · intro p l e R s m args below meth c' D base scr φ cA H locs ls cells slots Q _ hS _ X P hl W0
    have e1 : (iv i :: rv (r : Int) :: S).map (av_c φ) = .int (Int32.ofInt i) :: .ref (φ r) :: S.map (av_c φ) := by
      rw [List.map_cons, List.map_cons, av_n]; rfl
    have hK : va_K D vwCl [(cA r, .array .int)] s := by
      have := P.1.2.2.2 r hn (by rw [hk]; show 100 ≤ 104; omega)
      rw [hk] at this
      exact this
    rw [e1]
    have hin := ofI_in hi hj (SR_hi hS)
    have hlt : (Int32.ofInt i).toNatClampNeg < n := Nat.not_le.mp fun q => hin (Or.inr q)
    refine W.aald (v := va_rf (if h.vl r i.toNat < 0 then none else some (φ (h.vl r i.toNat).toNat))) (ty := .array .int) X.1 X.2.1 (P.1.1 r _ (wl_q hn hk (Nat.le_refl 104))) ((hK.2 0 _ rfl).1 n _) rfl (fun q => by cases q) (by show ¬ (Int32.ofInt i < 0 ∨ (arrV _ _ _).slots.size ≤ _); rw [arrV_size]; exact hin) (by show (arrV _ _ _).slots[_]? = _; rw [arrV_read _ _ hlt, ofI_c (SR_hi hS)]) rfl rfl hd ?_
    have e2 : va_rf (if h.vl r i.toNat < 0 then none else some (φ (h.vl r i.toNat).toNat)) = av_c φ (rv (h.vl r i.toNat)) := by
      by_cases q : h.vl r i.toNat < 0 <;> simp [av_c, q, va_rf]
    rw [e2]
    exact W0
end EvRows
