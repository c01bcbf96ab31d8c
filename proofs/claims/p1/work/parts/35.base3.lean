/-! numbers of characters -/
theorem i2c_of {x : Int} : ((Int32.ofInt x).toUInt32 % 65536).toInt32 = Int32.ofInt (x % 65536) := by
  apply Int32.toBitVec_inj.mp
  apply BitVec.eq_of_toNat_eq
  show ((Int32.ofInt x).toUInt32 % 65536).toNat = (BitVec.ofInt 32 (x % 65536)).toNat
  rw [UInt32.toNat_mod, BitVec.toNat_ofInt]
  have e : (Int32.ofInt x).toUInt32.toNat = (x % 4294967296).toNat := by
    show (BitVec.ofInt 32 x).toNat = _
    rw [BitVec.toNat_ofInt]
    rfl
  rw [e]
  show (x % 4294967296).toNat % 65536 = (x % 65536 % 4294967296).toNat
  omega
section EvI2C
variable {M : MD} {d pc : Nat} {L S : List AV} {h : AH} {Q : AV → AH → Prop}
theorem ev_i2c {x : Int} (hd : decode M.cc pc = .ok (.i2c, 1)) (k : EV M d (pc + 1) L (iv (x % 65536) :: S) h Q) : EV M d pc L (iv x :: S) h Q :=
  ev_pure k (fun _ hS _ => SR_c (VR_i (by unfold ir; omega)) (SR_t hS)) (fun _ _ _ C _ _ k => lv_i2c C.1 C.2.1 hd i2c_of k)
end EvI2C
