section EvBase
variable {M : MD} {d pc : Nat} {L S : List AV} {h : AH} {Q : AV → AH → Prop}
theorem ev_ist0 {a0 : AV} {tl : List AV} {x : Int} (hd : decode M.cc pc = .ok (.istore_n 0, 1)) (k : EV M d (pc + 1) (iv x :: tl) S h Q) (hi : 0 < M.ml := by decide) (hc : catok (a0 :: tl) 0 = true := by rfl) : EV M d pc (a0 :: tl) (iv x :: S) h Q := ev_istore_n hd k hi hc
theorem ev_ast0 {a0 : AV} {tl : List AV} {x : Int} (hd : decode M.cc pc = .ok (.astore_n 0, 1)) (k : EV M d (pc + 1) (rv x :: tl) S h Q) (hi : 0 < M.ml := by decide) (hc : catok (a0 :: tl) 0 = true := by rfl) : EV M d pc (a0 :: tl) (rv x :: S) h Q := ev_astore_n hd k hi hc
theorem ev_iin0 {x n : Int} {tl : List AV} (hd : decode M.cc pc = .ok (.iinc 0 n, 3)) (hr : ir (x + n)) (k : EV M d (pc + 3) (iv (x + n) :: tl) S h Q) (hi : 0 < M.ml := by decide) (hc : catok (iv x :: tl) 0 = true := by rfl) : EV M d pc (iv x :: tl) S h Q := ev_iinc hd rfl hr k hi hc
theorem ev_ist1 {a0 a1 : AV} {tl : List AV} {x : Int} (hd : decode M.cc pc = .ok (.istore_n 1, 1)) (k : EV M d (pc + 1) (a0 :: iv x :: tl) S h Q) (hi : 1 < M.ml := by decide) (hc : catok (a0 :: a1 :: tl) 1 = true := by rfl) : EV M d pc (a0 :: a1 :: tl) (iv x :: S) h Q := ev_istore_n hd k hi hc
theorem ev_ast1 {a0 a1 : AV} {tl : List AV} {x : Int} (hd : decode M.cc pc = .ok (.astore_n 1, 1)) (k : EV M d (pc + 1) (a0 :: rv x :: tl) S h Q) (hi : 1 < M.ml := by decide) (hc : catok (a0 :: a1 :: tl) 1 = true := by rfl) : EV M d pc (a0 :: a1 :: tl) (rv x :: S) h Q := ev_astore_n hd k hi hc
theorem ev_iin1 {x n : Int} {a0 : AV} {tl : List AV} (hd : decode M.cc pc = .ok (.iinc 1 n, 3)) (hr : ir (x + n)) (k : EV M d (pc + 3) (a0 :: iv (x + n) :: tl) S h Q) (hi : 1 < M.ml := by decide) (hc : catok (a0 :: iv x :: tl) 1 = true := by rfl) : EV M d pc (a0 :: iv x :: tl) S h Q := ev_iinc hd rfl hr k hi hc
theorem ev_ist2 {a0 a1 a2 : AV} {tl : List AV} {x : Int} (hd : decode M.cc pc = .ok (.istore_n 2, 1)) (k : EV M d (pc + 1) (a0 :: a1 :: iv x :: tl) S h Q) (hi : 2 < M.ml := by decide) (hc : catok (a0 :: a1 :: a2 :: tl) 2 = true := by rfl) : EV M d pc (a0 :: a1 :: a2 :: tl) (iv x :: S) h Q := ev_istore_n hd k hi hc
theorem ev_ast2 {a0 a1 a2 : AV} {tl : List AV} {x : Int} (hd : decode M.cc pc = .ok (.astore_n 2, 1)) (k : EV M d (pc + 1) (a0 :: a1 :: rv x :: tl) S h Q) (hi : 2 < M.ml := by decide) (hc : catok (a0 :: a1 :: a2 :: tl) 2 = true := by rfl) : EV M d pc (a0 :: a1 :: a2 :: tl) (rv x :: S) h Q := ev_astore_n hd k hi hc
theorem ev_iin2 {x n : Int} {a0 a1 : AV} {tl : List AV} (hd : decode M.cc pc = .ok (.iinc 2 n, 3)) (hr : ir (x + n)) (k : EV M d (pc + 3) (a0 :: a1 :: iv (x + n) :: tl) S h Q) (hi : 2 < M.ml := by decide) (hc : catok (a0 :: a1 :: iv x :: tl) 2 = true := by rfl) : EV M d pc (a0 :: a1 :: iv x :: tl) S h Q := ev_iinc hd rfl hr k hi hc
theorem ev_ist3 {a0 a1 a2 a3 : AV} {tl : List AV} {x : Int} (hd : decode M.cc pc = .ok (.istore_n 3, 1)) (k : EV M d (pc + 1) (a0 :: a1 :: a2 :: iv x :: tl) S h Q) (hi : 3 < M.ml := by decide) (hc : catok (a0 :: a1 :: a2 :: a3 :: tl) 3 = true := by rfl) : EV M d pc (a0 :: a1 :: a2 :: a3 :: tl) (iv x :: S) h Q := ev_istore_n hd k hi hc
theorem ev_ast3 {a0 a1 a2 a3 : AV} {tl : List AV} {x : Int} (hd : decode M.cc pc = .ok (.astore_n 3, 1)) (k : EV M d (pc + 1) (a0 :: a1 :: a2 :: rv x :: tl) S h Q) (hi : 3 < M.ml := by decide) (hc : catok (a0 :: a1 :: a2 :: a3 :: tl) 3 = true := by rfl) : EV M d pc (a0 :: a1 :: a2 :: a3 :: tl) (rv x :: S) h Q := ev_astore_n hd k hi hc
theorem ev_iin3 {x n : Int} {a0 a1 a2 : AV} {tl : List AV} (hd : decode M.cc pc = .ok (.iinc 3 n, 3)) (hr : ir (x + n)) (k : EV M d (pc + 3) (a0 :: a1 :: a2 :: iv (x + n) :: tl) S h Q) (hi : 3 < M.ml := by decide) (hc : catok (a0 :: a1 :: a2 :: iv x :: tl) 3 = true := by rfl) : EV M d pc (a0 :: a1 :: a2 :: iv x :: tl) S h Q := ev_iinc hd rfl hr k hi hc
theorem ev_ist4 {a0 a1 a2 a3 a4 : AV} {tl : List AV} {x : Int} (hd : decode M.cc pc = .ok (.istore 4, 2)) (k : EV M d (pc + 2) (a0 :: a1 :: a2 :: a3 :: iv x :: tl) S h Q) (hi : 4 < M.ml := by decide) (hc : catok (a0 :: a1 :: a2 :: a3 :: a4 :: tl) 4 = true := by rfl) : EV M d pc (a0 :: a1 :: a2 :: a3 :: a4 :: tl) (iv x :: S) h Q := ev_istore hd k hi hc
theorem ev_ast4 {a0 a1 a2 a3 a4 : AV} {tl : List AV} {x : Int} (hd : decode M.cc pc = .ok (.astore 4, 2)) (k : EV M d (pc + 2) (a0 :: a1 :: a2 :: a3 :: rv x :: tl) S h Q) (hi : 4 < M.ml := by decide) (hc : catok (a0 :: a1 :: a2 :: a3 :: a4 :: tl) 4 = true := by rfl) : EV M d pc (a0 :: a1 :: a2 :: a3 :: a4 :: tl) (rv x :: S) h Q := ev_astore hd k hi hc
theorem ev_iin4 {x n : Int} {a0 a1 a2 a3 : AV} {tl : List AV} (hd : decode M.cc pc = .ok (.iinc 4 n, 3)) (hr : ir (x + n)) (k : EV M d (pc + 3) (a0 :: a1 :: a2 :: a3 :: iv (x + n) :: tl) S h Q) (hi : 4 < M.ml := by decide) (hc : catok (a0 :: a1 :: a2 :: a3 :: iv x :: tl) 4 = true := by rfl) : EV M d pc (a0 :: a1 :: a2 :: a3 :: iv x :: tl) S h Q := ev_iinc hd rfl hr k hi hc
theorem ev_ist5 {a0 a1 a2 a3 a4 a5 : AV} {tl : List AV} {x : Int} (hd : decode M.cc pc = .ok (.istore 5, 2)) (k : EV M d (pc + 2) (a0 :: a1 :: a2 :: a3 :: a4 :: iv x :: tl) S h Q) (hi : 5 < M.ml := by decide) (hc : catok (a0 :: a1 :: a2 :: a3 :: a4 :: a5 :: tl) 5 = true := by rfl) : EV M d pc (a0 :: a1 :: a2 :: a3 :: a4 :: a5 :: tl) (iv x :: S) h Q := ev_istore hd k hi hc
theorem ev_ast5 {a0 a1 a2 a3 a4 a5 : AV} {tl : List AV} {x : Int} (hd : decode M.cc pc = .ok (.astore 5, 2)) (k : EV M d (pc + 2) (a0 :: a1 :: a2 :: a3 :: a4 :: rv x :: tl) S h Q) (hi : 5 < M.ml := by decide) (hc : catok (a0 :: a1 :: a2 :: a3 :: a4 :: a5 :: tl) 5 = true := by rfl) : EV M d pc (a0 :: a1 :: a2 :: a3 :: a4 :: a5 :: tl) (rv x :: S) h Q := ev_astore hd k hi hc
theorem ev_iin5 {x n : Int} {a0 a1 a2 a3 a4 : AV} {tl : List AV} (hd : decode M.cc pc = .ok (.iinc 5 n, 3)) (hr : ir (x + n)) (k : EV M d (pc + 3) (a0 :: a1 :: a2 :: a3 :: a4 :: iv (x + n) :: tl) S h Q) (hi : 5 < M.ml := by decide) (hc : catok (a0 :: a1 :: a2 :: a3 :: a4 :: iv x :: tl) 5 = true := by rfl) : EV M d pc (a0 :: a1 :: a2 :: a3 :: a4 :: iv x :: tl) S h Q := ev_iinc hd rfl hr k hi hc
theorem ev_ist6 {a0 a1 a2 a3 a4 a5 a6 : AV} {tl : List AV} {x : Int} (hd : decode M.cc pc = .ok (.istore 6, 2)) (k : EV M d (pc + 2) (a0 :: a1 :: a2 :: a3 :: a4 :: a5 :: iv x :: tl) S h Q) (hi : 6 < M.ml := by decide) (hc : catok (a0 :: a1 :: a2 :: a3 :: a4 :: a5 :: a6 :: tl) 6 = true := by rfl) : EV M d pc (a0 :: a1 :: a2 :: a3 :: a4 :: a5 :: a6 :: tl) (iv x :: S) h Q := ev_istore hd k hi hc
theorem ev_ast6 {a0 a1 a2 a3 a4 a5 a6 : AV} {tl : List AV} {x : Int} (hd : decode M.cc pc = .ok (.astore 6, 2)) (k : EV M d (pc + 2) (a0 :: a1 :: a2 :: a3 :: a4 :: a5 :: rv x :: tl) S h Q) (hi : 6 < M.ml := by decide) (hc : catok (a0 :: a1 :: a2 :: a3 :: a4 :: a5 :: a6 :: tl) 6 = true := by rfl) : EV M d pc (a0 :: a1 :: a2 :: a3 :: a4 :: a5 :: a6 :: tl) (rv x :: S) h Q := ev_astore hd k hi hc
theorem ev_iin6 {x n : Int} {a0 a1 a2 a3 a4 a5 : AV} {tl : List AV} (hd : decode M.cc pc = .ok (.iinc 6 n, 3)) (hr : ir (x + n)) (k : EV M d (pc + 3) (a0 :: a1 :: a2 :: a3 :: a4 :: a5 :: iv (x + n) :: tl) S h Q) (hi : 6 < M.ml := by decide) (hc : catok (a0 :: a1 :: a2 :: a3 :: a4 :: a5 :: iv x :: tl) 6 = true := by rfl) : EV M d pc (a0 :: a1 :: a2 :: a3 :: a4 :: a5 :: iv x :: tl) S h Q := ev_iinc hd rfl hr k hi hc
theorem ev_ist7 {a0 a1 a2 a3 a4 a5 a6 a7 : AV} {tl : List AV} {x : Int} (hd : decode M.cc pc = .ok (.istore 7, 2)) (k : EV M d (pc + 2) (a0 :: a1 :: a2 :: a3 :: a4 :: a5 :: a6 :: iv x :: tl) S h Q) (hi : 7 < M.ml := by decide) (hc : catok (a0 :: a1 :: a2 :: a3 :: a4 :: a5 :: a6 :: a7 :: tl) 7 = true := by rfl) : EV M d pc (a0 :: a1 :: a2 :: a3 :: a4 :: a5 :: a6 :: a7 :: tl) (iv x :: S) h Q := ev_istore hd k hi hc
theorem ev_ast7 {a0 a1 a2 a3 a4 a5 a6 a7 : AV} {tl : List AV} {x : Int} (hd : decode M.cc pc = .ok (.astore 7, 2)) (k : EV M d (pc + 2) (a0 :: a1 :: a2 :: a3 :: a4 :: a5 :: a6 :: rv x :: tl) S h Q) (hi : 7 < M.ml := by decide) (hc : catok (a0 :: a1 :: a2 :: a3 :: a4 :: a5 :: a6 :: a7 :: tl) 7 = true := by rfl) : EV M d pc (a0 :: a1 :: a2 :: a3 :: a4 :: a5 :: a6 :: a7 :: tl) (rv x :: S) h Q := ev_astore hd k hi hc
theorem ev_iin7 {x n : Int} {a0 a1 a2 a3 a4 a5 a6 : AV} {tl : List AV} (hd : decode M.cc pc = .ok (.iinc 7 n, 3)) (hr : ir (x + n)) (k : EV M d (pc + 3) (a0 :: a1 :: a2 :: a3 :: a4 :: a5 :: a6 :: iv (x + n) :: tl) S h Q) (hi : 7 < M.ml := by decide) (hc : catok (a0 :: a1 :: a2 :: a3 :: a4 :: a5 :: a6 :: iv x :: tl) 7 = true := by rfl) : EV M d pc (a0 :: a1 :: a2 :: a3 :: a4 :: a5 :: a6 :: iv x :: tl) S h Q := ev_iinc hd rfl hr k hi hc
theorem ev_ist8 {a0 a1 a2 a3 a4 a5 a6 a7 a8 : AV} {tl : List AV} {x : Int} (hd : decode M.cc pc = .ok (.istore 8, 2)) (k : EV M d (pc + 2) (a0 :: a1 :: a2 :: a3 :: a4 :: a5 :: a6 :: a7 :: iv x :: tl) S h Q) (hi : 8 < M.ml := by decide) (hc : catok (a0 :: a1 :: a2 :: a3 :: a4 :: a5 :: a6 :: a7 :: a8 :: tl) 8 = true := by rfl) : EV M d pc (a0 :: a1 :: a2 :: a3 :: a4 :: a5 :: a6 :: a7 :: a8 :: tl) (iv x :: S) h Q := ev_istore hd k hi hc
theorem ev_ast8 {a0 a1 a2 a3 a4 a5 a6 a7 a8 : AV} {tl : List AV} {x : Int} (hd : decode M.cc pc = .ok (.astore 8, 2)) (k : EV M d (pc + 2) (a0 :: a1 :: a2 :: a3 :: a4 :: a5 :: a6 :: a7 :: rv x :: tl) S h Q) (hi : 8 < M.ml := by decide) (hc : catok (a0 :: a1 :: a2 :: a3 :: a4 :: a5 :: a6 :: a7 :: a8 :: tl) 8 = true := by rfl) : EV M d pc (a0 :: a1 :: a2 :: a3 :: a4 :: a5 :: a6 :: a7 :: a8 :: tl) (rv x :: S) h Q := ev_astore hd k hi hc
theorem ev_iin8 {x n : Int} {a0 a1 a2 a3 a4 a5 a6 a7 : AV} {tl : List AV} (hd : decode M.cc pc = .ok (.iinc 8 n, 3)) (hr : ir (x + n)) (k : EV M d (pc + 3) (a0 :: a1 :: a2 :: a3 :: a4 :: a5 :: a6 :: a7 :: iv (x + n) :: tl) S h Q) (hi : 8 < M.ml := by decide) (hc : catok (a0 :: a1 :: a2 :: a3 :: a4 :: a5 :: a6 :: a7 :: iv x :: tl) 8 = true := by rfl) : EV M d pc (a0 :: a1 :: a2 :: a3 :: a4 :: a5 :: a6 :: a7 :: iv x :: tl) S h Q := ev_iinc hd rfl hr k hi hc
theorem ev_ist9 {a0 a1 a2 a3 a4 a5 a6 a7 a8 a9 : AV} {tl : List AV} {x : Int} (hd : decode M.cc pc = .ok (.istore 9, 2)) (k : EV M d (pc + 2) (a0 :: a1 :: a2 :: a3 :: a4 :: a5 :: a6 :: a7 :: a8 :: iv x :: tl) S h Q) (hi : 9 < M.ml := by decide) (hc : catok (a0 :: a1 :: a2 :: a3 :: a4 :: a5 :: a6 :: a7 :: a8 :: a9 :: tl) 9 = true := by rfl) : EV M d pc (a0 :: a1 :: a2 :: a3 :: a4 :: a5 :: a6 :: a7 :: a8 :: a9 :: tl) (iv x :: S) h Q := ev_istore hd k hi hc
theorem ev_ast9 {a0 a1 a2 a3 a4 a5 a6 a7 a8 a9 : AV} {tl : List AV} {x : Int} (hd : decode M.cc pc = .ok (.astore 9, 2)) (k : EV M d (pc + 2) (a0 :: a1 :: a2 :: a3 :: a4 :: a5 :: a6 :: a7 :: a8 :: rv x :: tl) S h Q) (hi : 9 < M.ml := by decide) (hc : catok (a0 :: a1 :: a2 :: a3 :: a4 :: a5 :: a6 :: a7 :: a8 :: a9 :: tl) 9 = true := by rfl) : EV M d pc (a0 :: a1 :: a2 :: a3 :: a4 :: a5 :: a6 :: a7 :: a8 :: a9 :: tl) (rv x :: S) h Q := ev_astore hd k hi hc
theorem ev_iin9 {x n : Int} {a0 a1 a2 a3 a4 a5 a6 a7 a8 : AV} {tl : List AV} (hd : decode M.cc pc = .ok (.iinc 9 n, 3)) (hr : ir (x + n)) (k : EV M d (pc + 3) (a0 :: a1 :: a2 :: a3 :: a4 :: a5 :: a6 :: a7 :: a8 :: iv (x + n) :: tl) S h Q) (hi : 9 < M.ml := by decide) (hc : catok (a0 :: a1 :: a2 :: a3 :: a4 :: a5 :: a6 :: a7 :: a8 :: iv x :: tl) 9 = true := by rfl) : EV M d pc (a0 :: a1 :: a2 :: a3 :: a4 :: a5 :: a6 :: a7 :: a8 :: iv x :: tl) S h Q := ev_iinc hd rfl hr k hi hc
theorem ev_ist10 {a0 a1 a2 a3 a4 a5 a6 a7 a8 a9 a10 : AV} {tl : List AV} {x : Int} (hd : decode M.cc pc = .ok (.istore 10, 2)) (k : EV M d (pc + 2) (a0 :: a1 :: a2 :: a3 :: a4 :: a5 :: a6 :: a7 :: a8 :: a9 :: iv x :: tl) S h Q) (hi : 10 < M.ml := by decide) (hc : catok (a0 :: a1 :: a2 :: a3 :: a4 :: a5 :: a6 :: a7 :: a8 :: a9 :: a10 :: tl) 10 = true := by rfl) : EV M d pc (a0 :: a1 :: a2 :: a3 :: a4 :: a5 :: a6 :: a7 :: a8 :: a9 :: a10 :: tl) (iv x :: S) h Q := ev_istore hd k hi hc
theorem ev_ast10 {a0 a1 a2 a3 a4 a5 a6 a7 a8 a9 a10 : AV} {tl : List AV} {x : Int} (hd : decode M.cc pc = .ok (.astore 10, 2)) (k : EV M d (pc + 2) (a0 :: a1 :: a2 :: a3 :: a4 :: a5 :: a6 :: a7 :: a8 :: a9 :: rv x :: tl) S h Q) (hi : 10 < M.ml := by decide) (hc : catok (a0 :: a1 :: a2 :: a3 :: a4 :: a5 :: a6 :: a7 :: a8 :: a9 :: a10 :: tl) 10 = true := by rfl) : EV M d pc (a0 :: a1 :: a2 :: a3 :: a4 :: a5 :: a6 :: a7 :: a8 :: a9 :: a10 :: tl) (rv x :: S) h Q := ev_astore hd k hi hc
theorem ev_iin10 {x n : Int} {a0 a1 a2 a3 a4 a5 a6 a7 a8 a9 : AV} {tl : List AV} (hd : decode M.cc pc = .ok (.iinc 10 n, 3)) (hr : ir (x + n)) (k : EV M d (pc + 3) (a0 :: a1 :: a2 :: a3 :: a4 :: a5 :: a6 :: a7 :: a8 :: a9 :: iv (x + n) :: tl) S h Q) (hi : 10 < M.ml := by decide) (hc : catok (a0 :: a1 :: a2 :: a3 :: a4 :: a5 :: a6 :: a7 :: a8 :: a9 :: iv x :: tl) 10 = true := by rfl) : EV M d pc (a0 :: a1 :: a2 :: a3 :: a4 :: a5 :: a6 :: a7 :: a8 :: a9 :: iv x :: tl) S h Q := ev_iinc hd rfl hr k hi hc
theorem ev_ist11 {a0 a1 a2 a3 a4 a5 a6 a7 a8 a9 a10 a11 : AV} {tl : List AV} {x : Int} (hd : decode M.cc pc = .ok (.istore 11, 2)) (k : EV M d (pc + 2) (a0 :: a1 :: a2 :: a3 :: a4 :: a5 :: a6 :: a7 :: a8 :: a9 :: a10 :: iv x :: tl) S h Q) (hi : 11 < M.ml := by decide) (hc : catok (a0 :: a1 :: a2 :: a3 :: a4 :: a5 :: a6 :: a7 :: a8 :: a9 :: a10 :: a11 :: tl) 11 = true := by rfl) : EV M d pc (a0 :: a1 :: a2 :: a3 :: a4 :: a5 :: a6 :: a7 :: a8 :: a9 :: a10 :: a11 :: tl) (iv x :: S) h Q := ev_istore hd k hi hc
theorem ev_ast11 {a0 a1 a2 a3 a4 a5 a6 a7 a8 a9 a10 a11 : AV} {tl : List AV} {x : Int} (hd : decode M.cc pc = .ok (.astore 11, 2)) (k : EV M d (pc + 2) (a0 :: a1 :: a2 :: a3 :: a4 :: a5 :: a6 :: a7 :: a8 :: a9 :: a10 :: rv x :: tl) S h Q) (hi : 11 < M.ml := by decide) (hc : catok (a0 :: a1 :: a2 :: a3 :: a4 :: a5 :: a6 :: a7 :: a8 :: a9 :: a10 :: a11 :: tl) 11 = true := by rfl) : EV M d pc (a0 :: a1 :: a2 :: a3 :: a4 :: a5 :: a6 :: a7 :: a8 :: a9 :: a10 :: a11 :: tl) (rv x :: S) h Q := ev_astore hd k hi hc
theorem ev_iin11 {x n : Int} {a0 a1 a2 a3 a4 a5 a6 a7 a8 a9 a10 : AV} {tl : List AV} (hd : decode M.cc pc = .ok (.iinc 11 n, 3)) (hr : ir (x + n)) (k : EV M d (pc + 3) (a0 :: a1 :: a2 :: a3 :: a4 :: a5 :: a6 :: a7 :: a8 :: a9 :: a10 :: iv (x + n) :: tl) S h Q) (hi : 11 < M.ml := by decide) (hc : catok (a0 :: a1 :: a2 :: a3 :: a4 :: a5 :: a6 :: a7 :: a8 :: a9 :: a10 :: iv x :: tl) 11 = true := by rfl) : EV M d pc (a0 :: a1 :: a2 :: a3 :: a4 :: a5 :: a6 :: a7 :: a8 :: a9 :: a10 :: iv x :: tl) S h Q := ev_iinc hd rfl hr k hi hc
theorem ev_ist12 {a0 a1 a2 a3 a4 a5 a6 a7 a8 a9 a10 a11 a12 : AV} {tl : List AV} {x : Int} (hd : decode M.cc pc = .ok (.istore 12, 2)) (k : EV M d (pc + 2) (a0 :: a1 :: a2 :: a3 :: a4 :: a5 :: a6 :: a7 :: a8 :: a9 :: a10 :: a11 :: iv x :: tl) S h Q) (hi : 12 < M.ml := by decide) (hc : catok (a0 :: a1 :: a2 :: a3 :: a4 :: a5 :: a6 :: a7 :: a8 :: a9 :: a10 :: a11 :: a12 :: tl) 12 = true := by rfl) : EV M d pc (a0 :: a1 :: a2 :: a3 :: a4 :: a5 :: a6 :: a7 :: a8 :: a9 :: a10 :: a11 :: a12 :: tl) (iv x :: S) h Q := ev_istore hd k hi hc
theorem ev_ast12 {a0 a1 a2 a3 a4 a5 a6 a7 a8 a9 a10 a11 a12 : AV} {tl : List AV} {x : Int} (hd : decode M.cc pc = .ok (.astore 12, 2)) (k : EV M d (pc + 2) (a0 :: a1 :: a2 :: a3 :: a4 :: a5 :: a6 :: a7 :: a8 :: a9 :: a10 :: a11 :: rv x :: tl) S h Q) (hi : 12 < M.ml := by decide) (hc : catok (a0 :: a1 :: a2 :: a3 :: a4 :: a5 :: a6 :: a7 :: a8 :: a9 :: a10 :: a11 :: a12 :: tl) 12 = true := by rfl) : EV M d pc (a0 :: a1 :: a2 :: a3 :: a4 :: a5 :: a6 :: a7 :: a8 :: a9 :: a10 :: a11 :: a12 :: tl) (rv x :: S) h Q := ev_astore hd k hi hc
theorem ev_iin12 {x n : Int} {a0 a1 a2 a3 a4 a5 a6 a7 a8 a9 a10 a11 : AV} {tl : List AV} (hd : decode M.cc pc = .ok (.iinc 12 n, 3)) (hr : ir (x + n)) (k : EV M d (pc + 3) (a0 :: a1 :: a2 :: a3 :: a4 :: a5 :: a6 :: a7 :: a8 :: a9 :: a10 :: a11 :: iv (x + n) :: tl) S h Q) (hi : 12 < M.ml := by decide) (hc : catok (a0 :: a1 :: a2 :: a3 :: a4 :: a5 :: a6 :: a7 :: a8 :: a9 :: a10 :: a11 :: iv x :: tl) 12 = true := by rfl) : EV M d pc (a0 :: a1 :: a2 :: a3 :: a4 :: a5 :: a6 :: a7 :: a8 :: a9 :: a10 :: a11 :: iv x :: tl) S h Q := ev_iinc hd rfl hr k hi hc
theorem ev_geti {idx ci N k r : Nat} {fin : Bool} {τ : FieldType} {a : Int} (hd : decode M.cc pc = .ok (.getfield idx, 3)) (f : FL M.y.cls idx ci N k fin τ) (hk : h.kd r = (ci, N)) (hn : r < h.n) (ha : a = (r : Int))
    (kk : EV M d (pc + 3) L (iv (h.vl r k) :: S) h Q) (ht : tkt τ = 0 := by rfl) : EV M d pc L (rv a :: S) h Q := by
  subst ha
  exact ev_get hd f (by omega) (by omega) hk (by rw [ht]; exact kk)
theorem ev_getr {idx ci N k r : Nat} {fin : Bool} {τ : FieldType} {a : Int} (hd : decode M.cc pc = .ok (.getfield idx, 3)) (f : FL M.y.cls idx ci N k fin τ) (hk : h.kd r = (ci, N)) (hn : r < h.n) (ha : a = (r : Int))
    (kk : EV M d (pc + 3) L (rv (h.vl r k) :: S) h Q) (ht : tkt τ = 1 := by rfl) : EV M d pc L (rv a :: S) h Q := by
  subst ha
  exact ev_get hd f (by omega) (by omega) hk (by rw [ht]; exact kk)
theorem ev_getrv {idx ci N k r : Nat} {fin : Bool} {τ : FieldType} {a x : Int} (hd : decode M.cc pc = .ok (.getfield idx, 3)) (f : FL M.y.cls idx ci N k fin τ) (hk : h.kd r = (ci, N)) (hn : r < h.n) (ha : a = (r : Int)) (hv : h.vl r k = x)
    (kk : EV M d (pc + 3) L (rv x :: S) h Q) (ht : tkt τ = 1 := by rfl) : EV M d pc L (rv a :: S) h Q := ev_getr hd f hk hn ha (by rw [hv]; exact kk) ht
theorem ev_getiv {idx ci N k r : Nat} {fin : Bool} {τ : FieldType} {a x : Int} (hd : decode M.cc pc = .ok (.getfield idx, 3)) (f : FL M.y.cls idx ci N k fin τ) (hk : h.kd r = (ci, N)) (hn : r < h.n) (ha : a = (r : Int)) (hv : h.vl r k = x)
    (kk : EV M d (pc + 3) L (iv x :: S) h Q) (ht : tkt τ = 0 := by rfl) : EV M d pc L (rv a :: S) h Q := ev_geti hd f hk hn ha (by rw [hv]; exact kk) ht
theorem ev_pt {idx ci N k r : Nat} {τ : FieldType} {a x : Int} {t : Nat} (hd : decode M.cc pc = .ok (.putfield idx, 3)) (f : FL M.y.cls idx ci N k false τ) (hk : h.kd r = (ci, N)) (hn : r < h.n) (ha : a = (r : Int))
    (kk : EV M d (pc + 3) L S (h.put r k x) Q) (hfo : fok τ x := by first | trivial | exact Or.inl rfl | exact Or.inr rfl | assumption) (ht : t = tkt τ := by rfl) : EV M d pc L ((t, x) :: rv a :: S) h Q := by
  subst ha
  exact ev_put hd f (by omega) (by omega) hk kk hfo ht
theorem ev_ptF {idx ci N k r : Nat} {τ : FieldType} {a x : Int} {t : Nat} (hd : decode M.cc pc = .ok (.putfield idx, 3)) (f : FLF M.y.cls idx ci N k τ) (hi : M.y.name = "<init>") (hk : h.kd r = (ci, N)) (hn : r < h.n) (ha : a = (r : Int))
    (kk : EV M d (pc + 3) L S (h.put r k x) Q) (hfo : fok τ x := by first | trivial | exact Or.inl rfl | exact Or.inr rfl | assumption) (ht : t = tkt τ := by rfl) : EV M d pc L ((t, x) :: rv a :: S) h Q := by
  subst ha
  exact ev_putF hd f hi (by omega) (by omega) hk kk hfo ht
theorem ev_ild {a i : Int} {n r : Nat} (hd : decode M.cc pc = .ok (.iaload, 1)) (hk : h.kd r = (100, n)) (hn : r < h.n) (ha : a = (r : Int)) (hi : 0 ≤ i) (hj : i < (n : Int))
    (kk : EV M d (pc + 1) L (iv (h.vl r i.toNat) :: S) h Q) : EV M d pc L (iv i :: rv a :: S) h Q := by
  subst ha
  exact ev_iald hd (by omega) (by omega) hk hi hj kk
theorem ev_ildv {a i x : Int} {n r : Nat} (hd : decode M.cc pc = .ok (.iaload, 1)) (hk : h.kd r = (100, n)) (hn : r < h.n) (ha : a = (r : Int)) (hi : 0 ≤ i) (hj : i < (n : Int)) (hv : h.vl r i.toNat = x)
    (kk : EV M d (pc + 1) L (iv x :: S) h Q) : EV M d pc L (iv i :: rv a :: S) h Q := ev_ild hd hk hn ha hi hj (by rw [hv]; exact kk)
theorem ev_istr {a i x : Int} {n r : Nat} (hd : decode M.cc pc = .ok (.iastore, 1)) (hk : h.kd r = (100, n)) (hn : r < h.n) (ha : a = (r : Int)) (hi : 0 ≤ i) (hj : i < (n : Int))
    (kk : EV M d (pc + 1) L S (h.put r i.toNat x) Q) : EV M d pc L (iv x :: iv i :: rv a :: S) h Q := by
  subst ha
  exact ev_iast hd (by omega) (by omega) hk hi hj kk
theorem ev_al {a : Int} {n c r : Nat} (hd : decode M.cc pc = .ok (.arraylength, 1)) (hk : h.kd r = (c, n)) (hn : r < h.n) (ha : a = (r : Int)) (hc : 100 ≤ c) (hr : (n : Int) ≤ 2147483647)
    (kk : EV M d (pc + 1) L (iv n :: S) h Q) : EV M d pc L (rv a :: S) h Q := by
  subst ha
  exact ev_alen hd (by omega) (by omega) hk hc hr kk
theorem ev_gt {off : Int} (tgt : Nat) (hd : decode M.cc pc = .ok (.goto off, 3)) (k : EV M d tgt L S h Q) (ht : (pc : Int) + off = (tgt : Int) := by decide) : EV M d pc L S h Q := ev_goto hd k ht
end EvBase
theorem zif {p q : Prop} [Decidable p] [Decidable q] (h : p ↔ q) : (if p then (1 : Int) else 0) = if q then 1 else 0 := by
  by_cases e : p
  · rw [if_pos e, if_pos (h.mp e)]
  · rw [if_neg e, if_neg (fun z => e (h.mpr z))]
theorem z01 {p : Prop} [Decidable p] : (if p then (1 : Int) else 0) = 0 ∨ (if p then (1 : Int) else 0) = 1 := by split <;> simp
/-! outcomes -/
def oi (P : Int → AH → Prop) : AV → AH → Prop := fun o h => ∃ x, o = iv x ∧ P x h
def oa (P : Int → AH → Prop) : AV → AH → Prop := fun o h => ∃ x, o = rv x ∧ P x h
def on (P : AH → Prop) : AV → AH → Prop := fun o h => o = ov ∧ P h
section EvBaseC
variable {M : MD} {d pc : Nat} {L S : List AV} {h : AH} {Q : AV → AH → Prop}
theorem ev_cvi {idx n ci N r : Nat} {a : Int} {as st : List AV} {M' : MD} {d' : Nat} {P : Int → AH → Prop} (hd : decode M.cc pc = .ok (.invokevirtual idx, 3)) (lk : LKV M.y.cls idx M' ci n) (hc : CV M' d' (rv a :: as) h (oi P)) (hdd : d' < d) (hk : h.kd r = (ci, N)) (hn : r < h.n) (ha : a = (r : Int)) (hst : st = (rv a :: as).reverse ++ S) (hl : as.length = n) (hS : S.length ≤ 4) (hh : M.hh = [])
    (k : ∀ x h1, P x h1 → EV M d (pc + 3) L (iv x :: S) h1 Q) : EV M d pc L st h Q := by
  subst ha
  refine ev_callv hd lk hc hdd (by omega) (by omega) hk hst hl hS hh (fun o h1 q => ?_) (Or.inl fun o h1 q => ?_)
  · obtain ⟨x, rfl, q⟩ := q
    exact ⟨fun e => absurd (show (0 : Nat) = 7 from e) (by decide), fun _ => k x h1 q⟩
  · obtain ⟨x, rfl, q⟩ := q
    exact fun e => absurd (show (0 : Nat) = 7 from e) (by decide)
theorem ev_csi {idx n : Nat} {as st : List AV} {M' : MD} {d' : Nat} {P : Int → AH → Prop} (hd : decode M.cc pc = .ok (.invokestatic idx, 3)) (lk : LKS M.y.cls idx M' n) (hc : CV M' d' as h (oi P)) (hdd : d' < d) (hst : st = as.reverse ++ S) (hl : as.length = n) (hS : S.length ≤ 4) (hh : M.hh = [])
    (k : ∀ x h1, P x h1 → EV M d (pc + 3) L (iv x :: S) h1 Q) : EV M d pc L st h Q := by
  refine ev_calls hd lk hc hdd hst hl hS hh (fun o h1 q => ?_) (Or.inl fun o h1 q => ?_)
  · obtain ⟨x, rfl, q⟩ := q
    exact ⟨fun e => absurd (show (0 : Nat) = 7 from e) (by decide), fun _ => k x h1 q⟩
  · obtain ⟨x, rfl, q⟩ := q
    exact fun e => absurd (show (0 : Nat) = 7 from e) (by decide)
theorem ev_cvr {idx n ci N r : Nat} {a : Int} {as st : List AV} {M' : MD} {d' : Nat} {P : Int → AH → Prop} (hd : decode M.cc pc = .ok (.invokevirtual idx, 3)) (lk : LKV M.y.cls idx M' ci n) (hc : CV M' d' (rv a :: as) h (oa P)) (hdd : d' < d) (hk : h.kd r = (ci, N)) (hn : r < h.n) (ha : a = (r : Int)) (hst : st = (rv a :: as).reverse ++ S) (hl : as.length = n) (hS : S.length ≤ 4) (hh : M.hh = [])
    (k : ∀ x h1, P x h1 → EV M d (pc + 3) L (rv x :: S) h1 Q) : EV M d pc L st h Q := by
  subst ha
  refine ev_callv hd lk hc hdd (by omega) (by omega) hk hst hl hS hh (fun o h1 q => ?_) (Or.inl fun o h1 q => ?_)
  · obtain ⟨x, rfl, q⟩ := q
    exact ⟨fun e => absurd (show (1 : Nat) = 7 from e) (by decide), fun _ => k x h1 q⟩
  · obtain ⟨x, rfl, q⟩ := q
    exact fun e => absurd (show (1 : Nat) = 7 from e) (by decide)
theorem ev_csr {idx n : Nat} {as st : List AV} {M' : MD} {d' : Nat} {P : Int → AH → Prop} (hd : decode M.cc pc = .ok (.invokestatic idx, 3)) (lk : LKS M.y.cls idx M' n) (hc : CV M' d' as h (oa P)) (hdd : d' < d) (hst : st = as.reverse ++ S) (hl : as.length = n) (hS : S.length ≤ 4) (hh : M.hh = [])
    (k : ∀ x h1, P x h1 → EV M d (pc + 3) L (rv x :: S) h1 Q) : EV M d pc L st h Q := by
  refine ev_calls hd lk hc hdd hst hl hS hh (fun o h1 q => ?_) (Or.inl fun o h1 q => ?_)
  · obtain ⟨x, rfl, q⟩ := q
    exact ⟨fun e => absurd (show (1 : Nat) = 7 from e) (by decide), fun _ => k x h1 q⟩
  · obtain ⟨x, rfl, q⟩ := q
    exact fun e => absurd (show (1 : Nat) = 7 from e) (by decide)
theorem ev_cvv {idx n ci N r : Nat} {a : Int} {as st : List AV} {M' : MD} {d' : Nat} {P : AH → Prop} (hd : decode M.cc pc = .ok (.invokevirtual idx, 3)) (lk : LKV M.y.cls idx M' ci n) (hc : CV M' d' (rv a :: as) h (on P)) (hdd : d' < d) (hk : h.kd r = (ci, N)) (hn : r < h.n) (ha : a = (r : Int)) (hst : st = (rv a :: as).reverse ++ S) (hl : as.length = n) (hS : S.length ≤ 4) (hh : M.hh = [])
    (k : ∀ h1, P h1 → EV M d (pc + 3) L S h1 Q) : EV M d pc L st h Q := by
  subst ha
  refine ev_callv hd lk hc hdd (by omega) (by omega) hk hst hl hS hh (fun o h1 q => ?_) (Or.inl fun o h1 q => ?_)
  · obtain ⟨rfl, q⟩ := q
    exact ⟨fun e => absurd (show (8 : Nat) = 7 from e) (by decide), fun _ => k h1 q⟩
  · obtain ⟨rfl, q⟩ := q
    exact fun e => absurd (show (8 : Nat) = 7 from e) (by decide)
theorem ev_csv {idx n : Nat} {as st : List AV} {M' : MD} {d' : Nat} {P : AH → Prop} (hd : decode M.cc pc = .ok (.invokestatic idx, 3)) (lk : LKS M.y.cls idx M' n) (hc : CV M' d' as h (on P)) (hdd : d' < d) (hst : st = as.reverse ++ S) (hl : as.length = n) (hS : S.length ≤ 4) (hh : M.hh = [])
    (k : ∀ h1, P h1 → EV M d (pc + 3) L S h1 Q) : EV M d pc L st h Q := by
  refine ev_calls hd lk hc hdd hst hl hS hh (fun o h1 q => ?_) (Or.inl fun o h1 q => ?_)
  · obtain ⟨rfl, q⟩ := q
    exact ⟨fun e => absurd (show (8 : Nat) = 7 from e) (by decide), fun _ => k h1 q⟩
  · obtain ⟨rfl, q⟩ := q
    exact fun e => absurd (show (8 : Nat) = 7 from e) (by decide)
theorem ev_ci {idx n : Nat} {a : Int} {as st : List AV} {M' : MD} {d' : Nat} {P : AH → Prop} (hd : decode M.cc pc = .ok (.invokespecial idx, 3)) (lk : LKI M.y.cls idx M' n) (hc : CV M' d' (rv a :: as) h (on P)) (hdd : d' < d) (ha : 0 ≤ a) (hst : st = (rv a :: as).reverse ++ S) (hl : as.length = n) (hS : S.length ≤ 4) (hh : M.hh = [])
    (k : ∀ h1, P h1 → EV M d (pc + 3) L S h1 Q) : EV M d pc L st h Q := ev_calli hd lk hc hdd ha hst hl hS hh (fun o h1 q => ⟨q.1, k h1 q.2⟩)
end EvBaseC
/-- the reference: its object is cell 42, its rows the cells behind it -/
def RI (h : AH) : Prop := h.kd 42 = (11, 82) ∧ 92 ≤ h.n ∧ (h.vl 42 11 = 43 ∧ h.kd 43 = (100, 569)) ∧ (h.vl 42 12 = 44 ∧ h.kd 44 = (100, 569)) ∧ (h.vl 42 13 = 45 ∧ h.kd 45 = (100, 569)) ∧ (h.vl 42 14 = 46 ∧ h.kd 46 = (100, 4552)) ∧ (h.vl 42 15 = 47 ∧ h.kd 47 = (100, 64)) ∧ (h.vl 42 16 = 48 ∧ h.kd 48 = (100, 64)) ∧ (h.vl 42 17 = 49 ∧ h.kd 49 = (100, 64)) ∧ (h.vl 42 18 = 50 ∧ h.kd 50 = (100, 64)) ∧ (h.vl 42 19 = 51 ∧ h.kd 51 = (100, 64)) ∧ (h.vl 42 20 = 52 ∧ h.kd 52 = (100, 130)) ∧ (h.vl 42 21 = 53 ∧ h.kd 53 = (100, 130)) ∧ (h.vl 42 22 = 54 ∧ h.kd 54 = (100, 130)) ∧ (h.vl 42 23 = 55 ∧ h.kd 55 = (100, 130)) ∧ (h.vl 42 24 = 56 ∧ h.kd 56 = (100, 130)) ∧ (h.vl 42 25 = 57 ∧ h.kd 57 = (100, 130)) ∧ (h.vl 42 26 = 58 ∧ h.kd 58 = (100, 130)) ∧ (h.vl 42 27 = 59 ∧ h.kd 59 = (100, 130)) ∧ (h.vl 42 28 = 60 ∧ h.kd 60 = (100, 130)) ∧ (h.vl 42 29 = 61 ∧ h.kd 61 = (100, 130)) ∧ (h.vl 42 30 = 62 ∧ h.kd 62 = (100, 130)) ∧ (h.vl 42 31 = 63 ∧ h.kd 63 = (100, 130)) ∧ (h.vl 42 32 = 64 ∧ h.kd 64 = (100, 130)) ∧ (h.vl 42 33 = 65 ∧ h.kd 65 = (100, 130)) ∧ (h.vl 42 37 = 66 ∧ h.kd 66 = (100, 20000)) ∧ (h.vl 42 38 = 67 ∧ h.kd 67 = (100, 20000)) ∧ (h.vl 42 39 = 68 ∧ h.kd 68 = (100, 20000)) ∧ (h.vl 42 40 = 69 ∧ h.kd 69 = (100, 20000)) ∧ (h.vl 42 41 = 70 ∧ h.kd 70 = (100, 20000)) ∧ (h.vl 42 42 = 71 ∧ h.kd 71 = (100, 20000)) ∧ (h.vl 42 43 = 72 ∧ h.kd 72 = (100, 20000)) ∧ (h.vl 42 44 = 73 ∧ h.kd 73 = (100, 20000)) ∧ (h.vl 42 45 = 74 ∧ h.kd 74 = (100, 20000)) ∧ (h.vl 42 46 = 75 ∧ h.kd 75 = (100, 6000)) ∧ (h.vl 42 47 = 76 ∧ h.kd 76 = (100, 6000)) ∧ (h.vl 42 48 = 77 ∧ h.kd 77 = (100, 6000)) ∧ (h.vl 42 56 = 78 ∧ h.kd 78 = (100, 210)) ∧ (h.vl 42 57 = 79 ∧ h.kd 79 = (100, 210)) ∧ (h.vl 42 58 = 80 ∧ h.kd 80 = (100, 210)) ∧ (h.vl 42 61 = 81 ∧ h.kd 81 = (100, 210)) ∧ (h.vl 42 62 = 82 ∧ h.kd 82 = (100, 210)) ∧ (h.vl 42 63 = 83 ∧ h.kd 83 = (100, 210)) ∧ (h.vl 42 64 = 84 ∧ h.kd 84 = (100, 130)) ∧ (h.vl 42 65 = 85 ∧ h.kd 85 = (100, 130)) ∧ (h.vl 42 66 = 86 ∧ h.kd 86 = (100, 400)) ∧ (h.vl 42 67 = 87 ∧ h.kd 87 = (100, 400)) ∧ (h.vl 42 70 = 88 ∧ h.kd 88 = (100, 60)) ∧ (h.vl 42 72 = 89 ∧ h.kd 89 = (100, 130)) ∧ (h.vl 42 78 = 90 ∧ h.kd 90 = (100, 900)) ∧ (h.vl 42 79 = 91 ∧ h.kd 91 = (100, 900))
theorem RI.o {h : AH} (hI : RI h) : h.kd 42 = (11, 82) := hI.1
theorem RI.n {h : AH} (hI : RI h) : 42 < h.n := by have := hI.2.1; omega
theorem RI.v_v {h : AH} (hI : RI h) : h.vl 42 11 = 43 := hI.2.2.1.1
theorem RI.k_v {h : AH} (hI : RI h) : h.kd 43 = (100, 569) := hI.2.2.1.2
theorem RI.n_v {h : AH} (hI : RI h) : 43 < h.n := by have := hI.2.1; omega
theorem RI.v_before {h : AH} (hI : RI h) : h.vl 42 12 = 44 := hI.2.2.2.1.1
theorem RI.k_before {h : AH} (hI : RI h) : h.kd 44 = (100, 569) := hI.2.2.2.1.2
theorem RI.n_before {h : AH} (hI : RI h) : 44 < h.n := by have := hI.2.1; omega
theorem RI.v_saved {h : AH} (hI : RI h) : h.vl 42 13 = 45 := hI.2.2.2.2.1.1
theorem RI.k_saved {h : AH} (hI : RI h) : h.kd 45 = (100, 569) := hI.2.2.2.2.1.2
theorem RI.n_saved {h : AH} (hI : RI h) : 45 < h.n := by have := hI.2.1; omega
theorem RI.v_past {h : AH} (hI : RI h) : h.vl 42 14 = 46 := hI.2.2.2.2.2.1.1
theorem RI.k_past {h : AH} (hI : RI h) : h.kd 46 = (100, 4552) := hI.2.2.2.2.2.1.2
theorem RI.n_past {h : AH} (hI : RI h) : 46 < h.n := by have := hI.2.1; omega
theorem RI.v_frame {h : AH} (hI : RI h) : h.vl 42 15 = 47 := hI.2.2.2.2.2.2.1.1
theorem RI.k_frame {h : AH} (hI : RI h) : h.kd 47 = (100, 64) := hI.2.2.2.2.2.2.1.2
theorem RI.n_frame {h : AH} (hI : RI h) : 47 < h.n := by have := hI.2.1; omega
theorem RI.v_done {h : AH} (hI : RI h) : h.vl 42 16 = 48 := hI.2.2.2.2.2.2.2.1.1
theorem RI.k_done {h : AH} (hI : RI h) : h.kd 48 = (100, 64) := hI.2.2.2.2.2.2.2.1.2
theorem RI.n_done {h : AH} (hI : RI h) : 48 < h.n := by have := hI.2.1; omega
theorem RI.v_letter {h : AH} (hI : RI h) : h.vl 42 17 = 49 := hI.2.2.2.2.2.2.2.2.1.1
theorem RI.k_letter {h : AH} (hI : RI h) : h.kd 49 = (100, 64) := hI.2.2.2.2.2.2.2.2.1.2
theorem RI.n_letter {h : AH} (hI : RI h) : 49 < h.n := by have := hI.2.1; omega
theorem RI.v_place {h : AH} (hI : RI h) : h.vl 42 18 = 50 := hI.2.2.2.2.2.2.2.2.2.1.1
theorem RI.k_place {h : AH} (hI : RI h) : h.kd 50 = (100, 64) := hI.2.2.2.2.2.2.2.2.2.1.2
theorem RI.n_place {h : AH} (hI : RI h) : 50 < h.n := by have := hI.2.1; omega
theorem RI.v_bound {h : AH} (hI : RI h) : h.vl 42 19 = 51 := hI.2.2.2.2.2.2.2.2.2.2.1.1
theorem RI.k_bound {h : AH} (hI : RI h) : h.kd 51 = (100, 64) := hI.2.2.2.2.2.2.2.2.2.2.1.2
theorem RI.n_bound {h : AH} (hI : RI h) : 51 < h.n := by have := hI.2.1; omega
theorem RI.v_rawKind {h : AH} (hI : RI h) : h.vl 42 20 = 52 := hI.2.2.2.2.2.2.2.2.2.2.2.1.1
theorem RI.k_rawKind {h : AH} (hI : RI h) : h.kd 52 = (100, 130) := hI.2.2.2.2.2.2.2.2.2.2.2.1.2
theorem RI.n_rawKind {h : AH} (hI : RI h) : 52 < h.n := by have := hI.2.1; omega
theorem RI.v_rawSign {h : AH} (hI : RI h) : h.vl 42 21 = 53 := hI.2.2.2.2.2.2.2.2.2.2.2.2.1.1
theorem RI.k_rawSign {h : AH} (hI : RI h) : h.kd 53 = (100, 130) := hI.2.2.2.2.2.2.2.2.2.2.2.2.1.2
theorem RI.n_rawSign {h : AH} (hI : RI h) : 53 < h.n := by have := hI.2.1; omega
theorem RI.v_rawFirst {h : AH} (hI : RI h) : h.vl 42 22 = 54 := hI.2.2.2.2.2.2.2.2.2.2.2.2.2.1.1
theorem RI.k_rawFirst {h : AH} (hI : RI h) : h.kd 54 = (100, 130) := hI.2.2.2.2.2.2.2.2.2.2.2.2.2.1.2
theorem RI.n_rawFirst {h : AH} (hI : RI h) : 54 < h.n := by have := hI.2.1; omega
theorem RI.v_rawSecond {h : AH} (hI : RI h) : h.vl 42 23 = 55 := hI.2.2.2.2.2.2.2.2.2.2.2.2.2.2.1.1
theorem RI.k_rawSecond {h : AH} (hI : RI h) : h.kd 55 = (100, 130) := hI.2.2.2.2.2.2.2.2.2.2.2.2.2.2.1.2
theorem RI.n_rawSecond {h : AH} (hI : RI h) : 55 < h.n := by have := hI.2.1; omega
theorem RI.v_rawAt {h : AH} (hI : RI h) : h.vl 42 24 = 56 := hI.2.2.2.2.2.2.2.2.2.2.2.2.2.2.2.1.1
theorem RI.k_rawAt {h : AH} (hI : RI h) : h.kd 56 = (100, 130) := hI.2.2.2.2.2.2.2.2.2.2.2.2.2.2.2.1.2
theorem RI.n_rawAt {h : AH} (hI : RI h) : 56 < h.n := by have := hI.2.1; omega
theorem RI.v_kind {h : AH} (hI : RI h) : h.vl 42 25 = 57 := hI.2.2.2.2.2.2.2.2.2.2.2.2.2.2.2.2.1.1
theorem RI.k_kind {h : AH} (hI : RI h) : h.kd 57 = (100, 130) := hI.2.2.2.2.2.2.2.2.2.2.2.2.2.2.2.2.1.2
theorem RI.n_kind {h : AH} (hI : RI h) : 57 < h.n := by have := hI.2.1; omega
theorem RI.v_sign {h : AH} (hI : RI h) : h.vl 42 26 = 58 := hI.2.2.2.2.2.2.2.2.2.2.2.2.2.2.2.2.2.1.1
theorem RI.k_sign {h : AH} (hI : RI h) : h.kd 58 = (100, 130) := hI.2.2.2.2.2.2.2.2.2.2.2.2.2.2.2.2.2.1.2
theorem RI.n_sign {h : AH} (hI : RI h) : 58 < h.n := by have := hI.2.1; omega
theorem RI.v_first {h : AH} (hI : RI h) : h.vl 42 27 = 59 := hI.2.2.2.2.2.2.2.2.2.2.2.2.2.2.2.2.2.2.1.1
theorem RI.k_first {h : AH} (hI : RI h) : h.kd 59 = (100, 130) := hI.2.2.2.2.2.2.2.2.2.2.2.2.2.2.2.2.2.2.1.2
theorem RI.n_first {h : AH} (hI : RI h) : 59 < h.n := by have := hI.2.1; omega
theorem RI.v_second {h : AH} (hI : RI h) : h.vl 42 28 = 60 := hI.2.2.2.2.2.2.2.2.2.2.2.2.2.2.2.2.2.2.2.1.1
theorem RI.k_second {h : AH} (hI : RI h) : h.kd 60 = (100, 130) := hI.2.2.2.2.2.2.2.2.2.2.2.2.2.2.2.2.2.2.2.1.2
theorem RI.n_second {h : AH} (hI : RI h) : 60 < h.n := by have := hI.2.1; omega
theorem RI.v_up {h : AH} (hI : RI h) : h.vl 42 29 = 61 := hI.2.2.2.2.2.2.2.2.2.2.2.2.2.2.2.2.2.2.2.2.1.1
theorem RI.k_up {h : AH} (hI : RI h) : h.kd 61 = (100, 130) := hI.2.2.2.2.2.2.2.2.2.2.2.2.2.2.2.2.2.2.2.2.1.2
theorem RI.n_up {h : AH} (hI : RI h) : 61 < h.n := by have := hI.2.1; omega
theorem RI.v_deep {h : AH} (hI : RI h) : h.vl 42 30 = 62 := hI.2.2.2.2.2.2.2.2.2.2.2.2.2.2.2.2.2.2.2.2.2.1.1
theorem RI.k_deep {h : AH} (hI : RI h) : h.kd 62 = (100, 130) := hI.2.2.2.2.2.2.2.2.2.2.2.2.2.2.2.2.2.2.2.2.2.1.2
theorem RI.n_deep {h : AH} (hI : RI h) : 62 < h.n := by have := hI.2.1; omega
theorem RI.v_at {h : AH} (hI : RI h) : h.vl 42 31 = 63 := hI.2.2.2.2.2.2.2.2.2.2.2.2.2.2.2.2.2.2.2.2.2.2.1.1
theorem RI.k_at {h : AH} (hI : RI h) : h.kd 63 = (100, 130) := hI.2.2.2.2.2.2.2.2.2.2.2.2.2.2.2.2.2.2.2.2.2.2.1.2
theorem RI.n_at {h : AH} (hI : RI h) : 63 < h.n := by have := hI.2.1; omega
theorem RI.v_row {h : AH} (hI : RI h) : h.vl 42 32 = 64 := hI.2.2.2.2.2.2.2.2.2.2.2.2.2.2.2.2.2.2.2.2.2.2.2.1.1
theorem RI.k_row {h : AH} (hI : RI h) : h.kd 64 = (100, 130) := hI.2.2.2.2.2.2.2.2.2.2.2.2.2.2.2.2.2.2.2.2.2.2.2.1.2
theorem RI.n_row {h : AH} (hI : RI h) : 64 < h.n := by have := hI.2.1; omega
theorem RI.v_rowUp {h : AH} (hI : RI h) : h.vl 42 33 = 65 := hI.2.2.2.2.2.2.2.2.2.2.2.2.2.2.2.2.2.2.2.2.2.2.2.2.1.1
theorem RI.k_rowUp {h : AH} (hI : RI h) : h.kd 65 = (100, 130) := hI.2.2.2.2.2.2.2.2.2.2.2.2.2.2.2.2.2.2.2.2.2.2.2.2.1.2
theorem RI.n_rowUp {h : AH} (hI : RI h) : 65 < h.n := by have := hI.2.1; omega
theorem RI.v_sort {h : AH} (hI : RI h) : h.vl 42 37 = 66 := hI.2.2.2.2.2.2.2.2.2.2.2.2.2.2.2.2.2.2.2.2.2.2.2.2.2.1.1
theorem RI.k_sort {h : AH} (hI : RI h) : h.kd 66 = (100, 20000) := hI.2.2.2.2.2.2.2.2.2.2.2.2.2.2.2.2.2.2.2.2.2.2.2.2.2.1.2
theorem RI.n_sort {h : AH} (hI : RI h) : 66 < h.n := by have := hI.2.1; omega
theorem RI.v_from {h : AH} (hI : RI h) : h.vl 42 38 = 67 := hI.2.2.2.2.2.2.2.2.2.2.2.2.2.2.2.2.2.2.2.2.2.2.2.2.2.2.1.1
theorem RI.k_from {h : AH} (hI : RI h) : h.kd 67 = (100, 20000) := hI.2.2.2.2.2.2.2.2.2.2.2.2.2.2.2.2.2.2.2.2.2.2.2.2.2.2.1.2
theorem RI.n_from {h : AH} (hI : RI h) : 67 < h.n := by have := hI.2.1; omega
theorem RI.v_to {h : AH} (hI : RI h) : h.vl 42 39 = 68 := hI.2.2.2.2.2.2.2.2.2.2.2.2.2.2.2.2.2.2.2.2.2.2.2.2.2.2.2.1.1
theorem RI.k_to {h : AH} (hI : RI h) : h.kd 68 = (100, 20000) := hI.2.2.2.2.2.2.2.2.2.2.2.2.2.2.2.2.2.2.2.2.2.2.2.2.2.2.2.1.2
theorem RI.n_to {h : AH} (hI : RI h) : 68 < h.n := by have := hI.2.1; omega
theorem RI.v_link {h : AH} (hI : RI h) : h.vl 42 40 = 69 := hI.2.2.2.2.2.2.2.2.2.2.2.2.2.2.2.2.2.2.2.2.2.2.2.2.2.2.2.2.1.1
theorem RI.k_link {h : AH} (hI : RI h) : h.kd 69 = (100, 20000) := hI.2.2.2.2.2.2.2.2.2.2.2.2.2.2.2.2.2.2.2.2.2.2.2.2.2.2.2.2.1.2
theorem RI.n_link {h : AH} (hI : RI h) : 69 < h.n := by have := hI.2.1; omega
theorem RI.v_isNew {h : AH} (hI : RI h) : h.vl 42 41 = 70 := hI.2.2.2.2.2.2.2.2.2.2.2.2.2.2.2.2.2.2.2.2.2.2.2.2.2.2.2.2.2.1.1
theorem RI.k_isNew {h : AH} (hI : RI h) : h.kd 70 = (100, 20000) := hI.2.2.2.2.2.2.2.2.2.2.2.2.2.2.2.2.2.2.2.2.2.2.2.2.2.2.2.2.2.1.2
theorem RI.n_isNew {h : AH} (hI : RI h) : 70 < h.n := by have := hI.2.1; omega
theorem RI.v_seen {h : AH} (hI : RI h) : h.vl 42 42 = 71 := hI.2.2.2.2.2.2.2.2.2.2.2.2.2.2.2.2.2.2.2.2.2.2.2.2.2.2.2.2.2.2.1.1
theorem RI.k_seen {h : AH} (hI : RI h) : h.kd 71 = (100, 20000) := hI.2.2.2.2.2.2.2.2.2.2.2.2.2.2.2.2.2.2.2.2.2.2.2.2.2.2.2.2.2.2.1.2
theorem RI.n_seen {h : AH} (hI : RI h) : 71 < h.n := by have := hI.2.1; omega
theorem RI.v_memo {h : AH} (hI : RI h) : h.vl 42 43 = 72 := hI.2.2.2.2.2.2.2.2.2.2.2.2.2.2.2.2.2.2.2.2.2.2.2.2.2.2.2.2.2.2.2.1.1
theorem RI.k_memo {h : AH} (hI : RI h) : h.kd 72 = (100, 20000) := hI.2.2.2.2.2.2.2.2.2.2.2.2.2.2.2.2.2.2.2.2.2.2.2.2.2.2.2.2.2.2.2.1.2
theorem RI.n_memo {h : AH} (hI : RI h) : 72 < h.n := by have := hI.2.1; omega
theorem RI.v_orders {h : AH} (hI : RI h) : h.vl 42 44 = 73 := hI.2.2.2.2.2.2.2.2.2.2.2.2.2.2.2.2.2.2.2.2.2.2.2.2.2.2.2.2.2.2.2.2.1.1
theorem RI.k_orders {h : AH} (hI : RI h) : h.kd 73 = (100, 20000) := hI.2.2.2.2.2.2.2.2.2.2.2.2.2.2.2.2.2.2.2.2.2.2.2.2.2.2.2.2.2.2.2.2.1.2
theorem RI.n_orders {h : AH} (hI : RI h) : 73 < h.n := by have := hI.2.1; omega
theorem RI.v_stack {h : AH} (hI : RI h) : h.vl 42 45 = 74 := hI.2.2.2.2.2.2.2.2.2.2.2.2.2.2.2.2.2.2.2.2.2.2.2.2.2.2.2.2.2.2.2.2.2.1.1
theorem RI.k_stack {h : AH} (hI : RI h) : h.kd 74 = (100, 20000) := hI.2.2.2.2.2.2.2.2.2.2.2.2.2.2.2.2.2.2.2.2.2.2.2.2.2.2.2.2.2.2.2.2.2.1.2
theorem RI.n_stack {h : AH} (hI : RI h) : 74 < h.n := by have := hI.2.1; omega
theorem RI.v_left {h : AH} (hI : RI h) : h.vl 42 46 = 75 := hI.2.2.2.2.2.2.2.2.2.2.2.2.2.2.2.2.2.2.2.2.2.2.2.2.2.2.2.2.2.2.2.2.2.2.1.1
theorem RI.k_left {h : AH} (hI : RI h) : h.kd 75 = (100, 6000) := hI.2.2.2.2.2.2.2.2.2.2.2.2.2.2.2.2.2.2.2.2.2.2.2.2.2.2.2.2.2.2.2.2.2.2.1.2
theorem RI.n_left {h : AH} (hI : RI h) : 75 < h.n := by have := hI.2.1; omega
theorem RI.v_right {h : AH} (hI : RI h) : h.vl 42 47 = 76 := hI.2.2.2.2.2.2.2.2.2.2.2.2.2.2.2.2.2.2.2.2.2.2.2.2.2.2.2.2.2.2.2.2.2.2.2.1.1
theorem RI.k_right {h : AH} (hI : RI h) : h.kd 76 = (100, 6000) := hI.2.2.2.2.2.2.2.2.2.2.2.2.2.2.2.2.2.2.2.2.2.2.2.2.2.2.2.2.2.2.2.2.2.2.2.1.2
theorem RI.n_right {h : AH} (hI : RI h) : 76 < h.n := by have := hI.2.1; omega
theorem RI.v_ends {h : AH} (hI : RI h) : h.vl 42 48 = 77 := hI.2.2.2.2.2.2.2.2.2.2.2.2.2.2.2.2.2.2.2.2.2.2.2.2.2.2.2.2.2.2.2.2.2.2.2.2.1.1
theorem RI.k_ends {h : AH} (hI : RI h) : h.kd 77 = (100, 6000) := hI.2.2.2.2.2.2.2.2.2.2.2.2.2.2.2.2.2.2.2.2.2.2.2.2.2.2.2.2.2.2.2.2.2.2.2.2.1.2
theorem RI.n_ends {h : AH} (hI : RI h) : 77 < h.n := by have := hI.2.1; omega
theorem RI.v_rowOfType {h : AH} (hI : RI h) : h.vl 42 56 = 78 := hI.2.2.2.2.2.2.2.2.2.2.2.2.2.2.2.2.2.2.2.2.2.2.2.2.2.2.2.2.2.2.2.2.2.2.2.2.2.1.1
theorem RI.k_rowOfType {h : AH} (hI : RI h) : h.kd 78 = (100, 210) := hI.2.2.2.2.2.2.2.2.2.2.2.2.2.2.2.2.2.2.2.2.2.2.2.2.2.2.2.2.2.2.2.2.2.2.2.2.2.1.2
theorem RI.n_rowOfType {h : AH} (hI : RI h) : 78 < h.n := by have := hI.2.1; omega
theorem RI.v_one {h : AH} (hI : RI h) : h.vl 42 57 = 79 := hI.2.2.2.2.2.2.2.2.2.2.2.2.2.2.2.2.2.2.2.2.2.2.2.2.2.2.2.2.2.2.2.2.2.2.2.2.2.2.1.1
theorem RI.k_one {h : AH} (hI : RI h) : h.kd 79 = (100, 210) := hI.2.2.2.2.2.2.2.2.2.2.2.2.2.2.2.2.2.2.2.2.2.2.2.2.2.2.2.2.2.2.2.2.2.2.2.2.2.2.1.2
theorem RI.n_one {h : AH} (hI : RI h) : 79 < h.n := by have := hI.2.1; omega
theorem RI.v_two {h : AH} (hI : RI h) : h.vl 42 58 = 80 := hI.2.2.2.2.2.2.2.2.2.2.2.2.2.2.2.2.2.2.2.2.2.2.2.2.2.2.2.2.2.2.2.2.2.2.2.2.2.2.2.1.1
theorem RI.k_two {h : AH} (hI : RI h) : h.kd 80 = (100, 210) := hI.2.2.2.2.2.2.2.2.2.2.2.2.2.2.2.2.2.2.2.2.2.2.2.2.2.2.2.2.2.2.2.2.2.2.2.2.2.2.2.1.2
theorem RI.n_two {h : AH} (hI : RI h) : 80 < h.n := by have := hI.2.1; omega
theorem RI.v_named {h : AH} (hI : RI h) : h.vl 42 61 = 81 := hI.2.2.2.2.2.2.2.2.2.2.2.2.2.2.2.2.2.2.2.2.2.2.2.2.2.2.2.2.2.2.2.2.2.2.2.2.2.2.2.2.1.1
theorem RI.k_named {h : AH} (hI : RI h) : h.kd 81 = (100, 210) := hI.2.2.2.2.2.2.2.2.2.2.2.2.2.2.2.2.2.2.2.2.2.2.2.2.2.2.2.2.2.2.2.2.2.2.2.2.2.2.2.2.1.2
theorem RI.n_named {h : AH} (hI : RI h) : 81 < h.n := by have := hI.2.1; omega
theorem RI.v_open {h : AH} (hI : RI h) : h.vl 42 62 = 82 := hI.2.2.2.2.2.2.2.2.2.2.2.2.2.2.2.2.2.2.2.2.2.2.2.2.2.2.2.2.2.2.2.2.2.2.2.2.2.2.2.2.2.1.1
theorem RI.k_open {h : AH} (hI : RI h) : h.kd 82 = (100, 210) := hI.2.2.2.2.2.2.2.2.2.2.2.2.2.2.2.2.2.2.2.2.2.2.2.2.2.2.2.2.2.2.2.2.2.2.2.2.2.2.2.2.2.1.2
theorem RI.n_open {h : AH} (hI : RI h) : 82 < h.n := by have := hI.2.1; omega
theorem RI.v_got {h : AH} (hI : RI h) : h.vl 42 63 = 83 := hI.2.2.2.2.2.2.2.2.2.2.2.2.2.2.2.2.2.2.2.2.2.2.2.2.2.2.2.2.2.2.2.2.2.2.2.2.2.2.2.2.2.2.1.1
theorem RI.k_got {h : AH} (hI : RI h) : h.kd 83 = (100, 210) := hI.2.2.2.2.2.2.2.2.2.2.2.2.2.2.2.2.2.2.2.2.2.2.2.2.2.2.2.2.2.2.2.2.2.2.2.2.2.2.2.2.2.2.1.2
theorem RI.n_got {h : AH} (hI : RI h) : 83 < h.n := by have := hI.2.1; omega
theorem RI.v_type {h : AH} (hI : RI h) : h.vl 42 64 = 84 := hI.2.2.2.2.2.2.2.2.2.2.2.2.2.2.2.2.2.2.2.2.2.2.2.2.2.2.2.2.2.2.2.2.2.2.2.2.2.2.2.2.2.2.2.1.1
theorem RI.k_type {h : AH} (hI : RI h) : h.kd 84 = (100, 130) := hI.2.2.2.2.2.2.2.2.2.2.2.2.2.2.2.2.2.2.2.2.2.2.2.2.2.2.2.2.2.2.2.2.2.2.2.2.2.2.2.2.2.2.2.1.2
theorem RI.n_type {h : AH} (hI : RI h) : 84 < h.n := by have := hI.2.1; omega
theorem RI.v_own {h : AH} (hI : RI h) : h.vl 42 65 = 85 := hI.2.2.2.2.2.2.2.2.2.2.2.2.2.2.2.2.2.2.2.2.2.2.2.2.2.2.2.2.2.2.2.2.2.2.2.2.2.2.2.2.2.2.2.2.1.1
theorem RI.k_own {h : AH} (hI : RI h) : h.kd 85 = (100, 130) := hI.2.2.2.2.2.2.2.2.2.2.2.2.2.2.2.2.2.2.2.2.2.2.2.2.2.2.2.2.2.2.2.2.2.2.2.2.2.2.2.2.2.2.2.2.1.2
theorem RI.n_own {h : AH} (hI : RI h) : 85 < h.n := by have := hI.2.1; omega
theorem RI.v_walk {h : AH} (hI : RI h) : h.vl 42 66 = 86 := hI.2.2.2.2.2.2.2.2.2.2.2.2.2.2.2.2.2.2.2.2.2.2.2.2.2.2.2.2.2.2.2.2.2.2.2.2.2.2.2.2.2.2.2.2.2.1.1
theorem RI.k_walk {h : AH} (hI : RI h) : h.kd 86 = (100, 400) := hI.2.2.2.2.2.2.2.2.2.2.2.2.2.2.2.2.2.2.2.2.2.2.2.2.2.2.2.2.2.2.2.2.2.2.2.2.2.2.2.2.2.2.2.2.2.1.2
theorem RI.n_walk {h : AH} (hI : RI h) : 86 < h.n := by have := hI.2.1; omega
theorem RI.v_phase {h : AH} (hI : RI h) : h.vl 42 67 = 87 := hI.2.2.2.2.2.2.2.2.2.2.2.2.2.2.2.2.2.2.2.2.2.2.2.2.2.2.2.2.2.2.2.2.2.2.2.2.2.2.2.2.2.2.2.2.2.2.1.1
theorem RI.k_phase {h : AH} (hI : RI h) : h.kd 87 = (100, 400) := hI.2.2.2.2.2.2.2.2.2.2.2.2.2.2.2.2.2.2.2.2.2.2.2.2.2.2.2.2.2.2.2.2.2.2.2.2.2.2.2.2.2.2.2.2.2.2.1.2
theorem RI.n_phase {h : AH} (hI : RI h) : 87 < h.n := by have := hI.2.1; omega
theorem RI.v_input {h : AH} (hI : RI h) : h.vl 42 70 = 88 := hI.2.2.2.2.2.2.2.2.2.2.2.2.2.2.2.2.2.2.2.2.2.2.2.2.2.2.2.2.2.2.2.2.2.2.2.2.2.2.2.2.2.2.2.2.2.2.2.1.1
theorem RI.k_input {h : AH} (hI : RI h) : h.kd 88 = (100, 60) := hI.2.2.2.2.2.2.2.2.2.2.2.2.2.2.2.2.2.2.2.2.2.2.2.2.2.2.2.2.2.2.2.2.2.2.2.2.2.2.2.2.2.2.2.2.2.2.2.1.2
theorem RI.n_input {h : AH} (hI : RI h) : 88 < h.n := by have := hI.2.1; omega
theorem RI.v_cost {h : AH} (hI : RI h) : h.vl 42 72 = 89 := hI.2.2.2.2.2.2.2.2.2.2.2.2.2.2.2.2.2.2.2.2.2.2.2.2.2.2.2.2.2.2.2.2.2.2.2.2.2.2.2.2.2.2.2.2.2.2.2.2.1.1
theorem RI.k_cost {h : AH} (hI : RI h) : h.kd 89 = (100, 130) := hI.2.2.2.2.2.2.2.2.2.2.2.2.2.2.2.2.2.2.2.2.2.2.2.2.2.2.2.2.2.2.2.2.2.2.2.2.2.2.2.2.2.2.2.2.2.2.2.2.1.2
theorem RI.n_cost {h : AH} (hI : RI h) : 89 < h.n := by have := hI.2.1; omega
theorem RI.v_line {h : AH} (hI : RI h) : h.vl 42 78 = 90 := hI.2.2.2.2.2.2.2.2.2.2.2.2.2.2.2.2.2.2.2.2.2.2.2.2.2.2.2.2.2.2.2.2.2.2.2.2.2.2.2.2.2.2.2.2.2.2.2.2.2.1.1
theorem RI.k_line {h : AH} (hI : RI h) : h.kd 90 = (100, 900) := hI.2.2.2.2.2.2.2.2.2.2.2.2.2.2.2.2.2.2.2.2.2.2.2.2.2.2.2.2.2.2.2.2.2.2.2.2.2.2.2.2.2.2.2.2.2.2.2.2.2.1.2
theorem RI.n_line {h : AH} (hI : RI h) : 90 < h.n := by have := hI.2.1; omega
theorem RI.v_acts {h : AH} (hI : RI h) : h.vl 42 79 = 91 := hI.2.2.2.2.2.2.2.2.2.2.2.2.2.2.2.2.2.2.2.2.2.2.2.2.2.2.2.2.2.2.2.2.2.2.2.2.2.2.2.2.2.2.2.2.2.2.2.2.2.2.1
theorem RI.k_acts {h : AH} (hI : RI h) : h.kd 91 = (100, 900) := hI.2.2.2.2.2.2.2.2.2.2.2.2.2.2.2.2.2.2.2.2.2.2.2.2.2.2.2.2.2.2.2.2.2.2.2.2.2.2.2.2.2.2.2.2.2.2.2.2.2.2.2
theorem RI.n_acts {h : AH} (hI : RI h) : 91 < h.n := by have := hI.2.1; omega
theorem RI.to {h h1 : AH} (hI : RI h) (hn : h.n ≤ h1.n) (hk : ∀ a, 42 ≤ a → a < 92 → h1.kd a = h.kd a) (hv : ∀ j, h1.vl 42 j = h.vl 42 j ∨ j ∈ [0, 1, 2, 3, 4, 5, 6, 7, 8, 9, 10, 34, 35, 36, 49, 50, 51, 52, 53, 54, 55, 59, 60, 68, 69, 71, 73, 74, 75, 76, 77, 80, 81]) : RI h1 := by
  have hz : ∀ j, j ∉ [0, 1, 2, 3, 4, 5, 6, 7, 8, 9, 10, 34, 35, 36, 49, 50, 51, 52, 53, 54, 55, 59, 60, 68, 69, 71, 73, 74, 75, 76, 77, 80, 81] → h1.vl 42 j = h.vl 42 j := fun j hj => (hv j).resolve_right hj
  exact ⟨(hk 42 (by decide) (by decide)).trans hI.o, Nat.le_trans hI.2.1 hn, ⟨(hz 11 (by decide)).trans hI.v_v, (hk 43 (by decide) (by decide)).trans hI.k_v⟩, ⟨(hz 12 (by decide)).trans hI.v_before, (hk 44 (by decide) (by decide)).trans hI.k_before⟩, ⟨(hz 13 (by decide)).trans hI.v_saved, (hk 45 (by decide) (by decide)).trans hI.k_saved⟩, ⟨(hz 14 (by decide)).trans hI.v_past, (hk 46 (by decide) (by decide)).trans hI.k_past⟩, ⟨(hz 15 (by decide)).trans hI.v_frame, (hk 47 (by decide) (by decide)).trans hI.k_frame⟩, ⟨(hz 16 (by decide)).trans hI.v_done, (hk 48 (by decide) (by decide)).trans hI.k_done⟩, ⟨(hz 17 (by decide)).trans hI.v_letter, (hk 49 (by decide) (by decide)).trans hI.k_letter⟩, ⟨(hz 18 (by decide)).trans hI.v_place, (hk 50 (by decide) (by decide)).trans hI.k_place⟩, ⟨(hz 19 (by decide)).trans hI.v_bound, (hk 51 (by decide) (by decide)).trans hI.k_bound⟩, ⟨(hz 20 (by decide)).trans hI.v_rawKind, (hk 52 (by decide) (by decide)).trans hI.k_rawKind⟩, ⟨(hz 21 (by decide)).trans hI.v_rawSign, (hk 53 (by decide) (by decide)).trans hI.k_rawSign⟩, ⟨(hz 22 (by decide)).trans hI.v_rawFirst, (hk 54 (by decide) (by decide)).trans hI.k_rawFirst⟩, ⟨(hz 23 (by decide)).trans hI.v_rawSecond, (hk 55 (by decide) (by decide)).trans hI.k_rawSecond⟩, ⟨(hz 24 (by decide)).trans hI.v_rawAt, (hk 56 (by decide) (by decide)).trans hI.k_rawAt⟩, ⟨(hz 25 (by decide)).trans hI.v_kind, (hk 57 (by decide) (by decide)).trans hI.k_kind⟩, ⟨(hz 26 (by decide)).trans hI.v_sign, (hk 58 (by decide) (by decide)).trans hI.k_sign⟩, ⟨(hz 27 (by decide)).trans hI.v_first, (hk 59 (by decide) (by decide)).trans hI.k_first⟩, ⟨(hz 28 (by decide)).trans hI.v_second, (hk 60 (by decide) (by decide)).trans hI.k_second⟩, ⟨(hz 29 (by decide)).trans hI.v_up, (hk 61 (by decide) (by decide)).trans hI.k_up⟩, ⟨(hz 30 (by decide)).trans hI.v_deep, (hk 62 (by decide) (by decide)).trans hI.k_deep⟩, ⟨(hz 31 (by decide)).trans hI.v_at, (hk 63 (by decide) (by decide)).trans hI.k_at⟩, ⟨(hz 32 (by decide)).trans hI.v_row, (hk 64 (by decide) (by decide)).trans hI.k_row⟩, ⟨(hz 33 (by decide)).trans hI.v_rowUp, (hk 65 (by decide) (by decide)).trans hI.k_rowUp⟩, ⟨(hz 37 (by decide)).trans hI.v_sort, (hk 66 (by decide) (by decide)).trans hI.k_sort⟩, ⟨(hz 38 (by decide)).trans hI.v_from, (hk 67 (by decide) (by decide)).trans hI.k_from⟩, ⟨(hz 39 (by decide)).trans hI.v_to, (hk 68 (by decide) (by decide)).trans hI.k_to⟩, ⟨(hz 40 (by decide)).trans hI.v_link, (hk 69 (by decide) (by decide)).trans hI.k_link⟩, ⟨(hz 41 (by decide)).trans hI.v_isNew, (hk 70 (by decide) (by decide)).trans hI.k_isNew⟩, ⟨(hz 42 (by decide)).trans hI.v_seen, (hk 71 (by decide) (by decide)).trans hI.k_seen⟩, ⟨(hz 43 (by decide)).trans hI.v_memo, (hk 72 (by decide) (by decide)).trans hI.k_memo⟩, ⟨(hz 44 (by decide)).trans hI.v_orders, (hk 73 (by decide) (by decide)).trans hI.k_orders⟩, ⟨(hz 45 (by decide)).trans hI.v_stack, (hk 74 (by decide) (by decide)).trans hI.k_stack⟩, ⟨(hz 46 (by decide)).trans hI.v_left, (hk 75 (by decide) (by decide)).trans hI.k_left⟩, ⟨(hz 47 (by decide)).trans hI.v_right, (hk 76 (by decide) (by decide)).trans hI.k_right⟩, ⟨(hz 48 (by decide)).trans hI.v_ends, (hk 77 (by decide) (by decide)).trans hI.k_ends⟩, ⟨(hz 56 (by decide)).trans hI.v_rowOfType, (hk 78 (by decide) (by decide)).trans hI.k_rowOfType⟩, ⟨(hz 57 (by decide)).trans hI.v_one, (hk 79 (by decide) (by decide)).trans hI.k_one⟩, ⟨(hz 58 (by decide)).trans hI.v_two, (hk 80 (by decide) (by decide)).trans hI.k_two⟩, ⟨(hz 61 (by decide)).trans hI.v_named, (hk 81 (by decide) (by decide)).trans hI.k_named⟩, ⟨(hz 62 (by decide)).trans hI.v_open, (hk 82 (by decide) (by decide)).trans hI.k_open⟩, ⟨(hz 63 (by decide)).trans hI.v_got, (hk 83 (by decide) (by decide)).trans hI.k_got⟩, ⟨(hz 64 (by decide)).trans hI.v_type, (hk 84 (by decide) (by decide)).trans hI.k_type⟩, ⟨(hz 65 (by decide)).trans hI.v_own, (hk 85 (by decide) (by decide)).trans hI.k_own⟩, ⟨(hz 66 (by decide)).trans hI.v_walk, (hk 86 (by decide) (by decide)).trans hI.k_walk⟩, ⟨(hz 67 (by decide)).trans hI.v_phase, (hk 87 (by decide) (by decide)).trans hI.k_phase⟩, ⟨(hz 70 (by decide)).trans hI.v_input, (hk 88 (by decide) (by decide)).trans hI.k_input⟩, ⟨(hz 72 (by decide)).trans hI.v_cost, (hk 89 (by decide) (by decide)).trans hI.k_cost⟩, ⟨(hz 78 (by decide)).trans hI.v_line, (hk 90 (by decide) (by decide)).trans hI.k_line⟩, ⟨(hz 79 (by decide)).trans hI.v_acts, (hk 91 (by decide) (by decide)).trans hI.k_acts⟩⟩
