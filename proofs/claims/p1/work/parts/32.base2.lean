/-! calls of the superclass's methods, by outcome; what stays of cells as others are made -/
theorem nk {h : AH} {a : Nat} {k q : Nat × Nat} (hk : h.kd a = k) (hn : a < h.n) : (h.new q).kd a = k := by rw [AH.new_kd, if_neg (by omega)]; exact hk
theorem nn {h : AH} {a : Nat} {q : Nat × Nat} (hn : a < h.n) : a < (h.new q).n := by rw [AH.new_n]; omega
theorem nk0 {h : AH} {q : Nat × Nat} : (h.new q).kd h.n = q := by rw [AH.new_kd, if_pos rfl]
theorem nn0 {h : AH} {q : Nat × Nat} : h.n < (h.new q).n := by rw [AH.new_n]; omega
theorem pk {h : AH} {a b j : Nat} {x : Int} {k : Nat × Nat} (hk : h.kd a = k) : (h.put b j x).kd a = k := hk
theorem pn {h : AH} {a b j : Nat} {x : Int} (hn : a < h.n) : a < (h.put b j x).n := hn
section EvBaseD
variable {M : MD} {d pc : Nat} {L S : List AV} {h : AH} {Q : AV → AH → Prop}
theorem ev_cui {idx n ci N r : Nat} {a : Int} {as st : List AV} {M' : MD} {d' : Nat} {P : Int → AH → Prop} (hd : decode M.cc pc = .ok (.invokevirtual idx, 3)) (lk : LKU M.y.cls idx M' ci n) (hc : CV M' d' (rv a :: as) h (oi P)) (hdd : d' < d) (hk : h.kd r = (ci, N)) (hn : r < h.n) (ha : a = (r : Int)) (hst : st = (rv a :: as).reverse ++ S) (hl : as.length = n) (hS : S.length ≤ 4)
    (k : ∀ x h1, P x h1 → EV M d (pc + 3) L (iv x :: S) h1 Q) : EV M d pc L st h Q := by
  subst ha
  refine ev_callu hd lk hc hdd (by omega) (by omega) hk hst hl hS (fun o h1 q => ?_)
  obtain ⟨x, rfl, q⟩ := q
  exact ⟨fun e => absurd (show (0 : Nat) = 7 from e) (by decide), k x h1 q⟩
theorem ev_cuv {idx n ci N r : Nat} {a : Int} {as st : List AV} {M' : MD} {d' : Nat} {P : AH → Prop} (hd : decode M.cc pc = .ok (.invokevirtual idx, 3)) (lk : LKU M.y.cls idx M' ci n) (hc : CV M' d' (rv a :: as) h (on P)) (hdd : d' < d) (hk : h.kd r = (ci, N)) (hn : r < h.n) (ha : a = (r : Int)) (hst : st = (rv a :: as).reverse ++ S) (hl : as.length = n) (hS : S.length ≤ 4)
    (k : ∀ h1, P h1 → EV M d (pc + 3) L S h1 Q) : EV M d pc L st h Q := by
  subst ha
  refine ev_callu hd lk hc hdd (by omega) (by omega) hk hst hl hS (fun o h1 q => ?_)
  obtain ⟨rfl, q⟩ := q
  exact ⟨fun e => absurd (show (8 : Nat) = 7 from e) (by decide), k h1 q⟩
theorem ev_cpi {idx n ci N r : Nat} {a : Int} {as st : List AV} {M' : MD} {d' : Nat} {P : Int → AH → Prop} (hd : decode M.cc pc = .ok (.invokespecial idx, 3)) (lk : LKP M.y.cls idx M' ci n) (hc : CV M' d' (rv a :: as) h (oi P)) (hdd : d' < d) (hk : h.kd r = (ci, N)) (hn : r < h.n) (ha : a = (r : Int)) (hst : st = (rv a :: as).reverse ++ S) (hl : as.length = n) (hS : S.length ≤ 4)
    (k : ∀ x h1, P x h1 → EV M d (pc + 3) L (iv x :: S) h1 Q) : EV M d pc L st h Q := by
  subst ha
  refine ev_callp hd lk hc hdd (by omega) (by omega) hk hst hl hS (fun o h1 q => ?_)
  obtain ⟨x, rfl, q⟩ := q
  exact ⟨fun e => absurd (show (0 : Nat) = 7 from e) (by decide), k x h1 q⟩
theorem ev_cpr {idx n ci N r : Nat} {a : Int} {as st : List AV} {M' : MD} {d' : Nat} {P : Int → AH → Prop} (hd : decode M.cc pc = .ok (.invokespecial idx, 3)) (lk : LKP M.y.cls idx M' ci n) (hc : CV M' d' (rv a :: as) h (oa P)) (hdd : d' < d) (hk : h.kd r = (ci, N)) (hn : r < h.n) (ha : a = (r : Int)) (hst : st = (rv a :: as).reverse ++ S) (hl : as.length = n) (hS : S.length ≤ 4)
    (k : ∀ x h1, P x h1 → EV M d (pc + 3) L (rv x :: S) h1 Q) : EV M d pc L st h Q := by
  subst ha
  refine ev_callp hd lk hc hdd (by omega) (by omega) hk hst hl hS (fun o h1 q => ?_)
  obtain ⟨x, rfl, q⟩ := q
  exact ⟨fun e => absurd (show (1 : Nat) = 7 from e) (by decide), k x h1 q⟩
theorem ev_cpv {idx n ci N r : Nat} {a : Int} {as st : List AV} {M' : MD} {d' : Nat} {P : AH → Prop} (hd : decode M.cc pc = .ok (.invokespecial idx, 3)) (lk : LKP M.y.cls idx M' ci n) (hc : CV M' d' (rv a :: as) h (on P)) (hdd : d' < d) (hk : h.kd r = (ci, N)) (hn : r < h.n) (ha : a = (r : Int)) (hst : st = (rv a :: as).reverse ++ S) (hl : as.length = n) (hS : S.length ≤ 4)
    (k : ∀ h1, P h1 → EV M d (pc + 3) L S h1 Q) : EV M d pc L st h Q := by
  subst ha
  refine ev_callp hd lk hc hdd (by omega) (by omega) hk hst hl hS (fun o h1 q => ?_)
  obtain ⟨rfl, q⟩ := q
  exact ⟨fun e => absurd (show (8 : Nat) = 7 from e) (by decide), k h1 q⟩
end EvBaseD
