section EvD
variable {M : MD} {d pc : Nat} {L S : List AV} {h : AH} {Q : AV → AH → Prop}
/-- an instruction that writes one row of the heap -/
theorem ev_wr {pc' : Nat} {S' : List AV} {a : Nat} {f : Nat → Int} (k : EV M d pc' L S' (h.row a f) Q) (hs : SR h.n L → SR h.n S → RGh h → SR h.n S' ∧ ∀ j, VR h.n (kt (h.kd a).1 j, f j))
    (st : ∀ {p : Program} {l : Launch} {e : Env} {R : Room} {s : State} {m : MethodId} {args : Array Value} {below : List Frame} {meth : Method} {c : Code} {D : va_G} {base : Nat} {scr : SC} {φ : Nat → Nat} {cA : Nat → ClassId} {H : Heap} {locs : List Loc} {ls : Array Slot} {cells slots : Nat} {Q : State → Prop},
      SR h.n L → SR h.n S → RGh h → CX M d p l R s m args meth c D base scr → RP D base s φ cA h H locs → LSv φ L ls M.ml → (∀ (H1 : Heap) (locs1 : List Loc), RP D base s φ cA (h.row a f) H1 locs1 → W p l e R s m args below meth c H1 locs1 cells slots Q (F0 m pc' ls (S'.map (av_c φ)))) → W p l e R s m args below meth c H locs cells slots Q (F0 m pc ls (S.map (av_c φ)))) : EV M d pc L S h Q := by
  intro hL hS hR
  obtain ⟨g1, g2⟩ := hs hL hS hR
  obtain ⟨o, h', q, x⟩ := k hL g1 (hR.row g2)
  refine ⟨o, h', q, x.1, ?_⟩
  intro p l e R s m args below meth c D base scr φ cA H locs ls x0 y0 Qc XC C h1 h2 h3 h4 hP hl hQ
  exact st hL hS hR C hP hl (fun H1 locs1 hP1 => x.2 p l e R s m args below meth c D base scr φ cA H1 locs1 ls x0 y0 Qc XC C h1 h2 h3 h4 hP1 hl hQ)
theorem ev_put {idx ci N k : Nat} {τ : FieldType} {a x : Int} {t : Nat} (hd : decode M.cc pc = .ok (.putfield idx, 3)) (f : FL M.y.cls idx ci N k false τ) (ha : 0 ≤ a) (hn : a < (h.n : Int)) (hk : h.kd a.toNat = (ci, N))
    (kk : EV M d (pc + 3) L S (h.put a.toNat k x) Q) (hfo : fok τ x := by trivial) (ht : t = tkt τ := by rfl) : EV M d pc L ((t, x) :: rv a :: S) h Q := by
  subst ht
  obtain ⟨C, T, ty, ⟨c0, c1, c2, c3, c4, c5⟩, f1, f2, rfl, f4⟩ := f
  have hkt := (c5 k f1).1
  rw [AH.row_self] at kk
  refine ev_wr kk (fun _ hS hR => ⟨SR_t (SR_t hS), fun j => ?_⟩) ?_
  · by_cases q : j = k
    · subst q
      rw [if_pos rfl, hk, hkt]
      exact SR_h hS
    · rw [if_neg q]
      exact hR a.toNat (by omega) j
  · intro p l e R s m args below meth c D base scr φ cA H locs ls cells slots Q _ hS _ X P hl W0
    obtain ⟨hx, hb, hr, hml, hown, hts, hlk, htr, htb, hnm, hK, hbs, hG, hf, hlo⟩ := X
    have he : (wl φ cA h)[a.toNat]? = some (φ a.toNat, .inr (ci, (List.range N).map (fun j => av_c φ (kt ci j, h.vl a.toNat j)))) := by
      rw [wl_at (by omega)]
      unfold aE
      rw [hk, if_pos c0]
    obtain ⟨g1, g2⟩ := fok_ok (φ := φ) hfo
    have e1 : ((tkt (ty k), x) :: rv a :: S).map (av_c φ) = av_c φ (tkt (ty k), x) :: .ref (φ a.toNat) :: S.map (av_c φ) := by simp [av_c, show ¬ a < 0 by omega]
    have e2 : (Sum.inr (ci, ((List.range N).map (fun j => av_c φ (kt ci j, h.vl a.toNat j))).set k (av_c φ (tkt (ty k), x))) : va_E) = aE φ (cA a.toNat) (h.kd a.toNat) (fun j => if j = k then x else h.vl a.toNat j) := by
      unfold aE
      rw [hk, if_pos c0]
      refine congrArg (fun l => (Sum.inr (ci, l) : va_E)) (List.ext_getElem? fun i => ?_)
      by_cases hi : i < N
      · by_cases e : i = k
        · subst e
          simp [hi, hkt]
        · rw [List.getElem?_set_ne (fun q => e q.symm)]
          simp [hi, e]
      · simp [List.getElem?_set, hi]
    rw [e1]
    rcases f4 with f4 | ⟨host, f4⟩
    · exact va_put (own := M.y.cls) (ref := (T k).1) hx hb hts c2 ty c3 c4 hown hK P.1.1 P.1.2.1 P.S a.toNat he c1 k f1 (hts _ f4) (fun _ z => z) f2 (c3 k f1) g1 g2 (by simp [f1]) hd (fun H1 locs1 p1 p2 p3 => W0 H1 locs1 (P.row (by omega) e2 p1 p2 p3))
    · exact va_putN (own := M.y.cls) (ref := (T k).1) hx hb hts c2 ty c3 c4 hown hK P.1.1 P.1.2.1 P.S a.toNat he c1 k f1 (va_Nw.use rfl (hG.2.2.1 _ f4 rfl)) (fun _ z => z) f2 (c3 k f1) g1 g2 (by simp [f1]) hd (fun H1 locs1 p1 p2 p3 => W0 H1 locs1 (P.row (by omega) e2 p1 p2 p3))
theorem ev_putF {idx ci N k : Nat} {τ : FieldType} {a x : Int} {t : Nat} (hd : decode M.cc pc = .ok (.putfield idx, 3)) (f : FLF M.y.cls idx ci N k τ) (hi : M.y.name = "<init>") (ha : 0 ≤ a) (hn : a < (h.n : Int)) (hk : h.kd a.toNat = (ci, N))
    (kk : EV M d (pc + 3) L S (h.put a.toNat k x) Q) (hfo : fok τ x := by trivial) (ht : t = tkt τ := by rfl) : EV M d pc L ((t, x) :: rv a :: S) h Q := by
  subst ht
  obtain ⟨C, T, ty, ⟨c0, c1, c2, c3, c4, c5⟩, f1, f2, rfl, f3, f4⟩ := f
  have hkt := (c5 k f1).1
  rw [AH.row_self] at kk
  refine ev_wr kk (fun _ hS hR => ⟨SR_t (SR_t hS), fun j => ?_⟩) ?_
  · by_cases q : j = k
    · subst q
      rw [if_pos rfl, hk, hkt]
      exact SR_h hS
    · rw [if_neg q]
      exact hR a.toNat (by omega) j
  · intro p l e R s m args below meth c D base scr φ cA H locs ls cells slots Q _ hS _ X P hl W0
    obtain ⟨hx, hb, hr, hml, hown, hts, hlk, htr, htb, hnm, hK, hbs, hG, hf, hlo⟩ := X
    have he : (wl φ cA h)[a.toNat]? = some (φ a.toNat, .inr (ci, (List.range N).map (fun j => av_c φ (kt ci j, h.vl a.toNat j)))) := by
      rw [wl_at (by omega)]
      unfold aE
      rw [hk, if_pos c0]
    obtain ⟨g1, g2⟩ := fok_ok (φ := φ) hfo
    have e1 : ((tkt (ty k), x) :: rv a :: S).map (av_c φ) = av_c φ (tkt (ty k), x) :: .ref (φ a.toNat) :: S.map (av_c φ) := by simp [av_c, show ¬ a < 0 by omega]
    have e2 : (Sum.inr (ci, ((List.range N).map (fun j => av_c φ (kt ci j, h.vl a.toNat j))).set k (av_c φ (tkt (ty k), x))) : va_E) = aE φ (cA a.toNat) (h.kd a.toNat) (fun j => if j = k then x else h.vl a.toNat j) := by
      unfold aE
      rw [hk, if_pos c0]
      refine congrArg (fun l => (Sum.inr (ci, l) : va_E)) (List.ext_getElem? fun i => ?_)
      by_cases hi : i < N
      · by_cases e : i = k
        · subst e
          simp [hi, hkt]
        · rw [List.getElem?_set_ne (fun q => e q.symm)]
          simp [hi, e]
      · simp [List.getElem?_set, hi]
    rw [e1]
    exact va_putF (own := M.y.cls) (ref := (T k).1) hx hb hts c2 ty c3 c4 hown hK P.1.1 P.1.2.1 P.S a.toNat he c1 k f1 (hts _ f4) (fun _ z => z) f2 (hnm.trans hi) f3 (c3 k f1) g1 g2 (by simp [f1]) hd (fun H1 locs1 p1 p2 p3 => W0 H1 locs1 (P.row (by omega) e2 p1 p2 p3))
theorem wl_arr {φ : Nat → Nat} {cA : Nat → ClassId} {h : AH} {a : Int} {n : Nat} (ha : 0 ≤ a) (hn : a < (h.n : Int)) (hk : h.kd a.toNat = (100, n)) : (wl φ cA h)[a.toNat]? = some (φ a.toNat, .inl (cA a.toNat, n, .inl (fun j => Int32.ofInt (h.vl a.toNat j)))) := by
  rw [wl_at (by omega)]
  unfold aE
  rw [hk]
  rfl
theorem ev_iald {a i : Int} {n : Nat} (hd : decode M.cc pc = .ok (.iaload, 1)) (ha : 0 ≤ a) (hn : a < (h.n : Int)) (hk : h.kd a.toNat = (100, n)) (hi : 0 ≤ i) (hj : i < (n : Int))
    (kk : EV M d (pc + 1) L (iv (h.vl a.toNat i.toNat) :: S) h Q) : EV M d pc L (iv i :: rv a :: S) h Q := by
  refine ev_pure kk (fun _ hS hR => SR_c ?_ (SR_t (SR_t hS))) ?_
  · have := hR a.toNat (by omega) i.toNat
    rw [hk] at this
    exact this
  · intro p l e R s m args below meth c D base scr φ cA H locs ls cells slots Q _ hS _ X P hl W0
    have e1 : (iv i :: rv a :: S).map (av_c φ) = .int (Int32.ofInt i) :: .ref (φ a.toNat) :: S.map (av_c φ) := by simp [av_c, show ¬ a < 0 by omega]
    have hK := P.1.2.2.2 a.toNat (by omega) (by rw [hk]; exact Nat.le_refl 100)
    rw [hk] at hK
    rw [e1]
    refine va_iald X.1 X.2.1 hK P.1.1 a.toNat 0 (wl_arr ha hn hk) rfl (ofI_in hi hj (SR_hi hS)) hd ?_
    rw [ofI_c (SR_hi hS)]
    exact W0
theorem ev_iast {a i x : Int} {n : Nat} (hd : decode M.cc pc = .ok (.iastore, 1)) (ha : 0 ≤ a) (hn : a < (h.n : Int)) (hk : h.kd a.toNat = (100, n)) (hi : 0 ≤ i) (hj : i < (n : Int))
    (kk : EV M d (pc + 1) L S (h.put a.toNat i.toNat x) Q) : EV M d pc L (iv x :: iv i :: rv a :: S) h Q := by
  rw [AH.row_self] at kk
  refine ev_wr kk (fun _ hS hR => ⟨SR_t (SR_t (SR_t hS)), fun j => ?_⟩) ?_
  · by_cases q : j = i.toNat
    · rw [if_pos q, hk]
      exact SR_h hS
    · rw [if_neg q]
      exact hR a.toNat (by omega) j
  · intro p l e R s m args below meth c D base scr φ cA H locs ls cells slots Q _ hS _ X P hl W0
    have e1 : (iv x :: iv i :: rv a :: S).map (av_c φ) = .int (Int32.ofInt x) :: .int (Int32.ofInt i) :: .ref (φ a.toNat) :: S.map (av_c φ) := by simp [av_c, show ¬ a < 0 by omega]
    have hK := P.1.2.2.2 a.toNat (by omega) (by rw [hk]; exact Nat.le_refl 100)
    rw [hk] at hK
    rw [e1]
    refine va_iast X.1 X.2.1 hK P.1.1 P.1.2.1 P.S a.toNat 0 (wl_arr ha hn hk) rfl (ofI_in hi hj (SR_hi (SR_t hS))) hd (fun H1 locs1 p1 p2 p3 => W0 H1 locs1 (P.row (by omega) ?_ p1 p2 p3))
    unfold aE
    rw [hk, ofI_c (SR_hi (SR_t hS))]
    refine congrArg (fun f => (Sum.inl (cA a.toNat, n, Sum.inl f) : va_E)) (funext fun j => ?_)
    unfold upd
    by_cases q : j = i.toNat <;> simp [q]
theorem ev_alen {a : Int} {n c : Nat} (hd : decode M.cc pc = .ok (.arraylength, 1)) (ha : 0 ≤ a) (hn : a < (h.n : Int)) (hk : h.kd a.toNat = (c, n)) (hc : 100 ≤ c) (hr : (n : Int) ≤ 2147483647)
    (kk : EV M d (pc + 1) L (iv n :: S) h Q) : EV M d pc L (rv a :: S) h Q := by
  refine ev_pure kk (fun _ hS hR => SR_c (VR_i (by unfold ir; omega)) (SR_t hS)) ?_
  intro p l e R s m args below meth c D base scr φ cA H locs ls cells slots Q _ hS _ X P hl W0
  have e1 : (rv a :: S).map (av_c φ) = .ref (φ a.toNat) :: S.map (av_c φ) := by simp [av_c, show ¬ a < 0 by omega]
  have hK := P.1.2.2.2 a.toNat (by omega) (by rw [hk]; exact hc)
  rw [hk] at hK
  have hw := wl_at (φ := φ) (cA := cA) (h := h) (a := a.toNat) (by omega)
  have he : ∃ f, aE φ (cA a.toNat) (h.kd a.toNat) (h.vl a.toNat) = .inl (cA a.toNat, n, f) := by
    unfold aE
    rw [hk, if_neg (by simp only; omega)]
    split
    · exact ⟨_, rfl⟩
    · split
      · exact ⟨_, rfl⟩
      · split
        · exact ⟨_, rfl⟩
        · exact ⟨_, rfl⟩
  obtain ⟨f, he⟩ := he
  rw [he] at hw
  rw [e1]
  exact va_alen X.1 X.2.1 hK P.1.1 a.toNat 0 hw rfl (v := Int32.ofInt n) (by rw [Int32.ofInt_eq_ofNat]) hd W0
end EvD
