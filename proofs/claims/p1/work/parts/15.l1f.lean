/-- entry idx of the class own names class ci, which can be made -/
def NL (own : String) (idx ci N : Nat) : Prop := ∃ (C : String) (T : u_T) (ty : Nat → FieldType), KC ci C T ty N ∧ Cond.classLink own idx C ∈ gw ∧ Cond.instantiable C N ∈ gw ∧ Cond.initialized C ∈ gw
section EvE
variable {M : MD} {d pc : Nat} {L S : List AV} {h : AH} {Q : AV → AH → Prop}
/-- an instruction that makes a cell -/
theorem ev_mk {pc' : Nat} {S' : List AV} {k : Nat × Nat} (kk : EV M d pc' L (rv h.n :: S') (h.new k) Q) (hs : SR h.n S → SR h.n S')
    (st : ∀ {p : Program} {l : Launch} {e : Env} {R : Room} {s : State} {m : MethodId} {args : Array Value} {below : List Frame} {meth : Method} {c : Code} {D : va_G} {base : Nat} {scr : SC} {φ : Nat → Nat} {cA : Nat → ClassId} {H : Heap} {locs : List Loc} {ls : Array Slot} {cells slots : Nat} {Q : State → Prop},
      SR h.n L → SR h.n S → RGh h → CX M d p l R s m args meth c D base scr → RP D base s φ cA h H locs → LSv φ L ls M.ml → cells + 1 ≤ R.cells → slots + k.2 ≤ R.slots →
      (∀ (q : Nat) (cq : ClassId) (H1 : Heap) (ee : va_E), ee = aE φ cq k (kz k) → (100 ≤ k.1 → va_K D vwCl [(cq, aty k.1)] s) → va_P D vwCl (wl φ cA h ++ [(q, ee)]) H1 → va_D (fun q => base ≤ q) (wl φ cA h ++ [(q, ee)]) → va_S (fun q => base ≤ q) s.heap H1 locs →
        W p l e R s m args below meth c H1 locs (cells + 1) (slots + k.2) Q (F0 m pc' ls (.ref q :: S'.map (av_c φ)))) → W p l e R s m args below meth c H locs cells slots Q (F0 m pc ls (S.map (av_c φ)))) : EV M d pc L S h Q := by
  intro hL hS hR
  have hn1 : h.n ≤ (h.new k).n := by rw [AH.new_n]; omega
  obtain ⟨o, h', q, ⟨m1, m2, m3, m4, m5⟩, x⟩ := kk (hL.mono hn1) (SR_c (VR_r (by rw [AH.new_n]; omega)) ((hs hS).mono hn1)) hR.new
  rw [AH.new_n] at m1
  rw [AH.new_cs] at m2
  rw [AH.new_ss] at m3
  refine ⟨o, h', q, ⟨by omega, by omega, by omega, m4, m5⟩, ?_⟩
  intro p l e R s m args below meth c D base scr φ cA H locs ls x0 y0 Qc XC C h1 h2 h3 h4 hP hl hQ
  refine st hL hS hR C hP hl (by omega) (by omega) (fun q cq H1 ee he hc p1 p2 p3 => ?_)
  have hφ : ∀ a, a < h.n → (fun b => if b = h.n then q else φ b) a = φ a := fun a ha => if_neg (by omega)
  have hW := x p l e R s m args below meth c D base scr (fun b => if b = h.n then q else φ b) (fun b => if b = h.n then cq else cA b) H1 locs ls x0 y0 Qc XC C (by rw [AH.new_cs]; omega) (by rw [AH.new_ss]; omega) h3 h4 (hP.new hR he hc p1 p2 p3) (hl.mv hφ hL) (hQ.mv hφ (by rw [AH.new_n]; omega))
  have e1 : (rv h.n :: S').map (av_c (fun b => if b = h.n then q else φ b)) = .ref q :: S'.map (av_c φ) := by
    rw [List.map_cons, av_φS hφ (hs hS)]
    simp [av_c]
  rw [e1, AH.new_cs, AH.new_ss, show h.cs + 1 - x0 = h.cs - x0 + 1 by omega, show h.ss + k.2 - y0 = h.ss - y0 + k.2 by omega] at hW
  exact hW
theorem ev_new {idx ci N : Nat} (hd : decode M.cc pc = .ok (.new idx, 3)) (f : NL M.y.cls idx ci N) (kk : EV M d (pc + 3) L (rv h.n :: S) (h.new (ci, N)) Q) : EV M d pc L S h Q := by
  obtain ⟨C, T, ty, ⟨c0, c1, c2, c3, c4, c5⟩, f1, f2, f3⟩ := f
  refine ev_mk kk (fun q => q) ?_
  intro p l e R s m args below meth c D base scr φ cA H locs ls cells slots Q _ hS _ X P hl h1 h2 W0
  obtain ⟨hx, hb, hr, hml, hown, hts, hlk, htr, htb, hnm, hK, hbs, hG, hf, hlo⟩ := X
  have he : (Sum.inr (ci, (List.range N).map (fun j => av_c φ (kt ci j, kz (ci, N) j))) : va_E) = aE φ 0 (ci, N) (kz (ci, N)) := by
    unfold aE
    rw [if_pos c0]
  refine va_new (own := M.y.cls) hx hb hts c2 ty c3 hown (hts _ f1) (hts _ f2) (hts _ f3) hK P.1.1 P.1.2.1 P.S (fun q hq => Nat.le_trans hbs hq) c1 (fs := (List.range N).map (fun j => av_c φ (kt ci j, kz (ci, N) j))) (fun j hj => ?_) h1 h2 hd
    (fun q H1 p1 p2 p3 => W0 q 0 H1 _ he (fun z => absurd c0 (Nat.not_lt.mpr z)) p1 p2 p3)
  rcases (c5 j hj).2 with ⟨g1, g2⟩ | ⟨g1, g2⟩
  · rw [g2]
    simp [vp_V, hj, kz, g1, av_c]
  · rw [g2]
    simp [vp_V, hj, kz, g1, av_c]
theorem ev_newi {n : Int} (hd : decode M.cc pc = .ok (.newarray .int, 2)) (h0 : 0 ≤ n) (h9 : n ≤ 100000000) (kk : EV M d (pc + 2) L (rv h.n :: S) (h.new (100, n.toNat)) Q) (hw : Cond.arrayClass .int ∈ gw) : EV M d pc L (iv n :: S) h Q := by
  refine ev_mk kk (fun q => SR_t q) ?_
  intro p l e R s m args below meth c D base scr φ cA H locs ls cells slots Q _ hS _ X P hl h1 h2 W0
  obtain ⟨hx, hb, hr, hml, hown, hts, hlk, htr, htb, hnm, hK, hbs, hG, hf, hlo⟩ := X
  have hi := SR_hi hS
  refine va_newa (atype := .int) (ty := .int) hx hb (hts _ hw) rfl hK P.1.1 P.1.2.1 P.S (fun q hq => Nat.le_trans hbs hq) (a0 := (n.toNat, .inl (fun _ => 0))) (N' := n.toNat) (fun cA => ?_) (fun q => ?_) (ofI_c hi) ?_ h1 h2 hd
    (fun q cq H1 k1 p1 p2 p3 => W0 q cq H1 _ rfl (fun _ => k1) p1 p2 p3)
  · first | rfl | simp [vp_cell, arrV_new, defaultValue]
  · rw [of0, ofI_lt hi ir_0] at q
    omega
  · show n.toNat * 4 ≤ 536870912
    omega
end EvE
