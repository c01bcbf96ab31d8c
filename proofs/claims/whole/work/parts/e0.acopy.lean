/-! a part of an array is copied into another one of its kind -/
section EvCp
variable {M : MD} {d pc : Nat} {L S : List AV} {h : AH} {Q : AV → AH → Prop}
def cpF (f g : Nat → Int) (sp dp n : Nat) : Nat → Int := fun k => if dp ≤ k ∧ k < dp + n then f (sp + (k - dp)) else g k
theorem ev_acpy {idx a b N1 N2 c : Nat} {x y sp dp n : Int} (hd : decode M.cc pc = .ok (.invokestatic idx, 3)) (hl : Cond.methodLink M.y.cls idx arraycopyName ∈ gw) (hnt : Cond.native arraycopyName ∈ gw) (hst : Cond.static arraycopyName ∈ gw) (hini : Cond.initialized "java/lang/System" ∈ gw)
    (hc : c = 100 ∨ c = 101) (ka : h.kd a = (c, N1)) (na : a < h.n) (ea : x = (a : Int)) (kb : h.kd b = (c, N2)) (nb : b < h.n) (eb : y = (b : Int)) (h1 : 0 ≤ sp) (h2 : 0 ≤ dp) (h3 : 0 ≤ n) (h4 : sp + n ≤ (N1 : Int)) (h5 : dp + n ≤ (N2 : Int)) (hby : c = 101 → ∀ i : Nat, (i : Int) < n → -128 ≤ h.vl a (sp.toNat + i) ∧ h.vl a (sp.toNat + i) ≤ 127) (hS : S.length ≤ 4)
    (kk : EV M d (pc + 3) L S (h.row b (cpF (h.vl a) (h.vl b) sp.toNat dp.toNat n.toNat)) Q) : EV M d pc L (iv n :: iv dp :: rv y :: iv sp :: rv x :: S) h Q := by
  subst ea eb
  have hct : kt c = fun _ => 0 := by
    funext j
    rcases hc with rfl | rfl <;> rfl
  refine ev_wr kk (fun _ hS0 hR => ⟨SR_t (SR_t (SR_t (SR_t (SR_t hS0)))), fun j => ?_⟩) ?_
  · have ra := fun i => hR a na i
    have rb := hR b nb j
    rw [ka] at ra
    rw [kb] at rb ⊢
    unfold cpF
    by_cases q : dp.toNat ≤ j ∧ j < dp.toNat + n.toNat
    · rw [if_pos q]
      have := ra (sp.toNat + (j - dp.toNat))
      rw [hct] at this ⊢
      exact this
    · rw [if_neg q]; exact rb
  · intro p l e R s m args below meth c0 D base scr φ cA H locs ls cells slots Q hL0 hS0 hR X P hlv W0
    have rn := SR_hi hS0
    have rdp := SR_hi (SR_t hS0)
    have rsp := SR_hi (SR_t (SR_t (SR_t hS0)))
    obtain ⟨hx, hb0, hr, hml, hown, hts, hlk, htr, htb, hnm, hK, hbs, hG, hf, hlo⟩ := X
    have e1 : (iv n :: iv dp :: rv (b : Int) :: iv sp :: rv (a : Int) :: S).map (av_c φ) = .int (Int32.ofInt n) :: .int (Int32.ofInt dp) :: .ref (φ b) :: .int (Int32.ofInt sp) :: .ref (φ a) :: S.map (av_c φ) := by
      rw [List.map_cons, List.map_cons, List.map_cons, List.map_cons, List.map_cons, av_n, av_n]; rfl
    have hKa := P.1.2.2.2 a na (by rw [ka]; show 100 ≤ c; omega)
    have hKb := P.1.2.2.2 b nb (by rw [kb]; show 100 ≤ c; omega)
    rw [ka] at hKa
    rw [kb] at hKb
    have hc4 : c < 104 ∧ 100 ≤ c := by omega
    have wa : (wl φ cA h)[a]? = some (φ a, .inl (cA a, N1, .inl (fun j => Int32.ofInt (h.vl a j)))) := by
      rw [wl_at na]
      unfold aE
      rw [ka]
      rcases hc with rfl | rfl <;> rfl
    have wb : (wl φ cA h)[b]? = some (φ b, .inl (cA b, N2, .inl (fun j => Int32.ofInt (h.vl b j)))) := by
      rw [wl_at nb]
      unfold aE
      rw [kb]
      rcases hc with rfl | rfl <;> rfl
    have hKK : va_K D vwCl [(cA a, aty c), (cA b, aty c)] s := ⟨hKa.1, fun k q hq => by
      match k, hq with
      | 0, hq => exact hKa.2 0 q hq
      | 1, hq => exact hKb.2 0 q hq⟩
    have nn : ∀ z : Int, ir z → 0 ≤ z → ¬ Int32.ofInt z < 0 := fun z hz h0 hlt => by
      have := (ofI_lt hz ir_0).mp hlt
      omega
    rw [e1]
    refine va_copyi hx hb0 (hml.trans hlv.1.symm) hown (hts _ hl) (hts _ hnt) (hts _ hst) (hts _ hini) hKK P.1.1 P.1.2.1 P.S a b 0 1 wa wb rfl rfl (by rcases hc with rfl | rfl <;> rfl) (nn _ rsp h1) (nn _ rdp h2) (nn _ rn h3) (by rw [ofI_c rsp, ofI_c rn]; omega) (by rw [ofI_c rdp, ofI_c rn]; omega) (fun i hi => ?_) (by omega) ?_ hd (fun H1 locs1 p1 p2 p3 => W0 H1 locs1 (P.row nb ?_ p1 p2 p3))
    · rw [ofI_c rn] at hi
      rcases hc with rfl | rfl
      · rfl
      · have hv := hby rfl i (by omega)
        have hv2 := hR a na (sp.toNat + i)
        rw [ka] at hv2
        have hv3 : ir (h.vl a (sp.toNat + i)) := by unfold ir; omega
        rw [ofI_c rsp]
        have l1 := (ofI_le (x := -128) (y := h.vl a (sp.toNat + i)) (by unfold ir; omega) hv3).mpr hv.1
        have l2 := (ofI_le (x := h.vl a (sp.toNat + i)) (y := 127) hv3 (by unfold ir; omega)).mpr hv.2
        show (decide (Int32.ofInt (-128) ≤ Int32.ofInt (h.vl a (sp.toNat + i))) && decide (Int32.ofInt (h.vl a (sp.toNat + i)) ≤ Int32.ofInt 127)) = true
        rw [decide_eq_true l1, decide_eq_true l2]
        rfl
    · have := av_sum (φ := φ) S
      show ((S.map (av_c φ)).map fun v => v.category).sum + (nativeFrameWords "java/lang/System" "arraycopy" 5 + 11) ≤ R.locals
      have e9 : nativeFrameWords "java/lang/System" "arraycopy" 5 = 7 := by decide
      omega
    · unfold aE
      rw [kb, ofI_c rsp, ofI_c rdp, ofI_c rn]
      have e2 : (fun k => Int32.ofInt (cpF (h.vl a) (h.vl b) sp.toNat dp.toNat n.toNat k)) = va_cpy (fun j => Int32.ofInt (h.vl a j)) (fun j => Int32.ofInt (h.vl b j)) sp.toNat dp.toNat n.toNat := by
        funext k
        unfold cpF va_cpy
        split <;> rfl
      rcases hc with rfl | rfl
      · show Sum.inl (cA b, N2, Sum.inl _) = Sum.inl (cA b, N2, Sum.inl _)
        rw [← e2]
      · show Sum.inl (cA b, N2, Sum.inl _) = Sum.inl (cA b, N2, Sum.inl _)
        rw [← e2]
end EvCp
