/-! new T[n][m]: the row of rows and its rows are made at once -/
def AH.news (h : AH) (k : Nat × Nat) : Nat → AH
  | 0 => h
  | i + 1 => (AH.news h k i).new k
theorem AH.news_n (h : AH) (k : Nat × Nat) : ∀ i, (h.news k i).n = h.n + i
  | 0 => rfl
  | i + 1 => by rw [AH.news, AH.new_n, AH.news_n h k i]; rfl
theorem AH.news_cs (h : AH) (k : Nat × Nat) : ∀ i, (h.news k i).cs = h.cs + i
  | 0 => rfl
  | i + 1 => by rw [AH.news, AH.new_cs, AH.news_cs h k i]; rfl
theorem AH.news_ss (h : AH) (k : Nat × Nat) : ∀ i, (h.news k i).ss = h.ss + i * k.2
  | 0 => by rw [Nat.zero_mul]; rfl
  | i + 1 => by rw [AH.news, AH.new_ss, AH.news_ss h k i, Nat.succ_mul, Nat.add_assoc]
theorem AH.news_kd (h : AH) (k : Nat × Nat) (b : Nat) : ∀ i, (h.news k i).kd b = if h.n ≤ b ∧ b < h.n + i then k else h.kd b
  | 0 => by rw [if_neg (by omega)]; rfl
  | i + 1 => by
    rw [AH.news, AH.new_kd, AH.news_n, AH.news_kd h k b i]
    by_cases e : b = h.n + i
    · rw [if_pos e, if_pos (by omega)]
    · rw [if_neg e]
      by_cases e2 : h.n ≤ b ∧ b < h.n + i
      · rw [if_pos e2, if_pos (by omega)]
      · rw [if_neg e2, if_neg (by omega)]
theorem AH.news_vl (h : AH) (k : Nat × Nat) (b j : Nat) : ∀ i, (h.news k i).vl b j = if h.n ≤ b ∧ b < h.n + i then kz k j else h.vl b j
  | 0 => by rw [if_neg (by omega)]; rfl
  | i + 1 => by
    rw [AH.news, AH.new_vl, AH.news_n, AH.news_vl h k b j i]
    by_cases e : b = h.n + i
    · rw [if_pos e, if_pos (by omega)]
    · rw [if_neg e]
      by_cases e2 : h.n ≤ b ∧ b < h.n + i
      · rw [if_pos e2, if_pos (by omega)]
      · rw [if_neg e2, if_neg (by omega)]
theorem RGh.news {h : AH} (hR : RGh h) (k : Nat × Nat) : ∀ i, RGh (h.news k i)
  | 0 => hR
  | i + 1 => (RGh.news hR k i).new
def mnaf (h : AH) (N j : Nat) : Int := if j < N then ((h.n + 1 + j : Nat) : Int) else -1
def AH.mna (h : AH) (N K : Nat) : AH := ((h.new (104, N)).news (100, K) N).row h.n (mnaf h N)
theorem AH.mna_n (h : AH) (N K : Nat) : (h.mna N K).n = h.n + 1 + N := by rw [AH.mna, AH.row_n, AH.news_n, AH.new_n]
theorem AH.mna_cs (h : AH) (N K : Nat) : (h.mna N K).cs = h.cs + 1 + N := by rw [AH.mna, AH.row_cs, AH.news_cs, AH.new_cs]
theorem AH.mna_ss (h : AH) (N K : Nat) : (h.mna N K).ss = h.ss + N + N * K := by rw [AH.mna, AH.row_ss, AH.news_ss, AH.new_ss]
theorem AH.mna_kd (h : AH) (N K b : Nat) : (h.mna N K).kd b = if b = h.n then (104, N) else if h.n < b ∧ b < h.n + 1 + N then (100, K) else h.kd b := by
  rw [AH.mna, AH.row_kd, AH.news_kd, AH.new_n, AH.new_kd]
  by_cases e : b = h.n
  · rw [if_pos e, if_neg (by omega), if_pos e]
  · rw [if_neg e, if_neg e]
    by_cases e2 : h.n < b ∧ b < h.n + 1 + N
    · rw [if_pos e2, if_pos (by omega)]
    · rw [if_neg e2, if_neg (by omega)]
theorem AH.mna_vl (h : AH) (N K b j : Nat) : (h.mna N K).vl b j = if b = h.n then mnaf h N j else if h.n < b ∧ b < h.n + 1 + N then 0 else h.vl b j := by
  rw [AH.mna, AH.row_vl, AH.news_vl, AH.new_n, AH.new_vl]
  by_cases e : b = h.n
  · rw [if_pos e, if_pos e]
  · rw [if_neg e, if_neg e, if_neg e]
    by_cases e2 : h.n < b ∧ b < h.n + 1 + N
    · rw [if_pos e2, if_pos (by omega)]; rfl
    · rw [if_neg e2, if_neg (by omega)]
theorem RGh.mna {h : AH} (hR : RGh h) (N K : Nat) : RGh (h.mna N K) := by
  intro b hb j
  have h1 := (RGh.news (hR.new (k := (104, N))) (100, K) N) b (by rw [AH.news_n, AH.new_n]; rw [AH.mna_n] at hb; exact hb) j
  rw [AH.news_kd, AH.news_vl, AH.new_n, AH.new_kd, AH.new_vl, AH.news_n, AH.new_n] at h1
  rw [AH.mna_kd, AH.mna_vl, AH.mna_n]
  by_cases e : b = h.n
  · rw [if_pos e, if_pos e]
    refine VR_r ?_
    rw [mnaf]
    split <;> omega
  · rw [if_neg e, if_neg e] at h1 ⊢
    by_cases e2 : h.n < b ∧ b < h.n + 1 + N
    · rw [if_pos e2, if_pos e2]
      rw [if_pos (by omega), if_pos (by omega)] at h1
      exact h1
    · rw [if_neg e2, if_neg e2]
      rw [if_neg (by omega), if_neg (by omega)] at h1
      exact h1
theorem wl_news {φ : Nat → Nat} {cA : Nat → ClassId} {h : AH} (hR : RGh h) {k : Nat × Nat} {r : Nat → Nat} {cy : ClassId} : ∀ i, ∃ (φ' : Nat → Nat) (cA' : Nat → ClassId), (∀ a, a < h.n → φ' a = φ a ∧ cA' a = cA a) ∧ (∀ j, j < i → φ' (h.n + j) = r j ∧ cA' (h.n + j) = cy) ∧ wl φ' cA' (h.news k i) = wl φ cA h ++ (List.range i).map (fun j => (r j, aE φ cy k (kz k)))
  | 0 => ⟨φ, cA, fun _ _ => ⟨rfl, rfl⟩, fun j hj => absurd hj (Nat.not_lt_zero j), by rw [List.range_zero, List.map_nil, List.append_nil]; rfl⟩
  | i + 1 => by
    obtain ⟨φ', cA', h1, h2, h3⟩ := wl_news (φ := φ) (cA := cA) (r := r) (cy := cy) hR (k := k) i
    refine ⟨fun b => if b = (h.news k i).n then r i else φ' b, fun b => if b = (h.news k i).n then cy else cA' b, fun a ha => ?_, fun j hj => ?_, ?_⟩
    · rw [AH.news_n]
      have : ¬ a = h.n + i := by omega
      simp only [if_neg this]
      exact h1 a ha
    · rw [AH.news_n]
      by_cases e : j = i
      · subst e
        simp only [if_true]
        exact ⟨trivial, trivial⟩
      · have : ¬ h.n + j = h.n + i := by omega
        simp only [if_neg this]
        exact h2 j (by omega)
    · rw [AH.news, wl_new (RGh.news hR k i), h3, List.range_succ, List.map_append, List.append_assoc]
      congr 2
      rw [List.map_cons, List.map_nil, aE_φ (n := 0) (φ' := φ') (φ := φ) (fun a ha => absurd ha (Nat.not_lt_zero a)) (fun j => VR_z)]
theorem set_mid {α : Type} {A : List α} {x y : α} {B : List α} {n : Nat} (hn : A.length = n) : ((A ++ [x]) ++ B).set n y = (A ++ [y]) ++ B := by
  subst hn
  rw [List.append_assoc, List.append_assoc, List.set_append_right _ _ (Nat.le_refl _), Nat.sub_self]
  rfl
theorem pair_cg {A : va_W} {q : Nat} {x x1 : va_E} {y y1 : va_W} (h1 : x = x1) (h2 : y = y1) : (A ++ [(q, x)]) ++ y = (A ++ [(q, x1)]) ++ y1 := by rw [h1, h2]
theorem wl_mna {φ : Nat → Nat} {cA : Nat → ClassId} {h : AH} (hR : RGh h) {N K q : Nat} {r : Nat → Nat} {c0 cy : ClassId} : ∃ (φ' : Nat → Nat) (cA' : Nat → ClassId), (∀ a, a < h.n → φ' a = φ a ∧ cA' a = cA a) ∧ φ' h.n = q ∧ cA' h.n = c0 ∧ (∀ j, j < N → φ' (h.n + 1 + j) = r j ∧ cA' (h.n + 1 + j) = cy) ∧
    wl φ' cA' (h.mna N K) = (wl φ cA h ++ [(q, .inl (c0, N, .inr (.inr (.inr (.inr (fun i => if i < N then some (r i) else none))))))]) ++ (List.range N).map (fun j => (r j, .inl (cy, K, .inl (fun _ => 0)))) := by
  obtain ⟨φ', cA', h1, h2, h3⟩ := wl_news (φ := fun b => if b = h.n then q else φ b) (cA := fun b => if b = h.n then c0 else cA b) (r := r) (cy := cy) (hR.new (k := (104, N))) (k := (100, K)) N
  rw [AH.new_n] at h1 h2
  have q0 := h1 h.n (by omega)
  simp only [if_true] at q0
  refine ⟨φ', cA', fun a ha => ?_, q0.1, q0.2, h2, ?_⟩
  · have h4 := h1 a (by omega)
    have h5 : ¬ a = h.n := by omega
    simp only [if_neg h5] at h4
    exact h4
  · have hlt : h.n < ((h.new (104, N)).news (100, K) N).n := by rw [AH.news_n, AH.new_n]; omega
    rw [AH.mna, ← wl_row (φ := φ') (cA := cA') (h := (h.new (104, N)).news (100, K) N) (f := mnaf h N) hlt, h3, wl_new hR, set_mid wl_len, q0.1, q0.2]
    have hk : ((h.new (104, N)).news (100, K) N).kd h.n = (104, N) := by rw [AH.news_kd, AH.new_n, if_neg (by omega), AH.new_kd, if_pos rfl]
    rw [hk]
    refine pair_cg ?_ ?_
    · rw [aE_q (by decide)]
      refine congrArg (fun f => (Sum.inl (c0, N, Sum.inr (Sum.inr (Sum.inr (Sum.inr f)))) : va_E)) (funext fun j => ?_)
      by_cases e : j < N
      · have e2 : mnaf h N j = ((h.n + 1 + j : Nat) : Int) := if_pos e
        rw [e2, if_neg (by omega), if_pos e, show (((h.n + 1 + j : Nat) : Int)).toNat = h.n + 1 + j from rfl, (h2 j e).1]
      · have e2 : mnaf h N j = -1 := if_neg e
        rw [e2, if_pos (by omega), if_neg e]
    · refine List.map_congr_left (fun j _ => ?_)
      refine congrArg (fun x : va_E => (r j, x)) ?_
      rfl
theorem arrI {args : Array Value} {s : State} {D : va_G} (hK : va_K D vwCl [] s) (h : (Cond.arrayClass .int).before args s = true) : ∃ cy, s.vm.findClass (FieldType.array .int).toString = some cy ∧ va_K D vwCl [(cy, .int)] s := by
  unfold Cond.before at h
  simp only [Cond.holds, Cond.value, beq_iff_eq] at h
  have e : (FieldType.array FieldType.int).toString = "[" ++ FieldType.int.toString := rfl
  rw [e]
  cases hc : s.vm.findClass ("[" ++ FieldType.int.toString) with
  | none => rw [hc] at h; simp at h
  | some cy =>
    rw [hc] at h
    simp only [Option.bind_some] at h
    cases hk : s.vm.classes[cy]? with
    | none => rw [hk] at h; simp at h
    | some kA =>
      rw [hk] at h
      simp only [Option.map_some, Option.some.injEq] at h
      refine ⟨cy, rfl, hK.1, fun k x hx => ?_⟩
      have hz : k < 1 := (List.getElem?_eq_some_iff.mp hx).1
      rw [show k = 0 by omega] at hx
      cases hx
      cases hkd : kA.kind with
      | array comp ty =>
        rw [hkd] at h
        have ht : ty = FieldType.int := by simpa using h
        rw [ht] at hkd
        exact ⟨fun n z => ⟨(fun k h => by cases h), kA, hk, comp, hkd⟩, hc⟩
      | _ => rw [hkd] at h; simp at h
section EvMN
variable {M : MD} {d pc : Nat} {L S : List AV} {h : AH} {Q : AV → AH → Prop}
theorem ev_mna {idx : Nat} {n k : Int} (hd : decode M.cc pc = .ok (.multianewarray idx 2, 4)) (hlw : Cond.classLink M.y.cls idx "[[I" ∈ gw) (hw : Cond.arrayClass .int ∈ gw) (h0 : 0 ≤ n) (h1 : n ≤ 1000) (h2 : 0 ≤ k) (h3 : k ≤ 1000) (kk : EV M d (pc + 4) L (rv h.n :: S) (h.mna n.toNat k.toNat) Q) : EV M d pc L (iv k :: iv n :: S) h Q := by
  intro hL hS hR
  have hn1 : h.n ≤ (h.mna n.toNat k.toNat).n := by rw [AH.mna_n]; omega
  obtain ⟨o, h', q, ⟨m1, m2, m3, m4, m5⟩, x⟩ := kk (hL.mono hn1) (SR_c (VR_r (by rw [AH.mna_n]; omega)) ((SR_t (SR_t hS)).mono hn1)) (hR.mna _ _)
  rw [AH.mna_n] at m1
  rw [AH.mna_cs] at m2
  rw [AH.mna_ss] at m3
  refine ⟨o, h', q, ⟨by omega, by omega, by omega, m4, m5⟩, ?_⟩
  intro p l e R s m args below meth c D base scr φ cA H locs ls x0 y0 Qc XC C g1 g2 g3 g4 hP hl hQ
  have C1 := C
  obtain ⟨hx, hb, hr, hml, hown, hts, hlk, htr, htb, hnm, hK, hbs, hG, hf, hlo⟩ := C1
  obtain ⟨cy, hcy, hKy⟩ := arrI hK (hts _ hw)
  have hik := SR_hi hS
  have hin := SR_hi (SR_t hS)
  have e0 : (iv k :: iv n :: S).map (av_c φ) = .int (Int32.ofInt k) :: .int (Int32.ofInt n) :: S.map (av_c φ) := rfl
  rw [e0]
  refine va_mna (X := wl φ cA h) (L := []) (f := fun _ => .inr (0, [])) (N' := n.toNat) (K' := k.toNat) (z := (k.toNat, .inl (fun _ => 0))) hx hb hown (hts _ hlw) hG.1.2.2.2.2.2.1 (hts _ hw) hcy hK
    (by show va_P D vwCl (wl φ cA h ++ []) H; rw [List.append_nil]; exact hP.1.1) (by show va_D _ (wl φ cA h ++ []); rw [List.append_nil]; exact hP.1.2.1) hP.S (fun q hq => Nat.le_trans hbs hq)
    (fun q => ?_) (fun q => ?_) (ofI_c hin) (ofI_c hik) (by omega) (by show k.toNat * 4 ≤ 536870912; omega) (by omega) rfl rfl (by omega) (by omega) (fun c => ?_) hd (fun q r c0 H1 _ _ k1 p1 p2 p3 => ?_)
  · rw [of0, ofI_lt hin ir_0] at q
    omega
  · rw [of0, ofI_lt hik ir_0] at q
    omega
  · first | rfl | simp [vp_cell, arrV_new, defaultValue, Jvm.Free.Multi.innerC]
  · rw [← vr_rows (fun a _ => List.not_mem_nil)] at p1 p2
    obtain ⟨φ', cA', f1, f2, f3, f4, f5⟩ := wl_mna (φ := φ) (cA := cA) hR (N := n.toNat) (K := k.toNat) (q := q) (r := r) (c0 := c0) (cy := cy)
    have hφ : ∀ a, a < h.n → φ' a = φ a := fun a ha => (f1 a ha).1
    have ew : (wl φ cA h ++ [(q, .inl (c0, n.toNat, .inr (.inr (.inr (.inr (fun i => if i < n.toNat then some (r i) else none))))))]) ++ (va_pl [] (fun _ => (Sum.inr (0, []) : va_E)) ++ ((List.range n.toNat).map r).map (fun a => (a, (Sum.inl (cy, (k.toNat, .inl (fun _ => 0))) : va_E)))) = wl φ' cA' (h.mna n.toNat k.toNat) := by
      rw [f5, List.map_map]
      rfl
    rw [ew] at p1 p2
    have hW := x p l e R s m args below meth c D base scr φ' cA' H1 locs ls x0 y0 Qc XC C (by rw [AH.mna_cs]; omega) (by rw [AH.mna_ss]; omega) g3 g4 ⟨⟨p1, p2, ⟨p3.1, p3.2.1⟩, fun b hb9 hk9 => ?_⟩, p3.2.2⟩ (hl.mv hφ hL) (hQ.mv hφ hn1)
    · have e1 : (rv h.n :: S).map (av_c φ') = .ref q :: S.map (av_c φ) := by
        rw [List.map_cons, av_φS hφ (SR_t (SR_t hS))]
        simp [av_c, f2]
      rw [e1, AH.mna_cs, AH.mna_ss, show h.cs + 1 + n.toNat - x0 = h.cs - x0 + 1 + n.toNat by omega, show h.ss + n.toNat + n.toNat * k.toNat - y0 = h.ss - y0 + n.toNat + n.toNat * k.toNat by omega] at hW
      exact hW
    · rw [AH.mna_kd] at hk9 ⊢
      rw [AH.mna_n] at hb9
      by_cases e1 : b = h.n
      · rw [if_pos e1, e1, f3]
        exact k1
      · rw [if_neg e1] at hk9 ⊢
        by_cases e2 : h.n < b ∧ b < h.n + 1 + n.toNat
        · rw [if_pos e2]
          have := (f4 (b - h.n - 1) (by omega)).2
          rw [show h.n + 1 + (b - h.n - 1) = b by omega] at this
          rw [this]
          exact hKy
        · rw [if_neg e2] at hk9 ⊢
          rw [(f1 b (by omega)).2]
          exact hP.1.2.2.2 b (by omega) hk9
end EvMN
