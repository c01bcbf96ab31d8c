/-! the past: a state goes in, and out again -/
/-- what the past's cells are -/
def PsC (h : AH) : Nat → Nat → Prop := fun c j => c = 41 ∨ (c = 40 ∧ (j = 1 ∨ j = 2)) ∨ (94 ≤ c ∧ ((h.kd c).1 = 6 ∨ (h.kd c).1 = 105 ∨ (h.kd c).1 = 107))
/-- a new state in the past -/
def eSta (h : AH) (p : Nat) : AH := (eState h.n (h.new (6, 5))).put 41 p (h.n : Int)
section Hst
variable {h : AH} {a K : Nat → Nat}
theorem eSta_v {p : Nat} (h94 : 94 ≤ h.n) : GC h (eSta h p) (fun c j => c = 41 ∧ j = p) 3 19 ∧ ST (eSta h p) h.n (h.n + 1) (h.n + 2) ∧ (eSta h p).vl 41 p = (h.n : Int) := by
  have nn : (eSta h p).n = h.n + 3 := rfl
  have kd : ∀ c, (eSta h p).kd c = if c = h.n + 2 then (105, 8) else if c = h.n + 1 then (107, 6) else if c = h.n then (6, 5) else h.kd c := fun c => rfl
  refine ⟨⟨?_, ?_, ?_⟩, ⟨?_, by omega, ?_, ?_, by omega, ?_, ?_, by omega⟩, ?_⟩
  · exact (((((GF.rf.nw).nw).pu (fun w => absurd w (Nat.lt_irrefl _))).nw).pu (fun w => absurd w (Nat.lt_irrefl _))).pu (fun _ => ⟨rfl, rfl⟩)
  · show h.cs + 1 + 1 + 1 ≤ _; omega
  · show h.ss + 5 + 6 + 8 ≤ _; omega
  · rw [kd, if_neg (by omega), if_neg (by omega), if_pos rfl]
  · unfold eSta eState
    rw [AH.put_vl, if_neg (by omega), AH.put_vl, if_neg (fun z => absurd z.2 (by decide)), AH.new_vl, if_neg (by show ¬ h.n = h.n + 1 + 1; omega), AH.put_vl, if_pos ⟨rfl, rfl⟩]
    rfl
  · rw [kd, if_neg (by omega), if_pos rfl]
  · unfold eSta eState
    rw [AH.put_vl, if_neg (by omega), AH.put_vl, if_pos ⟨rfl, rfl⟩]
    rfl
  · rw [kd, if_pos rfl]
  · unfold eSta
    rw [AH.put_vl, if_pos ⟨rfl, rfl⟩]
set_option maxRecDepth 100000 in
theorem s_stateAt0 {p : Nat} (hC : CI h) (hp : p < 8) (hv : h.vl 41 p = -1) : CV mX1_stateAt 4 [rv 40, iv (p : Int)] h (oa fun r h1 => r = (h.n : Int) ∧ h1 = eSta h p) := by
  have n94 := hC.1
  have w5 := hC.v40_0
  refine cv_of cdX1_stateAt ?_
  show EV _ _ 0 [rv 40, iv (p : Int)] [] h _
  refine ev_iload_n dX1_stateAt_0 rfl ?_
  refine ev_iflt 13 dX1_stateAt_1 (fun h_no => (by exfalso; omega)) (fun hb => ?_)
  refine ev_iload_n dX1_stateAt_4 rfl ?_
  refine ev_aload_n dX1_stateAt_5 rfl ?_
  refine ev_getrv dX1_stateAt_6 fX1_11 hC.k40 hC.n40 rfl w5 ?_
  refine ev_al dX1_stateAt_9 hC.k41 hC.n41 rfl (by decide) (by omega) ?_
  refine ev_icmplt 21 dX1_stateAt_10 (fun hb2 => ?_) (fun h_no => (by exfalso; omega))
  refine ev_aload_n dX1_stateAt_21 rfl ?_
  refine ev_getrv dX1_stateAt_22 fX1_11 hC.k40 hC.n40 rfl w5 ?_
  refine ev_iload_n dX1_stateAt_25 rfl ?_
  refine ev_aald dX1_stateAt_26 rfl (by decide) hC.k41 hC.n41 rfl (by omega) (by omega) ?_
  rw [show ((p : Nat) : Int).toNat = p from rfl, hv]
  refine ev_ifnonnull 43 dX1_stateAt_27 (fun h_no => (by exfalso; omega)) (fun hb3 => ?_)
  refine ev_aload_n dX1_stateAt_30 rfl ?_
  refine ev_getrv dX1_stateAt_31 fX1_11 hC.k40 hC.n40 rfl w5 ?_
  refine ev_iload_n dX1_stateAt_34 rfl ?_
  refine ev_new dX1_stateAt_35 nX1_9 ?_
  refine ev_dup dX1_stateAt_38 ?_
  have kn : (h.new (6, 5)).kd h.n = (6, 5) := by rw [AH.new_kd, if_pos rfl]
  have nn1 : h.n < (h.new (6, 5)).n := Nat.lt_succ_self _
  refine ev_ci dX1_stateAt_39 lX1_44 (s_eState kn nn1) (by decide) (by omega) rfl rfl (Nat.le_of_ble_eq_true rfl) rfl (fun h1 q => ?_)
  obtain ⟨gc, -, -⟩ := eSta_v (h := h) (p := p) n94
  obtain ⟨h2, e2⟩ : ∃ h2, h2 = eSta h p := ⟨_, rfl⟩
  have e3 : h2 = h1.put 41 p (h.n : Int) := by rw [e2, q]; rfl
  have kd1 : ∀ b, b < h.n → h1.kd b = h.kd b := fun b hb => by
    have := gc.1.2.1 b hb
    rw [← e2, e3] at this
    exact this
  have n1 : h.n + 3 = h1.n := by rw [q]; rfl
  have k40 := (kd1 40 (by omega)).trans hC.k40
  have k41 := (kd1 41 (by omega)).trans hC.k41
  have u5 : h1.vl 40 0 = 41 := by
    have := gc.1.2.2 40 0 (by omega) (fun z => absurd z.1 (by decide))
    rw [← e2, e3, put_ne _ (by decide)] at this
    exact this.trans w5
  have hx : 0 ≤ (h.n : Int) → h1.kd (h.n : Int).toNat = (6, 5) := fun _ => by rw [q]; exact eState_k kn nn1
  have l40 : 40 < h1.n := by omega
  have l41 : 41 < h1.n := by omega
  refine ev_aast dX1_stateAt_42 rfl (by decide) kc_X6 k41 l41 rfl (by omega) (by omega) hx ?_
  rw [show h1.put 41 ((p : Nat) : Int).toNat (h.n : Int) = h2 by rw [e3]; rfl]
  have z40 := (show h2.kd 40 = h1.kd 40 by rw [e3]; rfl).trans k40
  have z41 := (show h2.kd 41 = h1.kd 41 by rw [e3]; rfl).trans k41
  have m40 : 40 < h2.n := by rw [e3]; exact l40
  have m41 : 41 < h2.n := by rw [e3]; exact l41
  have y5 : h2.vl 40 0 = 41 := by rw [e3, put_ne _ (by decide)]; exact u5
  have y41 : h2.vl 41 p = (h.n : Int) := by rw [e3, AH.put_vl, if_pos ⟨rfl, rfl⟩]
  refine ev_aload_n dX1_stateAt_43 rfl ?_
  refine ev_getrv dX1_stateAt_44 fX1_11 z40 m40 rfl y5 ?_
  refine ev_iload_n dX1_stateAt_47 rfl ?_
  refine ev_aald dX1_stateAt_48 rfl (by decide) z41 m41 rfl (by omega) (by omega) ?_
  rw [show ((p : Nat) : Int).toNat = p from rfl, y41]
  exact ev_aret dX1_stateAt_49 (⟨_, rfl, rfl, e2⟩) rfl (Or.inl ⟨_, rfl⟩)
set_option maxRecDepth 100000 in
theorem s_stateAt1 {p s : Nat} (hC : CI h) (hp : p < 8) (hv : h.vl 41 p = (s : Int)) : CV mX1_stateAt 4 [rv 40, iv (p : Int)] h (oa fun r h1 => r = (s : Int) ∧ h1 = h) := by
  have w5 := hC.v40_0
  refine cv_of cdX1_stateAt ?_
  show EV _ _ 0 [rv 40, iv (p : Int)] [] h _
  refine ev_iload_n dX1_stateAt_0 rfl ?_
  refine ev_iflt 13 dX1_stateAt_1 (fun h_no => (by exfalso; omega)) (fun hb => ?_)
  refine ev_iload_n dX1_stateAt_4 rfl ?_
  refine ev_aload_n dX1_stateAt_5 rfl ?_
  refine ev_getrv dX1_stateAt_6 fX1_11 hC.k40 hC.n40 rfl w5 ?_
  refine ev_al dX1_stateAt_9 hC.k41 hC.n41 rfl (by decide) (by omega) ?_
  refine ev_icmplt 21 dX1_stateAt_10 (fun hb2 => ?_) (fun h_no => (by exfalso; omega))
  refine ev_aload_n dX1_stateAt_21 rfl ?_
  refine ev_getrv dX1_stateAt_22 fX1_11 hC.k40 hC.n40 rfl w5 ?_
  refine ev_iload_n dX1_stateAt_25 rfl ?_
  refine ev_aald dX1_stateAt_26 rfl (by decide) hC.k41 hC.n41 rfl (by omega) (by omega) ?_
  rw [show ((p : Nat) : Int).toNat = p from rfl, hv]
  refine ev_ifnonnull 43 dX1_stateAt_27 (fun hb3 => ?_) (fun h_no => (by exfalso; omega))
  refine ev_aload_n dX1_stateAt_43 rfl ?_
  refine ev_getrv dX1_stateAt_44 fX1_11 hC.k40 hC.n40 rfl w5 ?_
  refine ev_iload_n dX1_stateAt_47 rfl ?_
  refine ev_aald dX1_stateAt_48 rfl (by decide) hC.k41 hC.n41 rfl (by omega) (by omega) ?_
  rw [show ((p : Nat) : Int).toNat = p from rfl, hv]
  exact ev_aret dX1_stateAt_49 (⟨_, rfl, rfl, rfl⟩) rfl (Or.inl ⟨_, rfl⟩)
/-- a place of the past has a state -/
theorem s_stateAt {p c : Nat} {pv : Nat → Nat → Int} (hC : CI h) (r : RgI h a c pv) (hp : p < 8) : CV mX1_stateAt 4 [rv 40, iv (p : Int)] h (oa fun x h1 => ∃ s : Nat, x = (s : Int) ∧ GC h h1 (fun c j => c = 41 ∧ j = p) 3 19 ∧ h1.vl 41 p = (s : Int) ∧ 94 ≤ s ∧ ST h1 s (s + 1) (s + 2) ∧ (h.vl 41 p = (s : Int) ∨ (h.vl 41 p = -1 ∧ h.n ≤ s))) := by
  obtain ⟨-, -, nx, -, -, r4, -⟩ := r
  have n94 := hC.1
  rcases r4 p hp with w | ⟨s, w1, w2, w3⟩
  · refine cv_mono (s_stateAt0 hC hp w) fun o h1 q => ?_
    obtain ⟨x, rfl, rfl, rfl⟩ := q
    obtain ⟨e1, e2, e3⟩ := eSta_v (h := h) (p := p) n94
    exact ⟨_, rfl, h.n, rfl, e1, e3, n94, e2, Or.inr ⟨w, Nat.le_refl _⟩⟩
  · refine cv_mono (s_stateAt1 hC hp w1) fun o h1 q => ?_
    obtain ⟨x, rfl, rfl, rfl⟩ := q
    exact ⟨_, rfl, s, rfl, GC.rf.wk (fun _ _ z => z) (by decide) (by decide), w1, w2, w3, Or.inl w1⟩
end Hst
