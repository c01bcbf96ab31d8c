/-! the class's finder: ends, fails, begins -/
abbrev FdX : Nat → Prop := fun c => c = 8 ∨ (19 ≤ c ∧ c ≤ 23)
/-- why it failed: reason, node, parts -/
def FlC (h : AH) (r : IR) : Prop := h.vl 8 10 = r.1 ∧ h.vl 8 11 = r.2.1 ∧ h.vl 8 12 = r.2.2.1 ∧ h.vl 8 13 = r.2.2.2
section FEn
variable {h : AH} {a K : Nat → Nat} {st : List (Nat × Int × Int)} {n e : Nat} {s x : Int}
set_option maxRecDepth 100000 in
theorem s_endF {c : Int} (g : YA h a K) (p : PtH h ((n, s, x) :: st)) (he : e < 120) : CV mX0_end 3 [rv 8, iv (e : Int), iv c] h (on fun h1 => YX h a K h1 a K [] [] FdX 0 ∧ PtH h1 st ∧ (∀ j, h1.vl 23 j = if j = e then c else h.vl 23 j) ∧ h1.vl 8 8 = c ∧ ∀ j, j ≠ 8 → h1.vl 8 j = h.vl 8 j) := by
  refine cv_of cdX0_end ?_
  show EV _ _ 0 [rv 8, iv (e : Int), iv c] [] h _
  have v2 := g.1.v8_2
  refine ev_aload_n dX0_end_0 rfl ?_
  refine ev_getrv dX0_end_1 fX0_25 g.1.k8 g.1.n8 rfl v2 ?_
  refine ev_iload_n dX0_end_4 rfl ?_
  refine ev_iload_n dX0_end_5 rfl ?_
  refine ev_csv dX0_end_6 lX0_169 (s_putI g.1.k23 g.1.n23 (by omega)) (by decide) rfl rfl (Nat.le_of_ble_eq_true rfl) rfl (fun h1 q => ?_)
  rw [if_pos (by omega), show ((e : Nat) : Int).toNat = e from rfl] at q
  have c1 : YX h a K h1 a K [] [] FdX 0 := by rw [q]; exact (g.pp ⟨by decide, cis_c (by decide)⟩).wk (by decide) (by decide) (fun y z => Or.inr (by omega)) (Nat.le_refl _)
  have g1 := c1.1
  obtain ⟨h2, e2⟩ : ∃ h2, h2 = h1.put 8 8 c := ⟨_, rfl⟩
  have c2 : YX h1 a K h2 a K [] [] FdX 0 := by rw [e2]; exact (g1.pp ⟨by decide, by decide⟩).wk (by decide) (by decide) (fun y z => Or.inl z) (Nat.le_refl _)
  have g2 := c2.1
  have v1 := g1.1.v8_1
  have w1 := g2.1.v8_1
  have p2 : PtH h2 ((n, s, x) :: st) := by
    refine ⟨?_, PtS.lo (fun i _ => ?_) p.2.1, p.2.2⟩
    · rw [e2, put_ne _ (by decide), q, put_ne _ (by decide)]; exact p.1
    · rw [e2, put_ne _ (by decide), put_ne _ (by decide), put_ne _ (by decide), q, put_ne _ (by decide), put_ne _ (by decide), put_ne _ (by decide)]
      exact ⟨rfl, rfl, rfl⟩
  refine ev_aload_n dX0_end_9 rfl ?_
  refine ev_iload_n dX0_end_10 rfl ?_
  refine ev_pt dX0_end_11 fX0_115 g1.1.k8 g1.1.n8 rfl ?_
  rw [← e2]
  refine ev_aload_n dX0_end_14 rfl ?_
  refine ev_getrv dX0_end_15 fX0_21 g2.1.k8 g2.1.n8 rfl w1 ?_
  refine ev_cvv dX0_end_18 lX0_173 (s_leave g2 p2) (by decide) g2.1.k19 g2.1.n19 rfl rfl rfl (Nat.le_of_ble_eq_true rfl) rfl (fun h3 q3 => ?_)
  obtain ⟨c3, p3⟩ := q3
  have f23 : h3.vl 23 = h2.vl 23 := c3.v (g2.no (by decide)) (by decide)
  have f8 : h3.vl 8 = h2.vl 8 := c3.v (g2.no (by decide)) (by decide)
  refine ev_vret dX0_end_21 (⟨rfl, (c1.tr c2).tr (c3.wk (by decide) (by decide) (fun y z => Or.inr (by omega)) (Nat.le_refl _)), p3, fun j => ?_, ?_, fun j hj => ?_⟩)
  · rw [f23, e2, put_ne _ (by decide), q, AH.put_vl]
    by_cases z : j = e
    · rw [if_pos ⟨rfl, z⟩, if_pos z]
    · rw [if_neg (fun w => z w.2), if_neg z]
  · rw [f8, e2, AH.put_vl, if_pos ⟨rfl, rfl⟩]
  · rw [f8, e2, AH.put_vl, if_neg (fun w => hj w.2), q, put_ne _ (by decide)]
set_option maxRecDepth 100000 in
theorem s_failF {r : Int} (g : YA h a K) : CV mX0_fail 2 [rv 8, iv r, iv (e : Int)] h (on fun h1 => YX h a K h1 a K [] [] (fun y => y = 8) 0 ∧ h1.vl 8 10 = r ∧ h1.vl 8 11 = (e : Int) ∧ ∀ j, j ≠ 10 → j ≠ 11 → h1.vl 8 j = h.vl 8 j) := by
  refine cv_of cdX0_fail ?_
  show EV _ _ 0 [rv 8, iv r, iv (e : Int)] [] h _
  have c1 : YX h a K (h.put 8 10 r) a K [] [] (fun y => y = 8) 0 := g.pp ⟨by decide, by decide⟩
  have c2 : YX (h.put 8 10 r) a K ((h.put 8 10 r).put 8 11 (e : Int)) a K [] [] (fun y => y = 8) 0 := c1.1.pp ⟨by decide, by decide⟩
  refine ev_aload_n dX0_fail_0 rfl ?_
  refine ev_iload_n dX0_fail_1 rfl ?_
  refine ev_pt dX0_fail_2 fX0_74 g.1.k8 g.1.n8 rfl ?_
  refine ev_aload_n dX0_fail_5 rfl ?_
  refine ev_iload_n dX0_fail_6 rfl ?_
  refine ev_pt dX0_fail_7 fX0_102 g.1.k8 g.1.n8 rfl ?_
  refine ev_vret dX0_fail_10 (⟨rfl, c1.tr c2, ?_, ?_, fun j h1 h2 => ?_⟩)
  · rw [AH.put_vl, if_neg (by decide), AH.put_vl, if_pos ⟨rfl, rfl⟩]
  · rw [AH.put_vl, if_pos ⟨rfl, rfl⟩]
  · rw [AH.put_vl, if_neg (fun z => h2 z.2), AH.put_vl, if_neg (fun z => h1 z.2)]
set_option maxRecDepth 100000 in
theorem s_failFitting {r : Int} {R : UR} (g : YA h a K) (p : PtH h ((n, s, x) :: st)) (hf : FlC h (0, -1, -1, -1)) (hr : r = R.1) (h4 : R.1 = 4 → h.vl 9 13 = R.2.1 ∧ h.vl 9 14 = R.2.2) (h4' : R.1 ≠ 4 → R.2 = (-1, -1)) : CV mX0_failFitting 3 [rv 8, iv r] h (on fun h1 => YX h a K h1 a K [] [] (fun y => y = 8) 0 ∧ FlC h1 (R.1, (n : Int), R.2.1, R.2.2) ∧ ∀ j, j < 10 → h1.vl 8 j = h.vl 8 j) := by
  obtain ⟨f1, f2, f3, f4⟩ := hf
  refine cv_of cdX0_failFitting ?_
  show EV _ _ 0 [rv 8, iv r] [] h _
  have w1 := g.1.v8_1
  refine ev_aload_n dX0_failFitting_0 rfl ?_
  refine ev_iload_n dX0_failFitting_1 rfl ?_
  refine ev_aload_n dX0_failFitting_2 rfl ?_
  refine ev_getrv dX0_failFitting_3 fX0_21 g.1.k8 g.1.n8 rfl w1 ?_
  refine ev_cvi dX0_failFitting_6 lX0_62 (s_node g p) (by decide) g.1.k19 g.1.n19 rfl rfl rfl (Nat.le_of_ble_eq_true rfl) rfl (fun q z q9 => ?_)
  obtain ⟨q1, eq⟩ := q9
  rw [q1, eq]
  refine ev_cvv dX0_failFitting_9 lX0_89 (s_failF g) (by decide) g.1.k8 g.1.n8 rfl rfl rfl (Nat.le_of_ble_eq_true rfl) rfl (fun h1 q9 => ?_)
  obtain ⟨c1, r1, r2, r3⟩ := q9
  have g1 := c1.1
  have e9 : h1.vl 9 = h.vl 9 := by
    funext j
    by_cases hj : j ∈ tks
    · have := g1.v j hj
      have := g.v j hj
      omega
    · exact c1.fl j hj (by exact List.not_mem_nil)
  have v0 := g1.1.v8_0
  refine ev_iload_n dX0_failFitting_12 rfl ?_
  refine ev_iconst dX0_failFitting_13 ?_
  by_cases d : r = 4
  · skip
    obtain ⟨t1, t2⟩ := h4 (by omega)
    rw [← e9] at t1 t2
    refine ev_icmpne 39 dX0_failFitting_14 (fun h_no => (by exfalso; omega)) (fun hb => ?_)
    refine ev_aload_n dX0_failFitting_17 rfl ?_
    refine ev_aload_n dX0_failFitting_18 rfl ?_
    refine ev_getrv dX0_failFitting_19 fX0_12 g1.1.k8 g1.1.n8 rfl v0 ?_
    refine ev_getiv dX0_failFitting_22 fX0_176 g1.1.k9 g1.1.n9 rfl t1 ?_
    refine ev_pt dX0_failFitting_25 fX0_105 g1.1.k8 g1.1.n8 rfl ?_
    obtain ⟨h2, e2⟩ : ∃ h2, h2 = h1.put 8 12 R.2.1 := ⟨_, rfl⟩
    rw [← e2]
    have c2 : YX h1 a K h2 a K [] [] (fun y => y = 8) 0 := by rw [e2]; exact g1.pp ⟨by decide, by decide⟩
    have g2 := c2.1
    have u0 := g2.1.v8_0
    have t3 : h2.vl 9 14 = R.2.2 := by rw [e2, put_ne _ (by decide)]; exact t2
    refine ev_aload_n dX0_failFitting_28 rfl ?_
    refine ev_aload_n dX0_failFitting_29 rfl ?_
    refine ev_getrv dX0_failFitting_30 fX0_12 g2.1.k8 g2.1.n8 rfl u0 ?_
    refine ev_getiv dX0_failFitting_33 fX0_177 g2.1.k9 g2.1.n9 rfl t3 ?_
    refine ev_pt dX0_failFitting_36 fX0_108 g2.1.k8 g2.1.n8 rfl ?_
    have c3 : YX h2 a K (h2.put 8 13 R.2.2) a K [] [] (fun y => y = 8) 0 := g2.pp ⟨by decide, by decide⟩
    refine ev_vret dX0_failFitting_39 (⟨rfl, (c1.tr c2).tr c3, ⟨?_, ?_, ?_, ?_⟩, fun j hj => ?_⟩)
    · rw [AH.put_vl, if_neg (by decide), e2, AH.put_vl, if_neg (by decide), r1]; exact hr
    · rw [AH.put_vl, if_neg (by decide), e2, AH.put_vl, if_neg (by decide), r2]
    · rw [AH.put_vl, if_neg (by decide), e2, AH.put_vl, if_pos ⟨rfl, rfl⟩]
    · rw [AH.put_vl, if_pos ⟨rfl, rfl⟩]
    · rw [AH.put_vl, if_neg (by omega), e2, AH.put_vl, if_neg (by omega), r3 j (by omega) (by omega)]
  refine ev_icmpne 39 dX0_failFitting_14 (fun hb => ?_) (fun h_no => (by exfalso; omega))
  obtain ⟨R1, R2, R3⟩ := R
  have e5 := h4' (show R1 ≠ 4 by intro z; exact d (hr.trans z))
  have e6 : R2 = -1 := congrArg Prod.fst e5
  have e7 : R3 = -1 := congrArg Prod.snd e5
  refine ev_vret dX0_failFitting_39 (⟨rfl, c1, ⟨by rw [r1]; exact hr, r2, ?_, ?_⟩, fun j hj => r3 j (by omega) (by omega)⟩)
  · rw [r3 12 (by decide) (by decide), f3]; exact e6.symm
  · rw [r3 13 (by decide) (by decide), f4]; exact e7.symm
end FEn
