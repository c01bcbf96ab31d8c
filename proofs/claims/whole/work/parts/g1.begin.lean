/-! the class's finder begins; is it going -/
section FBg
variable {h : AH} {a K : Nat → Nat} {st : List (Nat × Int × Int)} {rz gz z : Int}
set_option maxRecDepth 100000 in
theorem s_isGoing (g : YA h a K) (p : PtH h st) (hr : h.vl 8 10 = rz) (hg : h.vl 8 9 = gz) : CV mX0_isGoing 2 [rv 8] h (oi fun r h1 => r = (if st ≠ [] ∧ rz = 0 ∧ gz ≤ 300 then 1 else 0) ∧ h1 = h) := by
  have w1 := g.1.v8_1
  have p1 := p.1
  refine cv_of cdX0_isGoing ?_
  show EV _ _ 0 [rv 8] [] h _
  have no : ¬ (st ≠ [] ∧ rz = 0 ∧ gz ≤ 300) → EV mX0_isGoing 2 31 [rv 8] [] h (oi fun r h1 => r = (if st ≠ [] ∧ rz = 0 ∧ gz ≤ 300 then 1 else 0) ∧ h1 = h) := by
    intro hn
    refine ev_iconst dX0_isGoing_31 ?_
    exact ev_zret dX0_isGoing_32 (⟨_, rfl, (if_neg hn).symm, rfl⟩) (by omega)
  refine ev_aload_n dX0_isGoing_0 rfl ?_
  refine ev_getrv dX0_isGoing_1 fX0_21 g.1.k8 g.1.n8 rfl w1 ?_
  refine ev_getiv dX0_isGoing_4 fX0_111 g.1.k19 g.1.n19 rfl p1 ?_
  cases st with
  | nil =>
    refine ev_ifle 31 dX0_isGoing_7 (fun hb => ?_) (fun h_no => (by exfalso; exact absurd h_no (by decide)))
    exact no (fun y => y.1 rfl)
  | cons e st =>
    refine ev_ifle 31 dX0_isGoing_7 (fun h_no => (by exfalso; rw [List.length_cons] at h_no; omega)) (fun hb => ?_)
    refine ev_aload_n dX0_isGoing_10 rfl ?_
    refine ev_getiv dX0_isGoing_11 fX0_74 g.1.k8 g.1.n8 rfl hr ?_
    by_cases d : rz = 0
    · skip
      refine ev_ifne 31 dX0_isGoing_14 (fun h_no => (by exfalso; omega)) (fun hb2 => ?_)
      refine ev_aload_n dX0_isGoing_17 rfl ?_
      refine ev_getiv dX0_isGoing_18 fX0_93 g.1.k8 g.1.n8 rfl hg ?_
      refine ev_sipush dX0_isGoing_21 ?_
      by_cases d2 : gz ≤ 300
      · skip
        refine ev_icmpgt 31 dX0_isGoing_24 (fun h_no => (by exfalso; omega)) (fun hb3 => ?_)
        refine ev_iconst dX0_isGoing_27 ?_
        refine ev_gt 32 dX0_isGoing_28 ?_
        exact ev_zret dX0_isGoing_32 (⟨_, rfl, (if_pos ⟨List.cons_ne_nil _ _, d, d2⟩).symm, rfl⟩) (by omega)
      refine ev_icmpgt 31 dX0_isGoing_24 (fun hb3 => ?_) (fun h_no => (by exfalso; omega))
      exact no (fun y => d2 y.2.2)
    refine ev_ifne 31 dX0_isGoing_14 (fun hb2 => ?_) (fun h_no => (by exfalso; omega))
    exact no (fun y => d y.2.1)
set_option maxRecDepth 100000 in
theorem s_begin (g : YA h a K) (hz : z = 0 ∨ z = 1) (hK : (K 1 = K 0 ∧ K 2 = K 0 ∧ K 3 = K 0) ∧ K 7 = K 6 ∧ K 8 = K 6) : CV mX0_begin 5 [rv 8, iv z] h (on fun h1 => ∃ a1 K1, YX h a K h1 a1 K1 [0, 1, 2, 3] [4, 5, 9] FdX 0 ∧ (∀ k, 4 ≤ k → K1 k = K k) ∧ YS h1 a1 K1 2 (fun c => .var c) (fun c => c) 2 ∧ YPs h1 a1 K1 [] ∧ h1.vl 9 5 = 0 ∧ PtH h1 [(0, 0, -1)] ∧ FlC h1 (0, -1, -1, -1) ∧ h1.vl 8 6 = 0 ∧ h1.vl 8 7 = z ∧ h1.vl 8 9 = 0) := by
  refine cv_of cdX0_begin ?_
  show EV _ _ 0 [rv 8, iv z] [] h _
  have v0 := g.1.v8_0
  have hfo : fok FieldType.boolean z := hz
  refine ev_aload_n dX0_begin_0 rfl ?_
  refine ev_getrv dX0_begin_1 fX0_12 g.1.k8 g.1.n8 rfl v0 ?_
  refine ev_cvv dX0_begin_4 lX0_96 (s_clear g hK) (by decide) g.1.k9 g.1.n9 rfl rfl rfl (Nat.le_of_ble_eq_true rfl) rfl (fun h1 q => ?_)
  obtain ⟨a1, K1, c1, k1, s1, p1, l1⟩ := q
  have g1 := s1.1
  obtain ⟨h2, e2⟩ : ∃ h2, h2 = (((((((h1.put 8 6 0).put 8 7 z).put 8 9 0).put 8 10 0).put 8 11 (-1)).put 8 12 (-1)).put 8 13 (-1)) := ⟨_, rfl⟩
  have c2 : YX h1 a1 K1 h2 a1 K1 [] [] (fun y => y = 8) 0 := by
    rw [e2]
    have x1 : YX h1 a1 K1 (h1.put 8 6 0) a1 K1 [] [] (fun y => y = 8) 0 := g1.pp ⟨by decide, by decide⟩
    have x2 : YX _ a1 K1 ((h1.put 8 6 0).put 8 7 z) a1 K1 [] [] (fun y => y = 8) 0 := x1.1.pp ⟨by decide, by decide⟩
    have x3 : YX _ a1 K1 (((h1.put 8 6 0).put 8 7 z).put 8 9 0) a1 K1 [] [] (fun y => y = 8) 0 := x2.1.pp ⟨by decide, by decide⟩
    have x4 : YX _ a1 K1 ((((h1.put 8 6 0).put 8 7 z).put 8 9 0).put 8 10 0) a1 K1 [] [] (fun y => y = 8) 0 := x3.1.pp ⟨by decide, by decide⟩
    have x5 : YX _ a1 K1 (((((h1.put 8 6 0).put 8 7 z).put 8 9 0).put 8 10 0).put 8 11 (-1)) a1 K1 [] [] (fun y => y = 8) 0 := x4.1.pp ⟨by decide, by decide⟩
    have x6 : YX _ a1 K1 ((((((h1.put 8 6 0).put 8 7 z).put 8 9 0).put 8 10 0).put 8 11 (-1)).put 8 12 (-1)) a1 K1 [] [] (fun y => y = 8) 0 := x5.1.pp ⟨by decide, by decide⟩
    exact ((((((x1.tr x2).tr x3).tr x4).tr x5).tr x6).tr (x6.1.pp ⟨by decide, by decide⟩))
  have g2 := c2.1
  obtain ⟨h3, e3⟩ : ∃ h3, h3 = h2.put 19 3 0 := ⟨_, rfl⟩
  have c3 : YX h2 a1 K1 h3 a1 K1 [] [] (fun y => y = 19) 0 := by rw [e3]; exact g2.pp ⟨by decide, by decide⟩
  have g3 := c3.1
  have u1 := g2.1.v8_1
  have u3 := g3.1.v8_1
  have pt : PtH h3 [] := ⟨by rw [e3, AH.put_vl, if_pos ⟨rfl, rfl⟩]; rfl, trivial, Nat.zero_le _⟩
  have f8 : h3.vl 8 = h2.vl 8 := by rw [e3]; exact put_ne _ (by decide)
  refine ev_aload_n dX0_begin_7 rfl ?_
  refine ev_iconst dX0_begin_8 ?_
  refine ev_pt dX0_begin_9 fX0_99 g1.1.k8 g1.1.n8 rfl ?_
  refine ev_aload_n dX0_begin_12 rfl ?_
  refine ev_iload_n dX0_begin_13 rfl ?_
  refine ev_pt dX0_begin_14 fX0_77 g1.1.k8 g1.1.n8 rfl ?_
  refine ev_aload_n dX0_begin_17 rfl ?_
  refine ev_iconst dX0_begin_18 ?_
  refine ev_pt dX0_begin_19 fX0_93 g1.1.k8 g1.1.n8 rfl ?_
  refine ev_aload_n dX0_begin_22 rfl ?_
  refine ev_iconst dX0_begin_23 ?_
  refine ev_pt dX0_begin_24 fX0_74 g1.1.k8 g1.1.n8 rfl ?_
  refine ev_aload_n dX0_begin_27 rfl ?_
  refine ev_iconst dX0_begin_28 ?_
  refine ev_pt dX0_begin_29 fX0_102 g1.1.k8 g1.1.n8 rfl ?_
  refine ev_aload_n dX0_begin_32 rfl ?_
  refine ev_iconst dX0_begin_33 ?_
  refine ev_pt dX0_begin_34 fX0_105 g1.1.k8 g1.1.n8 rfl ?_
  refine ev_aload_n dX0_begin_37 rfl ?_
  refine ev_iconst dX0_begin_38 ?_
  refine ev_pt dX0_begin_39 fX0_108 g1.1.k8 g1.1.n8 rfl ?_
  rw [← e2]
  refine ev_aload_n dX0_begin_42 rfl ?_
  refine ev_getrv dX0_begin_43 fX0_21 g2.1.k8 g2.1.n8 rfl u1 ?_
  refine ev_iconst dX0_begin_46 ?_
  refine ev_pt dX0_begin_47 fX0_111 g2.1.k19 g2.1.n19 rfl ?_
  rw [← e3]
  refine ev_aload_n dX0_begin_50 rfl ?_
  refine ev_getrv dX0_begin_51 fX0_21 g3.1.k8 g3.1.n8 rfl u3 ?_
  refine ev_iconst dX0_begin_54 ?_
  refine ev_cvv dX0_begin_55 lX0_112 (s_enter (n := 0) g3 pt (by decide)) (by decide) g3.1.k19 g3.1.n19 rfl rfl rfl (Nat.le_of_ble_eq_true rfl) rfl (fun h4 q4 => ?_)
  obtain ⟨c4, p4⟩ := q4
  have f84 : h4.vl 8 = h2.vl 8 := by rw [c4.v (g3.no (by decide)) (by decide), f8]
  have C : YX h1 a1 K1 h4 a1 K1 [] [] FdX 0 := ((c2.wk (by decide) (by decide) (fun y z => Or.inl z) (Nat.le_refl _)).tr (c3.wk (by decide) (by decide) (fun y z => Or.inr (by omega)) (Nat.le_refl _))).tr (c4.wk (by decide) (by decide) (fun y z => Or.inr (by omega)) (Nat.le_refl _))
  have e9 : h4.vl 9 5 = h1.vl 9 5 := C.fl 5
  refine ev_vret dX0_begin_58 (⟨rfl, a1, K1, (c1.wk (by decide) (by decide) (fun y z => z.elim) (Nat.le_refl _)).tr (C.wk (by decide) (by decide) (fun _ z => z) (Nat.le_refl _)), k1, s1.xt C (fun _ _ => rfl), ?_, e9.trans l1, p4, ⟨?_, ?_, ?_, ?_⟩, ?_, ?_, ?_⟩)
  · obtain ⟨t1, t2, t3, t4⟩ := p1
    exact ⟨(C.fl 9).trans t1, trivial, t3, t4⟩
  all_goals rw [f84, e2]; rfl
end FBg
