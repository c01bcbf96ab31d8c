/-! the class goes on with a node: what is done first -/
section GOn
variable {h : AH} {a K : Nat → Nat} {st : List (Nat × Int × Int)} {tc e : Nat} {s x gz : Int} {L : List Nd} {Q : AV → AH → Prop}
set_option maxRecDepth 100000 in
theorem goOn_pre (g : YA h a K) (hT : TmL h tc L) (he : e < L.length) (p : PtH h ((e, s, x) :: st)) (hs : 0 ≤ s ∧ s ≤ 10) (hg : h.vl 8 9 = gz) (hgz : 0 ≤ gz ∧ gz ≤ 1000) (htT : ∀ h1, YX h a K h1 a K [] [] FdX 0 → TmL h1 tc L)
    (kk : ∀ h1, YX h a K h1 a K [] [] FdX 0 → PtH h1 ((e, s + 1, x) :: st) → h1.vl 8 9 = gz + (if s = 0 then 1 else 0) → (∀ j, j ≠ 9 → h1.vl 8 j = h.vl 8 j) → h1.vl 23 = h.vl 23 → EV mX0_goOn 8 43 [rv 8, rv (tc : Int), rv 31, iv (e : Int), iv s, iv (TBL L 58 e)] [iv (TBL L 57 e)] h1 Q) :
    EV mX0_goOn 8 0 [rv 8, rv (tc : Int), rv 31, iv (e : Int), uv, uv] [] h Q := by
  have w1 := g.1.v8_1
  refine ev_aload_n dX0_goOn_0 rfl ?_
  refine ev_getrv dX0_goOn_1 fX0_21 g.1.k8 g.1.n8 rfl w1 ?_
  refine ev_cvi dX0_goOn_4 lX0_134 (s_takeStage g p ⟨hs.1, by omega⟩) (by decide) g.1.k19 g.1.n19 rfl rfl rfl (Nat.le_of_ble_eq_true rfl) rfl (fun q h1 q9 => ?_)
  obtain ⟨q1, c1, p1⟩ := q9
  rw [q1]
  have g1 := c1.1
  have f8 : h1.vl 8 = h.vl 8 := c1.v (g.no (c := 8) (by decide)) (by decide)
  have f23 : h1.vl 23 = h.vl 23 := c1.v (g.no (c := 23) (by decide)) (by decide)
  have r9 : h1.vl 8 9 = gz := by rw [f8]; exact hg
  have fin : ∀ z : Int, z = (if s = 0 then 1 else 0) → EV mX0_goOn 8 24 [rv 8, rv (tc : Int), rv 31, iv (e : Int), iv s, uv] [iv z, iv gz, rv 8] h1 Q := by
    intro z hz
    have z9 : 0 ≤ z ∧ z ≤ 1 := by rw [hz]; split <;> omega
    obtain ⟨h2, e2⟩ : ∃ h2, h2 = h1.put 8 9 (gz + z) := ⟨_, rfl⟩
    have c2 : YX h1 a K h2 a K [] [] (fun y => y = 8) 0 := by rw [e2]; exact g1.pp ⟨by decide, by decide⟩
    have g2 := c2.1
    have C : YX h a K h2 a K [] [] FdX 0 := (c1.wk (X' := FdX) (by decide) (by decide) (fun y w => Or.inr (by omega)) (Nat.le_refl _)).tr (c2.wk (by decide) (by decide) (fun y w => Or.inl w) (Nat.le_refl _))
    have T2 := htT h2 C
    refine ev_iadd dX0_goOn_24 (by unfold ir; omega) ?_
    refine ev_pt dX0_goOn_25 fX0_93 g1.1.k8 g1.1.n8 rfl ?_
    rw [← e2]
    refine ev_aload_n dX0_goOn_28 rfl ?_
    refine ev_bipush dX0_goOn_29 ?_
    refine ev_iload_n dX0_goOn_31 rfl ?_
    refine ev_cvi dX0_goOn_32 lX0_137 (s_ofL (k := 6) T2 (by decide) he) (by decide) T2.t.o.1.1 T2.t.o.1.2 rfl rfl rfl (Nat.le_of_ble_eq_true rfl) rfl (fun q z q9 => ?_)
    obtain ⟨q1, eq⟩ := q9
    rw [q1, eq]
    refine ev_ist5 dX0_goOn_35 ?_
    refine ev_aload_n dX0_goOn_37 rfl ?_
    refine ev_iconst dX0_goOn_38 ?_
    refine ev_iload_n dX0_goOn_39 rfl ?_
    refine ev_cvi dX0_goOn_40 lX0_137 (s_ofL (k := 0) T2 (by decide) he) (by decide) T2.t.o.1.1 T2.t.o.1.2 rfl rfl rfl (Nat.le_of_ble_eq_true rfl) rfl (fun q z q9 => ?_)
    obtain ⟨q1, eq⟩ := q9
    rw [q1, eq]
    refine kk h2 C (p1.x g1 c2 (by decide)) ?_ (fun j hj => ?_) ?_
    · rw [e2, AH.put_vl, if_pos ⟨rfl, rfl⟩, hz]
    · rw [e2, AH.put_vl, if_neg (fun w => hj w.2), f8]
    · rw [e2, put_ne _ (by decide), f23]
  refine ev_ist4 dX0_goOn_7 ?_
  refine ev_aload_n dX0_goOn_9 rfl ?_
  refine ev_dup dX0_goOn_10 ?_
  refine ev_getiv dX0_goOn_11 fX0_93 g1.1.k8 g1.1.n8 rfl r9 ?_
  refine ev_iload dX0_goOn_14 rfl ?_
  by_cases d : s = 0
  · skip
    refine ev_ifne 23 dX0_goOn_16 (fun h_no => (by exfalso; omega)) (fun hb => ?_)
    refine ev_iconst dX0_goOn_19 ?_
    refine ev_gt 24 dX0_goOn_20 ?_
    exact fin 1 (by rw [if_pos d])
  refine ev_ifne 23 dX0_goOn_16 (fun hb => ?_) (fun h_no => (by exfalso; omega))
  refine ev_iconst dX0_goOn_23 ?_
  exact fin 0 (by rw [if_neg d])
end GOn
