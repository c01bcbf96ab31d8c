/-! the class: a term is written -/
/-- what is written behind a node: the ends of what ends with it -/
def enF (L : List Nd) : Nat → Nat → List Int
  | 0, _ => []
  | f + 1, e => if TBL L 61 e < 0 then [] else if (e : Int) < TBL L 60 (TBL L 61 e).toNat then (if TBL L 57 (TBL L 61 e).toNat = 5 then [59] else []) else (if 0 < (TBL L 61 e).toNat ∧ 4 ≤ TBL L 57 (TBL L 61 e).toNat then [41] else []) ++ enF L f (TBL L 61 e).toNat
theorem enF_st {L : List Nd} : ∀ (f f' e : Nat), e < f → e < f' → e < L.length → enF L f e = enF L f' e
  | 0, _, _, h, _, _ => absurd h (Nat.not_lt_zero _)
  | _ + 1, 0, _, _, h, _ => absurd h (Nat.not_lt_zero _)
  | f + 1, f' + 1, e, h, h', hl => by
    rw [enF, enF]
    by_cases c : TBL L 61 e < 0
    · rw [if_pos c, if_pos c]
    · rw [if_neg c, if_neg c]
      have g := (TBL_gd (L := L) e hl).1
      rw [enF_st f f' (TBL L 61 e).toNat (by omega) (by omega) (by omega)]
theorem TmL.sb {h h1 : AH} {t a b N b1 N1 : Nat} {L : List Nd} {X : List Int} (g : TmL h t L) (w : TbI h a b N X) (q : SbQ h a b N h1 b1 N1) : TmL h1 t L := by
  obtain ⟨rr, ro, M, ⟨⟨a1, a2⟩, ⟨b1', b2, b3⟩, t3, t4, t5, t6⟩, u1, u2, u3⟩ := g
  obtain ⟨⟨⟨ka, an⟩, ⟨va, kb, bn⟩, -⟩, -⟩ := w
  obtain ⟨q1, q2, q3, -⟩ := q
  have no : ∀ c, c < h.n → ((h.kd c).1 = 7 ∨ (h.kd c).1 = 104 ∨ (h.kd c).1 = 100) → h1.vl c = h.vl c := fun c hc hk => by
    refine q3 c hc (fun z => ?_) (fun z => ?_)
    · rw [z, ka] at hk
      rcases hk with w | w | w <;> exact absurd w (by simp)
    · rw [z, kb] at hk
      rcases hk with w | w | w <;> exact absurd w (by simp)
  have v1 := no t a2 (by rw [a1]; exact Or.inl rfl)
  have v2 := no rr b3 (by rw [b2]; exact Or.inr (Or.inl rfl))
  have v3 : ∀ k, k < 8 → h1.vl (ro k) = h.vl (ro k) := fun k hk => no _ (t3 k hk).2.2 (by rw [(t3 k hk).2.1]; exact Or.inr (Or.inr rfl))
  refine ⟨rr, ro, M, ⟨⟨(q2 t a2).trans a1, by omega⟩, ⟨by rw [v1]; exact b1', (q2 rr b3).trans b2, by omega⟩, fun k hk => ?_, by rw [v1]; exact t4, t5, t6⟩, u1, fun k j hk hj => by rw [v3 k (by omega)]; exact u2 k j hk hj, fun j hj => by rw [v3 7 (by decide)]; exact u3 j hj⟩
  obtain ⟨x1, x2, x3⟩ := t3 k hk
  exact ⟨by rw [v2]; exact x1, (q2 _ x3).trans x2, by omega⟩
section Wrt
variable {h : AH} {t b N : Nat} {L : List Nd} {X : List Int}
set_option maxRecDepth 100000 in
theorem s_isBr {e : Nat} (g : TmL h t L) (he : e < L.length) : CV mX7_isBracketed 3 [rv t, iv (e : Int)] h (oi fun r h1 => r = (if 0 < e ∧ 4 ≤ TBL L 57 e then 1 else 0) ∧ h1 = h) := by
  obtain ⟨⟨ka, na⟩, -⟩ := g.t.o
  refine cv_of cdX7_isBracketed ?_
  show EV _ _ 0 [rv t, iv (e : Int)] [] h _
  refine ev_iload_n dX7_isBracketed_0 rfl ?_
  have p18 : ¬ (0 < e ∧ 4 ≤ TBL L 57 e) → EV mX7_isBracketed 3 18 [rv t, iv (e : Int)] [] h (oi fun r h1 => r = (if 0 < e ∧ 4 ≤ TBL L 57 e then 1 else 0) ∧ h1 = h) := by
    intro hn
    refine ev_iconst dX7_isBracketed_18 ?_
    exact ev_zret dX7_isBracketed_19 (⟨_, rfl, by rw [if_neg hn], rfl⟩) (Or.inl rfl)
  by_cases c : 0 < e
  · skip
    refine ev_ifle 18 dX7_isBracketed_1 (fun h_no => (by exfalso; omega)) (fun hb => ?_)
    refine ev_aload_n dX7_isBracketed_4 rfl ?_
    refine ev_iconst dX7_isBracketed_5 ?_
    refine ev_iload_n dX7_isBracketed_6 rfl ?_
    refine ev_cvi dX7_isBracketed_7 lX7_32 (s_ofL (k := 0) g (by decide) he) (by decide) ka na rfl rfl rfl (Nat.le_of_ble_eq_true rfl) rfl (fun r z q => ?_)
    obtain ⟨er, eq⟩ := q
    rw [show colC 0 = 57 from rfl] at er
    rw [eq, er]
    refine ev_iconst dX7_isBracketed_10 ?_
    by_cases d : 4 ≤ TBL L 57 e
    · skip
      refine ev_icmplt 18 dX7_isBracketed_11 (fun h_no => (by exfalso; omega)) (fun hb2 => ?_)
      refine ev_iconst dX7_isBracketed_14 ?_
      refine ev_gt 19 dX7_isBracketed_15 ?_
      exact ev_zret dX7_isBracketed_19 (⟨_, rfl, by rw [if_pos ⟨c, d⟩], rfl⟩) (Or.inr rfl)
    refine ev_icmplt 18 dX7_isBracketed_11 (fun hb2 => ?_) (fun h_no => (by exfalso; omega))
    exact p18 (fun z => d z.2)
  refine ev_ifle 18 dX7_isBracketed_1 (fun hb => ?_) (fun h_no => (by exfalso; omega))
  exact p18 (fun z => c z.1)
set_option maxRecDepth 100000 in
theorem we_loop {h0 : AH} {b0 N0 lf : Nat} {X0 : List Int} (g0 : TmL h0 t L) (t0 : TbI h0 3 b0 N0 X0) : ∀ (f e : Nat) (h : AH) (b N : Nat) (Y : List Int), e < f → e < L.length → TbI h 3 b N (X0 ++ Y) → SbQ h0 3 b0 N0 h b N → (X0 ++ (Y ++ enF L f e)).length ≤ 1000 → EV mX7_writeEnds 6 9 [rv t, iv (lf : Int), rv 3, iv (e : Int), iv (TBL L 61 e)] [] h (on (ApQ h0 3 b0 N0 X0 (Y ++ enF L f e)))
  | 0, e, h, b, N, Y, he, _, _, _, _ => absurd he (Nat.not_lt_zero _)
  | f + 1, e, h, b, N, Y, he, hl, ht, hq, hX => by
    have g := g0.sb t0 hq
    obtain ⟨⟨ka, na⟩, -⟩ := g.t.o
    have ta := ht.1.1
    have gd := (TBL_gd (L := L) e hl).1
    rw [enF] at hX ⊢
    by_cases c : TBL L 61 e < 0
    · rw [if_pos c]
      refine ev_iload dX7_writeEnds_9 rfl ?_
      refine ev_iflt 74 dX7_writeEnds_11 (fun hb => ?_) (fun h_no => (by exfalso; omega))
      exact ev_vret dX7_writeEnds_74 (⟨rfl, b, N, by rw [List.append_nil]; exact ht, hq⟩)
    rw [if_neg c] at hX ⊢
    obtain ⟨p, hp⟩ : ∃ p : Nat, TBL L 61 e = (p : Int) := ⟨(TBL L 61 e).toNat, by omega⟩
    rw [hp, show ((p : Nat) : Int).toNat = p from rfl] at hX ⊢
    have pe : p < e := by omega
    refine ev_iload dX7_writeEnds_9 rfl ?_
    refine ev_iflt 74 dX7_writeEnds_11 (fun h_no => (by exfalso; omega)) (fun hb => ?_)
    refine ev_aload_n dX7_writeEnds_14 rfl ?_
    refine ev_iconst dX7_writeEnds_15 ?_
    refine ev_iload dX7_writeEnds_16 rfl ?_
    refine ev_cvi dX7_writeEnds_18 lX7_32 (s_ofL (k := 3) (j := p) g (by decide) (by omega)) (by decide) ka na rfl rfl rfl (Nat.le_of_ble_eq_true rfl) rfl (fun r z q => ?_)
    obtain ⟨er, eq⟩ := q
    rw [show colC 3 = 60 from rfl] at er
    rw [eq, er]
    refine ev_iload_n dX7_writeEnds_21 rfl ?_
    by_cases d : (e : Int) < TBL L 60 p
    · skip
      rw [if_pos d] at hX ⊢
      refine ev_icmple 44 dX7_writeEnds_22 (fun h_no => (by exfalso; omega)) (fun hb2 => ?_)
      refine ev_aload_n dX7_writeEnds_25 rfl ?_
      refine ev_iconst dX7_writeEnds_26 ?_
      refine ev_iload dX7_writeEnds_27 rfl ?_
      refine ev_cvi dX7_writeEnds_29 lX7_32 (s_ofL (k := 0) (j := p) g (by decide) (by omega)) (by decide) ka na rfl rfl rfl (Nat.le_of_ble_eq_true rfl) rfl (fun r z q => ?_)
      obtain ⟨er, eq⟩ := q
      rw [show colC 0 = 57 from rfl] at er
      rw [eq, er]
      refine ev_iconst dX7_writeEnds_32 ?_
      by_cases d5 : TBL L 57 p = 5
      · skip
        rw [if_pos d5] at hX ⊢
        refine ev_icmpne 43 dX7_writeEnds_33 (fun h_no => (by exfalso; omega)) (fun hb3 => ?_)
        refine ev_aload_n dX7_writeEnds_36 rfl ?_
        refine ev_bipush dX7_writeEnds_37 ?_
        refine ev_cvr dX7_writeEnds_39 lX7_43 (s_appG ht (by rw [List.length_append] at hX ⊢; rw [List.length_append] at hX; omega) (c := 59) (by decide)) (by decide) ta.1 ta.2 rfl rfl rfl (Nat.le_of_ble_eq_true rfl) rfl (fun r3 h3 q9 => ?_)
        obtain ⟨-, b3, N3, t3, q3⟩ := q9
        refine ev_pop dX7_writeEnds_42 ?_
        exact ev_vret dX7_writeEnds_43 (⟨rfl, b3, N3, by rw [List.append_assoc] at t3; exact t3, hq.tr q3⟩)
      rw [if_neg d5] at hX ⊢
      refine ev_icmpne 43 dX7_writeEnds_33 (fun hb3 => ?_) (fun h_no => (by exfalso; omega))
      exact ev_vret dX7_writeEnds_43 (⟨rfl, b, N, by rw [List.append_nil]; exact ht, hq⟩)
    rw [if_neg d] at hX ⊢
    refine ev_icmple 44 dX7_writeEnds_22 (fun hb2 => ?_) (fun h_no => (by exfalso; omega))
    refine ev_aload_n dX7_writeEnds_44 rfl ?_
    refine ev_iload dX7_writeEnds_45 rfl ?_
    refine ev_cvi dX7_writeEnds_47 lX7_40 (s_isBr (e := p) g (by omega)) (by decide) ka na rfl rfl rfl (Nat.le_of_ble_eq_true rfl) rfl (fun r z q => ?_)
    obtain ⟨er, eq⟩ := q
    rw [eq, er]
    -- behind the bracket
    have p60 : ∀ (h1 : AH) (b1 N1 : Nat) (Z : List Int), TbI h1 3 b1 N1 (X0 ++ (Y ++ Z)) → SbQ h0 3 b0 N0 h1 b1 N1 → Z = (if 0 < p ∧ 4 ≤ TBL L 57 p then [41] else []) → EV mX7_writeEnds 6 60 [rv t, iv (lf : Int), rv 3, iv (e : Int), iv (p : Int)] [] h1 (on (ApQ h0 3 b0 N0 X0 (Y ++ ((if 0 < p ∧ 4 ≤ TBL L 57 p then [41] else []) ++ enF L f p)))) := by
      intro h1 b1 N1 Z t1 q1 hZ
      have g1 := g0.sb t0 q1
      obtain ⟨⟨ka1, na1⟩, -⟩ := g1.t.o
      refine ev_iload dX7_writeEnds_60 rfl ?_
      refine ev_ist3 dX7_writeEnds_62 ?_
      refine ev_aload_n dX7_writeEnds_63 rfl ?_
      refine ev_iload dX7_writeEnds_64 rfl ?_
      refine ev_cvi dX7_writeEnds_66 lX7_36 (s_parT (j := p) g1.t (by omega)) (by decide) ka1 na1 rfl rfl rfl (Nat.le_of_ble_eq_true rfl) rfl (fun r z q => ?_)
      obtain ⟨er, eq⟩ := q
      rw [eq, er]
      refine ev_ist4 dX7_writeEnds_69 ?_
      refine ev_gt 9 dX7_writeEnds_71 ?_
      rw [← hZ] at hX ⊢
      have := we_loop (lf := lf) g0 t0 f p h1 b1 N1 (Y ++ Z) (by omega) (by omega) t1 q1 (by rw [List.append_assoc]; exact hX)
      rw [List.append_assoc] at this
      exact this
    by_cases d6 : 0 < p ∧ 4 ≤ TBL L 57 p
    · skip
      rw [if_pos d6] at er ⊢
      rw [if_pos d6] at hX
      refine ev_ifeq 60 dX7_writeEnds_50 (fun h_no => (by exfalso; omega)) (fun hb4 => ?_)
      refine ev_aload_n dX7_writeEnds_53 rfl ?_
      refine ev_bipush dX7_writeEnds_54 ?_
      refine ev_cvr dX7_writeEnds_56 lX7_43 (s_appG ht (by rw [List.length_append] at hX ⊢; rw [List.length_append] at hX; omega) (c := 41) (by decide)) (by decide) ta.1 ta.2 rfl rfl rfl (Nat.le_of_ble_eq_true rfl) rfl (fun r3 h3 q9 => ?_)
      obtain ⟨-, b3, N3, t3, q3⟩ := q9
      refine ev_pop dX7_writeEnds_59 ?_
      exact p60 h3 b3 N3 [41] (by rw [List.append_assoc] at t3; exact t3) (hq.tr q3) (by rw [if_pos d6])
    rw [if_neg d6] at er ⊢
    refine ev_ifeq 60 dX7_writeEnds_50 (fun hb4 => ?_) (fun h_no => (by exfalso; omega))
    exact p60 h b N [] (by rw [List.append_nil]; exact ht) hq (by rw [if_neg d6])
set_option maxRecDepth 100000 in
theorem s_writeEnds {e : Nat} (g : TmL h t L) (w : TbI h 3 b N X) (hl : e < L.length) (hL : L.length ≤ 119) (hX : (X ++ enF L 130 e).length ≤ 1000) : CV mX7_writeEnds 6 [rv t, iv (e : Int), rv 3] h (on (ApQ h 3 b N X (enF L 130 e))) := by
  obtain ⟨⟨ka, na⟩, -⟩ := g.t.o
  refine cv_of cdX7_writeEnds ?_
  show EV _ _ 0 [rv t, iv (e : Int), rv 3, uv, uv] [] h _
  refine ev_iload_n dX7_writeEnds_0 rfl ?_
  refine ev_ist3 dX7_writeEnds_1 ?_
  refine ev_aload_n dX7_writeEnds_2 rfl ?_
  refine ev_iload_n dX7_writeEnds_3 rfl ?_
  refine ev_cvi dX7_writeEnds_4 lX7_36 (s_parT (j := e) g.t hl) (by decide) ka na rfl rfl rfl (Nat.le_of_ble_eq_true rfl) rfl (fun r z q => ?_)
  obtain ⟨er, eq⟩ := q
  rw [eq, er]
  refine ev_ist4 dX7_writeEnds_7 ?_
  exact we_loop g w 130 e h b N [] (by omega) hl (by rw [List.append_nil]; exact w) SbQ.rf (by rw [List.nil_append]; exact hX)
end Wrt
