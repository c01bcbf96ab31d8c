/-! the class: a type is told -/
theorem row_rng : ∀ (T : TE), vsT (fun x => x < 209) T → ∀ x ∈ rowT T, 0 ≤ x ∧ x ≤ 210
  | .var v, hv, x, hx => by
    obtain ⟨e, e1, e2, e3, e4⟩ := row_leaf (v := v)
    rw [e1] at hx
    have hx := List.mem_singleton.mp hx
    by_cases c : v < 2
    · have := e3 c; omega
    · have := e4 (by omega)
      have h9 : v < 209 := hv v (by omega) (by simp [oc])
      omega
  | .op a b, hv, x, hx => by
    obtain ⟨va, vb⟩ := vsT_op.mp hv
    rw [rowT] at hx
    rcases List.mem_cons.mp hx with z | z
    · omega
    · exact (List.mem_append.mp z).elim (row_rng a va x) (row_rng b vb x)
theorem tx_l3 (T : TE) : (txR T (-1)).length ≤ 3 * sz T := tx_len T (-1)
section Tel
variable {h : AH} {a K : Nat → Nat} {N : Nat} {tc : Nat → Nat} {LL : Nat → List Nd} {kp : Nat → Option TE} {p nd : Int} {s sb R n b B : Nat} {X : List Int} {T : TE}
set_option maxRecDepth 100000 in
theorem s_writeSh (g : ShI h s sb R n) (t : TbI h 3 b B []) (hr : RwA (h.vl sb) 0 (rowT T)) (hn : n = sz T) (hsz : sz T ≤ 200) (hv : vsT (fun x => x < 209) T) : CV mX5_write 7 [rv s, rv 3] h (on (ApQ h 3 b B [] (txR T (-1)))) := by
  refine cv_of cdX5_write ?_
  show EV _ _ 0 [rv s, rv 3, uv, uv] [] h _
  have rg : ∀ i, i < n → 0 ≤ h.vl sb i ∧ h.vl sb i ≤ 210 := fun i hi => by
    have hi' : i < (rowT T).length := by rw [row_len]; omega
    have := hr i hi'
    rw [Nat.zero_add] at this
    rw [this]
    exact row_rng T hv _ (List.getElem_mem _)
  refine ev_iconst dX5_write_0 ?_
  refine ev_ist2 dX5_write_1 ?_
  refine ev_iconst dX5_write_2 ?_
  refine ev_ist3 dX5_write_3 ?_
  refine sw_walk (X0 := []) g t (by omega) rg T 0 0 false [] h b B hr (by omega) (fun z z0 _ => absurd z0 (Nat.lt_irrefl _)) (fun _ => rfl) (Nat.le_refl _) (Nat.zero_le _) (Nat.zero_le _) t SbQ.rf (fun h1 b1 N1 t1 q1 => ?_)
  have g1 := (g.sb t q1).1
  have g6 := g1.2.2.1
  refine ev_iload_n dX5_write_4 rfl ?_
  refine ev_aload_n dX5_write_5 rfl ?_
  refine ev_getiv dX5_write_6 fX5_15 g1.1.1 g1.1.2 rfl g6 ?_
  refine ev_icmpge 92 dX5_write_9 (fun hb => ?_) (fun h_no => (by exfalso; omega))
  exact ev_vret dX5_write_92 (⟨rfl, b1, N1, by rw [enX, if_pos rfl, List.append_nil] at t1; exact t1, q1⟩)
theorem CI.tb {b1 N1 : Nat} {h1 : AH} {X' : List Int} {c : Nat} (hC : CI h) (t : TbI h c b B X') (hc : c = 1 ∨ c = 3) (hb : b = 2 ∨ b = 4 ∨ 94 ≤ b) (q : SbQ h c b B h1 b1 N1) : CI h1 := q.gf.ci (fun d j z => (t.ok hc hb d j z).1) hC
set_option maxRecDepth 100000 in
theorem s_writeLine (hC : CI h) (g : ShI h s sb R n) (t : TbI h 3 b B X) (hb : b = 4 ∨ 94 ≤ b) (hr : RwA (h.vl sb) 0 (rowT T)) (hn : n = sz T) (hsz : sz T ≤ 200) (hv : vsT (fun x => x < 209) T) : CV mX10_writeLine 8 [rv 0, rv s] h (oi fun r h1 => r = ((txR T (-1)).length : Int) ∧ ∃ b1 N1, TbI h1 3 b1 N1 (txR T (-1)) ∧ SbQ h 3 b B h1 b1 N1) := by
  refine cv_of cdX10_writeLine ?_
  show EV _ _ 0 [rv 0, rv s] [] h _
  refine ev_aload_n dX10_writeLine_0 rfl ?_
  refine ev_getrv dX10_writeLine_1 fX10_16 hC.k0 hC.n0 rfl hC.v0_1 ?_
  refine ev_iconst dX10_writeLine_4 ?_
  refine ev_cvv dX10_writeLine_5 lX10_73 (s_J4set0 t.1) (by decide) hC.k3 hC.n3 rfl rfl rfl (Nat.le_of_ble_eq_true rfl) rfl (fun h1 q => ?_)
  obtain ⟨q1, q2⟩ := q
  obtain ⟨⟨ka, an⟩, ⟨va, kb, bn⟩, hco, hk, h0, hN', h9⟩ := id t.1
  have t3 := t.2.2.2.2.2
  have v0 : h1.vl 3 0 = h.vl 3 0 := q1.2.2.2.2 3 0 (by simp) (by simp)
  have v1 : h1.vl 3 1 = h.vl 3 1 := q1.2.2.2.2 3 1 (by simp) (by simp)
  have vc : ∀ c, c ≠ 3 → h1.vl c = h.vl c := fun c hc => funext fun j => q1.2.2.2.2 c j (by simp) (by simp [hc])
  have t1 : TbI h1 3 b B [] := by
    refine ⟨⟨⟨by rw [q1.2.1]; exact ka, by rw [q1.1]; exact an⟩, ⟨by rw [v0]; exact va, by rw [q1.2.1]; exact kb, by rw [q1.1]; exact bn⟩, by rw [v1]; exact hco, q2, Int.le_refl _, Int.natCast_nonneg _, h9⟩, t.2.1, fun i hi => absurd hi (Nat.not_lt_zero _), fun j hj => ?_, fun x hx => absurd hx List.not_mem_nil, t3⟩
    rw [vc b (fun z => t3 z.symm)]
    exact t.2.2.2.1 j hj
  have s1 : SbQ h 3 b B h1 b B := ⟨by rw [q1.1]; exact Nat.le_refl _, fun c _ => by rw [q1.2.1], fun c _ h3 _ => vc c h3, fun j _ j2 j3 => q1.2.2.2.2 3 j (by simp) (by simp [j2, j3]), ⟨by rw [q1.2.2.1]; exact Nat.le_refl _, by rw [q1.2.2.2.1]; exact Nat.le_refl _, Nat.le_refl _⟩, Or.inl rfl⟩
  obtain ⟨g1, w1, -⟩ := g.sb t s1
  have hC1 := hC.tb t (Or.inr rfl) (by omega) s1
  refine ev_aload_n dX10_writeLine_8 rfl ?_
  refine ev_aload_n dX10_writeLine_9 rfl ?_
  refine ev_getrv dX10_writeLine_10 fX10_16 hC1.k0 hC1.n0 rfl hC1.v0_1 ?_
  refine ev_cvv dX10_writeLine_13 lX10_371 (s_writeSh g1 t1 (by rw [w1]; exact hr) hn hsz hv) (by decide) g1.1.1 g1.1.2 rfl rfl rfl (Nat.le_of_ble_eq_true rfl) rfl (fun h2 q => ?_)
  obtain ⟨b2, N2, t2, s2⟩ := q
  rw [List.nil_append] at t2
  have s2' := s1.tr s2
  have hC2 := hC.tb t (Or.inr rfl) (by omega) s2'
  refine ev_aload_n dX10_writeLine_16 rfl ?_
  refine ev_getrv dX10_writeLine_17 fX10_16 hC2.k0 hC2.n0 rfl hC2.v0_1 ?_
  refine ev_cvi dX10_writeLine_20 lX10_236 (s_J4len t2.1) (by decide) hC2.k3 hC2.n3 rfl rfl rfl (Nat.le_of_ble_eq_true rfl) rfl (fun r h3 q => ?_)
  obtain ⟨rfl, e⟩ := q
  rw [e]
  exact ev_iret dX10_writeLine_23 (⟨_, rfl, rfl, b2, N2, t2, s2'⟩)
theorem TbI.q {h1 : AH} {a1 K1 : Nat → Nat} {Y : Nat → Prop} {c : Nat} (t : TbI h c b B X) (q : QF h a K h1 a1 K1 Y) (f : FSc h a) (g : YA h a K) (hY : ∀ y, Y y → QY y) (hc : c = 1 ∨ c = 3) (hb : b = 2 ∨ b = 4 ∨ 94 ≤ b) : TbI h1 c b B X := by
  obtain ⟨⟨⟨ka, an⟩, ⟨va, kb, bn⟩, hco, hk, h0, hN', h9⟩, t2, t3, t4, t5, t6⟩ := t
  obtain ⟨⟨e, x, -⟩, -⟩ := id q
  have n94 := g.1.1
  have no : ∀ d, (d < 9 ∧ d ≠ 8) → ¬ (FX h d ∨ Y d) := fun d hd z => by
    rcases z with (z | z | z | z) | z
    · omega
    · omega
    · have := f.lo z; omega
    · omega
    · have := hY d z
      have this : 27 ≤ d ∧ d ≤ 30 := this
      omega
  have vc : h1.vl c = h.vl c := x.v (g.no (by omega)) (no c (by omega))
  have ynb : YNo h a b := ⟨bn, by rintro rfl; rw [g.1.k9] at kb; exact absurd (congrArg Prod.fst kb) (by simp), fun k hk2 e2 => by
    have := g.k k hk2
    rw [e2, kb] at this
    exact absurd (congrArg Prod.fst this) (by simp)⟩
  have vb : h1.vl b = h.vl b := by
    by_cases d : b < 9
    · exact x.v ynb (no b (by omega))
    · refine x.v ynb (fun z => ?_)
      rcases z with (z | z | z | z) | z
      · omega
      · omega
      · obtain ⟨i, s9, hi, hs, hz⟩ := z
        rcases f.1 i hi with w | ⟨s', b', w1, w2, ⟨w3, w4, w5, -⟩, -⟩
        · omega
        · obtain rfl : s9 = s' := by omega
          rcases hz with rfl | hz
          · rw [w3] at kb; exact absurd (congrArg Prod.fst kb) (by simp)
          · obtain rfl : b = b' := by omega
            rw [w5] at kb; exact absurd (congrArg Prod.fst kb) (by simp)
      · omega
      · have := hY b z
        have this : 27 ≤ b ∧ b ≤ 30 := this
        omega
  exact ⟨⟨⟨(x.2.1.2.1 c an).trans ka, Nat.lt_of_lt_of_le an x.2.1.1⟩, ⟨by rw [vc]; exact va, (x.2.1.2.1 b bn).trans kb, Nat.lt_of_lt_of_le bn x.2.1.1⟩, by rw [vc]; exact hco, by rw [vc]; exact hk, h0, hN', h9⟩, t2, by rw [vb]; exact t3, by rw [vb]; exact t4, t5, t6⟩
/-- what telling leaves -/
def TlQ (h : AH) (a K : Nat → Nat) (b B : Nat) (X Z : List Int) (h1 : AH) : Prop := ∃ h2 a1 K1 b1 N1, QF h a K h2 a1 K1 QY ∧ TbI h2 3 b B X ∧ SbQ h2 3 b B h1 b1 N1 ∧ TbI h1 3 b1 N1 Z
theorem cn209 {T : TE} (hsz : sz T ≤ 200) : vsT (fun x => x < 209) (cnR T []) := fun x h2 ho => by
  have := cnR_vs T [] x h2 ho
  have h9 : ([] : List Nat).length = 0 := rfl
  show x < 209
  omega
set_option maxRecDepth 100000 in
theorem g_tell (n : QN h a K N tc LL kp) (o : LkO N LL kp) (t : TbI h 3 b B X) (hb : b = 4 ∨ 94 ≤ b) : CV mX10_tell 11 [rv 0, iv p] h (fun oo h1 => (¬ (0 ≤ p ∧ p < (N : Int)) ∧ oo = xv 2 ∧ h1 = h.thr) ∨ ((0 ≤ p ∧ p < (N : Int)) ∧ ∃ r S, fnR (LL p.toNat) kp r S ∧ ((r.1 ≠ 0 ∧ oo = xv 4 ∧ QR h a K QY h1) ∨ (r.1 = 0 ∧ oo = iv ((txR (cnR (S.2.1 0) []) (-1)).length : Int) ∧ TlQ h a K b B X (txR (cnR (S.2.1 0) []) (-1)) h1)))) := by
  have hC := n.1.1
  have hS := n.sn
  refine cv_of cdX10_tell ?_
  show EV _ _ 0 [rv 0, iv p] [] h _
  by_cases hp : 0 ≤ p ∧ p < (N : Int)
  · skip
    refine ev_aload_n dX10_tell_0 rfl ?_
    refine ev_aload_n dX10_tell_1 rfl ?_
    refine ev_iload_n dX10_tell_2 rfl ?_
    refine ev_cvr dX10_tell_3 lX10_126 (g_termOf1 hS hp) (by decide) hC.k0 hC.n0 rfl rfl rfl (Nat.le_of_ble_eq_true rfl) rfl (fun r h1 q => ?_)
    obtain ⟨rfl, e⟩ := q
    rw [e]
    refine ev_aload_n dX10_tell_6 rfl ?_
    refine ev_getrv dX10_tell_7 fX10_38 hC.k0 hC.n0 rfl hC.v0_4 ?_
    by_cases ok : TyP (LL p.toNat) kp
    · skip
      refine ev_cvv dX10_tell_10 lX10_177 (g_needT1 n o (l := p.toNat) (by omega) (sh := 27) (by decide) ok) (by decide) hC.k0 hC.n0 rfl rfl rfl (Nat.le_of_ble_eq_true rfl) rfl (fun h1 q => ?_)
      obtain ⟨r, S, M, T, τ, a1, K1, q1, q2, q3, q4, q5, q6⟩ := q
      have hC1 := q4.g.1
      have t1 : TbI h1 3 b B X := t.q q4 n.2.2.1 n.1 (shY_q (by decide)) (Or.inr rfl) (by omega)
      have g1 := q6.1
      rw [cn_len] at g1
      refine ev_aload_n dX10_tell_13 rfl ?_
      refine ev_aload_n dX10_tell_14 rfl ?_
      refine ev_getrv dX10_tell_15 fX10_38 hC1.k0 hC1.n0 rfl hC1.v0_4 ?_
      refine ev_cvi dX10_tell_18 lX10_282 (s_writeLine (T := cnR (S.2.1 0) []) hC1 g1 t1 hb (by rw [cnR_row]; exact fun i hi => by rw [Nat.zero_add]; exact q6.2.2.2 i hi) (cnR_sz _ _).symm (by rw [cnR_sz]; exact q3) (cn209 q3)) (by decide) hC1.k0 hC1.n0 rfl rfl rfl (Nat.le_of_ble_eq_true rfl) rfl (fun x h2 q => ?_)
      obtain ⟨rfl, b2, N2, t2, s2⟩ := q
      exact ev_iret dX10_tell_21 (Or.inr ⟨hp, r, S, q1, Or.inr ⟨q2, rfl, h1, a1, K1, b2, N2, q4.wk (shY_q (by decide)), t1, s2, t2⟩⟩)
    · skip
      refine ev_callv dX10_tell_10 lX10_177 (g_needT0 n o (l := p.toNat) (by omega) ok) (by decide) (by decide) (by have := hC.n0; omega) hC.k0 rfl rfl (Nat.le_of_ble_eq_true rfl) rfl (fun o h1 q => by obtain ⟨rfl, q⟩ := q; exact ⟨fun _ => Or.inr ⟨hp, by obtain ⟨r, S, q1, q2, q3⟩ := q; exact ⟨r, S, q1, Or.inl ⟨q2, rfl, q3.wk (fun _ z => z.elim)⟩⟩⟩, fun e => absurd rfl e⟩) (Or.inr q_1437)
  · skip
    refine ev_aload_n dX10_tell_0 rfl ?_
    refine ev_aload_n dX10_tell_1 rfl ?_
    refine ev_iload_n dX10_tell_2 rfl ?_
    refine ev_callv dX10_tell_3 lX10_126 (g_termOf0 hS hp) (by decide) (by decide) (by have := hC.n0; omega) hC.k0 rfl rfl (Nat.le_of_ble_eq_true rfl) rfl (fun o h1 q => by obtain ⟨rfl, rfl⟩ := q; exact ⟨fun _ => Or.inl ⟨hp, rfl, rfl⟩, fun e => absurd rfl e⟩) (Or.inr q_1326)
set_option maxRecDepth 100000 in
theorem g_tellNode (n : QN h a K N tc LL kp) (o : LkO N LL kp) (t : TbI h 3 b B X) (hb : b = 4 ∨ 94 ≤ b) : CV mX10_tellNode 11 [rv 0, iv p, iv nd] h (fun oo h1 => (¬ ((0 ≤ p ∧ p < (N : Int)) ∧ (0 ≤ nd ∧ nd < ((LL p.toNat).length : Int))) ∧ oo = xv 2 ∧ h1 = h.thr) ∨ (((0 ≤ p ∧ p < (N : Int)) ∧ (0 ≤ nd ∧ nd < ((LL p.toNat).length : Int))) ∧ ∃ r S, fnR (LL p.toNat) kp r S ∧ ((r.1 ≠ 0 ∧ oo = xv 4 ∧ QR h a K QY h1) ∨ (r.1 = 0 ∧ oo = iv ((txR (cnR (S.2.1 nd.toNat) []) (-1)).length : Int) ∧ TlQ h a K b B X (txR (cnR (S.2.1 nd.toNat) []) (-1)) h1)))) := by
  have hC := n.1.1
  have hS := n.sn
  refine cv_of cdX10_tellNode ?_
  show EV _ _ 0 [rv 0, iv p, iv nd] [] h _
  by_cases hp : (0 ≤ p ∧ p < (N : Int)) ∧ (0 ≤ nd ∧ nd < ((LL p.toNat).length : Int))
  · skip
    refine ev_aload_n dX10_tellNode_0 rfl ?_
    refine ev_aload_n dX10_tellNode_1 rfl ?_
    refine ev_iload_n dX10_tellNode_2 rfl ?_
    refine ev_iload_n dX10_tellNode_3 rfl ?_
    refine ev_cvr dX10_tellNode_4 lX10_133 (g_with1 hS hp) (by decide) hC.k0 hC.n0 rfl rfl rfl (Nat.le_of_ble_eq_true rfl) rfl (fun r h1 q => ?_)
    obtain ⟨rfl, e⟩ := q
    rw [e]
    refine ev_aload_n dX10_tellNode_7 rfl ?_
    refine ev_getrv dX10_tellNode_8 fX10_38 hC.k0 hC.n0 rfl hC.v0_4 ?_
    by_cases ok : TyP (LL p.toNat) kp
    · skip
      refine ev_cvv dX10_tellNode_11 lX10_177 (g_needT1 n o (l := p.toNat) (by omega) (sh := 27) (by decide) ok) (by decide) hC.k0 hC.n0 rfl rfl rfl (Nat.le_of_ble_eq_true rfl) rfl (fun h1 q => ?_)
      obtain ⟨r, S, M, T, τ, a1, K1, q1, q2, q3, q4, q5, q6⟩ := q
      have hC1 := q4.g.1
      have t1 : TbI h1 3 b B X := t.q q4 n.2.2.1 n.1 (shY_q (by decide)) (Or.inr rfl) (by omega)
      obtain ⟨e, rfl⟩ : ∃ e : Nat, nd = (e : Int) := ⟨nd.toNat, by omega⟩
      have he : e < (LL p.toNat).length := by omega
      have z9 := fnR_sz q1 q2 e he
      refine ev_aload_n dX10_tellNode_14 rfl ?_
      refine ev_getrv dX10_tellNode_15 fX10_29 hC1.k0 hC1.n0 rfl hC1.v0_3 ?_
      refine ev_iload_n dX10_tellNode_18 rfl ?_
      refine ev_aload_n dX10_tellNode_19 rfl ?_
      refine ev_getrv dX10_tellNode_20 fX10_38 hC1.k0 hC1.n0 rfl hC1.v0_4 ?_
      refine ev_cvv dX10_tellNode_23 lX10_193 (q_node q5 q4.2.1 q4.2.2.2 he z9 (sh := 27) (by decide)) (by decide) hC1.k8 hC1.n8 rfl rfl rfl (Nat.le_of_ble_eq_true rfl) rfl (fun h2 q => ?_)
      obtain ⟨a2, K2, y1, y2, y3⟩ := q
      have hC2 := y1.g.1
      have t2 : TbI h2 3 b B X := t1.q y1 q4.2.1 q4.g (shY_q (by decide)) (Or.inr rfl) (by omega)
      have g2 := y3.1
      rw [cn_len] at g2
      refine ev_aload_n dX10_tellNode_26 rfl ?_
      refine ev_aload_n dX10_tellNode_27 rfl ?_
      refine ev_getrv dX10_tellNode_28 fX10_38 hC2.k0 hC2.n0 rfl hC2.v0_4 ?_
      refine ev_cvi dX10_tellNode_31 lX10_282 (s_writeLine (T := cnR (S.2.1 e) []) hC2 g2 t2 hb (by rw [cnR_row]; exact fun i hi => by rw [Nat.zero_add]; exact y3.2.2.2 i hi) (cnR_sz _ _).symm (by rw [cnR_sz]; exact z9) (cn209 z9)) (by decide) hC2.k0 hC2.n0 rfl rfl rfl (Nat.le_of_ble_eq_true rfl) rfl (fun x h3 q => ?_)
      obtain ⟨rfl, b3, N3, t3, s3⟩ := q
      exact ev_iret dX10_tellNode_34 (Or.inr ⟨hp, r, S, q1, Or.inr ⟨q2, rfl, h2, a2, K2, b3, N3, (q4.tr y1).wk (shY_q (by decide)), t2, s3, t3⟩⟩)
    · skip
      refine ev_callv dX10_tellNode_11 lX10_177 (g_needT0 n o (l := p.toNat) (by omega) ok) (by decide) (by decide) (by have := hC.n0; omega) hC.k0 rfl rfl (Nat.le_of_ble_eq_true rfl) rfl (fun o h1 q => by obtain ⟨rfl, q⟩ := q; exact ⟨fun _ => Or.inr ⟨hp, by obtain ⟨r, S, q1, q2, q3⟩ := q; exact ⟨r, S, q1, Or.inl ⟨q2, rfl, q3.wk (fun _ z => z.elim)⟩⟩⟩, fun e => absurd rfl e⟩) (Or.inr q_1437)
  · skip
    refine ev_aload_n dX10_tellNode_0 rfl ?_
    refine ev_aload_n dX10_tellNode_1 rfl ?_
    refine ev_iload_n dX10_tellNode_2 rfl ?_
    refine ev_iload_n dX10_tellNode_3 rfl ?_
    refine ev_callv dX10_tellNode_4 lX10_133 (g_with0 hS hp) (by decide) (by decide) (by have := hC.n0; omega) hC.k0 rfl rfl (Nat.le_of_ble_eq_true rfl) rfl (fun o h1 q => by obtain ⟨rfl, rfl⟩ := q; exact ⟨fun _ => Or.inl ⟨hp, rfl, rfl⟩, fun e => absurd rfl e⟩) (Or.inr q_1350)
set_option maxRecDepth 100000 in
theorem g_tellKept {cc : Int} (n : QN h a K N tc LL kp) (t : TbI h 3 b B X) (hb : b = 4 ∨ 94 ≤ b) : CV mX10_tellKept 9 [rv 0, iv cc] h (fun oo h1 => (¬ (0 ≤ cc ∧ cc < 8) ∧ oo = xv 2 ∧ h1 = h.thr) ∨ ((0 ≤ cc ∧ cc < 8) ∧ ((kp cc.toNat = none ∧ oo = xv 3 ∧ h1 = h.thr) ∨ ∃ R, kp cc.toNat = some R ∧ oo = iv ((txR R (-1)).length : Int) ∧ TlQ h a K b B X (txR R (-1)) h1))) := by
  have hC := n.1.1
  refine cv_of cdX10_tellKept ?_
  show EV _ _ 0 [rv 0, iv cc, uv] [] h _
  refine ev_iload_n dX10_tellKept_0 rfl ?_
  by_cases hp : 0 ≤ cc ∧ cc < 8
  · skip
    refine ev_csv dX10_tellKept_1 lX10_217 (s_needCap1 hp) (by decide) rfl rfl (Nat.le_of_ble_eq_true rfl) rfl (fun h1 q => ?_)
    rw [q]
    refine ev_aload_n dX10_tellKept_4 rfl ?_
    refine ev_getrv dX10_tellKept_5 fX10_48 hC.k0 hC.n0 rfl hC.v0_6 ?_
    refine ev_iload_n dX10_tellKept_8 rfl ?_
    refine ev_cvr dX10_tellKept_9 lX10_220 (s_keptAtC hC.st31) (by decide) hC.k31 hC.n31 rfl rfl rfl (Nat.le_of_ble_eq_true rfl) rfl (fun r h1 q => ?_)
    obtain ⟨er, e⟩ := q
    have ek : kpAt h 33 cc = h.vl 33 cc.toNat := by unfold kpAt; rw [if_pos hp]
    rw [e, er, ek]
    rcases n.2.2.2.2 cc.toNat (by omega) with ⟨k1, k2⟩ | ⟨R9, s9, b9, n9, k1, k2, k3, k4, k5, k6⟩
    · skip
      rw [k2]
      refine ev_ast2 dX10_tellKept_12 ?_
      refine ev_aload_n dX10_tellKept_13 rfl ?_
      refine ev_ifnonnull 28 dX10_tellKept_14 (fun h_no => (by exfalso; omega)) (fun hb2 => ?_)
      exact ev_throwxw _ tk_3 (List.mem_of_getElem? (i := 21) rfl) dX10_tellKept_17 dX10_tellKept_20 dX10_tellKept_21 dX10_tellKept_24 dX10_tellKept_27 rfl (Nat.le_of_ble_eq_true rfl) (Or.inr ⟨hp, Or.inl ⟨k1, rfl, rfl⟩⟩)
    rw [k2]
    have g1 := k3.1
    rw [row_len] at g1
    refine ev_ast2 dX10_tellKept_12 ?_
    refine ev_aload_n dX10_tellKept_13 rfl ?_
    refine ev_ifnonnull 28 dX10_tellKept_14 (fun hb2 => ?_) (fun h_no => (by exfalso; omega))
    refine ev_aload_n dX10_tellKept_28 rfl ?_
    refine ev_aload_n dX10_tellKept_29 rfl ?_
    refine ev_cvi dX10_tellKept_30 lX10_282 (s_writeLine (T := R9) hC g1 t hb (fun i hi => by rw [Nat.zero_add]; exact k3.2.2.2 i hi) rfl (by omega) (fun x h2 ho => by have := k6 x h2 ho; show x < 209; omega)) (by decide) hC.k0 hC.n0 rfl rfl rfl (Nat.le_of_ble_eq_true rfl) rfl (fun x h2 q => ?_)
    obtain ⟨rfl, b2, N2, t2, s2⟩ := q
    exact ev_iret dX10_tellKept_33 (Or.inr ⟨hp, Or.inr ⟨R9, k1, rfl, h, a, K, b2, N2, QF.rf n.1 n.2.2.1 n.2.1, t, s2, t2⟩⟩)
  · skip
    refine ev_calls dX10_tellKept_1 lX10_217 (s_needCap0 hp) (by decide) rfl rfl (Nat.le_of_ble_eq_true rfl) rfl (fun o h1 q => by obtain ⟨rfl, rfl⟩ := q; exact ⟨fun _ => Or.inl ⟨hp, rfl, rfl⟩, fun e => absurd rfl e⟩) (Or.inr q_1529)
end Tel
