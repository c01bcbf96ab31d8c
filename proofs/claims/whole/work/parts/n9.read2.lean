/-! the class reads a term: its cells are new -/
/-- a term whose cells lie behind b -/
def TmB (h : AH) (b a : Nat) (L : List Nd) : Prop := ∃ (rr : Nat) (ro : Nat → Nat) (N : Nat), TmI h a rr ro N L.length ∧ L.length ≤ N ∧ (∀ k j, k < 7 → j < L.length → h.vl (ro k) j = TBL L (colC k) j) ∧ (∀ j, j < L.length → h.vl (ro 7) j = (if TBL L 57 j = 0 then bd (TBL L) j else -1)) ∧ b < rr ∧ ∀ k, b < ro k
set_option maxRecDepth 100000 in
theorem s_readC2 {c : Nat → Int} {n : Nat} {L : List Nd} {h : AH} (hC : CI h) (hT : TXs h c n) (hz : ∀ j, n ≤ j → c j = 0) (hr : rd c n = (-1, L)) : CV mX8_read 7 [rv 5, rv 1] h (fun o h1 => o = rv h.n ∧ KG h h1 [7] [(5, 3)] 10 (10 + 8 * (2 * n)) ∧ TmB h1 h.n h.n L ∧ CI h1) := by
  refine cv_of cdX8_read ?_
  show EV _ _ 0 [rv 5, rv 1, uv, uv, uv, uv, uv] [] h _
  obtain ⟨⟨b, Nb, hbb, hs, hv⟩, hn, hc⟩ := id hT
  have n94 := hC.1
  have r1 : (rd c n).1 = -1 := by rw [hr]
  have r2 : (rd c n).2 = L := by rw [hr]
  have hL2 : L.length ≤ 2 * n := by have := rd_len (c := c) (n := n); rw [r2] at this; exact this
  have hem : emF c n n 0 true = L.map zN := by rw [em_eq (fun j hj => (hc j hj).1) r1, r2]
  have hbal : balW (L.map zN) 1 := by
    have h0 : balW L 1 := by have := rd_bal r1; rw [r2] at this; exact this
    have hm : ∀ (L : List Nd) (w : Nat), balW L w → balW (L.map zN) w := by
      intro L
      induction L with
      | nil => intro w h; exact h
      | cons x L ih => intro w h; exact ⟨h.1, ih _ h.2⟩
    exact hm L 1 h0
  have hap : apOK L := by have := rd_ap r1; rw [r2] at this; exact this
  refine ev_new dX8_read_0 nX8_68 ?_
  refine ev_dup dX8_read_3 ?_
  refine ev_iconst dX8_read_4 ?_
  refine ev_aload_n dX8_read_5 rfl ?_
  have hs1 : SBI (h.new (7, 2)) 1 b Nb (n : Int) := by
    obtain ⟨⟨s1, s2⟩, ⟨s3, s4, s5⟩, s6, s7, s8⟩ := hs
    have e1 : ¬ (1 : Nat) = h.n := by omega
    have e2 : ¬ b = h.n := by omega
    exact ⟨⟨by rw [AH.new_kd, if_neg e1]; exact s1, by rw [AH.new_n]; omega⟩, ⟨by rw [AH.new_vl, if_neg e1]; exact s3, by rw [AH.new_kd, if_neg e2]; exact s4, by rw [AH.new_n]; omega⟩, by rw [AH.new_vl, if_neg e1]; exact s6, by rw [AH.new_vl, if_neg e1]; exact s7, s8⟩
  refine ev_cvi dX8_read_6 lX8_22 (s_J4len hs1) (by decide) hs1.1.1 hs1.1.2 rfl rfl rfl (Nat.le_of_ble_eq_true rfl) rfl (fun r z1 q => ?_)
  obtain ⟨rfl, e⟩ := q
  rw [e]
  refine ev_imul dX8_read_9 (by unfold ir; omega) ?_
  have ka : (h.new (7, 2)).kd h.n = (7, 2) := by rw [AH.new_kd, if_pos rfl]
  have na : h.n < (h.new (7, 2)).n := by rw [AH.new_n]; omega
  refine ev_ci dX8_read_10 lX8_70 (s_X7init (m := 2 * (n : Int)) ka na (by omega) (by omega)) (by decide) (by omega) rfl rfl (Nat.le_of_ble_eq_true rfl) rfl (fun h1 q => ?_)
  obtain ⟨h2, e2⟩ : ∃ h2, h2 = h1.put 5 3 0 := ⟨_, rfl⟩
  have eh : h2 = (((h.new (7, 2)).mna 8 (2 * n)).put h.n 0 ((h.n + 1 : Nat) : Int)).put 5 3 0 := by
    rw [e2, q, show (2 * (n : Int)).toNat = 2 * n by omega]
    rfl
  obtain ⟨kg, re⟩ := nt_RE hC eh (by omega)
  have hk5 : h1.kd 5 = (8, 4) := by
    have := (re.1).k5
    rw [e2] at this
    exact this
  have hn5 : 5 < h1.n := by
    have := (re.1).n5
    rw [e2] at this
    exact this
  refine ev_ast2 dX8_read_13 ?_
  refine ev_aload_n dX8_read_14 rfl ?_
  refine ev_iconst dX8_read_15 ?_
  refine ev_pt dX8_read_16 fX8_73 hk5 hn5 rfl ?_
  refine ev_iconst dX8_read_19 ?_
  refine ev_ist3 dX8_read_20 ?_
  refine ev_iconst dX8_read_21 ?_
  refine ev_ist4 dX8_read_22 ?_
  rw [← e2]
  refine read_loop (h0 := h2) (N := 2 * n) (n := n) (c := c) (ZL := L.map zN) n94 (hT.b.kg hC kg) hz hbal (by rw [List.length_map]; exact hL2) (by rw [List.length_map]; omega) ?_ n 0 1 true [] h2 _ _ (by omega) (by omega) (Or.inl ⟨rfl, rfl⟩) re (by rw [List.nil_append]; exact hem)
  intro h3 v3 v4 v5 v6 re3
  have lz : (L.map zN).length = L.length := List.length_map _
  have B3 : RB h2 h3 h.n (2 * n) L.length L.length [] (Sx (tbF (L.map zN) 0 [-1] zf)) (awE (L.map zN)) (awE (L.map zN)).length := by
    have := re3
    unfold RE at this
    rw [lz] at this
    exact this
  have A3 : AgL L (Sx (tbF (L.map zN) 0 [-1] zf)) (FS L L.length) := by
    intro k i hk hi
    have e4 : LB L.length L = L.map zN := by rw [LB, List.take_length, List.drop_length, List.append_nil]
    rw [FS, e4, Sx]
    by_cases k7 : k < 7
    · rw [if_pos k7, if_pos k7]; rfl
    · rw [if_neg k7, if_neg k7, if_neg (by omega)]
  refine ev_aload_n dX8_read_184 rfl ?_
  refine ev_csv dX8_read_185 lX8_92 (s_finish hL2 (by omega) hap B3 A3) (by decide) rfl rfl (Nat.le_of_ble_eq_true rfl) rfl (fun h4 q => ?_)
  obtain ⟨S4, B4, A4⟩ := q
  refine ev_aload_n dX8_read_188 rfl ?_
  refine ev_aret dX8_read_189 (⟨rfl, ⟨?_, ?_, ?_, fun x hx => ?_, fun x j hx hA hF => ?_⟩, ⟨h.n + 1, fun k => h.n + 2 + k, 2 * n, B4.2.2.1, hL2, fun k j hk hj => ?_, fun j hj => ?_, by omega, fun k => by show h.n < h.n + 2 + k; omega⟩, B4.1⟩) rfl (Or.inl ⟨_, rfl⟩)
  · rw [B4.2.2.2.2.1.1]; exact kg.1
  · rw [B4.2.2.2.2.1.2.2.1]; exact kg.2.1
  · rw [B4.2.2.2.2.1.2.2.2.1]; exact kg.2.2.1
  · rw [B4.2.2.2.2.1.2.1]; exact kg.2.2.2.1 x hx
  · have : x ∉ rdA h.n := by
      simp only [List.mem_singleton] at hA
      simp only [rdA, List.mem_cons, List.not_mem_nil, or_false]
      omega
    rw [B4.2.2.2.2.1.v this hF]
    exact kg.v hx List.not_mem_nil hF
  · rw [B4.2.2.2.1 k j (by omega) (Or.inl hj), A4 k j (by omega) hj, FS, if_pos hk]
    rfl
  · rw [B4.2.2.2.1 7 j (by decide) (Or.inl hj), A4 7 j (by decide) hj, FS_7, if_pos (Nat.zero_le _)]

theorem TmB.x {C : Nat → Nat → Prop} {h h1 : AH} {a K : Nat → Nat} {L : List Nd} (t : TmB h1 h.n h.n L) (g : YA h a K) (q : GF h h1 C) (hC : ∀ c j, C c j → OkC h c j) (f : FSc h a) : TmX h1 a (PX h1) h.n L := by
  obtain ⟨rr, ro, N, t1, t2, t3, t4, t5, t6⟩ := t
  have n94 := g.1.1
  obtain ⟨-, fo, -⟩ := f.gf g q hC
  have no : ∀ x, h.n ≤ x → x < h1.n → YNo h1 a x ∧ ¬ PX h1 x := fun x x1 x2 => by
    refine ⟨⟨x2, by omega, fun k hk e => by have := (g.2.1 k hk).2.2.1; omega⟩, fun z => ?_⟩
    rcases z with (z | z | z | z) | z
    · omega
    · omega
    · obtain ⟨i, s, hi, hs, hz⟩ := fo x z
      rcases f.1 i hi with y | ⟨s', b', y1, y2, y3, ⟨y4, y5, -⟩, -⟩
      · omega
      · have e1 : s = s' := by omega
        subst e1
        have := y4.1
        have := y5.1
        have := y3.2.1
        rcases hz with rfl | hz
        · omega
        · omega
    · omega
    · omega
  exact ⟨rr, ro, N, t1, t2, t3, t4, no _ (Nat.le_refl _) t1.1.2, no _ (by omega) t1.2.1.2.2, fun k hk => no _ (by have := t6 k; omega) (t1.2.2.1 k hk).2.2⟩
