/-! the class's way through a term's text -/
theorem emF_nil {c : Nat → Int} {n : Nat} {t i : Nat} {ta : Bool} (h : n ≤ i) : emF c n t i ta = [] := by
  cases t with
  | zero => rfl
  | succ t => rw [emF, if_neg (by omega)]
theorem bal_pre {E R R' : List Nd} {w : Nat} (e : R = R') (h : balW (E ++ R) w) : balW (E ++ R') w := by rw [← e]; exact h
set_option maxRecDepth 100000 in
theorem read_loop {h0 : AH} {a N n : Nat} {c : Nat → Int} {ZL : List Nd} {Q : AV → AH → Prop} (ha : 94 ≤ a) (hT0 : TXb h0 a c n) (hz : ∀ j, n ≤ j → c j = 0) (hb : balW ZL 1) (hN : ZL.length ≤ N) (h9 : ZL.length ≤ 120)
    (kk : ∀ (h1 : AH) (v3 v4 v5 v6 : AV), RE h0 h1 a N ZL → EV mX8_read 7 184 [rv 5, rv 1, rv a, v3, v4, v5, v6] [] h1 Q) : ∀ (t i : Nat) (ta : Int) (tb : Bool) (E : List Nd) (h : AH) (v5 v6 : AV), n ≤ i + t → i ≤ n + 2 → ((ta = 1 ∧ tb = true) ∨ (ta = 0 ∧ tb = false)) → RE h0 h a N E → E ++ emF c n t i tb = ZL → EV mX8_read 7 24 [rv 5, rv 1, rv a, iv ta, iv (i : Int), v5, v6] [] h Q := by
  have n60 : n ≤ 60 := hT0.2.1
  have txb : ∀ (E : List Nd) (h : AH), RE h0 h a N E → TXb h a c n := fun E h hE => hT0.kr ha hE.2.2.2.2.1
  have ende : ∀ (t i : Nat) (ta : Int) (tb : Bool) (E : List Nd) (h : AH) (v5 v6 : AV), n ≤ i → i ≤ n + 2 → RE h0 h a N E → E ++ emF c n t i tb = ZL → EV mX8_read 7 24 [rv 5, rv 1, rv a, iv ta, iv (i : Int), v5, v6] [] h Q := by
    intro t i ta tb E h v5 v6 hi hi2 hE he
    obtain ⟨⟨b, Nb, hbb, hba, hs, hv⟩, hn, hc⟩ := txb E h hE
    refine ev_iload dX8_read_24 rfl ?_
    refine ev_aload_n dX8_read_26 rfl ?_
    refine ev_cvi dX8_read_27 lX8_22 (s_J4len hs) (by decide) hE.1.k1 hE.1.n1 rfl rfl rfl (Nat.le_of_ble_eq_true rfl) rfl (fun r z1 q => ?_)
    obtain ⟨rfl, e⟩ := q
    rw [e]
    refine ev_icmpge 184 dX8_read_30 (fun hb1 => ?_) (fun h_no => (by exfalso; omega))
    rw [emF_nil hi, List.append_nil] at he
    exact kk h _ _ _ _ (by rw [← he]; exact hE)
  intro t
  induction t with
  | zero => exact fun i ta tb E h v5 v6 h1 h2 h3 hE he => ende 0 i ta tb E h v5 v6 (by omega) h2 hE he
  | succ t ih =>
    intro i ta tb E h v5 v6 h1 h2 h3 hE he
    by_cases hin : ¬ i < n
    · exact ende (t + 1) i ta tb E h v5 v6 (by omega) h2 hE he
    have hin := Classical.not_not.mp hin
    obtain ⟨⟨b, Nb, hbb, hba, hs, hv⟩, hn, hc⟩ := txb E h hE
    have g1 := hv i hin
    obtain ⟨g2, g3⟩ := hc i hin
    have ei : ((i : Nat) : Int).toNat = i := rfl
    rw [emF, if_pos hin] at he
    have hlen : E.length + ((emA c n i tb).length + ((emN c i).length + (emF c n t (i + if c i = 94 ∨ c i = 33 then 3 else 1) (nxT (c i))).length)) = ZL.length := by
      rw [← he, List.length_append, List.length_append, List.length_append]
    rw [← he] at hb
    have p141 : ∀ (h1 : AH) (b6 : Int), ((b6 = 1 ∧ (c i = 94 ∨ c i = 33)) ∨ (b6 = 0 ∧ ¬ (c i = 94 ∨ c i = 33))) → RE h0 h1 a N (E ++ emA c n i tb ++ emN c i) → EV mX8_read 7 141 [rv 5, rv 1, rv a, iv ta, iv (i : Int), iv (c i), iv b6] [] h1 Q := by
      intro h1 b6 hb6 hE1
      have he2 : (E ++ emA c n i tb ++ emN c i) ++ emF c n t (i + if c i = 94 ∨ c i = 33 then 3 else 1) (nxT (c i)) = ZL := by
        rw [List.append_assoc, List.append_assoc]; exact he
      have p165 : ∀ ta2 : Int, ((ta2 = 1 ∧ nxT (c i) = true) ∨ (ta2 = 0 ∧ nxT (c i) = false)) → EV mX8_read 7 165 [rv 5, rv 1, rv a, iv ta, iv (i : Int), iv (c i), iv b6] [iv ta2] h1 Q := by
        intro ta2 ht2
        refine ev_ist3 dX8_read_165 ?_
        refine ev_iload dX8_read_166 rfl ?_
        refine ev_iload dX8_read_168 rfl ?_
        rcases hb6 with ⟨b1, b2⟩ | ⟨b1, b2⟩
        · skip
          refine ev_ifeq 177 dX8_read_170 (fun h_no => (by exfalso; omega)) (fun hb1 => ?_)
          refine ev_iconst dX8_read_173 ?_
          refine ev_gt 178 dX8_read_174 ?_
          refine ev_iadd dX8_read_178 (by unfold ir; omega) ?_
          refine ev_ist4 dX8_read_179 ?_
          refine ev_gt 24 dX8_read_181 ?_
          rw [if_pos b2] at he2
          rw [show (i : Int) + 3 = ((i + 3 : Nat) : Int) from rfl]
          exact ih (i + 3) ta2 (nxT (c i)) _ h1 _ _ (by omega) (by omega) ht2 hE1 he2
        · skip
          refine ev_ifeq 177 dX8_read_170 (fun hb1 => ?_) (fun h_no => (by exfalso; omega))
          refine ev_iconst dX8_read_177 ?_
          refine ev_iadd dX8_read_178 (by unfold ir; omega) ?_
          refine ev_ist4 dX8_read_179 ?_
          refine ev_gt 24 dX8_read_181 ?_
          rw [if_neg b2] at he2
          rw [show (i : Int) + 1 = ((i + 1 : Nat) : Int) from rfl]
          exact ih (i + 1) ta2 (nxT (c i)) _ h1 _ _ (by omega) (by omega) ht2 hE1 he2
      refine ev_iload dX8_read_141 rfl ?_
      by_cases q6 : b6 = 0
      · skip
        refine ev_ifne 160 dX8_read_143 (fun h_no => (by exfalso; omega)) (fun hb1 => ?_)
        refine ev_iload dX8_read_146 rfl ?_
        refine ev_bipush dX8_read_148 ?_
        by_cases q40 : c i = 40
        · skip
          refine ev_icmpeq 160 dX8_read_150 (fun hb2 => ?_) (fun h_no => (by exfalso; omega))
          refine ev_iconst dX8_read_160 ?_
          refine ev_gt 165 dX8_read_161 ?_
          exact p165 1 (Or.inl ⟨rfl, decide_eq_true (by omega)⟩)
        · skip
          refine ev_icmpeq 160 dX8_read_150 (fun h_no => (by exfalso; omega)) (fun hb2 => ?_)
          refine ev_iload dX8_read_153 rfl ?_
          refine ev_bipush dX8_read_155 ?_
          by_cases q59 : c i = 59
          · skip
            refine ev_icmpne 164 dX8_read_157 (fun h_no => (by exfalso; omega)) (fun hb3 => ?_)
            refine ev_iconst dX8_read_160 ?_
            refine ev_gt 165 dX8_read_161 ?_
            exact p165 1 (Or.inl ⟨rfl, decide_eq_true (by omega)⟩)
          · skip
            refine ev_icmpne 164 dX8_read_157 (fun hb3 => ?_) (fun h_no => (by exfalso; omega))
            refine ev_iconst dX8_read_164 ?_
            exact p165 0 (Or.inr ⟨rfl, decide_eq_false (by omega)⟩)
      · skip
        refine ev_ifne 160 dX8_read_143 (fun hb1 => ?_) (fun h_no => (by exfalso; omega))
        refine ev_iconst dX8_read_160 ?_
        refine ev_gt 165 dX8_read_161 ?_
        exact p165 1 (Or.inl ⟨rfl, decide_eq_true (by omega)⟩)
    have p84 : ∀ (h1 : AH) (b6 : Int), ((b6 = 1 ∧ (c i = 94 ∨ c i = 33)) ∨ (b6 = 0 ∧ ¬ (c i = 94 ∨ c i = 33))) → RE h0 h1 a N (E ++ emA c n i tb) → EV mX8_read 7 84 [rv 5, rv 1, rv a, iv ta, iv (i : Int), iv (c i), iv b6] [] h1 Q := by
      intro h1 b6 hb6 hE1
      have hb1 : balW ((E ++ emA c n i tb) ++ (emN c i ++ emF c n t (i + if c i = 94 ∨ c i = 33 then 3 else 1) (nxT (c i)))) 1 := by rw [List.append_assoc]; exact hb
      have hT1 := (txb _ h1 hE1).t
      have l1 : (E ++ emA c n i tb).length = E.length + (emA c n i tb).length := List.length_append
      refine ev_iload dX8_read_84 rfl ?_
      rcases hb6 with ⟨b1, b2⟩ | ⟨b1, b2⟩
      · skip
        have eN : emN c i = [(if c i = 94 then 4 else 5, c (i + 1), (i : Int))] := if_pos b2
        rw [eN] at hb1 hlen
        rw [List.length_singleton] at hlen
        have p103 : ∀ kx : Int, kx = (if c i = 94 then 4 else 5) → EV mX8_read 7 103 [rv 5, rv 1, rv a, iv ta, iv (i : Int), iv (c i), iv b6] [iv kx, rv a, rv 5] h1 Q := by
          intro kx hkx
          refine ev_aload_n dX8_read_103 rfl ?_
          refine ev_iload dX8_read_104 rfl ?_
          refine ev_iconst dX8_read_106 ?_
          refine ev_iadd dX8_read_107 (by unfold ir; omega) ?_
          refine ev_csi dX8_read_108 lX8_84 (s_signAt hE1.1 hT1) (by decide) rfl rfl (Nat.le_of_ble_eq_true rfl) rfl (fun r z1 q => ?_)
          obtain ⟨hr, e⟩ := q
          have er : r = c (i + 1) := by
            rw [hr, show ((i : Int) + 1).toNat = i + 1 from rfl]
            by_cases g : (0 : Int) ≤ (i : Int) + 1 ∧ (i : Int) + 1 < (n : Int)
            · rw [if_pos g]
            · rw [if_neg g, hz (i + 1) (by omega)]
          rw [e, er]
          refine ev_iload dX8_read_111 rfl ?_
          refine ev_cvv dX8_read_113 lX8_88 (s_addE (x0 := kx) (x1 := c (i + 1)) (x2 := (i : Int)) hE1 (by rw [hkx]; exact hb1) (by omega) (by omega) (by rw [hkx]; split <;> omega) (awE_ok hb1 (by omega))) (by decide) hE1.1.k5 hE1.1.n5 rfl rfl rfl (Nat.le_of_ble_eq_true rfl) rfl (fun h2 hE2 => ?_)
          refine ev_gt 141 dX8_read_116 ?_
          exact p141 h2 b6 (Or.inl ⟨b1, b2⟩) (by rw [eN, ← hkx]; exact hE2)
        refine ev_ifeq 119 dX8_read_86 (fun h_no => (by exfalso; omega)) (fun hb2 => ?_)
        refine ev_aload_n dX8_read_89 rfl ?_
        refine ev_aload_n dX8_read_90 rfl ?_
        refine ev_iload dX8_read_91 rfl ?_
        refine ev_bipush dX8_read_93 ?_
        by_cases q94 : c i = 94
        · skip
          refine ev_icmpne 102 dX8_read_95 (fun h_no => (by exfalso; omega)) (fun hb3 => ?_)
          refine ev_iconst dX8_read_98 ?_
          refine ev_gt 103 dX8_read_99 ?_
          exact p103 4 (by rw [if_pos q94])
        · skip
          refine ev_icmpne 102 dX8_read_95 (fun hb3 => ?_) (fun h_no => (by exfalso; omega))
          refine ev_iconst dX8_read_102 ?_
          exact p103 5 (by rw [if_neg q94])
      · skip
        refine ev_ifeq 119 dX8_read_86 (fun hb2 => ?_) (fun h_no => (by exfalso; omega))
        refine ev_iload dX8_read_119 rfl ?_
        refine ev_csi dX8_read_121 lX8_51 (s_kindOf) (by decide) rfl rfl (Nat.le_of_ble_eq_true rfl) rfl (fun r z1 q => ?_)
        obtain ⟨rfl, e⟩ := q
        rw [e]
        by_cases hl : 0 ≤ lk (c i)
        · skip
          have eN : emN c i = [(lk (c i), c i, (i : Int))] := by rw [emN, if_neg b2, if_pos hl]
          rw [eN] at hb1 hlen
          rw [List.length_singleton] at hlen
          refine ev_iflt 141 dX8_read_124 (fun h_no => (by exfalso; omega)) (fun hb3 => ?_)
          refine ev_aload_n dX8_read_127 rfl ?_
          refine ev_aload_n dX8_read_128 rfl ?_
          refine ev_iload dX8_read_129 rfl ?_
          refine ev_csi dX8_read_131 lX8_51 (s_kindOf) (by decide) rfl rfl (Nat.le_of_ble_eq_true rfl) rfl (fun r z2 q => ?_)
          obtain ⟨rfl, e⟩ := q
          rw [e]
          refine ev_iload dX8_read_134 rfl ?_
          refine ev_iload dX8_read_136 rfl ?_
          refine ev_cvv dX8_read_138 lX8_88 (s_addE (x0 := lk (c i)) (x1 := c i) (x2 := (i : Int)) hE1 hb1 (by omega) (by omega) ⟨hl, by have := lk_lt (c := c i); omega⟩ (awE_ok hb1 (by omega))) (by decide) hE1.1.k5 hE1.1.n5 rfl rfl rfl (Nat.le_of_ble_eq_true rfl) rfl (fun h2 hE2 => ?_)
          exact p141 h2 b6 (Or.inr ⟨b1, b2⟩) (by rw [eN]; exact hE2)
        · skip
          have eN : emN c i = [] := by rw [emN, if_neg b2, if_neg hl]
          refine ev_iflt 141 dX8_read_124 (fun hb3 => ?_) (fun h_no => (by exfalso; omega))
          exact p141 h1 b6 (Or.inr ⟨b1, b2⟩) (by rw [eN, List.append_nil]; exact hE1)
    have p60 : ∀ b6 : Int, ((b6 = 1 ∧ (c i = 94 ∨ c i = 33)) ∨ (b6 = 0 ∧ ¬ (c i = 94 ∨ c i = 33))) → EV mX8_read 7 60 [rv 5, rv 1, rv a, iv ta, iv (i : Int), iv (c i), v6] [iv b6] h Q := by
      intro b6 hb6
      refine ev_ist6 dX8_read_60 ?_
      refine ev_iload_n dX8_read_62 rfl ?_
      by_cases t0 : ta = 0
      · skip
        have et : tb = false := by
          rcases h3 with h3 | h3
          · omega
          · exact h3.2
        refine ev_ifeq 84 dX8_read_63 (fun hb1 => ?_) (fun h_no => (by exfalso; omega))
        refine p84 h b6 hb6 ?_
        rw [emA, et, if_neg (fun z => Bool.noConfusion z.1), List.append_nil]
        exact hE
      · skip
        have et : tb = true := by
          rcases h3 with h3 | h3
          · exact h3.2
          · omega
        refine ev_ifeq 84 dX8_read_63 (fun h_no => (by exfalso; omega)) (fun hb1 => ?_)
        refine ev_iload dX8_read_66 rfl ?_
        rcases hb6 with ⟨b1, b2⟩ | ⟨b1, b2⟩
        · skip
          refine ev_ifne 84 dX8_read_68 (fun hb2 => ?_) (fun h_no => (by exfalso; omega))
          refine p84 h b6 (Or.inl ⟨b1, b2⟩) ?_
          rw [emA, if_neg (fun z => z.2 b2), List.append_nil]
          exact hE
        · skip
          have eA : emA c n i tb = List.replicate (pfF c (n - i) i 0 0 - 1).toNat apz := by
            have := pfF_nn (c := c) (n - i) i 0
            rw [emA, if_pos ⟨et, b2⟩, ptF]
            congr 1
            show (pfF c (n - i) i 0 0).toNat - 1 = _
            omega
          rw [eA] at hb hlen
          rw [List.length_replicate] at hlen
          refine ev_ifne 84 dX8_read_68 (fun h_no => (by exfalso; omega)) (fun hb2 => ?_)
          refine ev_aload_n dX8_read_71 rfl ?_
          refine ev_aload_n dX8_read_72 rfl ?_
          refine ev_aload_n dX8_read_73 rfl ?_
          refine ev_iload dX8_read_74 rfl ?_
          refine ev_csi dX8_read_76 lX8_76 (s_partsFrom hE.1 (txb E h hE).t (by omega)) (by decide) rfl rfl (Nat.le_of_ble_eq_true rfl) rfl (fun r z1 q => ?_)
          obtain ⟨rfl, e⟩ := q
          rw [e]
          have hpr : 0 ≤ pfF c (n - i) i 0 0 := pfF_nn _ _ _
          refine ev_iconst dX8_read_79 ?_
          refine ev_isub dX8_read_80 (by unfold ir; omega) ?_
          refine ev_cvv dX8_read_81 lX8_80 (s_addApps (m := pfF c (n - i) i 0 0 - 1) hE hb (by omega) (by omega)) (by decide) hE.1.k5 hE.1.n5 rfl rfl rfl (Nat.le_of_ble_eq_true rfl) rfl (fun h1 hE1 => ?_)
          exact p84 h1 b6 (Or.inr ⟨b1, b2⟩) (by rw [eA]; exact hE1)
    refine ev_iload dX8_read_24 rfl ?_
    refine ev_aload_n dX8_read_26 rfl ?_
    refine ev_cvi dX8_read_27 lX8_22 (s_J4len hs) (by decide) hE.1.k1 hE.1.n1 rfl rfl rfl (Nat.le_of_ble_eq_true rfl) rfl (fun r z1 q => ?_)
    obtain ⟨rfl, e⟩ := q
    rw [e]
    refine ev_icmpge 184 dX8_read_30 (fun h_no => (by exfalso; omega)) (fun hb1 => ?_)
    refine ev_aload_n dX8_read_33 rfl ?_
    refine ev_iload dX8_read_34 rfl ?_
    refine ev_cvi dX8_read_36 lX8_28 (s_charAt hs (by omega) (by omega) (by rw [ei, g1]; exact g2) (by rw [ei, g1]; exact g3)) (by decide) hE.1.k1 hE.1.n1 rfl rfl rfl (Nat.le_of_ble_eq_true rfl) rfl (fun r z1 q => ?_)
    obtain ⟨rfl, e⟩ := q
    rw [e, ei, g1]
    refine ev_ist5 dX8_read_39 ?_
    refine ev_iload dX8_read_41 rfl ?_
    refine ev_bipush dX8_read_43 ?_
    by_cases q94 : c i = 94
    · skip
      refine ev_icmpeq 55 dX8_read_45 (fun hb2 => ?_) (fun h_no => (by exfalso; omega))
      refine ev_iconst dX8_read_55 ?_
      refine ev_gt 60 dX8_read_56 ?_
      exact p60 1 (Or.inl ⟨rfl, Or.inl q94⟩)
    · skip
      refine ev_icmpeq 55 dX8_read_45 (fun h_no => (by exfalso; omega)) (fun hb2 => ?_)
      refine ev_iload dX8_read_48 rfl ?_
      refine ev_bipush dX8_read_50 ?_
      by_cases q33 : c i = 33
      · skip
        refine ev_icmpne 59 dX8_read_52 (fun h_no => (by exfalso; omega)) (fun hb3 => ?_)
        refine ev_iconst dX8_read_55 ?_
        refine ev_gt 60 dX8_read_56 ?_
        exact p60 1 (Or.inl ⟨rfl, Or.inr q33⟩)
      · skip
        refine ev_icmpne 59 dX8_read_52 (fun hb3 => ?_) (fun h_no => (by exfalso; omega))
        refine ev_iconst dX8_read_59 ?_
        exact p60 0 (Or.inr ⟨rfl, by omega⟩)
set_option maxRecDepth 100000 in
theorem s_finish {h0 h : AH} {a N w : Nat} {L : List Nd} {P : List Int} (hN : L.length ≤ N) (h9 : L.length ≤ 120) (hap : apOK L) {S : Nat → Nat → Int} (hB : RB h0 h a N L.length L.length [] S P w) (hS : AgL L S (FS L L.length)) : CV mX8_finish 5 [rv a] h (on fun h1 => ∃ S1, RB h0 h1 a N L.length L.length [] S1 P w ∧ AgL L S1 (FS L 0)) := by
  refine cv_of cdX8_finish ?_
  show EV _ _ 0 [rv a, uv, uv] [] h _
  refine ev_aload_n dX8_finish_0 rfl ?_
  refine ev_getiv dX8_finish_1 fX8_96 hB.2.2.1.1.1 hB.2.2.1.1.2 rfl hB.2.2.1.2.2.2.1 ?_
  refine ev_iconst dX8_finish_4 ?_
  refine ev_isub dX8_finish_5 (by unfold ir; omega) ?_
  refine ev_ist1 dX8_finish_6 ?_
  exact fin_loop hN h9 hap L.length S h uv (Nat.le_refl _) hB hS
theorem TXs.b {h : AH} {c : Nat → Int} {n : Nat} (t : TXs h c n) : TXb h h.n c n := by
  obtain ⟨⟨b, N, h1, h3, h4⟩, h5⟩ := t
  exact ⟨⟨b, N, h1, h3.2.1.2.2, h3, h4⟩, h5⟩
theorem TXb.kg {h h1 : AH} {c : Nat → Int} {n dc ds : Nat} (hC : CI h) (t : TXb h h.n c n) (k : KG h h1 [] [(5, 3)] dc ds) : TXb h1 h.n c n := by
  obtain ⟨⟨b, N, g1, g2, ⟨⟨s1, s2⟩, ⟨s3, s4, s5⟩, s6, s7, s8⟩, g4⟩, g5⟩ := t
  have n94 := hC.1
  refine ⟨⟨b, N, g1, g2, ⟨⟨(k.2.2.2.1 1 (by omega)).trans s1, by have := k.1; omega⟩, ⟨(k.v (by omega)).trans s3, (k.2.2.2.1 b g2).trans s4, by have := k.1; omega⟩, (k.v (by omega)).trans s6, (k.v (by omega)).trans s7, s8⟩, fun j hj => (k.v g2 (List.not_mem_nil) (by simp; omega)).trans (g4 j hj)⟩, g5⟩
set_option maxRecDepth 100000 in
theorem s_readC {c : Nat → Int} {n : Nat} {L : List Nd} {h : AH} (hC : CI h) (hT : TXs h c n) (hz : ∀ j, n ≤ j → c j = 0) (hr : rd c n = (-1, L)) : CV mX8_read 7 [rv 5, rv 1] h (fun o h1 => o = rv h.n ∧ KG h h1 [7] [(5, 3)] 10 (10 + 8 * (2 * n)) ∧ TmL h1 h.n L ∧ CI h1) := by
  refine cv_of cdX8_read ?_
  show EV _ _ 0 [rv 5, rv 1, uv, uv, uv, uv, uv] [] h _
  obtain ⟨⟨b, Nb, hbb, hs, hv⟩, hn, hc⟩ := id hT
  have n94 := hC.1
  have r1 : (rd c n).1 = -1 := by rw [hr]
  have r2 : (rd c n).2 = L := by rw [hr]
  have hL2 : L.length ≤ 2 * n := by have := rd_len (c := c) (n := n); rw [r2] at this; exact this
  have hem : emF c n n 0 true = L.map zN := by rw [em_eq (fun j hj => (hc j hj).1) r1, r2]
  have hbal : balW (L.map zN) 1 := by
    have h0 : balW L 1 := by have := rd_bal r1; rw [r2] at this; exact this
    have hm : ∀ (L : List Nd) (w : Nat), balW L w → balW (L.map zN) w := by
      intro L
      induction L with
      | nil => intro w h; exact h
      | cons x L ih => intro w h; exact ⟨h.1, ih _ h.2⟩
    exact hm L 1 h0
  have hap : apOK L := by have := rd_ap r1; rw [r2] at this; exact this
  refine ev_new dX8_read_0 nX8_68 ?_
  refine ev_dup dX8_read_3 ?_
  refine ev_iconst dX8_read_4 ?_
  refine ev_aload_n dX8_read_5 rfl ?_
  have hs1 : SBI (h.new (7, 2)) 1 b Nb (n : Int) := by
    obtain ⟨⟨s1, s2⟩, ⟨s3, s4, s5⟩, s6, s7, s8⟩ := hs
    have e1 : ¬ (1 : Nat) = h.n := by omega
    have e2 : ¬ b = h.n := by omega
    exact ⟨⟨by rw [AH.new_kd, if_neg e1]; exact s1, by rw [AH.new_n]; omega⟩, ⟨by rw [AH.new_vl, if_neg e1]; exact s3, by rw [AH.new_kd, if_neg e2]; exact s4, by rw [AH.new_n]; omega⟩, by rw [AH.new_vl, if_neg e1]; exact s6, by rw [AH.new_vl, if_neg e1]; exact s7, s8⟩
  refine ev_cvi dX8_read_6 lX8_22 (s_J4len hs1) (by decide) hs1.1.1 hs1.1.2 rfl rfl rfl (Nat.le_of_ble_eq_true rfl) rfl (fun r z1 q => ?_)
  obtain ⟨rfl, e⟩ := q
  rw [e]
  refine ev_imul dX8_read_9 (by unfold ir; omega) ?_
  have ka : (h.new (7, 2)).kd h.n = (7, 2) := by rw [AH.new_kd, if_pos rfl]
  have na : h.n < (h.new (7, 2)).n := by rw [AH.new_n]; omega
  refine ev_ci dX8_read_10 lX8_70 (s_X7init (m := 2 * (n : Int)) ka na (by omega) (by omega)) (by decide) (by omega) rfl rfl (Nat.le_of_ble_eq_true rfl) rfl (fun h1 q => ?_)
  obtain ⟨h2, e2⟩ : ∃ h2, h2 = h1.put 5 3 0 := ⟨_, rfl⟩
  have eh : h2 = (((h.new (7, 2)).mna 8 (2 * n)).put h.n 0 ((h.n + 1 : Nat) : Int)).put 5 3 0 := by
    rw [e2, q, show (2 * (n : Int)).toNat = 2 * n by omega]
    rfl
  obtain ⟨kg, re⟩ := nt_RE hC eh (by omega)
  have hk5 : h1.kd 5 = (8, 4) := by
    have := (re.1).k5
    rw [e2] at this
    exact this
  have hn5 : 5 < h1.n := by
    have := (re.1).n5
    rw [e2] at this
    exact this
  refine ev_ast2 dX8_read_13 ?_
  refine ev_aload_n dX8_read_14 rfl ?_
  refine ev_iconst dX8_read_15 ?_
  refine ev_pt dX8_read_16 fX8_73 hk5 hn5 rfl ?_
  refine ev_iconst dX8_read_19 ?_
  refine ev_ist3 dX8_read_20 ?_
  refine ev_iconst dX8_read_21 ?_
  refine ev_ist4 dX8_read_22 ?_
  rw [← e2]
  refine read_loop (h0 := h2) (N := 2 * n) (n := n) (c := c) (ZL := L.map zN) n94 (hT.b.kg hC kg) hz hbal (by rw [List.length_map]; exact hL2) (by rw [List.length_map]; omega) ?_ n 0 1 true [] h2 _ _ (by omega) (by omega) (Or.inl ⟨rfl, rfl⟩) re (by rw [List.nil_append]; exact hem)
  intro h3 v3 v4 v5 v6 re3
  have lz : (L.map zN).length = L.length := List.length_map _
  have B3 : RB h2 h3 h.n (2 * n) L.length L.length [] (Sx (tbF (L.map zN) 0 [-1] zf)) (awE (L.map zN)) (awE (L.map zN)).length := by
    have := re3
    unfold RE at this
    rw [lz] at this
    exact this
  have A3 : AgL L (Sx (tbF (L.map zN) 0 [-1] zf)) (FS L L.length) := by
    intro k i hk hi
    have e4 : LB L.length L = L.map zN := by rw [LB, List.take_length, List.drop_length, List.append_nil]
    rw [FS, e4, Sx]
    by_cases k7 : k < 7
    · rw [if_pos k7, if_pos k7]; rfl
    · rw [if_neg k7, if_neg k7, if_neg (by omega)]
  refine ev_aload_n dX8_read_184 rfl ?_
  refine ev_csv dX8_read_185 lX8_92 (s_finish hL2 (by omega) hap B3 A3) (by decide) rfl rfl (Nat.le_of_ble_eq_true rfl) rfl (fun h4 q => ?_)
  obtain ⟨S4, B4, A4⟩ := q
  refine ev_aload_n dX8_read_188 rfl ?_
  refine ev_aret dX8_read_189 (⟨rfl, ⟨?_, ?_, ?_, fun x hx => ?_, fun x j hx hA hF => ?_⟩, ⟨h.n + 1, fun k => h.n + 2 + k, 2 * n, B4.2.2.1, hL2, fun k j hk hj => ?_, fun j hj => ?_⟩, B4.1⟩) rfl (Or.inl ⟨_, rfl⟩)
  · rw [B4.2.2.2.2.1.1]; exact kg.1
  · rw [B4.2.2.2.2.1.2.2.1]; exact kg.2.1
  · rw [B4.2.2.2.2.1.2.2.2.1]; exact kg.2.2.1
  · rw [B4.2.2.2.2.1.2.1]; exact kg.2.2.2.1 x hx
  · have : x ∉ rdA h.n := by
      simp only [List.mem_singleton] at hA
      simp only [rdA, List.mem_cons, List.not_mem_nil, or_false]
      omega
    rw [B4.2.2.2.2.1.v this hF]
    exact kg.v hx List.not_mem_nil hF
  · rw [B4.2.2.2.1 k j (by omega) (Or.inl hj), A4 k j (by omega) hj, FS, if_pos hk]
    rfl
  · rw [B4.2.2.2.1 7 j (by decide) (Or.inl hj), A4 7 j (by decide) hj, FS_7, if_pos (Nat.zero_le _)]
