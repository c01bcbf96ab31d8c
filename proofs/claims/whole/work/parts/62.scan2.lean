/-! the class finds the first fault of a term -/
set_option maxRecDepth 100000 in
theorem s_placeB {pl c : Int} {o : List Int} {h : AH} (hR : RdS h o) (ho : o.length < 60) (hp : 0 ≤ pl ∧ pl ≤ 5) : CV mX8_placeBehind 4 [rv 5, iv pl, iv c] h (oi fun r h1 => r = (pB pl o c).1 ∧ KS h h1 [6] [(5, 1)] ∧ RdS h1 (pB pl o c).2) := by
  have hC := hR.1
  refine cv_of cdX8_placeBehind ?_
  show EV _ _ 0 [rv 5, iv pl, iv c] [] h _
  have pb : ∀ q : Int × List Int, pB pl o c = q → ∀ (r : Int) (h1 : AH), r = q.1 → KS h h1 [6] [(5, 1)] → RdS h1 q.2 → (oi fun r h1 => r = (pB pl o c).1 ∧ KS h h1 [6] [(5, 1)] ∧ RdS h1 (pB pl o c).2) (iv r) h1 := fun q e r h1 g1 g2 g3 => ⟨r, rfl, by rw [e]; exact g1, g2, by rw [e]; exact g3⟩
  refine ev_iload_n dX8_placeBehind_0 rfl ?_
  by_cases p0 : pl = 0
  · skip
    subst p0
    refine ev_tsI 36 (35) dX8_placeBehind_1 (by decide) (by decide) rfl ?_
    refine ev_iload_n dX8_placeBehind_36 rfl ?_
    refine ev_bipush dX8_placeBehind_37 ?_
    by_cases c1 : c = 94
    · skip
      refine ev_icmpne 46 dX8_placeBehind_39 (fun h_no => (by exfalso; omega)) (fun hc => ?_)
      refine ev_iconst dX8_placeBehind_42 ?_
      refine ev_gt 61 dX8_placeBehind_43 ?_
      exact ev_iret dX8_placeBehind_61 (pb (1, o) (by rw [pB, if_pos rfl, if_pos c1]) _ _ rfl KS.rf hR)
    · skip
      refine ev_icmpne 46 dX8_placeBehind_39 (fun hc => ?_) (fun h_no => (by exfalso; omega))
      refine ev_iload_n dX8_placeBehind_46 rfl ?_
      refine ev_bipush dX8_placeBehind_47 ?_
      by_cases c2 : c = 33
      · skip
        refine ev_icmpne 56 dX8_placeBehind_49 (fun h_no => (by exfalso; omega)) (fun hc2 => ?_)
        refine ev_iconst dX8_placeBehind_52 ?_
        refine ev_gt 61 dX8_placeBehind_53 ?_
        exact ev_iret dX8_placeBehind_61 (pb (3, o) (by rw [pB, if_pos rfl, if_neg c1, if_pos c2]) _ _ rfl KS.rf hR)
      · skip
        refine ev_icmpne 56 dX8_placeBehind_49 (fun hc2 => ?_) (fun h_no => (by exfalso; omega))
        refine ev_aload_n dX8_placeBehind_56 rfl ?_
        refine ev_iload_n dX8_placeBehind_57 rfl ?_
        refine ev_cvi dX8_placeBehind_58 lX8_36 (s_placePart hR ho) (by decide) hC.k5 hC.n5 rfl rfl rfl (Nat.le_of_ble_eq_true rfl) rfl (fun r h1 q => ?_)
        obtain ⟨rfl, q1, q2⟩ := q
        exact ev_iret dX8_placeBehind_61 (pb (pP o c) (by rw [pB, if_pos rfl, if_neg c1, if_neg c2]) _ _ rfl q1 q2)
  · skip
    by_cases p1 : pl = 1
    · skip
      subst p1
      refine ev_tsI 62 (61) dX8_placeBehind_1 (by decide) (by decide) rfl ?_
      refine ev_iload_n dX8_placeBehind_62 rfl ?_
      refine ev_csi dX8_placeBehind_63 lX8_40 (s_isLetter) (by decide) rfl rfl (Nat.le_of_ble_eq_true rfl) rfl (fun r z1 q => ?_)
      obtain ⟨rfl, e⟩ := q
      rw [e]
      by_cases cl : 97 ≤ c ∧ c ≤ 122
      · skip
        rw [if_pos cl]
        refine ev_ifeq 73 dX8_placeBehind_66 (fun h_no => (by exfalso; exact absurd h_no (by decide))) (fun hc => ?_)
        refine ev_iconst dX8_placeBehind_69 ?_
        refine ev_gt 75 dX8_placeBehind_70 ?_
        exact ev_iret dX8_placeBehind_75 (pb (2, o) (by rw [pB, if_neg (by decide), if_pos rfl, if_pos cl]) _ _ rfl KS.rf hR)
      · skip
        rw [if_neg cl]
        refine ev_ifeq 73 dX8_placeBehind_66 (fun hc => ?_) (fun h_no => (by exfalso; exact h_no rfl))
        refine ev_bipush dX8_placeBehind_73 ?_
        exact ev_iret dX8_placeBehind_75 (pb (6, o) (by rw [pB, if_neg (by decide), if_pos rfl, if_neg cl]) _ _ rfl KS.rf hR)
    · skip
      by_cases p2 : pl = 2
      · skip
        subst p2
        refine ev_tsI 76 (75) dX8_placeBehind_1 (by decide) (by decide) rfl ?_
        refine ev_iload_n dX8_placeBehind_76 rfl ?_
        refine ev_bipush dX8_placeBehind_77 ?_
        by_cases c1 : c = 46
        · skip
          refine ev_icmpne 86 dX8_placeBehind_79 (fun h_no => (by exfalso; omega)) (fun hc => ?_)
          refine ev_iconst dX8_placeBehind_82 ?_
          refine ev_gt 88 dX8_placeBehind_83 ?_
          exact ev_iret dX8_placeBehind_88 (pb (0, o) (by rw [pB, if_neg (by decide), if_neg (by decide), if_pos rfl, if_pos c1]) _ _ rfl KS.rf hR)
        · skip
          refine ev_icmpne 86 dX8_placeBehind_79 (fun hc => ?_) (fun h_no => (by exfalso; omega))
          refine ev_bipush dX8_placeBehind_86 ?_
          exact ev_iret dX8_placeBehind_88 (pb (6, o) (by rw [pB, if_neg (by decide), if_neg (by decide), if_pos rfl, if_neg c1]) _ _ rfl KS.rf hR)
      · skip
        by_cases p3 : pl = 3
        · skip
          subst p3
          refine ev_tsI 89 (88) dX8_placeBehind_1 (by decide) (by decide) rfl ?_
          refine ev_iload_n dX8_placeBehind_89 rfl ?_
          refine ev_csi dX8_placeBehind_90 lX8_40 (s_isLetter) (by decide) rfl rfl (Nat.le_of_ble_eq_true rfl) rfl (fun r z1 q => ?_)
          obtain ⟨rfl, e⟩ := q
          rw [e]
          by_cases cl : 97 ≤ c ∧ c ≤ 122
          · skip
            rw [if_pos cl]
            refine ev_ifeq 100 dX8_placeBehind_93 (fun h_no => (by exfalso; exact absurd h_no (by decide))) (fun hc => ?_)
            refine ev_iconst dX8_placeBehind_96 ?_
            refine ev_gt 102 dX8_placeBehind_97 ?_
            exact ev_iret dX8_placeBehind_102 (pb (4, o) (by rw [pB, if_neg (by decide), if_neg (by decide), if_neg (by decide), if_pos rfl, if_pos cl]) _ _ rfl KS.rf hR)
          · skip
            rw [if_neg cl]
            refine ev_ifeq 100 dX8_placeBehind_93 (fun hc => ?_) (fun h_no => (by exfalso; exact h_no rfl))
            refine ev_bipush dX8_placeBehind_100 ?_
            exact ev_iret dX8_placeBehind_102 (pb (6, o) (by rw [pB, if_neg (by decide), if_neg (by decide), if_neg (by decide), if_pos rfl, if_neg cl]) _ _ rfl KS.rf hR)
        · skip
          by_cases p4 : pl = 4
          · skip
            subst p4
            refine ev_tsI 103 (102) dX8_placeBehind_1 (by decide) (by decide) rfl ?_
            refine ev_iload_n dX8_placeBehind_103 rfl ?_
            refine ev_bipush dX8_placeBehind_104 ?_
            by_cases c1 : c = 61
            · skip
              refine ev_icmpne 118 dX8_placeBehind_106 (fun h_no => (by exfalso; omega)) (fun hc => ?_)
              refine ev_aload_n dX8_placeBehind_109 rfl ?_
              refine ev_bipush dX8_placeBehind_110 ?_
              refine ev_cvi dX8_placeBehind_112 lX8_44 (s_placeIn hR ho) (by decide) hC.k5 hC.n5 rfl rfl rfl (Nat.le_of_ble_eq_true rfl) rfl (fun r h1 q => ?_)
              obtain ⟨rfl, q1, q2⟩ := q
              refine ev_gt 120 dX8_placeBehind_115 ?_
              exact ev_iret dX8_placeBehind_120 (pb (0, 61 :: o) (by rw [pB, if_neg (by decide), if_neg (by decide), if_neg (by decide), if_neg (by decide), if_pos rfl, if_pos c1]) _ _ rfl q1 q2)
            · skip
              refine ev_icmpne 118 dX8_placeBehind_106 (fun hc => ?_) (fun h_no => (by exfalso; omega))
              refine ev_bipush dX8_placeBehind_118 ?_
              exact ev_iret dX8_placeBehind_120 (pb (6, o) (by rw [pB, if_neg (by decide), if_neg (by decide), if_neg (by decide), if_neg (by decide), if_pos rfl, if_neg c1]) _ _ rfl KS.rf hR)
          · skip
            have p5 : pl = 5 := by omega
            subst p5
            refine ev_tsO 121 dX8_placeBehind_1 (by decide) ?_
            refine ev_iload_n dX8_placeBehind_121 rfl ?_
            refine ev_bipush dX8_placeBehind_122 ?_
            by_cases c1 : c = 41
            · skip
              refine ev_icmpne 137 dX8_placeBehind_124 (fun h_no => (by exfalso; omega)) (fun hc => ?_)
              refine ev_aload_n dX8_placeBehind_127 rfl ?_
              refine ev_bipush dX8_placeBehind_128 ?_
              refine ev_iconst dX8_placeBehind_130 ?_
              refine ev_cvi dX8_placeBehind_131 lX8_47 (s_placeOut hR (by decide)) (by decide) hC.k5 hC.n5 rfl rfl rfl (Nat.le_of_ble_eq_true rfl) rfl (fun r h1 q => ?_)
              obtain ⟨rfl, q1, q2⟩ := q
              refine ev_gt 158 dX8_placeBehind_134 ?_
              exact ev_iret dX8_placeBehind_158 (pb (pO o 40 5) (by rw [pB, if_neg (by decide), if_neg (by decide), if_neg (by decide), if_neg (by decide), if_neg (by decide), if_pos c1]) _ _ rfl q1 q2)
            · skip
              refine ev_icmpne 137 dX8_placeBehind_124 (fun hc => ?_) (fun h_no => (by exfalso; omega))
              refine ev_iload_n dX8_placeBehind_137 rfl ?_
              refine ev_bipush dX8_placeBehind_138 ?_
              by_cases c2 : c = 59
              · skip
                refine ev_icmpne 153 dX8_placeBehind_140 (fun h_no => (by exfalso; omega)) (fun hc2 => ?_)
                refine ev_aload_n dX8_placeBehind_143 rfl ?_
                refine ev_bipush dX8_placeBehind_144 ?_
                refine ev_iconst dX8_placeBehind_146 ?_
                refine ev_cvi dX8_placeBehind_147 lX8_47 (s_placeOut hR (by decide)) (by decide) hC.k5 hC.n5 rfl rfl rfl (Nat.le_of_ble_eq_true rfl) rfl (fun r h1 q => ?_)
                obtain ⟨rfl, q1, q2⟩ := q
                refine ev_gt 158 dX8_placeBehind_150 ?_
                exact ev_iret dX8_placeBehind_158 (pb (pO o 61 0) (by rw [pB, if_neg (by decide), if_neg (by decide), if_neg (by decide), if_neg (by decide), if_neg (by decide), if_neg c1, if_pos c2]) _ _ rfl q1 q2)
              · skip
                refine ev_icmpne 153 dX8_placeBehind_140 (fun hc2 => ?_) (fun h_no => (by exfalso; omega))
                refine ev_aload_n dX8_placeBehind_153 rfl ?_
                refine ev_iload_n dX8_placeBehind_154 rfl ?_
                refine ev_cvi dX8_placeBehind_155 lX8_36 (s_placePart hR ho) (by decide) hC.k5 hC.n5 rfl rfl rfl (Nat.le_of_ble_eq_true rfl) rfl (fun r h1 q => ?_)
                obtain ⟨rfl, q1, q2⟩ := q
                exact ev_iret dX8_placeBehind_158 (pb (pP o c) (by rw [pB, if_neg (by decide), if_neg (by decide), if_neg (by decide), if_neg (by decide), if_neg (by decide), if_neg c1, if_neg c2]) _ _ rfl q1 q2)
theorem pB_rng {pl c : Int} {o : List Int} (hp : 0 ≤ pl ∧ pl ≤ 5) (h6 : (pB pl o c).1 ≠ 6) : (0 ≤ (pB pl o c).1 ∧ (pB pl o c).1 ≤ 5) ∧ (pB pl o c).2.length ≤ o.length + 1 := by
  have hP : ∀ q : Int × List Int, q = pP o c → q.1 ≠ 6 → (0 ≤ q.1 ∧ q.1 ≤ 5) ∧ q.2.length ≤ o.length + 1 := fun q e hq => by
    rw [pP] at e
    by_cases h1 : c = 40
    · rw [if_pos h1] at e; subst e; exact ⟨⟨Int.le_refl 0, by show (0 : Int) ≤ 5; decide⟩, by simp⟩
    · rw [if_neg h1] at e
      by_cases h2 : 0 ≤ lk c
      · rw [if_pos h2] at e; subst e; exact ⟨⟨by show (0 : Int) ≤ 5; decide, Int.le_refl 5⟩, by simp⟩
      · rw [if_neg h2] at e; subst e; exact absurd rfl hq
  have hO : ∀ (x p : Int) (q : Int × List Int), q = pO o x p → (0 ≤ p ∧ p ≤ 5) → q.1 ≠ 6 → (0 ≤ q.1 ∧ q.1 ≤ 5) ∧ q.2.length ≤ o.length + 1 := fun x p q e hp hq => by
    cases o with
    | nil => subst e; exact absurd rfl hq
    | cons y s =>
      rw [pO] at e
      by_cases h1 : y = x
      · rw [if_pos h1] at e; subst e; exact ⟨hp, by simp only [List.length_cons]; omega⟩
      · rw [if_neg h1] at e; subst e; exact absurd rfl hq
  have hF : ∀ (k : Int) (q : Int × List Int), q = (k, o) → (0 ≤ k ∧ k ≤ 6) → q.1 ≠ 6 → (0 ≤ q.1 ∧ q.1 ≤ 5) ∧ q.2.length ≤ o.length + 1 := fun k q e hk hq => by
    subst e
    have : k ≠ 6 := hq
    exact ⟨by show 0 ≤ k ∧ k ≤ 5; omega, by show o.length ≤ _; omega⟩
  obtain ⟨q, hq⟩ : ∃ q, q = pB pl o c := ⟨_, rfl⟩
  rw [← hq] at h6 ⊢
  rw [pB] at hq
  by_cases p0 : pl = 0
  · rw [if_pos p0] at hq
    by_cases c1 : c = 94
    · rw [if_pos c1] at hq; exact hF 1 q hq (by decide) h6
    · rw [if_neg c1] at hq
      by_cases c2 : c = 33
      · rw [if_pos c2] at hq; exact hF 3 q hq (by decide) h6
      · rw [if_neg c2] at hq; exact hP q hq h6
  · rw [if_neg p0] at hq
    by_cases p1 : pl = 1
    · rw [if_pos p1] at hq
      by_cases c1 : 97 ≤ c ∧ c ≤ 122
      · rw [if_pos c1] at hq; exact hF 2 q hq (by decide) h6
      · rw [if_neg c1] at hq; exact hF 6 q hq (by decide) h6
    · rw [if_neg p1] at hq
      by_cases p2 : pl = 2
      · rw [if_pos p2] at hq
        by_cases c1 : c = 46
        · rw [if_pos c1] at hq; exact hF 0 q hq (by decide) h6
        · rw [if_neg c1] at hq; exact hF 6 q hq (by decide) h6
      · rw [if_neg p2] at hq
        by_cases p3 : pl = 3
        · rw [if_pos p3] at hq
          by_cases c1 : 97 ≤ c ∧ c ≤ 122
          · rw [if_pos c1] at hq; exact hF 4 q hq (by decide) h6
          · rw [if_neg c1] at hq; exact hF 6 q hq (by decide) h6
        · rw [if_neg p3] at hq
          by_cases p4 : pl = 4
          · rw [if_pos p4] at hq
            by_cases c1 : c = 61
            · rw [if_pos c1] at hq; subst hq; exact ⟨⟨Int.le_refl 0, by show (0 : Int) ≤ 5; decide⟩, by simp⟩
            · rw [if_neg c1] at hq; exact hF 6 q hq (by decide) h6
          · rw [if_neg p4] at hq
            by_cases c1 : c = 41
            · rw [if_pos c1] at hq; exact hO 40 5 q hq (by decide) h6
            · rw [if_neg c1] at hq
              by_cases c2 : c = 59
              · rw [if_pos c2] at hq; exact hO 61 0 q hq (by decide) h6
              · rw [if_neg c2] at hq; exact hP q hq h6
/-- the letters of the input -/
def TXs (h : AH) (c : Nat → Int) (n : Nat) : Prop := (∃ b N, (b = 2 ∨ 94 ≤ b) ∧ SBI h 1 b N (n : Int) ∧ ∀ j, j < n → h.vl b j = c j) ∧ n ≤ 60 ∧ ∀ j, j < n → 0 ≤ c j ∧ c j ≤ 127
theorem TXs.ks {h h1 : AH} {c : Nat → Int} {n : Nat} (t : TXs h c n) (k : KS h h1 [6] [(5, 1)]) : TXs h1 c n := by
  obtain ⟨⟨b, N, hb, hs, hv⟩, hn, hc⟩ := t
  exact ⟨⟨b, N, hb, hs.ks k, fun j hj => (k.v (c := b) (by simp; omega) (by simp; omega)).trans (hv j hj)⟩, hn, hc⟩
set_option maxRecDepth 100000 in
theorem scan_loop {h0 : AH} {c : Nat → Int} {n : Nat} : ∀ (t i : Nat) (pl : Int) (o : List Int) (h : AH), i + t = n → KS h0 h [6] [(5, 1)] → TXs h c n → RdS h o → o.length ≤ i → (0 ≤ pl ∧ pl ≤ 5) → EV mX8_faultIn 6 9 [rv 5, rv 1, iv pl, iv (i : Int)] [] h (oi fun r h1 => r = fiF c n t i pl o ∧ KS h0 h1 [6] [(5, 1)] ∧ CI h1) := by
  intro t
  induction t with
  | zero =>
    intro i pl o h hi hk hT hR ho hp
    have hC := hR.1
    obtain ⟨⟨bb, N, hbb, hs, hv⟩, hn, hc⟩ := id hT
    refine ev_iload_n dX8_faultIn_9 rfl ?_
    refine ev_aload_n dX8_faultIn_10 rfl ?_
    refine ev_cvi dX8_faultIn_11 lX8_22 (s_J4len hs) (by decide) hC.k1 hC.n1 rfl rfl rfl (Nat.le_of_ble_eq_true rfl) rfl (fun r z1 q => ?_)
    obtain ⟨rfl, e⟩ := q
    rw [e]
    refine ev_icmpge 42 dX8_faultIn_14 (fun hc1 => ?_) (fun h_no => (by exfalso; omega))
    refine ev_iload_n dX8_faultIn_42 rfl ?_
    refine ev_iconst dX8_faultIn_43 ?_
    rw [fiF]
    by_cases p5 : pl = 5
    · skip
      refine ev_icmpne 58 dX8_faultIn_44 (fun h_no => (by exfalso; omega)) (fun hc2 => ?_)
      refine ev_aload_n dX8_faultIn_47 rfl ?_
      refine ev_getiv dX8_faultIn_48 fX8_18 hC.k5 hC.n5 rfl hR.2.1 ?_
      by_cases oe : o = []
      · skip
        have o0 : (o.length : Int) = 0 := by rw [oe]; rfl
        rw [o0]
        refine ev_ifne 58 dX8_faultIn_51 (fun h_no => (by exfalso; exact h_no rfl)) (fun hc3 => ?_)
        refine ev_iconst dX8_faultIn_54 ?_
        refine ev_gt 62 dX8_faultIn_55 ?_
        exact ev_iret dX8_faultIn_62 (⟨_, rfl, by rw [if_pos ⟨p5, oe⟩], hk, hC⟩)
      · skip
        have o0 : o.length ≠ 0 := fun z => oe (List.eq_nil_of_length_eq_zero z)
        refine ev_ifne 58 dX8_faultIn_51 (fun hc3 => ?_) (fun h_no => (by exfalso; omega))
        refine ev_aload_n dX8_faultIn_58 rfl ?_
        refine ev_cvi dX8_faultIn_59 lX8_22 (s_J4len hs) (by decide) hC.k1 hC.n1 rfl rfl rfl (Nat.le_of_ble_eq_true rfl) rfl (fun r z1 q => ?_)
        obtain ⟨rfl, e⟩ := q
        rw [e]
        exact ev_iret dX8_faultIn_62 (⟨_, rfl, by rw [if_neg (fun z => oe z.2)], hk, hC⟩)
    · skip
      refine ev_icmpne 58 dX8_faultIn_44 (fun hc2 => ?_) (fun h_no => (by exfalso; omega))
      refine ev_aload_n dX8_faultIn_58 rfl ?_
      refine ev_cvi dX8_faultIn_59 lX8_22 (s_J4len hs) (by decide) hC.k1 hC.n1 rfl rfl rfl (Nat.le_of_ble_eq_true rfl) rfl (fun r z1 q => ?_)
      obtain ⟨rfl, e⟩ := q
      rw [e]
      exact ev_iret dX8_faultIn_62 (⟨_, rfl, by rw [if_neg (fun z => p5 z.1)], hk, hC⟩)
  | succ t ih =>
    intro i pl o h hi hk hT hR ho hp
    have hC := hR.1
    obtain ⟨⟨bb, N, hbb, hs, hv⟩, hn, hc⟩ := id hT
    have g1 := hv i (by omega)
    obtain ⟨g2, g3⟩ := hc i (by omega)
    refine ev_iload_n dX8_faultIn_9 rfl ?_
    refine ev_aload_n dX8_faultIn_10 rfl ?_
    refine ev_cvi dX8_faultIn_11 lX8_22 (s_J4len hs) (by decide) hC.k1 hC.n1 rfl rfl rfl (Nat.le_of_ble_eq_true rfl) rfl (fun r z1 q => ?_)
    obtain ⟨rfl, e⟩ := q
    rw [e]
    refine ev_icmpge 42 dX8_faultIn_14 (fun h_no => (by exfalso; omega)) (fun hc1 => ?_)
    refine ev_aload_n dX8_faultIn_17 rfl ?_
    refine ev_iload_n dX8_faultIn_18 rfl ?_
    refine ev_aload_n dX8_faultIn_19 rfl ?_
    refine ev_iload_n dX8_faultIn_20 rfl ?_
    have e2 : ((i : Nat) : Int).toNat = i := rfl
    refine ev_cvi dX8_faultIn_21 lX8_28 (s_charAt hs (by omega) (by omega) (by rw [e2, g1]; exact g2) (by rw [e2, g1]; exact g3)) (by decide) hC.k1 hC.n1 rfl rfl rfl (Nat.le_of_ble_eq_true rfl) rfl (fun r z1 q => ?_)
    obtain ⟨rfl, e⟩ := q
    rw [e, e2, g1]
    refine ev_cvi dX8_faultIn_24 lX8_32 (s_placeB hR (by omega) hp) (by decide) hC.k5 hC.n5 rfl rfl rfl (Nat.le_of_ble_eq_true rfl) rfl (fun r h1 q => ?_)
    obtain ⟨rfl, k1, R1⟩ := q
    refine ev_ist2 dX8_faultIn_27 ?_
    refine ev_iload_n dX8_faultIn_28 rfl ?_
    refine ev_bipush dX8_faultIn_29 ?_
    rw [fiF]
    by_cases h6 : (pB pl o (c i)).1 = 6
    · skip
      refine ev_icmpne 36 dX8_faultIn_31 (fun h_no => (by exfalso; omega)) (fun hc2 => ?_)
      refine ev_iload_n dX8_faultIn_34 rfl ?_
      exact ev_iret dX8_faultIn_35 (⟨_, rfl, by rw [if_pos h6], hk.tr k1, R1.1⟩)
    · skip
      refine ev_icmpne 36 dX8_faultIn_31 (fun hc2 => ?_) (fun h_no => (by exfalso; omega))
      refine ev_iin3 dX8_faultIn_36 (by unfold ir; omega) ?_
      refine ev_gt 9 dX8_faultIn_39 ?_
      obtain ⟨r1, r2⟩ := pB_rng (c := c i) (o := o) hp h6
      rw [if_neg h6, show (i : Int) + 1 = ((i + 1 : Nat) : Int) from rfl]
      exact ih (i + 1) _ _ h1 (by omega) (hk.tr k1) (hT.ks k1) R1 (by omega) r1
set_option maxRecDepth 100000 in
theorem s_faultIn {c : Nat → Int} {n : Nat} {h : AH} (hC : CI h) (hT : TXs h c n) : CV mX8_faultIn 6 [rv 5, rv 1] h (oi fun r h1 => r = (rd c n).1 ∧ KS h h1 [6] [(5, 1)] ∧ CI h1) := by
  refine cv_of cdX8_faultIn ?_
  show EV _ _ 0 [rv 5, rv 1, uv, uv] [] h _
  rw [← fi_eq (fun j hj => (hT.2.2 j hj).1)]
  have k1 : KS h (h.put 5 1 0) [6] [(5, 1)] := KS.rf.pf (by decide)
  refine ev_aload_n dX8_faultIn_0 rfl ?_
  refine ev_iconst dX8_faultIn_1 ?_
  refine ev_pt dX8_faultIn_2 fX8_18 hC.k5 hC.n5 rfl ?_
  refine ev_iconst dX8_faultIn_5 ?_
  refine ev_ist2 dX8_faultIn_6 ?_
  refine ev_iconst dX8_faultIn_7 ?_
  refine ev_ist3 dX8_faultIn_8 ?_
  exact scan_loop n 0 0 [] _ (by omega) k1 (hT.ks k1) ⟨hC.ks k1, rfl, trivial, by decide⟩ (Nat.le_refl _) (by decide)
