/-! a type is spelled: the class -/
theorem ixN_app {x : Nat} : ∀ {p l : List Nat}, x ∉ p → ixN x (p ++ l) = p.length + ixN x l
  | [], l, _ => by rw [List.nil_append, List.length_nil, Nat.zero_add]
  | y :: p, l, h => by
    have h2 : x ≠ y ∧ x ∉ p := ⟨fun e => h (by rw [e]; exact List.mem_cons_self), fun m => h (List.mem_cons_of_mem _ m)⟩
    rw [List.cons_append, ixN, if_neg h2.1, ixN_app h2.2, List.length_cons]; omega
/-- a tree as a row; the variables of al are left alone, the others numbered as they come -/
def cnA (al : Nat → Bool) : TE → List Nat → List Int × List Nat
  | .var x, s => if x < 2 then ([(x : Int)], s) else if al x = true then ([1000 + ((x - 2 : Nat) : Int)], s) else if x ∈ s then ([3 + (ixN x s : Int)], s) else ([3 + (s.length : Int)], s ++ [x])
  | .op a b, s => (2 :: ((cnA al a s).1 ++ (cnA al b (cnA al a s).2).1), (cnA al b (cnA al a s).2).2)
theorem cnA_len {al : Nat → Bool} : ∀ (t : TE) (s : List Nat), (cnA al t s).1.length = sz t
  | .var x, s => by
    rw [cnA]
    split
    · rfl
    · split
      · rfl
      · split <;> rfl
  | .op a b, s => by
    rw [cnA]
    show (2 :: ((cnA al a s).1 ++ (cnA al b (cnA al a s).2).1)).length = _
    rw [List.length_cons, List.length_append, cnA_len a, cnA_len b]
    simp only [sz]
    omega
theorem cnA_le {al : Nat → Bool} : ∀ (t : TE) (s : List Nat), (cnA al t s).2.length ≤ s.length + sz t
  | .var x, s => by
    rw [cnA]
    simp only [sz]
    split
    · show s.length ≤ _; omega
    · split
      · show s.length ≤ _; omega
      · split
        · show s.length ≤ _; omega
        · show (s ++ [x]).length ≤ _; rw [List.length_append]; show s.length + 1 ≤ _; omega
  | .op a b, s => by
    rw [cnA]
    show (cnA al b (cnA al a s).2).2.length ≤ _
    have h1 := cnA_le (al := al) a s
    have h2 := cnA_le (al := al) b (cnA al a s).2
    simp only [sz]
    omega
theorem cnA_cn : ∀ (t : TE) (s : List Nat), cnA (fun _ => false) t s = cnT t s
  | .var x, s => by
    rw [cnA, cnT]
    by_cases c : x < 2
    · rw [if_pos c, if_pos c]
    · rw [if_neg c, if_neg c, if_neg Bool.noConfusion]
  | .op a b, s => by
    rw [cnA, cnT, cnA_cn a, cnA_cn b]
def NumS (h : AH) (a : Nat → Nat) (s : List Nat) : Prop := ∀ i (hi : i < s.length), h.vl (a 12) i + 2 = (s[i] : Int)
theorem YA.k12 {h : AH} {a K : Nat → Nat} (g : YA h a K) : K 12 = 200 ∧ a 12 = 18 := by
  have e : a 12 = 18 := by have := g.v 12; have := g.1.v9_12; omega
  have k := g.k 12
  rw [e, g.1.k18] at k
  exact ⟨(congrArg Prod.snd k).symm, e⟩
section NumO
variable {h : AH} {a K : Nat → Nat} {s : List Nat} {c : Nat}
set_option maxRecDepth 100000 in
theorem no_loop (g : YA h a K) (hs : NumS h a s) (hl : s.length < 200) (hc : c < 400000) : ∀ (l p : List Nat), s = p ++ l → c + 2 ∉ p → EV mX9_numberOf 2 2 [rv 9, iv (c : Int), iv (s.length : Int), iv (p.length : Int)] [] h (oi fun r h1 => (c + 2 ∈ s ∧ r = (ixN (c + 2) s : Int) ∧ h1 = h) ∨ (c + 2 ∉ s ∧ r = (s.length : Int) ∧ YC h a K h1 a K [12] [] ∧ NumS h1 a (s ++ [c + 2])))
  | [], p, e, hp => by
    rw [List.append_nil] at e
    subst e
    have v12 := g.v 12
    have n12 := g.n 12
    have k12 := g.k12.1
    refine ev_iload_n dX9_numberOf_2 rfl ?_
    refine ev_iload_n dX9_numberOf_3 rfl ?_
    refine ev_icmpge 27 dX9_numberOf_4 (fun hb => ?_) (fun h_no => (by exfalso; omega))
    refine ev_aload_n dX9_numberOf_27 rfl ?_
    refine ev_getrv dX9_numberOf_28 fX9_36 g.1.k9 g.1.n9 rfl v12 ?_
    refine ev_iload_n dX9_numberOf_31 rfl ?_
    refine ev_iload_n dX9_numberOf_32 rfl ?_
    refine ev_csv dX9_numberOf_33 lX9_59 (s_putJ (g.k 12) n12 (g.r 12).2) (by decide) rfl rfl (Nat.le_of_ble_eq_true rfl) rfl (fun h1 q => ?_)
    rw [if_pos (by omega), show ((s.length : Nat) : Int).toNat = s.length from rfl] at q
    have c1 : YC h a K h1 a K [12] [] := by rw [q]; exact g.pw (by decide)
    refine ev_iload_n dX9_numberOf_36 rfl ?_
    refine ev_iret dX9_numberOf_37 (⟨_, rfl, Or.inr ⟨hp, rfl, c1, fun i hi => ?_⟩⟩)
    rw [List.length_append] at hi
    have hi : i < s.length + 1 := hi
    rw [q, AH.put_vl]
    by_cases z : i = s.length
    · subst z
      rw [if_pos ⟨rfl, rfl⟩, List.getElem_append_right (Nat.le_refl _)]
      simp
    · rw [if_neg (fun y => z y.2), List.getElem_append_left (by omega)]
      exact hs i (by omega)
  | y :: l, p, e, hp => by
    have v12 := g.v 12
    have n12 := g.n 12
    have k12 := g.k12.1
    have hpl : p.length < s.length := by rw [e, List.length_append, List.length_cons]; omega
    have hy : h.vl (a 12) p.length + 2 = (y : Int) := by
      rw [hs p.length hpl]
      simp [e]
    obtain ⟨z, hz⟩ : ∃ z, h.vl (a 12) p.length = z := ⟨_, rfl⟩
    rw [hz] at hy
    refine ev_iload_n dX9_numberOf_2 rfl ?_
    refine ev_iload_n dX9_numberOf_3 rfl ?_
    refine ev_icmpge 27 dX9_numberOf_4 (fun h_no => (by exfalso; omega)) (fun hb => ?_)
    refine ev_aload_n dX9_numberOf_7 rfl ?_
    refine ev_getrv dX9_numberOf_8 fX9_36 g.1.k9 g.1.n9 rfl v12 ?_
    refine ev_iload_n dX9_numberOf_11 rfl ?_
    refine ev_csi dX9_numberOf_12 lX9_63 (s_atJ (g.k 12) n12 (g.r 12).2) (by decide) rfl rfl (Nat.le_of_ble_eq_true rfl) rfl (fun r q q2 => ?_)
    obtain ⟨rfl, eq⟩ := q2
    rw [eq, if_pos (by omega), show ((p.length : Nat) : Int).toNat = p.length from rfl, hz]
    refine ev_iload_n dX9_numberOf_15 rfl ?_
    by_cases d : z = (c : Int)
    · skip
      have hyc : y = c + 2 := by omega
      refine ev_icmpne 21 dX9_numberOf_16 (fun h_no => (by exfalso; omega)) (fun hb2 => ?_)
      refine ev_iload_n dX9_numberOf_19 rfl ?_
      refine ev_iret dX9_numberOf_20 (⟨_, rfl, Or.inl ⟨?_, ?_, rfl⟩⟩)
      · rw [e, hyc]; exact List.mem_append_right _ List.mem_cons_self
      · rw [e, ixN_app hp, ixN, if_pos hyc.symm]; omega
    refine ev_icmpne 21 dX9_numberOf_16 (fun hb2 => ?_) (fun h_no => (by exfalso; omega))
    refine ev_iin3 dX9_numberOf_21 (by unfold ir; omega) ?_
    refine ev_gt 2 dX9_numberOf_24 ?_
    rw [show (p.length : Int) + 1 = ((p ++ [y]).length : Int) by rw [List.length_append]; rfl]
    refine no_loop g hs hl hc l (p ++ [y]) (by rw [e]; simp) (fun hm => ?_)
    rcases List.mem_append.mp hm with hm | hm
    · exact hp hm
    · have := List.mem_singleton.mp hm; omega
set_option maxRecDepth 100000 in
theorem s_numberOf (g : YA h a K) (hs : NumS h a s) (hl : s.length < 200) (hc : c < 400000) : CV mX9_numberOf 2 [rv 9, iv (c : Int), iv (s.length : Int)] h (oi fun r h1 => (c + 2 ∈ s ∧ r = (ixN (c + 2) s : Int) ∧ h1 = h) ∨ (c + 2 ∉ s ∧ r = (s.length : Int) ∧ YC h a K h1 a K [12] [] ∧ NumS h1 a (s ++ [c + 2]))) := by
  refine cv_of cdX9_numberOf ?_
  show EV _ _ 0 [rv 9, iv (c : Int), iv (s.length : Int), uv] [] h _
  refine ev_iconst dX9_numberOf_0 ?_
  refine ev_ist3 dX9_numberOf_1 ?_
  exact no_loop g hs hl hc s [] rfl List.not_mem_nil
end NumO
theorem NumS.x {h h1 : AH} {a K a1 K1 : Nat → Nat} {D F : List Nat} {X : Nat → Prop} {e : Nat} {s : List Nat} (n : NumS h a s) (c : YX h a K h1 a1 K1 D F X e) (hD : 12 ∉ D := by decide) : NumS h1 a1 s := by
  obtain ⟨e1, e2⟩ := c.2.2.1 12 (by decide) hD
  unfold NumS
  rw [e1, e2]
  exact n
abbrev SpX (s b : Nat) : Nat → Prop := fun y => y = s ∨ y = b
set_option maxRecDepth 100000 in
theorem sp_walk {N T sh b R : Nat} {al : Int} {rr : Nat → Nat} {tr : Nat → TE} {am : Nat → Bool} {h0 : AH} {a0 K0 : Nat → Nat} {Q : AV → AH → Prop} (hN : N ≤ 61000) (b0 : YB h0 K0 N) (w0 : YW h0 a0 N rr tr) (hal : ∀ c, c < N → soY (h0.vl (a0 0)) c = 3 → rr c = c → (h0.vl (a0 3) c = al ↔ am (c + 2) = true)) (hR : 200 ≤ R) :
    ∀ (t : TE) (x : Nat) (st : List Nat) (r : List Int) (s : List Nat) (k : Nat) (v6 v7 v8 : AV) (h : AH) (a K : Nat → Nat), tr x = t → x < N → YX h0 a0 K0 h a K [10, 12] [11] (SpX sh b) 0 → (∀ k, k ≠ 10 → K k = K0 k) → YTr h a K (x :: st) → ShW h a sh b R r → NumS h a s → k + sz t ≤ 200 → r.length = k → s.length ≤ k → st.length ≤ k →
    (∀ (h1 : AH) (a1 K1 : Nat → Nat) (v6 v7 v8 : AV), YX h0 a0 K0 h1 a1 K1 [10, 12] [11] (SpX sh b) 0 → (∀ k, k ≠ 10 → K1 k = K0 k) → YTr h1 a1 K1 st → ShW h1 a1 sh b R (r ++ (cnA am t s).1) → NumS h1 a1 (cnA am t s).2 → EV mX9_spell 5 21 [rv 9, iv (T : Int), rv (sh : Int), iv al, iv ((cnA am t s).2.length : Int), iv ((k + sz t : Nat) : Int), v6, v7, v8] [] h1 Q) →
    EV mX9_spell 5 21 [rv 9, iv (T : Int), rv (sh : Int), iv al, iv (s.length : Int), iv (k : Int), v6, v7, v8] [] h Q := by
  intro t
  induction t with
  | var v =>
    intro x st r s k v6 v7 v8 h a K ht0 hx c hK tS w nS hk hr hs hst kk
    simp only [sz] at hk kk
    have g := c.1
    have B := b0.x c (fun k hk => hK k (by omega))
    have W := w0.x c
    obtain ⟨q1, q2, q3, q4, q5⟩ := W.nd hx
    have t1 := tS.1
    have e0 := c.rw' 0
    have e3 := c.rw' 3
    refine ev_iload dX9_spell_21 rfl ?_
    refine ev_sipush dX9_spell_23 ?_
    refine ev_icmpge 162 dX9_spell_26 (fun h_no => (by exfalso; omega)) (fun hb => ?_)
    refine ev_aload_n dX9_spell_29 rfl ?_
    refine ev_getiv dX9_spell_30 fX9_95 g.1.k9 g.1.n9 rfl t1 ?_
    refine ev_ifle 162 dX9_spell_33 (fun h_no => (by exfalso; simp only [List.length_cons] at h_no; omega)) (fun hb2 => ?_)
    refine ev_aload_n dX9_spell_36 rfl ?_
    refine ev_aload_n dX9_spell_37 rfl ?_
    refine ev_cvi dX9_spell_38 lX9_103 (s_takeTrail g tS) (by decide) g.1.k9 g.1.n9 rfl rfl rfl (Nat.le_of_ble_eq_true rfl) rfl (fun q h1 q9 => ?_)
    obtain ⟨rfl, c1, t2⟩ := q9
    have C1 := c.tr ((c1.x (X := SpX sh b)).wk (by decide) (by decide) (fun _ z => z) (Nat.le_refl _))
    have g1 := c1.1
    have b1 := B.mv c1 (fun _ _ => rfl)
    have w1 := W.mv c1
    have sw1 : ShW h1 a sh b R r := w.x (c1.x (X := fun _ => False)) ⟨fun z => z, fun z => z⟩
    have n1 := nS.x (c1.x (X := fun _ => False))
    have f0 := (c1.rw' 0).2
    have f3 := (c1.rw' 3).2
    have v3 := g1.v 3
    have n3 := g1.n 3
    have B0 := b1.2.2
    have B1 := b1.2.1
    refine ev_cvi dX9_spell_41 lX9_67 (s_known g1 b1 w1.1 hx) (by decide) g1.1.k9 g1.1.n9 rfl rfl rfl (Nat.le_of_ble_eq_true rfl) rfl (fun q z q9 => ?_)
    obtain ⟨rfl, eq⟩ := q9
    rw [eq]
    refine ev_ist6 dX9_spell_44 ?_
    refine ev_aload_n dX9_spell_46 rfl ?_
    refine ev_iload dX9_spell_47 rfl ?_
    refine ev_cvi dX9_spell_49 lX9_71 (s_kindY g1 b1 q1) (by decide) g1.1.k9 g1.1.n9 rfl rfl rfl (Nat.le_of_ble_eq_true rfl) rfl (fun q z q9 => ?_)
    obtain ⟨rfl, eq⟩ := q9
    rw [eq]
    have hk2 : ¬ soY (h1.vl (a 0)) (rr x) = 2 := fun z => by
      rw [f0] at z
      obtain ⟨f, o, -, -, -, -, f5⟩ := q4 z
      rw [ht0] at f5
      exact nomatch f5
    obtain ⟨kd, hkd⟩ : ∃ kd, soY (h1.vl (a 0)) (rr x) = kd := ⟨_, rfl⟩
    have kdr := soY_r (fr := h1.vl (a 0)) (t := rr x)
    have wt : tr x = lfc kd (rr x) := by
      obtain ⟨p1, p2, p3⟩ := w1.2 x hx
      rw [if_neg hk2, hkd] at p3
      exact p3
    rw [ht0] at wt
    rw [hkd] at hk2 kdr ⊢
    have fin : ∀ (h2 : AH) (e : Int) (s2 : List Nat) (v8 : AV), YX h0 a0 K0 h2 a K [10, 12] [11] (SpX sh b) 0 → YTr h2 a K st → ShW h2 a sh b R (r ++ [e]) → NumS h2 a s2 → cnA am (.var v) s = ([e], s2) → EV mX9_spell 5 124 [rv 9, iv (T : Int), rv (sh : Int), iv al, iv (s2.length : Int), iv (k : Int), iv (rr x : Int), iv kd, v8] [] h2 Q := by
      intro h2 e s2 v8 C2 t3 sw3 n3 hc
      have g2 := C2.1
      refine ev_iload dX9_spell_124 rfl ?_
      refine ev_iconst dX9_spell_126 ?_
      refine ev_icmpne 156 dX9_spell_127 (fun hb9 => ?_) (fun h_no => (by exfalso; omega))
      refine ev_iin5 dX9_spell_156 (by unfold ir; omega) ?_
      refine ev_gt 21 dX9_spell_159 ?_
      rw [show (k : Int) + 1 = ((k + 1 : Nat) : Int) by omega]
      have := kk h2 a K (iv (rr x : Int)) (iv kd) v8 C2 hK t3 (by rw [hc]; exact sw3) (by rw [hc]; exact n3)
      rw [hc] at this
      exact this
    refine ev_ist7 dX9_spell_52 ?_
    refine ev_iload dX9_spell_54 rfl ?_
    refine ev_iconst dX9_spell_56 ?_
    by_cases d3 : kd = 3
    · skip
      have hv : v = rr x + 2 := by
        rw [lfc, if_neg (by omega), if_neg (by omega)] at wt
        exact Lean.Data.AC.Expr.var.inj wt
      have hm3 := hal (rr x) q1 (by rw [← e0.2, ← e0.1, ← f0]; exact hkd.trans d3) q2
      rw [← e3.2, ← e3.1, ← f3] at hm3
      obtain ⟨mk, hmk⟩ : ∃ mk, h1.vl (a 3) (rr x) = mk := ⟨_, rfl⟩
      rw [hmk] at hm3
      refine ev_icmpeq 69 dX9_spell_57 (fun hb3 => ?_) (fun h_no => (by exfalso; omega))
      refine ev_aload_n dX9_spell_69 rfl ?_
      refine ev_getrv dX9_spell_70 fX9_21 g1.1.k9 g1.1.n9 rfl v3 ?_
      refine ev_iload dX9_spell_73 rfl ?_
      refine ev_csi dX9_spell_75 lX9_63 (s_atJ (g1.k 3) n3 (g1.r 3).2) (by decide) rfl rfl (Nat.le_of_ble_eq_true rfl) rfl (fun q z q9 => ?_)
      obtain ⟨rfl, eq⟩ := q9
      rw [eq, if_pos (by omega), show ((rr x : Nat) : Int).toNat = rr x from rfl, hmk]
      refine ev_iload_n dX9_spell_78 rfl ?_
      by_cases dm : mk = al
      · skip
        have ham := hm3.mp dm
        have hc : cnA am (.var v) s = ([1000 + ((rr x : Nat) : Int)], s) := by
          rw [cnA, hv, if_neg (by omega), if_pos ham, Nat.add_sub_cancel]
        refine ev_icmpne 95 dX9_spell_79 (fun h_no => (by exfalso; omega)) (fun hb4 => ?_)
        refine ev_aload_n dX9_spell_82 rfl ?_
        refine ev_sipush dX9_spell_83 ?_
        refine ev_iload dX9_spell_86 rfl ?_
        refine ev_iadd dX9_spell_88 (by unfold ir; omega) ?_
        refine ev_cvv dX9_spell_89 lX9_111 (s_shAdd g1 sw1 (by omega)) (by decide) sw1.1.1.1 sw1.1.1.2 rfl rfl rfl (Nat.le_of_ble_eq_true rfl) rfl (fun h2 q9 => ?_)
        obtain ⟨c2, sw2⟩ := q9
        refine ev_gt 124 dX9_spell_92 ?_
        exact fin h2 _ s _ (C1.tr (c2.wk (by decide) (by decide) (fun _ z => z) (Nat.le_refl _))) (t2.x c2 rfl) sw2 (n1.x c2) hc
      have ham : am (rr x + 2) ≠ true := fun z => dm (hm3.mpr z)
      refine ev_icmpne 95 dX9_spell_79 (fun hb4 => ?_) (fun h_no => (by exfalso; omega))
      refine ev_aload_n dX9_spell_95 rfl ?_
      refine ev_iload dX9_spell_96 rfl ?_
      refine ev_iload dX9_spell_98 rfl ?_
      refine ev_cvi dX9_spell_100 lX9_113 (s_numberOf (c := rr x) g1 n1 (by omega) (by omega)) (by decide) g1.1.k9 g1.1.n9 rfl rfl rfl (Nat.le_of_ble_eq_true rfl) rfl (fun q h2 q9 => ?_)
      -- the number is known
      have num : ∀ (h2 : AH) (i : Nat) (s2 : List Nat), YX h0 a0 K0 h2 a K [10, 12] [11] (SpX sh b) 0 → YTr h2 a K st → ShW h2 a sh b R r → NumS h2 a s2 → i ≤ s.length → (if (s.length : Int) < (i : Int) + 1 then (i : Int) + 1 else (s.length : Int)) = (s2.length : Int) → cnA am (.var v) s = ([3 + (i : Int)], s2) → EV mX9_spell 5 103 [rv 9, iv (T : Int), rv (sh : Int), iv al, iv (s.length : Int), iv (k : Int), iv (rr x : Int), iv kd, v8] [iv (i : Int)] h2 Q := by
        intro h2 i s2 C2 t3 sw3 n3' hi hs2 hc
        have g2 := C2.1
        refine ev_ist8 dX9_spell_103 ?_
        refine ev_iload dX9_spell_105 rfl ?_
        refine ev_iload dX9_spell_107 rfl ?_
        refine ev_iconst dX9_spell_109 ?_
        refine ev_iadd dX9_spell_110 (by unfold ir; omega) ?_
        refine ev_mmax dX9_spell_111 q_688 q_689 q_169 q_690 rfl ?_
        rw [hs2]
        refine ev_ist4 dX9_spell_114 ?_
        refine ev_aload_n dX9_spell_116 rfl ?_
        refine ev_iconst dX9_spell_117 ?_
        refine ev_iload dX9_spell_118 rfl ?_
        refine ev_iadd dX9_spell_120 (by unfold ir; omega) ?_
        refine ev_cvv dX9_spell_121 lX9_111 (s_shAdd g2 sw3 (by omega)) (by decide) sw3.1.1.1 sw3.1.1.2 rfl rfl rfl (Nat.le_of_ble_eq_true rfl) rfl (fun h3 q9 => ?_)
        obtain ⟨c3, sw4⟩ := q9
        exact fin h3 _ s2 _ (C2.tr (c3.wk (by decide) (by decide) (fun _ z => z) (Nat.le_refl _))) (t3.x c3 rfl) sw4 (n3'.x c3) hc
      rcases q9 with ⟨d1, rfl, rfl⟩ | ⟨d1, rfl, c2, nS2⟩
      · have := ix_lt d1
        refine num h2 _ s C1 t2 sw1 n1 (by omega) (by rw [if_neg (by omega)]) ?_
        rw [cnA, hv, if_neg (by omega), if_neg ham, if_pos d1]
      · refine num h2 _ _ (C1.tr ((c2.x (X := SpX sh b)).wk (by decide) (by decide) (fun _ z => z) (Nat.le_refl _))) (t2.mv c2 rfl) (sw1.x (c2.x (X := fun _ => False)) ⟨fun z => z, fun z => z⟩) nS2 (Nat.le_refl _) ?_ ?_
        · rw [if_pos (by omega), List.length_append]; rfl
        · rw [cnA, hv, if_neg (by omega), if_neg ham, if_neg d1]
    have hv : v < 2 ∧ (v : Int) = kd := by
      rw [lfc] at wt
      by_cases k0 : kd = 0
      · rw [if_pos k0] at wt
        have := Lean.Data.AC.Expr.var.inj wt
        omega
      · rw [if_neg k0, if_pos (by omega)] at wt
        have := Lean.Data.AC.Expr.var.inj wt
        omega
    refine ev_icmpeq 69 dX9_spell_57 (fun h_no => (by exfalso; omega)) (fun hb3 => ?_)
    refine ev_aload_n dX9_spell_60 rfl ?_
    refine ev_iload dX9_spell_61 rfl ?_
    refine ev_cvv dX9_spell_63 lX9_111 (s_shAdd g1 sw1 (by omega)) (by decide) sw1.1.1.1 sw1.1.1.2 rfl rfl rfl (Nat.le_of_ble_eq_true rfl) rfl (fun h2 q9 => ?_)
    obtain ⟨c2, sw2⟩ := q9
    refine ev_gt 124 dX9_spell_66 ?_
    refine fin h2 _ s _ (C1.tr (c2.wk (by decide) (by decide) (fun _ z => z) (Nat.le_refl _))) (t2.x c2 rfl) sw2 (n1.x c2) ?_
    rw [cnA, if_pos hv.1, hv.2]
  | op A Bt ihA ihB =>
    intro x st r s k v6 v7 v8 h a K ht0 hx c hK tS w nS hk hr hs hst kk
    simp only [sz] at hk kk
    have sA := sz_pos A
    have sB := sz_pos Bt
    have g := c.1
    have B := b0.x c (fun k hk => hK k (by omega))
    have W := w0.x c
    obtain ⟨q1, q2, q3, q4, q5⟩ := W.nd hx
    have t1 := tS.1
    refine ev_iload dX9_spell_21 rfl ?_
    refine ev_sipush dX9_spell_23 ?_
    refine ev_icmpge 162 dX9_spell_26 (fun h_no => (by exfalso; omega)) (fun hb => ?_)
    refine ev_aload_n dX9_spell_29 rfl ?_
    refine ev_getiv dX9_spell_30 fX9_95 g.1.k9 g.1.n9 rfl t1 ?_
    refine ev_ifle 162 dX9_spell_33 (fun h_no => (by exfalso; simp only [List.length_cons] at h_no; omega)) (fun hb2 => ?_)
    refine ev_aload_n dX9_spell_36 rfl ?_
    refine ev_aload_n dX9_spell_37 rfl ?_
    refine ev_cvi dX9_spell_38 lX9_103 (s_takeTrail g tS) (by decide) g.1.k9 g.1.n9 rfl rfl rfl (Nat.le_of_ble_eq_true rfl) rfl (fun q h1 q9 => ?_)
    obtain ⟨rfl, c1, t2⟩ := q9
    have C1 := c.tr ((c1.x (X := SpX sh b)).wk (by decide) (by decide) (fun _ z => z) (Nat.le_refl _))
    have g1 := c1.1
    have b1 := B.mv c1 (fun _ _ => rfl)
    have w1 := W.mv c1
    have sw1 : ShW h1 a sh b R r := w.x (c1.x (X := fun _ => False)) ⟨fun z => z, fun z => z⟩
    have n1 := nS.x (c1.x (X := fun _ => False))
    have f0 := (c1.rw' 0).2
    have f1 := (c1.rw' 1).2
    have B0 := b1.2.2
    have B1 := b1.2.1
    refine ev_cvi dX9_spell_41 lX9_67 (s_known g1 b1 w1.1 hx) (by decide) g1.1.k9 g1.1.n9 rfl rfl rfl (Nat.le_of_ble_eq_true rfl) rfl (fun q z q9 => ?_)
    obtain ⟨rfl, eq⟩ := q9
    rw [eq]
    refine ev_ist6 dX9_spell_44 ?_
    refine ev_aload_n dX9_spell_46 rfl ?_
    refine ev_iload dX9_spell_47 rfl ?_
    refine ev_cvi dX9_spell_49 lX9_71 (s_kindY g1 b1 q1) (by decide) g1.1.k9 g1.1.n9 rfl rfl rfl (Nat.le_of_ble_eq_true rfl) rfl (fun q z q9 => ?_)
    obtain ⟨rfl, eq⟩ := q9
    have k2 : soY (h1.vl (a 0)) (rr x) = 2 := Decidable.byContradiction fun z => by
      rw [f0] at z
      obtain ⟨v, hv⟩ := q5 z
      rw [ht0] at hv
      exact nomatch hv
    rw [eq, k2]
    refine ev_ist7 dX9_spell_52 ?_
    refine ev_iload dX9_spell_54 rfl ?_
    refine ev_iconst dX9_spell_56 ?_
    refine ev_icmpeq 69 dX9_spell_57 (fun h_no => (by exfalso; omega)) (fun hb3 => ?_)
    refine ev_aload_n dX9_spell_60 rfl ?_
    refine ev_iload dX9_spell_61 rfl ?_
    refine ev_cvv dX9_spell_63 lX9_111 (s_shAdd g1 sw1 (by omega)) (by decide) sw1.1.1.1 sw1.1.1.2 rfl rfl rfl (Nat.le_of_ble_eq_true rfl) rfl (fun h2 q9 => ?_)
    obtain ⟨c2, sw2⟩ := q9
    have C2 := C1.tr (c2.wk (by decide) (by decide) (fun _ z => z) (Nat.le_refl _))
    have g2 := c2.1
    have t3 := t2.x c2 rfl
    have n2 := n1.x c2
    have b2 := b1.x c2 (fun _ _ => rfl)
    obtain ⟨f, o, p1, p2, p3, p4, p5⟩ := q4 (by rw [← f0]; exact k2)
    rw [ht0] at p5
    have eA := (Lean.Data.AC.Expr.op.inj p5).1
    have eB := (Lean.Data.AC.Expr.op.inj p5).2
    rw [← f0, ← (c2.rw' 0).2] at p1
    rw [← f1, ← (c2.rw' 1).2] at p2
    have v1 := g2.v 1
    have n1' := g2.n 1
    refine ev_gt 124 dX9_spell_66 ?_
    refine ev_iload dX9_spell_124 rfl ?_
    refine ev_iconst dX9_spell_126 ?_
    refine ev_icmpne 156 dX9_spell_127 (fun h_no => (by exfalso; omega)) (fun hb4 => ?_)
    refine ev_aload_n dX9_spell_130 rfl ?_
    refine ev_aload_n dX9_spell_131 rfl ?_
    refine ev_getrv dX9_spell_132 fX9_15 g2.1.k9 g2.1.n9 rfl v1 ?_
    refine ev_iload dX9_spell_135 rfl ?_
    refine ev_csi dX9_spell_137 lX9_63 (s_atJ (g2.k 1) n1' (g2.r 1).2) (by decide) rfl rfl (Nat.le_of_ble_eq_true rfl) rfl (fun q z q9 => ?_)
    obtain ⟨rfl, eq⟩ := q9
    rw [eq, if_pos (by omega), show ((rr x : Nat) : Int).toNat = rr x from rfl, p2]
    refine ev_cvv dX9_spell_140 lX9_98 (s_addTrail g2 t3 (by omega)) (by decide) g2.1.k9 g2.1.n9 rfl rfl rfl (Nat.le_of_ble_eq_true rfl) rfl (fun h3 q9 => ?_)
    obtain ⟨a3, K3, c3, t4, hK3⟩ := q9
    have g3 := c3.1
    have v0 := g3.v 0
    have n0 := g3.n 0
    have p1' : h3.vl (a3 0) (rr x) = (f : Int) := by rw [(c3.rw' 0).1, (c3.rw' 0).2]; exact p1
    have K30 := hK3 0 (by decide)
    refine ev_aload_n dX9_spell_143 rfl ?_
    refine ev_aload_n dX9_spell_144 rfl ?_
    refine ev_getrv dX9_spell_145 fX9_9 g3.1.k9 g3.1.n9 rfl v0 ?_
    refine ev_iload dX9_spell_148 rfl ?_
    refine ev_csi dX9_spell_150 lX9_63 (s_atJ (g3.k 0) n0 (g3.r 0).2) (by decide) rfl rfl (Nat.le_of_ble_eq_true rfl) rfl (fun q z q9 => ?_)
    obtain ⟨rfl, eq⟩ := q9
    rw [eq, if_pos (by omega), show ((rr x : Nat) : Int).toNat = rr x from rfl, p1']
    refine ev_cvv dX9_spell_153 lX9_98 (s_addTrail g3 t4 (by rw [List.length_cons]; omega)) (by decide) g3.1.k9 g3.1.n9 rfl rfl rfl (Nat.le_of_ble_eq_true rfl) rfl (fun h4 q9 => ?_)
    obtain ⟨a4, K4, c4, t5, hK4⟩ := q9
    have c34 : YC h2 a K h4 a4 K4 [10] [11] := c3.tr c4
    have C4 := C2.tr ((c34.x (X := SpX sh b)).wk (by decide) (by decide) (fun _ z => z) (Nat.le_refl _))
    refine ev_iin5 dX9_spell_156 (by unfold ir; omega) ?_
    refine ev_gt 21 dX9_spell_159 ?_
    rw [show (k : Int) + 1 = ((k + 1 : Nat) : Int) by omega]
    refine ihA f (o :: st) (r ++ [2]) s (k + 1) _ _ _ h4 a4 K4 eA.symm p3 C4 (fun j hj => by rw [hK4 j hj, hK3 j hj]; exact hK j hj) t5 (sw2.x (c34.x (X := fun _ => False)) ⟨fun z => z, fun z => z⟩) (n2.x (c34.x (X := fun _ => False))) (by omega) (by rw [List.length_append]; show r.length + 1 = _; omega) (by omega) (by rw [List.length_cons]; omega) fun h5 a5 K5 w6 w7 w8 C5 hK5 t6 sw5 n5 => ?_
    have l5 := cnA_le (al := am) A s
    have l6 := cnA_len (al := am) A s
    refine ihB o st _ _ (k + 1 + sz A) _ _ _ h5 a5 K5 eB.symm p4 C5 hK5 t6 sw5 n5 (by omega) (by rw [List.length_append, List.length_append, l6]; show r.length + 1 + sz A = _; omega) (by omega) (by omega) fun h6 a6 K6 w6 w7 w8 C6 hK6 t7 sw6 n6 => ?_
    rw [show k + 1 + sz A + sz Bt = k + (1 + sz A + sz Bt) by omega]
    refine kk h6 a6 K6 _ _ _ C6 hK6 t7 ?_ n6
    rw [show r ++ (cnA am (.op A Bt) s).1 = r ++ [2] ++ (cnA am A s).1 ++ (cnA am Bt (cnA am A s).2).1 by rw [cnA]; simp]
    exact sw6
/-- the cells of a shape, whatever stands in it -/
def ShC (h : AH) (a : Nat → Nat) (s b R : Nat) : Prop := (h.kd s = (5, 2) ∧ h.vl s 0 = (b : Int) ∧ h.kd b = (100, R) ∧ R ≤ 100000) ∧ (YNo h a s ∧ YNo h a b ∧ s ≠ b) ∧ (s, 1) ∉ CIs ∧ ∀ i, (b, i) ∉ CIs
theorem ShC.x {h h1 : AH} {a K a1 K1 : Nat → Nat} {D F : List Nat} {X : Nat → Prop} {e s b R : Nat} (w : ShC h a s b R) (c : YX h a K h1 a1 K1 D F X e) (hX : ¬ X s) : ShC h1 a1 s b R := by
  obtain ⟨⟨g1, g3, g4, g8⟩, ⟨n1, n2, n3⟩, n4⟩ := w
  exact ⟨⟨by rw [c.k n1]; exact g1, by rw [c.v n1 hX]; exact g3, by rw [c.k n2]; exact g4, g8⟩, ⟨n1.x c, n2.x c, n3⟩, n4⟩
theorem ShW.c {h : AH} {a : Nat → Nat} {s b R : Nat} {r : List Int} (w : ShW h a s b R r) : ShC h a s b R := ⟨⟨w.1.1.1, w.1.2.1.1, w.1.2.1.2.1, w.1.2.2.2.2⟩, w.2.1, w.2.2.1⟩
set_option maxRecDepth 100000 in
theorem s_spell {h : AH} {a K : Nat → Nat} {N t sh b R : Nat} {al : Int} {rr : Nat → Nat} {tr : Nat → TE} {am : Nat → Bool} (g : YA h a K) (B : YB h K N) (w : YW h a N rr tr) (hN : N ≤ 61000) (ht0 : t < N) (hsz : sz (tr t) ≤ 200) (hs : ShC h a sh b R) (hR : 200 ≤ R) (hal : ∀ c, c < N → soY (h.vl (a 0)) c = 3 → rr c = c → (h.vl (a 3) c = al ↔ am (c + 2) = true)) :
    CV mX9_spell 5 [rv 9, iv (t : Int), rv (sh : Int), iv al] h (on fun h1 => ∃ a1 K1, YX h a K h1 a1 K1 [10, 12] [11] (SpX sh b) 0 ∧ (∀ k, k ≠ 10 → K1 k = K k) ∧ ShW h1 a1 sh b R (cnA am (tr t) []).1) := by
  obtain ⟨⟨g1, g3, g4, g8⟩, ⟨n1, n2, n3⟩, n4, n5⟩ := hs
  refine cv_of cdX9_spell ?_
  show EV _ _ 0 [rv 9, iv (t : Int), rv (sh : Int), iv al, uv, uv, uv, uv, uv] [] h _
  obtain ⟨h1, e1⟩ : ∃ h1, h1 = h.put sh 1 0 := ⟨_, rfl⟩
  have c1 : YX h a K h1 a K [] [] (fun y => y = sh) 0 := by rw [e1]; exact g.px n1 n4
  have y1 := c1.1
  obtain ⟨h2, e2⟩ : ∃ h2, h2 = h1.put 9 11 0 := ⟨_, rfl⟩
  have c2 : YC h1 a K h2 a K [] [11] := by rw [e2]; exact y1.pf (by decide)
  have y2 := c2.1
  have C2 : YX h a K h2 a K [10, 12] [11] (SpX sh b) 0 := (c1.wk (by decide) (by decide) (fun y z => Or.inl z) (Nat.le_refl _)).tr ((c2.x (X := SpX sh b)).wk (by decide) (by decide) (fun _ z => z) (Nat.le_refl _))
  have m1 := n1.x C2
  have m2 := n2.x C2
  have esh : h2.vl sh = h1.vl sh := by rw [e2]; exact put_ne _ (fun z => n1.2.1 z)
  have w2 : ShW h2 a sh b R [] := ⟨⟨⟨by rw [C2.k n1]; exact g1, m1.1⟩, ⟨by rw [esh, e1, AH.put_vl, if_neg (fun z => absurd z.2 (by decide))]; exact g3, by rw [C2.k n2]; exact g4, m2.1⟩, by rw [esh, e1, AH.put_vl, if_pos ⟨rfl, rfl⟩]; rfl, Nat.zero_le _, g8⟩, ⟨m1, m2, n3⟩, ⟨n4, n5⟩, fun i hi => absurd hi (Nat.not_lt_zero _)⟩
  have t2 : YTr h2 a K [] := ⟨by rw [e2]; rfl, trivial, Nat.zero_le _⟩
  refine ev_iconst dX9_spell_0 ?_
  refine ev_ist4 dX9_spell_1 ?_
  refine ev_aload_n dX9_spell_3 rfl ?_
  refine ev_iconst dX9_spell_4 ?_
  refine ev_pt dX9_spell_5 fX9_106 g1 n1.1 rfl ?_
  rw [← e1]
  refine ev_aload_n dX9_spell_8 rfl ?_
  refine ev_iconst dX9_spell_9 ?_
  refine ev_pt dX9_spell_10 fX9_95 y1.1.k9 y1.1.n9 rfl ?_
  rw [← e2]
  refine ev_aload_n dX9_spell_13 rfl ?_
  refine ev_iload_n dX9_spell_14 rfl ?_
  refine ev_cvv dX9_spell_15 lX9_98 (s_addTrail y2 t2 (by decide)) (by decide) y2.1.k9 y2.1.n9 rfl rfl rfl (Nat.le_of_ble_eq_true rfl) rfl (fun h3 q => ?_)
  obtain ⟨a3, K3, c3, t3, hK3⟩ := q
  refine ev_iconst dX9_spell_18 ?_
  refine ev_ist5 dX9_spell_19 ?_
  have C3 := C2.tr ((c3.x (X := SpX sh b)).wk (by decide) (by decide) (fun _ z => z) (Nat.le_refl _))
  refine sp_walk (T := t) hN B w hal hR (tr t) t [] [] [] 0 _ _ _ h3 a3 K3 rfl ht0 C3 hK3 t3 (w2.x (c3.x (X := fun _ => False)) ⟨fun z => z, fun z => z⟩) (fun i hi => absurd hi (Nat.not_lt_zero _)) (by omega) rfl (Nat.le_refl _) (Nat.le_refl _) fun h4 a4 K4 v6 v7 v8 C4 hK4 t4 w4 n4' => ?_
  have y4 := C4.1
  have u4 : h4.vl 9 11 = 0 := t4.1
  rw [Nat.zero_add]
  refine ev_iload dX9_spell_21 rfl ?_
  refine ev_sipush dX9_spell_23 ?_
  by_cases z : sz (tr t) = 200
  · skip
    refine ev_icmpge 162 dX9_spell_26 (fun hb => ?_) (fun h_no => (by exfalso; omega))
    exact ev_vret dX9_spell_162 (⟨rfl, a4, K4, C4, hK4, w4⟩)
  refine ev_icmpge 162 dX9_spell_26 (fun h_no => (by exfalso; omega)) (fun hb => ?_)
  refine ev_aload_n dX9_spell_29 rfl ?_
  refine ev_getiv dX9_spell_30 fX9_95 y4.1.k9 y4.1.n9 rfl u4 ?_
  refine ev_ifle 162 dX9_spell_33 (fun hb2 => ?_) (fun h_no => (by exfalso; omega))
  exact ev_vret dX9_spell_162 (⟨rfl, a4, K4, C4, hK4, w4⟩)
