/-! the next pair is made to fit: the class -/
abbrev MtD : List Nat := [2, 3, 6, 7, 8, 10]
abbrev MtF : List Nat := [5, 9, 11, 13, 14]
/-- rows that stay where they are -/
def YSt (a K a1 K1 : Nat → Nat) : Prop := (∀ k, k < 6 ∨ k = 12 → K1 k = K k) ∧ ∀ k, k ∈ tks → k < 6 ∨ k = 12 → a1 k = a k
theorem YSt.rf {a K : Nat → Nat} : YSt a K a K := ⟨fun _ _ => rfl, fun _ _ _ => rfl⟩
theorem YSt.tr {a K a1 K1 a2 K2 : Nat → Nat} (p : YSt a K a1 K1) (q : YSt a1 K1 a2 K2) : YSt a K a2 K2 := ⟨fun k hk => (q.1 k hk).trans (p.1 k hk), fun k h hk => (q.2 k h hk).trans (p.2 k h hk)⟩
theorem YSt.b {a K a1 K1 : Nat → Nat} (p : (∀ k, k ≠ 10 → K1 k = K k) ∧ ∀ k, k ∈ tks → k ≠ 10 → a1 k = a k) : YSt a K a1 K1 := ⟨fun k hk => p.1 k (by omega), fun k h hk => p.2 k h (by omega)⟩
theorem YSt.p {a K a1 K1 : Nat → Nat} (p : (∀ k, k < 6 ∨ 8 < k → K1 k = K k) ∧ ∀ k, k ∈ tks → k < 6 ∨ 8 < k → a1 k = a k) : YSt a K a1 K1 := ⟨fun k hk => p.1 k (by omega), fun k h hk => p.2 k h (by omega)⟩
def MtQ (h : AH) (a K : Nat → Nat) (N : Nat) (P : AH → (Nat → Nat) → (Nat → Nat) → Prop) (h1 : AH) : Prop := ∃ a1 K1, YC h a K h1 a1 K1 MtD MtF ∧ YSt a K a1 K1 ∧ YMk h1 a1 N ∧ (h.vl 9 5 ≤ h1.vl 9 5 ∧ h1.vl 9 5 ≤ h.vl 9 5 + 1) ∧ P h1 a1 K1
set_option maxRecDepth 100000 in
theorem s_match {h : AH} {a K : Nat → Nat} {N : Nat} {C : Nat → Prop} {Ar : List Nat} {KM H f : Nat} {ck : List UE → MS → Bool} {R : UR} {m m' : MS} {e : UE} {st : List UE} (g : YA h a K) (b : YB h K N) (hN : N ≤ 61000) (hKM : KM ≤ 150000) (hck : ∀ st m, ck st m = true → UI (soY (h.vl (a 0))) (h.vl (a 0)) (h.vl (a 1)) N C Ar m ∧ SI (soY (h.vl (a 0))) N m st) (hu : uR ck KM H true (soY (h.vl (a 0))) (h.vl (a 0)) (h.vl (a 1)) (f + 1) (e :: st) m = some (R, m')) (hli : h.vl (a 2) = m.2.2) (hP : YPs h a K (e :: st)) (hm : YMk h a N) (hm9 : h.vl 9 5 ≤ 2147482000) :
    CV mX9_matchNext 5 [rv 9] h (oi fun r h1 => MtQ h a K N (fun h1 a1 K1 => (r = 0 ∧ ∃ st1 m1, uR ck KM H true (soY (h.vl (a 0))) (h.vl (a 0)) (h.vl (a 1)) f st1 m1 = some (R, m') ∧ h1.vl (a1 2) = m1.2.2 ∧ YPs h1 a1 K1 st1) ∨ (r ≠ 0 ∧ r = R.1 ∧ (R.1 = 4 → h1.vl 9 13 = R.2.1 ∧ h1.vl 9 14 = R.2.2) ∧ (R.1 ≠ 4 → R.2 = (-1, -1)) ∧ K1 7 = K1 6 ∧ K1 8 = K1 6)) h1) := by
  obtain ⟨so, hso⟩ : ∃ so, so = soY (h.vl (a 0)) := ⟨_, rfl⟩
  obtain ⟨fr, hfr⟩ : ∃ fr, fr = h.vl (a 0) := ⟨_, rfl⟩
  obtain ⟨to, hto⟩ : ∃ to, to = h.vl (a 1) := ⟨_, rfl⟩
  rw [← hso, ← hfr, ← hto] at hck hu ⊢
  obtain ⟨P1, ⟨p1, p2, p3, p4⟩, P3, P4⟩ := hP
  have P1 : h.vl 9 9 = (st.length : Int) + 1 := P1
  rw [List.length_cons] at P4
  have hu0 := hu
  rw [uR] at hu
  by_cases k0 : ¬ ck (e :: st) m = true
  · rw [if_pos k0] at hu; exact nomatch hu
  rw [if_neg k0] at hu
  obtain ⟨hU, hSI⟩ := hck _ _ (Classical.not_not.mp k0)
  obtain ⟨n1, n2⟩ := hSI.1.1
  by_cases k1 : KM < st.length
  · rw [if_pos k1] at hu; exact nomatch hu
  rw [if_neg k1] at hu
  obtain ⟨r1, r2, -⟩ := hU.2.1 e.1 n1
  obtain ⟨r3, r4, -⟩ := hU.2.1 e.2.1 n2
  have hW : YW h a N m.1 m.2.1 := ⟨by rw [← hso, ← hfr, ← hto, hli]; exact hU.1, by rw [← hso, ← hfr, ← hto]; exact hU.2.1⟩
  obtain ⟨h1, e1⟩ : ∃ h1, h1 = h.put 9 9 (st.length : Int) := ⟨_, rfl⟩
  have c1 : YC h a K h1 a K [] [9] := by rw [e1]; exact g.pf (by decide)
  have g1 := c1.1
  have b1 := b.mv c1 (fun _ _ => rfl)
  have W1 := hW.mv c1
  have m1 := hm.mv c1
  have Q1 : h1.vl 9 9 = (st.length : Int) := by rw [e1]; rfl
  have L5 : h1.vl 9 5 = h.vl 9 5 := c1.fl 5
  have E0 : h1.vl (a 0) = fr := by rw [(c1.rw' 0).2, hfr]
  have E1 : h1.vl (a 1) = to := by rw [(c1.rw' 1).2, hto]
  have E2 : h1.vl (a 2) = m.2.2 := by rw [(c1.rw' 2).2, hli]
  have s1 : YPs h1 a K st := ⟨Q1, by rw [(c1.rw' 6).2, (c1.rw' 7).2, (c1.rw' 8).2]; exact p4, P3, by omega⟩
  have o6 : h1.vl (a 6) st.length = (e.1 : Int) := by rw [(c1.rw' 6).2]; exact p1
  have o7 : h1.vl (a 7) st.length = (e.2.1 : Int) := by rw [(c1.rw' 7).2]; exact p2
  have o8 : h1.vl (a 8) st.length = (if e.2.2 = true then 1 else 0) := by rw [(c1.rw' 8).2]; exact p3
  have v6 := g1.v 6
  have v7 := g1.v 7
  have v8 := g1.v 8
  have v0 := g1.v 0
  have v1 := g1.v 1
  have v2 := g1.v 2
  have n6 := g1.n 6
  have n7 := g1.n 7
  have n8 := g1.n 8
  have n0 := g1.n 0
  have n1' := g1.n 1
  have n2' := g1.n 2
  have B0 := b1.2.2
  have B1 := b1.2.1
  have nN : ∀ x : Nat, ((x : Nat) : Int).toNat = x := fun _ => rfl
  have fin : ∀ (r : Int) (h2 : AH) (a2 K2 : Nat → Nat), YC h1 a K h2 a2 K2 MtD MtF → YSt a K a2 K2 → YMk h2 a2 N → (h1.vl 9 5 ≤ h2.vl 9 5 ∧ h2.vl 9 5 ≤ h1.vl 9 5 + 1) → ((r = 0 ∧ ∃ st1 m1, uR ck KM H true so fr to f st1 m1 = some (R, m') ∧ h2.vl (a2 2) = m1.2.2 ∧ YPs h2 a2 K2 st1) ∨ (r ≠ 0 ∧ r = R.1 ∧ (R.1 = 4 → h2.vl 9 13 = R.2.1 ∧ h2.vl 9 14 = R.2.2) ∧ (R.1 ≠ 4 → R.2 = (-1, -1)) ∧ K2 7 = K2 6 ∧ K2 8 = K2 6)) → oi (fun r h1 => MtQ h a K N (fun h1 a1 K1 => (r = 0 ∧ ∃ st1 m1, uR ck KM H true so fr to f st1 m1 = some (R, m') ∧ h1.vl (a1 2) = m1.2.2 ∧ YPs h1 a1 K1 st1) ∨ (r ≠ 0 ∧ r = R.1 ∧ (R.1 = 4 → h1.vl 9 13 = R.2.1 ∧ h1.vl 9 14 = R.2.2) ∧ (R.1 ≠ 4 → R.2 = (-1, -1)) ∧ K1 7 = K1 6 ∧ K1 8 = K1 6)) h1) (iv r) h2 := by
    intro r h2 a2 K2 c2 y2 mk2 l2 hp
    exact ⟨r, rfl, a2, K2, (c1.wk (by decide) (by decide)).tr c2, y2, mk2, by omega, hp⟩
  refine cv_of cdX9_matchNext ?_
  show EV _ _ 0 [rv 9, uv, uv, uv, uv] [] h _
  refine ev_aload_n dX9_matchNext_0 rfl ?_
  refine ev_dup dX9_matchNext_1 ?_
  refine ev_getiv dX9_matchNext_2 fX9_46 g.1.k9 g.1.n9 rfl P1 ?_
  refine ev_iconst dX9_matchNext_5 ?_
  refine ev_isub dX9_matchNext_6 (by unfold ir; omega) ?_
  refine ev_pt dX9_matchNext_7 fX9_46 g.1.k9 g.1.n9 rfl ?_
  rw [show (st.length : Int) + 1 - 1 = (st.length : Int) by omega, ← e1]
  refine ev_aload_n dX9_matchNext_10 rfl ?_
  refine ev_aload_n dX9_matchNext_11 rfl ?_
  refine ev_getrv dX9_matchNext_12 fX9_24 g1.1.k9 g1.1.n9 rfl v6 ?_
  refine ev_aload_n dX9_matchNext_15 rfl ?_
  refine ev_getiv dX9_matchNext_16 fX9_46 g1.1.k9 g1.1.n9 rfl Q1 ?_
  refine ev_csi dX9_matchNext_19 lX9_63 (s_atJ (g1.k 6) n6 (g1.r 6).2) (by decide) rfl rfl (Nat.le_of_ble_eq_true rfl) rfl (fun r z q => ?_)
  obtain ⟨rfl, eq⟩ := q
  rw [eq, if_pos (by omega), nN, o6]
  refine ev_cvi dX9_matchNext_22 lX9_67 (s_known g1 b1 W1.1 n1) (by decide) g1.1.k9 g1.1.n9 rfl rfl rfl (Nat.le_of_ble_eq_true rfl) rfl (fun r z q => ?_)
  obtain ⟨rfl, eq⟩ := q
  rw [eq]
  refine ev_ist1 dX9_matchNext_25 ?_
  refine ev_aload_n dX9_matchNext_26 rfl ?_
  refine ev_aload_n dX9_matchNext_27 rfl ?_
  refine ev_getrv dX9_matchNext_28 fX9_27 g1.1.k9 g1.1.n9 rfl v7 ?_
  refine ev_aload_n dX9_matchNext_31 rfl ?_
  refine ev_getiv dX9_matchNext_32 fX9_46 g1.1.k9 g1.1.n9 rfl Q1 ?_
  refine ev_csi dX9_matchNext_35 lX9_63 (s_atJ (g1.k 7) n7 (g1.r 7).2) (by decide) rfl rfl (Nat.le_of_ble_eq_true rfl) rfl (fun r z q => ?_)
  obtain ⟨rfl, eq⟩ := q
  rw [eq, if_pos (by omega), nN, o7]
  refine ev_cvi dX9_matchNext_38 lX9_67 (s_known g1 b1 W1.1 n2) (by decide) g1.1.k9 g1.1.n9 rfl rfl rfl (Nat.le_of_ble_eq_true rfl) rfl (fun r z q => ?_)
  obtain ⟨rfl, eq⟩ := q
  rw [eq]
  refine ev_ist2 dX9_matchNext_41 ?_
  refine ev_iload_n dX9_matchNext_42 rfl ?_
  refine ev_iload_n dX9_matchNext_43 rfl ?_
  by_cases c1' : m.1 e.1 = m.1 e.2.1
  · skip
    rw [if_pos c1'] at hu
    refine ev_icmpne 49 dX9_matchNext_44 (fun h_no => (by exfalso; omega)) (fun hb1 => ?_)
    refine ev_iconst dX9_matchNext_47 ?_
    exact ev_iret dX9_matchNext_48 (fin 0 h1 a K (YC.rf g1) YSt.rf m1 (by omega) (Or.inl ⟨rfl, st, m, hu, E2, s1⟩))
  rw [if_neg c1'] at hu
  refine ev_icmpne 49 dX9_matchNext_44 (fun hb1 => ?_) (fun h_no => (by exfalso; omega))
  refine ev_aload_n dX9_matchNext_49 rfl ?_
  refine ev_getrv dX9_matchNext_50 fX9_30 g1.1.k9 g1.1.n9 rfl v8 ?_
  refine ev_aload_n dX9_matchNext_53 rfl ?_
  refine ev_getiv dX9_matchNext_54 fX9_46 g1.1.k9 g1.1.n9 rfl Q1 ?_
  refine ev_csi dX9_matchNext_57 lX9_63 (s_atJ (g1.k 8) n8 (g1.r 8).2) (by decide) rfl rfl (Nat.le_of_ble_eq_true rfl) rfl (fun r z q => ?_)
  obtain ⟨rfl, eq⟩ := q
  rw [eq, if_pos (by omega), nN, o8]
  by_cases c2' : e.2.2 = true
  · skip
    rw [if_pos c2'] at hu ⊢
    rw [if_pos (show true = true from rfl)] at hu
    refine ev_iconst dX9_matchNext_60 ?_
    refine ev_icmpne 75 dX9_matchNext_61 (fun h_no => (by exfalso; omega)) (fun hb2 => ?_)
    refine ev_aload_n dX9_matchNext_64 rfl ?_
    refine ev_getrv dX9_matchNext_65 fX9_18 g1.1.k9 g1.1.n9 rfl v2 ?_
    refine ev_iload_n dX9_matchNext_68 rfl ?_
    refine ev_iload_n dX9_matchNext_69 rfl ?_
    refine ev_csv dX9_matchNext_70 lX9_59 (s_putJ (g1.k 2) n2' (g1.r 2).2) (by decide) rfl rfl (Nat.le_of_ble_eq_true rfl) rfl (fun h2 q => ?_)
    rw [if_pos (by omega), nN] at q
    have c2 : YC h1 a K h2 a K [2] [] := by rw [q]; exact g1.pw (by decide)
    refine ev_iconst dX9_matchNext_73 ?_
    exact ev_iret dX9_matchNext_74 (fin 0 h2 a K (c2.wk (by decide) (by decide)) YSt.rf (m1.mv c2) (by have := c2.fl 5; omega) (Or.inl ⟨rfl, st, _, hu, by rw [q, put_row, E2]; rfl, s1.mv c2 ⟨rfl, rfl, rfl⟩⟩))
  rw [if_neg c2'] at hu ⊢
  refine ev_iconst dX9_matchNext_60 ?_
  refine ev_icmpne 75 dX9_matchNext_61 (fun hb2 => ?_) (fun h_no => (by exfalso; omega))
  refine ev_aload_n dX9_matchNext_75 rfl ?_
  refine ev_iload_n dX9_matchNext_76 rfl ?_
  refine ev_cvi dX9_matchNext_77 lX9_71 (s_kindY g1 b1 r1) (by decide) g1.1.k9 g1.1.n9 rfl rfl rfl (Nat.le_of_ble_eq_true rfl) rfl (fun r z q => ?_)
  obtain ⟨rfl, eq⟩ := q
  rw [eq, E0, show soY fr = so by rw [hso, hfr]]
  refine ev_ist3 dX9_matchNext_80 ?_
  refine ev_aload_n dX9_matchNext_81 rfl ?_
  refine ev_iload_n dX9_matchNext_82 rfl ?_
  refine ev_cvi dX9_matchNext_83 lX9_71 (s_kindY g1 b1 r3) (by decide) g1.1.k9 g1.1.n9 rfl rfl rfl (Nat.le_of_ble_eq_true rfl) rfl (fun r z q => ?_)
  obtain ⟨rfl, eq⟩ := q
  rw [eq, E0, show soY fr = so by rw [hso, hfr]]
  refine ev_ist4 dX9_matchNext_86 ?_
  refine ev_iload_n dX9_matchNext_88 rfl ?_
  refine ev_iconst dX9_matchNext_89 ?_
  have esoY : soY (h1.vl (a 0)) = so := by rw [E0, hso, hfr]
  -- a variable becomes a type
  have bec : ∀ (v o : Nat) (r : Int) (h2 : AH), (if H < ht (m.2.1 o) then none else if oc (v + 2) (m.2.1 o) = true then some (((5 : Int), (-1 : Int), (-1 : Int)), m) else uR ck KM H true so fr to f st (bdM m v o)) = some (R, m') → (∃ a1 K1, YC h1 a K h2 a1 K1 BcD BcF ∧ ((∀ k, k ≠ 10 → K1 k = K k) ∧ ∀ k, k ∈ tks → k ≠ 10 → a1 k = a k) ∧ YMk h2 a1 N ∧ h2.vl 9 5 = h1.vl 9 5 + 1 ∧ ((oc (v + 2) (m.2.1 o) = true ∧ r = 5 ∧ h2.vl (a1 2) = h1.vl (a 2)) ∨ (oc (v + 2) (m.2.1 o) = false ∧ r = 0 ∧ h2.vl (a1 2) = upI (h1.vl (a 2)) v (o : Int)))) → oi (fun r h1 => MtQ h a K N (fun h1 a1 K1 => (r = 0 ∧ ∃ st1 m1, uR ck KM H true so fr to f st1 m1 = some (R, m') ∧ h1.vl (a1 2) = m1.2.2 ∧ YPs h1 a1 K1 st1) ∨ (r ≠ 0 ∧ r = R.1 ∧ (R.1 = 4 → h1.vl 9 13 = R.2.1 ∧ h1.vl 9 14 = R.2.2) ∧ (R.1 ≠ 4 → R.2 = (-1, -1)) ∧ K1 7 = K1 6 ∧ K1 8 = K1 6)) h1) (iv r) h2 := by
    intro v o r h2 hv hh
    obtain ⟨a2, K2, c2, y2, mk2, l2, hh⟩ := hh
    by_cases d1 : H < ht (m.2.1 o)
    · rw [if_pos d1] at hv; exact nomatch hv
    rw [if_neg d1] at hv
    refine fin r h2 a2 K2 (c2.wk (by decide) (by decide)) (YSt.b y2) mk2 (by omega) ?_
    rcases hh with ⟨d2, d3, d4⟩ | ⟨d2, d3, d4⟩
    · rw [if_pos d2] at hv
      have hv := Option.some.inj hv
      have eR : R = (5, -1, -1) := (congrArg Prod.fst hv).symm
      refine Or.inr ⟨by omega, by rw [d3, eR], fun z => absurd z (by rw [eR]; decide), fun _ => by rw [eR], by rw [y2.1 7 (by decide), y2.1 6 (by decide)]; exact P3.1, by rw [y2.1 8 (by decide), y2.1 6 (by decide)]; exact P3.2⟩
    · rw [if_neg (by rw [d2]; exact Bool.noConfusion)] at hv
      exact Or.inl ⟨d3, st, _, hv, by rw [d4, E2]; rfl, s1.mv c2 ⟨y2.1 6 (by decide), y2.1 7 (by decide), y2.1 8 (by decide)⟩⟩
  by_cases x1 : so (m.1 e.1) = 3
  · skip
    rw [if_pos (Or.inl x1), if_pos x1] at hu
    simp only [if_pos x1] at hu
    refine ev_icmpne 100 dX9_matchNext_90 (fun h_no => (by exfalso; omega)) (fun hb3 => ?_)
    refine ev_aload_n dX9_matchNext_93 rfl ?_
    refine ev_iload_n dX9_matchNext_94 rfl ?_
    refine ev_iload_n dX9_matchNext_95 rfl ?_
    refine ev_cvi dX9_matchNext_96 lX9_74 (s_become g1 b1 W1 hN m1 (by omega) r1 r3 (by rw [esoY]; exact x1) r2) (by decide) g1.1.k9 g1.1.n9 rfl rfl rfl (Nat.le_of_ble_eq_true rfl) rfl (fun r h2 q => ?_)
    exact ev_iret dX9_matchNext_99 (bec _ _ _ _ hu q)
  refine ev_icmpne 100 dX9_matchNext_90 (fun hb3 => ?_) (fun h_no => (by exfalso; omega))
  refine ev_iload dX9_matchNext_100 rfl ?_
  refine ev_iconst dX9_matchNext_102 ?_
  by_cases x2 : so (m.1 e.2.1) = 3
  · skip
    rw [if_pos (Or.inr x2)] at hu
    simp only [if_neg x1] at hu
    refine ev_icmpne 113 dX9_matchNext_103 (fun h_no => (by exfalso; omega)) (fun hb4 => ?_)
    refine ev_aload_n dX9_matchNext_106 rfl ?_
    refine ev_iload_n dX9_matchNext_107 rfl ?_
    refine ev_iload_n dX9_matchNext_108 rfl ?_
    refine ev_cvi dX9_matchNext_109 lX9_74 (s_become g1 b1 W1 hN m1 (by omega) r3 r1 (by rw [esoY]; exact x2) r4) (by decide) g1.1.k9 g1.1.n9 rfl rfl rfl (Nat.le_of_ble_eq_true rfl) rfl (fun r h2 q => ?_)
    exact ev_iret dX9_matchNext_112 (bec _ _ _ _ hu q)
  have c3 : ¬ (so (m.1 e.1) = 3 ∨ so (m.1 e.2.1) = 3) := fun z => z.elim x1 x2
  rw [if_neg c3] at hu
  refine ev_icmpne 113 dX9_matchNext_103 (fun hb4 => ?_) (fun h_no => (by exfalso; omega))
  refine ev_iload_n dX9_matchNext_113 rfl ?_
  refine ev_iconst dX9_matchNext_114 ?_
  -- a clash
  have clash : ¬ (so (m.1 e.1) = 2 ∧ so (m.1 e.2.1) = 2) → R = (4, so (m.1 e.1), so (m.1 e.2.1)) := by
    intro z
    rw [if_neg z] at hu
    by_cases k : so (m.1 e.1) = so (m.1 e.2.1)
    · exfalso
      have q1 := soY_r (fr := fr) (t := m.1 e.1)
      have hs : ∀ t, so t = soY fr t := fun t => by rw [hso, hfr]
      have : so (m.1 e.1) = 0 ∨ so (m.1 e.1) = 1 := by
        have q1 : 0 ≤ so (m.1 e.1) ∧ so (m.1 e.1) ≤ 3 := by rw [hs]; exact q1
        omega
      have z0 : ∀ t, so t = 0 → t = 0 := fun t ht => by
        rw [hs] at ht
        unfold soY at ht
        by_cases y0 : t = 0
        · exact y0
        · rw [if_neg y0] at ht
          split at ht
          · omega
          · split at ht <;> omega
      have z1 : ∀ t, so t = 1 → t = 1 := fun t ht => by
        rw [hs] at ht
        unfold soY at ht
        by_cases y0 : t = 0
        · rw [if_pos y0] at ht; omega
        · rw [if_neg y0] at ht
          by_cases y1 : t = 1
          · exact y1
          · rw [if_neg y1] at ht
            split at ht <;> omega
      rcases this with y | y
      · exact c1' ((z0 _ y).trans (z0 _ (k ▸ y)).symm)
      · exact c1' ((z1 _ y).trans (z1 _ (k ▸ y)).symm)
    · rw [if_neg k] at hu
      exact (congrArg Prod.fst (Option.some.inj hu)).symm
  have p175 : ¬ (so (m.1 e.1) = 2 ∧ so (m.1 e.2.1) = 2) → EV mX9_matchNext 5 175 [rv 9, iv (m.1 e.1 : Int), iv (m.1 e.2.1 : Int), iv (so (m.1 e.1)), iv (so (m.1 e.2.1))] [] h1 (oi fun r h1 => MtQ h a K N (fun h1 a1 K1 => (r = 0 ∧ ∃ st1 m1, uR ck KM H true so fr to f st1 m1 = some (R, m') ∧ h1.vl (a1 2) = m1.2.2 ∧ YPs h1 a1 K1 st1) ∨ (r ≠ 0 ∧ r = R.1 ∧ (R.1 = 4 → h1.vl 9 13 = R.2.1 ∧ h1.vl 9 14 = R.2.2) ∧ (R.1 ≠ 4 → R.2 = (-1, -1)) ∧ K1 7 = K1 6 ∧ K1 8 = K1 6)) h1) := by
    intro z
    have eR := clash z
    refine ev_aload_n dX9_matchNext_175 rfl ?_
    refine ev_iload_n dX9_matchNext_176 rfl ?_
    refine ev_pt dX9_matchNext_177 fX9_81 g1.1.k9 g1.1.n9 rfl ?_
    obtain ⟨h2, e2⟩ : ∃ h2, h2 = h1.put 9 13 (so (m.1 e.1)) := ⟨_, rfl⟩
    rw [← e2]
    have c2 : YC h1 a K h2 a K [] [13] := by rw [e2]; exact g1.pf (by decide)
    have g2 := c2.1
    refine ev_aload_n dX9_matchNext_180 rfl ?_
    refine ev_iload dX9_matchNext_181 rfl ?_
    refine ev_pt dX9_matchNext_183 fX9_84 g2.1.k9 g2.1.n9 rfl ?_
    obtain ⟨h3, e3⟩ : ∃ h3, h3 = h2.put 9 14 (so (m.1 e.2.1)) := ⟨_, rfl⟩
    rw [← e3]
    have c3 : YC h2 a K h3 a K [] [14] := by rw [e3]; exact g2.pf (by decide)
    have u13 : h3.vl 9 13 = so (m.1 e.1) := (c3.fl 13).trans (by rw [e2]; rfl)
    have u14 : h3.vl 9 14 = so (m.1 e.2.1) := by rw [e3]; rfl
    refine ev_iconst dX9_matchNext_186 ?_
    exact ev_iret dX9_matchNext_187 (fin 4 h3 a K ((c2.wk (by decide) (by decide)).tr (c3.wk (by decide) (by decide))) YSt.rf ((m1.mv c2).mv c3) (by have := c3.fl 5; have := c2.fl 5; omega) (Or.inr ⟨by decide, by rw [eR], fun _ => by rw [eR]; exact ⟨u13, u14⟩, fun y => absurd (by rw [eR]) y, P3⟩))
  by_cases x3 : so (m.1 e.1) = 2
  · skip
    refine ev_icmpne 175 dX9_matchNext_115 (fun h_no => (by exfalso; omega)) (fun hb5 => ?_)
    refine ev_iload dX9_matchNext_118 rfl ?_
    refine ev_iconst dX9_matchNext_120 ?_
    by_cases x4 : so (m.1 e.2.1) = 2
    · skip
      rw [if_pos ⟨x3, x4⟩] at hu
      obtain ⟨f1, f2⟩ := hU.1.2.2 (m.1 e.1) r1 x3
      obtain ⟨f3, f4⟩ := hU.1.2.2 (m.1 e.2.1) r3 x4
      obtain ⟨t1, et1⟩ : ∃ t1 : Nat, to (m.1 e.1) = (t1 : Int) := ⟨_, (Int.toNat_of_nonneg f2.1).symm⟩
      obtain ⟨t2, et2⟩ : ∃ t2 : Nat, to (m.1 e.2.1) = (t2 : Int) := ⟨_, (Int.toNat_of_nonneg f4.1).symm⟩
      obtain ⟨w1, ew1⟩ : ∃ w1 : Nat, fr (m.1 e.1) = (w1 : Int) := ⟨_, (Int.toNat_of_nonneg f1.1).symm⟩
      obtain ⟨w2, ew2⟩ : ∃ w2 : Nat, fr (m.1 e.2.1) = (w2 : Int) := ⟨_, (Int.toNat_of_nonneg f3.1).symm⟩
      rw [et1, et2, ew1, ew2] at hu
      refine ev_icmpne 175 dX9_matchNext_121 (fun h_no => (by exfalso; omega)) (fun hb6 => ?_)
      refine ev_aload_n dX9_matchNext_124 rfl ?_
      refine ev_iload_n dX9_matchNext_125 rfl ?_
      refine ev_iload_n dX9_matchNext_126 rfl ?_
      refine ev_iconst dX9_matchNext_127 ?_
      refine ev_cvv dX9_matchNext_128 lX9_77 (s_addPair (j := true) g1 s1 (by omega)) (by decide) g1.1.k9 g1.1.n9 rfl rfl rfl (Nat.le_of_ble_eq_true rfl) rfl (fun h2 q => ?_)
      obtain ⟨a2, K2, c2, s2, y2⟩ := q
      have g2 := c2.1
      have q0 := g2.v 0
      have q1 := g2.v 1
      have z0 := g2.n 0
      have z1 := g2.n 1
      have Z0 : h2.vl (a2 0) = fr := by rw [(c2.rw' 0).1, (c2.rw' 0).2, E0]
      have Z1 : h2.vl (a2 1) = to := by rw [(c2.rw' 1).1, (c2.rw' 1).2, E1]
      have k20 := y2.1 0 (by decide)
      have k21 := y2.1 1 (by decide)
      refine ev_aload_n dX9_matchNext_131 rfl ?_
      refine ev_aload_n dX9_matchNext_132 rfl ?_
      refine ev_getrv dX9_matchNext_133 fX9_15 g2.1.k9 g2.1.n9 rfl q1 ?_
      refine ev_iload_n dX9_matchNext_136 rfl ?_
      refine ev_csi dX9_matchNext_137 lX9_63 (s_atJ (g2.k 1) z1 (g2.r 1).2) (by decide) rfl rfl (Nat.le_of_ble_eq_true rfl) rfl (fun r z q => ?_)
      obtain ⟨rfl, eq⟩ := q
      rw [eq, if_pos (by omega), nN, Z1, et1]
      refine ev_aload_n dX9_matchNext_140 rfl ?_
      refine ev_getrv dX9_matchNext_141 fX9_15 g2.1.k9 g2.1.n9 rfl q1 ?_
      refine ev_iload_n dX9_matchNext_144 rfl ?_
      refine ev_csi dX9_matchNext_145 lX9_63 (s_atJ (g2.k 1) z1 (g2.r 1).2) (by decide) rfl rfl (Nat.le_of_ble_eq_true rfl) rfl (fun r z q => ?_)
      obtain ⟨rfl, eq⟩ := q
      rw [eq, if_pos (by omega), nN, Z1, et2]
      refine ev_iconst dX9_matchNext_148 ?_
      refine ev_cvv dX9_matchNext_149 lX9_77 (s_addPair (j := false) g2 s2 (by rw [List.length_cons]; omega)) (by decide) g2.1.k9 g2.1.n9 rfl rfl rfl (Nat.le_of_ble_eq_true rfl) rfl (fun h3 q => ?_)
      obtain ⟨a3, K3, c3, s3, y3⟩ := q
      have g3 := c3.1
      have q0 := g3.v 0
      have z0 := g3.n 0
      have Z0 : h3.vl (a3 0) = fr := by rw [(c3.rw' 0).1, (c3.rw' 0).2, Z0]
      have k30 := y3.1 0 (by decide)
      refine ev_aload_n dX9_matchNext_152 rfl ?_
      refine ev_aload_n dX9_matchNext_153 rfl ?_
      refine ev_getrv dX9_matchNext_154 fX9_9 g3.1.k9 g3.1.n9 rfl q0 ?_
      refine ev_iload_n dX9_matchNext_157 rfl ?_
      refine ev_csi dX9_matchNext_158 lX9_63 (s_atJ (g3.k 0) z0 (g3.r 0).2) (by decide) rfl rfl (Nat.le_of_ble_eq_true rfl) rfl (fun r z q => ?_)
      obtain ⟨rfl, eq⟩ := q
      rw [eq, if_pos (by omega), nN, Z0, ew1]
      refine ev_aload_n dX9_matchNext_161 rfl ?_
      refine ev_getrv dX9_matchNext_162 fX9_9 g3.1.k9 g3.1.n9 rfl q0 ?_
      refine ev_iload_n dX9_matchNext_165 rfl ?_
      refine ev_csi dX9_matchNext_166 lX9_63 (s_atJ (g3.k 0) z0 (g3.r 0).2) (by decide) rfl rfl (Nat.le_of_ble_eq_true rfl) rfl (fun r z q => ?_)
      obtain ⟨rfl, eq⟩ := q
      rw [eq, if_pos (by omega), nN, Z0, ew2]
      refine ev_iconst dX9_matchNext_169 ?_
      refine ev_cvv dX9_matchNext_170 lX9_77 (s_addPair (j := false) g3 s3 (by rw [List.length_cons, List.length_cons]; omega)) (by decide) g3.1.k9 g3.1.n9 rfl rfl rfl (Nat.le_of_ble_eq_true rfl) rfl (fun h4 q => ?_)
      obtain ⟨a4, K4, c4, s4, y4⟩ := q
      have Z2 : h4.vl (a4 2) = m.2.2 := by rw [(c4.rw' 2).1, (c4.rw' 2).2, (c3.rw' 2).1, (c3.rw' 2).2, (c2.rw' 2).1, (c2.rw' 2).2, E2]
      have l5 : h4.vl 9 5 = h1.vl 9 5 := by rw [c4.fl 5, c3.fl 5, c2.fl 5]
      have C4 : YC h1 a K h4 a4 K4 MtD MtF := (c2.wk (by decide) (by decide)).tr ((c3.wk (by decide) (by decide)).tr (c4.wk (by decide) (by decide)))
      refine ev_iconst dX9_matchNext_173 ?_
      exact ev_iret dX9_matchNext_174 (fin 0 h4 a4 K4 C4 (((YSt.p y2).tr (YSt.p y3)).tr (YSt.p y4)) (((m1.mv c2).mv c3).mv c4) (by omega) (Or.inl ⟨rfl, _, m, hu, Z2, s4⟩))
    refine ev_icmpne 175 dX9_matchNext_121 (fun hb6 => ?_) (fun h_no => (by exfalso; omega))
    exact p175 (fun z => x4 z.2)
  refine ev_icmpne 175 dX9_matchNext_115 (fun hb5 => ?_) (fun h_no => (by exfalso; omega))
  exact p175 (fun z => x3 z.1)
