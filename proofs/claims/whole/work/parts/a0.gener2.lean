/-! the reference's generalises -/
theorem oc_nm {P : Nat → Prop} {ρ : Nat → Nat} {x : Nat} : ∀ {t : TE}, vsT P t → oc x (nmT ρ t) = true → x < 2 ∨ ∃ y, P y ∧ x = ρ y
  | .var y, h, ho => by
    rw [nm_var] at ho
    by_cases a : y < 2
    · rw [if_pos a] at ho
      have : y = x := by simpa [oc] using ho
      exact Or.inl (by omega)
    · rw [if_neg a] at ho
      have : ρ y = x := by simpa [oc] using ho
      exact Or.inr ⟨y, h y (by omega) (by simp [oc]), this.symm⟩
  | .op a b, h, ho => by
    rw [nm_op] at ho
    simp only [oc, Bool.or_eq_true] at ho
    rcases ho with ho | ho
    · exact oc_nm (vsT_op.mp h).1 ho
    · exact oc_nm (vsT_op.mp h).2 ho
/-- types known: F for the nodes of Dn, G for the functions of Gn -/
def RS (h : AH) (N aB : Nat) (S : IS) (Dn Gn : Nat → Prop) : Prop := ∃ T, RN h N aB S.1 S.2.2.2 T ∧ (∀ k, Dn k → k < 130 ∧ ∃ c : Nat, c < N ∧ h.vl 84 k = (c : Int) ∧ T c = S.2.1 k) ∧ (∀ k, Gn k → k < 130 ∧ ∃ c : Nat, c < N ∧ h.vl 85 k = (c : Int) ∧ T c = S.2.2.1 k) ∧ (∀ x, S.2.2.2 x = true → x < S.1) ∧ 2 ≤ S.1
/-- what marks leave behind: the variables of the types marked so far -/
def MkI (h : AH) (N : Nat) (rr : Nat → Nat) (tr : Nat → TE) (st : Int) (P : List Nat) (g : AH) : Prop := KP h g [71, 74] [50, 51] ∧ g.vl 42 50 = st ∧ SnC (h.vl 66) rr N tr st (g.vl 71) ∧ (∀ c, c < N → h.vl 66 c = 3 → (g.vl 71 c = st ↔ ∃ k ∈ P, oc (c + 2) (tr (h.vl 85 k).toNat) = true)) ∧ ∀ k, g.vl 71 k ≤ st
set_option maxRecDepth 100000 in
theorem gen_env {h : AH} {N aB : Nat} {rr : Nat → Nat} {tr : Nat → TE} {τ : Nat → Nat} {nv : Nat} {gn : Nat → Bool} {L : List Nd} {e : Nat} {st : Int} {Q : AV → AH → Prop} (hI0 : RI h) (hR : RT h N aB rr tr τ nv gn) (hT : NT h L) :
    ∀ (f : Nat) (k : Int) (P : List Nat) (g : AH), -1 ≤ k → k < (L.length : Int) → k < (f : Int) → MkI h N rr tr st P g → (∀ j ∈ arN' L (f + 1) k, TBL L 57 j = 4 → 0 ≤ h.vl 85 j ∧ h.vl 85 j < (N : Int)) →
    (∀ g1 P1, MkI h N rr tr st P1 g1 → (∀ c, c ∈ P1 ↔ c ∈ P ∨ c ∈ (arN' L (f + 1) k).filter (fun j => TBL L 57 j == 4)) → ∀ v2, EV mX11_generalises 5 51 [rv 42, iv (e : Int), iv v2] [] g1 Q) → EV mX11_generalises 5 17 [rv 42, iv (e : Int), iv k] [] g Q := by
  intro f
  induction f with
  | zero =>
    intro k P g h1 h2 h3 hM hO kk
    have e0 : k = -1 := by omega
    refine ev_iload_n dX11_generalises_17 rfl ?_
    refine ev_iflt 51 dX11_generalises_18 (fun hc => ?_) (fun h_no => (by exfalso; omega))
    refine kk g P hM (fun c => ?_) k
    rw [arN', if_pos (by omega)]
    simp
  | succ f ih =>
    intro k P g h1 h2 h3 hM hO kk
    have hI : RI g := hM.1.ri hI0
    have hNG := hR.1
    by_cases hk : k < 0
    · skip
      refine ev_iload_n dX11_generalises_17 rfl ?_
      refine ev_iflt 51 dX11_generalises_18 (fun hc => ?_) (fun h_no => (by exfalso; omega))
      refine kk g P hM (fun c => ?_) k
      rw [arN', if_pos hk]
      simp
    obtain ⟨n, rfl⟩ : ∃ n : Nat, k = (n : Int) := ⟨k.toNat, by omega⟩
    have hn : n < L.length := by omega
    have en : ((n : Nat) : Int).toNat = n := rfl
    have gd := (TBL_gd (L := L) n hn).1
    have a57 : g.vl 57 n = TBL L 57 n := (congrFun hM.1.vl n).trans (hT.1 57 n (by decide) (by decide) (Or.inl hn))
    have a61 : g.vl 61 n = TBL L 61 n := (congrFun hM.1.vl n).trans (hT.1 61 n (by decide) (by decide) (Or.inl hn))
    have hl9 := hT.2.2.2
    have ea : arN' L (f + 1 + 1) (n : Int) = n :: arN' L (f + 1) (TBL L 61 n) := by rw [arN', if_neg (by omega), en]
    have next : ∀ (g1 : AH) (P1 : List Nat), MkI h N rr tr st P1 g1 → (∀ c, c ∈ P1 ↔ c ∈ P ∨ (c = n ∧ TBL L 57 n = 4)) → EV mX11_generalises 5 41 [rv 42, iv (e : Int), iv (n : Int)] [] g1 Q := by
      intro g1 P1 M1 hP1
      have hI1 : RI g1 := M1.1.ri hI0
      have b61 : g1.vl 61 n = TBL L 61 n := (congrFun M1.1.vl n).trans (hT.1 61 n (by decide) (by decide) (Or.inl hn))
      refine ev_aload_n dX11_generalises_41 rfl ?_
      refine ev_getrv dX11_generalises_42 fX11_68 hI1.o hI1.n rfl hI1.v_up ?_
      refine ev_iload_n dX11_generalises_45 rfl ?_
      refine ev_ildv dX11_generalises_46 hI1.k_up hI1.n_up rfl (by omega) (by omega) b61 ?_
      refine ev_ist2 dX11_generalises_47 ?_
      refine ev_gt 17 dX11_generalises_48 ?_
      refine ih (TBL L 61 n) P1 g1 (by omega) (by omega) (by omega) M1 (fun j hj => hO j ?_) (fun g2 P2 M2 hP2 v2 => kk g2 P2 M2 (fun c => ?_) v2)
      · rw [ea]
        exact List.mem_cons_of_mem _ hj
      · rw [hP2 c, hP1 c, ea, List.filter_cons]
        by_cases c4 : TBL L 57 n = 4
        · rw [if_pos (by rw [c4]; rfl), List.mem_cons]
          constructor
          · rintro ((h | h) | h)
            · exact Or.inl h
            · exact Or.inr (Or.inl h.1)
            · exact Or.inr (Or.inr h)
          · rintro (h | h | h)
            · exact Or.inl (Or.inl h)
            · exact Or.inl (Or.inr ⟨h, c4⟩)
            · exact Or.inr h
        · rw [if_neg (by simpa using c4)]
          constructor
          · rintro ((h | h) | h)
            · exact Or.inl h
            · exact absurd h.2 c4
            · exact Or.inr h
          · rintro (h | h)
            · exact Or.inl (Or.inl h)
            · exact Or.inr h
    refine ev_iload_n dX11_generalises_17 rfl ?_
    refine ev_iflt 51 dX11_generalises_18 (fun h_no => (by exfalso; omega)) (fun hc => ?_)
    refine ev_aload_n dX11_generalises_21 rfl ?_
    refine ev_getrv dX11_generalises_22 fX11_56 hI.o hI.n rfl hI.v_kind ?_
    refine ev_iload_n dX11_generalises_25 rfl ?_
    refine ev_ildv dX11_generalises_26 hI.k_kind hI.n_kind rfl (by omega) (by omega) a57 ?_
    refine ev_iconst dX11_generalises_27 ?_
    by_cases c4 : TBL L 57 n = 4
    · skip
      have ho := hO n (by rw [ea]; exact List.mem_cons_self) c4
      have a85 : g.vl 85 n = h.vl 85 n := congrFun hM.1.vl n
      obtain ⟨w, hw⟩ : ∃ w : Nat, h.vl 85 n = (w : Int) := ⟨(h.vl 85 n).toNat, by omega⟩
      have hwN : w < N := by omega
      have hG : GH g N rr tr := hR.gh.on hM.1
      refine ev_icmpne 41 dX11_generalises_28 (fun h_no => (by exfalso; omega)) (fun hc2 => ?_)
      refine ev_aload_n dX11_generalises_31 rfl ?_
      refine ev_aload_n dX11_generalises_32 rfl ?_
      refine ev_getrv dX11_generalises_33 fX11_140 hI.o hI.n rfl hI.v_own ?_
      refine ev_iload_n dX11_generalises_36 rfl ?_
      rw [hw] at a85
      refine ev_ildv dX11_generalises_37 hI.k_own hI.n_own rfl (by omega) (by omega) a85 ?_
      refine ev_cvv dX11_generalises_38 lX11_236 (s_marks (t := (w : Int)) hI hG (by omega) (by omega) (hR.ht hwN)) (by decide) hI.o hI.n rfl rfl rfl (Nat.le_of_ble_eq_true rfl) rfl (fun g1 q => ?_)
      obtain ⟨q1, q2⟩ := q
      obtain ⟨m1, m2, m3, m4, m5⟩ := hM
      have ew : ((w : Nat) : Int).toNat = w := rfl
      rw [ew, m2, m1.vl (r := 66), m1.vl (r := 67), m1.vl (r := 68)] at q2
      obtain ⟨p1, p2, -⟩ := hNG.2.1 w hwN
      have pt := hNG.2.1.rr hwN
      have cl := dfs_cl (st := st) hNG.2.1 hNG.1 (tr w) (rr w) (g.vl 71) p1 p2 pt m3
      refine next g1 (n :: P) ⟨m1.tr (q1.wk (by decide) (by decide)), (q1.fl).trans m2, by rw [q2]; exact cl, fun c hc h3 => ?_, fun k => ?_⟩ (fun c => ?_)
      · rw [q2]
        constructor
        · intro hs
          rcases dfs_fr hNG.2.1 hNG.1 h3 (tr w) (rr w) (g.vl 71) p1 p2 pt hs with h4 | h4
          · obtain ⟨j, j1, j2⟩ := (m4 c hc h3).mp h4
            exact ⟨j, List.mem_cons_of_mem _ j1, j2⟩
          · exact ⟨n, List.mem_cons_self, by rw [hw]; exact h4⟩
        · rintro ⟨j, j1, j2⟩
          rcases List.mem_cons.mp j1 with rfl | j1
          · rw [hw, ew] at j2
            exact cl (rr w) p1 p2 (dfs_top hNG.2.1 (tr w) (rr w) (g.vl 71) ()) c (by rw [pt]; exact j2)
          · exact dfs_up ((m4 c hc h3).mpr ⟨j, j1, j2⟩)
      · rw [q2]
        rcases dfs_or (so := h.vl 66) (fr := h.vl 67) (to := h.vl 68) (rr := rr) (st := st) (tr w) (rr w) (g.vl 71) k with h1 | h1
        · rw [h1]; exact m5 k
        · rw [h1]; exact Int.le_refl _
      · rw [List.mem_cons]
        constructor
        · rintro (h | h)
          · exact Or.inr ⟨h, c4⟩
          · exact Or.inl h
        · rintro (h | h)
          · exact Or.inr h
          · exact Or.inl h.1
    refine ev_icmpne 41 dX11_generalises_28 (fun hc2 => ?_) (fun h_no => (by exfalso; omega))
    exact next g P hM (fun c => ⟨Or.inl, fun z => z.elim id (fun z => absurd z.2 c4)⟩)
set_option maxRecDepth 100000 in
theorem s_generN {h : AH} {N aB : Nat} {L : List Nd} {S : IS} {Dn Gn : Nat → Prop} {e : Nat} (hI0 : RI h) (hT : NT h L) (he : e < L.length) (hS : RS h N aB S Dn Gn) (hf0 : 0 ≤ TBL L 59 e ∧ TBL L 59 e < (L.length : Int)) (hD : Dn (fstN L e)) (hG : ∀ k ∈ envN L e, Gn k) (hst0 : 0 ≤ h.vl 42 50) (hst9 : h.vl 42 50 + 1 ≤ 2147483000) :
    CV mX11_generalises 5 [rv 42, iv (e : Int)] h (on fun h1 => KP h h1 [70, 71, 74] [50, 51] ∧ h1.vl 42 50 = h.vl 42 50 + 1 ∧ RS h1 N aB (isGn L S e) Dn Gn) := by
  obtain ⟨T, ⟨rr, tr, τ, g1, g7⟩, s2, s3, s4, s5⟩ := hS
  have hNG := g1.1
  obtain ⟨hd1, cf, hd2, hd3, hd4⟩ := s2 _ hD
  have gd := (TBL_gd (L := L) e he).1
  have hlen := hT.2.2.2
  have n20 := g1.2.2.2.2.2
  refine cv_of cdX11_generalises ?_
  show EV _ _ 0 [rv 42, iv (e : Int), uv] [] h _
  have a61 : h.vl 61 e = TBL L 61 e := hT.1 61 e (by decide) (by decide) (Or.inl he)
  refine ev_aload_n dX11_generalises_0 rfl ?_
  refine ev_dup dX11_generalises_1 ?_
  refine ev_geti dX11_generalises_2 fX11_226 hI0.o hI0.n rfl ?_
  refine ev_iconst dX11_generalises_5 ?_
  refine ev_iadd dX11_generalises_6 (by unfold ir; omega) ?_
  refine ev_pt dX11_generalises_7 fX11_226 hI0.o hI0.n rfl ?_
  obtain ⟨g0, e0⟩ : ∃ g0, g0 = h.put 42 50 (h.vl 42 50 + 1) := ⟨_, rfl⟩
  rw [← e0]
  have K0 : KP h g0 [71, 74] [50, 51] := by rw [e0]; exact KP.rf.pf (by decide)
  have hI1 : RI g0 := K0.ri hI0
  have b61 : g0.vl 61 e = TBL L 61 e := (congrFun K0.vl e).trans a61
  refine ev_aload_n dX11_generalises_10 rfl ?_
  refine ev_getrv dX11_generalises_11 fX11_68 hI1.o hI1.n rfl hI1.v_up ?_
  refine ev_iload_n dX11_generalises_14 rfl ?_
  refine ev_ildv dX11_generalises_15 hI1.k_up hI1.n_up rfl (by omega) (by omega) b61 ?_
  refine ev_ist2 dX11_generalises_16 ?_
  have e71 : g0.vl 71 = h.vl 71 := by rw [e0]; exact put_ne _ (by decide)
  have ee : arN' L (129 + 1) (TBL L 61 e) = arN' L 130 (TBL L 61 e) := rfl
  refine gen_env (st := h.vl 42 50 + 1) hI0 g1 hT 129 (TBL L 61 e) [] g0 (by omega) (by omega) (by omega) ⟨K0, by rw [e0]; rfl, fun t _ _ hs => ?_, fun c hc h3 => ?_, fun k => ?_⟩ (fun j hj h4 => ?_) (fun g2 P2 M2 hP2 v2 => ?_)
  · rw [e71] at hs; have := g1.2.2.2.1 t; omega
  · rw [e71]
    constructor
    · intro z; have := g1.2.2.2.1 c; omega
    · rintro ⟨k, hk, -⟩; exact nomatch hk
  · rw [e71]; have := g1.2.2.2.1 k; omega
  · obtain ⟨-, c, c1, c2, -⟩ := s3 j (hG j (List.mem_filter.mpr ⟨hj, by rw [h4]; rfl⟩))
    omega
  have hI2 : RI g2 := M2.1.ri hI0
  obtain ⟨m1, m2, m3, m4, m5⟩ := M2
  have hG2 : GH g2 N rr tr := g1.gh.on m1
  have a59 : g2.vl 59 e = ((fstN L e : Nat) : Int) := by
    rw [congrFun m1.vl e, hT.1 59 e (by decide) (by decide) (Or.inl he)]
    show TBL L 59 e = ((TBL L 59 e).toNat : Int)
    omega
  have a84 : g2.vl 84 (fstN L e) = (cf : Int) := (congrFun m1.vl _).trans hd3
  refine ev_aload_n dX11_generalises_51 rfl ?_
  refine ev_aload_n dX11_generalises_52 rfl ?_
  refine ev_getrv dX11_generalises_53 fX11_137 hI2.o hI2.n rfl hI2.v_type ?_
  refine ev_aload_n dX11_generalises_56 rfl ?_
  refine ev_getrv dX11_generalises_57 fX11_62 hI2.o hI2.n rfl hI2.v_first ?_
  refine ev_iload_n dX11_generalises_60 rfl ?_
  refine ev_ildv dX11_generalises_61 hI2.k_first hI2.n_first rfl (by omega) (by omega) a59 ?_
  refine ev_ildv dX11_generalises_62 hI2.k_type hI2.n_type rfl (by omega) (by omega) a84 ?_
  refine ev_cvv dX11_generalises_63 lX11_229 (s_starts (t := (cf : Int)) hI2 hG2.1 hG2.2.1 (by omega) (by omega)) (by decide) hI2.o hI2.n rfl rfl rfl (Nat.le_of_ble_eq_true rfl) rfl (fun g3 q => ?_)
  have ec : ((cf : Nat) : Int).toNat = cf := rfl
  rw [ec] at q
  obtain ⟨p1, p2, -⟩ := hNG.2.1 cf hd2
  have pt := hNG.2.1.rr hd2
  obtain ⟨F, stkK, hF⟩ := dfs_run (st := h.vl 42 50 + 1) (body := bdN (h.vl 66)) (x := h.vl 70) (seen := g2.vl 71) (stk := g3.vl 74) hNG.2.1 hNG.1 hd2 (by rw [q]; rfl) (g1.ht hd2)
  have hds := dfs_new (so := h.vl 66) (fr := h.vl 67) (to := h.vl 68) (rr := rr) (st := h.vl 42 50 + 1) (tr cf) (rr cf) (g2.vl 71) (h.vl 70)
  have cl := dfs_cl (st := h.vl 42 50 + 1) hNG.2.1 hNG.1 (tr cf) (rr cf) (g2.vl 71) p1 p2 pt m3
  have tp := dfs_top (st := h.vl 42 50 + 1) (body := fun _ (x : Unit) => x) hNG.2.1 (tr cf) (rr cf) (g2.vl 71) ()
  rw [dfs_fst] at hF
  -- the loop over the type
  have Kl : ∀ (F n : Nat) (v2 : AV) (stkK : Nat → Int) (g : AH), KP h g [70, 71, 74] [50, 51] → g.vl 42 50 = h.vl 42 50 + 1 → g.vl 42 51 = (n : Int) → (∀ i, i < n → 0 ≤ g.vl 74 i ∧ g.vl 74 i < (N : Int)) → loopP (h.vl 66) (h.vl 67) (h.vl 68) rr (h.vl 42 50 + 1) (bdN (h.vl 66)) (ht (tr cf) + 1) F n (g.vl 74) (g.vl 71) (g.vl 70) = some (stkK, (dfsP (h.vl 66) (h.vl 67) (h.vl 68) rr (h.vl 42 50 + 1) (fun _ (x : Unit) => x) (tr cf) (rr cf) (g2.vl 71) ()).1, (dfsP (h.vl 66) (h.vl 67) (h.vl 68) rr (h.vl 42 50 + 1) (bdN (h.vl 66)) (tr cf) (rr cf) (g2.vl 71) (h.vl 70)).2) →
      EV mX11_generalises 5 66 [rv 42, iv (e : Int), v2] [] g (on fun h1 => KP h h1 [70, 71, 74] [50, 51] ∧ h1.vl 42 50 = h.vl 42 50 + 1 ∧ h1.vl 70 = (dfsP (h.vl 66) (h.vl 67) (h.vl 68) rr (h.vl 42 50 + 1) (bdN (h.vl 66)) (tr cf) (rr cf) (g2.vl 71) (h.vl 70)).2 ∧ h1.vl 71 = (dfsP (h.vl 66) (h.vl 67) (h.vl 68) rr (h.vl 42 50 + 1) (fun _ (x : Unit) => x) (tr cf) (rr cf) (g2.vl 71) ()).1) := by
    intro F
    induction F with
    | zero => intro n v2 stkK g _ _ _ _ hp; exact absurd hp (by simp [loopP])
    | succ F ih =>
      intro n v2 stkK g hK hst hn hs hp
      have hI : RI g := hK.ri hI0
      have hGg : GH g N rr tr := g1.gh.on hK
      refine ev_aload_n dX11_generalises_66 rfl ?_
      refine ev_geti dX11_generalises_67 fX11_220 hI.o hI.n rfl ?_
      rw [hn]
      by_cases n0 : n = 0
      · skip
        subst n0
        have hd := loop_done hp
        simp only [Prod.mk.injEq] at hd
        refine ev_ifle 102 dX11_generalises_70 (fun hc => ?_) (fun h_no => (by exfalso; omega))
        exact ev_vret dX11_generalises_102 (⟨rfl, hK, hst, hd.2.2.symm, hd.2.1.symm⟩)
      refine ev_ifle 102 dX11_generalises_70 (fun h_no => (by exfalso; omega)) (fun hc => ?_)
      obtain ⟨m, rfl⟩ : ∃ m, n = m + 1 := ⟨n - 1, by omega⟩
      obtain ⟨hb, r, n', stk', seen', F', hFF, hq, hp⟩ := loop_some hp
      obtain rfl : F' = F := by omega
      refine ev_aload_n dX11_generalises_73 rfl ?_
      refine ev_cvi dX11_generalises_74 lX11_232 (s_turnc hI hGg hn (by omega) hb hs (by rw [hK.vl, hK.vl, hK.vl, hst]; exact hq)) (by decide) hI.o hI.n rfl rfl rfl (Nat.le_of_ble_eq_true rfl) rfl (fun r1 g4 q => ?_)
      obtain ⟨rfl, hK1, hn1, hs1, hse1⟩ := q
      have hr := turn_rng hNG.1 hq (by omega) hs
      have hrt := turn_ret hNG.1 hNG.2.1 hq (by omega) hs
      have hKa : KP h g4 [70, 71, 74] [50, 51] := hK.tr (hK1.wk (by decide) (by decide))
      have hI4 : RI g4 := hKa.ri hI0
      have e70 : g4.vl 70 = g.vl 70 := hK1.vl
      have e66 : g4.vl 66 = h.vl 66 := hKa.vl
      refine ev_ist2 dX11_generalises_77 ?_
      refine ev_iload_n dX11_generalises_78 rfl ?_
      by_cases hneg : r1 < 0
      · skip
        rw [if_pos hneg] at hp
        refine ev_iflt 99 dX11_generalises_79 (fun hc2 => ?_) (fun h_no => (by exfalso; omega))
        refine ev_gt 66 dX11_generalises_99 ?_
        exact ih n' _ stkK g4 hKa ((hK1.fl).trans hst) hn1 (by rw [hs1]; exact hr.1) (by rw [hs1, hse1, e70]; exact hp)
      rw [if_neg hneg] at hp
      obtain ⟨k, rfl, hkN⟩ : ∃ k : Nat, r1 = (k : Int) ∧ k < N := by
        rcases hrt with ⟨z, -⟩ | ⟨k, z1, z2, -⟩
        · omega
        · exact ⟨k, z1, z2⟩
      refine ev_iflt 99 dX11_generalises_79 (fun h_no => (by exfalso; omega)) (fun hc2 => ?_)
      refine ev_aload_n dX11_generalises_82 rfl ?_
      refine ev_getrv dX11_generalises_83 fX11_83 hI4.o hI4.n rfl hI4.v_sort ?_
      refine ev_iload_n dX11_generalises_86 rfl ?_
      refine ev_ildv dX11_generalises_87 hI4.k_sort hI4.n_sort rfl (by omega) (by omega) (show _ = g4.vl 66 k from rfl) ?_
      refine ev_iconst dX11_generalises_88 ?_
      rw [e66]
      have ek : ((k : Nat) : Int).toNat = k := rfl
      rw [ek] at hp
      by_cases v3 : h.vl 66 k = 3
      · skip
        rw [bdN, if_pos v3] at hp
        refine ev_icmpne 99 dX11_generalises_89 (fun h_no => (by exfalso; omega)) (fun hc3 => ?_)
        refine ev_aload_n dX11_generalises_92 rfl ?_
        refine ev_getrv dX11_generalises_93 fX11_95 hI4.o hI4.n rfl hI4.v_isNew ?_
        refine ev_iload_n dX11_generalises_96 rfl ?_
        refine ev_iconst dX11_generalises_97 ?_
        refine ev_istr dX11_generalises_98 hI4.k_isNew hI4.n_isNew rfl (by omega) (by omega) ?_
        refine ev_gt 66 dX11_generalises_99 ?_
        refine ih n' _ stkK _ (hKa.pr (by decide) (by decide)) ((hK1.fl).trans hst) hn1 ?_ ?_
        · rw [put_ne _ (by decide), hs1]; exact hr.1
        · rw [put_ne _ (by decide), put_ne _ (by decide), put_row, hs1, hse1, e70]; exact hp
      rw [bdN, if_neg v3] at hp
      refine ev_icmpne 99 dX11_generalises_89 (fun hc3 => ?_) (fun h_no => (by exfalso; omega))
      refine ev_gt 66 dX11_generalises_99 ?_
      exact ih n' _ stkK g4 hKa ((hK1.fl).trans hst) hn1 (by rw [hs1]; exact hr.1) (by rw [hs1, hse1, e70]; exact hp)
  have K3 : KP h g3 [70, 71, 74] [50, 51] := by rw [q]; exact ((m1.wk (by decide) (by decide)).pr (by decide) (by decide)).pf (by decide)
  refine ev_mono (Kl F 1 _ stkK g3 K3 (by rw [q]; exact m2) (by rw [q]; rfl) (fun i hi => ?_) (by rw [show g3.vl 71 = g2.vl 71 by rw [q]; exact put_ne _ (by decide), show g3.vl 70 = h.vl 70 from by rw [q, put_ne _ (by decide), put_ne _ (by decide)]; exact m1.vl]; exact hF)) fun o h1 q9 => ?_
  · have : i = 0 := by omega
    subst this
    rw [q]
    show 0 ≤ (rr cf : Int) ∧ (rr cf : Int) < (N : Int)
    omega
  · obtain ⟨rfl, q1, q2, q3, q4⟩ := q9
    refine ⟨rfl, q1, q2, T, ⟨rr, tr, τ, ⟨?_, (q1.fl).trans g1.2.1, fun c hc h3 => ?_, fun k => ?_, ?_, g1.2.2.2.2.2⟩, g7⟩, fun k hk => ?_, fun k hk => ?_, fun x hx => ?_, s5⟩
    · rw [q1.vl (r := 66), q1.vl (r := 67), q1.vl (r := 68), q1.vl (r := 69)]; exact hNG
    · rw [q1.vl (r := 66)] at h3
      have vp : VP (h.vl 66) N (c + 2) := ⟨by omega, by show c < N; exact hc, h3⟩
      have ocn : ∀ u, u < N → oc (τ c) (nmC τ (tr u)) = oc (c + 2) (tr u) := fun u hu => nm_oc hNG.inj (x := c + 2) vp (hNG.vs hu)
      have ef : oc (τ c) (S.2.1 (fstN L e)) = oc (c + 2) (tr cf) := by rw [← hd4, ← g7 cf hd2]; exact ocn cf hd2
      have ea : ((envN L e).any (fun k => oc (τ c) (S.2.2.1 k)) = true) ↔ g2.vl 71 c = h.vl 42 50 + 1 := by
        rw [m4 c hc h3, List.any_eq_true]
        constructor
        · rintro ⟨k, k1, k2⟩
          obtain ⟨-, w, w1, w2, w3⟩ := s3 k (hG k k1)
          refine ⟨k, (hP2 k).mpr (Or.inr k1), ?_⟩
          rw [w2]
          rw [← w3, ← g7 w w1] at k2
          exact (ocn w w1).symm.trans k2
        · rintro ⟨k, k1, k2⟩
          have k1 := ((hP2 k).mp k1).resolve_left (fun z => nomatch z)
          obtain ⟨-, w, w1, w2, w3⟩ := s3 k (hG k k1)
          refine ⟨k, k1, ?_⟩
          rw [w2] at k2
          rw [← w3, ← g7 w w1]
          exact (ocn w w1).trans k2
      have hsn : (dfsP (h.vl 66) (h.vl 67) (h.vl 68) rr (h.vl 42 50 + 1) (fun _ (x : Unit) => x) (tr cf) (rr cf) (g2.vl 71) ()).1 c = h.vl 42 50 + 1 ↔ g2.vl 71 c = h.vl 42 50 + 1 ∨ oc (c + 2) (tr cf) = true := by
        constructor
        · exact fun z => dfs_fr hNG.2.1 hNG.1 h3 (tr cf) (rr cf) (g2.vl 71) p1 p2 pt z
        · rintro (z | z)
          · exact dfs_up z
          · exact cl (rr cf) p1 p2 tp c (by rw [pt]; exact z)
      rw [q3, hds c]
      have o70 := g1.2.2.1 c hc h3
      show _ = if (S.2.2.2 (τ c) || (oc (τ c) (S.2.1 (fstN L e)) && !((envN L e).any (fun k => oc (τ c) (S.2.2.1 k))))) = true then 1 else 0
      by_cases z0 : g2.vl 71 c = h.vl 42 50 + 1
      · rw [if_neg (fun z => z.2.2 z0), ea.mpr z0]
        rw [o70]
        cases S.2.2.2 (τ c) <;> simp
      · have en : (envN L e).any (fun k => oc (τ c) (S.2.2.1 k)) = false := by
          cases hz : (envN L e).any (fun k => oc (τ c) (S.2.2.1 k)) with
          | false => rfl
          | true => exact absurd (ea.mp hz) z0
        rw [en, ef]
        by_cases z1 : oc (c + 2) (tr cf) = true
        · rw [if_pos ⟨h3, hsn.mpr (Or.inr z1), z0⟩, z1]
          cases S.2.2.2 (τ c) <;> simp
        · rw [if_neg (fun z => (hsn.mp z.2.1).elim z0 z1), o70]
          have : oc (c + 2) (tr cf) = false := by simpa using z1
          rw [this]
          cases S.2.2.2 (τ c) <;> simp
    · rw [q4, q2]
      rcases dfs_or (so := h.vl 66) (fr := h.vl 67) (to := h.vl 68) (rr := rr) (st := h.vl 42 50 + 1) (tr cf) (rr cf) (g2.vl 71) k with z | z
      · rw [z]; exact m5 k
      · rw [z]; exact Int.le_refl _
    · rw [q1.vl (r := 66)]; exact g1.2.2.2.2.1
    · rw [q1.vl (r := 84)]; exact s2 k hk
    · rw [q1.vl (r := 85)]; exact s3 k hk
    · have hx : (S.2.2.2 x || (oc x (S.2.1 (fstN L e)) && !((envN L e).any (fun k => oc x (S.2.2.1 k))))) = true := hx
      rw [Bool.or_eq_true] at hx
      rcases hx with hx | hx
      · exact s4 x hx
      · rw [Bool.and_eq_true] at hx
        have hx := hx.1
        rw [← hd4, ← g7 cf hd2] at hx
        rcases oc_nm (hNG.vs hd2) hx with h9 | ⟨y, hy, h9⟩
        · exact Nat.lt_of_lt_of_le h9 s5
        · rw [h9]; exact (hNG.2.2.2.2 (y - 2) hy.2.1 hy.2.2).2
