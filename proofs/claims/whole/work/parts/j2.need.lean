/-! the class: a type is needed; is there one, why not, its numbers -/
section SpF
variable {h : AH} {a K : Nat → Nat} {L : List Nd} {S : IS} {M sh b : Nat} {T : Nat → TE} {τ : Nat → Nat}
theorem s_spellF {c : Nat} (q : FdS L S h a K M T τ) (hc : c < M) (hsz : sz (T c) ≤ 200) (hs : ShC h a sh b 200) : CV mX9_spell 5 [rv 9, iv (c : Int), rv (sh : Int), iv (-1)] h (on fun h1 => ∃ a1 K1, YX h a K h1 a1 K1 [10, 12] [11] (SpX sh b) 0 ∧ (∀ k, k ≠ 10 → K1 k = K k) ∧ ShW h1 a1 sh b 200 (cnT (T c) []).1) := by
  obtain ⟨⟨s1, s2, ⟨rr, tr, G, s3⟩, s4, -⟩, hN, -⟩ := q
  have szt : sz (tr c) ≤ 200 := by
    rw [← s3 c hc] at hsz
    rw [show sz (nmC τ (tr c)) = sz (tr c) from nm_sz _] at hsz
    exact hsz
  have e : (cnA (fun _ => false) (tr c) []).1 = (cnT (T c) []).1 := by
    rw [cnA_cn, ← s3 c hc]
    have := (cn_nm (P := VP (soY (h.vl (a 0))) M) G.inj (tr c) [] (G.vs hc) (fun y hy => nomatch hy)).1
    exact (congrArg Prod.fst this).symm
  rw [← e]
  refine s_spell s1 s2 G.w (by omega) hc szt hs (Nat.le_refl _) (fun x hx _ _ => ⟨fun z => ?_, fun z => Bool.noConfusion z⟩)
  have := (s4.2 x hx).1
  omega
abbrev ShY (sh : Nat) : Nat → Prop := fun c => c = sh ∨ c = sh + 1
theorem YA.shc (g : YA h a K) (hs : sh = 27 ∨ sh = 29) : ShC h a sh (sh + 1) 200 := by
  rcases hs with rfl | rfl
  · exact ⟨⟨g.1.k27, g.1.v27_0, g.1.k28, by decide⟩, ⟨g.no (by decide), g.no (by decide), by decide⟩, by decide, fun i => cis_c (by decide)⟩
  · exact ⟨⟨g.1.k29, g.1.v29_0, g.1.k30, by decide⟩, ⟨g.no (by decide), g.no (by decide), by decide⟩, by decide, fun i => cis_c (by decide)⟩
/-- a type was spelled into one of the two shapes -/
def SpQ (L : List Nd) (S : IS) (h : AH) (a K : Nat → Nat) (M : Nat) (T : Nat → TE) (τ : Nat → Nat) (sh : Nat) (R : TE) (h1 : AH) : Prop := ∃ a1 K1, QF h a K h1 a1 K1 (ShY sh) ∧ FdS L S h1 a1 K1 M T τ ∧ ShW h1 a1 sh (sh + 1) 200 (cnT R []).1
theorem spq {h1 : AH} {R : TE} {a1 K1 : Nat → Nat} (q : FdS L S h a K M T τ) (f : FSc h a) (k : KEq K) (hs : sh = 27 ∨ sh = 29) (c : YX h a K h1 a1 K1 [10, 12] [11] (SpX sh (sh + 1)) 0) (hK : ∀ k, k ≠ 10 → K1 k = K k) (w : ShW h1 a1 sh (sh + 1) 200 (cnT R []).1) : SpQ L S h a K M T τ sh R h1 := by
  have g := q.1.1
  have x26 : ¬ SpX sh (sh + 1) 26 := fun z => by have z : 26 = sh ∨ 26 = sh + 1 := z; omega
  have x23 : ¬ SpX sh (sh + 1) 23 := fun z => by have z : 23 = sh ∨ 23 = sh + 1 := z; omega
  refine ⟨a1, K1, (QF.rf g f k).yx c (fun y z => Or.inr z) x26 (fun s hs2 z => by have z : s = sh ∨ s = sh + 1 := z; omega) ?_, ⟨q.1.xt c (fun j hj => hK j (by omega)), q.2.1, fun j hj => ?_⟩, w⟩
  · obtain ⟨⟨k1, k2, k3⟩, k4, k5⟩ := k
    exact ⟨⟨by rw [hK 1 (by decide), hK 0 (by decide)]; exact k1, by rw [hK 2 (by decide), hK 0 (by decide)]; exact k2, by rw [hK 3 (by decide), hK 0 (by decide)]; exact k3⟩, by rw [hK 7 (by decide), hK 6 (by decide)]; exact k4, by rw [hK 8 (by decide), hK 6 (by decide)]; exact k5⟩
  · rw [c.v (g.no (by decide)) x23]
    exact q.2.2 j hj
set_option maxRecDepth 100000 in
theorem q_whole {c : Nat} {R : TE} (q : FdS L S h a K M T τ) (f : FSc h a) (k : KEq K) (r8 : h.vl 8 8 = (c : Int)) (hc : c < M) (hT : T c = R) (hsz : sz R ≤ 200) (hs : sh = 27 ∨ sh = 29) : CV mX0_spellWhole 6 [rv 8, rv (sh : Int)] h (on (SpQ L S h a K M T τ sh R)) := by
  have g := q.1.1
  have v0 := g.1.v8_0
  refine cv_of cdX0_spellWhole ?_
  show EV _ _ 0 [rv 8, rv (sh : Int)] [] h _
  refine ev_aload_n dX0_spellWhole_0 rfl ?_
  refine ev_getrv dX0_spellWhole_1 fX0_12 g.1.k8 g.1.n8 rfl v0 ?_
  refine ev_aload_n dX0_spellWhole_4 rfl ?_
  refine ev_getiv dX0_spellWhole_5 fX0_115 g.1.k8 g.1.n8 rfl r8 ?_
  refine ev_aload_n dX0_spellWhole_8 rfl ?_
  refine ev_iconst dX0_spellWhole_9 ?_
  refine ev_cvv dX0_spellWhole_10 lX0_118 (s_spellF q hc (by rw [hT]; exact hsz) (g.shc hs)) (by decide) g.1.k9 g.1.n9 rfl rfl rfl (Nat.le_of_ble_eq_true rfl) rfl (fun h1 q1 => ?_)
  exact ev_vret dX0_spellWhole_13 (⟨rfl, by obtain ⟨a1, K1, c1, c2, c3⟩ := q1; rw [hT] at c3; exact spq q f k hs c1 c2 c3⟩)
set_option maxRecDepth 100000 in
theorem q_node {e : Nat} (q : FdS L S h a K M T τ) (f : FSc h a) (k : KEq K) (he : e < L.length) (hsz : sz (S.2.1 e) ≤ 200) (hs : sh = 27 ∨ sh = 29) : CV mX0_spellNode 6 [rv 8, iv (e : Int), rv (sh : Int)] h (on (SpQ L S h a K M T τ sh (S.2.1 e))) := by
  have g := q.1.1
  have v0 := g.1.v8_0
  have v2 := g.1.v8_2
  obtain ⟨e9, c, c1, c2, c3⟩ := q.2.2 e he
  refine cv_of cdX0_spellNode ?_
  show EV _ _ 0 [rv 8, iv (e : Int), rv (sh : Int)] [] h _
  refine ev_aload_n dX0_spellNode_0 rfl ?_
  refine ev_getrv dX0_spellNode_1 fX0_12 g.1.k8 g.1.n8 rfl v0 ?_
  refine ev_aload_n dX0_spellNode_4 rfl ?_
  refine ev_getrv dX0_spellNode_5 fX0_25 g.1.k8 g.1.n8 rfl v2 ?_
  refine ev_iload_n dX0_spellNode_8 rfl ?_
  refine ev_csi dX0_spellNode_9 lX0_81 (s_atI g.1.k23 g.1.n23 (by decide)) (by decide) rfl rfl (Nat.le_of_ble_eq_true rfl) rfl (fun r z q9 => ?_)
  obtain ⟨r1, eq⟩ := q9
  rw [r1, eq, if_pos (by omega), show ((e : Nat) : Int).toNat = e from rfl, c2]
  refine ev_aload_n dX0_spellNode_12 rfl ?_
  refine ev_iconst dX0_spellNode_13 ?_
  refine ev_cvv dX0_spellNode_14 lX0_118 (s_spellF q c1 (by rw [c3]; exact hsz) (g.shc hs)) (by decide) g.1.k9 g.1.n9 rfl rfl rfl (Nat.le_of_ble_eq_true rfl) rfl (fun h1 q1 => ?_)
  exact ev_vret dX0_spellNode_17 (⟨rfl, by obtain ⟨a1, K1, d1, d2, d3⟩ := q1; rw [c3] at d3; exact spq q f k hs d1 d2 d3⟩)
end SpF
section Ndd
variable {h : AH} {a K : Nat → Nat} {N : Nat} {tc : Nat → Nat} {LL : Nat → List Nd} {kp : Nat → Option TE} {l sh : Nat}
/-- a lesson has a type -/
def TyP (L : List Nd) (kp : Nat → Option TE) : Prop := ∃ r S, fnR L kp r S ∧ r.1 = 0
/-- what a question leaves that refuses -/
def QR (h : AH) (a K : Nat → Nat) (Y : Nat → Prop) (h1 : AH) : Prop := ∃ h2 a1 K1, h1 = h2.thr ∧ QF h a K h2 a1 K1 Y
theorem QR.wk {Y Y' : Nat → Prop} {h1 : AH} (q : QR h a K Y h1) (hY : ∀ c, Y c → Y' c) : QR h a K Y' h1 := by
  obtain ⟨h2, a1, K1, e, q⟩ := q
  exact ⟨h2, a1, K1, e, q.wk hY⟩
/-- the type of a lesson stands in a shape -/
def NdQ (h : AH) (a K : Nat → Nat) (L : List Nd) (kp : Nat → Option TE) (sh : Nat) (h1 : AH) : Prop := ∃ r S M T τ a1 K1, fnR L kp r S ∧ r.1 = 0 ∧ sz (S.2.1 0) ≤ 200 ∧ QF h a K h1 a1 K1 (ShY sh) ∧ FdS L S h1 a1 K1 M T τ ∧ ShW h1 a1 sh (sh + 1) 200 (cnT (S.2.1 0) []).1
theorem ShW.t {s b R : Nat} {T : TE} (w : ShW h a s b R (cnT T []).1) : ShT h s T := ⟨b, R, by have := w.1; rw [cn_len] at this; exact this, fun i hi => by rw [Nat.zero_add]; exact w.2.2.2 i hi⟩
theorem ndq {h1 h2 : AH} {a1 K1 : Nat → Nat} {L : List Nd} {r : IR} {S : IS} {M : Nat} {T : Nat → TE} {τ : Nat → Nat} (h1' : fnR L kp r S) (h2' : r.1 = 0) (h3 : sz (S.2.1 0) ≤ 200) (q : QF h a K h1 a1 K1 (fun _ => False)) (s : SpQ L S h1 a1 K1 M T τ sh (S.2.1 0) h2) : NdQ h a K L kp sh h2 := by
  obtain ⟨a2, K2, s1, s2, s3⟩ := s
  exact ⟨r, S, M, T, τ, a2, K2, h1', h2', h3, (q.wk (fun _ z => z.elim)).tr s1, s2, s3⟩
set_option maxRecDepth 100000 in
theorem g_needT1 (n : QN h a K N tc LL kp) (o : LkO N LL kp) (hl : l < N) (hs : sh = 27 ∨ sh = 29) (ok : TyP (LL l) kp) : CV mX10_needType 10 [rv 0, rv (tc l : Int), rv (sh : Int)] h (on (NdQ h a K (LL l) kp sh)) := by
  have hC := n.1.1
  have hne : 0 < (LL l).length := List.length_pos_iff.mpr (o.1 l hl).2.2.2.1
  refine cv_of cdX10_needType ?_
  show EV _ _ 0 [rv 0, rv (tc l : Int), rv (sh : Int)] [] h _
  refine ev_aload_n dX10_needType_0 rfl ?_
  refine ev_getrv dX10_needType_1 fX10_29 hC.k0 hC.n0 rfl hC.v0_3 ?_
  refine ev_aload_n dX10_needType_4 rfl ?_
  refine ev_aload_n dX10_needType_5 rfl ?_
  refine ev_getrv dX10_needType_6 fX10_48 hC.k0 hC.n0 rfl hC.v0_6 ?_
  refine ev_iconst dX10_needType_9 ?_
  refine ev_cvi dX10_needType_10 lX10_154 (q_go n o hl) (by decide) hC.k8 hC.n8 rfl rfl rfl (Nat.le_of_ble_eq_true rfl) rfl (fun x h1 q => ?_)
  obtain ⟨r, S, a1, K1, q1, q2, q3, q4, q5⟩ := q
  obtain ⟨r', S', w1, w2⟩ := ok
  obtain ⟨rfl, -⟩ := fnR_det q1 w1
  rw [if_pos w2] at q2
  obtain ⟨M, T, τ, c, f1, f2, f3, f4⟩ := q5 w2
  have hC1 := q3.g.1
  have z0 := fnR_sz q1 w2 0 hne
  refine ev_ifne 27 dX10_needType_13 (fun hb => ?_) (fun h_no => (by exfalso; omega))
  refine ev_aload_n dX10_needType_27 rfl ?_
  refine ev_getrv dX10_needType_28 fX10_29 hC1.k0 hC1.n0 rfl hC1.v0_3 ?_
  refine ev_aload_n dX10_needType_31 rfl ?_
  refine ev_cvv dX10_needType_32 lX10_189 (q_whole f1 q3.2.1 q3.2.2.2 f2 f3 f4 z0 hs) (by decide) hC1.k8 hC1.n8 rfl rfl rfl (Nat.le_of_ble_eq_true rfl) rfl (fun h2 q9 => ?_)
  exact ev_vret dX10_needType_35 (⟨rfl, ndq q1 w2 z0 q3 q9⟩)
set_option maxRecDepth 100000 in
theorem g_needT0 (n : QN h a K N tc LL kp) (o : LkO N LL kp) (hl : l < N) (no : ¬ TyP (LL l) kp) : CV mX10_needType 10 [rv 0, rv (tc l : Int), rv (sh : Int)] h (fun oo h1 => oo = xv 4 ∧ ∃ r S, fnR (LL l) kp r S ∧ r.1 ≠ 0 ∧ QR h a K (fun _ => False) h1) := by
  have hC := n.1.1
  refine cv_of cdX10_needType ?_
  show EV _ _ 0 [rv 0, rv (tc l : Int), rv (sh : Int)] [] h _
  refine ev_aload_n dX10_needType_0 rfl ?_
  refine ev_getrv dX10_needType_1 fX10_29 hC.k0 hC.n0 rfl hC.v0_3 ?_
  refine ev_aload_n dX10_needType_4 rfl ?_
  refine ev_aload_n dX10_needType_5 rfl ?_
  refine ev_getrv dX10_needType_6 fX10_48 hC.k0 hC.n0 rfl hC.v0_6 ?_
  refine ev_iconst dX10_needType_9 ?_
  refine ev_cvi dX10_needType_10 lX10_154 (q_go n o hl) (by decide) hC.k8 hC.n8 rfl rfl rfl (Nat.le_of_ble_eq_true rfl) rfl (fun x h1 q => ?_)
  obtain ⟨r, S, a1, K1, q1, q2, q3, q4, q5⟩ := q
  have r0 : r.1 ≠ 0 := fun z => no ⟨r, S, q1, z⟩
  rw [if_neg r0] at q2
  have hC1 := q3.g.1
  refine ev_ifne 27 dX10_needType_13 (fun h_no => (by exfalso; omega)) (fun hb => ?_)
  exact ev_throww _ tk_4 (List.mem_of_getElem? (i := 31) rfl) dX10_needType_16 dX10_needType_19 dX10_needType_20 dX10_needType_23 dX10_needType_26 rfl (Nat.le_of_ble_eq_true rfl) (⟨rfl, r, S, q1, r0, h1, a1, K1, rfl, q3⟩)
set_option maxRecDepth 100000 in
theorem g_spells (n : QN h a K N tc LL kp) (o : LkO N LL kp) (hl : l < N) (hs : sh = 27 ∨ sh = 29) : CV mX10_spells 10 [rv 0, rv (tc l : Int), rv (sh : Int)] h (oi fun x h1 => (x = 1 ∧ NdQ h a K (LL l) kp sh h1) ∨ (x = 0 ∧ ∃ r S a1 K1, fnR (LL l) kp r S ∧ r.1 ≠ 0 ∧ QF h a K h1 a1 K1 (ShY sh))) := by
  have hC := n.1.1
  have hne : 0 < (LL l).length := List.length_pos_iff.mpr (o.1 l hl).2.2.2.1
  refine cv_of cdX10_spells ?_
  show EV _ _ 0 [rv 0, rv (tc l : Int), rv (sh : Int)] [] h _
  refine ev_aload_n dX10_spells_0 rfl ?_
  refine ev_ifnull 20 dX10_spells_1 (fun h_no => (by exfalso; omega)) (fun hb0 => ?_)
  refine ev_aload_n dX10_spells_4 rfl ?_
  refine ev_getrv dX10_spells_5 fX10_29 hC.k0 hC.n0 rfl hC.v0_3 ?_
  refine ev_aload_n dX10_spells_8 rfl ?_
  refine ev_aload_n dX10_spells_9 rfl ?_
  refine ev_getrv dX10_spells_10 fX10_48 hC.k0 hC.n0 rfl hC.v0_6 ?_
  refine ev_iconst dX10_spells_13 ?_
  refine ev_cvi dX10_spells_14 lX10_154 (q_go n o hl) (by decide) hC.k8 hC.n8 rfl rfl rfl (Nat.le_of_ble_eq_true rfl) rfl (fun x h1 q => ?_)
  obtain ⟨r, S, a1, K1, q1, q2, q3, q4, q5⟩ := q
  have hC1 := q3.g.1
  by_cases r0 : r.1 = 0
  · skip
    rw [if_pos r0] at q2
    obtain ⟨M, T, τ, c, f1, f2, f3, f4⟩ := q5 r0
    have z0 := fnR_sz q1 r0 0 hne
    refine ev_ifne 22 dX10_spells_17 (fun hb => ?_) (fun h_no => (by exfalso; omega))
    refine ev_aload_n dX10_spells_22 rfl ?_
    refine ev_getrv dX10_spells_23 fX10_29 hC1.k0 hC1.n0 rfl hC1.v0_3 ?_
    refine ev_aload_n dX10_spells_26 rfl ?_
    refine ev_cvv dX10_spells_27 lX10_189 (q_whole f1 q3.2.1 q3.2.2.2 f2 f3 f4 z0 hs) (by decide) hC1.k8 hC1.n8 rfl rfl rfl (Nat.le_of_ble_eq_true rfl) rfl (fun h2 q9 => ?_)
    refine ev_iconst dX10_spells_30 ?_
    exact ev_zret dX10_spells_31 (⟨_, rfl, Or.inl ⟨rfl, ndq q1 r0 z0 q3 q9⟩⟩) (Or.inr rfl)
  · skip
    rw [if_neg r0] at q2
    refine ev_ifne 22 dX10_spells_17 (fun h_no => (by exfalso; omega)) (fun hb => ?_)
    refine ev_iconst dX10_spells_20 ?_
    exact ev_zret dX10_spells_21 (⟨_, rfl, Or.inr ⟨rfl, r, S, a1, K1, q1, r0, q3.wk (fun _ z => z.elim)⟩⟩) (Or.inl rfl)
end Ndd
section Ty1
variable {h : AH} {a K : Nat → Nat} {N : Nat} {tc : Nat → Nat} {LL : Nat → List Nd} {kp : Nat → Option TE} {p w : Int}
/-- the cells of the two shapes -/
abbrev QY : Nat → Prop := fun c => 27 ≤ c ∧ c ≤ 30
theorem shY_q {sh : Nat} (hs : sh = 27 ∨ sh = 29) : ∀ c, ShY sh c → QY c := fun c z => by
  have z : c = sh ∨ c = sh + 1 := z
  show 27 ≤ c ∧ c ≤ 30
  omega
set_option maxRecDepth 100000 in
theorem g_isTyped (n : QN h a K N tc LL kp) (o : LkO N LL kp) : CV mX10_isTyped 10 [rv 0, iv p] h (fun oo h1 => (¬ (0 ≤ p ∧ p < (N : Int)) ∧ oo = xv 2 ∧ h1 = h.thr) ∨ ((0 ≤ p ∧ p < (N : Int)) ∧ ∃ r S a1 K1, fnR (LL p.toNat) kp r S ∧ oo = iv (if r.1 = 0 then 1 else 0) ∧ QF h a K h1 a1 K1 QY)) := by
  have hC := n.1.1
  have hS := n.sn
  refine cv_of cdX10_isTyped ?_
  show EV _ _ 0 [rv 0, iv p] [] h _
  by_cases hp : 0 ≤ p ∧ p < (N : Int)
  · skip
    refine ev_aload_n dX10_isTyped_0 rfl ?_
    refine ev_getrv dX10_isTyped_1 fX10_29 hC.k0 hC.n0 rfl hC.v0_3 ?_
    refine ev_aload_n dX10_isTyped_4 rfl ?_
    refine ev_iload_n dX10_isTyped_5 rfl ?_
    refine ev_cvr dX10_isTyped_6 lX10_126 (g_termOf1 hS hp) (by decide) hC.k0 hC.n0 rfl rfl rfl (Nat.le_of_ble_eq_true rfl) rfl (fun r h1 q => ?_)
    obtain ⟨rfl, e⟩ := q
    rw [e]
    refine ev_aload_n dX10_isTyped_9 rfl ?_
    refine ev_getrv dX10_isTyped_10 fX10_48 hC.k0 hC.n0 rfl hC.v0_6 ?_
    refine ev_iconst dX10_isTyped_13 ?_
    refine ev_cvi dX10_isTyped_14 lX10_154 (q_go n o (l := p.toNat) (by omega)) (by decide) hC.k8 hC.n8 rfl rfl rfl (Nat.le_of_ble_eq_true rfl) rfl (fun x h1 q => ?_)
    obtain ⟨r, S, a1, K1, q1, q2, q3, q4, q5⟩ := q
    exact ev_zret dX10_isTyped_17 (Or.inr ⟨hp, r, S, a1, K1, q1, by rw [q2], q3.wk (fun _ z => z.elim)⟩) (by rw [q2]; split; exact Or.inr rfl; exact Or.inl rfl)
  · skip
    refine ev_aload_n dX10_isTyped_0 rfl ?_
    refine ev_getrv dX10_isTyped_1 fX10_29 hC.k0 hC.n0 rfl hC.v0_3 ?_
    refine ev_aload_n dX10_isTyped_4 rfl ?_
    refine ev_iload_n dX10_isTyped_5 rfl ?_
    refine ev_callv dX10_isTyped_6 lX10_126 (g_termOf0 hS hp) (by decide) (by decide) (by have := hC.n0; omega) hC.k0 rfl rfl (Nat.le_of_ble_eq_true rfl) rfl (fun o h1 q => by obtain ⟨rfl, rfl⟩ := q; exact ⟨fun _ => Or.inl ⟨hp, rfl, rfl⟩, fun e => absurd rfl e⟩) (Or.inr q_1326)
set_option maxRecDepth 100000 in
theorem s_needM1 (hw : 0 ≤ w ∧ w ≤ 4) : CV mX10_needMeasure 2 [iv w] h (on fun h1 => h1 = h) := by
  refine cv_of cdX10_needMeasure ?_
  show EV _ _ 0 [iv w] [] h _
  refine ev_iload_n dX10_needMeasure_0 rfl ?_
  refine ev_iflt 9 dX10_needMeasure_1 (fun h_no => (by exfalso; omega)) (fun hb => ?_)
  refine ev_iload_n dX10_needMeasure_4 rfl ?_
  refine ev_iconst dX10_needMeasure_5 ?_
  refine ev_icmple 20 dX10_needMeasure_6 (fun hb2 => ?_) (fun h_no => (by exfalso; omega))
  exact ev_vret dX10_needMeasure_20 (⟨rfl, rfl⟩)
set_option maxRecDepth 100000 in
theorem s_needM0 (hw : ¬ (0 ≤ w ∧ w ≤ 4)) : CV mX10_needMeasure 2 [iv w] h (fun oo h1 => oo = xv 0 ∧ h1 = h.thr) := by
  refine cv_of cdX10_needMeasure ?_
  show EV _ _ 0 [iv w] [] h _
  refine ev_iload_n dX10_needMeasure_0 rfl ?_
  by_cases c : w < 0
  · skip
    refine ev_iflt 9 dX10_needMeasure_1 (fun hb => ?_) (fun h_no => (by exfalso; omega))
    exact ev_throww _ tk_0 (List.mem_of_getElem? (i := 29) rfl) dX10_needMeasure_9 dX10_needMeasure_12 dX10_needMeasure_13 dX10_needMeasure_16 dX10_needMeasure_19 rfl (Nat.le_of_ble_eq_true rfl) (⟨rfl, rfl⟩)
  · skip
    refine ev_iflt 9 dX10_needMeasure_1 (fun h_no => (by exfalso; omega)) (fun hb => ?_)
    refine ev_iload_n dX10_needMeasure_4 rfl ?_
    refine ev_iconst dX10_needMeasure_5 ?_
    refine ev_icmple 20 dX10_needMeasure_6 (fun h_no => (by exfalso; omega)) (fun hb2 => ?_)
    exact ev_throww _ tk_0 (List.mem_of_getElem? (i := 29) rfl) dX10_needMeasure_9 dX10_needMeasure_12 dX10_needMeasure_13 dX10_needMeasure_16 dX10_needMeasure_19 rfl (Nat.le_of_ble_eq_true rfl) (⟨rfl, rfl⟩)
set_option maxRecDepth 100000 in
theorem g_typeOf (n : QN h a K N tc LL kp) (o : LkO N LL kp) : CV mX10_typeOf 11 [rv 0, iv p, iv w] h (fun oo h1 => (¬ (0 ≤ p ∧ p < (N : Int)) ∧ oo = xv 2 ∧ h1 = h.thr) ∨ ((0 ≤ p ∧ p < (N : Int)) ∧ ¬ (0 ≤ w ∧ w ≤ 4) ∧ oo = xv 0 ∧ h1 = h.thr) ∨ ((0 ≤ p ∧ p < (N : Int)) ∧ (0 ≤ w ∧ w ≤ 4) ∧ ∃ r S, fnR (LL p.toNat) kp r S ∧ ((r.1 ≠ 0 ∧ oo = xv 4 ∧ QR h a K QY h1) ∨ (r.1 = 0 ∧ oo = iv (nuF (S.2.1 0) w) ∧ ∃ a1 K1, QF h a K h1 a1 K1 QY)))) := by
  have hC := n.1.1
  have hS := n.sn
  refine cv_of cdX10_typeOf ?_
  show EV _ _ 0 [rv 0, iv p, iv w, uv] [] h _
  by_cases hp : 0 ≤ p ∧ p < (N : Int)
  · skip
    refine ev_aload_n dX10_typeOf_0 rfl ?_
    refine ev_iload_n dX10_typeOf_1 rfl ?_
    refine ev_cvr dX10_typeOf_2 lX10_126 (g_termOf1 hS hp) (by decide) hC.k0 hC.n0 rfl rfl rfl (Nat.le_of_ble_eq_true rfl) rfl (fun r h1 q => ?_)
    obtain ⟨rfl, e⟩ := q
    rw [e]
    refine ev_ast3 dX10_typeOf_5 ?_
    refine ev_iload_n dX10_typeOf_6 rfl ?_
    by_cases hw : 0 ≤ w ∧ w ≤ 4
    · skip
      refine ev_csv dX10_typeOf_7 lX10_174 (s_needM1 hw) (by decide) rfl rfl (Nat.le_of_ble_eq_true rfl) rfl (fun h1 q => ?_)
      rw [q]
      refine ev_aload_n dX10_typeOf_10 rfl ?_
      refine ev_aload_n dX10_typeOf_11 rfl ?_
      refine ev_aload_n dX10_typeOf_12 rfl ?_
      refine ev_getrv dX10_typeOf_13 fX10_38 hC.k0 hC.n0 rfl hC.v0_4 ?_
      by_cases ok : TyP (LL p.toNat) kp
      · skip
        refine ev_cvv dX10_typeOf_16 lX10_177 (g_needT1 n o (l := p.toNat) (by omega) (sh := 27) (by decide) ok) (by decide) hC.k0 hC.n0 rfl rfl rfl (Nat.le_of_ble_eq_true rfl) rfl (fun h1 q => ?_)
        obtain ⟨r, S, M, T, τ, a1, K1, q1, q2, q3, q4, q5, q6⟩ := q
        have hC1 := q4.g.1
        refine ev_aload_n dX10_typeOf_19 rfl ?_
        refine ev_getrv dX10_typeOf_20 fX10_38 hC1.k0 hC1.n0 rfl hC1.v0_4 ?_
        refine ev_iload_n dX10_typeOf_23 rfl ?_
        refine ev_cvi dX10_typeOf_24 lX10_181 (s_measure q6.t hw) (by decide) hC1.k27 hC1.n27 rfl rfl rfl (Nat.le_of_ble_eq_true rfl) rfl (fun x h2 q => ?_)
        obtain ⟨rfl, e2⟩ := q
        rw [e2]
        exact ev_iret dX10_typeOf_27 (Or.inr (Or.inr ⟨hp, hw, r, S, q1, Or.inr ⟨q2, rfl, a1, K1, q4.wk (shY_q (by decide))⟩⟩))
      · skip
        refine ev_callv dX10_typeOf_16 lX10_177 (g_needT0 n o (l := p.toNat) (by omega) ok) (by decide) (by decide) (by have := hC.n0; omega) hC.k0 rfl rfl (Nat.le_of_ble_eq_true rfl) rfl (fun o h1 q => by obtain ⟨rfl, q⟩ := q; exact ⟨fun _ => Or.inr (Or.inr ⟨hp, hw, by obtain ⟨r, S, q1, q2, q3⟩ := q; exact ⟨r, S, q1, Or.inl ⟨q2, rfl, q3.wk (fun _ z => z.elim)⟩⟩⟩), fun e => absurd rfl e⟩) (Or.inr q_1437)
    · skip
      refine ev_calls dX10_typeOf_7 lX10_174 (s_needM0 hw) (by decide) rfl rfl (Nat.le_of_ble_eq_true rfl) rfl (fun o h1 q => by obtain ⟨rfl, rfl⟩ := q; exact ⟨fun _ => Or.inr (Or.inl ⟨hp, hw, rfl, rfl⟩), fun e => absurd rfl e⟩) (Or.inr q_1433)
  · skip
    refine ev_aload_n dX10_typeOf_0 rfl ?_
    refine ev_iload_n dX10_typeOf_1 rfl ?_
    refine ev_callv dX10_typeOf_2 lX10_126 (g_termOf0 hS hp) (by decide) (by decide) (by have := hC.n0; omega) hC.k0 rfl rfl (Nat.le_of_ble_eq_true rfl) rfl (fun o h1 q => by obtain ⟨rfl, rfl⟩ := q; exact ⟨fun _ => Or.inl ⟨hp, rfl, rfl⟩, fun e => absurd rfl e⟩) (Or.inr q_1326)
end Ty1
