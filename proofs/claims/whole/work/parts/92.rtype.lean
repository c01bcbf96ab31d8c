/-! the reference's graph of types, told by names alone -/
def acN (so : Nat → Int) : Nat → Nat
  | 0 => 0
  | n + 1 => acN so n + (if so n = 2 then 1 else 0)
theorem acN_cg {so so' : Nat → Int} : ∀ N, (∀ t, t < N → so' t = so t) → acN so' N = acN so N
  | 0, _ => rfl
  | n + 1, h => by rw [acN, acN, acN_cg n (fun t ht0 => h t (by omega)), h n (by omega)]
theorem acN_li {so : Nat → Int} : ∀ N, ∃ A : List Nat, A.length = acN so N ∧ ∀ t, t < N → so t = 2 → t ∈ A
  | 0 => ⟨[], rfl, fun t h => absurd h (Nat.not_lt_zero t)⟩
  | n + 1 => by
    obtain ⟨A, h1, h2⟩ := acN_li (so := so) n
    by_cases e : so n = 2
    · refine ⟨n :: A, by rw [List.length_cons, h1, acN, if_pos e], fun t ht0 hs => ?_⟩
      by_cases q : t = n
      · rw [q]; exact List.mem_cons_self
      · exact List.mem_cons_of_mem _ (h2 t (by omega) hs)
    · refine ⟨A, by rw [h1, acN, if_neg e]; rfl, fun t ht0 hs => ?_⟩
      by_cases q : t = n
      · rw [q] at hs; exact absurd hs e
      · exact h2 t (by omega) hs
theorem ht_ac {so fr to li : Nat → Int} {N : Nat} {rr : Nat → Nat} {tr : Nat → TE} (hg : GW so fr to li N rr) (hT : GT so fr to rr N tr) {t : Nat} (h : t < N) : ht (tr t) ≤ acN so N + 1 := by
  obtain ⟨A, h1, h2⟩ := acN_li (so := so) N
  have hC : Cl so fr to N (fun _ => True) A rr := fun t ht0 _ => ⟨trivial, fun _ k => ⟨⟨trivial, trivial⟩, h2 t ht0 k⟩⟩
  have := Cl_ht hT hg hC h trivial
  omega
/-- the graph in h has the named trees T; aB bounds its arrows -/
def RT (h : AH) (N aB : Nat) (rr : Nat → Nat) (tr : Nat → TE) (τ : Nat → Nat) (nv : Nat) (gn : Nat → Bool) : Prop :=
  NG (h.vl 66) (h.vl 67) (h.vl 68) (h.vl 69) N rr tr τ nv ∧ h.vl 42 49 = (N : Int) ∧ (∀ c, c < N → h.vl 66 c = 3 → h.vl 70 c = if gn (τ c) = true then 1 else 0) ∧ (∀ k, h.vl 71 k ≤ h.vl 42 50) ∧ (acN (h.vl 66) N ≤ aB ∧ aB ≤ 9800) ∧ N ≤ 20000
def RN (h : AH) (N aB nv : Nat) (gn : Nat → Bool) (T : Nat → TE) : Prop := ∃ rr tr τ, RT h N aB rr tr τ nv gn ∧ ∀ c, c < N → nmC τ (tr c) = T c
theorem RT.gh {h : AH} {N aB : Nat} {rr : Nat → Nat} {tr : Nat → TE} {τ : Nat → Nat} {nv : Nat} {gn : Nat → Bool} (g : RT h N aB rr tr τ nv gn) : GH h N rr tr := ⟨g.2.2.2.2.2, g.1.1, g.1.2.1⟩
theorem RT.ht {h : AH} {N aB : Nat} {rr : Nat → Nat} {tr : Nat → TE} {τ : Nat → Nat} {nv : Nat} {gn : Nat → Bool} (g : RT h N aB rr tr τ nv gn) {t : Nat} (h0 : t < N) : ht (tr t) ≤ 9900 := by
  have := ht_ac g.1.1 g.1.2.1 h0
  have := g.2.2.2.2.1
  omega
theorem RN.cg {h : AH} {N aB nv : Nat} {gn : Nat → Bool} {T T' : Nat → TE} (g : RN h N aB nv gn T) (e : ∀ c, c < N → T c = T' c) : RN h N aB nv gn T' := by
  obtain ⟨rr, tr, τ, g1, g2⟩ := g
  exact ⟨rr, tr, τ, g1, fun c hc => (g2 c hc).trans (e c hc)⟩
/-- what changes other rows leaves the graph -/
theorem RN.kp {h h1 : AH} {N aB nv : Nat} {gn : Nat → Bool} {T : Nat → TE} {A F : List Nat} (g : RN h N aB nv gn T) (k : KP h h1 A F) (hA : A.all (fun a => decide (a ∉ [66, 67, 68, 69, 70])) = true := by decide) (hF : 49 ∉ F := by decide) (hs : ∀ k, h1.vl 71 k ≤ h1.vl 42 50) : RN h1 N aB nv gn T := by
  obtain ⟨rr, tr, τ, ⟨g1, g2, g3, g4, g5, g6⟩, g7⟩ := g
  have hn : ∀ r, r ∈ [66, 67, 68, 69, 70] → h1.vl r = h.vl r := fun r hr => k.vl (by intro e; subst e; exact absurd hr (by decide)) (fun hm => of_decide_eq_true (List.all_eq_true.mp hA r hm) hr)
  refine ⟨rr, tr, τ, ⟨?_, (k.fl hF).trans g2, ?_, hs, ?_, g6⟩, g7⟩
  · rw [hn 66 (by decide), hn 67 (by decide), hn 68 (by decide), hn 69 (by decide)]; exact g1
  · rw [hn 66 (by decide), hn 70 (by decide)]; exact g3
  · rw [hn 66 (by decide)]; exact g5
theorem RN.kp' {h h1 : AH} {N aB nv : Nat} {gn : Nat → Bool} {T : Nat → TE} {A F : List Nat} (g : RN h N aB nv gn T) (k : KP h h1 A F) (hA : A.all (fun a => decide (a ∉ [66, 67, 68, 69, 70, 71])) = true := by decide) (hF : [49, 50].all (fun a => decide (a ∉ F)) = true := by decide) : RN h1 N aB nv gn T := by
  have h71 : h1.vl 71 = h.vl 71 := k.vl (by decide) (fun hm => of_decide_eq_true (List.all_eq_true.mp hA 71 hm) (by decide))
  have h50 : h1.vl 42 50 = h.vl 42 50 := k.fl (of_decide_eq_true (List.all_eq_true.mp hF 50 (by decide)))
  refine g.kp k (List.all_eq_true.mpr (fun a ha => decide_eq_true (fun z => of_decide_eq_true (List.all_eq_true.mp hA a ha) ?_))) (of_decide_eq_true (List.all_eq_true.mp hF 49 (by decide))) (fun c => by rw [h71, h50]; obtain ⟨_, _, _, q, _⟩ := g; exact q.2.2.2.1 c)
  simp only [List.mem_cons, List.not_mem_nil, or_false] at z ⊢
  omega
def addH (h : AH) (N : Nat) (k a b : Int) : AH := (((((h.put 66 N k).put 67 N a).put 68 N b).put 69 N (-1)).put 70 N 0).put 42 49 ((N : Int) + 1)
theorem addH_kp {h : AH} {N : Nat} {k a b : Int} : KP h (addH h N k a b) [66, 67, 68, 69, 70] [49] := (((((KP.rf.pr (by decide) (by decide)).pr (by decide) (by decide)).pr (by decide) (by decide)).pr (by decide) (by decide)).pr (by decide) (by decide)).pf (by decide)
theorem RT.add {h : AH} {N aB nv : Nat} {gn : Nat → Bool} {rr : Nat → Nat} {tr : Nat → TE} {τ : Nat → Nat} (g : RT h N aB rr tr τ nv gn) {k : Int} {a b : Int} {nm nv' aB' : Nat} (hN : N < 20000) (hk : 0 ≤ k ∧ k ≤ 3) (hab : k = 2 → (0 ≤ a ∧ a < (N : Int)) ∧ 0 ≤ b ∧ b < (N : Int)) (hnm : k = 3 → ((∀ t, t < N → h.vl 66 t = 3 → τ t ≠ nm) ∧ 2 ≤ nm ∧ nm < nv') ∧ gn nm = false) (hnv : nv ≤ nv') (haB : aB' ≤ 9800 ∧ aB ≤ aB' ∧ (k = 2 → aB + 1 ≤ aB')) :
    RT (addH h N k a b) (N + 1) aB' (upN rr N N) (upT tr N (if k = 2 then .op (tr a.toNat) (tr b.toNat) else lfc k N)) (upN τ N nm) nv' gn ∧ (∀ c, c < N → nmC (upN τ N nm) (upT tr N (if k = 2 then .op (tr a.toNat) (tr b.toNat) else lfc k N) c) = nmC τ (tr c)) ∧
    nmC (upN τ N nm) (upT tr N (if k = 2 then .op (tr a.toNat) (tr b.toNat) else lfc k N) N) = (if k = 2 then .op (nmC τ (tr a.toNat)) (nmC τ (tr b.toNat)) else if k = 0 then .var 0 else if k = 1 then .var 1 else .var nm) := by
  obtain ⟨g1, g2, g3, g4, g5, g6⟩ := g
  have e66 : (addH h N k a b).vl 66 = upI (h.vl 66) N k := by
    refine (put_ne _ (by decide)).trans ((put_ne _ (by decide)).trans ((put_ne _ (by decide)).trans ((put_ne _ (by decide)).trans ((put_ne _ (by decide)).trans (put_row _ _ _ _)))))
  have e67 : (addH h N k a b).vl 67 = upI (h.vl 67) N a := (put_ne _ (by decide)).trans ((put_ne _ (by decide)).trans ((put_ne _ (by decide)).trans ((put_ne _ (by decide)).trans (put_row _ _ _ _))))
  have e68 : (addH h N k a b).vl 68 = upI (h.vl 68) N b := (put_ne _ (by decide)).trans ((put_ne _ (by decide)).trans ((put_ne _ (by decide)).trans (put_row _ _ _ _)))
  have e69 : (addH h N k a b).vl 69 = upI (h.vl 69) N (-1) := (put_ne _ (by decide)).trans ((put_ne _ (by decide)).trans (put_row _ _ _ _))
  have e70 : (addH h N k a b).vl 70 = upI (h.vl 70) N 0 := (put_ne _ (by decide)).trans (put_row _ _ _ _)
  obtain ⟨n1, n2, n3⟩ := g1.add (so' := upI (h.vl 66) N k) (fr' := upI (h.vl 67) N a) (to' := upI (h.vl 68) N b) (li' := upI (h.vl 69) N (-1)) (k := k) (a := a.toNat) (b := b.toNat) (nm := nm) (nv' := nv') hk (fun z => by have := hab z; omega)
    (fun t ht0 => upI_n (by omega)) (fun t ht0 => upI_n (by omega)) (fun t ht0 => upI_n (by omega)) (fun t ht0 => upI_n (by omega)) upI_s (fun z => by rw [upI_s]; have := hab z; omega) (fun z => by rw [upI_s]; have := hab z; omega) (by rw [upI_s]; decide) (fun z => (hnm z).1) hnv
  refine ⟨⟨by rw [e66, e67, e68, e69]; exact n1, ?_, fun c hc hs => ?_, fun c => ?_, ?_, by omega⟩, n2, n3⟩
  · show (N : Int) + 1 = ((N + 1 : Nat) : Int)
    rfl
  · rw [e66] at hs
    rw [e70]
    by_cases e : c = N
    · subst e
      rw [upI_s] at hs
      rw [upI_s, upN_s, (hnm hs).2]
      rfl
    · rw [upI_n e] at hs
      rw [upI_n e, upN_n e]
      exact g3 c (by omega) hs
  · exact g4 c
  · refine ⟨?_, haB.1⟩
    rw [e66, acN, acN_cg (so := h.vl 66) N (fun t ht0 => upI_n (by omega)), upI_s]
    by_cases z : k = 2
    · rw [if_pos z]; have := haB.2.2 z; omega
    · rw [if_neg z]; omega
theorem RN.add {h : AH} {N aB nv : Nat} {gn : Nat → Bool} {T : Nat → TE} (g : RN h N aB nv gn T) {k : Int} {a b : Int} {nm nv' aB' : Nat} (hN : N < 20000) (hk : 0 ≤ k ∧ k ≤ 3) (hab : k = 2 → (0 ≤ a ∧ a < (N : Int)) ∧ 0 ≤ b ∧ b < (N : Int)) (hnm : k = 3 → (nv ≤ nm ∧ 2 ≤ nm ∧ nm < nv') ∧ gn nm = false) (hnv : nv ≤ nv') (haB : aB' ≤ 9800 ∧ aB ≤ aB' ∧ (k = 2 → aB + 1 ≤ aB')) :
    RN (addH h N k a b) (N + 1) aB' nv' gn (upT T N (if k = 2 then .op (T a.toNat) (T b.toNat) else if k = 0 then .var 0 else if k = 1 then .var 1 else .var nm)) := by
  obtain ⟨rr, tr, τ, g1, g7⟩ := g
  obtain ⟨n1, n2, n3⟩ := g1.add (k := k) (a := a) (b := b) (nm := nm) (nv' := nv') (aB' := aB') hN hk hab (fun z => ⟨⟨fun t ht0 hs e => by have := g1.1.2.2.2.2 t ht0 hs; have := (hnm z).1.1; omega, (hnm z).1.2⟩, (hnm z).2⟩) hnv haB
  refine ⟨_, _, _, n1, fun c hc => ?_⟩
  by_cases e : c = N
  · rw [e, n3, upT_s]
    by_cases z : k = 2
    · have := hab z
      rw [if_pos z, if_pos z, g7 _ (by omega), g7 _ (by omega)]
    · rw [if_neg z, if_neg z]
  · rw [n2 c (by omega), upT_n e]
    exact g7 c (by omega)
set_option maxRecDepth 100000 in
theorem s_freshN {h : AH} {N aB nv : Nat} {gn : Nat → Bool} {T : Nat → TE} (hI : RI h) (g : RN h N aB nv gn T) (hN : N < 20000) (hnv : 2 ≤ nv) (hgn : gn nv = false) : CV mX11_fresh 2 [rv 42] h (oi fun r h1 => r = (N : Int) ∧ KP h h1 [66, 67, 68, 69, 70] [49] ∧ RN h1 (N + 1) aB (nv + 1) gn (upT T N (.var nv))) := by
  obtain ⟨rr, tr, τ, g1, g7⟩ := id g
  have e49 := g1.2.1
  refine cv_mono (s_fresh hI (by omega) (by omega)) fun o h1 q => ?_
  obtain ⟨r, rfl, rfl, rfl⟩ := q
  rw [e49]
  refine ⟨_, rfl, rfl, addH_kp, ?_⟩
  exact g.add (k := 3) (a := -1) (b := -1) (nm := nv) hN (by decide) (fun z => absurd z (by decide)) (fun _ => ⟨by omega, hgn⟩) (by omega) ⟨g1.2.2.2.2.1.2, Nat.le_refl _, fun z => absurd z (by decide)⟩
set_option maxRecDepth 100000 in
theorem s_arrowN {h : AH} {N aB nv : Nat} {gn : Nat → Bool} {T : Nat → TE} {a b : Nat} (hI : RI h) (g : RN h N aB nv gn T) (hN : N < 20000) (ha : a < N) (hb : b < N) (haB : aB + 1 ≤ 9800) : CV mX11_arrow 2 [rv 42, iv (a : Int), iv (b : Int)] h (oi fun r h1 => r = (N : Int) ∧ KP h h1 [66, 67, 68, 69, 70] [49] ∧ RN h1 (N + 1) (aB + 1) nv gn (upT T N (.op (T a) (T b)))) := by
  obtain ⟨rr, tr, τ, g1, g7⟩ := id g
  have e49 := g1.2.1
  refine cv_mono (s_arrow hI (by omega) (by omega)) fun o h1 q => ?_
  obtain ⟨r, rfl, rfl, rfl⟩ := q
  rw [e49]
  refine ⟨_, rfl, rfl, addH_kp, ?_⟩
  exact g.add (k := 2) (a := (a : Int)) (b := (b : Int)) (nm := 0) (aB' := aB + 1) hN (by decide) (fun _ => by omega) (fun z => absurd z (by decide)) (by omega) ⟨by omega, by omega, fun _ => Nat.le_refl _⟩
set_option maxRecDepth 100000 in
theorem s_constN {h : AH} {N aB nv : Nat} {gn : Nat → Bool} {T : Nat → TE} {k : Nat} (hI : RI h) (g : RN h N aB nv gn T) (hN : N < 20000) (hk : k < 2) : CV mX11_part 1 [rv 42, iv (k : Int), iv (-1), iv (-1)] h (oi fun r h1 => r = (N : Int) ∧ KP h h1 [66, 67, 68, 69, 70] [49] ∧ RN h1 (N + 1) aB nv gn (upT T N (.var k))) := by
  obtain ⟨rr, tr, τ, g1, g7⟩ := id g
  have e49 := g1.2.1
  refine cv_mono (s_part hI (by omega) (by omega)) fun o h1 q => ?_
  obtain ⟨r, rfl, rfl, rfl⟩ := q
  rw [e49]
  refine ⟨_, rfl, rfl, addH_kp, ?_⟩
  have := g.add (k := (k : Int)) (a := -1) (b := -1) (nm := 0) hN (by omega) (fun z => absurd z (by omega)) (fun z => absurd z (by omega)) (Nat.le_refl _) ⟨g1.2.2.2.2.1.2, Nat.le_refl _, fun z => absurd z (by omega)⟩
  obtain rfl | rfl : k = 0 ∨ k = 1 := by omega
  · exact this
  · exact this
set_option maxRecDepth 100000 in
theorem s_sizeN {h : AH} {N aB nv : Nat} {gn : Nat → Bool} {T : Nat → TE} {t : Nat} (hI : RI h) (g : RN h N aB nv gn T) (ht0 : t < N) (hst : ir (h.vl 42 50 + 1)) : CV mX11_size 5 [rv 42, iv (t : Int)] h (oi fun r h1 => r = szc (T t) ∧ KP h h1 [74, 71, 72, 73] [50, 51] ∧ h1.vl 42 50 = h.vl 42 50 + 1 ∧ RN h1 N aB nv gn T) := by
  obtain ⟨rr, tr, τ, g1, g7⟩ := id g
  refine cv_mono (s_size (t := (t : Int)) hI g1.gh (by omega) (by omega) (fun k hk => g1.ht hk) hst g1.2.2.2.1) fun o h1 q => ?_
  obtain ⟨r, rfl, q1, q2, q3, q4, q5⟩ := q
  refine ⟨_, rfl, ?_, q2, q3, g.kp q2 (by decide) (by decide) q4⟩
  rw [q1, ← g7 t ht0]
  show szc (tr t) = szc (nmT _ (tr t))
  unfold szc
  rw [nm_sz]
set_option maxRecDepth 100000 in
theorem s_fitsN {h : AH} {N aB nv : Nat} {gn : Nat → Bool} {T : Nat → TE} {t u : Nat} (hI : RI h) (g : RN h N aB nv gn T) (ht0 : t < N) (hu : u < N) (hsz : sz (T t) + sz (T u) ≤ 2900) (hst : h.vl 42 50 + 4 * ((sz (T t) + sz (T u) : Nat) : Int) + 10 ≤ 2147483000) (hst0 : -2147483000 ≤ h.vl 42 50) :
    CV mX11_fits 6 [rv 42, iv (t : Int), iv (u : Int)] h (oi fun x h1 => ∃ F R σ, un F [(T t, T u)] = some (R, σ) ∧ x = R.1 ∧ KP h h1 (FtA) (FtF) ∧ h.vl 42 50 ≤ h1.vl 42 50 ∧ h1.vl 42 50 ≤ h.vl 42 50 + 4 * ((sz (T t) + sz (T u) : Nat) : Int) + 10 ∧ (∀ k, h1.vl 71 k ≤ h1.vl 42 50) ∧ (R.1 = 0 → RN h1 N aB nv gn (fun c => ap σ (T c)) ∧ h1.vl 42 52 = h.vl 42 52) ∧ (R.1 ≠ 0 → h1.vl 42 52 = R.1 ∧ h1.vl 42 54 = R.2.1 ∧ h1.vl 42 55 = R.2.2)) := by
  obtain ⟨rr, tr, τ, g1, g7⟩ := id g
  obtain ⟨n1, n2, n3, n4, n5⟩ := id g1.1
  have op7 : ∀ c, c < N → opsT (tr c) = opsT (T c) := fun c hc => by
    have h1 := ops_sz (tr c)
    have h2 := ops_sz (T c)
    rw [← g7 c hc] at h2 ⊢
    have h3 : sz (nmC τ (tr c)) = sz (tr c) := nm_sz _
    omega
  obtain ⟨C, Ar, X, hC, ct, cu, hAr, hX, hcU⟩ := cl_of n2 n1 ht0 hu
  rw [op7 t ht0, op7 u hu] at hAr
  have sz7 : ∀ c, c < N → sz (tr c) = sz (T c) := fun c hc => by
    rw [← g7 c hc]
    exact (nm_sz _).symm
  rw [sz7 t ht0, sz7 u hu] at hcU
  have ops1 := ops_sz (T t)
  have ops2 := ops_sz (T u)
  have hck : ∀ st (m : MS), (fun st m => @decide (UI (h.vl 66) (h.vl 67) (h.vl 68) N C Ar m ∧ SI (h.vl 66) N m st) (Classical.propDecidable _)) st m = true → UI (h.vl 66) (h.vl 67) (h.vl 68) N C Ar m ∧ SI (h.vl 66) N m st := fun st m z => @of_decide_eq_true _ (Classical.propDecidable _) z
  obtain ⟨s, R, m', u1, u2, F, σ, u3, u4⟩ := uR_all (ck := fun st m => @decide (UI (h.vl 66) (h.vl 67) (h.vl 68) N C Ar m ∧ SI (h.vl 66) N m st) (Classical.propDecidable _)) (K := 5990) (H := 2990) (dir := false) (X := X) n3 (by omega) (by decide) hX (fun st m a b => @decide_eq_true _ (Classical.propDecidable _) ⟨a, b⟩) (uMe false N X [(t, u, false)] (rr, tr, h.vl 69)) [(t, u, false)] (rr, tr, h.vl 69) (Nat.le_refl _) ⟨n1, n2, hC⟩ ⟨⟨⟨ht0, hu⟩, (fun q hq => nomatch hq), (fun z => Bool.noConfusion z)⟩, trivial⟩ trivial ⟨trivial, fun z => Bool.noConfusion z⟩ (Nat.le_refl _) (fun e he => by rw [List.mem_singleton.mp he]; exact ⟨ct, cu⟩)
  have hM : uMe false N X [(t, u, false)] (rr, tr, h.vl 69) ≤ 4 * (sz (T t) + sz (T u)) + 2 := by
    show 4 * cU (h.vl 69) X N + 2 * (1 + 0) + (0 + 0) ≤ _
    omega
  have hun : un F [(tr t, tr u)] = some (R, σ) := u3
  obtain ⟨f1, f2⟩ := g1.1.fit (li' := m'.2.2) (rr' := m'.1) (tr' := m'.2.1) ht0 hu hun
  rw [g7 t ht0, g7 u hu] at f1
  have I20 := g1.2.2.2.2.2
  refine cv_of cdX11_fits ?_
  show EV _ _ 0 [rv 42, iv (t : Int), iv (u : Int), uv, uv, uv, uv, uv] [] h _
  refine ev_iconst dX11_fits_0 ?_
  refine ev_ist3 dX11_fits_1 ?_
  refine ev_aload_n dX11_fits_2 rfl ?_
  refine ev_iconst dX11_fits_3 ?_
  refine ev_iload_n dX11_fits_4 rfl ?_
  refine ev_iload_n dX11_fits_5 rfl ?_
  refine ev_iconst dX11_fits_6 ?_
  refine ev_cvv dX11_fits_7 lX11_251 (s_pairs hI (by decide) (by decide)) (by decide) hI.o hI.n rfl rfl rfl (Nat.le_of_ble_eq_true rfl) rfl (fun h1 q => ?_)
  have k1 : KP h h1 FtA FtF := by rw [q]; exact ((KP.rf.pr (by decide) (by decide)).pr (by decide) (by decide)).pr (by decide) (by decide)
  refine ev_mono (fits_loop (h0 := h) hI I20 rfl rfl rfl (by decide) (by decide) hck (s + 1) [(t, u, false)] (rr, tr, h.vl 69) h1 (t : Int) (u : Int) _ _ _ _ u1 k1 (by rw [q]; rfl) ⟨?_, ?_, ?_, trivial⟩ ?_ (by rw [q]; exact hst0) (by rw [q]; exact g1.2.2.2.1)) fun o h2 q2 => ?_
  · rw [q]; rfl
  · rw [q]; rfl
  · rw [q]; rfl
  · rw [q]; show h.vl 42 50 + _ ≤ _; omega
  · obtain ⟨x, rfl, q1, q3, q4, q5, q6, q7, q8⟩ := q2
    have e50 : h1.vl 42 50 = h.vl 42 50 := by rw [q]; rfl
    refine ⟨x, rfl, F, R, nmS (fun x => τ (x - 2)) σ, f1, q1, q3, by omega, by omega, q6, fun h0 => ?_, q8⟩
    obtain ⟨v1, v2, v3⟩ := u4 h0
    obtain ⟨f3, f4⟩ := f2 v1.1 v1.2.1 v2
    refine ⟨⟨m'.1, m'.2.1, τ, ⟨?_, (q3.fl).trans g1.2.1, ?_, q6, ?_, I20⟩, fun c hc => (f4 c hc).trans (by rw [g7 c hc])⟩, (q7 h0).2.trans (by rw [q]; rfl)⟩
    · rw [q3.vl (r := 66), q3.vl (r := 67), q3.vl (r := 68), (q7 h0).1]; exact f3
    · rw [q3.vl (r := 66), q3.vl (r := 70)]; exact g1.2.2.1
    · rw [q3.vl (r := 66)]; exact g1.2.2.2.2.1
