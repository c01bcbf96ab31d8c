/-! what a walk over a type sees -/
section DfsS
variable {so fr to li : Nat → Int} {rr : Nat → Nat} {N : Nat} {tr : Nat → TE} {st : Int}
theorem dfs_or : ∀ (T : TE) (t : Nat) (seen : Nat → Int) (c : Nat), (dfsP so fr to rr st (fun _ x => x) T t seen ()).1 c = seen c ∨ (dfsP so fr to rr st (fun _ x => x) T t seen ()).1 c = st
  | .var v, t, seen, c => by
    rw [dfsP]
    by_cases h : seen t = st
    · rw [if_pos h]; exact Or.inl rfl
    · rw [if_neg h]
      by_cases e : c = t
      · subst e; exact Or.inr upI_s
      · exact Or.inl (upI_n e)
  | .op a b, t, seen, c => by
    rw [dfsP]
    by_cases h : seen t = st
    · rw [if_pos h]; exact Or.inl rfl
    · rw [if_neg h]
      by_cases e : c = t
      · subst e; exact Or.inr upI_s
      · have e1 : ∀ f : Nat → Int, upI f t st c = f c := fun f => upI_n e
        simp only [e1]
        rcases dfs_or a (rr (fr t).toNat) seen c with h1 | h1
        · rcases dfs_or b (rr (to t).toNat) (dfsP so fr to rr st (fun _ x => x) a (rr (fr t).toNat) seen ()).1 c with h2 | h2
          · exact Or.inl (h2.trans h1)
          · exact Or.inr h2
        · rcases dfs_or b (rr (to t).toNat) (dfsP so fr to rr st (fun _ x => x) a (rr (fr t).toNat) seen ()).1 c with h2 | h2
          · exact Or.inr (h2.trans h1)
          · exact Or.inr h2
theorem dfs_up {T : TE} {t : Nat} {seen : Nat → Int} {c : Nat} (h : seen c = st) : (dfsP so fr to rr st (fun _ x => x) T t seen ()).1 c = st := by
  rcases dfs_or (so := so) (fr := fr) (to := to) (rr := rr) (st := st) T t seen c with h1 | h1
  · exact h1.trans h
  · exact h1
/-- what was seen was seen with its variables -/
def SnC (so : Nat → Int) (rr : Nat → Nat) (N : Nat) (tr : Nat → TE) (st : Int) (seen : Nat → Int) : Prop := ∀ t, t < N → rr t = t → seen t = st → ∀ c, oc (c + 2) (tr t) = true → seen c = st
theorem dfs_cl (hT : GT so fr to rr N tr) (hg : GW so fr to li N rr) : ∀ (T : TE) (t : Nat) (seen : Nat → Int), t < N → rr t = t → tr t = T → SnC so rr N tr st seen → SnC so rr N tr st (dfsP so fr to rr st (fun _ x => x) T t seen ()).1
  | .var v, t, seen, h, hr, e, hS => by
    rw [dfsP]
    by_cases g : seen t = st
    · rw [if_pos g]; exact hS
    · rw [if_neg g]
      intro u hu hur hus c hc
      by_cases e1 : u = t
      · subst e1
        have a3 := (hT u hu).2.2
        rw [e, hr] at a3
        rw [e] at hc
        have hv : v = c + 2 := by simpa [oc] using hc
        have e2 : lfc (so u) u = .var v := by
          by_cases k : so u = 2
          · rw [if_pos k] at a3; exact nomatch a3
          · rw [if_neg k] at a3; exact a3.symm
        unfold lfc at e2
        by_cases k0 : so u = 0
        · rw [if_pos k0] at e2; have := Lean.Data.AC.Expr.var.inj e2; omega
        · rw [if_neg k0] at e2
          by_cases k1 : so u = 1
          · rw [if_pos k1] at e2; have := Lean.Data.AC.Expr.var.inj e2; omega
          · rw [if_neg k1] at e2
            have := Lean.Data.AC.Expr.var.inj e2
            have ec : c = u := by omega
            rw [ec]; exact upI_s
      · have hus : seen u = st := (upI_n e1).symm.trans hus
        by_cases e2 : c = t
        · rw [e2]; exact upI_s
        · exact (upI_n e2).trans (hS u hu hur hus c hc)
  | .op a b, t, seen, h, hr, e, hS => by
    rw [dfsP]
    by_cases g : seen t = st
    · rw [if_pos g]; exact hS
    · rw [if_neg g]
      obtain ⟨ho1, ho2⟩ := hT.op hg h hr e
      have a3 := (hT t h).2.2
      rw [e, hr] at a3
      have k : so t = 2 := by
        by_cases k : so t = 2
        · exact k
        · rw [if_neg k] at a3
          obtain ⟨w, hw⟩ := lfc_var (k := so t) (r := t)
          rw [hw] at a3
          exact nomatch a3
      rw [if_pos k] at a3
      obtain ⟨ea, eb⟩ := Lean.Data.AC.Expr.op.inj a3
      obtain ⟨f1', f2'⟩ := hg.2.2 t h k
      obtain ⟨p1, p2, -⟩ := hT (fr t).toNat (by omega)
      obtain ⟨p3, p4, -⟩ := hT (to t).toNat (by omega)
      have ta : tr (rr (fr t).toNat) = a := (hT.rr (by omega)).trans ea.symm
      have tb : tr (rr (to t).toNat) = b := (hT.rr (by omega)).trans eb.symm
      have s1 := dfs_cl hT hg a _ seen p1 p2 ta hS
      have s2 := dfs_cl hT hg b _ _ p3 p4 tb s1
      have m1 : (dfsP so fr to rr st (fun _ x => x) a (rr (fr t).toNat) seen ()).1 (rr (fr t).toNat) = st := dfs_top hT a _ seen ()
      have m2 := dfs_up (so := so) (fr := fr) (to := to) (rr := rr) (T := b) (t := rr (to t).toNat) m1
      have m3 := dfs_top (st := st) (body := fun _ x => x) hT b (rr (to t).toNat) (dfsP so fr to rr st (fun _ x => x) a (rr (fr t).toNat) seen ()).1 ()
      intro u hu hur hus c hc
      by_cases e2 : c = t
      · rw [e2]; exact upI_s
      · refine (upI_n e2).trans ?_
        by_cases e1 : u = t
        · subst e1
          rw [e] at hc
          simp only [oc, Bool.or_eq_true] at hc
          rcases hc with hc | hc
          · exact s2 _ p1 p2 m2 c (by rw [ta]; exact hc)
          · exact s2 _ p3 p4 m3 c (by rw [tb]; exact hc)
        · exact s2 u hu hur ((upI_n e1).symm.trans hus) c hc
theorem dfs_fr (hT : GT so fr to rr N tr) (hg : GW so fr to li N rr) {v : Nat} (hv : so v = 3) : ∀ (T : TE) (t : Nat) (seen : Nat → Int), t < N → rr t = t → tr t = T → (dfsP so fr to rr st (fun _ x => x) T t seen ()).1 v = st → seen v = st ∨ oc (v + 2) T = true
  | .var w, t, seen, h, hr, e, hs => by
    rw [dfsP] at hs
    by_cases g : seen t = st
    · rw [if_pos g] at hs; exact Or.inl hs
    · rw [if_neg g] at hs
      by_cases e1 : v = t
      · subst e1
        have a3 := (hT v h).2.2
        rw [e, hr, if_neg (by omega), lfc, if_neg (by omega), if_neg (by omega)] at a3
        have := Lean.Data.AC.Expr.var.inj a3
        exact Or.inr (by rw [this]; simp [oc])
      · exact Or.inl ((upI_n e1).symm.trans hs)
  | .op a b, t, seen, h, hr, e, hs => by
    rw [dfsP] at hs
    by_cases g : seen t = st
    · rw [if_pos g] at hs; exact Or.inl hs
    · rw [if_neg g] at hs
      have a3 := (hT t h).2.2
      rw [e, hr] at a3
      have k : so t = 2 := by
        by_cases k : so t = 2
        · exact k
        · rw [if_neg k] at a3
          obtain ⟨w, hw⟩ := lfc_var (k := so t) (r := t)
          rw [hw] at a3
          exact nomatch a3
      rw [if_pos k] at a3
      obtain ⟨ea, eb⟩ := Lean.Data.AC.Expr.op.inj a3
      obtain ⟨f1', f2'⟩ := hg.2.2 t h k
      obtain ⟨p1, p2, -⟩ := hT (fr t).toNat (by omega)
      obtain ⟨p3, p4, -⟩ := hT (to t).toNat (by omega)
      have ta : tr (rr (fr t).toNat) = a := (hT.rr (by omega)).trans ea.symm
      have tb : tr (rr (to t).toNat) = b := (hT.rr (by omega)).trans eb.symm
      have e1 : v ≠ t := fun z => by rw [z] at hv; omega
      have hs := (upI_n e1).symm.trans hs
      rcases dfs_fr hT hg hv b _ _ p3 p4 tb hs with h1 | h1
      · rcases dfs_fr hT hg hv a _ _ p1 p2 ta h1 with h2 | h2
        · exact Or.inl h2
        · exact Or.inr (by simp [oc, h2])
      · exact Or.inr (by simp [oc, h1])
end DfsS
set_option maxRecDepth 100000 in
theorem s_hasV {N : Nat} {rr : Nat → Nat} {tr : Nat → TE} {t v : Nat} {h : AH} (hI : RI h) (hG : GH h N rr tr) (h9 : t < N) (hH : ht (tr t) ≤ 9900) (hv9 : v < N) (hv : h.vl 66 v = 3) (hst : ir (h.vl 42 50 + 1)) (hse : ∀ k, h.vl 71 k ≤ h.vl 42 50) :
    CV mX11_has 5 [rv 42, iv (t : Int), iv (v : Int)] h (oi fun r h1 => r = (if oc (v + 2) (tr t) = true then 1 else 0) ∧ KP h h1 [74, 71] [50, 51] ∧ h1.vl 42 50 = h.vl 42 50 + 1 ∧ ∀ k, h1.vl 71 k ≤ h1.vl 42 50) := by
  have h20 := hG.1
  refine cv_mono (s_has (t := (t : Int)) (v := (v : Int)) hI hG (by omega) (by omega) hH (by omega) (by omega) hst) fun o h1 q => ?_
  obtain ⟨r, rfl, q1, q2, q3, q4⟩ := q
  have et : ((t : Nat) : Int).toNat = t := rfl
  have ev : ((v : Nat) : Int).toNat = v := rfl
  rw [et, ev] at q1
  rw [et] at q4
  obtain ⟨p1, p2, -⟩ := hG.2.2 t h9
  have pt := hG.2.2.rr h9
  refine ⟨_, rfl, ?_, q2, q3, fun k => ?_⟩
  · rw [q1]
    by_cases o : oc (v + 2) (tr t) = true
    · rw [if_pos o]
      have hc := dfs_cl (st := h.vl 42 50 + 1) hG.2.2 hG.2.1 (tr t) (rr t) (h.vl 71) p1 p2 pt (fun u _ _ hus => absurd hus (by have := hse u; omega))
      have hm := dfs_top (st := h.vl 42 50 + 1) (body := fun _ x => x) hG.2.2 (tr t) (rr t) (h.vl 71) ()
      rw [if_pos (hc (rr t) p1 p2 hm v (by rw [pt]; exact o))]
    · rw [if_neg o, if_neg (fun z => ?_)]
      rcases dfs_fr hG.2.2 hG.2.1 hv (tr t) (rr t) (h.vl 71) p1 p2 pt z with h1 | h1
      · have := hse v; omega
      · exact o h1
  · rw [q4, q3]
    rcases dfs_or (so := h.vl 66) (fr := h.vl 67) (to := h.vl 68) (rr := rr) (st := h.vl 42 50 + 1) (tr t) (rr t) (h.vl 71) k with h1 | h1
    · rw [h1]; have := hse k; omega
    · rw [h1]; omega
