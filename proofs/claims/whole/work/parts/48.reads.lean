/-! the reference's way through a text -/
theorem FSt.put {h : AH} {T : Nat → List Nd} {m a k : Nat} {x : Int} {s : List Fr} (hS : FSt h T m s) (hk : s.length ≤ k) : FSt (h.put a k x) T m s := FSt.lo (fun r i hr hi => by rw [AH.put_vl, if_neg (by omega)]) hS
set_option maxRecDepth 100000 in
theorem s_opensT {s : List Fr} {T : Nat → List Nd} {m : Nat} {a b c : Int} {h : AH} (hI : RI h) (hS : FSt h T m s) (hk : s.length < 64) (ht : h.vl 42 34 = (s.length : Int) - 1) (ha : a ≠ 4) : CV mX11_opens 1 [rv 42, iv a, iv b, iv c] h (on fun h1 => KP h h1 [47, 48, 49, 50] [34] ∧ FSt h1 T m ((a, b, c, [], []) :: s) ∧ h1.vl 42 34 = (s.length : Int)) := by
  refine cv_mono (s_opens hI (by omega) (by omega)) fun o h1 q => ?_
  obtain ⟨rfl, rfl⟩ := q
  have e : h.vl 42 34 + 1 = (s.length : Int) := by omega
  rw [e]
  refine ⟨rfl, ((((KP.rf.pf (by decide)).pr (by decide) (by decide)).pr (by decide) (by decide)).pr (by decide) (by decide)).pr (by decide) (by decide), ⟨?_, ?_, ?_, fun z => absurd z ha, Or.inl ⟨?_, rfl⟩, ?_⟩, ?_⟩
  · simp [AH.put_vl]
  · simp [AH.put_vl]
  · simp [AH.put_vl]
  · simp [AH.put_vl]
  · have e2 : ((s.length : Nat) : Int).toNat = s.length := rfl
    rw [e2]
    exact ((((FSt.fl hS).put (Nat.le_refl _)).put (Nat.le_refl _)).put (Nat.le_refl _)).put (Nat.le_refl _)
  · simp [AH.put_vl]
def rdF (c : Nat → Int) (n : Nat) : Nat → Fr → List Fr → Nat → Int × List Nd
  | 0, _, _, i => (i, [])
  | t + 1, f, r, i =>
    let ch := if i < n then c i else -1
    if f.2.2.2.2 = [] ∧ (ch = 94 ∨ ch = 33) then
      if ¬ (i + 1 < n ∧ 97 ≤ c (i + 1) ∧ c (i + 1) ≤ 122) then (((i + 1 : Nat) : Int), [])
      else if ¬ (i + 2 < n ∧ c (i + 2) = (if ch = 94 then 46 else 61)) then (((i + 2 : Nat) : Int), [])
      else rdF c n t (if ch = 94 then 2 else 3, c (i + 1), (i : Int), [], []) (f :: r) (i + 3)
    else if ch = 40 then rdF c n t (1, 0, (i : Int), [], []) (f :: r) (i + 1)
    else if 0 ≤ lk ch then rdF c n t (adF f [(lk ch, ch, (i : Int))]) r (i + 1)
    else if f.2.2.2.2 = [] ∨ ¬ (ch = 41 ∨ ch = 59 ∨ ch = -1) then ((i : Int), [])
    else if ch = -1 ∧ (clH f r).1.1 = 0 then (-1, (clH f r).1.2.2.2.2)
    else if ch = 41 ∧ (clH f r).1.1 = 1 then
      match (clH f r).2 with
      | [] => ((i : Int), [])
      | g :: s => rdF c n t (adF g (clH f r).1.2.2.2.2) s (i + 1)
    else if ch = 59 ∧ (clH f r).1.1 = 3 then rdF c n t (4, (clH f r).1.2.1, (clH f r).1.2.2.1, (clH f r).1.2.2.2.2, []) (clH f r).2 (i + 1)
    else ((i : Int), [])
def tot : List Fr → Nat
  | [] => 0
  | f :: r => f.2.2.2.2.length + f.2.2.2.1.length + opn f + tot r
theorem tot_cl : ∀ (r : List Fr) (f : Fr), tot ((clH f r).1 :: (clH f r).2) ≤ tot (f :: r)
  | [], f => Nat.le_refl _
  | g :: r, f => by
    unfold clH
    by_cases hf : f.1 = 2 ∨ f.1 = 4
    · rw [if_pos hf]
      refine Nat.le_trans (tot_cl r (cl1 f g)) ?_
      have hop : opn f = 1 := by unfold opn; rw [if_pos (by omega)]
      have e1 : tot (cl1 f g :: r) = (cl1 f g).2.2.2.2.length + g.2.2.2.1.length + opn g + tot r := rfl
      have e2 : tot (f :: g :: r) = f.2.2.2.2.length + f.2.2.2.1.length + opn f + (g.2.2.2.2.length + g.2.2.2.1.length + opn g + tot r) := rfl
      have e3 : (cl1 f g).2.2.2.2.length ≤ f.2.2.2.2.length + f.2.2.2.1.length + 1 := by
        show (if f.1 = 2 then (4, f.2.1, f.2.2.1) :: f.2.2.2.2 else (5, f.2.1, f.2.2.1) :: (f.2.2.2.1 ++ f.2.2.2.2)).length ≤ _
        by_cases h2 : f.1 = 2
        · rw [if_pos h2]; simp only [List.length_cons]; omega
        · rw [if_neg h2]; simp only [List.length_cons, List.length_append]; omega
      omega
    · rw [if_neg hf]
      exact Nat.le_refl _
theorem tot_ad {f : Fr} {r : List Fr} {L : List Nd} : tot (adF f L :: r) ≤ tot (f :: r) + L.length + 1 := by
  have e1 : tot (adF f L :: r) = (adF f L).2.2.2.2.length + f.2.2.2.1.length + opn f + tot r := rfl
  have e2 : tot (f :: r) = f.2.2.2.2.length + f.2.2.2.1.length + opn f + tot r := rfl
  have e3 : (adF f L).2.2.2.2.length ≤ f.2.2.2.2.length + L.length + 1 := by
    show (if f.2.2.2.2 = [] then L else (6, 0, atL f.2.2.2.2) :: (f.2.2.2.2 ++ L)).length ≤ _
    by_cases h2 : f.2.2.2.2 = []
    · rw [if_pos h2]; omega
    · rw [if_neg h2]; simp only [List.length_cons, List.length_append]; omega
  omega
theorem ops_cl : ∀ (r : List Fr) (f : Fr), ops ((clH f r).1 :: (clH f r).2) ≤ ops (f :: r) ∧ (clH f r).2.length ≤ r.length
  | [], f => ⟨Nat.le_refl _, Nat.le_refl _⟩
  | g :: r, f => by
    unfold clH
    by_cases hf : f.1 = 2 ∨ f.1 = 4
    · rw [if_pos hf]
      have e1 : ops (cl1 f g :: r) = ops (g :: r) := rfl
      have e2 : ops (f :: g :: r) = opn f + ops (g :: r) := rfl
      have := ops_cl r (cl1 f g)
      exact ⟨by omega, by have := this.2; simp only [List.length_cons]; omega⟩
    · rw [if_neg hf]
      exact ⟨Nat.le_refl _, Nat.le_refl _⟩
def RdQ (h0 : AH) (p : Int × List Nd) (r : Int) (h1 : AH) : Prop := r = p.1 ∧ KP h0 h1 [47, 48, 49, 50, 51, 52, 53, 54, 55, 56, 57, 58, 59, 60, 61, 62, 63, 64, 65] [34, 35, 36] ∧ (p.1 = -1 → p.2 ≠ [] ∧ p.2.length ≤ 120 ∧ Ag7 p.2.length [] h1 (tbF p.2 0 [-1] (fun _ _ => 0)) ∧ h1.vl 42 36 = (p.2.length : Int))
theorem f_small1 {c : Int} {h : AH} (hc : 97 ≤ c ∧ c ≤ 122) : CV mX11_isSmall 1 [iv c] h (oi fun r h1 => r = 1 ∧ h1 = h) := cv_mono s_isSmall fun o h1 q => by
  obtain ⟨x, rfl, rfl, rfl⟩ := q
  exact ⟨_, rfl, by rw [if_pos hc], rfl⟩
theorem f_small0 {c : Int} {h : AH} (hc : ¬ (97 ≤ c ∧ c ≤ 122)) : CV mX11_isSmall 1 [iv c] h (oi fun r h1 => r = 0 ∧ h1 = h) := cv_mono s_isSmall fun o h1 q => by
  obtain ⟨x, rfl, rfl, rfl⟩ := q
  exact ⟨_, rfl, by rw [if_neg hc], rfl⟩
theorem f_cap1 {c : Int} {h : AH} (hc : 65 ≤ c ∧ c ≤ 72) : CV mX11_isCapital 1 [iv c] h (oi fun r h1 => r = 1 ∧ h1 = h) := cv_mono s_isCapitalR fun o h1 q => by
  obtain ⟨x, rfl, rfl, rfl⟩ := q
  exact ⟨_, rfl, by rw [if_pos hc], rfl⟩
theorem f_cap0 {c : Int} {h : AH} (hc : ¬ (65 ≤ c ∧ c ≤ 72)) : CV mX11_isCapital 1 [iv c] h (oi fun r h1 => r = 0 ∧ h1 = h) := cv_mono s_isCapitalR fun o h1 q => by
  obtain ⟨x, rfl, rfl, rfl⟩ := q
  exact ⟨_, rfl, by rw [if_neg hc], rfl⟩
set_option maxRecDepth 100000 in
theorem s_leafKind {c : Int} {h : AH} : CV mX11_leafKind 2 [iv c] h (oi fun r h1 => r = lk c ∧ h1 = h) := by
  refine cv_of cdX11_leafKind ?_
  show EV _ _ 0 [iv c] [] h _
  unfold lk
  refine ev_iload_n dX11_leafKind_0 rfl ?_
  by_cases h1 : 97 ≤ c ∧ c ≤ 122
  · skip
    rw [if_pos h1]
    refine ev_csi dX11_leafKind_1 lX11_178 (f_small1 h1) (by decide) rfl rfl (Nat.le_of_ble_eq_true rfl) rfl (fun r z1 q => ?_)
    obtain ⟨rfl, rfl⟩ := q
    refine ev_ifeq 11 dX11_leafKind_4 (fun h_no => (by exfalso; omega)) (fun hbr => ?_)
    refine ev_iconst dX11_leafKind_7 ?_
    refine ev_gt 60 dX11_leafKind_8 ?_
    exact ev_iret dX11_leafKind_60 (⟨_, rfl, rfl, rfl⟩)
  · skip
    rw [if_neg h1]
    refine ev_csi dX11_leafKind_1 lX11_178 (f_small0 h1) (by decide) rfl rfl (Nat.le_of_ble_eq_true rfl) rfl (fun r z1 q => ?_)
    obtain ⟨rfl, rfl⟩ := q
    refine ev_ifeq 11 dX11_leafKind_4 (fun hbr => ?_) (fun h_no => (by exfalso; omega))
    refine ev_iload_n dX11_leafKind_11 rfl ?_
    by_cases h2 : 65 ≤ c ∧ c ≤ 72
    · skip
      rw [if_pos h2]
      refine ev_csi dX11_leafKind_12 lX11_182 (f_cap1 h2) (by decide) rfl rfl (Nat.le_of_ble_eq_true rfl) rfl (fun r z2 q => ?_)
      obtain ⟨rfl, rfl⟩ := q
      refine ev_ifeq 22 dX11_leafKind_15 (fun h_no => (by exfalso; omega)) (fun hbr => ?_)
      refine ev_iconst dX11_leafKind_18 ?_
      refine ev_gt 60 dX11_leafKind_19 ?_
      exact ev_iret dX11_leafKind_60 (⟨_, rfl, rfl, rfl⟩)
    · skip
      rw [if_neg h2]
      refine ev_csi dX11_leafKind_12 lX11_182 (f_cap0 h2) (by decide) rfl rfl (Nat.le_of_ble_eq_true rfl) rfl (fun r z2 q => ?_)
      obtain ⟨rfl, rfl⟩ := q
      refine ev_ifeq 22 dX11_leafKind_15 (fun hbr => ?_) (fun h_no => (by exfalso; omega))
      refine ev_iload_n dX11_leafKind_22 rfl ?_
      refine ev_bipush dX11_leafKind_23 ?_
      refine ev_bipush dX11_leafKind_25 ?_
      by_cases h3 : 48 ≤ c ∧ c ≤ 57
      · skip
        rw [if_pos h3]
        refine ev_csi dX11_leafKind_27 lX11_164 (f_isIn1 h3) (by decide) rfl rfl (Nat.le_of_ble_eq_true rfl) rfl (fun r z3 q => ?_)
        obtain ⟨rfl, rfl⟩ := q
        refine ev_ifeq 37 dX11_leafKind_30 (fun h_no => (by exfalso; omega)) (fun hbr => ?_)
        refine ev_iconst dX11_leafKind_33 ?_
        refine ev_gt 60 dX11_leafKind_34 ?_
        exact ev_iret dX11_leafKind_60 (⟨_, rfl, rfl, rfl⟩)
      · skip
        rw [if_neg h3]
        refine ev_csi dX11_leafKind_27 lX11_164 (f_isIn0 h3) (by decide) rfl rfl (Nat.le_of_ble_eq_true rfl) rfl (fun r z3 q => ?_)
        obtain ⟨rfl, rfl⟩ := q
        refine ev_ifeq 37 dX11_leafKind_30 (fun hbr => ?_) (fun h_no => (by exfalso; omega))
        refine ev_iload_n dX11_leafKind_37 rfl ?_
        refine ev_bipush dX11_leafKind_38 ?_
        refine ev_icmpeq 55 dX11_leafKind_40 (fun hb0 => ?_) (fun hb0 => ?_)
        · refine ev_iconst dX11_leafKind_55 ?_
          refine ev_gt 60 dX11_leafKind_56 ?_
          refine ev_iret dX11_leafKind_60 (by (refine ⟨_, rfl, ?_, rfl⟩; (first | rw [if_pos (by omega)] | rw [if_neg (by omega)])))
        · refine ev_iload_n dX11_leafKind_43 rfl ?_
          refine ev_bipush dX11_leafKind_44 ?_
          refine ev_icmpeq 55 dX11_leafKind_46 (fun hb1 => ?_) (fun hb1 => ?_)
          · refine ev_iconst dX11_leafKind_55 ?_
            refine ev_gt 60 dX11_leafKind_56 ?_
            refine ev_iret dX11_leafKind_60 (by (refine ⟨_, rfl, ?_, rfl⟩; (first | rw [if_pos (by omega)] | rw [if_neg (by omega)])))
          · refine ev_iload_n dX11_leafKind_49 rfl ?_
            refine ev_bipush dX11_leafKind_50 ?_
            refine ev_icmpne 59 dX11_leafKind_52 (fun hb2 => ?_) (fun hb2 => ?_)
            · refine ev_iconst dX11_leafKind_59 ?_
              refine ev_iret dX11_leafKind_60 (by (refine ⟨_, rfl, ?_, rfl⟩; (first | rw [if_pos (by omega)] | rw [if_neg (by omega)])))
            · refine ev_iconst dX11_leafKind_55 ?_
              refine ev_gt 60 dX11_leafKind_56 ?_
              refine ev_iret dX11_leafKind_60 (by (refine ⟨_, rfl, ?_, rfl⟩; (first | rw [if_pos (by omega)] | rw [if_neg (by omega)])))
theorem lk_lt {c : Int} : lk c < 4 := by
  unfold lk
  by_cases h1 : 97 ≤ c ∧ c ≤ 122
  · rw [if_pos h1]; decide
  · rw [if_neg h1]
    by_cases h2 : 65 ≤ c ∧ c ≤ 72
    · rw [if_pos h2]; decide
    · rw [if_neg h2]
      by_cases h3 : 48 ≤ c ∧ c ≤ 57
      · rw [if_pos h3]; decide
      · rw [if_neg h3]
        by_cases h4 : c = 43 ∨ c = 60 ∨ c = 63
        · rw [if_pos h4]; decide
        · rw [if_neg h4]; decide
theorem WFs_len : ∀ (r : List Fr) (f : Fr), WFs f r → f.1 = 0 → r = []
  | [], _, _, _ => rfl
  | g :: r, f, hW, h0 => absurd hW.1.1 (by omega)
set_option maxRecDepth 100000 in
theorem reads_loop {h0 : AH} {src b n Ls : Nat} (hI0 : RI h0) (ks : h0.kd src = (100, Ls)) (ns : src < h0.n) (hsrc : src < 47 ∨ 65 < src) (hs42 : src ≠ 42) (hn : n ≤ 60) (hb : b + n ≤ Ls) (hL9 : Ls ≤ 30000) : ∀ (t : Nat) (f : Fr) (r : List Fr) (i m : Nat) (T : Nat → List Nd) (h : AH) (v5 v6 : AV), n < i + t → i ≤ n → KP h0 h [47, 48, 49, 50, 51, 52, 53, 54, 55, 56, 57, 58, 59, 60, 61, 62, 63, 64, 65] [34, 35, 36] → RTt h T m → FSt h T m (f :: r) → WFs f r → m + ops (f :: r) ≤ 2 * i → tot (f :: r) ≤ 2 * i → r.length ≤ i → h.vl 42 34 = (r.length : Int) →
    EV mX11_reads 6 20 [rv 42, rv (src : Int), iv (b : Int), iv (n : Int), iv (i : Int), v5, v6] [] h (oi (RdQ h0 (rdF (fun j => h0.vl src (b + j)) n t f r i))) := by
  intro t
  induction t with
  | zero => intro f r i m T h v5 v6 ht hi; exact absurd ht (by omega)
  | succ t ih =>
    intro f r i m T h v5 v6 ht hi hK hR hS hW hm hto hlr htop
    have hI : RI h := hK.ri hI0
    obtain ⟨c, hc⟩ : ∃ c : Nat → Int, c = fun j => h0.vl src (b + j) := ⟨_, rfl⟩
    rw [← hc]
    rw [← hc] at ih
    have hsv : ∀ g : AH, KP h0 g [47, 48, 49, 50, 51, 52, 53, 54, 55, 56, 57, 58, 59, 60, 61, 62, 63, 64, 65] [34, 35, 36] → ∀ j, g.vl src (b + j) = c j := fun g kg j => by
      rw [hc, kg.vl hs42 (by simp only [List.mem_cons, List.not_mem_nil, or_false]; omega)]
    have ks' : h.kd src = (100, Ls) := by rw [hK.2.1]; exact ks
    have ns' : src < h.n := by rw [hK.1]; exact ns
    obtain ⟨a1, a2, a3, a4, a5, a6⟩ := id hS
    obtain ⟨k, hkk⟩ : ∃ k, k = r.length := ⟨_, rfl⟩
    have hk9 : k ≤ 60 := by rw [hkk]; omega
    rw [← hkk] at a1 a2 a3 a4 a5 htop hlr
    obtain ⟨x, hx⟩ : ∃ x, x = h.vl 48 k := ⟨_, rfl⟩
    rw [← hx] at a5
    have hneg : x < 0 ↔ f.2.2.2.2 = [] := a5.neg hR
    have rest : ∀ ch : Int, ch = (if i < n then c i else -1) → EV mX11_reads 6 36 [rv 42, rv (src : Int), iv (b : Int), iv (n : Int), iv (i : Int), v5, v6] [iv ch] h (oi (RdQ h0 (rdF c n (t + 1) f r i))) := by
      intro ch hch
      have p161 : ¬ (f.2.2.2.2 = [] ∧ (ch = 94 ∨ ch = 33)) → EV mX11_reads 6 161 [rv 42, rv (src : Int), iv (b : Int), iv (n : Int), iv (i : Int), iv ch, v6] [] h (oi (RdQ h0 (rdF c n (t + 1) f r i))) := by
        intro hno
        rw [rdF, ← hch, if_neg hno]
        refine ev_iload dX11_reads_161 rfl ?_
        refine ev_bipush dX11_reads_163 ?_
        by_cases c40 : ch = 40
        · skip
          rw [if_pos c40]
          refine ev_icmpne 182 dX11_reads_165 (fun h_no => (by exfalso; omega)) (fun hc1 => ?_)
          refine ev_aload_n dX11_reads_168 rfl ?_
          refine ev_iconst dX11_reads_169 ?_
          refine ev_iconst dX11_reads_170 ?_
          refine ev_iload dX11_reads_171 rfl ?_
          refine ev_cvv dX11_reads_173 lX11_185 (s_opensT (s := f :: r) hI hS (by simp only [List.length_cons]; omega) (by rw [htop, hkk]; simp only [List.length_cons]; omega) (by decide)) (by decide) hI.o hI.n rfl rfl rfl (Nat.le_of_ble_eq_true rfl) rfl (fun h1 q => ?_)
          obtain ⟨k1, S1, t1⟩ := q
          refine ev_iin4 dX11_reads_176 (by unfold ir; omega) ?_
          refine ev_gt 20 dX11_reads_179 ?_
          have hK1 := hK.tr (k1.wk (by decide) (by decide))
          have e1 : (i : Int) + 1 = ((i + 1 : Nat) : Int) := rfl
          rw [e1]
          refine ih (1, 0, (i : Int), [], []) (f :: r) (i + 1) m T h1 _ _ (by omega) ?_ hK1 (hR.keep k1) S1 ⟨⟨by show (1 : Int) ≤ 1; decide, by show (1 : Int) ≤ 4; decide⟩, hW⟩ ?_ ?_ ?_ t1
          · by_cases hin : i < n
            · omega
            · rw [if_neg hin] at hch; omega
          · have e2 : ops ((1, 0, (i : Int), [], []) :: f :: r) = 0 + ops (f :: r) := rfl
            omega
          · have e2 : tot ((1, 0, (i : Int), [], []) :: f :: r) = 0 + tot (f :: r) := rfl
            omega
          · simp only [List.length_cons]; omega
        · skip
          rw [if_neg c40]
          refine ev_icmpne 182 dX11_reads_165 (fun hc1 => ?_) (fun h_no => (by exfalso; omega))
          refine ev_iload dX11_reads_182 rfl ?_
          refine ev_csi dX11_reads_184 lX11_189 (s_leafKind) (by decide) rfl rfl (Nat.le_of_ble_eq_true rfl) rfl (fun r9 h9 q => ?_)
          obtain ⟨rfl, e9⟩ := q
          rw [e9]
          by_cases hl : 0 ≤ lk ch
          · skip
            rw [if_pos hl]
            refine ev_iflt 215 dX11_reads_187 (fun h_no => (by exfalso; omega)) (fun hc2 => ?_)
            have hin : i < n := by
              by_cases hin : i < n
              · exact hin
              · rw [if_neg hin] at hch
                rw [hch] at hl
                exact absurd hl (by decide)
            refine ev_aload_n dX11_reads_190 rfl ?_
            refine ev_aload_n dX11_reads_191 rfl ?_
            refine ev_iload dX11_reads_192 rfl ?_
            refine ev_csi dX11_reads_194 lX11_189 (s_leafKind) (by decide) rfl rfl (Nat.le_of_ble_eq_true rfl) rfl (fun r8 h8 q => ?_)
            obtain ⟨rfl, e8⟩ := q
            rw [e8]
            refine ev_iload dX11_reads_197 rfl ?_
            refine ev_iconst dX11_reads_199 ?_
            refine ev_iconst dX11_reads_200 ?_
            refine ev_iload dX11_reads_201 rfl ?_
            refine ev_cvi dX11_reads_203 lX11_174 (s_rawT hI hR (by omega) (by omega) (by omega) (Or.inl ⟨⟨hl, lk_lt⟩, by decide, by decide⟩)) (by decide) hI.o hI.n rfl rfl rfl (Nat.le_of_ble_eq_true rfl) rfl (fun r7 h7 q => ?_)
            obtain ⟨rfl, k7, hR7⟩ := q
            have hI7 : RI h7 := k7.ri hI
            have htop7 : h7.vl 42 34 = (r.length : Int) := (k7.fl).trans (htop.trans (by rw [hkk]))
            have hS7 := FSt.up (E := (lk ch, ch, (i : Int)) :: (tsub T (-1) ++ tsub T (-1))) k7 (by decide) hS
            have eE : (lk ch, ch, (i : Int)) :: (tsub T (-1) ++ tsub T (-1)) = [(lk ch, ch, (i : Int))] := rfl
            rw [eE] at hS7 hR7
            refine ev_cvv dX11_reads_206 lX11_193 (s_adds (L := [(lk ch, ch, (i : Int))]) hI7 hR7 hS7 (by omega) (by omega) htop7 dN.new (List.cons_ne_nil _ _)) (by decide) hI7.o hI7.n rfl rfl rfl (Nat.le_of_ble_eq_true rfl) rfl (fun h6 q => ?_)
            obtain ⟨T', m', k6, hR6, hS6, hm6⟩ := q
            refine ev_iin4 dX11_reads_209 (by unfold ir; omega) ?_
            refine ev_gt 20 dX11_reads_212 ?_
            have hK6 := (hK.tr (k7.wk (by decide) (by decide))).tr (k6.wk (by decide) (by decide))
            have e1 : (i : Int) + 1 = ((i + 1 : Nat) : Int) := rfl
            rw [e1]
            refine ih (adF f [(lk ch, ch, (i : Int))]) r (i + 1) m' T' h6 _ _ (by omega) (by omega) hK6 hR6 hS6 ?_ ?_ ?_ (by omega) ((k6.fl).trans htop7)
            · cases r with
              | nil => exact hW
              | cons g s => exact hW
            · have e2 : ops (adF f [(lk ch, ch, (i : Int))] :: r) = ops (f :: r) := rfl
              omega
            · have := tot_ad (f := f) (r := r) (L := [(lk ch, ch, (i : Int))])
              simp only [List.length_cons, List.length_nil] at this
              omega
          · skip
            rw [if_neg hl]
            refine ev_iflt 215 dX11_reads_187 (fun hc2 => ?_) (fun h_no => (by exfalso; omega))
            refine ev_aload_n dX11_reads_215 rfl ?_
            refine ev_getrv dX11_reads_216 fX11_29 hI.o hI.n rfl hI.v_done ?_
            refine ev_aload_n dX11_reads_219 rfl ?_
            refine ev_getiv dX11_reads_220 fX11_171 hI.o hI.n rfl htop ?_
            refine ev_ildv dX11_reads_223 hI.k_done hI.n_done rfl (by omega) (by omega) hx.symm ?_
            by_cases hx0 : x < 0
            · skip
              rw [if_pos (Or.inl (hneg.mp hx0))]
              refine ev_iflt 247 dX11_reads_224 (fun hc3 => ?_) (fun h_no => (by exfalso; omega))
              refine ev_iload dX11_reads_247 rfl ?_
              exact ev_iret dX11_reads_249 (⟨_, rfl, rfl, hK, fun z => absurd (show (i : Int) = -1 from z) (by omega)⟩)
            · skip
              refine ev_iflt 247 dX11_reads_224 (fun h_no => (by exfalso; omega)) (fun hc3 => ?_)
              refine ev_iload dX11_reads_227 rfl ?_
              refine ev_bipush dX11_reads_229 ?_
              have hdn : f.2.2.2.2 ≠ [] := fun z => hx0 (hneg.mpr z)
              have p250 : (ch = 41 ∨ ch = 59 ∨ ch = -1) → EV mX11_reads 6 250 [rv 42, rv (src : Int), iv (b : Int), iv (n : Int), iv (i : Int), iv ch, v6] [] h (oi (RdQ h0 (if ch = -1 ∧ (clH f r).1.1 = 0 then (-1, (clH f r).1.2.2.2.2) else if ch = 41 ∧ (clH f r).1.1 = 1 then (match (clH f r).2 with | [] => ((i : Int), []) | g :: s => rdF c n t (adF g (clH f r).1.2.2.2.2) s (i + 1)) else if ch = 59 ∧ (clH f r).1.1 = 3 then rdF c n t (4, (clH f r).1.2.1, (clH f r).1.2.2.1, (clH f r).1.2.2.2.2, []) (clH f r).2 (i + 1) else ((i : Int), [])))) := by
                intro hcc
                have hin' : ¬ ch = -1 → i < n := fun z => by
                  by_cases hin : i < n
                  · exact hin
                  · rw [if_neg hin] at hch
                    exact absurd hch z
                refine ev_aload_n dX11_reads_250 rfl ?_
                refine ev_cvv dX11_reads_251 lX11_197 (s_closes hI hR hS hW (by omega) (by omega) (by rw [htop, hkk]) hdn) (by decide) hI.o hI.n rfl rfl rfl (Nat.le_of_ble_eq_true rfl) rfl (fun h1 q => ?_)
                obtain ⟨T1, m1, K1, R1, M1, S1, t1, W1, d1, nb⟩ := q
                have tc := tot_cl r f
                have oc := ops_cl r f
                obtain ⟨p, hp⟩ : ∃ p, p = clH f r := ⟨_, rfl⟩
                rw [← hp] at M1 S1 t1 W1 d1 nb tc oc
                rw [← hp]
                obtain ⟨f1, r1⟩ := p
                obtain ⟨b1, b2, b3, b4, b5, b6⟩ := id S1
                have oc2 : r1.length ≤ r.length := oc.2
                have tc' : tot (f1 :: r1) ≤ tot (f :: r) := tc
                have oc' : ops (f1 :: r1) ≤ ops (f :: r) := oc.1
                have M1' : m1 + ops (f1 :: r1) = m + ops (f :: r) := M1
                obtain ⟨k1, hk1⟩ : ∃ k1, k1 = r1.length := ⟨_, rfl⟩
                have hk19 : k1 ≤ 60 := by omega
                have t1' : h1.vl 42 34 = (k1 : Int) := by rw [t1, hk1]
                have b1' : h1.vl 47 k1 = f1.1 := by rw [hk1]; exact b1
                have b5' : dN T1 m1 (h1.vl 48 k1) f1.2.2.2.2 := by rw [hk1]; exact b5
                obtain ⟨y, hy⟩ : ∃ y, y = h1.vl 48 k1 := ⟨_, rfl⟩
                rw [← hy] at b5'
                have hI1 : RI h1 := K1.ri hI
                have hK1 : KP h0 h1 [47, 48, 49, 50, 51, 52, 53, 54, 55, 56, 57, 58, 59, 60, 61, 62, 63, 64, 65] [34, 35, 36] := hK.tr (K1.wk (by decide) (by decide))
                refine ev_aload_n dX11_reads_254 rfl ?_
                refine ev_getrv dX11_reads_255 fX11_29 hI1.o hI1.n rfl hI1.v_done ?_
                refine ev_aload_n dX11_reads_258 rfl ?_
                refine ev_getiv dX11_reads_259 fX11_171 hI1.o hI1.n rfl t1' ?_
                refine ev_ildv dX11_reads_262 hI1.k_done hI1.n_done rfl (by omega) (by omega) hy.symm ?_
                refine ev_ist6 dX11_reads_263 ?_
                refine ev_iload dX11_reads_265 rfl ?_
                refine ev_iconst dX11_reads_267 ?_
                have badret : EV mX11_reads 6 384 [rv 42, rv (src : Int), iv (b : Int), iv (n : Int), iv (i : Int), iv ch, iv y] [] h1 (oi (RdQ h0 ((i : Int), []))) := by
                  refine ev_iload dX11_reads_384 rfl ?_
                  exact ev_iret dX11_reads_386 (⟨_, rfl, rfl, hK1, fun z => absurd (show (i : Int) = -1 from z) (by omega)⟩)
                rcases hcc with c1 | c1 | c1
                · skip
                  rw [if_neg (by omega)]
                  refine ev_icmpne 291 dX11_reads_268 (fun hd1 => ?_) (fun h_no => (by exfalso; omega))
                  refine ev_iload dX11_reads_291 rfl ?_
                  refine ev_bipush dX11_reads_293 ?_
                  refine ev_icmpne 330 dX11_reads_295 (fun h_no => (by exfalso; omega)) (fun hd2 => ?_)
                  refine ev_aload_n dX11_reads_298 rfl ?_
                  refine ev_getrv dX11_reads_299 fX11_26 hI1.o hI1.n rfl hI1.v_frame ?_
                  refine ev_aload_n dX11_reads_302 rfl ?_
                  refine ev_getiv dX11_reads_303 fX11_171 hI1.o hI1.n rfl t1' ?_
                  refine ev_ildv dX11_reads_306 hI1.k_frame hI1.n_frame rfl (by omega) (by omega) b1' ?_
                  refine ev_iconst dX11_reads_307 ?_
                  by_cases hf1 : f1.1 = 1
                  · skip
                    rw [if_pos ⟨c1, hf1⟩]
                    refine ev_icmpne 330 dX11_reads_308 (fun h_no => (by exfalso; omega)) (fun hd3 => ?_)
                    cases r1 with
                    | nil => exact absurd (show f1.1 = 0 from W1) (by omega)
                    | cons g s =>
                      obtain ⟨W0, W2⟩ := W1
                      have e1 : (k1 : Int) - 1 = (s.length : Int) := by rw [hk1]; simp only [List.length_cons]; omega
                      have e2 : ops (f1 :: g :: s) = opn f1 + ops (g :: s) := rfl
                      have e3 : tot (f1 :: g :: s) = f1.2.2.2.2.length + f1.2.2.2.1.length + opn f1 + tot (g :: s) := rfl
                      have hSg : FSt (h1.put 42 34 (s.length : Int)) T1 m1 (g :: s) := FSt.fl b6
                      have kx : KP h1 (h1.put 42 34 (s.length : Int)) [] [34] := KP.rf.pf (by decide)
                      have hI2 : RI (h1.put 42 34 (s.length : Int)) := kx.ri hI1
                      simp only [List.length_cons] at oc2 hk1
                      refine ev_aload_n dX11_reads_311 rfl ?_
                      refine ev_dup dX11_reads_312 ?_
                      refine ev_getiv dX11_reads_313 fX11_171 hI1.o hI1.n rfl t1' ?_
                      refine ev_iconst dX11_reads_316 ?_
                      refine ev_isub dX11_reads_317 (by unfold ir; omega) ?_
                      rw [e1]
                      refine ev_pt dX11_reads_318 fX11_171 hI1.o hI1.n rfl ?_
                      refine ev_aload_n dX11_reads_321 rfl ?_
                      refine ev_iload dX11_reads_322 rfl ?_
                      refine ev_cvv dX11_reads_324 lX11_193 (s_adds (L := f1.2.2.2.2) hI2 (R1.keep kx) hSg (by omega) (by omega) rfl b5' d1) (by decide) hI1.o hI1.n rfl rfl rfl (Nat.le_of_ble_eq_true rfl) rfl (fun h2 q => ?_)
                      obtain ⟨T2, m2, k2, R2, S2, hm2⟩ := q
                      refine ev_gt 387 dX11_reads_327 ?_
                      refine ev_iin4 dX11_reads_387 (by unfold ir; omega) ?_
                      refine ev_gt 20 dX11_reads_390 ?_
                      have hK2 := (hK1.tr (kx.wk (by decide) (by decide))).tr (k2.wk (by decide) (by decide))
                      rw [show (i : Int) + 1 = ((i + 1 : Nat) : Int) from rfl]
                      have hii := hin' (by omega)
                      have ta := tot_ad (f := g) (r := s) (L := f1.2.2.2.2)
                      refine ih (adF g f1.2.2.2.2) s (i + 1) m2 T2 h2 _ _ (by omega) (by omega) hK2 R2 S2 ?_ ?_ (by omega) ?_ ((k2.fl).trans rfl)
                      · cases s with
                        | nil => exact W2
                        | cons g3 s3 => exact W2
                      · have e4 : ops (adF g f1.2.2.2.2 :: s) = ops (g :: s) := rfl
                        omega
                      · omega
                  · skip
                    rw [if_neg (fun z => hf1 z.2), if_neg (by omega)]
                    refine ev_icmpne 330 dX11_reads_308 (fun hd3 => ?_) (fun h_no => (by exfalso; omega))
                    refine ev_iload dX11_reads_330 rfl ?_
                    refine ev_bipush dX11_reads_332 ?_
                    refine ev_icmpne 384 dX11_reads_334 (fun hd4 => ?_) (fun h_no => (by exfalso; omega))
                    exact badret
                · skip
                  rw [if_neg (by omega), if_neg (by omega)]
                  refine ev_icmpne 291 dX11_reads_268 (fun hd1 => ?_) (fun h_no => (by exfalso; omega))
                  refine ev_iload dX11_reads_291 rfl ?_
                  refine ev_bipush dX11_reads_293 ?_
                  refine ev_icmpne 330 dX11_reads_295 (fun hd2 => ?_) (fun h_no => (by exfalso; omega))
                  refine ev_iload dX11_reads_330 rfl ?_
                  refine ev_bipush dX11_reads_332 ?_
                  refine ev_icmpne 384 dX11_reads_334 (fun h_no => (by exfalso; omega)) (fun hd3 => ?_)
                  refine ev_aload_n dX11_reads_337 rfl ?_
                  refine ev_getrv dX11_reads_338 fX11_26 hI1.o hI1.n rfl hI1.v_frame ?_
                  refine ev_aload_n dX11_reads_341 rfl ?_
                  refine ev_getiv dX11_reads_342 fX11_171 hI1.o hI1.n rfl t1' ?_
                  refine ev_ildv dX11_reads_345 hI1.k_frame hI1.n_frame rfl (by omega) (by omega) b1' ?_
                  refine ev_iconst dX11_reads_346 ?_
                  by_cases hf3 : f1.1 = 3
                  · skip
                    rw [if_pos ⟨c1, hf3⟩]
                    refine ev_icmpne 384 dX11_reads_347 (fun h_no => (by exfalso; omega)) (fun hd4 => ?_)
                    refine ev_aload_n dX11_reads_350 rfl ?_
                    refine ev_getrv dX11_reads_351 fX11_26 hI1.o hI1.n rfl hI1.v_frame ?_
                    refine ev_aload_n dX11_reads_354 rfl ?_
                    refine ev_getiv dX11_reads_355 fX11_171 hI1.o hI1.n rfl t1' ?_
                    refine ev_iconst dX11_reads_358 ?_
                    refine ev_istr dX11_reads_359 hI1.k_frame hI1.n_frame rfl (by omega) (by omega) ?_
                    refine ev_aload_n dX11_reads_360 rfl ?_
                    refine ev_getrv dX11_reads_361 fX11_38 hI1.o hI1.n rfl hI1.v_bound ?_
                    refine ev_aload_n dX11_reads_364 rfl ?_
                    refine ev_getiv dX11_reads_365 fX11_171 hI1.o hI1.n rfl t1' ?_
                    refine ev_iload dX11_reads_368 rfl ?_
                    refine ev_istr dX11_reads_370 hI1.k_bound hI1.n_bound rfl (by omega) (by omega) ?_
                    refine ev_aload_n dX11_reads_371 rfl ?_
                    refine ev_getrv dX11_reads_372 fX11_29 hI1.o hI1.n rfl hI1.v_done ?_
                    refine ev_aload_n dX11_reads_375 rfl ?_
                    refine ev_getiv dX11_reads_376 fX11_171 hI1.o hI1.n rfl t1' ?_
                    refine ev_iconst dX11_reads_379 ?_
                    refine ev_istr dX11_reads_380 hI1.k_done hI1.n_done rfl (by omega) (by omega) ?_
                    refine ev_gt 387 dX11_reads_381 ?_
                    refine ev_iin4 dX11_reads_387 (by unfold ir; omega) ?_
                    refine ev_gt 20 dX11_reads_390 ?_
                    rw [show (i : Int) + 1 = ((i + 1 : Nat) : Int) from rfl]
                    have hii := hin' (by omega)
                    have hK2 := (((hK1.pr (r := 47) (i := ((k1 : Nat) : Int).toNat) (x := 4) (by decide) (by decide)).pr (r := 51) (i := ((k1 : Nat) : Int).toNat) (x := y) (by decide) (by decide)).pr (r := 48) (i := ((k1 : Nat) : Int).toNat) (x := -1) (by decide) (by decide))
                    have kx : KP h1 (((h1.put 47 k1 4).put 51 k1 y).put 48 k1 (-1)) [47, 48, 51] [] := (((KP.rf.pr (by decide) (by decide)).pr (by decide) (by decide)).pr (by decide) (by decide))
                    have hz : ¬ (f1.1 = 0) := by omega
                    have Wr : ∀ (s : List Fr) (fa fb : Fr), WFs fa s → fa.1 ≠ 0 → (1 ≤ fb.1 ∧ fb.1 ≤ 4) → WFs fb s := fun s fa fb w n0 n1 => by
                      cases s with
                      | nil => exact absurd w n0
                      | cons g3 s3 => exact ⟨n1, w.2⟩
                    refine ih (4, f1.2.1, f1.2.2.1, f1.2.2.2.2, []) r1 (i + 1) m1 T1 _ _ _ (by omega) (by omega) hK2 (R1.keep kx) ⟨?_, ?_, ?_, fun _ => ⟨d1, ?_⟩, Or.inl ⟨?_, rfl⟩, ?_⟩ (Wr r1 f1 _ W1 hz ⟨by show (1 : Int) ≤ 4; decide, by show (4 : Int) ≤ 4; decide⟩) ?_ ?_ (by omega) ?_
                    · rw [← hk1]; simp [AH.put_vl]
                    · rw [← hk1]; simp [AH.put_vl]; rw [hk1]; exact b2
                    · rw [← hk1]; simp [AH.put_vl]; rw [hk1]; exact b3
                    · rw [← hk1]; simp [AH.put_vl]; exact b5'
                    · rw [← hk1]; simp [AH.put_vl]
                    · have e2 : ((k1 : Nat) : Int).toNat = k1 := rfl
                      rw [e2]
                      exact ((b6.put (by omega)).put (by omega)).put (by omega)
                    · have e2 : ops ((4, f1.2.1, f1.2.2.1, f1.2.2.2.2, []) :: r1) = 1 + ops r1 := rfl
                      have e3 : ops (f1 :: r1) = opn f1 + ops r1 := rfl
                      have e4 : opn f1 = 1 := by unfold opn; rw [if_pos (by omega)]
                      omega
                    · have e2 : tot ((4, f1.2.1, f1.2.2.1, f1.2.2.2.2, []) :: r1) = 0 + f1.2.2.2.2.length + 1 + tot r1 := rfl
                      have e3 : tot (f1 :: r1) = f1.2.2.2.2.length + f1.2.2.2.1.length + opn f1 + tot r1 := rfl
                      have e4 : opn f1 = 1 := by unfold opn; rw [if_pos (by omega)]
                      omega
                    · exact t1
                  · skip
                    rw [if_neg (fun z => hf3 z.2)]
                    refine ev_icmpne 384 dX11_reads_347 (fun hd4 => ?_) (fun h_no => (by exfalso; omega))
                    exact badret
                · skip
                  refine ev_icmpne 291 dX11_reads_268 (fun h_no => (by exfalso; omega)) (fun hd1 => ?_)
                  refine ev_aload_n dX11_reads_271 rfl ?_
                  refine ev_getrv dX11_reads_272 fX11_26 hI1.o hI1.n rfl hI1.v_frame ?_
                  refine ev_aload_n dX11_reads_275 rfl ?_
                  refine ev_getiv dX11_reads_276 fX11_171 hI1.o hI1.n rfl t1' ?_
                  refine ev_ildv dX11_reads_279 hI1.k_frame hI1.n_frame rfl (by omega) (by omega) b1' ?_
                  by_cases hf0 : f1.1 = 0
                  · skip
                    rw [if_pos ⟨c1, hf0⟩]
                    refine ev_ifne 291 dX11_reads_280 (fun h_no => (by exfalso; omega)) (fun hd2 => ?_)
                    have hr1 : r1 = [] := WFs_len r1 f1 W1 hf0
                    subst hr1
                    have tc2 : f1.2.2.2.2.length ≤ tot (f1 :: []) := by
                      have e3 : tot (f1 :: []) = f1.2.2.2.2.length + f1.2.2.2.1.length + opn f1 + 0 := rfl
                      omega
                    rcases b5' with ⟨-, z⟩ | ⟨j, j1, j2, j3⟩
                    · exact absurd z d1
                    · rw [j1]
                      refine ev_aload_n dX11_reads_283 rfl ?_
                      refine ev_iload dX11_reads_284 rfl ?_
                      have hlen : (T1 j).length ≤ 120 := by rw [j3]; omega
                      refine ev_cvv dX11_reads_286 lX11_200 (s_numbers hI1 R1 (by omega) j2 (by omega)) (by decide) hI1.o hI1.n rfl rfl rfl (Nat.le_of_ble_eq_true rfl) rfl (fun h2 q => ?_)
                      obtain ⟨k2, A2, n2⟩ := q
                      refine ev_iconst dX11_reads_289 ?_
                      rw [j3] at A2 n2 hlen
                      exact ev_iret dX11_reads_290 (⟨_, rfl, rfl, hK1.tr (k2.wk (by decide) (by decide)), fun _ => ⟨d1, hlen, A2, n2⟩⟩)
                  · skip
                    rw [if_neg (fun z => hf0 z.2), if_neg (by omega), if_neg (by omega)]
                    refine ev_ifne 291 dX11_reads_280 (fun hd2 => ?_) (fun h_no => (by exfalso; omega))
                    refine ev_iload dX11_reads_291 rfl ?_
                    refine ev_bipush dX11_reads_293 ?_
                    refine ev_icmpne 330 dX11_reads_295 (fun hd3 => ?_) (fun h_no => (by exfalso; omega))
                    refine ev_iload dX11_reads_330 rfl ?_
                    refine ev_bipush dX11_reads_332 ?_
                    refine ev_icmpne 384 dX11_reads_334 (fun hd4 => ?_) (fun h_no => (by exfalso; omega))
                    exact badret
              by_cases h41 : ch = 41
              · skip
                rw [if_neg (by rintro (z | z); exact hdn z; exact z (Or.inl h41))]
                refine ev_icmpeq 250 dX11_reads_231 (fun hc4 => ?_) (fun h_no => (by exfalso; omega))
                exact p250 (Or.inl h41)
              · skip
                refine ev_icmpeq 250 dX11_reads_231 (fun h_no => (by exfalso; omega)) (fun hc4 => ?_)
                refine ev_iload dX11_reads_234 rfl ?_
                refine ev_bipush dX11_reads_236 ?_
                by_cases h59 : ch = 59
                · skip
                  rw [if_neg (by rintro (z | z); exact hdn z; exact z (Or.inr (Or.inl h59)))]
                  refine ev_icmpeq 250 dX11_reads_238 (fun hc5 => ?_) (fun h_no => (by exfalso; omega))
                  exact p250 (Or.inr (Or.inl h59))
                · skip
                  refine ev_icmpeq 250 dX11_reads_238 (fun h_no => (by exfalso; omega)) (fun hc5 => ?_)
                  refine ev_iload dX11_reads_241 rfl ?_
                  refine ev_iconst dX11_reads_243 ?_
                  by_cases he : ch = -1
                  · skip
                    rw [if_neg (by rintro (z | z); exact hdn z; exact z (Or.inr (Or.inr he)))]
                    refine ev_icmpeq 250 dX11_reads_244 (fun hc6 => ?_) (fun h_no => (by exfalso; omega))
                    exact p250 (Or.inr (Or.inr he))
                  · skip
                    rw [if_pos (Or.inr (by omega))]
                    refine ev_icmpeq 250 dX11_reads_244 (fun h_no => (by exfalso; omega)) (fun hc6 => ?_)
                    refine ev_iload dX11_reads_247 rfl ?_
                    exact ev_iret dX11_reads_249 (⟨_, rfl, rfl, hK, fun z => absurd (show (i : Int) = -1 from z) (by omega)⟩)
      refine ev_ist5 dX11_reads_36 ?_
      refine ev_aload_n dX11_reads_38 rfl ?_
      refine ev_getrv dX11_reads_39 fX11_29 hI.o hI.n rfl hI.v_done ?_
      refine ev_aload_n dX11_reads_42 rfl ?_
      refine ev_getiv dX11_reads_43 fX11_171 hI.o hI.n rfl htop ?_
      refine ev_ildv dX11_reads_46 hI.k_done hI.n_done rfl (by omega) (by omega) hx.symm ?_
      by_cases hx0 : x < 0
      · skip
        refine ev_ifge 161 dX11_reads_47 (fun h_no => (by exfalso; omega)) (fun hb1 => ?_)
        refine ev_iload dX11_reads_50 rfl ?_
        refine ev_bipush dX11_reads_52 ?_
        have hdn := hneg.mp hx0
        have p64 : (ch = 94 ∨ ch = 33) → EV mX11_reads 6 64 [rv 42, rv (src : Int), iv (b : Int), iv (n : Int), iv (i : Int), iv ch, v6] [] h (oi (RdQ h0 (if ¬ (i + 1 < n ∧ 97 ≤ c (i + 1) ∧ c (i + 1) ≤ 122) then (((i + 1 : Nat) : Int), []) else if ¬ (i + 2 < n ∧ c (i + 2) = (if ch = 94 then 46 else 61)) then (((i + 2 : Nat) : Int), []) else rdF c n t (if ch = 94 then 2 else 3, c (i + 1), (i : Int), [], []) (f :: r) (i + 3)))) := by
          intro hcc
          have hin : i < n := by
            by_cases hin : i < n
            · exact hin
            · rw [if_neg hin] at hch
              omega
          refine ev_iload dX11_reads_64 rfl ?_
          refine ev_iconst dX11_reads_66 ?_
          refine ev_iadd dX11_reads_67 (by unfold ir; omega) ?_
          refine ev_iload_n dX11_reads_68 rfl ?_
          by_cases g1 : i + 1 < n
          · skip
            refine ev_icmpge 86 dX11_reads_69 (fun h_no => (by exfalso; omega)) (fun hd1 => ?_)
            refine ev_aload_n dX11_reads_72 rfl ?_
            refine ev_iload_n dX11_reads_73 rfl ?_
            refine ev_iload dX11_reads_74 rfl ?_
            refine ev_iadd dX11_reads_76 (by unfold ir; omega) ?_
            refine ev_iconst dX11_reads_77 ?_
            refine ev_iadd dX11_reads_78 (by unfold ir; omega) ?_
            refine ev_ild dX11_reads_79 ks' ns' rfl (by omega) (by omega) ?_
            rw [show ((b : Int) + (i : Int) + 1).toNat = b + (i + 1) from by omega, hsv h hK (i + 1)]
            by_cases g2 : 97 ≤ c (i + 1) ∧ c (i + 1) ≤ 122
            · skip
              rw [if_neg (fun z => z ⟨g1, g2⟩)]
              refine ev_csi dX11_reads_80 lX11_178 (f_small1 g2) (by decide) rfl rfl (Nat.le_of_ble_eq_true rfl) rfl (fun r9 h9 q => ?_)
              obtain ⟨rfl, e9⟩ := q
              rw [e9]
              refine ev_ifne 91 dX11_reads_83 (fun hd2 => ?_) (fun h_no => (by exfalso; omega))
              refine ev_iload dX11_reads_91 rfl ?_
              refine ev_iconst dX11_reads_93 ?_
              refine ev_iadd dX11_reads_94 (by unfold ir; omega) ?_
              refine ev_iload_n dX11_reads_95 rfl ?_
              by_cases g3 : i + 2 < n
              · skip
                refine ev_icmpge 124 dX11_reads_96 (fun h_no => (by exfalso; omega)) (fun hd3 => ?_)
                refine ev_aload_n dX11_reads_99 rfl ?_
                refine ev_iload_n dX11_reads_100 rfl ?_
                refine ev_iload dX11_reads_101 rfl ?_
                refine ev_iadd dX11_reads_103 (by unfold ir; omega) ?_
                refine ev_iconst dX11_reads_104 ?_
                refine ev_iadd dX11_reads_105 (by unfold ir; omega) ?_
                refine ev_ild dX11_reads_106 ks' ns' rfl (by omega) (by omega) ?_
                rw [show ((b : Int) + (i : Int) + 2).toNat = b + (i + 2) from by omega, hsv h hK (i + 2)]
                have p121 : ∀ d kd : Int, d = (if ch = 94 then 46 else 61) → kd = (if ch = 94 then 2 else 3) → EV mX11_reads 6 121 [rv 42, rv (src : Int), iv (b : Int), iv (n : Int), iv (i : Int), iv ch, v6] [iv d, iv (c (i + 2))] h (oi (RdQ h0 (if ¬ (i + 2 < n ∧ c (i + 2) = (if ch = 94 then 46 else 61)) then (((i + 2 : Nat) : Int), []) else rdF c n t (if ch = 94 then 2 else 3, c (i + 1), (i : Int), [], []) (f :: r) (i + 3)))) := by
                  intro d kd hd hkd
                  have p142 : c (i + 2) = d → EV mX11_reads 6 142 [rv 42, rv (src : Int), iv (b : Int), iv (n : Int), iv (i : Int), iv ch, v6] [iv kd, rv 42] h (oi (RdQ h0 (rdF c n t (if ch = 94 then 2 else 3, c (i + 1), (i : Int), [], []) (f :: r) (i + 3)))) := by
                    intro g4
                    rw [← hkd]
                    have hk4 : kd ≠ 4 := by
                      rw [hkd]
                      by_cases c94 : ch = 94
                      · rw [if_pos c94]; decide
                      · rw [if_neg c94]; decide
                    have hk5 : 1 ≤ kd ∧ kd ≤ 4 := by
                      rw [hkd]
                      by_cases c94 : ch = 94
                      · rw [if_pos c94]; decide
                      · rw [if_neg c94]; decide
                    refine ev_aload_n dX11_reads_142 rfl ?_
                    refine ev_iload_n dX11_reads_143 rfl ?_
                    refine ev_iload dX11_reads_144 rfl ?_
                    refine ev_iadd dX11_reads_146 (by unfold ir; omega) ?_
                    refine ev_iconst dX11_reads_147 ?_
                    refine ev_iadd dX11_reads_148 (by unfold ir; omega) ?_
                    refine ev_ild dX11_reads_149 ks' ns' rfl (by omega) (by omega) ?_
                    rw [show ((b : Int) + (i : Int) + 1).toNat = b + (i + 1) from by omega, hsv h hK (i + 1)]
                    refine ev_iload dX11_reads_150 rfl ?_
                    refine ev_cvv dX11_reads_152 lX11_185 (s_opensT (s := f :: r) hI hS (by simp only [List.length_cons]; omega) (by rw [htop, hkk]; simp only [List.length_cons]; omega) hk4) (by decide) hI.o hI.n rfl rfl rfl (Nat.le_of_ble_eq_true rfl) rfl (fun h1 q => ?_)
                    obtain ⟨k1, S1, t1⟩ := q
                    refine ev_iin4 dX11_reads_155 (by unfold ir; omega) ?_
                    refine ev_gt 20 dX11_reads_158 ?_
                    rw [show (i : Int) + 3 = ((i + 3 : Nat) : Int) from rfl]
                    have e2 : ops ((kd, c (i + 1), (i : Int), [], []) :: f :: r) = opn (kd, c (i + 1), (i : Int), [], []) + ops (f :: r) := rfl
                    have e3 : tot ((kd, c (i + 1), (i : Int), [], []) :: f :: r) = 0 + 0 + opn (kd, c (i + 1), (i : Int), [], []) + tot (f :: r) := rfl
                    have e4 : opn (kd, c (i + 1), (i : Int), [], []) ≤ 1 := by
                      unfold opn
                      by_cases z : (2 : Int) ≤ kd
                      · rw [if_pos z]; exact Nat.le_refl _
                      · rw [if_neg z]; exact Nat.zero_le _
                    exact ih (kd, c (i + 1), (i : Int), [], []) (f :: r) (i + 3) m T h1 _ _ (by omega) (by omega) (hK.tr (k1.wk (by decide) (by decide))) (hR.keep k1) S1 ⟨hk5, hW⟩ (by omega) (by omega) (by simp only [List.length_cons]; omega) t1
                  by_cases g4 : c (i + 2) = d
                  · skip
                    rw [if_neg (fun z => z ⟨g3, g4.trans hd⟩)]
                    refine ev_icmpeq 129 dX11_reads_121 (fun hd5 => ?_) (fun h_no => (by exfalso; omega))
                    refine ev_aload_n dX11_reads_129 rfl ?_
                    refine ev_iload dX11_reads_130 rfl ?_
                    refine ev_bipush dX11_reads_132 ?_
                    by_cases c94 : ch = 94
                    · skip
                      refine ev_icmpne 141 dX11_reads_134 (fun h_no => (by exfalso; omega)) (fun hd6 => ?_)
                      refine ev_iconst dX11_reads_137 ?_
                      refine ev_gt 142 dX11_reads_138 ?_
                      have e : kd = 2 := by rw [hkd, if_pos c94]
                      rw [e] at p142
                      exact p142 g4
                    · skip
                      refine ev_icmpne 141 dX11_reads_134 (fun hd6 => ?_) (fun h_no => (by exfalso; omega))
                      refine ev_iconst dX11_reads_141 ?_
                      have e : kd = 3 := by rw [hkd, if_neg c94]
                      rw [e] at p142
                      exact p142 g4
                  · skip
                    rw [if_pos (fun z => g4 (z.2.trans hd.symm))]
                    refine ev_icmpeq 129 dX11_reads_121 (fun h_no => (by exfalso; omega)) (fun hd5 => ?_)
                    refine ev_iload dX11_reads_124 rfl ?_
                    refine ev_iconst dX11_reads_126 ?_
                    refine ev_iadd dX11_reads_127 (by unfold ir; omega) ?_
                    exact ev_iret dX11_reads_128 (⟨_, rfl, rfl, hK, fun z => absurd (show ((i + 2 : Nat) : Int) = -1 from z) (by omega)⟩)
                refine ev_iload dX11_reads_107 rfl ?_
                refine ev_bipush dX11_reads_109 ?_
                by_cases c94 : ch = 94
                · skip
                  refine ev_icmpne 119 dX11_reads_111 (fun h_no => (by exfalso; omega)) (fun hd4 => ?_)
                  refine ev_bipush dX11_reads_114 ?_
                  refine ev_gt 121 dX11_reads_116 ?_
                  exact p121 46 2 (by rw [if_pos c94]) (by rw [if_pos c94])
                · skip
                  refine ev_icmpne 119 dX11_reads_111 (fun hd4 => ?_) (fun h_no => (by exfalso; omega))
                  refine ev_bipush dX11_reads_119 ?_
                  exact p121 61 3 (by rw [if_neg c94]) (by rw [if_neg c94])
              · skip
                rw [if_pos (fun z => g3 z.1)]
                refine ev_icmpge 124 dX11_reads_96 (fun hd3 => ?_) (fun h_no => (by exfalso; omega))
                refine ev_iload dX11_reads_124 rfl ?_
                refine ev_iconst dX11_reads_126 ?_
                refine ev_iadd dX11_reads_127 (by unfold ir; omega) ?_
                exact ev_iret dX11_reads_128 (⟨_, rfl, rfl, hK, fun z => absurd (show ((i + 2 : Nat) : Int) = -1 from z) (by omega)⟩)
            · skip
              rw [if_pos (fun z => g2 z.2)]
              refine ev_csi dX11_reads_80 lX11_178 (f_small0 g2) (by decide) rfl rfl (Nat.le_of_ble_eq_true rfl) rfl (fun r9 h9 q => ?_)
              obtain ⟨rfl, e9⟩ := q
              rw [e9]
              refine ev_ifne 91 dX11_reads_83 (fun h_no => (by exfalso; omega)) (fun hd2 => ?_)
              refine ev_iload dX11_reads_86 rfl ?_
              refine ev_iconst dX11_reads_88 ?_
              refine ev_iadd dX11_reads_89 (by unfold ir; omega) ?_
              exact ev_iret dX11_reads_90 (⟨_, rfl, rfl, hK, fun z => absurd (show ((i + 1 : Nat) : Int) = -1 from z) (by omega)⟩)
          · skip
            rw [if_pos (fun z => g1 z.1)]
            refine ev_icmpge 86 dX11_reads_69 (fun hd1 => ?_) (fun h_no => (by exfalso; omega))
            refine ev_iload dX11_reads_86 rfl ?_
            refine ev_iconst dX11_reads_88 ?_
            refine ev_iadd dX11_reads_89 (by unfold ir; omega) ?_
            exact ev_iret dX11_reads_90 (⟨_, rfl, rfl, hK, fun z => absurd (show ((i + 1 : Nat) : Int) = -1 from z) (by omega)⟩)
        by_cases c94 : ch = 94
        · skip
          rw [rdF, ← hch, if_pos ⟨hdn, Or.inl c94⟩]
          refine ev_icmpeq 64 dX11_reads_54 (fun hb2 => ?_) (fun h_no => (by exfalso; omega))
          exact p64 (Or.inl c94)
        · skip
          refine ev_icmpeq 64 dX11_reads_54 (fun h_no => (by exfalso; omega)) (fun hb2 => ?_)
          refine ev_iload dX11_reads_57 rfl ?_
          refine ev_bipush dX11_reads_59 ?_
          by_cases c33 : ch = 33
          · skip
            rw [rdF, ← hch, if_pos ⟨hdn, Or.inr c33⟩]
            refine ev_icmpne 161 dX11_reads_61 (fun h_no => (by exfalso; omega)) (fun hb3 => ?_)
            exact p64 (Or.inr c33)
          · skip
            refine ev_icmpne 161 dX11_reads_61 (fun hb3 => ?_) (fun h_no => (by exfalso; omega))
            exact p161 (fun z => by rcases z.2 with z | z; exact c94 z; exact c33 z)
      · skip
        refine ev_ifge 161 dX11_reads_47 (fun hb1 => ?_) (fun h_no => (by exfalso; omega))
        exact p161 (fun z => hx0 (hneg.mpr z.1))
    refine ev_iload dX11_reads_20 rfl ?_
    refine ev_iload_n dX11_reads_22 rfl ?_
    by_cases hin : i < n
    · skip
      refine ev_icmpge 35 dX11_reads_23 (fun h_no => (by exfalso; omega)) (fun hb1 => ?_)
      refine ev_aload_n dX11_reads_26 rfl ?_
      refine ev_iload_n dX11_reads_27 rfl ?_
      refine ev_iload dX11_reads_28 rfl ?_
      refine ev_iadd dX11_reads_30 (by unfold ir; omega) ?_
      obtain ⟨e, he⟩ : ∃ e, e = b + i := ⟨_, rfl⟩
      rw [show (b : Int) + (i : Int) = (e : Int) from by omega]
      refine ev_ild dX11_reads_31 ks' ns' rfl (by omega) (by omega) ?_
      rw [show ((e : Nat) : Int).toNat = b + i from by omega, hsv h hK i]
      refine ev_gt 36 dX11_reads_32 ?_
      exact rest (c i) (by rw [if_pos hin])
    · skip
      refine ev_icmpge 35 dX11_reads_23 (fun hb1 => ?_) (fun h_no => (by exfalso; omega))
      refine ev_iconst dX11_reads_35 ?_
      exact rest (-1) (by rw [if_neg hin])
