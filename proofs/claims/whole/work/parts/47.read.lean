/-! the reference reads a term -/
abbrev Nd : Type := Int × Int × Int
def tsub (T : Nat → List Nd) (x : Int) : List Nd := if x < 0 then [] else T x.toNat
def updT (T : Nat → List Nd) (m : Nat) (L : List Nd) : Nat → List Nd := fun i => if i = m then L else T i
theorem tsub_neg {T : Nat → List Nd} {x : Int} (hx : x < 0) : tsub T x = [] := if_pos hx
theorem tsub_nat {T : Nat → List Nd} {x : Nat} : tsub T (x : Int) = T x := by rw [tsub, if_neg (by omega)]; rfl
theorem tsub_upd {T : Nat → List Nd} {m : Nat} {L : List Nd} {x : Int} (hx : x < (m : Int)) : tsub (updT T m L) x = tsub T x := by
  unfold tsub
  by_cases h : x < 0
  · rw [if_pos h, if_pos h]
  · rw [if_neg h, if_neg h]
    show (if x.toNat = m then L else T x.toNat) = _
    rw [if_neg (by omega)]
/-- how many parts a kind has -/
def arOK (a c d : Int) : Prop := ((0 ≤ a ∧ a < 4) ∧ c < 0 ∧ d < 0) ∨ (a = 4 ∧ 0 ≤ c ∧ d < 0) ∨ ((a = 5 ∨ a = 6) ∧ 0 ≤ c ∧ 0 ≤ d)
/-- the raw nodes: T tells the nodes of each, itself first -/
def RTt (h : AH) (T : Nat → List Nd) (m : Nat) : Prop := h.vl 42 35 = (m : Int) ∧ ∀ i : Nat, i < m → T i = (h.vl 52 i, h.vl 53 i, h.vl 56 i) :: (tsub T (h.vl 54 i) ++ tsub T (h.vl 55 i)) ∧ (-1 ≤ h.vl 54 i ∧ h.vl 54 i < (i : Int)) ∧ (-1 ≤ h.vl 55 i ∧ h.vl 55 i < (i : Int)) ∧ arOK (h.vl 52 i) (h.vl 54 i) (h.vl 55 i)
theorem RTt.ne {h : AH} {T : Nat → List Nd} {m i : Nat} (hR : RTt h T m) (hi : i < m) : T i ≠ [] := by
  rw [(hR.2 i hi).1]
  exact List.cons_ne_nil _ _
theorem RTt.keep {h h1 : AH} {T : Nat → List Nd} {m : Nat} {A F : List Nat} (hR : RTt h T m) (k : KP h h1 A F) (hA : A.all (fun a => decide (a ∉ [52, 53, 54, 55, 56])) = true := by decide) (hF : 35 ∉ F := by decide) : RTt h1 T m := by
  have hn : ∀ r, r ∈ [52, 53, 54, 55, 56] → h1.vl r = h.vl r := fun r hr => k.vl (by intro e; subst e; exact absurd hr (by decide)) (fun hm => by
    have := of_decide_eq_true (List.all_eq_true.mp hA r hm)
    exact this hr)
  refine ⟨(k.fl hF).trans hR.1, fun i hi => ?_⟩
  rw [hn 52 (by decide), hn 53 (by decide), hn 54 (by decide), hn 55 (by decide), hn 56 (by decide)]
  exact hR.2 i hi
set_option maxRecDepth 100000 in
theorem s_rawT {T : Nat → List Nd} {m : Nat} {a b c d e : Int} {h : AH} (hI : RI h) (hR : RTt h T m) (h9 : m < 130) (hc : -1 ≤ c ∧ c < (m : Int)) (hd : -1 ≤ d ∧ d < (m : Int)) (har : arOK a c d) :
    CV mX11_raw 1 [rv 42, iv a, iv b, iv c, iv d, iv e] h (oi fun r h1 => r = (m : Int) ∧ KP h h1 [52, 53, 54, 55, 56] [35] ∧ RTt h1 (updT T m ((a, b, e) :: (tsub T c ++ tsub T d))) (m + 1)) := by
  have hm := hR.1
  refine cv_mono (s_raw hI (by omega) (by omega)) fun o h1 q => ?_
  obtain ⟨r, rfl, rfl, rfl⟩ := q
  refine ⟨_, rfl, hm, (((((KP.rf.pr (by decide) (by decide)).pr (by decide) (by decide)).pr (by decide) (by decide)).pr (by decide) (by decide)).pr (by decide) (by decide)).pf (by decide), ?_, fun i hi => ?_⟩
  · show h.vl 42 35 + 1 = _
    rw [hm]; rfl
  · rw [hm]
    by_cases hi2 : i = m
    · subst hi2
      have e1 : updT T i ((a, b, e) :: (tsub T c ++ tsub T d)) i = (a, b, e) :: (tsub T c ++ tsub T d) := if_pos rfl
      simp only [AH.put_vl, Int.toNat_natCast, and_self, and_true, and_false, false_and, if_true, if_false, Nat.reduceEqDiff, reduceIte]
      rw [e1, tsub_upd hc.2, tsub_upd hd.2]
      exact ⟨rfl, hc, hd, har⟩
    · obtain ⟨g1, g2, g3, g4⟩ := hR.2 i (by omega)
      have e1 : updT T m ((a, b, e) :: (tsub T c ++ tsub T d)) i = T i := if_neg hi2
      simp only [AH.put_vl, Int.toNat_natCast, hi2, and_false, if_false, reduceIte, Nat.reduceEqDiff, false_and]
      rw [e1, tsub_upd (by omega), tsub_upd (by omega)]
      exact ⟨g1, g2, g3, g4⟩
/-- what is open: what it is, its letter, its place, what a let binds, what was read -/
abbrev Fr : Type := Int × Int × Int × List Nd × List Nd
def dN (T : Nat → List Nd) (m : Nat) (x : Int) (L : List Nd) : Prop := (x = -1 ∧ L = []) ∨ ∃ i : Nat, x = (i : Int) ∧ i < m ∧ T i = L
def FSt (h : AH) (T : Nat → List Nd) (m : Nat) : List Fr → Prop
  | [] => True
  | f :: r => h.vl 47 r.length = f.1 ∧ h.vl 49 r.length = f.2.1 ∧ h.vl 50 r.length = f.2.2.1 ∧ (f.1 = 4 → f.2.2.2.1 ≠ [] ∧ dN T m (h.vl 51 r.length) f.2.2.2.1) ∧ dN T m (h.vl 48 r.length) f.2.2.2.2 ∧ FSt h T m r
def WFs : Fr → List Fr → Prop
  | f, [] => f.1 = 0
  | f, g :: r => (1 ≤ f.1 ∧ f.1 ≤ 4) ∧ WFs g r
def opn (f : Fr) : Nat := if 2 ≤ f.1 then 1 else 0
def ops : List Fr → Nat
  | [] => 0
  | f :: r => opn f + ops r
theorem dN.up {T : Nat → List Nd} {m : Nat} {x : Int} {L E : List Nd} (h : dN T m x L) : dN (updT T m E) (m + 1) x L := by
  rcases h with h | ⟨i, h1, h2, h3⟩
  · exact Or.inl h
  · exact Or.inr ⟨i, h1, by omega, by rw [← h3]; exact if_neg (by omega)⟩
theorem dN.new {T : Nat → List Nd} {m : Nat} {E : List Nd} : dN (updT T m E) (m + 1) (m : Int) E := Or.inr ⟨m, rfl, by omega, if_pos rfl⟩
theorem dN.rng {T : Nat → List Nd} {m : Nat} {x : Int} {L : List Nd} (h : dN T m x L) : -1 ≤ x ∧ x < (m : Int) := by
  rcases h with ⟨h, -⟩ | ⟨i, h1, h2, h3⟩ <;> omega
theorem dN.sub {T : Nat → List Nd} {m : Nat} {x : Int} {L : List Nd} (h : dN T m x L) : tsub T x = L := by
  rcases h with ⟨rfl, rfl⟩ | ⟨i, rfl, h2, rfl⟩
  · exact tsub_neg (by decide)
  · exact tsub_nat
theorem dN.neg {T : Nat → List Nd} {m : Nat} {x : Int} {L : List Nd} {h : AH} (hR : RTt h T m) (hd : dN T m x L) : x < 0 ↔ L = [] := by
  rcases hd with ⟨rfl, rfl⟩ | ⟨i, rfl, h2, rfl⟩
  · exact ⟨fun _ => rfl, fun _ => by decide⟩
  · exact ⟨fun z => absurd z (by omega), fun z => absurd z (hR.ne h2)⟩
theorem dN.pos {T : Nat → List Nd} {m : Nat} {x : Int} {L : List Nd} (hd : dN T m x L) (hL : L ≠ []) : 0 ≤ x := by
  rcases hd with ⟨h1, h2⟩ | ⟨i, h1, h2, h3⟩
  · exact absurd h2 hL
  · omega
theorem FSt.up {h h1 : AH} {T : Nat → List Nd} {m : Nat} {E : List Nd} {A F : List Nat} (k : KP h h1 A F) (hA : A.all (fun a => decide (a ∉ [47, 48, 49, 50, 51])) = true) : ∀ {s : List Fr}, FSt h T m s → FSt h1 (updT T m E) (m + 1) s
  | [], _ => trivial
  | f :: r, ⟨a1, a2, a3, a4, a5, a6⟩ => by
    have hn : ∀ r, r ∈ [47, 48, 49, 50, 51] → h1.vl r = h.vl r := fun r hr => k.vl (by intro e; subst e; exact absurd hr (by decide)) (fun hm => by
      have := of_decide_eq_true (List.all_eq_true.mp hA r hm)
      exact this hr)
    refine ⟨?_, ?_, ?_, fun z => ⟨(a4 z).1, ?_⟩, ?_, FSt.up k hA a6⟩
    · rw [hn 47 (by decide)]; exact a1
    · rw [hn 49 (by decide)]; exact a2
    · rw [hn 50 (by decide)]; exact a3
    · rw [hn 51 (by decide)]; exact (a4 z).2.up
    · rw [hn 48 (by decide)]; exact a5.up
/-- rows below a place are what they were -/
theorem FSt.lo {h h1 : AH} {T : Nat → List Nd} {m : Nat} : ∀ {s : List Fr}, (∀ r i, r ∈ [47, 48, 49, 50, 51] → i < s.length → h1.vl r i = h.vl r i) → FSt h T m s → FSt h1 T m s
  | [], _, _ => trivial
  | f :: r, hk, ⟨a1, a2, a3, a4, a5, a6⟩ => by
    have hl : r.length < (f :: r).length := Nat.lt_succ_self _
    refine ⟨?_, ?_, ?_, fun z => ⟨(a4 z).1, ?_⟩, ?_, FSt.lo (fun q i hq hi => hk q i hq (Nat.lt_trans hi hl)) a6⟩
    · rw [hk 47 _ (by decide) hl]; exact a1
    · rw [hk 49 _ (by decide) hl]; exact a2
    · rw [hk 50 _ (by decide) hl]; exact a3
    · rw [hk 51 _ (by decide) hl]; exact (a4 z).2
    · rw [hk 48 _ (by decide) hl]; exact a5
def cl1 (f g : Fr) : Fr := (g.1, g.2.1, g.2.2.1, g.2.2.2.1, if f.1 = 2 then (4, f.2.1, f.2.2.1) :: f.2.2.2.2 else (5, f.2.1, f.2.2.1) :: (f.2.2.2.1 ++ f.2.2.2.2))
/-- functions and lets whose bodies end here are ended -/
def clH (f : Fr) : List Fr → Fr × List Fr
  | [] => (f, [])
  | g :: r => if f.1 = 2 ∨ f.1 = 4 then clH (cl1 f g) r else (f, g :: r)
def ClQ (h0 : AH) (M : Nat) (p : Fr × List Fr) (h1 : AH) : Prop := ∃ T' m', KP h0 h1 [48, 52, 53, 54, 55, 56] [34, 35] ∧ RTt h1 T' m' ∧ m' + ops (p.1 :: p.2) = M ∧ FSt h1 T' m' (p.1 :: p.2) ∧ h1.vl 42 34 = (p.2.length : Int) ∧ WFs p.1 p.2 ∧ p.1.2.2.2.2 ≠ [] ∧ ¬ (p.1.1 = 2 ∨ p.1.1 = 4)
theorem FSt.put48 {h : AH} {T : Nat → List Nd} {m k : Nat} {x : Int} {g g' : Fr} {s : List Fr} (hS : FSt h T m (g :: s)) (hk : s.length = k) (hx : dN T m x g'.2.2.2.2) (h1 : g'.1 = g.1 ∧ g'.2.1 = g.2.1 ∧ g'.2.2.1 = g.2.2.1 ∧ g'.2.2.2.1 = g.2.2.2.1) : FSt (h.put 48 k x) T m (g' :: s) := by
  obtain ⟨a1, a2, a3, a4, a5, a6⟩ := hS
  obtain ⟨b1, b2, b3, b4⟩ := h1
  subst hk
  refine ⟨?_, ?_, ?_, ?_, ?_, FSt.lo (fun r i hr hi => ?_) a6⟩
  · rw [b1]; exact a1
  · rw [b2]; exact a2
  · rw [b3]; exact a3
  · rw [b1, b4]; exact a4
  · rw [AH.put_vl, if_pos ⟨rfl, rfl⟩]; exact hx
  · rw [AH.put_vl, if_neg (by omega)]
theorem FSt.fl {h : AH} {T : Nat → List Nd} {m j : Nat} {x : Int} : ∀ {s : List Fr}, FSt h T m s → FSt (h.put 42 j x) T m s := fun {s} hS => FSt.lo (fun r i hr _ => by rw [AH.put_vl, if_neg (fun z => by rw [z.1] at hr; exact absurd hr (by decide))]) hS
set_option maxRecDepth 100000 in
theorem closes_loop {h0 : AH} {M : Nat} (hM : M ≤ 125) : ∀ (r : List Fr) (f : Fr) (T : Nat → List Nd) (m : Nat) (h : AH) (v1 : AV), RI h → KP h0 h [48, 52, 53, 54, 55, 56] [34, 35] → RTt h T m → FSt h T m (f :: r) → WFs f r → m + ops (f :: r) = M → r.length < 64 → h.vl 42 34 = (r.length : Int) → f.2.2.2.2 ≠ [] → EV mX11_closes 2 0 [rv 42, v1] [] h (on (ClQ h0 M (clH f r))) := by
  intro r
  induction r with
  | nil =>
    intro f T m h v1 hI hK hR hS hW hm hk ht hd
    have hf : f.1 = 0 := hW
    obtain ⟨a1, a2, a3, a4, a5, a6⟩ := id hS
    have ht' : h.vl 42 34 = 0 := ht
    have a1' : h.vl 47 0 = 0 := a1.trans hf
    refine ev_aload_n dX11_closes_0 rfl ?_
    refine ev_getrv dX11_closes_1 fX11_26 hI.o hI.n rfl hI.v_frame ?_
    refine ev_aload_n dX11_closes_4 rfl ?_
    refine ev_getiv dX11_closes_5 fX11_171 hI.o hI.n rfl ht' ?_
    refine ev_ildv dX11_closes_8 hI.k_frame hI.n_frame rfl (by omega) (by omega) a1' ?_
    refine ev_iconst dX11_closes_9 ?_
    refine ev_icmpeq 26 dX11_closes_10 (fun h_no => (by exfalso; omega)) (fun hbr => ?_)
    refine ev_aload_n dX11_closes_13 rfl ?_
    refine ev_getrv dX11_closes_14 fX11_26 hI.o hI.n rfl hI.v_frame ?_
    refine ev_aload_n dX11_closes_17 rfl ?_
    refine ev_getiv dX11_closes_18 fX11_171 hI.o hI.n rfl ht' ?_
    refine ev_ildv dX11_closes_21 hI.k_frame hI.n_frame rfl (by omega) (by omega) a1' ?_
    refine ev_iconst dX11_closes_22 ?_
    refine ev_icmpne 140 dX11_closes_23 (fun hbr => ?_) (fun h_no => (by exfalso; omega))
    exact ev_vret dX11_closes_140 (⟨rfl, T, m, hK, hR, hm, hS, ht, hW, hd, by show ¬ (f.1 = 2 ∨ f.1 = 4); omega⟩)
  | cons g r ih =>
    intro f T m h v1 hI hK hR hS hW hm hk ht hd
    obtain ⟨a1, a2, a3, a4, a5, a6⟩ := id hS
    obtain ⟨k, hkk⟩ : ∃ k, k = (g :: r).length := ⟨_, rfl⟩
    have hk9 : k < 64 := by rw [hkk]; exact hk
    have hkr : k = r.length + 1 := hkk
    rw [← hkk] at a1 a2 a3 a4 a5 ht
    have hrg := a5.rng
    have ho : ops (f :: g :: r) = opn f + ops (g :: r) := rfl
    have nx : ∀ (is : Int) (E : List Nd) (h2 : AH), opn f = 1 → is = (m : Int) → (cl1 f g).2.2.2.2 = E → KP h h2 [52, 53, 54, 55, 56] [35] → RTt h2 (updT T m E) (m + 1) → clH f (g :: r) = clH (cl1 f g) r → EV mX11_closes 2 0 [rv 42, iv is] [] ((h2.put 42 34 ((r.length : Nat) : Int)).put 48 r.length is) (on (ClQ h0 M (clH f (g :: r)))) := by
      intro is E h2 hop his hE k2 hR2 hcl
      rw [hcl]
      have hK2 := hK.tr (k2.wk (by decide) (by decide))
      have hK3 : KP h ((h2.put 42 34 ((r.length : Nat) : Int)).put 48 r.length is) [48, 52, 53, 54, 55, 56] [34, 35] := ((k2.wk (by decide) (by decide)).pf (by decide)).pr (by decide) (by decide)
      refine ih (cl1 f g) (updT T m E) (m + 1) _ _ (hK3.ri hI) ((hK2.pf (by decide)).pr (by decide) (by decide)) ((hR2.keep (KP.rf.pf (A := []) (F := [34]) (by decide))).keep (KP.rf.pr (A := [48]) (F := []) (by decide) (by decide))) ?_ ?_ ?_ (by omega) ?_ ?_
      · refine FSt.put48 (g := g) (FSt.fl (FSt.up k2 (by decide) a6)) rfl ?_ ⟨rfl, rfl, rfl, rfl⟩
        rw [hE, his]
        exact dN.new
      · have hw := hW.2
        cases r with
        | nil => exact hw
        | cons g2 r2 => exact hw
      · have : ops (cl1 f g :: r) = ops (g :: r) := rfl
        omega
      · show (h2.put 42 34 ((r.length : Nat) : Int)).vl 42 34 = _
        rw [AH.put_vl, if_pos ⟨rfl, rfl⟩]
      · rw [hE]
        intro z
        have := hR2.ne (Nat.lt_succ_self m)
        exact this ((if_pos rfl : updT T m E m = E).trans z)
    by_cases f2 : f.1 = 2
    · skip
      have hop : opn f = 1 := by unfold opn; rw [if_pos (by omega)]
      have hcl : clH f (g :: r) = clH (cl1 f g) r := by rw [clH, if_pos (Or.inl f2)]
      refine ev_aload_n dX11_closes_0 rfl ?_
      refine ev_getrv dX11_closes_1 fX11_26 hI.o hI.n rfl hI.v_frame ?_
      refine ev_aload_n dX11_closes_4 rfl ?_
      refine ev_getiv dX11_closes_5 fX11_171 hI.o hI.n rfl ht ?_
      refine ev_ildv dX11_closes_8 hI.k_frame hI.n_frame rfl (by omega) (by omega) a1 ?_
      refine ev_iconst dX11_closes_9 ?_
      refine ev_icmpeq 26 dX11_closes_10 (fun hc => ?_) (fun h_no => (by exfalso; omega))
      refine ev_aload_n dX11_closes_26 rfl ?_
      refine ev_getrv dX11_closes_27 fX11_26 hI.o hI.n rfl hI.v_frame ?_
      refine ev_aload_n dX11_closes_30 rfl ?_
      refine ev_getiv dX11_closes_31 fX11_171 hI.o hI.n rfl ht ?_
      refine ev_ildv dX11_closes_34 hI.k_frame hI.n_frame rfl (by omega) (by omega) a1 ?_
      refine ev_iconst dX11_closes_35 ?_
      refine ev_icmpne 75 dX11_closes_36 (fun h_no => (by exfalso; omega)) (fun hc2 => ?_)
      refine ev_aload_n dX11_closes_39 rfl ?_
      refine ev_iconst dX11_closes_40 ?_
      refine ev_aload_n dX11_closes_41 rfl ?_
      refine ev_getrv dX11_closes_42 fX11_32 hI.o hI.n rfl hI.v_letter ?_
      refine ev_aload_n dX11_closes_45 rfl ?_
      refine ev_getiv dX11_closes_46 fX11_171 hI.o hI.n rfl ht ?_
      refine ev_ildv dX11_closes_49 hI.k_letter hI.n_letter rfl (by omega) (by omega) a2 ?_
      refine ev_aload_n dX11_closes_50 rfl ?_
      refine ev_getrv dX11_closes_51 fX11_29 hI.o hI.n rfl hI.v_done ?_
      refine ev_aload_n dX11_closes_54 rfl ?_
      refine ev_getiv dX11_closes_55 fX11_171 hI.o hI.n rfl ht ?_
      refine ev_ildv dX11_closes_58 hI.k_done hI.n_done rfl (by omega) (by omega) (show _ = h.vl 48 k from rfl) ?_
      refine ev_iconst dX11_closes_59 ?_
      refine ev_aload_n dX11_closes_60 rfl ?_
      refine ev_getrv dX11_closes_61 fX11_35 hI.o hI.n rfl hI.v_place ?_
      refine ev_aload_n dX11_closes_64 rfl ?_
      refine ev_getiv dX11_closes_65 fX11_171 hI.o hI.n rfl ht ?_
      refine ev_ildv dX11_closes_68 hI.k_place hI.n_place rfl (by omega) (by omega) a3 ?_
      refine ev_cvi dX11_closes_69 lX11_174 (s_rawT hI hR (by omega) hrg (by omega) (Or.inr (Or.inl ⟨rfl, a5.pos hd, by decide⟩))) (by decide) hI.o hI.n rfl rfl rfl (Nat.le_of_ble_eq_true rfl) rfl (fun r1 h2 q => ?_)
      obtain ⟨rfl, k2, hR2⟩ := q
      have ht2 : h2.vl 42 34 = (k : Int) := (k2.fl).trans ht
      have hI2 : RI h2 := k2.ri hI
      refine ev_gt 116 dX11_closes_72 ?_
      refine ev_ist1 dX11_closes_116 ?_
      refine ev_aload_n dX11_closes_117 rfl ?_
      refine ev_dup dX11_closes_118 ?_
      refine ev_getiv dX11_closes_119 fX11_171 hI2.o hI2.n rfl ht2 ?_
      refine ev_iconst dX11_closes_122 ?_
      refine ev_isub dX11_closes_123 (by unfold ir; omega) ?_
      have e1 : (k : Int) - 1 = ((r.length : Nat) : Int) := by omega
      rw [e1]
      refine ev_pt dX11_closes_124 fX11_171 hI2.o hI2.n rfl ?_
      refine ev_aload_n dX11_closes_127 rfl ?_
      refine ev_getrv dX11_closes_128 fX11_29 hI2.o hI2.n rfl hI2.v_done ?_
      refine ev_aload_n dX11_closes_131 rfl ?_
      refine ev_getiv dX11_closes_132 fX11_171 hI2.o hI2.n rfl (show _ = ((r.length : Nat) : Int) from rfl) ?_
      refine ev_iload_n dX11_closes_135 rfl ?_
      refine ev_istr dX11_closes_136 hI2.k_done hI2.n_done rfl (by omega) (by omega) ?_
      refine ev_gt 0 dX11_closes_137 ?_
      refine nx _ _ _ hop rfl ?_ k2 hR2 hcl
      show (if f.1 = 2 then (4, f.2.1, f.2.2.1) :: f.2.2.2.2 else (5, f.2.1, f.2.2.1) :: (f.2.2.2.1 ++ f.2.2.2.2)) = _
      rw [if_pos f2, a5.sub]
      simp [tsub]
    · skip
      by_cases f4 : f.1 = 4
      · skip
        have hop : opn f = 1 := by unfold opn; rw [if_pos (by omega)]
        have hcl : clH f (g :: r) = clH (cl1 f g) r := by rw [clH, if_pos (Or.inr f4)]
        obtain ⟨b1, b2⟩ := a4 f4
        have hrb := b2.rng
        refine ev_aload_n dX11_closes_0 rfl ?_
        refine ev_getrv dX11_closes_1 fX11_26 hI.o hI.n rfl hI.v_frame ?_
        refine ev_aload_n dX11_closes_4 rfl ?_
        refine ev_getiv dX11_closes_5 fX11_171 hI.o hI.n rfl ht ?_
        refine ev_ildv dX11_closes_8 hI.k_frame hI.n_frame rfl (by omega) (by omega) a1 ?_
        refine ev_iconst dX11_closes_9 ?_
        refine ev_icmpeq 26 dX11_closes_10 (fun h_no => (by exfalso; omega)) (fun hc => ?_)
        refine ev_aload_n dX11_closes_13 rfl ?_
        refine ev_getrv dX11_closes_14 fX11_26 hI.o hI.n rfl hI.v_frame ?_
        refine ev_aload_n dX11_closes_17 rfl ?_
        refine ev_getiv dX11_closes_18 fX11_171 hI.o hI.n rfl ht ?_
        refine ev_ildv dX11_closes_21 hI.k_frame hI.n_frame rfl (by omega) (by omega) a1 ?_
        refine ev_iconst dX11_closes_22 ?_
        refine ev_icmpne 140 dX11_closes_23 (fun h_no => (by exfalso; omega)) (fun hc2 => ?_)
        refine ev_aload_n dX11_closes_26 rfl ?_
        refine ev_getrv dX11_closes_27 fX11_26 hI.o hI.n rfl hI.v_frame ?_
        refine ev_aload_n dX11_closes_30 rfl ?_
        refine ev_getiv dX11_closes_31 fX11_171 hI.o hI.n rfl ht ?_
        refine ev_ildv dX11_closes_34 hI.k_frame hI.n_frame rfl (by omega) (by omega) a1 ?_
        refine ev_iconst dX11_closes_35 ?_
        refine ev_icmpne 75 dX11_closes_36 (fun hc3 => ?_) (fun h_no => (by exfalso; omega))
        refine ev_aload_n dX11_closes_75 rfl ?_
        refine ev_iconst dX11_closes_76 ?_
        refine ev_aload_n dX11_closes_77 rfl ?_
        refine ev_getrv dX11_closes_78 fX11_32 hI.o hI.n rfl hI.v_letter ?_
        refine ev_aload_n dX11_closes_81 rfl ?_
        refine ev_getiv dX11_closes_82 fX11_171 hI.o hI.n rfl ht ?_
        refine ev_ildv dX11_closes_85 hI.k_letter hI.n_letter rfl (by omega) (by omega) a2 ?_
        refine ev_aload_n dX11_closes_86 rfl ?_
        refine ev_getrv dX11_closes_87 fX11_38 hI.o hI.n rfl hI.v_bound ?_
        refine ev_aload_n dX11_closes_90 rfl ?_
        refine ev_getiv dX11_closes_91 fX11_171 hI.o hI.n rfl ht ?_
        refine ev_ildv dX11_closes_94 hI.k_bound hI.n_bound rfl (by omega) (by omega) (show _ = h.vl 51 k from rfl) ?_
        refine ev_aload_n dX11_closes_95 rfl ?_
        refine ev_getrv dX11_closes_96 fX11_29 hI.o hI.n rfl hI.v_done ?_
        refine ev_aload_n dX11_closes_99 rfl ?_
        refine ev_getiv dX11_closes_100 fX11_171 hI.o hI.n rfl ht ?_
        refine ev_ildv dX11_closes_103 hI.k_done hI.n_done rfl (by omega) (by omega) (show _ = h.vl 48 k from rfl) ?_
        refine ev_aload_n dX11_closes_104 rfl ?_
        refine ev_getrv dX11_closes_105 fX11_35 hI.o hI.n rfl hI.v_place ?_
        refine ev_aload_n dX11_closes_108 rfl ?_
        refine ev_getiv dX11_closes_109 fX11_171 hI.o hI.n rfl ht ?_
        refine ev_ildv dX11_closes_112 hI.k_place hI.n_place rfl (by omega) (by omega) a3 ?_
        refine ev_cvi dX11_closes_113 lX11_174 (s_rawT hI hR (by omega) hrb hrg (Or.inr (Or.inr ⟨Or.inl rfl, b2.pos b1, a5.pos hd⟩))) (by decide) hI.o hI.n rfl rfl rfl (Nat.le_of_ble_eq_true rfl) rfl (fun r1 h2 q => ?_)
        obtain ⟨rfl, k2, hR2⟩ := q
        have ht2 : h2.vl 42 34 = (k : Int) := (k2.fl).trans ht
        have hI2 : RI h2 := k2.ri hI
        refine ev_ist1 dX11_closes_116 ?_
        refine ev_aload_n dX11_closes_117 rfl ?_
        refine ev_dup dX11_closes_118 ?_
        refine ev_getiv dX11_closes_119 fX11_171 hI2.o hI2.n rfl ht2 ?_
        refine ev_iconst dX11_closes_122 ?_
        refine ev_isub dX11_closes_123 (by unfold ir; omega) ?_
        have e1 : (k : Int) - 1 = ((r.length : Nat) : Int) := by omega
        rw [e1]
        refine ev_pt dX11_closes_124 fX11_171 hI2.o hI2.n rfl ?_
        refine ev_aload_n dX11_closes_127 rfl ?_
        refine ev_getrv dX11_closes_128 fX11_29 hI2.o hI2.n rfl hI2.v_done ?_
        refine ev_aload_n dX11_closes_131 rfl ?_
        refine ev_getiv dX11_closes_132 fX11_171 hI2.o hI2.n rfl (show _ = ((r.length : Nat) : Int) from rfl) ?_
        refine ev_iload_n dX11_closes_135 rfl ?_
        refine ev_istr dX11_closes_136 hI2.k_done hI2.n_done rfl (by omega) (by omega) ?_
        refine ev_gt 0 dX11_closes_137 ?_
        refine nx _ _ _ hop rfl ?_ k2 hR2 hcl
        show (if f.1 = 2 then (4, f.2.1, f.2.2.1) :: f.2.2.2.2 else (5, f.2.1, f.2.2.1) :: (f.2.2.2.1 ++ f.2.2.2.2)) = _
        rw [if_neg f2, b2.sub, a5.sub]
      · skip
        have hcl : clH f (g :: r) = (f, g :: r) := by rw [clH, if_neg (by omega)]
        rw [hcl]
        refine ev_aload_n dX11_closes_0 rfl ?_
        refine ev_getrv dX11_closes_1 fX11_26 hI.o hI.n rfl hI.v_frame ?_
        refine ev_aload_n dX11_closes_4 rfl ?_
        refine ev_getiv dX11_closes_5 fX11_171 hI.o hI.n rfl ht ?_
        refine ev_ildv dX11_closes_8 hI.k_frame hI.n_frame rfl (by omega) (by omega) a1 ?_
        refine ev_iconst dX11_closes_9 ?_
        refine ev_icmpeq 26 dX11_closes_10 (fun h_no => (by exfalso; omega)) (fun hc => ?_)
        refine ev_aload_n dX11_closes_13 rfl ?_
        refine ev_getrv dX11_closes_14 fX11_26 hI.o hI.n rfl hI.v_frame ?_
        refine ev_aload_n dX11_closes_17 rfl ?_
        refine ev_getiv dX11_closes_18 fX11_171 hI.o hI.n rfl ht ?_
        refine ev_ildv dX11_closes_21 hI.k_frame hI.n_frame rfl (by omega) (by omega) a1 ?_
        refine ev_iconst dX11_closes_22 ?_
        refine ev_icmpne 140 dX11_closes_23 (fun hc2 => ?_) (fun h_no => (by exfalso; omega))
        exact ev_vret dX11_closes_140 (⟨rfl, T, m, hK, hR, hm, hS, by rw [ht, hkk], hW, hd, by show ¬ (f.1 = 2 ∨ f.1 = 4); omega⟩)
set_option maxRecDepth 100000 in
theorem s_closes {f : Fr} {r : List Fr} {T : Nat → List Nd} {m : Nat} {h : AH} (hI : RI h) (hR : RTt h T m) (hS : FSt h T m (f :: r)) (hW : WFs f r) (hm : m + ops (f :: r) ≤ 125) (hk : r.length < 64) (ht : h.vl 42 34 = (r.length : Int)) (hd : f.2.2.2.2 ≠ []) : CV mX11_closes 2 [rv 42] h (on (ClQ h (m + ops (f :: r)) (clH f r))) := by
  refine cv_of cdX11_closes ?_
  show EV _ _ 0 [rv 42, uv] [] h _
  exact closes_loop hm r f T m h uv hI KP.rf hR hS hW rfl hk ht hd
def atL (L : List Nd) : Int := match L with | [] => 0 | x :: _ => x.2.2
def adF (f : Fr) (L : List Nd) : Fr := (f.1, f.2.1, f.2.2.1, f.2.2.2.1, if f.2.2.2.2 = [] then L else (6, 0, atL f.2.2.2.2) :: (f.2.2.2.2 ++ L))
set_option maxRecDepth 100000 in
theorem s_adds {f : Fr} {r : List Fr} {T : Nat → List Nd} {m : Nat} {x : Int} {L : List Nd} {h : AH} (hI : RI h) (hR : RTt h T m) (hS : FSt h T m (f :: r)) (hm : m < 130) (hk : r.length < 64) (ht : h.vl 42 34 = (r.length : Int)) (hx : dN T m x L) (hL : L ≠ []) :
    CV mX11_adds 2 [rv 42, iv x] h (on fun h1 => ∃ T' m', KP h h1 [48, 52, 53, 54, 55, 56] [35] ∧ RTt h1 T' m' ∧ FSt h1 T' m' (adF f L :: r) ∧ m' ≤ m + 1) := by
  refine cv_of cdX11_adds ?_
  show EV _ _ 0 [rv 42, iv x] [] h _
  obtain ⟨a1, a2, a3, a4, a5, a6⟩ := id hS
  obtain ⟨k, hkk⟩ : ∃ k, k = r.length := ⟨_, rfl⟩
  have hk9 : k < 64 := by rw [hkk]; exact hk
  rw [← hkk] at a1 a2 a3 a4 a5 ht
  rcases id a5 with ⟨d1, d2⟩ | ⟨i, d1, d2, d3⟩
  · skip
    refine ev_aload_n dX11_adds_0 rfl ?_
    refine ev_getrv dX11_adds_1 fX11_29 hI.o hI.n rfl hI.v_done ?_
    refine ev_aload_n dX11_adds_4 rfl ?_
    refine ev_getiv dX11_adds_5 fX11_171 hI.o hI.n rfl ht ?_
    refine ev_aload_n dX11_adds_8 rfl ?_
    refine ev_getrv dX11_adds_9 fX11_29 hI.o hI.n rfl hI.v_done ?_
    refine ev_aload_n dX11_adds_12 rfl ?_
    refine ev_getiv dX11_adds_13 fX11_171 hI.o hI.n rfl ht ?_
    refine ev_ildv dX11_adds_16 hI.k_done hI.n_done rfl (by omega) (by omega) d1 ?_
    refine ev_ifge 24 dX11_adds_17 (fun h_no => (by exfalso; omega)) (fun hbr => ?_)
    refine ev_iload_n dX11_adds_20 rfl ?_
    refine ev_gt 55 dX11_adds_21 ?_
    refine ev_istr dX11_adds_55 hI.k_done hI.n_done rfl (by omega) (by omega) ?_
    exact ev_vret dX11_adds_56 (⟨rfl, T, m, KP.rf.pr (by decide) (by decide), hR.keep (KP.rf.pr (A := [48]) (F := []) (by decide) (by decide)), FSt.put48 hS hkk.symm (by show dN T m x (if f.2.2.2.2 = [] then L else _); rw [if_pos d2]; exact hx) ⟨rfl, rfl, rfl, rfl⟩, by omega⟩)
  · skip
    have hne : f.2.2.2.2 ≠ [] := by rw [← d3]; exact hR.ne d2
    refine ev_aload_n dX11_adds_0 rfl ?_
    refine ev_getrv dX11_adds_1 fX11_29 hI.o hI.n rfl hI.v_done ?_
    refine ev_aload_n dX11_adds_4 rfl ?_
    refine ev_getiv dX11_adds_5 fX11_171 hI.o hI.n rfl ht ?_
    refine ev_aload_n dX11_adds_8 rfl ?_
    refine ev_getrv dX11_adds_9 fX11_29 hI.o hI.n rfl hI.v_done ?_
    refine ev_aload_n dX11_adds_12 rfl ?_
    refine ev_getiv dX11_adds_13 fX11_171 hI.o hI.n rfl ht ?_
    refine ev_ildv dX11_adds_16 hI.k_done hI.n_done rfl (by omega) (by omega) d1 ?_
    refine ev_ifge 24 dX11_adds_17 (fun hc => ?_) (fun h_no => (by exfalso; omega))
    refine ev_aload_n dX11_adds_24 rfl ?_
    refine ev_bipush dX11_adds_25 ?_
    refine ev_iconst dX11_adds_27 ?_
    refine ev_aload_n dX11_adds_28 rfl ?_
    refine ev_getrv dX11_adds_29 fX11_29 hI.o hI.n rfl hI.v_done ?_
    refine ev_aload_n dX11_adds_32 rfl ?_
    refine ev_getiv dX11_adds_33 fX11_171 hI.o hI.n rfl ht ?_
    refine ev_ildv dX11_adds_36 hI.k_done hI.n_done rfl (by omega) (by omega) d1 ?_
    refine ev_iload_n dX11_adds_37 rfl ?_
    refine ev_aload_n dX11_adds_38 rfl ?_
    refine ev_getrv dX11_adds_39 fX11_53 hI.o hI.n rfl hI.v_rawAt ?_
    refine ev_aload_n dX11_adds_42 rfl ?_
    refine ev_getrv dX11_adds_43 fX11_29 hI.o hI.n rfl hI.v_done ?_
    refine ev_aload_n dX11_adds_46 rfl ?_
    refine ev_getiv dX11_adds_47 fX11_171 hI.o hI.n rfl ht ?_
    refine ev_ildv dX11_adds_50 hI.k_done hI.n_done rfl (by omega) (by omega) d1 ?_
    refine ev_ildv dX11_adds_51 hI.k_rawAt hI.n_rawAt rfl (by omega) (by omega) (show _ = h.vl 56 i from rfl) ?_
    refine ev_cvi dX11_adds_52 lX11_174 (s_rawT hI hR (by omega) (by omega) hx.rng (Or.inr (Or.inr ⟨Or.inr rfl, by omega, hx.pos hL⟩))) (by decide) hI.o hI.n rfl rfl rfl (Nat.le_of_ble_eq_true rfl) rfl (fun r1 h2 q => ?_)
    obtain ⟨rfl, k2, hR2⟩ := q
    have hI2 : RI h2 := k2.ri hI
    refine ev_istr dX11_adds_55 hI2.k_done hI2.n_done rfl (by omega) (by omega) ?_
    refine ev_vret dX11_adds_56 (⟨rfl, _, m + 1, (k2.wk (by decide) (by decide)).pr (by decide) (by decide), hR2.keep (KP.rf.pr (A := [48]) (F := []) (by decide) (by decide)), FSt.put48 (FSt.up k2 (by decide) hS) hkk.symm ?_ ⟨rfl, rfl, rfl, rfl⟩, by omega⟩)
    show dN _ _ _ (if f.2.2.2.2 = [] then L else (6, 0, atL f.2.2.2.2) :: (f.2.2.2.2 ++ L))
    rw [if_neg hne, tsub_nat, d3, hx.sub]
    have e9 : h.vl 56 i = atL f.2.2.2.2 := by rw [← d3, (hR.2 i d2).1]; rfl
    rw [e9]
    exact dN.new
/-! the nodes are numbered -/
def pt7 (s : Nat → Nat → Int) (a i : Nat) (x : Int) : Nat → Nat → Int := fun b j => if b = a ∧ j = i then x else s b j
def tb3 (x : Nd) (k : Nat) (p : Int) (s : Nat → Nat → Int) : Nat → Nat → Int := pt7 (pt7 (pt7 (pt7 (pt7 (pt7 (pt7 s 57 k x.1) 58 k x.2.1) 63 k x.2.2) 61 k p) 62 k (if p < 0 then 0 else s 62 p.toNat + 1)) 59 k (-1)) 60 k (-1)
def tb1 (x : Nd) (k : Nat) (p : Int) (s : Nat → Nat → Int) : Nat → Nat → Int :=
  if p < 0 then tb3 x k p s else if s 59 p.toNat < 0 then pt7 (tb3 x k p s) 59 p.toNat k else pt7 (tb3 x k p s) 60 p.toNat k
def arN (a : Int) : Nat := if a < 4 then 0 else if a = 4 then 1 else 2
/-- the table of nodes, told in the order of the text; P: the nodes whose parts are awaited -/
def tbF : List Nd → Nat → List Int → (Nat → Nat → Int) → Nat → Nat → Int
  | [], _, _, s => s
  | x :: L, k, P, s => tbF L (k + 1) (List.replicate (arN x.1) (k : Int) ++ P.tail) (tb1 x k (P.headD (-1)) s)
def Ag7 (k : Nat) (D : List Nat) (h : AH) (s : Nat → Nat → Int) : Prop := ∀ c j, 57 ≤ c → c ≤ 63 → (j < k ∨ (j = k ∧ c ∈ D)) → h.vl c j = s c j
theorem Ag7.pk {k c : Nat} {D : List Nat} {h : AH} {s : Nat → Nat → Int} {x y : Int} (a : Ag7 k D h s) (hxy : x = y) : Ag7 k (c :: D) (h.put c k x) (pt7 s c k y) := fun b j h1 h2 hj => by
  show (if b = c ∧ j = k then x else h.vl b j) = (if b = c ∧ j = k then y else s b j)
  by_cases e : b = c ∧ j = k
  · rw [if_pos e, if_pos e, hxy]
  · rw [if_neg e, if_neg e]
    refine a b j h1 h2 ?_
    rcases hj with hj | ⟨hj, hm⟩
    · exact Or.inl hj
    · rcases List.mem_cons.mp hm with hm | hm
      · exact absurd ⟨hm, hj⟩ e
      · exact Or.inr ⟨hj, hm⟩
theorem Ag7.pl {k c i : Nat} {D : List Nat} {h : AH} {s : Nat → Nat → Int} {x y : Int} (a : Ag7 k D h s) (hxy : x = y) : Ag7 k D (h.put c i x) (pt7 s c i y) := fun b j h1 h2 hj => by
  show (if b = c ∧ j = i then x else h.vl b j) = (if b = c ∧ j = i then y else s b j)
  by_cases e : b = c ∧ j = i
  · rw [if_pos e, if_pos e, hxy]
  · rw [if_neg e, if_neg e]
    exact a b j h1 h2 hj
theorem Ag7.ot {k c i : Nat} {D : List Nat} {h : AH} {s : Nat → Nat → Int} {x : Int} (a : Ag7 k D h s) (hc : c < 57 ∨ 63 < c) : Ag7 k D (h.put c i x) s := fun b j h1 h2 hj => by
  rw [AH.put_vl, if_neg (by omega)]
  exact a b j h1 h2 hj
theorem Ag7.nx {k : Nat} {D : List Nat} {h : AH} {s : Nat → Nat → Int} (a : Ag7 k D h s) (hD : [57, 58, 59, 60, 61, 62, 63].all (fun c => decide (c ∈ D)) = true) : Ag7 (k + 1) [] h s := fun b j h1 h2 hj => by
  refine a b j h1 h2 ?_
  rcases hj with hj | ⟨-, hm⟩
  · by_cases e : j < k
    · exact Or.inl e
    · refine Or.inr ⟨by omega, of_decide_eq_true (List.all_eq_true.mp hD b ?_)⟩
      have : b = 57 ∨ b = 58 ∨ b = 59 ∨ b = 60 ∨ b = 61 ∨ b = 62 ∨ b = 63 := by omega
      simp only [List.mem_cons, List.not_mem_nil, or_false]
      exact this
  · nomatch hm
def SKr (h : AH) (m : Nat) : List (Nat × Int) → Prop
  | [] => True
  | q :: r => h.vl 64 r.length = (q.1 : Int) ∧ h.vl 65 r.length = q.2 ∧ q.1 < m ∧ SKr h m r
def flT (T : Nat → List Nd) : List (Nat × Int) → List Nd
  | [] => []
  | q :: r => T q.1 ++ flT T r
theorem SKr.lo {h h1 : AH} {m : Nat} : ∀ {s : List (Nat × Int)}, (∀ i, i < s.length → h1.vl 64 i = h.vl 64 i ∧ h1.vl 65 i = h.vl 65 i) → SKr h m s → SKr h1 m s
  | [], _, _ => trivial
  | q :: r, hk, ⟨a1, a2, a3, a4⟩ => ⟨(hk _ (Nat.lt_succ_self _)).1.trans a1, (hk _ (Nat.lt_succ_self _)).2.trans a2, a3, SKr.lo (fun i hi => hk i (Nat.lt_succ_of_lt hi)) a4⟩
theorem tb1_62 {x : Nd} {k : Nat} {p : Int} {s : Nat → Nat → Int} {j : Nat} : tb1 x k p s 62 j = if j = k then (if p < 0 then 0 else s 62 p.toNat + 1) else s 62 j := by
  have e3 : tb3 x k p s 62 j = if j = k then (if p < 0 then 0 else s 62 p.toNat + 1) else s 62 j := by
    unfold tb3
    by_cases hj : j = k <;> simp [pt7, hj]
  unfold tb1
  by_cases h1 : p < 0
  · rw [if_pos h1]; exact e3
  · rw [if_neg h1]
    by_cases h2 : s 59 p.toNat < 0
    · rw [if_pos h2, ← e3]
      exact if_neg (by omega)
    · rw [if_neg h2, ← e3]
      exact if_neg (by omega)
def NmQ (h0 : AH) (n : Nat) (s : Nat → Nat → Int) (h1 : AH) : Prop := KP h0 h1 [57, 58, 59, 60, 61, 62, 63, 64, 65] [36] ∧ Ag7 n [] h1 s ∧ h1.vl 42 36 = (n : Int)
set_option maxRecDepth 100000 in
theorem numbers_loop {h0 : AH} {T : Nat → List Nd} {m : Nat} {root : Int} (hI0 : RI h0) (hR0 : RTt h0 T m) (hm9 : m ≤ 130) : ∀ (N : Nat) (L : List Nd) (st : List (Nat × Int)) (k : Nat) (s : Nat → Nat → Int) (h : AH) (v3 v4 v5 : AV), L.length = N → KP h0 h [57, 58, 59, 60, 61, 62, 63, 64, 65] [36] → SKr h m st → flT T st = L → Ag7 k [] h s → h.vl 42 36 = (k : Int) → k + L.length ≤ 125 → st.length ≤ k + 1 → (∀ q ∈ st, -1 ≤ q.2 ∧ q.2 < (k : Int)) → (∀ j, j < k → 0 ≤ s 62 j ∧ s 62 j ≤ (j : Int)) → EV mX11_numbers 1 21 [rv 42, iv root, iv (st.length : Int), v3, v4, v5] [] h (on (NmQ h0 (k + L.length) (tbF L k (st.map Prod.snd) s))) := by
  intro N
  induction N with
  | zero =>
    intro L st k s h v3 v4 v5 hN hK hS hF hA hk h9 hst hP hD
    have hL : L = [] := List.eq_nil_of_length_eq_zero hN
    subst hL
    cases st with
    | cons q r =>
      obtain ⟨-, -, a3, -⟩ := hS
      have hne := hR0.ne a3
      have : T q.1 = [] := (List.append_eq_nil_iff.mp hF).1
      exact absurd this hne
    | nil =>
      refine ev_iload_n dX11_numbers_21 rfl ?_
      refine ev_ifle 256 dX11_numbers_22 (fun hc => ?_) (fun h_no => (by exfalso; omega))
      exact ev_vret dX11_numbers_256 (⟨rfl, hK, hA, hk⟩)
  | succ N ih =>
    intro L st k s h v3 v4 v5 hN hK hS hF hA hk h9 hst hP hD
    have hI : RI h := hK.ri hI0
    have hR : RTt h T m := hR0.keep hK
    cases st with
    | nil =>
      have : L = [] := hF.symm
      rw [this] at hN
      exact absurd hN (by simp)
    | cons q r =>
      obtain ⟨i, p⟩ := q
      obtain ⟨a1, a2, a3, a4⟩ := id hS
      have a3' : i < m := a3
      obtain ⟨w, hw⟩ : ∃ w, w = r.length := ⟨_, rfl⟩
      have hp := hP (i, p) List.mem_cons_self
      have hp1 : -1 ≤ p := hp.1
      have hp2 : p < (k : Int) := hp.2
      have hPr : ∀ q ∈ r, -1 ≤ q.2 ∧ q.2 < (k : Int) := fun q hq => hP q (List.mem_cons_of_mem _ hq)
      have hst' : w + 1 ≤ k + 1 := by rw [hw]; exact hst
      obtain ⟨t1, t2, t3, t4⟩ := hR.2 i a3
      have hF' : L = (h.vl 52 i, h.vl 53 i, h.vl 56 i) :: (tsub T (h.vl 54 i) ++ tsub T (h.vl 55 i) ++ flT T r) := by
        rw [← hF]
        show T i ++ flT T r = _
        rw [t1]; rfl
      obtain ⟨L', hL'⟩ : ∃ L', L' = tsub T (h.vl 54 i) ++ tsub T (h.vl 55 i) ++ flT T r := ⟨_, rfl⟩
      rw [← hL'] at hF'
      have hN' : L'.length = N := by rw [hF'] at hN; simpa using hN
      have hLl : L.length = L'.length + 1 := by rw [hF']; rfl
      rw [← hw] at a1 a2
      have tl : ∀ (h2 : AH), KP h h2 [57, 58, 59, 60, 61, 62, 63] [36] → Ag7 (k + 1) [] h2 (tb1 (h.vl 52 i, h.vl 53 i, h.vl 56 i) k p s) → h2.vl 42 36 = (k : Int) + 1 → EV mX11_numbers 1 189 [rv 42, iv root, iv (w : Int), iv (i : Int), iv p, iv (k : Int)] [] h2 (on (NmQ h0 (k + L.length) (tbF L k ((i, p) :: r |>.map Prod.snd) s))) := by
        intro h2 k2 hA2 hk2
        have hI2 : RI h2 := k2.ri hI
        have hK2 : KP h0 h2 [57, 58, 59, 60, 61, 62, 63, 64, 65] [36] := hK.tr (k2.wk (by decide) (by decide))
        have u1 : h2.vl 54 i = h.vl 54 i := congrFun (k2.vl) i
        have u2 : h2.vl 55 i = h.vl 55 i := congrFun (k2.vl) i
        have u3 : h2.vl 64 = h.vl 64 := k2.vl
        have u4 : h2.vl 65 = h.vl 65 := k2.vl
        have hSr : SKr h2 m r := SKr.lo (fun j _ => ⟨congrFun u3 j, congrFun u4 j⟩) a4
        have fin : ∀ (st' : List (Nat × Int)) (h3 : AH), KP h2 h3 [64, 65] [] → SKr h3 m st' → flT T st' = L' → st'.map Prod.snd = List.replicate (arN (h.vl 52 i)) (k : Int) ++ r.map Prod.snd → st'.length ≤ k + 2 → (∀ q ∈ st', -1 ≤ q.2 ∧ q.2 < ((k + 1 : Nat) : Int)) → EV mX11_numbers 1 21 [rv 42, iv root, iv (st'.length : Int), iv (i : Int), iv p, iv (k : Int)] [] h3 (on (NmQ h0 (k + L.length) (tbF L k ((i, p) :: r |>.map Prod.snd) s))) := by
          intro st' h3 k3 hS3 hF3 hm3 hl3 hP3
          have hA3 : Ag7 (k + 1) [] h3 (tb1 (h.vl 52 i, h.vl 53 i, h.vl 56 i) k p s) := fun c j c1 c2 hj => by
            rw [k3.vl (r := c) (by omega) (by simp only [List.mem_cons, List.not_mem_nil, or_false]; omega)]
            exact hA2 c j c1 c2 hj
          have hD3 : ∀ j, j < k + 1 → 0 ≤ tb1 (h.vl 52 i, h.vl 53 i, h.vl 56 i) k p s 62 j ∧ tb1 (h.vl 52 i, h.vl 53 i, h.vl 56 i) k p s 62 j ≤ (j : Int) := fun j hj => by
            rw [tb1_62]
            by_cases e : j = k
            · rw [if_pos e]
              by_cases hp0 : p < 0
              · rw [if_pos hp0]; omega
              · rw [if_neg hp0]
                have := hD p.toNat (by omega)
                omega
            · rw [if_neg e]
              exact hD j (by omega)
          have z := ih L' st' (k + 1) _ h3 (iv i) (iv p) (iv k) hN' (hK2.tr (k3.wk (by decide) (by decide))) hS3 hF3 hA3 (by rw [k3.fl (by decide), hk2]; rfl) (by omega) hl3 hP3 hD3
          rw [hm3] at z
          have e1 : k + 1 + L'.length = k + L.length := by omega
          have e2 : tbF L k ((i, p) :: r |>.map Prod.snd) s = tbF L' (k + 1) (List.replicate (arN (h.vl 52 i)) (k : Int) ++ r.map Prod.snd) (tb1 (h.vl 52 i, h.vl 53 i, h.vl 56 i) k p s) := by
            rw [hF']; rfl
          rw [e2, ← e1]
          exact z
        rcases t4 with ⟨x1, x2, x3⟩ | ⟨x1, x2, x3⟩ | ⟨x1, x2, x3⟩
        · skip
          refine ev_aload_n dX11_numbers_189 rfl ?_
          refine ev_getrv dX11_numbers_190 fX11_50 hI2.o hI2.n rfl hI2.v_rawSecond ?_
          refine ev_iload_n dX11_numbers_193 rfl ?_
          refine ev_ildv dX11_numbers_194 hI2.k_rawSecond hI2.n_rawSecond rfl (by omega) (by omega) (show _ = h2.vl 55 i from rfl) ?_
          rw [u2]
          refine ev_iflt 221 dX11_numbers_195 (fun hc => ?_) (fun h_no => (by exfalso; omega))
          refine ev_aload_n dX11_numbers_221 rfl ?_
          refine ev_getrv dX11_numbers_222 fX11_47 hI2.o hI2.n rfl hI2.v_rawFirst ?_
          refine ev_iload_n dX11_numbers_225 rfl ?_
          refine ev_ildv dX11_numbers_226 hI2.k_rawFirst hI2.n_rawFirst rfl (by omega) (by omega) (show _ = h2.vl 54 i from rfl) ?_
          rw [u1]
          refine ev_iflt 253 dX11_numbers_227 (fun hc2 => ?_) (fun h_no => (by exfalso; omega))
          refine ev_gt 21 dX11_numbers_253 ?_
          rw [hw]
          refine fin r h2 KP.rf hSr ?_ ?_ (by omega) (fun q hq => ?_)
          · rw [hL', tsub_neg x2, tsub_neg x3]; rfl
          · rw [arN, if_pos x1.2]; rfl
          · have := hPr q hq
            omega
        · skip
          obtain ⟨f, hf⟩ : ∃ f : Nat, h.vl 54 i = (f : Int) := ⟨(h.vl 54 i).toNat, by omega⟩
          have f2 : h2.vl 54 i = (f : Int) := u1.trans hf
          refine ev_aload_n dX11_numbers_189 rfl ?_
          refine ev_getrv dX11_numbers_190 fX11_50 hI2.o hI2.n rfl hI2.v_rawSecond ?_
          refine ev_iload_n dX11_numbers_193 rfl ?_
          refine ev_ildv dX11_numbers_194 hI2.k_rawSecond hI2.n_rawSecond rfl (by omega) (by omega) (show _ = h2.vl 55 i from rfl) ?_
          rw [u2]
          refine ev_iflt 221 dX11_numbers_195 (fun hc => ?_) (fun h_no => (by exfalso; omega))
          refine ev_aload_n dX11_numbers_221 rfl ?_
          refine ev_getrv dX11_numbers_222 fX11_47 hI2.o hI2.n rfl hI2.v_rawFirst ?_
          refine ev_iload_n dX11_numbers_225 rfl ?_
          refine ev_ildv dX11_numbers_226 hI2.k_rawFirst hI2.n_rawFirst rfl (by omega) (by omega) f2 ?_
          refine ev_iflt 253 dX11_numbers_227 (fun h_no => (by exfalso; omega)) (fun hc2 => ?_)
          refine ev_aload_n dX11_numbers_230 rfl ?_
          refine ev_getrv dX11_numbers_231 fX11_77 hI2.o hI2.n rfl hI2.v_row ?_
          refine ev_iload_n dX11_numbers_234 rfl ?_
          refine ev_aload_n dX11_numbers_235 rfl ?_
          refine ev_getrv dX11_numbers_236 fX11_47 hI2.o hI2.n rfl hI2.v_rawFirst ?_
          refine ev_iload_n dX11_numbers_239 rfl ?_
          refine ev_ildv dX11_numbers_240 hI2.k_rawFirst hI2.n_rawFirst rfl (by omega) (by omega) f2 ?_
          refine ev_istr dX11_numbers_241 hI2.k_row hI2.n_row rfl (by omega) (by omega) ?_
          refine ev_aload_n dX11_numbers_242 rfl ?_
          refine ev_getrv dX11_numbers_243 fX11_80 hI2.o hI2.n rfl hI2.v_rowUp ?_
          refine ev_iload_n dX11_numbers_246 rfl ?_
          refine ev_iload dX11_numbers_247 rfl ?_
          refine ev_istr dX11_numbers_249 hI2.k_rowUp hI2.n_rowUp rfl (by omega) (by omega) ?_
          refine ev_iin2 dX11_numbers_250 (by unfold ir; omega) ?_
          refine ev_gt 21 dX11_numbers_253 ?_
          have e9 : ((w : Int) + 1) = (((f, (k : Int)) :: r).length : Int) := by rw [List.length_cons, ← hw]; rfl
          rw [e9]
          refine fin ((f, (k : Int)) :: r) _ ((KP.rf.pr (by decide) (by decide)).pr (by decide) (by decide)) ⟨?_, ?_, by omega, SKr.lo (fun j hj => ?_) hSr⟩ ?_ ?_ ?_ (fun q hq => ?_)
          · rw [← hw, AH.put_vl, if_neg (by omega), AH.put_vl, if_pos ⟨rfl, rfl⟩]
          · rw [← hw, AH.put_vl, if_pos ⟨rfl, rfl⟩]
          · constructor
            · rw [AH.put_vl, if_neg (by omega), AH.put_vl, if_neg (by omega)]
            · rw [AH.put_vl, if_neg (by omega), AH.put_vl, if_neg (by omega)]
          · rw [hL', hf, tsub_nat, tsub_neg x3, List.append_nil]; rfl
          · rw [x1]; rfl
          · rw [List.length_cons, ← hw]; omega
          · rcases List.mem_cons.mp hq with rfl | hq
            · exact ⟨by show -1 ≤ (k : Int); omega, by show (k : Int) < _; omega⟩
            · have := hPr q hq
              omega
        · skip
          obtain ⟨f, hf⟩ : ∃ f : Nat, h.vl 54 i = (f : Int) := ⟨(h.vl 54 i).toNat, by omega⟩
          obtain ⟨g, hg⟩ : ∃ g : Nat, h.vl 55 i = (g : Int) := ⟨(h.vl 55 i).toNat, by omega⟩
          have f2 : h2.vl 54 i = (f : Int) := u1.trans hf
          have g2 : h2.vl 55 i = (g : Int) := u2.trans hg
          refine ev_aload_n dX11_numbers_189 rfl ?_
          refine ev_getrv dX11_numbers_190 fX11_50 hI2.o hI2.n rfl hI2.v_rawSecond ?_
          refine ev_iload_n dX11_numbers_193 rfl ?_
          refine ev_ildv dX11_numbers_194 hI2.k_rawSecond hI2.n_rawSecond rfl (by omega) (by omega) g2 ?_
          refine ev_iflt 221 dX11_numbers_195 (fun h_no => (by exfalso; omega)) (fun hc => ?_)
          refine ev_aload_n dX11_numbers_198 rfl ?_
          refine ev_getrv dX11_numbers_199 fX11_77 hI2.o hI2.n rfl hI2.v_row ?_
          refine ev_iload_n dX11_numbers_202 rfl ?_
          refine ev_aload_n dX11_numbers_203 rfl ?_
          refine ev_getrv dX11_numbers_204 fX11_50 hI2.o hI2.n rfl hI2.v_rawSecond ?_
          refine ev_iload_n dX11_numbers_207 rfl ?_
          refine ev_ildv dX11_numbers_208 hI2.k_rawSecond hI2.n_rawSecond rfl (by omega) (by omega) g2 ?_
          refine ev_istr dX11_numbers_209 hI2.k_row hI2.n_row rfl (by omega) (by omega) ?_
          refine ev_aload_n dX11_numbers_210 rfl ?_
          refine ev_getrv dX11_numbers_211 fX11_80 hI2.o hI2.n rfl hI2.v_rowUp ?_
          refine ev_iload_n dX11_numbers_214 rfl ?_
          refine ev_iload dX11_numbers_215 rfl ?_
          refine ev_istr dX11_numbers_217 hI2.k_rowUp hI2.n_rowUp rfl (by omega) (by omega) ?_
          refine ev_iin2 dX11_numbers_218 (by unfold ir; omega) ?_
          refine ev_aload_n dX11_numbers_221 rfl ?_
          refine ev_getrv dX11_numbers_222 fX11_47 hI2.o hI2.n rfl hI2.v_rawFirst ?_
          refine ev_iload_n dX11_numbers_225 rfl ?_
          refine ev_ildv dX11_numbers_226 hI2.k_rawFirst hI2.n_rawFirst rfl (by omega) (by omega) f2 ?_
          refine ev_iflt 253 dX11_numbers_227 (fun h_no => (by exfalso; omega)) (fun hc2 => ?_)
          refine ev_aload_n dX11_numbers_230 rfl ?_
          refine ev_getrv dX11_numbers_231 fX11_77 hI2.o hI2.n rfl hI2.v_row ?_
          refine ev_iload_n dX11_numbers_234 rfl ?_
          refine ev_aload_n dX11_numbers_235 rfl ?_
          refine ev_getrv dX11_numbers_236 fX11_47 hI2.o hI2.n rfl hI2.v_rawFirst ?_
          refine ev_iload_n dX11_numbers_239 rfl ?_
          refine ev_ildv dX11_numbers_240 hI2.k_rawFirst hI2.n_rawFirst rfl (by omega) (by omega) f2 ?_
          refine ev_istr dX11_numbers_241 hI2.k_row hI2.n_row rfl (by omega) (by omega) ?_
          refine ev_aload_n dX11_numbers_242 rfl ?_
          refine ev_getrv dX11_numbers_243 fX11_80 hI2.o hI2.n rfl hI2.v_rowUp ?_
          refine ev_iload_n dX11_numbers_246 rfl ?_
          refine ev_iload dX11_numbers_247 rfl ?_
          refine ev_istr dX11_numbers_249 hI2.k_rowUp hI2.n_rowUp rfl (by omega) (by omega) ?_
          refine ev_iin2 dX11_numbers_250 (by unfold ir; omega) ?_
          refine ev_gt 21 dX11_numbers_253 ?_
          have e9 : ((w : Int) + 1 + 1) = (((f, (k : Int)) :: (g, (k : Int)) :: r).length : Int) := by rw [List.length_cons, List.length_cons, ← hw]; omega
          rw [e9]
          have e8 : ((w : Int) + 1).toNat = w + 1 := by omega
          rw [e8]
          refine fin ((f, (k : Int)) :: (g, (k : Int)) :: r) _ ((((KP.rf.pr (by decide) (by decide)).pr (by decide) (by decide)).pr (by decide) (by decide)).pr (by decide) (by decide)) ⟨?_, ?_, by omega, ?_, ?_, by omega, SKr.lo (fun j hj => ?_) hSr⟩ ?_ ?_ ?_ (fun q hq => ?_)
          · rw [List.length_cons, ← hw, AH.put_vl, if_neg (by omega), AH.put_vl, if_pos ⟨rfl, rfl⟩]
          · rw [List.length_cons, ← hw, AH.put_vl, if_pos ⟨rfl, rfl⟩]
          · rw [← hw, AH.put_vl, if_neg (by omega), AH.put_vl, if_neg (by omega), AH.put_vl, if_neg (by omega), AH.put_vl, if_pos ⟨rfl, rfl⟩]
          · rw [← hw, AH.put_vl, if_neg (by omega), AH.put_vl, if_neg (by omega), AH.put_vl, if_pos ⟨rfl, rfl⟩]
          · constructor
            · rw [AH.put_vl, if_neg (by omega), AH.put_vl, if_neg (by omega), AH.put_vl, if_neg (by omega), AH.put_vl, if_neg (by omega)]
            · rw [AH.put_vl, if_neg (by omega), AH.put_vl, if_neg (by omega), AH.put_vl, if_neg (by omega), AH.put_vl, if_neg (by omega)]
          · rw [hL', hf, hg, tsub_nat, tsub_nat, List.append_assoc]; rfl
          · rcases x1 with x1 | x1 <;> rw [x1] <;> rfl
          · rw [List.length_cons, List.length_cons, ← hw]; omega
          · rcases List.mem_cons.mp hq with rfl | hq
            · exact ⟨by show -1 ≤ (k : Int); omega, by show (k : Int) < _; omega⟩
            · rcases List.mem_cons.mp hq with rfl | hq
              · exact ⟨by show -1 ≤ (k : Int); omega, by show (k : Int) < _; omega⟩
              · have := hPr q hq
                omega
      have e7 : (((i, p) :: r).length : Int) = (w : Int) + 1 := by rw [List.length_cons, ← hw]; rfl
      rw [e7]
      refine ev_iload_n dX11_numbers_21 rfl ?_
      refine ev_ifle 256 dX11_numbers_22 (fun h_no => (by exfalso; omega)) (fun hc => ?_)
      refine ev_iin2 dX11_numbers_25 (by unfold ir; omega) ?_
      rw [show (w : Int) + 1 + -1 = (w : Int) from by omega]
      refine ev_aload_n dX11_numbers_28 rfl ?_
      refine ev_getrv dX11_numbers_29 fX11_77 hI.o hI.n rfl hI.v_row ?_
      refine ev_iload_n dX11_numbers_32 rfl ?_
      refine ev_ildv dX11_numbers_33 hI.k_row hI.n_row rfl (by omega) (by omega) a1 ?_
      refine ev_ist3 dX11_numbers_34 ?_
      refine ev_aload_n dX11_numbers_35 rfl ?_
      refine ev_getrv dX11_numbers_36 fX11_80 hI.o hI.n rfl hI.v_rowUp ?_
      refine ev_iload_n dX11_numbers_39 rfl ?_
      refine ev_ildv dX11_numbers_40 hI.k_rowUp hI.n_rowUp rfl (by omega) (by omega) a2 ?_
      refine ev_ist4 dX11_numbers_41 ?_
      refine ev_aload_n dX11_numbers_43 rfl ?_
      refine ev_getiv dX11_numbers_44 fX11_203 hI.o hI.n rfl hk ?_
      refine ev_ist5 dX11_numbers_47 ?_
      refine ev_aload_n dX11_numbers_49 rfl ?_
      refine ev_dup dX11_numbers_50 ?_
      refine ev_getiv dX11_numbers_51 fX11_203 hI.o hI.n rfl hk ?_
      refine ev_iconst dX11_numbers_54 ?_
      refine ev_iadd dX11_numbers_55 (by unfold ir; omega) ?_
      refine ev_pt dX11_numbers_56 fX11_203 hI.o hI.n rfl ?_
      refine ev_aload_n dX11_numbers_59 rfl ?_
      refine ev_getrv dX11_numbers_60 fX11_56 hI.o hI.n rfl hI.v_kind ?_
      refine ev_iload dX11_numbers_63 rfl ?_
      refine ev_aload_n dX11_numbers_65 rfl ?_
      refine ev_getrv dX11_numbers_66 fX11_41 hI.o hI.n rfl hI.v_rawKind ?_
      refine ev_iload_n dX11_numbers_69 rfl ?_
      refine ev_ildv dX11_numbers_70 hI.k_rawKind hI.n_rawKind rfl (by omega) (by omega) (show _ = h.vl 52 i from rfl) ?_
      refine ev_istr dX11_numbers_71 hI.k_kind hI.n_kind rfl (by omega) (by omega) ?_
      refine ev_aload_n dX11_numbers_72 rfl ?_
      refine ev_getrv dX11_numbers_73 fX11_59 hI.o hI.n rfl hI.v_sign ?_
      refine ev_iload dX11_numbers_76 rfl ?_
      refine ev_aload_n dX11_numbers_78 rfl ?_
      refine ev_getrv dX11_numbers_79 fX11_44 hI.o hI.n rfl hI.v_rawSign ?_
      refine ev_iload_n dX11_numbers_82 rfl ?_
      refine ev_ildv dX11_numbers_83 hI.k_rawSign hI.n_rawSign rfl (by omega) (by omega) (show _ = h.vl 53 i from rfl) ?_
      refine ev_istr dX11_numbers_84 hI.k_sign hI.n_sign rfl (by omega) (by omega) ?_
      refine ev_aload_n dX11_numbers_85 rfl ?_
      refine ev_getrv dX11_numbers_86 fX11_74 hI.o hI.n rfl hI.v_at ?_
      refine ev_iload dX11_numbers_89 rfl ?_
      refine ev_aload_n dX11_numbers_91 rfl ?_
      refine ev_getrv dX11_numbers_92 fX11_53 hI.o hI.n rfl hI.v_rawAt ?_
      refine ev_iload_n dX11_numbers_95 rfl ?_
      refine ev_ildv dX11_numbers_96 hI.k_rawAt hI.n_rawAt rfl (by omega) (by omega) (show _ = h.vl 56 i from rfl) ?_
      refine ev_istr dX11_numbers_97 hI.k_at hI.n_at rfl (by omega) (by omega) ?_
      refine ev_aload_n dX11_numbers_98 rfl ?_
      refine ev_getrv dX11_numbers_99 fX11_68 hI.o hI.n rfl hI.v_up ?_
      refine ev_iload dX11_numbers_102 rfl ?_
      refine ev_iload dX11_numbers_104 rfl ?_
      refine ev_istr dX11_numbers_106 hI.k_up hI.n_up rfl (by omega) (by omega) ?_
      refine ev_aload_n dX11_numbers_107 rfl ?_
      refine ev_getrv dX11_numbers_108 fX11_71 hI.o hI.n rfl hI.v_deep ?_
      refine ev_iload dX11_numbers_111 rfl ?_
      refine ev_iload dX11_numbers_113 rfl ?_
      by_cases hp0 : p < 0
      · skip
        refine ev_ifge 122 dX11_numbers_115 (fun h_no => (by exfalso; omega)) (fun hc1 => ?_)
        refine ev_iconst dX11_numbers_118 ?_
        refine ev_gt 131 dX11_numbers_119 ?_
        refine ev_istr dX11_numbers_131 hI.k_deep hI.n_deep rfl (by omega) (by omega) ?_
        refine ev_aload_n dX11_numbers_132 rfl ?_
        refine ev_getrv dX11_numbers_133 fX11_62 hI.o hI.n rfl hI.v_first ?_
        refine ev_iload dX11_numbers_136 rfl ?_
        refine ev_iconst dX11_numbers_138 ?_
        refine ev_istr dX11_numbers_139 hI.k_first hI.n_first rfl (by omega) (by omega) ?_
        refine ev_aload_n dX11_numbers_140 rfl ?_
        refine ev_getrv dX11_numbers_141 fX11_65 hI.o hI.n rfl hI.v_second ?_
        refine ev_iload dX11_numbers_144 rfl ?_
        refine ev_iconst dX11_numbers_146 ?_
        refine ev_istr dX11_numbers_147 hI.k_second hI.n_second rfl (by omega) (by omega) ?_
        refine ev_iload dX11_numbers_148 rfl ?_
        refine ev_iflt 175 dX11_numbers_150 (fun hc2 => ?_) (fun h_no => (by exfalso; omega))
        refine ev_iload dX11_numbers_175 rfl ?_
        refine ev_iflt 189 dX11_numbers_177 (fun hc3 => ?_) (fun h_no => (by exfalso; omega))
        refine tl _ (((((((((KP.rf.pf (by decide)).pr (by decide) (by decide)).pr (by decide) (by decide)).pr (by decide) (by decide)).pr (by decide) (by decide)).pr (by decide) (by decide)).pr (by decide) (by decide)).pr (by decide) (by decide))) ?_ ?_
        · rw [tb1, if_pos hp0]
          refine Ag7.nx (D := [60, 59, 62, 61, 63, 58, 57]) ?_ (by decide)
          exact ((((((hA.ot (Or.inl (by decide))).pk rfl).pk rfl).pk rfl).pk rfl).pk (by rw [if_pos hp0])).pk rfl |>.pk rfl
        · rfl
      · skip
        have hdp := hD p.toNat (by omega)
        rw [← hA 62 p.toNat (by decide) (by decide) (Or.inl (by omega))] at hdp
        have hdp' : 0 ≤ h.vl 62 (i, p).snd.toNat ∧ h.vl 62 (i, p).snd.toNat ≤ (p.toNat : Int) := hdp
        have hpk : p.toNat ≠ k := by omega
        have hpk2 : p.toNat < k := by omega
        refine ev_ifge 122 dX11_numbers_115 (fun hc1 => ?_) (fun h_no => (by exfalso; omega))
        refine ev_aload_n dX11_numbers_122 rfl ?_
        refine ev_getrv dX11_numbers_123 fX11_71 hI.o hI.n rfl hI.v_deep ?_
        refine ev_iload dX11_numbers_126 rfl ?_
        refine ev_ildv dX11_numbers_128 hI.k_deep hI.n_deep rfl (by omega) (by omega) (show _ = h.vl 62 _ from rfl) ?_
        refine ev_iconst dX11_numbers_129 ?_
        refine ev_iadd dX11_numbers_130 (by unfold ir; omega) ?_
        refine ev_istr dX11_numbers_131 hI.k_deep hI.n_deep rfl (by omega) (by omega) ?_
        refine ev_aload_n dX11_numbers_132 rfl ?_
        refine ev_getrv dX11_numbers_133 fX11_62 hI.o hI.n rfl hI.v_first ?_
        refine ev_iload dX11_numbers_136 rfl ?_
        refine ev_iconst dX11_numbers_138 ?_
        refine ev_istr dX11_numbers_139 hI.k_first hI.n_first rfl (by omega) (by omega) ?_
        refine ev_aload_n dX11_numbers_140 rfl ?_
        refine ev_getrv dX11_numbers_141 fX11_65 hI.o hI.n rfl hI.v_second ?_
        refine ev_iload dX11_numbers_144 rfl ?_
        refine ev_iconst dX11_numbers_146 ?_
        refine ev_istr dX11_numbers_147 hI.k_second hI.n_second rfl (by omega) (by omega) ?_
        refine ev_iload dX11_numbers_148 rfl ?_
        refine ev_iflt 175 dX11_numbers_150 (fun h_no => (by exfalso; omega)) (fun hc2 => ?_)
        refine ev_aload_n dX11_numbers_153 rfl ?_
        refine ev_getrv dX11_numbers_154 fX11_62 hI.o hI.n rfl hI.v_first ?_
        refine ev_iload dX11_numbers_157 rfl ?_
        refine ev_ildv dX11_numbers_159 hI.k_first hI.n_first rfl (by omega) (by omega) (show _ = h.vl 59 p.toNat from by simp only [AH.put_vl]; simp [hpk]) ?_
        by_cases hs0 : h.vl 59 p.toNat < 0
        · skip
          refine ev_ifge 175 dX11_numbers_160 (fun h_no => (by exfalso; omega)) (fun hc3 => ?_)
          refine ev_aload_n dX11_numbers_163 rfl ?_
          refine ev_getrv dX11_numbers_164 fX11_62 hI.o hI.n rfl hI.v_first ?_
          refine ev_iload dX11_numbers_167 rfl ?_
          refine ev_iload dX11_numbers_169 rfl ?_
          refine ev_istr dX11_numbers_171 hI.k_first hI.n_first rfl (by omega) (by omega) ?_
          refine ev_gt 189 dX11_numbers_172 ?_
          refine tl _ ((((((((((KP.rf.pf (by decide)).pr (by decide) (by decide)).pr (by decide) (by decide)).pr (by decide) (by decide)).pr (by decide) (by decide)).pr (by decide) (by decide)).pr (by decide) (by decide)).pr (by decide) (by decide)).pr (by decide) (by decide))) ?_ ?_
          · rw [tb1, if_neg hp0, if_pos (by rw [← hA 59 p.toNat (by decide) (by decide) (Or.inl hpk2)]; exact hs0)]
            refine Ag7.nx (D := [60, 59, 62, 61, 63, 58, 57]) ?_ (by decide)
            exact Ag7.pl (((((((hA.ot (Or.inl (by decide))).pk rfl).pk rfl).pk rfl).pk rfl).pk (by rw [if_neg hp0, ← hA 62 p.toNat (by decide) (by decide) (Or.inl hpk2)])).pk rfl |>.pk rfl) rfl
          · rfl
        · skip
          refine ev_ifge 175 dX11_numbers_160 (fun hc3 => ?_) (fun h_no => (by exfalso; omega))
          refine ev_iload dX11_numbers_175 rfl ?_
          refine ev_iflt 189 dX11_numbers_177 (fun h_no => (by exfalso; omega)) (fun hc4 => ?_)
          refine ev_aload_n dX11_numbers_180 rfl ?_
          refine ev_getrv dX11_numbers_181 fX11_65 hI.o hI.n rfl hI.v_second ?_
          refine ev_iload dX11_numbers_184 rfl ?_
          refine ev_iload dX11_numbers_186 rfl ?_
          refine ev_istr dX11_numbers_188 hI.k_second hI.n_second rfl (by omega) (by omega) ?_
          refine tl _ ((((((((((KP.rf.pf (by decide)).pr (by decide) (by decide)).pr (by decide) (by decide)).pr (by decide) (by decide)).pr (by decide) (by decide)).pr (by decide) (by decide)).pr (by decide) (by decide)).pr (by decide) (by decide)).pr (by decide) (by decide))) ?_ ?_
          · rw [tb1, if_neg hp0, if_neg (by rw [← hA 59 p.toNat (by decide) (by decide) (Or.inl hpk2)]; exact hs0)]
            refine Ag7.nx (D := [60, 59, 62, 61, 63, 58, 57]) ?_ (by decide)
            exact Ag7.pl (((((((hA.ot (Or.inl (by decide))).pk rfl).pk rfl).pk rfl).pk rfl).pk (by rw [if_neg hp0, ← hA 62 p.toNat (by decide) (by decide) (Or.inl hpk2)])).pk rfl |>.pk rfl) rfl
          · rfl
set_option maxRecDepth 100000 in
theorem s_numbers {T : Nat → List Nd} {m i : Nat} {h : AH} (hI : RI h) (hR : RTt h T m) (hm9 : m ≤ 130) (hi : i < m) (h9 : (T i).length ≤ 125) : CV mX11_numbers 1 [rv 42, iv (i : Int)] h (on (NmQ h (T i).length (tbF (T i) 0 [-1] (fun _ _ => 0)))) := by
  refine cv_of cdX11_numbers ?_
  show EV _ _ 0 [rv 42, iv (i : Int), uv, uv, uv, uv] [] h _
  refine ev_aload_n dX11_numbers_0 rfl ?_
  refine ev_iconst dX11_numbers_1 ?_
  refine ev_pt dX11_numbers_2 fX11_203 hI.o hI.n rfl ?_
  refine ev_iconst dX11_numbers_5 ?_
  refine ev_ist2 dX11_numbers_6 ?_
  refine ev_aload_n dX11_numbers_7 rfl ?_
  refine ev_getrv dX11_numbers_8 fX11_77 hI.o hI.n rfl hI.v_row ?_
  refine ev_iconst dX11_numbers_11 ?_
  refine ev_iload_n dX11_numbers_12 rfl ?_
  refine ev_istr dX11_numbers_13 hI.k_row hI.n_row rfl (by omega) (by omega) ?_
  refine ev_aload_n dX11_numbers_14 rfl ?_
  refine ev_getrv dX11_numbers_15 fX11_80 hI.o hI.n rfl hI.v_rowUp ?_
  refine ev_iconst dX11_numbers_18 ?_
  refine ev_iconst dX11_numbers_19 ?_
  refine ev_istr dX11_numbers_20 hI.k_rowUp hI.n_rowUp rfl (by omega) (by omega) ?_
  have hI2 : RI h := hI
  have K1 : KP h (((h.put 42 36 0).put 64 0 (i : Int)).put 65 0 (-1)) [57, 58, 59, 60, 61, 62, 63, 64, 65] [36] := ((KP.rf.pf (by decide)).pr (by decide) (by decide)).pr (by decide) (by decide)
  have z := numbers_loop hI hR hm9 (T i).length (T i) [(i, -1)] 0 (fun _ _ => 0) _ uv uv uv (root := (i : Int)) rfl K1 ⟨rfl, rfl, hi, trivial⟩ (List.append_nil _) (fun c j _ _ hj => by
    rcases hj with hj | ⟨-, hj⟩
    · exact absurd hj (Nat.not_lt_zero j)
    · nomatch hj) rfl (by omega) (by simp) (fun q hq => by
    have e : q = (i, -1) := by simpa using hq
    subst e
    exact ⟨by show (-1 : Int) ≤ -1; decide, by show (-1 : Int) < 0; decide⟩) (fun j hj => absurd hj (Nat.not_lt_zero j))
  rw [Nat.zero_add] at z
  exact z
