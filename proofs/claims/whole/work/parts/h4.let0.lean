/-! lets in the class: first and last stage -/
section Lt0
variable {h0 : AH} {a0 K0 : Nat → Nat} {L : List Nd} {kp : Nat → Option TE} {tc : Nat} {h : AH} {a K : Nat → Nat} {S : IS} {Dn Gn Sn : Nat → Prop} {N sc e yl : Nat} {T : Nat → TE} {τ : Nat → Nat} {st : List (Nat × Int × Int)} {s x gz lz res : Int} {fv : Nat → Int}
set_option maxRecDepth 100000 in
theorem s_let0 (q : AtC h0 a0 K0 L kp tc S Dn Gn Sn N T τ sc ((e, s, x) :: st) gz lz fv yl res h a K) (hsc : sc ≤ 12) (he : e < L.length) (hst : st.length < 119) (hfe : TBL L 59 e = (fstN L e : Int)) : CV mX0_goLet 7 [rv 8, rv (tc : Int), iv (e : Int), iv 0] h (on fun h1 => AtC h0 a0 K0 L kp tc S Dn Gn Sn N T τ sc ((fstN L e, 0, -1) :: (e, s, x) :: st) gz lz fv yl res h1 a K) := by
  obtain ⟨f, hs, hp, -⟩ := id q
  have g := f.g
  have w1 := g.1.v8_1
  have hT2 := f.2.2.2.1.l
  refine cv_of cdX0_goLet ?_
  show EV _ _ 0 [rv 8, rv (tc : Int), iv (e : Int), iv 0, uv, uv] [] h _
  refine ev_iload_n dX0_goLet_0 rfl ?_
  refine ev_ifne 20 dX0_goLet_1 (fun h_no => (by exfalso; omega)) (fun hb => ?_)
  refine ev_aload_n dX0_goLet_4 rfl ?_
  refine ev_getrv dX0_goLet_5 fX0_21 g.1.k8 g.1.n8 rfl w1 ?_
  refine ev_aload_n dX0_goLet_8 rfl ?_
  refine ev_iconst dX0_goLet_9 ?_
  refine ev_iload_n dX0_goLet_10 rfl ?_
  refine ev_cvi dX0_goLet_11 lX0_137 (s_ofL (k := 2) hT2 (by decide) he) (by decide) hT2.t.o.1.1 hT2.t.o.1.2 rfl rfl rfl (Nat.le_of_ble_eq_true rfl) rfl (fun r z q9 => ?_)
  obtain ⟨r1, eq⟩ := q9
  rw [r1, eq, show TBL L (colC 2) e = TBL L 59 e from rfl, hfe]
  refine ev_cvv dX0_goLet_14 lX0_112 (s_enter (n := fstN L e) g hp (by rw [List.length_cons]; omega)) (by decide) g.1.k19 g.1.n19 rfl rfl rfl (Nat.le_of_ble_eq_true rfl) rfl (fun h3 q3 => ?_)
  obtain ⟨c3, p3⟩ := q3
  refine ev_gt 204 dX0_goLet_17 ?_
  exact ev_vret dX0_goLet_204 (⟨rfl, q.pt hsc c3 p3⟩)
set_option maxRecDepth 100000 in
theorem s_let2 {c1 : Nat} (q : AtC h0 a0 K0 L kp tc S Dn Gn Sn N T τ sc ((e, s, x) :: st) gz lz fv yl res h a K) (hsc : sc ≤ 12) (he : e < L.length) (hL : L.length ≤ 120) (hSe : ∀ b, Sn b → fstN L b ≠ e) (hr' : res = (c1 : Int)) (hc1 : c1 < N) (hX1 : T c1 = S.2.1 (sndN L e)) : CV mX0_goLet 7 [rv 8, rv (tc : Int), iv (e : Int), iv 2] h (on fun h1 => GdQ h0 a0 K0 L kp tc S Dn Gn Sn sc st e gz lz fv yl N 0 (fun r S' => r = (0, -1, -1, -1) ∧ S' = isF S e (S.2.1 (sndN L e)) S.1) h1) := by
  obtain ⟨f, hs, hp, hf, h95, hv, hy, hr⟩ := id q
  have g := f.g
  subst hr'
  refine cv_of cdX0_goLet ?_
  show EV _ _ 0 [rv 8, rv (tc : Int), iv (e : Int), iv 2, uv, uv] [] h _
  refine ev_iload_n dX0_goLet_0 rfl ?_
  refine ev_ifne 20 dX0_goLet_1 (fun hb => ?_) (fun h_no => (by exfalso; omega))
  refine ev_iload_n dX0_goLet_20 rfl ?_
  refine ev_iconst dX0_goLet_21 ?_
  refine ev_icmpne 37 dX0_goLet_22 (fun h_no => (by exfalso; omega)) (fun hb2 => ?_)
  refine ev_aload_n dX0_goLet_25 rfl ?_
  refine ev_iload_n dX0_goLet_26 rfl ?_
  refine ev_aload_n dX0_goLet_27 rfl ?_
  refine ev_getiv dX0_goLet_28 fX0_115 g.1.k8 g.1.n8 rfl hr ?_
  refine ev_cvv dX0_goLet_31 lX0_154 (s_endA (S := S) (nv' := S.1) (N' := N) (yl' := yl) (b := 0) (R := fun r S' => r = (0, -1, -1, -1) ∧ S' = isF S e (S.2.1 (sndN L e)) S.1) q hsc (by omega) hc1 hX1 hSe ⟨Nat.le_refl _, Nat.le_refl _⟩ (Nat.le_refl _) ⟨rfl, rfl⟩) (by decide) g.1.k8 g.1.n8 rfl rfl rfl (Nat.le_of_ble_eq_true rfl) rfl (fun h2 q2 => ?_)
  refine ev_gt 204 dX0_goLet_34 ?_
  exact ev_vret dX0_goLet_204 (⟨rfl, q2⟩)
/-- marks were set -/
theorem AtC.mk {h1 : AH} {a1 K1 : Nat → Nat} (q : AtC h0 a0 K0 L kp tc S Dn Gn Sn N T τ sc st gz lz fv yl res h a K) (hsc : sc ≤ 12) {lz' : Int} {F : List Nat} (d : YC h a K h1 a1 K1 [3, 10] F) (hF : ∀ j ∈ F, j = 5 ∨ j = 11) (hK : ∀ k, k ≠ 10 → K1 k = K k) (hm : YMk h1 a1 N) (h55 : h1.vl 9 5 = lz') : AtC h0 a0 K0 L kp tc S Dn Gn Sn N T τ sc st gz lz' fv yl res h1 a1 K1 := by
  obtain ⟨f, hs, hp, hf, ⟨h9, h5⟩, hv, hy, hr⟩ := q
  have g := f.g
  have d : YC h a K h1 a1 K1 [3, 10] [5, 11] := d.wk (fun _ z => z) (fun j z => by rcases hF j z with rfl | rfl <;> decide)
  have c : YX h a K h1 a1 K1 [3, 10] [5, 11] (fun _ => False) 0 := d.x
  have v : ∀ y, 18 < y → y < 94 → h1.vl y = h.vl y := fun y h1 h2 => c.v (g.no (Or.inr ⟨h1, h2⟩)) (fun z => z)
  have v8 : h1.vl 8 = h.vl 8 := c.v (g.no (Or.inl (by decide))) (fun z => z)
  refine ⟨f.st c (by rw [v8]) (fun z => z) (fun _ _ z => z) (fun _ z => z.elim), hs.go (S1 := S) (σ := []) c ⟨⟨fun z => z, fun z => z⟩, fun _ _ z => z⟩ ⟨c.1, hs.1.2.1.x c (fun k hk => hK k (by omega)), hs.1.2.2.1.x c, hm, hs.1.2.2.2.2⟩ ?_ (Nat.le_refl _) (fun _ _ => rfl) ⟨Nat.le_refl _, fun _ z => z⟩ (fun _ _ => rfl) (fun k _ => ⟨by rw [v 23 (by decide) (by decide)], rfl⟩) (fun k _ => ⟨by rw [v 24 (by decide) (by decide)], rfl⟩) (fun b _ => ⟨rfl, fun _ _ => rfl⟩) (by rw [v8]) f.2.1 hsc, hp.x g c ⟨fun z => z, fun z => z, fun z => z, fun z => z⟩, hf.xt (fun j _ _ => by rw [v8]), ⟨by rw [v8]; exact h9, h55⟩, (v 23 (by decide) (by decide)).trans hv, (YL.x c N).trans hy, by rw [v8]; exact hr⟩
  obtain ⟨t1, t2, t3, t4⟩ := hs.2.1
  exact ⟨(c.fl 9).trans t1, trivial, by rw [hK 7 (by decide), hK 8 (by decide), hK 6 (by decide)]; exact t3, Nat.zero_le _⟩
/-- a name of a variable -/
theorem oc_nmC {P : Nat → Prop} {τ : Nat → Nat} {x : Nat} (hi : InjP P (fun x => τ (x - 2))) (hx : P x) : ∀ t : TE, vsT P t → (oc (τ (x - 2)) (nmC τ t) = true ↔ oc x t = true)
  | .var y, hv => by
    have e1 := (hi.2 x hx).1
    have e2 : 2 ≤ τ (x - 2) := (hi.2 x hx).2
    show oc _ (nmT _ (.var y)) = true ↔ _
    rw [nm_var]
    by_cases c : y < 2
    · rw [if_pos c]
      simp [oc]
      omega
    · rw [if_neg c]
      have hy : P y := hv y (by omega) (by simp [oc])
      simp only [oc, beq_iff_eq]
      exact ⟨fun z => hi.1 y x hy hx z, fun z => by rw [z]⟩
  | .op u w, hv => by
    obtain ⟨h1, h2⟩ := vsT_op.mp hv
    have a := oc_nmC hi hx u h1
    have b := oc_nmC hi hx w h2
    show oc _ (nmT _ (.op u w)) = true ↔ _
    rw [nm_op]
    simp only [oc, Bool.or_eq_true]
    exact or_congr a b
end Lt0
