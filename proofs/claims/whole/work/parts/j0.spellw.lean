/-! the class spells a type that was found -/
section SpW
variable {h0 : AH} {a0 K0 : Nat → Nat} {L : List Nd} {kp : Nat → Option TE} {tc : Nat} {S : IS} {Dn Gn Sn : Nat → Prop} {N sc yl sh b : Nat} {T : Nat → TE} {τ : Nat → Nat} {st : List (Nat × Int × Int)} {gz lz res : Int} {fv : Nat → Int} {h : AH} {a K : Nat → Nat}
theorem s_spellA {c : Nat} (q : AtC h0 a0 K0 L kp tc S Dn Gn Sn N T τ sc st gz lz fv yl res h a K) (hN : N ≤ 40000) (hc : c < N) (hsz : sz (T c) ≤ 200) (hs : ShC h a sh b 200) : CV mX9_spell 5 [rv 9, iv (c : Int), rv (sh : Int), iv (-1)] h (on fun h1 => ∃ a1 K1, YX h a K h1 a1 K1 [10, 12] [11] (SpX sh b) 0 ∧ (∀ k, k ≠ 10 → K1 k = K k) ∧ ShW h1 a1 sh b 200 (cnT (T c) []).1) := by
  obtain ⟨s1, s2, ⟨rr, tr, G, s3⟩, s4, -⟩ := q.2.1.1
  have szt : sz (tr c) ≤ 200 := by
    rw [← s3 c hc] at hsz
    rw [show sz (nmC τ (tr c)) = sz (tr c) from nm_sz _] at hsz
    exact hsz
  have e : (cnA (fun _ => false) (tr c) []).1 = (cnT (T c) []).1 := by
    rw [cnA_cn, ← s3 c hc]
    have := (cn_nm (P := VP (soY (h.vl (a 0))) N) G.inj (tr c) [] (G.vs hc) (fun y hy => nomatch hy)).1
    exact (congrArg Prod.fst this).symm
  rw [← e]
  refine s_spell s1 s2 G.w (by omega) hc szt hs (Nat.le_refl _) (fun x hx _ _ => ⟨fun z => ?_, fun z => Bool.noConfusion z⟩)
  have := (s4.2 x hx).1
  omega
set_option maxRecDepth 100000 in
theorem s_spellWhole {c : Nat} (q : AtC h0 a0 K0 L kp tc S Dn Gn Sn N T τ sc st gz lz fv yl res h a K) (hN : N ≤ 40000) (hr : res = (c : Int)) (hc : c < N) (hsz : sz (T c) ≤ 200) (hs : ShC h a sh b 200) : CV mX0_spellWhole 6 [rv 8, rv (sh : Int)] h (on fun h1 => ∃ a1 K1, YX h a K h1 a1 K1 [10, 12] [11] (SpX sh b) 0 ∧ (∀ k, k ≠ 10 → K1 k = K k) ∧ ShW h1 a1 sh b 200 (cnT (T c) []).1) := by
  have g := q.1.g
  have v0 := g.1.v8_0
  have r8 := q.2.2.2.2.2.2.2
  rw [hr] at r8
  refine cv_of cdX0_spellWhole ?_
  show EV _ _ 0 [rv 8, rv (sh : Int)] [] h _
  refine ev_aload_n dX0_spellWhole_0 rfl ?_
  refine ev_getrv dX0_spellWhole_1 fX0_12 g.1.k8 g.1.n8 rfl v0 ?_
  refine ev_aload_n dX0_spellWhole_4 rfl ?_
  refine ev_getiv dX0_spellWhole_5 fX0_115 g.1.k8 g.1.n8 rfl r8 ?_
  refine ev_aload_n dX0_spellWhole_8 rfl ?_
  refine ev_iconst dX0_spellWhole_9 ?_
  refine ev_cvv dX0_spellWhole_10 lX0_118 (s_spellA q hN hc hsz hs) (by decide) g.1.k9 g.1.n9 rfl rfl rfl (Nat.le_of_ble_eq_true rfl) rfl (fun h1 q1 => ?_)
  exact ev_vret dX0_spellWhole_13 (⟨rfl, q1⟩)
set_option maxRecDepth 100000 in
theorem s_spellNode {e : Nat} (q : AtC h0 a0 K0 L kp tc S Dn Gn Sn N T τ sc st gz lz fv yl res h a K) (hN : N ≤ 40000) (hD : Dn e) (hsz : sz (S.2.1 e) ≤ 200) (hs : ShC h a sh b 200) : CV mX0_spellNode 6 [rv 8, iv (e : Int), rv (sh : Int)] h (on fun h1 => ∃ a1 K1, YX h a K h1 a1 K1 [10, 12] [11] (SpX sh b) 0 ∧ (∀ k, k ≠ 10 → K1 k = K k) ∧ ShW h1 a1 sh b 200 (cnT (S.2.1 e) []).1) := by
  have g := q.1.g
  have v0 := g.1.v8_0
  have v2 := g.1.v8_2
  obtain ⟨e9, c, c1, c2, c3⟩ := q.2.1.2.2.1 e hD
  rw [← c3] at hsz ⊢
  refine cv_of cdX0_spellNode ?_
  show EV _ _ 0 [rv 8, iv (e : Int), rv (sh : Int)] [] h _
  refine ev_aload_n dX0_spellNode_0 rfl ?_
  refine ev_getrv dX0_spellNode_1 fX0_12 g.1.k8 g.1.n8 rfl v0 ?_
  refine ev_aload_n dX0_spellNode_4 rfl ?_
  refine ev_getrv dX0_spellNode_5 fX0_25 g.1.k8 g.1.n8 rfl v2 ?_
  refine ev_iload_n dX0_spellNode_8 rfl ?_
  refine ev_csi dX0_spellNode_9 lX0_81 (s_atI g.1.k23 g.1.n23 (by decide)) (by decide) rfl rfl (Nat.le_of_ble_eq_true rfl) rfl (fun r z q9 => ?_)
  obtain ⟨r1, eq⟩ := q9
  rw [r1, eq, if_pos (by omega), show ((e : Nat) : Int).toNat = e from rfl, c2]
  refine ev_aload_n dX0_spellNode_12 rfl ?_
  refine ev_iconst dX0_spellNode_13 ?_
  refine ev_cvv dX0_spellNode_14 lX0_118 (s_spellA q hN c1 hsz hs) (by decide) g.1.k9 g.1.n9 rfl rfl rfl (Nat.le_of_ble_eq_true rfl) rfl (fun h1 q1 => ?_)
  exact ev_vret dX0_spellNode_17 (⟨rfl, q1⟩)
end SpW
