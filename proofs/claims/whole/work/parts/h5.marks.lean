/-! lets in the class: the variables that are left alone are marked -/
/-- what is marked -/
def MkR (h : AH) (a : Nat → Nat) (N : Nat) (rr : Nat → Nat) (al : Int) (M : Nat → Prop) : Prop := MkC (soY (h.vl (a 0))) (h.vl (a 0)) (h.vl (a 1)) (h.vl (a 3)) N rr al [] ∧ ∀ c, c < N → soY (h.vl (a 0)) c = 3 → rr c = c → (h.vl (a 3) c = al ↔ M c)
section Mrk
variable {h0 : AH} {a0 K0 : Nat → Nat} {L : List Nd} {kp : Nat → Option TE} {tc : Nat} {S : IS} {Dn Gn Sn : Nat → Prop} {N sc e yl : Nat} {T : Nat → TE} {τ : Nat → Nat} {st : List (Nat × Int × Int)} {gz al res : Int} {fv : Nat → Int} {Q : AV → AH → Prop}
set_option maxRecDepth 100000 in
theorem let_marks {rr : Nat → Nat} {tr : Nat → TE} {w24 : Nat → Int} (hsc : sc ≤ 12) (hN : N ≤ 40000) (hal : 0 ≤ al) :
    ∀ (f : Nat) (k : Int) (done : List Nat) (h : AH) (a K : Nat → Nat), k < (f : Int) → k < (L.length : Int) → (∀ j ∈ arN' L f k, TBL L 57 j = 4 → Gn j) → AtC h0 a0 K0 L kp tc S Dn Gn Sn N T τ sc st gz al fv yl res h a K → YW h a N rr tr → MkR h a N rr al (fun c => ∃ j ∈ done, oc (c + 2) (tr (w24 j).toNat) = true) → h.vl 24 = w24 →
    (∀ (h1 : AH) (a1 K1 : Nat → Nat) (v5 : Int), AtC h0 a0 K0 L kp tc S Dn Gn Sn N T τ sc st gz al fv yl res h1 a1 K1 → YW h1 a1 N rr tr → MkR h1 a1 N rr al (fun c => ∃ j ∈ done ++ (arN' L f k).filter (fun k => TBL L 57 k == 4), oc (c + 2) (tr (w24 j).toNat) = true) → h1.vl 24 = w24 → EV mX0_goLet 7 148 [rv 8, rv (tc : Int), iv (e : Int), iv 1, iv al, iv v5] [] h1 Q) →
    EV mX0_goLet 7 103 [rv 8, rv (tc : Int), iv (e : Int), iv 1, iv al, iv k] [] h Q := by
  intro f
  induction f with
  | zero =>
    intro k done h a K hk hkL hG q w m h24 kk
    have g := q.1.g
    refine ev_iload dX0_goLet_103 rfl ?_
    refine ev_iflt 148 dX0_goLet_105 (fun hb => ?_) (fun h_no => (by exfalso; omega))
    refine kk h a K k q w ?_ h24
    rw [arN', List.filter_nil, List.append_nil]
    exact m
  | succ f ih =>
    intro k done h a K hk hkL hG q w m h24 kk
    have g := q.1.g
    have hT := q.1.2.2.2.1.l
    have v0 := g.1.v8_0
    have v3 := g.1.v8_3
    refine ev_iload dX0_goLet_103 rfl ?_
    by_cases d : k < 0
    · skip
      refine ev_iflt 148 dX0_goLet_105 (fun hb => ?_) (fun h_no => (by exfalso; omega))
      refine kk h a K k q w ?_ h24
      rw [arN', if_pos d, List.filter_nil, List.append_nil]
      exact m
    obtain ⟨j, rfl⟩ : ∃ j : Nat, k = (j : Int) := ⟨k.toNat, by omega⟩
    have hjL : j < L.length := by omega
    have gd := (TBL_gd (L := L) j hjL).1
    have ar : arN' L (f + 1) (j : Int) = j :: arN' L f (TBL L 61 j) := by rw [arN', if_neg (by omega)]; rfl
    rw [ar] at hG kk
    -- the next one around
    have nxt : ∀ (h1 : AH) (a1 K1 : Nat → Nat) (dn : List Nat), AtC h0 a0 K0 L kp tc S Dn Gn Sn N T τ sc st gz al fv yl res h1 a1 K1 → YW h1 a1 N rr tr → MkR h1 a1 N rr al (fun c => ∃ j ∈ dn, oc (c + 2) (tr (w24 j).toNat) = true) → h1.vl 24 = w24 → done ++ (j :: arN' L f (TBL L 61 j)).filter (fun k => TBL L 57 k == 4) = dn ++ (arN' L f (TBL L 61 j)).filter (fun k => TBL L 57 k == 4) → EV mX0_goLet 7 137 [rv 8, rv (tc : Int), iv (e : Int), iv 1, iv al, iv (j : Int)] [] h1 Q := by
      intro h1 a1 K1 dn q1 w1 m1 h241 ed
      have g1 := q1.1.g
      have hT1 := q1.1.2.2.2.1.l
      refine ev_aload_n dX0_goLet_137 rfl ?_
      refine ev_iload dX0_goLet_138 rfl ?_
      refine ev_cvi dX0_goLet_140 lX0_184 (s_parT hT1.t hjL) (by decide) hT1.t.o.1.1 hT1.t.o.1.2 rfl rfl rfl (Nat.le_of_ble_eq_true rfl) rfl (fun r z q9 => ?_)
      obtain ⟨r1, eq⟩ := q9
      rw [r1, eq]
      refine ev_ist5 dX0_goLet_143 ?_
      refine ev_gt 103 dX0_goLet_145 ?_
      refine ih (TBL L 61 j) dn h1 a1 K1 (by omega) (by omega) (fun i hi => hG i (List.mem_cons_of_mem _ hi)) q1 w1 m1 h241 (fun h2 a2 K2 v5 q2 w2 m2 h242 => kk h2 a2 K2 v5 q2 w2 ?_ h242)
      rw [ed]
      exact m2
    refine ev_iflt 148 dX0_goLet_105 (fun h_no => (by exfalso; omega)) (fun hb => ?_)
    refine ev_aload_n dX0_goLet_108 rfl ?_
    refine ev_iconst dX0_goLet_109 ?_
    refine ev_iload dX0_goLet_110 rfl ?_
    refine ev_cvi dX0_goLet_112 lX0_137 (s_ofL (k := 0) hT (by decide) hjL) (by decide) hT.t.o.1.1 hT.t.o.1.2 rfl rfl rfl (Nat.le_of_ble_eq_true rfl) rfl (fun r z q9 => ?_)
    obtain ⟨r1, eq⟩ := q9
    rw [r1, eq, show TBL L (colC 0) j = TBL L 57 j from rfl]
    refine ev_iconst dX0_goLet_115 ?_
    by_cases d4 : TBL L 57 j = 4
    · skip
      obtain ⟨e9, c, c1, c2, c3⟩ := q.2.1.2.2.2.1 j (hG j List.mem_cons_self d4)
      have s1 := q.2.1.1
      refine ev_icmpne 137 dX0_goLet_116 (fun h_no => (by exfalso; omega)) (fun hb2 => ?_)
      refine ev_aload_n dX0_goLet_119 rfl ?_
      refine ev_getrv dX0_goLet_120 fX0_12 g.1.k8 g.1.n8 rfl v0 ?_
      refine ev_aload_n dX0_goLet_123 rfl ?_
      refine ev_getrv dX0_goLet_124 fX0_29 g.1.k8 g.1.n8 rfl v3 ?_
      refine ev_iload dX0_goLet_127 rfl ?_
      refine ev_csi dX0_goLet_129 lX0_81 (s_atI g.1.k24 g.1.n24 (by decide)) (by decide) rfl rfl (Nat.le_of_ble_eq_true rfl) rfl (fun r z q9 => ?_)
      obtain ⟨r1, eq⟩ := q9
      rw [r1, eq, if_pos (by omega), show ((j : Nat) : Int).toNat = j from rfl, c2]
      refine ev_iload dX0_goLet_132 rfl ?_
      refine ev_cvv dX0_goLet_134 lX0_187 (s_markAll (rr := rr) (tr := tr) s1.1 s1.2.1 w c1 (by omega) m.1) (by decide) g.1.k9 g.1.n9 rfl rfl rfl (Nat.le_of_ble_eq_true rfl) rfl (fun h1 q9 => ?_)
      obtain ⟨a1, K1, d1, ⟨k1, -⟩, m1, m2, m3⟩ := q9
      have l5 := q.2.2.2.2.1.2
      have l51 : h1.vl 9 5 = al := (d1.fl 5).trans l5
      have mk1 : YMk h1 a1 N := by
        obtain ⟨p1, p2⟩ := s1.2.2.2.1
        rw [l5] at p2
        refine ⟨by rw [l51]; exact hal, fun i hi => ?_⟩
        rw [l51]
        rcases m3 i with z | ⟨-, z⟩
        · rw [z]; exact p2 i hi
        · rw [z]; exact ⟨hal, Int.le_refl _⟩
      have q1 := q.mk hsc d1 (fun j hj => Or.inr (List.mem_singleton.mp hj)) k1 mk1 l51
      obtain ⟨b0, b1⟩ := d1.rw' 0
      have v24 : h1.vl 24 = h.vl 24 := (d1.x (X := fun _ => False)).v (g.no (Or.inr (by decide))) (fun z => z)
      refine nxt h1 a1 K1 (done ++ [j]) q1 (w.mv d1) ⟨m1, fun i hi h3 hr => ?_⟩ (v24.trans h24) ?_
      · rw [b0, b1] at h3
        rw [m2 i hi h3 hr, m.2 i hi h3 hr]
        have ec : (w24 j).toNat = c := by rw [← h24, c2]; rfl
        constructor
        · rintro (⟨x, x1, x2⟩ | z)
          · exact ⟨x, List.mem_append_left _ x1, x2⟩
          · exact ⟨j, List.mem_append_right _ (List.mem_singleton.mpr rfl), by rw [ec]; exact z⟩
        · rintro ⟨x, x1, x2⟩
          rcases List.mem_append.mp x1 with x1 | x1
          · exact Or.inl ⟨x, x1, x2⟩
          · rw [List.mem_singleton.mp x1, ec] at x2
            exact Or.inr x2
      · rw [List.filter_cons_of_pos (by rw [d4]; rfl), List.append_assoc]; rfl
    refine ev_icmpne 137 dX0_goLet_116 (fun hb2 => ?_) (fun h_no => (by exfalso; omega))
    refine nxt h a K done q w m h24 ?_
    rw [List.filter_cons_of_neg (by simpa using d4)]
end Mrk
