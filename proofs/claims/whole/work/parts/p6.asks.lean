/-! the law's calls -/
section Ask
variable {k : Nat} {h b0 h1 g h2 : AH} {a K a1 K1 : Nat → Nat} {v bv sv : Nat → Int} {isS : Int} {c : Nat} {pv : Nat → Nat → Int} {w d cw cd : Int} {X1 X3 : List Int} {b1 N1 b3 N3 M1 M3 dc ds : Nat} {N : Nat} {LL : Nat → List Nd} {kp : Nat → Option TE} {kk : Int} {Mm : MD} {bs : List AV}
variable {p q9 w9 : Int}
theorem x3_rg (j : JC h a K v bv isS sv c pv w d cw cd X1 X3 b1 N1 b3 N3) (i : Nat) (hi : i < X3.length) : 0 ≤ cX X3 i ∧ cX X3 i ≤ 127 := by
  have e9 : cX X3 i = X3[i] := by
    show X3.getD i 0 = _
    rw [List.getD_eq_getElem?_getD, List.getElem?_eq_getElem hi]
    rfl
  rw [e9]
  exact j.2.2.2.2.2.1.1.2.2.2.2.1 _ (List.getElem_mem hi)
set_option maxHeartbeats 1000000 in
theorem j_account (J : JA k h a K v bv isS sv c pv w d cw cd X1 X3 b1 N1 b3 N3) (hk : k < 512) : LC (JW (k + 1)) mL_account [iv p] mX11_account [iv p] h := by
  obtain ⟨N, LL, kp, hv, hs⟩ := J.1.2.1.1
  have j := J.1
  have n := j.qn hs
  have s4 := hs
  have o := hv.lko
  have s := J.2.1
  have n94 := s.2.2.2.2
  refine ⟨19, by decide, w_account (by decide) (g_account n o j.2.2.2.2.1.1.1) s.1 (by omega) fun oo h1 q => ?_⟩
  rcases q with ⟨c1, rfl, ce⟩ | ⟨c1, x, rfl, ca, cq⟩
  · have jq : JQ h K N1 N3 1 300 v bv isS sv c pv w d cw cd X1 X3 h1 := (by rw [ce]; exact j.jt)
    refine ⟨(jq.k92 BsE.rf s).1, Or.inr ⟨rfl, ?_⟩⟩
    refine q_ref (kk := 1) RfA AcF (206010 * 6) J hv jq EqP.rf (d2 := 12) (by decide) (fun r1 r2 r3 r4 r5 => r_account r1 r2.nv (r2.kj r3) ⟨r4.1, by omega⟩) (fun r3 r5 r h2 z => ?_) (by decide)
    obtain ⟨zk, zj, zs, z⟩ := z
    refine ⟨zk, ⟨zj.2.2, zs⟩, ?_⟩
    rcases z with ⟨y1, yt⟩ | ⟨y1, yt, ya⟩
    all_goals
      first
        | (exfalso; omega)
        | exact ⟨yt, fun z => absurd z (by decide)⟩
        | (rw [s4.2.1.2.2.1, s4.2.1.2.2.2, j.2.2.1.2.1] at ca
           rw [r5.2.2.2.2.1.1, r5.2.2.1.1] at ya
           exact ⟨yt, fun _ => put92.trans (ac_eq hv r5.1 ca ya)⟩)
  · have jq : JQ h K N1 N3 1 300 v bv isS sv c pv w d cw cd X1 X3 h1 := j.jf cq
    refine ⟨(jq.k92 BsE.rf s).1, Or.inl ⟨_, rfl, ?_⟩⟩
    refine q_ref (kk := 0) RfA AcF (206010 * 6) J hv jq EqP.pu (d2 := 12) (by decide) (fun r1 r2 r3 r4 r5 => r_account r1 r2.nv (r2.kj r3) ⟨r4.1, by omega⟩) (fun r3 r5 r h2 z => ?_) (by decide)
    obtain ⟨zk, zj, zs, z⟩ := z
    refine ⟨zk, ⟨zj.2.2, zs⟩, ?_⟩
    rcases z with ⟨y1, yt⟩ | ⟨y1, yt, ya⟩
    all_goals
      first
        | (exfalso; omega)
        | exact ⟨yt, fun z => absurd z (by decide)⟩
        | (rw [s4.2.1.2.2.1, s4.2.1.2.2.2, j.2.2.1.2.1] at ca
           rw [r5.2.2.2.2.1.1, r5.2.2.1.1] at ya
           exact ⟨yt, fun _ => put92.trans (ac_eq hv r5.1 ca ya)⟩)
set_option maxHeartbeats 1000000 in
theorem j_reason (J : JA k h a K v bv isS sv c pv w d cw cd X1 X3 b1 N1 b3 N3) (hk : k < 512) (hq9 : q9 = 0 ∨ q9 = 1) : LC (JW (k + 1)) mL_reason [iv p, iv q9] mX11_reason [iv p, iv q9] h := by
  obtain ⟨N, LL, kp, hv, hs⟩ := J.1.2.1.1
  have j := J.1
  have n := j.qn hs
  have o := hv.lko
  have s := J.2.1
  have n94 := s.2.2.2.2
  refine ⟨19, by decide, w_reason (by decide) (g_reason j hq9) s.1 (by omega) fun oo h1 q => ?_⟩
  rcases q with ⟨c1, rfl, ce⟩ | ⟨c1, c2, rfl, ce⟩ | ⟨c1, c2, rfl, ce⟩
  · have jq : JQ h K N1 N3 1 300 v bv isS sv c pv w d cw cd X1 X3 h1 := (by rw [ce]; exact j.jt)
    refine ⟨(jq.k92 BsE.rf s).1, Or.inr (Or.inl ⟨rfl, ?_⟩)⟩
    refine q_ref (kk := 1) [] [0] 0 J hv jq EqP.rf (d2 := 3) (by decide) (fun r1 r2 r3 r4 r5 => r_reason r1) (fun r3 r5 r h2 z => ?_) (by decide)
    obtain ⟨zk, z⟩ := z
    refine ⟨zk, st_n zk r3 (by decide) (by decide), ?_⟩
    rcases z with ⟨y1, yt⟩ | ⟨y1, y3, yt⟩ | ⟨y1, y3, yt, y2⟩
    all_goals
      have e3 := r5.2.2.2.1.1
      by_cases w0 : w = 0
      · first
          | (exfalso; omega)
          | exact ⟨yt, fun z => absurd z (by decide)⟩
      · obtain ⟨e4, e5, e6⟩ := r5.2.2.2.1.2 w0
        first
          | (exfalso; omega)
          | exact ⟨yt, fun z => absurd z (by decide)⟩
          | (refine ⟨yt, fun _ => put92.trans ?_⟩
             rw [y2, e3, e4, e5]
             by_cases p0 : p = 0
             · rw [if_pos p0, if_pos p0]
             · rw [e6 (by omega)])
  · have jq : JQ h K N1 N3 1 300 v bv isS sv c pv w d cw cd X1 X3 h1 := (by rw [ce]; exact j.jt)
    refine ⟨(jq.k92 BsE.rf s).1, Or.inr (Or.inr ⟨rfl, ?_⟩)⟩
    refine q_ref (kk := 2) [] [0] 0 J hv jq EqP.rf (d2 := 3) (by decide) (fun r1 r2 r3 r4 r5 => r_reason r1) (fun r3 r5 r h2 z => ?_) (by decide)
    obtain ⟨zk, z⟩ := z
    refine ⟨zk, st_n zk r3 (by decide) (by decide), ?_⟩
    rcases z with ⟨y1, yt⟩ | ⟨y1, y3, yt⟩ | ⟨y1, y3, yt, y2⟩
    all_goals
      have e3 := r5.2.2.2.1.1
      by_cases w0 : w = 0
      · first
          | (exfalso; omega)
          | exact ⟨yt, fun z => absurd z (by decide)⟩
      · obtain ⟨e4, e5, e6⟩ := r5.2.2.2.1.2 w0
        first
          | (exfalso; omega)
          | exact ⟨yt, fun z => absurd z (by decide)⟩
          | (refine ⟨yt, fun _ => put92.trans ?_⟩
             rw [y2, e3, e4, e5]
             by_cases p0 : p = 0
             · rw [if_pos p0, if_pos p0]
             · rw [e6 (by omega)])
  · have jq : JQ h K N1 N3 1 300 v bv isS sv c pv w d cw cd X1 X3 h1 := (by rw [ce]; exact j.js)
    refine ⟨(jq.k92 BsE.rf s).1, Or.inl ⟨_, rfl, ?_⟩⟩
    refine q_ref (kk := 0) [] [0] 0 J hv jq EqP.pu (d2 := 3) (by decide) (fun r1 r2 r3 r4 r5 => r_reason r1) (fun r3 r5 r h2 z => ?_) (by decide)
    obtain ⟨zk, z⟩ := z
    refine ⟨zk, st_n zk r3 (by decide) (by decide), ?_⟩
    rcases z with ⟨y1, yt⟩ | ⟨y1, y3, yt⟩ | ⟨y1, y3, yt, y2⟩
    all_goals
      have e3 := r5.2.2.2.1.1
      by_cases w0 : w = 0
      · first
          | (exfalso; omega)
          | exact ⟨yt, fun z => absurd z (by decide)⟩
      · obtain ⟨e4, e5, e6⟩ := r5.2.2.2.1.2 w0
        first
          | (exfalso; omega)
          | exact ⟨yt, fun z => absurd z (by decide)⟩
          | (refine ⟨yt, fun _ => put92.trans ?_⟩
             rw [y2, e3, e4, e5]
             by_cases p0 : p = 0
             · rw [if_pos p0, if_pos p0]
             · rw [e6 (by omega)])
set_option maxHeartbeats 1000000 in
theorem j_character (J : JA k h a K v bv isS sv c pv w d cw cd X1 X3 b1 N1 b3 N3) (hk : k < 512) : LC (JW (k + 1)) mL_character [iv p] mX11_character [iv p] h := by
  obtain ⟨N, LL, kp, hv, hs⟩ := J.1.2.1.1
  have j := J.1
  have n := j.qn hs
  have o := hv.lko
  have s := J.2.1
  have n94 := s.2.2.2.2
  refine ⟨19, by decide, w_character (by decide) (g_character j) s.1 (by omega) fun oo h1 q => ?_⟩
  rcases q with ⟨c1, rfl, ce⟩ | ⟨c1, rfl, ce⟩
  · have jq : JQ h K N1 N3 1 300 v bv isS sv c pv w d cw cd X1 X3 h1 := (by rw [ce]; exact j.jt)
    refine ⟨(jq.k92 BsE.rf s).1, Or.inr ⟨rfl, ?_⟩⟩
    refine q_ref (kk := 1) [] [0] 0 J hv jq EqP.rf (d2 := 3) (by decide) (fun r1 r2 r3 r4 r5 => r_character r1 r5.2.2.2.2.2.1 J.2.2.2.2.1.2.2.2 (fun i hi => by rw [r5.2.2.2.2.2.2 i hi]; exact x3_rg j i hi)) (fun r3 r5 r h2 z => ?_) (by decide)
    obtain ⟨zk, z⟩ := z
    refine ⟨zk, st_n zk r3 (by decide) (by decide), ?_⟩
    rcases z with ⟨y1, yt⟩ | ⟨y1, yt, y2⟩
    all_goals
      first
        | (exfalso; omega)
        | exact ⟨yt, fun z => absurd z (by decide)⟩
        | exact ⟨yt, fun _ => put92.trans (by rw [y2]; exact (r5.2.2.2.2.2.2 p.toNat (by omega)).symm)⟩
  · have jq : JQ h K N1 N3 1 300 v bv isS sv c pv w d cw cd X1 X3 h1 := (by rw [ce]; exact j.js)
    refine ⟨(jq.k92 BsE.rf s).1, Or.inl ⟨_, rfl, ?_⟩⟩
    refine q_ref (kk := 0) [] [0] 0 J hv jq EqP.pu (d2 := 3) (by decide) (fun r1 r2 r3 r4 r5 => r_character r1 r5.2.2.2.2.2.1 J.2.2.2.2.1.2.2.2 (fun i hi => by rw [r5.2.2.2.2.2.2 i hi]; exact x3_rg j i hi)) (fun r3 r5 r h2 z => ?_) (by decide)
    obtain ⟨zk, z⟩ := z
    refine ⟨zk, st_n zk r3 (by decide) (by decide), ?_⟩
    rcases z with ⟨y1, yt⟩ | ⟨y1, yt, y2⟩
    all_goals
      first
        | (exfalso; omega)
        | exact ⟨yt, fun z => absurd z (by decide)⟩
        | exact ⟨yt, fun _ => put92.trans (by rw [y2]; exact (r5.2.2.2.2.2.2 p.toNat (by omega)).symm)⟩
theorem j_meanSize (J : JA k h a K v bv isS sv c pv w d cw cd X1 X3 b1 N1 b3 N3) (hk : k < 512) : LCd (JW (k + 1)) mL_meanSize mX11_meanSize h := by
  obtain ⟨N, LL, kp, hv, hs⟩ := J.1.2.1.1
  have j := J.1
  have n := j.qn hs
  have o := hv.lko
  have s := J.2.1
  have n94 := s.2.2.2.2
  refine ⟨19, by decide, w_meanSize (by decide) (g_meanSize n o) s.1 (by omega) fun oo h1 q => ?_⟩
  obtain ⟨xs, xc, ca, cb, q⟩ := q
  have go : ∀ (g : AH), JQ h K N1 N3 1 300 v bv isS sv c pv w d cw cd X1 X3 h1 → EqP h1 g → STR g ∧ CV mX11_meanSize 12 [rv 42] g (fun o h2 => RI h2 ∧ STR h2 ∧ JW (k + 1) h2 ∧ h2.vl 93 0 = g.vl 93 0 ∧ ∃ wv m, o = dv wv ∧ ofR LL kp 0 N m ∧ ((m = 0 ∧ h2.vl 42 0 = 1) ∨ (m ≠ 0 ∧ h2.vl 42 0 = 0 ∧ ∃ s, ofR LL kp 1 N s ∧ (0 ≤ s ∧ s ≤ 1200) ∧ (1 ≤ m ∧ m ≤ 6) ∧ wv = FP.ddiv (FP.i2d (Int32.ofInt s)) (FP.i2d (Int32.ofInt m))))) := by
    intro g jq e
    obtain ⟨a1, K1, b2, M1, b4, M3, fj, j1⟩ := id jq
    obtain ⟨p1, p2, p3, p4, p5, p6⟩ := j_pre J hv BsE.rf fj e
    refine ⟨p2, cv_mono (r_meanSize p1 p3.nv (p3.kj p4) ⟨p5.1, by omega⟩) fun o h2 z => ?_⟩
    obtain ⟨zk, zj, zs, z⟩ := z
    obtain ⟨s2, jw⟩ := q_end (n := 2472120) J jq (by decide) (by decide) e zk (by decide) (by decide) (zk.ri p1) ⟨zj.2.2, zs⟩ (by decide)
    exact ⟨zk.ri p1, s2, jw, by rw [zk.vl (r := 93) (by decide) (by decide)], z⟩
  rcases q with ⟨c1, rfl, cq⟩ | ⟨c1, rfl, cq⟩
  · have jq := j.jr cq
    obtain ⟨g1, g2⟩ := go h1 jq EqP.rf
    refine ⟨(jq.k92 BsE.rf s).2, Or.inr ⟨rfl, g1, 12, by decide, cv_mono g2 fun o h2 z => ?_⟩⟩
    obtain ⟨z1, z2, z3, z4, wv, m, rfl, ym, z5⟩ := z
    have em := ofR_det _ _ _ cb ym
    rcases z5 with ⟨y1, yt⟩ | ⟨y1, -⟩
    · exact ⟨wv, rfl, z1, z2, yt, fun z => absurd z (by decide), z3⟩
    · omega
  · have jq := j.jf cq
    obtain ⟨g1, g2⟩ := go _ jq EqP.pd
    refine ⟨(jq.k92 BsE.rf s).2, Or.inl ⟨_, rfl, g1, 12, by decide, cv_mono g2 fun o h2 z => ?_⟩⟩
    obtain ⟨z1, z2, z3, z4, wv, m, rfl, ym, z5⟩ := z
    have em := ofR_det _ _ _ cb ym
    subst em
    rcases z5 with ⟨y1, yt⟩ | ⟨y1, yt, s', ys, y3, y4, rfl⟩
    · omega
    · have es := ofR_det _ _ _ ca ys
      subst es
      refine ⟨_, rfl, z1, z2, yt, fun _ => ⟨?_, ?_⟩, z3⟩
      · rw [z4, AH.put_vl, if_pos ⟨rfl, rfl⟩]
      · obtain ⟨x, rfl⟩ : ∃ x : Nat, xs = (x : Int) := ⟨xs.toNat, by omega⟩
        obtain ⟨y, rfl⟩ : ∃ y : Nat, xc = ((y + 1 : Nat) : Int) := ⟨xc.toNat - 1, by omega⟩
        exact dc64 y (by omega) x (by omega)
theorem j_typedShare (J : JA k h a K v bv isS sv c pv w d cw cd X1 X3 b1 N1 b3 N3) (hk : k < 512) : LCf (JW (k + 1)) mL_typedShare mX11_typedShare h := by
  obtain ⟨N, LL, kp, hv, hs⟩ := J.1.2.1.1
  have j := J.1
  have n := j.qn hs
  have o := hv.lko
  have s := J.2.1
  have n94 := s.2.2.2.2
  have n6 : N ≤ 6 := hv.1.2.1
  refine ⟨19, by decide, w_typedShare (by decide) (g_typedShare n o) s.1 (by omega) fun oo h1 q => ?_⟩
  have go : ∀ (g : AH), JQ h K N1 N3 1 300 v bv isS sv c pv w d cw cd X1 X3 h1 → EqP h1 g → STR g ∧ CV mX11_typedShare 12 [rv 42] g (fun o h2 => RI h2 ∧ STR h2 ∧ JW (k + 1) h2 ∧ h2.vl 93 0 = g.vl 93 0 ∧ ∃ wv, o = fv wv ∧ ((N = 0 ∧ h2.vl 42 0 = 1) ∨ (N ≠ 0 ∧ h2.vl 42 0 = 0 ∧ ∃ m, ofR LL kp 0 N m ∧ (0 ≤ m ∧ m ≤ (N : Int)) ∧ wv = FP.fdiv (FP.i2f (Int32.ofInt m)) (FP.i2f (Int32.ofInt (N : Int)))))) := by
    intro g jq e
    obtain ⟨a1, K1, b2, M1, b4, M3, fj, j1⟩ := id jq
    obtain ⟨p1, p2, p3, p4, p5, p6⟩ := j_pre J hv BsE.rf fj e
    refine ⟨p2, cv_mono (r_typedShare p1 p3.nv (p3.kj p4) ⟨p5.1, by omega⟩) fun o h2 z => ?_⟩
    obtain ⟨zk, zj, zs, z⟩ := z
    obtain ⟨s2, jw⟩ := q_end (n := 206010 * 6) J jq (by decide) (by decide) e zk (by decide) (by decide) (zk.ri p1) ⟨zj.2.2, zs⟩ (by decide)
    exact ⟨zk.ri p1, s2, jw, by rw [zk.vl (r := 93) (by decide) (by decide)], z⟩
  rcases q with ⟨c1, rfl, ce⟩ | ⟨c1, m, ca, rfl, cq⟩
  · have jq : JQ h K N1 N3 1 300 v bv isS sv c pv w d cw cd X1 X3 h1 := by rw [ce]; exact j.jt
    obtain ⟨g1, g2⟩ := go h1 jq EqP.rf
    refine ⟨(jq.k92 BsE.rf s).2, Or.inr ⟨rfl, g1, 12, by decide, cv_mono g2 fun o h2 z => ?_⟩⟩
    obtain ⟨z1, z2, z3, z4, wv, rfl, z5⟩ := z
    rcases z5 with ⟨y1, yt⟩ | ⟨y1, -⟩
    · exact ⟨wv, rfl, z1, z2, yt, fun z => absurd z (by decide), z3⟩
    · exact absurd c1 y1
  · have jq := j.jf cq
    obtain ⟨a9, K9, q9'⟩ := cq
    have mb : 0 ≤ m ∧ m ≤ (N : Int) := ofR_le0 _ _ ca
    obtain ⟨x, rfl⟩ : ∃ x : Nat, m = (x : Int) := ⟨m.toNat, by omega⟩
    obtain ⟨y, rfl⟩ : ∃ y : Nat, N = y + 1 := ⟨N - 1, by omega⟩
    obtain ⟨g1, g2⟩ := go _ jq EqP.pd
    refine ⟨(jq.k92 BsE.rf s).2, Or.inl ⟨_, rfl, (nn32 x (by omega) y (by omega)).2, g1, 12, by decide, cv_mono g2 fun o h2 z => ?_⟩⟩
    obtain ⟨z1, z2, z3, z4, wv, rfl, z5⟩ := z
    rcases z5 with ⟨y1, yt⟩ | ⟨y1, yt, m', ym, y3, rfl⟩
    · exact absurd y1 c1
    · have em := ofR_det _ _ _ ca ym
      subst em
      refine ⟨_, rfl, z1, z2, yt, fun _ => ⟨(nn32 x (by omega) y (by omega)).2, ?_, dc32 x (by omega) y (by omega)⟩, z3⟩
      rw [z4, AH.put_vl, if_pos ⟨rfl, rfl⟩]
theorem j_isTold (J : JA k h a K v bv isS sv c pv w d cw cd X1 X3 b1 N1 b3 N3) (hk : k < 512) : LCx (JW (k + 1)) mX10_isTold mX11_isTold h := by
  obtain ⟨N, LL, kp, hv, hs⟩ := J.1.2.1.1
  have j := J.1
  have n := j.qn hs
  have o := hv.lko
  have s := J.2.1
  have n94 := s.2.2.2.2
  refine ⟨11, by decide, cv_mono (g_isTold n o) fun oo h1 q => ?_⟩
  obtain ⟨x, rfl, rfl, cq⟩ := q
  have jq := j.jf cq
  obtain ⟨a1, K1, b2, M1, b4, M3, fj, j1⟩ := id jq
  obtain ⟨p1, p2, p3, p4, p5, p6⟩ := j_pre J hv BsE.rf fj EqP.rf
  refine ⟨_, rfl, p2, 3, by decide, cv_mono (r_isTold p1) fun o h2 z => ?_⟩
  obtain ⟨r, rfl, zk, zt, zr⟩ := z
  obtain ⟨s2, jw⟩ := q_end J jq (by decide) (by decide) EqP.rf zk (by decide) (by decide) (zk.ri p1) (st_n zk p4 (by decide) (by decide)) (by decide)
  exact ⟨r, rfl, zr.symm, zk.ri p1, s2, jw⟩
theorem j_faultPosition (J : JA k h a K v bv isS sv c pv w d cw cd X1 X3 b1 N1 b3 N3) (hk : k < 512) : LCx (JW (k + 1)) mX10_faultPosition mX11_faultPosition h := by
  obtain ⟨N, LL, kp, hv, hs⟩ := J.1.2.1.1
  have j := J.1
  have n := j.qn hs
  have o := hv.lko
  have s := J.2.1
  have n94 := s.2.2.2.2
  refine ⟨8, by decide, cv_mono (g_faultPos n.1.1) fun oo h1 q => ?_⟩
  obtain ⟨x, rfl, ex, e1⟩ := q
  have jq : JQ h K N1 N3 1 300 v bv isS sv c pv w d cw cd X1 X3 h1 := by rw [e1]; exact j.js
  obtain ⟨a1, K1, b2, M1, b4, M3, fj, j1⟩ := id jq
  obtain ⟨p1, p2, p3, p4, p5, p6⟩ := j_pre J hv BsE.rf fj EqP.rf
  refine ⟨_, rfl, p2, 3, by decide, cv_mono (r_faultPos p1) fun o h2 z => ?_⟩
  obtain ⟨r, rfl, zk, zt, zr⟩ := z
  obtain ⟨s2, jw⟩ := q_end J jq (by decide) (by decide) EqP.rf zk (by decide) (by decide) (zk.ri p1) (st_n zk p4 (by decide) (by decide)) (by decide)
  exact ⟨r, rfl, by rw [ex, zr, e1]; exact J.2.2.2.2.2.2.2, zk.ri p1, s2, jw⟩
end Ask
