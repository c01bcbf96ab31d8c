/-! the law's calls -/
section Ask
variable {k : Nat} {h b0 h1 g h2 : AH} {a K a1 K1 : Nat → Nat} {v bv sv : Nat → Int} {isS : Int} {c : Nat} {pv : Nat → Nat → Int} {w d cw cd : Int} {X1 X3 : List Int} {b1 N1 b3 N3 M1 M3 dc ds : Nat} {N : Nat} {LL : Nat → List Nd} {kp : Nat → Option TE} {kk : Int} {Mm : MD} {bs : List AV}
variable {p q9 w9 : Int}
set_option maxHeartbeats 1000000 in
theorem j_typeAgain (J : JA k h a K v bv isS sv c pv w d cw cd X1 X3 b1 N1 b3 N3) (hk : k < 512) : LC (JW (k + 1)) mL_typeAgain [iv p, iv q9] mX11_typeAgain [iv p, iv q9] h := by
  obtain ⟨N, LL, kp, hv, hs⟩ := J.1.2.1.1
  have j := J.1
  have n := j.qn hs
  have o := hv.lko
  have s := J.2.1
  have n94 := s.2.2.2.2
  refine ⟨19, by decide, w_typeAgain (by decide) (g_typeAgain n o) s.1 (by omega) fun oo h1 q => ?_⟩
  rcases q with ⟨c1, rfl, ce⟩ | ⟨c1, c2, rfl, ce⟩ | ⟨c1, c2, r, S, cf, ⟨c3, rfl, cq⟩ | ⟨c3, ov, cwy, ⟨c4, rfl, cq⟩ | ⟨c4, rfl, cq⟩⟩⟩
  · have jq : JQ h K N1 N3 1 300 v bv isS sv c pv w d cw cd X1 X3 h1 := (by rw [ce]; exact j.jt)
    refine ⟨(jq.k92 BsE.rf s).1, Or.inr (Or.inl ⟨rfl, ?_⟩)⟩
    refine q_ref (kk := 1) TaA RfF 206010 J hv jq EqP.rf (d2 := 10) (by decide) (fun r1 r2 r3 r4 r5 => r_typeAgain r1 r2.nv (r2.kj r3) ⟨r4.1, by omega⟩) (fun r3 r5 r h2 z => ?_) (by decide)
    obtain ⟨⟨zk, zj, zs⟩, z⟩ := z
    refine ⟨zk, ⟨zj.2.2, zs⟩, ?_⟩
    rcases z with ⟨y1, yt⟩ | ⟨y1, y3, yt⟩ | ⟨y1, y3, r', S', yf, ⟨y4, yt⟩ | ⟨y4, y, ya, ⟨y5, yt⟩ | ⟨y5, yt, y2⟩⟩⟩
    all_goals
      first
        | (exfalso; omega)
        | exact ⟨yt, fun z => absurd z (by decide)⟩
        | (obtain ⟨rfl, eS⟩ := fnR_det cf yf
           first
             | (exfalso; omega)
             | exact ⟨yt, fun z => absurd z (by decide)⟩
             | (have ww := wy_iff o (by omega) cf (by assumption) cwy ya
                first
                  | exact absurd c4 (ww.1 y5)
                  | exact absurd (ww.2 y5) c4
                  | (have eS := eS (by assumption)
                     subst eS
                     exact ⟨yt, fun _ => put92.trans y2.symm⟩)))
  · have jq : JQ h K N1 N3 1 300 v bv isS sv c pv w d cw cd X1 X3 h1 := (by rw [ce]; exact j.jt)
    refine ⟨(jq.k92 BsE.rf s).1, Or.inr (Or.inr (Or.inl ⟨rfl, ?_⟩))⟩
    refine q_ref (kk := 2) TaA RfF 206010 J hv jq EqP.rf (d2 := 10) (by decide) (fun r1 r2 r3 r4 r5 => r_typeAgain r1 r2.nv (r2.kj r3) ⟨r4.1, by omega⟩) (fun r3 r5 r h2 z => ?_) (by decide)
    obtain ⟨⟨zk, zj, zs⟩, z⟩ := z
    refine ⟨zk, ⟨zj.2.2, zs⟩, ?_⟩
    rcases z with ⟨y1, yt⟩ | ⟨y1, y3, yt⟩ | ⟨y1, y3, r', S', yf, ⟨y4, yt⟩ | ⟨y4, y, ya, ⟨y5, yt⟩ | ⟨y5, yt, y2⟩⟩⟩
    all_goals
      first
        | (exfalso; omega)
        | exact ⟨yt, fun z => absurd z (by decide)⟩
        | (obtain ⟨rfl, eS⟩ := fnR_det cf yf
           first
             | (exfalso; omega)
             | exact ⟨yt, fun z => absurd z (by decide)⟩
             | (have ww := wy_iff o (by omega) cf (by assumption) cwy ya
                first
                  | exact absurd c4 (ww.1 y5)
                  | exact absurd (ww.2 y5) c4
                  | (have eS := eS (by assumption)
                     subst eS
                     exact ⟨yt, fun _ => put92.trans y2.symm⟩)))
  · have jq : JQ h K N1 N3 1 300 v bv isS sv c pv w d cw cd X1 X3 h1 := j.jr cq
    refine ⟨(jq.k92 BsE.rf s).1, Or.inr (Or.inr (Or.inr ⟨rfl, ?_⟩))⟩
    refine q_ref (kk := 3) TaA RfF 206010 J hv jq EqP.rf (d2 := 10) (by decide) (fun r1 r2 r3 r4 r5 => r_typeAgain r1 r2.nv (r2.kj r3) ⟨r4.1, by omega⟩) (fun r3 r5 r h2 z => ?_) (by decide)
    obtain ⟨⟨zk, zj, zs⟩, z⟩ := z
    refine ⟨zk, ⟨zj.2.2, zs⟩, ?_⟩
    rcases z with ⟨y1, yt⟩ | ⟨y1, y3, yt⟩ | ⟨y1, y3, r', S', yf, ⟨y4, yt⟩ | ⟨y4, y, ya, ⟨y5, yt⟩ | ⟨y5, yt, y2⟩⟩⟩
    all_goals
      first
        | (exfalso; omega)
        | exact ⟨yt, fun z => absurd z (by decide)⟩
        | (obtain ⟨rfl, eS⟩ := fnR_det cf yf
           first
             | (exfalso; omega)
             | exact ⟨yt, fun z => absurd z (by decide)⟩
             | (have ww := wy_iff o (by omega) cf (by assumption) cwy ya
                first
                  | exact absurd c4 (ww.1 y5)
                  | exact absurd (ww.2 y5) c4
                  | (have eS := eS (by assumption)
                     subst eS
                     exact ⟨yt, fun _ => put92.trans y2.symm⟩)))
  · have jq : JQ h K N1 N3 1 300 v bv isS sv c pv w d cw cd X1 X3 h1 := j.jr cq
    refine ⟨(jq.k92 BsE.rf s).1, Or.inr (Or.inr (Or.inr ⟨rfl, ?_⟩))⟩
    refine q_ref (kk := 3) TaA RfF 206010 J hv jq EqP.rf (d2 := 10) (by decide) (fun r1 r2 r3 r4 r5 => r_typeAgain r1 r2.nv (r2.kj r3) ⟨r4.1, by omega⟩) (fun r3 r5 r h2 z => ?_) (by decide)
    obtain ⟨⟨zk, zj, zs⟩, z⟩ := z
    refine ⟨zk, ⟨zj.2.2, zs⟩, ?_⟩
    rcases z with ⟨y1, yt⟩ | ⟨y1, y3, yt⟩ | ⟨y1, y3, r', S', yf, ⟨y4, yt⟩ | ⟨y4, y, ya, ⟨y5, yt⟩ | ⟨y5, yt, y2⟩⟩⟩
    all_goals
      first
        | (exfalso; omega)
        | exact ⟨yt, fun z => absurd z (by decide)⟩
        | (obtain ⟨rfl, eS⟩ := fnR_det cf yf
           first
             | (exfalso; omega)
             | exact ⟨yt, fun z => absurd z (by decide)⟩
             | (have ww := wy_iff o (by omega) cf (by assumption) cwy ya
                first
                  | exact absurd c4 (ww.1 y5)
                  | exact absurd (ww.2 y5) c4
                  | (have eS := eS (by assumption)
                     subst eS
                     exact ⟨yt, fun _ => put92.trans y2.symm⟩)))
  · have jq : JQ h K N1 N3 1 300 v bv isS sv c pv w d cw cd X1 X3 h1 := j.jf cq
    refine ⟨(jq.k92 BsE.rf s).1, Or.inl ⟨_, rfl, ?_⟩⟩
    refine q_ref (kk := 0) TaA RfF 206010 J hv jq EqP.pu (d2 := 10) (by decide) (fun r1 r2 r3 r4 r5 => r_typeAgain r1 r2.nv (r2.kj r3) ⟨r4.1, by omega⟩) (fun r3 r5 r h2 z => ?_) (by decide)
    obtain ⟨⟨zk, zj, zs⟩, z⟩ := z
    refine ⟨zk, ⟨zj.2.2, zs⟩, ?_⟩
    rcases z with ⟨y1, yt⟩ | ⟨y1, y3, yt⟩ | ⟨y1, y3, r', S', yf, ⟨y4, yt⟩ | ⟨y4, y, ya, ⟨y5, yt⟩ | ⟨y5, yt, y2⟩⟩⟩
    all_goals
      first
        | (exfalso; omega)
        | exact ⟨yt, fun z => absurd z (by decide)⟩
        | (obtain ⟨rfl, eS⟩ := fnR_det cf yf
           first
             | (exfalso; omega)
             | exact ⟨yt, fun z => absurd z (by decide)⟩
             | (have ww := wy_iff o (by omega) cf (by assumption) cwy ya
                first
                  | exact absurd c4 (ww.1 y5)
                  | exact absurd (ww.2 y5) c4
                  | (have eS := eS (by assumption)
                     subst eS
                     exact ⟨yt, fun _ => put92.trans y2.symm⟩)))
set_option maxHeartbeats 1000000 in
theorem j_isAlike (J : JA k h a K v bv isS sv c pv w d cw cd X1 X3 b1 N1 b3 N3) (hk : k < 512) : LCb (JW (k + 1)) mL_isAlike [iv p, iv q9] mX11_isAlike [iv p, iv q9] h := by
  obtain ⟨N, LL, kp, hv, hs⟩ := J.1.2.1.1
  have j := J.1
  have n := j.qn hs
  have o := hv.lko
  have s := J.2.1
  have n94 := s.2.2.2.2
  refine ⟨19, by decide, w_isAlike (by decide) (g_isAlike n o) s.1 (by omega) fun oo h1 q => ?_⟩
  rcases q with ⟨c1, rfl, ce⟩ | ⟨c1, ⟨c2, rfl, cq⟩ | ⟨r, S, r2', S2, ⟨cf, cr⟩, ⟨cf2, cr2⟩, x, rfl, c5, c6, cq⟩⟩
  · have jq : JQ h K N1 N3 1 300 v bv isS sv c pv w d cw cd X1 X3 h1 := (by rw [ce]; exact j.jt)
    refine ⟨(jq.k92 BsE.rf s).1, Or.inr (Or.inl ⟨rfl, ?_⟩)⟩
    refine q_refb (kk := 1) BoA (0 :: BoF) 412020 J hv jq EqP.rf (d2 := 12) (by decide) (fun r1 r2 r3 r4 r5 => r_isAlike r1 r2.nv (r2.kj r3) ⟨r4.1, by omega⟩) (fun r3 r5 r h2 z => ?_) (by decide)
    obtain ⟨zk, zj, zs, z⟩ := z
    refine ⟨zk, ⟨zj.2.2, zs⟩, ?_⟩
    rcases z with ⟨y1, yt⟩ | ⟨y1, ⟨yt, gg, yb⟩ | ⟨yt, y5, r', S', r3', S3, yf, yr, yf2, yr2, y6⟩⟩
    all_goals
      first
        | (exfalso; omega)
        | exact ⟨yt, fun z => absurd z (by decide)⟩
        | exact (bo_no yb ⟨⟨_, _, cf, cr⟩, ⟨_, _, cf2, cr2⟩⟩).elim
        | exact (c2 ⟨⟨_, _, yf, yr⟩, ⟨_, _, yf2, yr2⟩⟩).elim
        | (obtain ⟨rfl, eS⟩ := fnR_det cf yf
           obtain ⟨rfl, eS2⟩ := fnR_det cf2 yf2
           have eS := eS cr
           have eS2 := eS2 cr2
           subst eS
           subst eS2
           have e9 := iff01 y5 c5 y6 c6
           exact ⟨yt, fun _ => ⟨put92.trans e9.symm, y5⟩⟩)
  · have jq : JQ h K N1 N3 1 300 v bv isS sv c pv w d cw cd X1 X3 h1 := j.jr cq
    refine ⟨(jq.k92 BsE.rf s).1, Or.inr (Or.inr ⟨rfl, ?_⟩)⟩
    refine q_refb (kk := 2) BoA (0 :: BoF) 412020 J hv jq EqP.rf (d2 := 12) (by decide) (fun r1 r2 r3 r4 r5 => r_isAlike r1 r2.nv (r2.kj r3) ⟨r4.1, by omega⟩) (fun r3 r5 r h2 z => ?_) (by decide)
    obtain ⟨zk, zj, zs, z⟩ := z
    refine ⟨zk, ⟨zj.2.2, zs⟩, ?_⟩
    rcases z with ⟨y1, yt⟩ | ⟨y1, ⟨yt, gg, yb⟩ | ⟨yt, y5, r', S', r3', S3, yf, yr, yf2, yr2, y6⟩⟩
    all_goals
      first
        | (exfalso; omega)
        | exact ⟨yt, fun z => absurd z (by decide)⟩
        | exact (bo_no yb ⟨⟨_, _, cf, cr⟩, ⟨_, _, cf2, cr2⟩⟩).elim
        | exact (c2 ⟨⟨_, _, yf, yr⟩, ⟨_, _, yf2, yr2⟩⟩).elim
        | (obtain ⟨rfl, eS⟩ := fnR_det cf yf
           obtain ⟨rfl, eS2⟩ := fnR_det cf2 yf2
           have eS := eS cr
           have eS2 := eS2 cr2
           subst eS
           subst eS2
           have e9 := iff01 y5 c5 y6 c6
           exact ⟨yt, fun _ => ⟨put92.trans e9.symm, y5⟩⟩)
  · have jq : JQ h K N1 N3 1 300 v bv isS sv c pv w d cw cd X1 X3 h1 := j.jf cq
    refine ⟨(jq.k92 BsE.rf s).1, Or.inl ⟨_, rfl, c5, ?_⟩⟩
    refine q_refb (kk := 0) BoA (0 :: BoF) 412020 J hv jq EqP.pu (d2 := 12) (by decide) (fun r1 r2 r3 r4 r5 => r_isAlike r1 r2.nv (r2.kj r3) ⟨r4.1, by omega⟩) (fun r3 r5 r h2 z => ?_) (by decide)
    obtain ⟨zk, zj, zs, z⟩ := z
    refine ⟨zk, ⟨zj.2.2, zs⟩, ?_⟩
    rcases z with ⟨y1, yt⟩ | ⟨y1, ⟨yt, gg, yb⟩ | ⟨yt, y5, r', S', r3', S3, yf, yr, yf2, yr2, y6⟩⟩
    all_goals
      first
        | (exfalso; omega)
        | exact ⟨yt, fun z => absurd z (by decide)⟩
        | exact (bo_no yb ⟨⟨_, _, cf, cr⟩, ⟨_, _, cf2, cr2⟩⟩).elim
        | exact (c2 ⟨⟨_, _, yf, yr⟩, ⟨_, _, yf2, yr2⟩⟩).elim
        | (obtain ⟨rfl, eS⟩ := fnR_det cf yf
           obtain ⟨rfl, eS2⟩ := fnR_det cf2 yf2
           have eS := eS cr
           have eS2 := eS2 cr2
           subst eS
           subst eS2
           have e9 := iff01 y5 c5 y6 c6
           exact ⟨yt, fun _ => ⟨put92.trans e9.symm, y5⟩⟩)
set_option maxHeartbeats 1000000 in
theorem j_isAsGeneral (J : JA k h a K v bv isS sv c pv w d cw cd X1 X3 b1 N1 b3 N3) (hk : k < 512) : LCb (JW (k + 1)) mL_isAsGeneral [iv p, iv q9] mX11_isAsGeneral [iv p, iv q9] h := by
  obtain ⟨N, LL, kp, hv, hs⟩ := J.1.2.1.1
  have j := J.1
  have n := j.qn hs
  have o := hv.lko
  have s := J.2.1
  have n94 := s.2.2.2.2
  refine ⟨19, by decide, w_isAsGeneral (by decide) (g_isAsGeneral n o) s.1 (by omega) fun oo h1 q => ?_⟩
  rcases q with ⟨c1, rfl, ce⟩ | ⟨c1, ⟨c2, rfl, cq⟩ | ⟨r, S, r2', S2, ⟨cf, cr⟩, ⟨cf2, cr2⟩, x, rfl, c5, c6, cq⟩⟩
  · have jq : JQ h K N1 N3 1 300 v bv isS sv c pv w d cw cd X1 X3 h1 := (by rw [ce]; exact j.jt)
    refine ⟨(jq.k92 BsE.rf s).1, Or.inr (Or.inl ⟨rfl, ?_⟩)⟩
    refine q_refb (kk := 1) BoA (0 :: BoF) 412020 J hv jq EqP.rf (d2 := 12) (by decide) (fun r1 r2 r3 r4 r5 => r_isAsGeneral r1 r2.nv (r2.kj r3) ⟨r4.1, by omega⟩) (fun r3 r5 r h2 z => ?_) (by decide)
    obtain ⟨zk, zj, zs, z⟩ := z
    refine ⟨zk, ⟨zj.2.2, zs⟩, ?_⟩
    rcases z with ⟨y1, yt⟩ | ⟨y1, ⟨yt, gg, yb⟩ | ⟨yt, r', S', r3', S3, yf, yr, yf2, yr2, y6⟩⟩
    all_goals
      first
        | (exfalso; omega)
        | exact ⟨yt, fun z => absurd z (by decide)⟩
        | exact (bo_no yb ⟨⟨_, _, cf, cr⟩, ⟨_, _, cf2, cr2⟩⟩).elim
        | exact (c2 ⟨⟨_, _, yf, yr⟩, ⟨_, _, yf2, yr2⟩⟩).elim
        | (obtain ⟨rfl, eS⟩ := fnR_det cf yf
           obtain ⟨rfl, eS2⟩ := fnR_det cf2 yf2
           have eS := eS cr
           have eS2 := eS2 cr2
           subst eS
           subst eS2
           exact ⟨yt, fun _ => ⟨put92.trans (c6.trans y6.symm), by rw [y6]; split <;> omega⟩⟩)
  · have jq : JQ h K N1 N3 1 300 v bv isS sv c pv w d cw cd X1 X3 h1 := j.jr cq
    refine ⟨(jq.k92 BsE.rf s).1, Or.inr (Or.inr ⟨rfl, ?_⟩)⟩
    refine q_refb (kk := 2) BoA (0 :: BoF) 412020 J hv jq EqP.rf (d2 := 12) (by decide) (fun r1 r2 r3 r4 r5 => r_isAsGeneral r1 r2.nv (r2.kj r3) ⟨r4.1, by omega⟩) (fun r3 r5 r h2 z => ?_) (by decide)
    obtain ⟨zk, zj, zs, z⟩ := z
    refine ⟨zk, ⟨zj.2.2, zs⟩, ?_⟩
    rcases z with ⟨y1, yt⟩ | ⟨y1, ⟨yt, gg, yb⟩ | ⟨yt, r', S', r3', S3, yf, yr, yf2, yr2, y6⟩⟩
    all_goals
      first
        | (exfalso; omega)
        | exact ⟨yt, fun z => absurd z (by decide)⟩
        | exact (bo_no yb ⟨⟨_, _, cf, cr⟩, ⟨_, _, cf2, cr2⟩⟩).elim
        | exact (c2 ⟨⟨_, _, yf, yr⟩, ⟨_, _, yf2, yr2⟩⟩).elim
        | (obtain ⟨rfl, eS⟩ := fnR_det cf yf
           obtain ⟨rfl, eS2⟩ := fnR_det cf2 yf2
           have eS := eS cr
           have eS2 := eS2 cr2
           subst eS
           subst eS2
           exact ⟨yt, fun _ => ⟨put92.trans (c6.trans y6.symm), by rw [y6]; split <;> omega⟩⟩)
  · have jq : JQ h K N1 N3 1 300 v bv isS sv c pv w d cw cd X1 X3 h1 := j.jn cq
    refine ⟨(jq.k92 BsE.rf s).1, Or.inl ⟨_, rfl, c5, ?_⟩⟩
    refine q_refb (kk := 0) BoA (0 :: BoF) 412020 J hv jq EqP.pu (d2 := 12) (by decide) (fun r1 r2 r3 r4 r5 => r_isAsGeneral r1 r2.nv (r2.kj r3) ⟨r4.1, by omega⟩) (fun r3 r5 r h2 z => ?_) (by decide)
    obtain ⟨zk, zj, zs, z⟩ := z
    refine ⟨zk, ⟨zj.2.2, zs⟩, ?_⟩
    rcases z with ⟨y1, yt⟩ | ⟨y1, ⟨yt, gg, yb⟩ | ⟨yt, r', S', r3', S3, yf, yr, yf2, yr2, y6⟩⟩
    all_goals
      first
        | (exfalso; omega)
        | exact ⟨yt, fun z => absurd z (by decide)⟩
        | exact (bo_no yb ⟨⟨_, _, cf, cr⟩, ⟨_, _, cf2, cr2⟩⟩).elim
        | exact (c2 ⟨⟨_, _, yf, yr⟩, ⟨_, _, yf2, yr2⟩⟩).elim
        | (obtain ⟨rfl, eS⟩ := fnR_det cf yf
           obtain ⟨rfl, eS2⟩ := fnR_det cf2 yf2
           have eS := eS cr
           have eS2 := eS2 cr2
           subst eS
           subst eS2
           exact ⟨yt, fun _ => ⟨put92.trans (c6.trans y6.symm), by rw [y6]; split <;> omega⟩⟩)
set_option maxHeartbeats 1000000 in
theorem j_fit (J : JA k h a K v bv isS sv c pv w d cw cd X1 X3 b1 N1 b3 N3) (hk : k < 512) : LC (JW (k + 1)) mL_fit [iv p, iv q9] mX11_fit [iv p, iv q9] h := by
  obtain ⟨N, LL, kp, hv, hs⟩ := J.1.2.1.1
  have j := J.1
  have n := j.qn hs
  have o := hv.lko
  have s := J.2.1
  have n94 := s.2.2.2.2
  refine ⟨19, by decide, w_fit (by decide) (g_fit n o) s.1 (by omega) fun oo h1 q => ?_⟩
  rcases q with ⟨c1, rfl, ce⟩ | ⟨c1, ⟨c2, rfl, cq⟩ | ⟨r, S, r2', S2, ⟨cf, cr⟩, ⟨cf2, cr2⟩, x, cft, ⟨c6, rfl, cq⟩ | ⟨c6, rfl, cq⟩⟩⟩
  · have jq : JQ h K N1 N3 1 300 v bv isS sv c pv w d cw cd X1 X3 h1 := (by rw [ce]; exact j.jt)
    refine ⟨(jq.k92 BsE.rf s).1, Or.inr (Or.inl ⟨rfl, ?_⟩)⟩
    refine q_ref (kk := 1) BoA (0 :: BoF) 415100 J hv jq EqP.rf (d2 := 12) (by decide) (fun r1 r2 r3 r4 r5 => r_fit r1 r2.nv (r2.kj r3) ⟨r4.1, by omega⟩) (fun r3 r5 r h2 z => ?_) (by decide)
    obtain ⟨zk, zj, zs, z⟩ := z
    refine ⟨zk, ⟨zj.2.2, zs⟩, ?_⟩
    rcases z with ⟨y1, yt⟩ | ⟨y1, ⟨yt, gg, yb⟩ | ⟨r', S', r3', S3, yf, yr, yf2, yr2, y, yft, ⟨y6, yt⟩ | ⟨y6, yt, y2⟩⟩⟩
    all_goals
      first
        | (exfalso; omega)
        | exact (bo_no yb ⟨⟨_, _, cf, cr⟩, ⟨_, _, cf2, cr2⟩⟩).elim
        | exact (c2 ⟨⟨_, _, yf, yr⟩, ⟨_, _, yf2, yr2⟩⟩).elim
        | exact ⟨yt, fun z => absurd z (by decide)⟩
        | (obtain ⟨rfl, eS⟩ := fnR_det cf yf
           obtain ⟨rfl, eS2⟩ := fnR_det cf2 yf2
           have eS := eS cr
           have eS2 := eS2 cr2
           subst eS
           subst eS2
           have e9 := ftd_det cft yft
           first
             | (exfalso; omega)
             | exact ⟨yt, fun z => absurd z (by decide)⟩
             | exact ⟨yt, fun _ => put92.trans (by omega)⟩)
  · have jq : JQ h K N1 N3 1 300 v bv isS sv c pv w d cw cd X1 X3 h1 := j.jr cq
    refine ⟨(jq.k92 BsE.rf s).1, Or.inr (Or.inr (Or.inl ⟨rfl, ?_⟩))⟩
    refine q_ref (kk := 2) BoA (0 :: BoF) 415100 J hv jq EqP.rf (d2 := 12) (by decide) (fun r1 r2 r3 r4 r5 => r_fit r1 r2.nv (r2.kj r3) ⟨r4.1, by omega⟩) (fun r3 r5 r h2 z => ?_) (by decide)
    obtain ⟨zk, zj, zs, z⟩ := z
    refine ⟨zk, ⟨zj.2.2, zs⟩, ?_⟩
    rcases z with ⟨y1, yt⟩ | ⟨y1, ⟨yt, gg, yb⟩ | ⟨r', S', r3', S3, yf, yr, yf2, yr2, y, yft, ⟨y6, yt⟩ | ⟨y6, yt, y2⟩⟩⟩
    all_goals
      first
        | (exfalso; omega)
        | exact (bo_no yb ⟨⟨_, _, cf, cr⟩, ⟨_, _, cf2, cr2⟩⟩).elim
        | exact (c2 ⟨⟨_, _, yf, yr⟩, ⟨_, _, yf2, yr2⟩⟩).elim
        | exact ⟨yt, fun z => absurd z (by decide)⟩
        | (obtain ⟨rfl, eS⟩ := fnR_det cf yf
           obtain ⟨rfl, eS2⟩ := fnR_det cf2 yf2
           have eS := eS cr
           have eS2 := eS2 cr2
           subst eS
           subst eS2
           have e9 := ftd_det cft yft
           first
             | (exfalso; omega)
             | exact ⟨yt, fun z => absurd z (by decide)⟩
             | exact ⟨yt, fun _ => put92.trans (by omega)⟩)
  · have jq : JQ h K N1 N3 1 300 v bv isS sv c pv w d cw cd X1 X3 h1 := j.jr cq
    refine ⟨(jq.k92 BsE.rf s).1, Or.inr (Or.inr (Or.inr ⟨rfl, ?_⟩))⟩
    refine q_ref (kk := 3) BoA (0 :: BoF) 415100 J hv jq EqP.rf (d2 := 12) (by decide) (fun r1 r2 r3 r4 r5 => r_fit r1 r2.nv (r2.kj r3) ⟨r4.1, by omega⟩) (fun r3 r5 r h2 z => ?_) (by decide)
    obtain ⟨zk, zj, zs, z⟩ := z
    refine ⟨zk, ⟨zj.2.2, zs⟩, ?_⟩
    rcases z with ⟨y1, yt⟩ | ⟨y1, ⟨yt, gg, yb⟩ | ⟨r', S', r3', S3, yf, yr, yf2, yr2, y, yft, ⟨y6, yt⟩ | ⟨y6, yt, y2⟩⟩⟩
    all_goals
      first
        | (exfalso; omega)
        | exact (bo_no yb ⟨⟨_, _, cf, cr⟩, ⟨_, _, cf2, cr2⟩⟩).elim
        | exact (c2 ⟨⟨_, _, yf, yr⟩, ⟨_, _, yf2, yr2⟩⟩).elim
        | exact ⟨yt, fun z => absurd z (by decide)⟩
        | (obtain ⟨rfl, eS⟩ := fnR_det cf yf
           obtain ⟨rfl, eS2⟩ := fnR_det cf2 yf2
           have eS := eS cr
           have eS2 := eS2 cr2
           subst eS
           subst eS2
           have e9 := ftd_det cft yft
           first
             | (exfalso; omega)
             | exact ⟨yt, fun z => absurd z (by decide)⟩
             | exact ⟨yt, fun _ => put92.trans (by omega)⟩)
  · have jq : JQ h K N1 N3 1 300 v bv isS sv c pv w d cw cd X1 X3 h1 := j.jf cq
    refine ⟨(jq.k92 BsE.rf s).1, Or.inl ⟨_, rfl, ?_⟩⟩
    refine q_ref (kk := 0) BoA (0 :: BoF) 415100 J hv jq EqP.pu (d2 := 12) (by decide) (fun r1 r2 r3 r4 r5 => r_fit r1 r2.nv (r2.kj r3) ⟨r4.1, by omega⟩) (fun r3 r5 r h2 z => ?_) (by decide)
    obtain ⟨zk, zj, zs, z⟩ := z
    refine ⟨zk, ⟨zj.2.2, zs⟩, ?_⟩
    rcases z with ⟨y1, yt⟩ | ⟨y1, ⟨yt, gg, yb⟩ | ⟨r', S', r3', S3, yf, yr, yf2, yr2, y, yft, ⟨y6, yt⟩ | ⟨y6, yt, y2⟩⟩⟩
    all_goals
      first
        | (exfalso; omega)
        | exact (bo_no yb ⟨⟨_, _, cf, cr⟩, ⟨_, _, cf2, cr2⟩⟩).elim
        | exact (c2 ⟨⟨_, _, yf, yr⟩, ⟨_, _, yf2, yr2⟩⟩).elim
        | exact ⟨yt, fun z => absurd z (by decide)⟩
        | (obtain ⟨rfl, eS⟩ := fnR_det cf yf
           obtain ⟨rfl, eS2⟩ := fnR_det cf2 yf2
           have eS := eS cr
           have eS2 := eS2 cr2
           subst eS
           subst eS2
           have e9 := ftd_det cft yft
           first
             | (exfalso; omega)
             | exact ⟨yt, fun z => absurd z (by decide)⟩
             | exact ⟨yt, fun _ => put92.trans (by omega)⟩)
set_option maxHeartbeats 1000000 in
theorem j_fitting (J : JA k h a K v bv isS sv c pv w d cw cd X1 X3 b1 N1 b3 N3) (hk : k < 512) : LC (JW (k + 1)) mL_fitting [iv p] mX11_fitting [iv p] h := by
  obtain ⟨N, LL, kp, hv, hs⟩ := J.1.2.1.1
  have j := J.1
  have n := j.qn hs
  have o := hv.lko
  have s := J.2.1
  have n94 := s.2.2.2.2
  refine ⟨19, by decide, w_fitting (by decide) (g_fitting n o) s.1 (by omega) fun oo h1 q => ?_⟩
  rcases q with ⟨c1, rfl, ce⟩ | ⟨c1, r, S, cf, ⟨c3, rfl, cq⟩ | ⟨c3, x, rfl, cg, cq⟩⟩
  · have jq : JQ h K N1 N3 1 300 v bv isS sv c pv w d cw cd X1 X3 h1 := (by rw [ce]; exact j.jt)
    refine ⟨(jq.k92 BsE.rf s).1, Or.inr (Or.inl ⟨rfl, ?_⟩)⟩
    refine q_ref (kk := 1) BoA FgF 2700000 J hv jq EqP.rf (d2 := 12) (by decide) (fun r1 r2 r3 r4 r5 => r_fitting r1 r2.nv (r2.kj r3) ⟨r4.1, by omega⟩) (fun r3 r5 r h2 z => ?_) (by decide)
    obtain ⟨zk, zj, zs, z⟩ := z
    refine ⟨zk, ⟨zj.2.2, zs⟩, ?_⟩
    rcases z with ⟨y1, yt⟩ | ⟨y1, r', S', yf, ⟨y4, yt⟩ | ⟨y4, yt, yg⟩⟩
    all_goals
      first
        | (exfalso; omega)
        | exact ⟨yt, fun z => absurd z (by decide)⟩
        | (obtain ⟨rfl, eS⟩ := fnR_det cf yf
           first
             | (exfalso; omega)
             | exact ⟨yt, fun z => absurd z (by decide)⟩
             | (have eS := eS (by assumption)
                subst eS
                exact ⟨yt, fun _ => put92.trans (fg_det _ _ _ cg yg)⟩))
  · have jq : JQ h K N1 N3 1 300 v bv isS sv c pv w d cw cd X1 X3 h1 := j.jr cq
    refine ⟨(jq.k92 BsE.rf s).1, Or.inr (Or.inr ⟨rfl, ?_⟩)⟩
    refine q_ref (kk := 2) BoA FgF 2700000 J hv jq EqP.rf (d2 := 12) (by decide) (fun r1 r2 r3 r4 r5 => r_fitting r1 r2.nv (r2.kj r3) ⟨r4.1, by omega⟩) (fun r3 r5 r h2 z => ?_) (by decide)
    obtain ⟨zk, zj, zs, z⟩ := z
    refine ⟨zk, ⟨zj.2.2, zs⟩, ?_⟩
    rcases z with ⟨y1, yt⟩ | ⟨y1, r', S', yf, ⟨y4, yt⟩ | ⟨y4, yt, yg⟩⟩
    all_goals
      first
        | (exfalso; omega)
        | exact ⟨yt, fun z => absurd z (by decide)⟩
        | (obtain ⟨rfl, eS⟩ := fnR_det cf yf
           first
             | (exfalso; omega)
             | exact ⟨yt, fun z => absurd z (by decide)⟩
             | (have eS := eS (by assumption)
                subst eS
                exact ⟨yt, fun _ => put92.trans (fg_det _ _ _ cg yg)⟩))
  · have jq : JQ h K N1 N3 1 300 v bv isS sv c pv w d cw cd X1 X3 h1 := j.jf cq
    refine ⟨(jq.k92 BsE.rf s).1, Or.inl ⟨_, rfl, ?_⟩⟩
    refine q_ref (kk := 0) BoA FgF 2700000 J hv jq EqP.pu (d2 := 12) (by decide) (fun r1 r2 r3 r4 r5 => r_fitting r1 r2.nv (r2.kj r3) ⟨r4.1, by omega⟩) (fun r3 r5 r h2 z => ?_) (by decide)
    obtain ⟨zk, zj, zs, z⟩ := z
    refine ⟨zk, ⟨zj.2.2, zs⟩, ?_⟩
    rcases z with ⟨y1, yt⟩ | ⟨y1, r', S', yf, ⟨y4, yt⟩ | ⟨y4, yt, yg⟩⟩
    all_goals
      first
        | (exfalso; omega)
        | exact ⟨yt, fun z => absurd z (by decide)⟩
        | (obtain ⟨rfl, eS⟩ := fnR_det cf yf
           first
             | (exfalso; omega)
             | exact ⟨yt, fun z => absurd z (by decide)⟩
             | (have eS := eS (by assumption)
                subst eS
                exact ⟨yt, fun _ => put92.trans (fg_det _ _ _ cg yg)⟩))
set_option maxHeartbeats 1000000 in
theorem j_largest (J : JA k h a K v bv isS sv c pv w d cw cd X1 X3 b1 N1 b3 N3) (hk : k < 512) : LC (JW (k + 1)) mL_largest [] mX11_largest [] h := by
  obtain ⟨N, LL, kp, hv, hs⟩ := J.1.2.1.1
  have j := J.1
  have n := j.qn hs
  have o := hv.lko
  have s := J.2.1
  have n94 := s.2.2.2.2
  refine ⟨19, by decide, w_largest (by decide) (g_largest n o) s.1 (by omega) fun oo h1 q => ?_⟩
  rcases q with ⟨cb, cz, cg, ⟨c1, rfl, cq⟩ | ⟨c1, rfl, cq⟩⟩
  · have jq : JQ h K N1 N3 1 300 v bv isS sv c pv w d cw cd X1 X3 h1 := j.jr cq
    refine ⟨(jq.k92 BsE.rf s).1, Or.inr ⟨rfl, ?_⟩⟩
    refine q_ref (kk := 1) RfA (0 :: OfF) (206010 * 6) J hv jq EqP.rf (d2 := 11) (by decide) (fun r1 r2 r3 r4 r5 => r_largest r1 r2.nv (r2.kj r3) ⟨r4.1, by omega⟩) (fun r3 r5 r h2 z => ?_) (by decide)
    obtain ⟨zk, zj, zs, z⟩ := z
    refine ⟨zk, ⟨zj.2.2, zs⟩, ?_⟩
    rcases z with ⟨yb, yz, yg, ⟨y1, yt⟩ | ⟨y1, yt, y2⟩⟩
    all_goals
      obtain ⟨e1, e2⟩ := lgR_det _ _ _ _ _ cg yg
      first
        | (exfalso; omega)
        | exact ⟨yt, fun z => absurd z (by decide)⟩
        | exact ⟨yt, fun _ => put92.trans (by omega)⟩
  · have jq : JQ h K N1 N3 1 300 v bv isS sv c pv w d cw cd X1 X3 h1 := j.jf cq
    refine ⟨(jq.k92 BsE.rf s).1, Or.inl ⟨_, rfl, ?_⟩⟩
    refine q_ref (kk := 0) RfA (0 :: OfF) (206010 * 6) J hv jq EqP.pu (d2 := 11) (by decide) (fun r1 r2 r3 r4 r5 => r_largest r1 r2.nv (r2.kj r3) ⟨r4.1, by omega⟩) (fun r3 r5 r h2 z => ?_) (by decide)
    obtain ⟨zk, zj, zs, z⟩ := z
    refine ⟨zk, ⟨zj.2.2, zs⟩, ?_⟩
    rcases z with ⟨yb, yz, yg, ⟨y1, yt⟩ | ⟨y1, yt, y2⟩⟩
    all_goals
      obtain ⟨e1, e2⟩ := lgR_det _ _ _ _ _ cg yg
      first
        | (exfalso; omega)
        | exact ⟨yt, fun z => absurd z (by decide)⟩
        | exact ⟨yt, fun _ => put92.trans (by omega)⟩
set_option maxHeartbeats 1000000 in
theorem j_isKept (J : JA k h a K v bv isS sv c pv w d cw cd X1 X3 b1 N1 b3 N3) (hk : k < 512) : LCb (JW (k + 1)) mL_isKept [iv p] mX11_isKept [iv p] h := by
  obtain ⟨N, LL, kp, hv, hs⟩ := J.1.2.1.1
  have j := J.1
  have n := j.qn hs
  have o := hv.lko
  have s := J.2.1
  have n94 := s.2.2.2.2
  refine ⟨19, by decide, w_isKept (by decide) (g_isKept n.1.1) s.1 (by omega) fun oo h1 q => ?_⟩
  rcases q with ⟨c1, rfl, ce⟩ | ⟨c1, rfl, ce⟩
  · have jq : JQ h K N1 N3 1 300 v bv isS sv c pv w d cw cd X1 X3 h1 := (by rw [ce]; exact j.jt)
    refine ⟨(jq.k92 BsE.rf s).1, Or.inr ⟨rfl, ?_⟩⟩
    refine q_refb (kk := 1) [] [0] 0 J hv jq EqP.rf (d2 := 3) (by decide) (fun r1 r2 r3 r4 r5 => r_isKept r1) (fun r3 r5 r h2 z => ?_) (by decide)
    obtain ⟨zk, z⟩ := z
    refine ⟨zk, st_n zk r3 (by decide) (by decide), ?_⟩
    rcases z with ⟨y1, yt⟩ | ⟨y1, yt, y2⟩
    all_goals
      first
        | (exfalso; omega)
        | exact ⟨yt, fun z => absurd z (by decide)⟩
        | exact ⟨yt, fun _ => ⟨put92.trans (by rw [y2, r5.1 _ (by omega)]; exact kept_iff hv hs c1), by rw [y2]; split <;> omega⟩⟩
  · have jq : JQ h K N1 N3 1 300 v bv isS sv c pv w d cw cd X1 X3 h1 := (by rw [ce]; exact j.js)
    refine ⟨(jq.k92 BsE.rf s).1, Or.inl ⟨_, rfl, by split <;> omega, ?_⟩⟩
    refine q_refb (kk := 0) [] [0] 0 J hv jq EqP.pu (d2 := 3) (by decide) (fun r1 r2 r3 r4 r5 => r_isKept r1) (fun r3 r5 r h2 z => ?_) (by decide)
    obtain ⟨zk, z⟩ := z
    refine ⟨zk, st_n zk r3 (by decide) (by decide), ?_⟩
    rcases z with ⟨y1, yt⟩ | ⟨y1, yt, y2⟩
    all_goals
      first
        | (exfalso; omega)
        | exact ⟨yt, fun z => absurd z (by decide)⟩
        | exact ⟨yt, fun _ => ⟨put92.trans (by rw [y2, r5.1 _ (by omega)]; exact kept_iff hv hs c1), by rw [y2]; split <;> omega⟩⟩
end Ask
