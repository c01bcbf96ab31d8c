/-! the law's calls -/
section Ask
variable {k : Nat} {h b0 h1 g h2 : AH} {a K a1 K1 : Nat → Nat} {v bv sv : Nat → Int} {isS : Int} {c : Nat} {pv : Nat → Nat → Int} {w d cw cd : Int} {X1 X3 : List Int} {b1 N1 b3 N3 M1 M3 dc ds : Nat} {N : Nat} {LL : Nat → List Nd} {kp : Nat → Option TE} {kk : Int} {Mm : MD} {bs : List AV}
variable {p q9 w9 : Int}variable {v' bv' sv' : Nat → Int}

theorem kp_rv {A F : List Nat} (r : RV g v isS sv c pv w d cw cd X1 X3) (q : KP g h2 A F) (hA : A.all (fun x => decide (x ∉ [43, 45, 46, 88, 90])) = true) (hF : F.all (fun j => decide (j ∉ [2, 3, 4, 5, 6, 10, 71, 80])) = true) : RV h2 v isS sv c pv w d cw cd X1 X3 := by
  have nA : ∀ x, x ∈ [43, 45, 46, 88, 90] → x ∉ A := fun x hx z => of_decide_eq_true (List.all_eq_true.mp hA x z) hx
  have nF : ∀ x, x ∈ [2, 3, 4, 5, 6, 10, 71, 80] → x ∉ F := fun x hx z => of_decide_eq_true (List.all_eq_true.mp hF x z) hx
  exact r.eq (fun j hj => q.fl (nF j (by rcases hj with rfl | rfl | rfl | rfl | rfl | rfl | rfl | rfl <;> decide))) (fun x hx => q.vl (by omega) (nA x (by rcases hx with rfl | rfl | rfl | rfl | rfl <;> decide)))
theorem cX_app {X : List Int} {x : Int} : (∀ i, i < X.length → cX (X ++ [x]) i = cX X i) ∧ cX (X ++ [x]) X.length = x := by
  refine ⟨fun i hi => ?_, ?_⟩
  · show (X ++ [x]).getD i 0 = X.getD i 0
    rw [List.getD_eq_getElem?_getD, List.getD_eq_getElem?_getD, List.getElem?_append_left hi]
  · show (X ++ [x]).getD X.length 0 = x
    rw [List.getD_eq_getElem?_getD, List.getElem?_append_right (Nat.le_refl _), Nat.sub_self]
    rfl
set_option maxHeartbeats 1000000 in
theorem j_undo (J : JA k h a K v bv isS sv c pv w d cw cd X1 X3 b1 N1 b3 N3) (hk : k < 512) : LC (JW (k + 1)) mL_undo [] mX11_undo [] h := by
  obtain ⟨N, LL, kp, hv, hs⟩ := J.1.2.1.1
  have j := J.1
  have s := J.2.1
  have n94 := s.2.2.2.2
  have rv := J.2.2.2.1
  have cn := J.2.2.2.2.1
  have c8 := j.2.2.1.1
  refine ⟨19, by decide, w_undo (by decide) (g_undo j) s.1 (by omega) fun oo h1 q => ?_⟩
  rcases q with ⟨c1, rfl, ce⟩ | ⟨c1, rfl, cq⟩
  · have jq : JQ h K N1 N3 1 300 v bv isS sv c pv w d cw cd X1 X3 h1 := (by rw [ce]; exact j.jt)
    refine ⟨(jq.k92 BsE.rf s).1, Or.inr ⟨rfl, ?_⟩⟩
    refine q_ref (kk := 1) [] [0] 0 J hv jq EqP.rf (d2 := 3) (by decide) (fun r1 r2 r3 r4 r5 => r_undo r1 r5.2.2.1.1 c8) (fun r3 r5 r h2 z => ?_) (by decide)
    obtain ⟨zq, ⟨y1, yt, zk⟩ | ⟨y1, y2⟩⟩ := z
    · exact ⟨zk, st_n zk r3 (by decide) (by decide), yt, fun z => absurd z (by decide)⟩
    · omega
  · have jq := cq
    refine ⟨(jq.k92 BsE.rf s).1, Or.inl ⟨_, rfl, ?_⟩⟩
    refine c_ref (kk := 0) ([43]) ([0, 2]) J hv BsE.rf jq (by decide) (by decide) ⟨(cn.2.2.1 _ (by omega)).up, cn.up.2.1, fun i hi => (cn.2.2.1 i (by omega)).up, cn.2.2.2⟩ EqP.pu (d2 := 3) (by decide) (fun r1 r2 r3 r4 r5 => r_undo r1 r5.2.2.1.1 c8) (fun r3 r5 r9 r h2 z => ?_)
    obtain ⟨zk, ⟨y1, y2⟩ | ⟨y1, yt, y2, y3, y4⟩⟩ := z
    · omega
    · obtain ⟨u1, ⟨u2, u3⟩, ⟨u4, u5⟩, ⟨u6, u7⟩, ⟨u8, u9⟩, ⟨u10, u11⟩⟩ := r5
      have st := st_n zk r3 (by decide) (by decide)
      refine ⟨zk, ⟨fun i hi => (y4 i hi).trans (u5 (c - 1) i (by omega) hi), ⟨(zk.fl (by decide)).trans u2, fun z i hi => by rw [zk.vl (by decide) (by decide)]; exact u3 z i hi⟩, ⟨by rw [y3]; omega, fun a i ha hi => ?_⟩, ⟨(zk.fl (by decide)).trans u6, fun z => ⟨(zk.fl (by decide)).trans (u7 z).1, (zk.fl (by decide)).trans (u7 z).2.1, fun y => (zk.fl (by decide)).trans ((u7 z).2.2 y)⟩⟩, ⟨(zk.fl (by decide)).trans u8, fun i hi => by rw [zk.vl (by decide) (by decide)]; exact u9 i hi⟩, ⟨(zk.fl (by decide)).trans u10, fun i hi => by rw [zk.vl (by decide) (by decide)]; exact u11 i hi⟩⟩, ⟨st.1, st.2.1, by have := st.2.2; omega⟩, (zk.fl (by decide)).trans r9, yt, fun _ => put92.trans y2.symm⟩
      unfold PV
      rw [zk.vl (by decide) (by decide)]
      exact u5 a i (by omega) hi
set_option maxHeartbeats 1000000 in
theorem j_restore (J : JA k h a K v bv isS sv c pv w d cw cd X1 X3 b1 N1 b3 N3) (hk : k < 512) : LC (JW (k + 1)) mL_restore [] mX11_restore [] h := by
  obtain ⟨N, LL, kp, hv, hs⟩ := J.1.2.1.1
  have j := J.1
  have s := J.2.1
  have n94 := s.2.2.2.2
  have rv := J.2.2.2.1
  have cn := J.2.2.2.2.1
  have c8 := j.2.2.1.1
  refine ⟨19, by decide, w_restore (by decide) (g_restore j) s.1 (by omega) fun oo h1 q => ?_⟩
  rcases q with ⟨c1, rfl, ce⟩ | ⟨c1, rfl, cq⟩
  · have jq : JQ h K N1 N3 1 300 v bv isS sv c pv w d cw cd X1 X3 h1 := (by rw [ce]; exact j.jt)
    refine ⟨(jq.k92 BsE.rf s).1, Or.inr ⟨rfl, ?_⟩⟩
    refine q_ref (kk := 1) [] [0] 0 J hv jq EqP.rf (d2 := 3) (by decide) (fun r1 r2 r3 r4 r5 => r_restore r1 (by have := j.2.1.2.2.2.1; rw [r5.2.1.1]; exact this)) (fun r3 r5 r h2 z => ?_) (by decide)
    obtain ⟨zq, ⟨y1, yt, zk⟩ | ⟨y1, y2⟩⟩ := z
    · exact ⟨zk, st_n zk r3 (by decide) (by decide), yt, fun z => absurd z (by decide)⟩
    · have := r5.2.1.1; omega
  · have jq := cq
    refine ⟨(jq.k92 BsE.rf s).1, Or.inl ⟨_, rfl, ?_⟩⟩
    refine c_ref (kk := 0) ([43]) ([0, 2]) J hv BsE.rf jq (by decide) (by decide) ⟨(cn.2.1 c1).up, cn.up.2.1, fun i hi => absurd hi (Nat.not_lt_zero _), cn.2.2.2⟩ EqP.pu (d2 := 3) (by decide) (fun r1 r2 r3 r4 r5 => r_restore r1 (by have := j.2.1.2.2.2.1; rw [r5.2.1.1]; exact this)) (fun r3 r5 r9 r h2 z => ?_)
    obtain ⟨zk, ⟨y1, y2⟩ | ⟨y1, yt, y3, y2, y4⟩⟩ := z
    · have := r5.2.1.1; omega
    · obtain ⟨u1, ⟨u2, u3⟩, ⟨u4, u5⟩, ⟨u6, u7⟩, ⟨u8, u9⟩, ⟨u10, u11⟩⟩ := r5
      have st := st_n zk r3 (by decide) (by decide)
      exact ⟨zk, ⟨fun i hi => (y4 i hi).trans (u3 c1 i hi), ⟨(zk.fl (by decide)).trans u2, fun z i hi => by rw [zk.vl (by decide) (by decide)]; exact u3 z i hi⟩, ⟨y3, fun a i ha hi => absurd ha (Nat.not_lt_zero _)⟩, ⟨(zk.fl (by decide)).trans u6, fun z => ⟨(zk.fl (by decide)).trans (u7 z).1, (zk.fl (by decide)).trans (u7 z).2.1, fun y => (zk.fl (by decide)).trans ((u7 z).2.2 y)⟩⟩, ⟨(zk.fl (by decide)).trans u8, fun i hi => by rw [zk.vl (by decide) (by decide)]; exact u9 i hi⟩, ⟨(zk.fl (by decide)).trans u10, fun i hi => by rw [zk.vl (by decide) (by decide)]; exact u11 i hi⟩⟩, ⟨st.1, st.2.1, by have := st.2.2; omega⟩, (zk.fl (by decide)).trans r9, yt, fun _ => put92.trans (by rw [y2, y4 0 (by decide)]; exact (u3 c1 0 (by decide)).symm)⟩
set_option maxHeartbeats 1000000 in
theorem j_append (J : JA k h a K v bv isS sv c pv w d cw cd X1 X3 b1 N1 b3 N3) (hk : k < 512) : LC (JW (k + 1)) mL_append [iv (p % 65536)] mX11_append [iv (p % 65536)] h := by
  obtain ⟨N, LL, kp, hv, hs⟩ := J.1.2.1.1
  have j := J.1
  have s := J.2.1
  have n94 := s.2.2.2.2
  have rv := J.2.2.2.1
  have cn := J.2.2.2.2.1
  have c8 := j.2.2.1.1
  refine ⟨19, by decide, w_append (by decide) (g_append (p := p % 65536) j) s.1 (by omega) fun oo h1 q => ?_⟩
  rcases q with ⟨c1, rfl, ce⟩ | ⟨c1, c2, rfl, ce⟩ | ⟨c1, c2, rfl, cq⟩
  · have jq : JQ h K N1 N3 1 300 v bv isS sv c pv w d cw cd X1 X3 h1 := (by rw [ce]; exact j.jt)
    refine ⟨(jq.k92 BsE.rf s).1, Or.inr (Or.inl ⟨rfl, ?_⟩)⟩
    refine q_ref (kk := 1) [] [0] 0 J hv jq EqP.rf (d2 := 3) (by decide) (fun r1 r2 r3 r4 r5 => r_append r1 r5.2.2.2.2.1.1 j.2.2.2.2.1.2.2) (fun r3 r5 r h2 z => ?_) (by decide)
    obtain ⟨zq, ⟨y1, yt, zk⟩ | ⟨y1, y2, yt, zk⟩ | ⟨y1, y2⟩⟩ := z
    · exact ⟨zk, st_n zk r3 (by decide) (by decide), yt, fun z => absurd z (by decide)⟩
    · omega
    · omega
  · have jq : JQ h K N1 N3 1 300 v bv isS sv c pv w d cw cd X1 X3 h1 := (by rw [ce]; exact j.jt)
    refine ⟨(jq.k92 BsE.rf s).1, Or.inr (Or.inr ⟨rfl, ?_⟩)⟩
    refine q_ref (kk := 2) [] [0] 0 J hv jq EqP.rf (d2 := 3) (by decide) (fun r1 r2 r3 r4 r5 => r_append r1 r5.2.2.2.2.1.1 j.2.2.2.2.1.2.2) (fun r3 r5 r h2 z => ?_) (by decide)
    obtain ⟨zq, ⟨y1, yt, zk⟩ | ⟨y1, y2, yt, zk⟩ | ⟨y1, y2, y3⟩⟩ := z
    · omega
    · exact ⟨zk, st_n zk r3 (by decide) (by decide), yt, fun z => absurd z (by decide)⟩
    · omega
  · have jq := cq
    refine ⟨(jq.k92 BsE.rf s).1, Or.inl ⟨_, rfl, ?_⟩⟩
    refine c_ref (kk := 0) ([88]) ([0, 71]) J hv BsE.rf jq (by decide) (by decide) cn.up EqP.pu (d2 := 3) (by decide) (fun r1 r2 r3 r4 r5 => r_append r1 r5.2.2.2.2.1.1 j.2.2.2.2.1.2.2) (fun r3 r5 r9 r h2 z => ?_)
    obtain ⟨zk, ⟨y1, y2⟩ | ⟨y1, y2, y3⟩ | ⟨y1, y9, yt, y2, y3, y4, y5⟩⟩ := z
    · omega
    · omega
    · obtain ⟨u1, ⟨u2, u3⟩, ⟨u4, u5⟩, ⟨u6, u7⟩, ⟨u8, u9⟩, ⟨u10, u11⟩⟩ := r5
      have st := st_n zk r3 (by decide) (by decide)
      refine ⟨zk, ⟨fun i hi => by rw [zk.vl (by decide) (by decide)]; exact u1 i hi, ⟨(zk.fl (by decide)).trans u2, fun z i hi => by rw [zk.vl (by decide) (by decide)]; exact u3 z i hi⟩, ⟨(zk.fl (by decide)).trans u4, fun a i ha hi => ?_⟩, ⟨(zk.fl (by decide)).trans u6, fun z => ⟨(zk.fl (by decide)).trans (u7 z).1, (zk.fl (by decide)).trans (u7 z).2.1, fun y => (zk.fl (by decide)).trans ((u7 z).2.2 y)⟩⟩, ⟨?_, fun i hi => ?_⟩, ⟨(zk.fl (by decide)).trans u10, fun i hi => by rw [zk.vl (by decide) (by decide)]; exact u11 i hi⟩⟩, ⟨st.1, st.2.1, by have := st.2.2; omega⟩, (zk.fl (by decide)).trans r9, yt, fun _ => put92.trans y2.symm⟩
      · unfold PV
        rw [zk.vl (by decide) (by decide)]
        exact u5 a i ha hi
      · rw [y3, List.length_append]; rfl
      · rw [List.length_append] at hi
        have hi : i < X1.length + 1 := hi
        by_cases z : i < X1.length
        · rw [y5 i (by omega), u9 i z, cX_app.1 i z]
        · have : i = X1.length := by omega
          rw [this, y4, cX_app.2]
theorem j_save (J : JA k h a K v bv isS sv c pv w d cw cd X1 X3 b1 N1 b3 N3) (hk : k < 512) : LCx (JW (k + 1)) mX10_save mX11_save h := by
  obtain ⟨N, LL, kp, hv, hs⟩ := J.1.2.1.1
  have j := J.1
  have s := J.2.1
  have n94 := s.2.2.2.2
  have rv := J.2.2.2.1
  have cn := J.2.2.2.2.1
  have c8 := j.2.2.1.1
  refine ⟨8, by decide, cv_mono (g_save j hs) fun oo h1 q => ?_⟩
  obtain ⟨x, rfl, ex, cq⟩ := q
  obtain ⟨a1, K1, b2, M1, b4, M3, fj, j1⟩ := cq
  obtain ⟨p1, p2, p3, p4, p5, r5⟩ := j_pre J hv BsE.rf fj EqP.rf
  have lo := jq_lo BsE.rf fj EqP.rf 42 (by decide) (by decide)
  refine ⟨_, rfl, p2, 3, by decide, cv_mono (r_save p1) fun o h2 z => ?_⟩
  obtain ⟨r, rfl, zk, yt, y3, y2, y4⟩ := z
  obtain ⟨u1, ⟨u2, u3⟩, ⟨u4, u5⟩, ⟨u6, u7⟩, ⟨u8, u9⟩, ⟨u10, u11⟩⟩ := r5
  have st := st_n zk p4 (by decide) (by decide)
  have r9 : h1.vl 42 9 = h.vl 0 11 := by rw [lo]; exact J.2.2.2.2.2.2.2.symm
  have rv2 : RV h2 v 1 v c pv w d cw cd X1 X3 := ⟨fun i hi => by rw [zk.vl (by decide) (by decide)]; exact u1 i hi, ⟨y3, fun z i hi => (y4 i hi).trans (u1 i hi)⟩, ⟨(zk.fl (by decide)).trans u4, fun a i ha hi => by unfold PV; rw [zk.vl (by decide) (by decide)]; exact u5 a i ha hi⟩, ⟨(zk.fl (by decide)).trans u6, fun z => ⟨(zk.fl (by decide)).trans (u7 z).1, (zk.fl (by decide)).trans (u7 z).2.1, fun y => (zk.fl (by decide)).trans ((u7 z).2.2 y)⟩⟩, ⟨(zk.fl (by decide)).trans u8, fun i hi => by rw [zk.vl (by decide) (by decide)]; exact u9 i hi⟩, ⟨(zk.fl (by decide)).trans u10, fun i hi => by rw [zk.vl (by decide) (by decide)]; exact u11 i hi⟩⟩
  obtain ⟨s2, jw⟩ := jw_end J.2.2.2.2.2.2.1 s BsE.rf fj j1 (by decide) (by decide) EqP.rf zk (by decide) (zk.ri p1) rv2 ⟨cn.1.up, fun _ => cn.1.up, cn.up.2.2.1, cn.2.2.2⟩ ⟨st.1, by have := p5.1; have := st.2.1; omega, by have := p5.2; have := st.2.2; omega⟩ (by rw [fj.2.2.2.2.2, zk.fl (by decide), r9]) rfl
  exact ⟨r, rfl, by rw [ex, y2, u1 0 (by decide)]; exact hv.1.1.symm, zk.ri p1, s2, jw⟩
set_option maxHeartbeats 1000000 in
theorem j_lesson (J : JA k h a K v bv isS sv c pv w d cw cd X1 X3 b1 N1 b3 N3) (hk : k < 512) : LC (JW (k + 1)) mL_lesson [] mX11_lesson [] h := by
  obtain ⟨N, LL, kp, hv, hs⟩ := J.1.2.1.1
  have j := J.1
  have s := J.2.1
  have n94 := s.2.2.2.2
  have rv := J.2.2.2.1
  have cn := J.2.2.2.2.1
  have c8 := j.2.2.1.1
  refine ⟨19, by decide, w_lesson (by decide) (g_lesson j hv hs (by have := cn.1.1; omega)) s.1 (by omega) fun oo h1 q => ?_⟩
  rcases q with ⟨c1, rfl, cq⟩ | ⟨c1, c2, rfl, cq⟩ | ⟨c1, c2, rfl, cq⟩
  · have jq := cq
    refine ⟨(jq.k92 BsE.pu s).1, Or.inr (Or.inl ⟨rfl, ?_⟩)⟩
    refine c_ref (kk := 1) (AN2) (9 :: 71 :: FN2) J hv BsE.pu jq (by decide) (by decide) cn.up EqP.rf (d2 := 9) (by decide) (fun r1 r2 r3 r4 r5 => r_lessonS (n := X1.length) r1 r2.nv r5.2.2.1.1 c8 r5.2.2.2.2.1.1 j.2.2.2.2.1.2.2 (by rw [r5.1 1 (by decide)]; have := cn.1.1; constructor <;> omega) r3) (fun r3 r5 r9 r h2 z => ?_)
    obtain ⟨zs, z⟩ := z
    have er : rd (h1.vl 88) X1.length = rd (cX X1) X1.length := rdF_congr (fun i hi => r5.2.2.2.2.1.2 i hi) _ _ _ _
    rw [er] at z
    rcases z with ⟨y1, y2, zq, yt⟩ | ⟨y1, y2, zq⟩ | ⟨y1, y2, y3, zq⟩
    · have zk := in_kp zq
      have z2 : h2.vl 42 9 = (rd (cX X1) X1.length).1 := by rw [zq.fl (by decide)]; rfl
      exact ⟨zk.wk (by decide) (by decide), kp_rv (in_rv r5) zq (by decide) (by decide), ⟨zs.1, zs.2.1, by have := zs.2.2; omega⟩, z2, yt, fun z => absurd z (by decide)⟩
    · exact absurd y1 c1
    · exact absurd y1 c1
  · have jq := cq
    refine ⟨(jq.k92 BsE.pu s).1, Or.inr (Or.inr ⟨rfl, ?_⟩)⟩
    refine c_ref (kk := 2) (AN2) (9 :: 71 :: FN2) J hv BsE.pu jq (by decide) (by decide) cn.up EqP.rf (d2 := 9) (by decide) (fun r1 r2 r3 r4 r5 => r_lessonS (n := X1.length) r1 r2.nv r5.2.2.1.1 c8 r5.2.2.2.2.1.1 j.2.2.2.2.1.2.2 (by rw [r5.1 1 (by decide)]; have := cn.1.1; constructor <;> omega) r3) (fun r3 r5 r9 r h2 z => ?_)
    obtain ⟨zs, z⟩ := z
    have er : rd (h1.vl 88) X1.length = rd (cX X1) X1.length := rdF_congr (fun i hi => r5.2.2.2.2.1.2 i hi) _ _ _ _
    rw [er] at z
    rcases z with ⟨y1, y2, zq, yt⟩ | ⟨y1, y2, zq⟩ | ⟨y1, y2, y3, zq⟩
    · exact absurd c1 y1
    · have zk := in_kp zq.1
      have z2 : h2.vl 42 9 = -1 := by rw [zq.1.fl (by decide)]; rfl
      exact ⟨zk, rf_rv (in_rv r5) zq, ⟨zs.1, zs.2.1, by have := zs.2.2; omega⟩, z2, zq.2.1, fun z => absurd z (by decide)⟩
    · omega
  · have jq := cq
    refine ⟨(jq.k92 BsE.pu s).1, Or.inl ⟨_, rfl, ?_⟩⟩
    refine c_ref (kk := 0) (AN2) (9 :: 71 :: FN2) J hv BsE.pu jq (by decide) (by decide) (cn_push cn (c2_le cn.1)) EqP.pu (d2 := 9) (by decide) (fun r1 r2 r3 r4 r5 => r_lessonS (n := X1.length) r1 r2.nv r5.2.2.1.1 c8 r5.2.2.2.2.1.1 j.2.2.2.2.1.2.2 (by rw [r5.1 1 (by decide)]; have := cn.1.1; constructor <;> omega) r3) (fun r3 r5 r9 r h2 z => ?_)
    obtain ⟨zs, z⟩ := z
    have er : rd ((h1.put 92 0 (N : Int)).vl 88) X1.length = rd (cX X1) X1.length := rdF_congr (fun i hi => r5.2.2.2.2.1.2 i hi) _ _ _ _
    rw [er] at z
    rcases z with ⟨y1, y2, zq, yt⟩ | ⟨y1, y2, zq⟩ | ⟨y1, y2, y3, zq⟩
    · exact absurd c1 y1
    · omega
    · have zk := in_kp zq.1
      have z2 : h2.vl 42 9 = -1 := by rw [zq.1.fl (by decide)]; rfl
      have cr := cg_rv (v' := leV v (cX X1) X1.length N) c8 (in_rv (x := -1) r5) zq (le_cg r5.1 (fun i hi => r5.2.2.2.2.1.2 i hi))
      exact ⟨zk, cr, ⟨zs.1, zs.2.1, by have := zs.2.2; omega⟩, z2, zq.2.1, fun _ => put92.trans y3.symm⟩
set_option maxHeartbeats 1000000 in
theorem j_run (J : JA k h a K v bv isS sv c pv w d cw cd X1 X3 b1 N1 b3 N3) (hk : k < 512) : LC (JW (k + 1)) mL_run [] mX11_run [] h := by
  obtain ⟨N, LL, kp, hv, hs⟩ := J.1.2.1.1
  have j := J.1
  have s := J.2.1
  have n94 := s.2.2.2.2
  have rv := J.2.2.2.1
  have cn := J.2.2.2.2.1
  have c8 := j.2.2.1.1
  refine ⟨19, by decide, w_run (by decide) (g_run j (by have := cn.1.2; omega)) s.1 (by omega) fun oo h1 q => ?_⟩
  rcases q with ⟨c1, rfl, cq⟩ | ⟨c1, why, det, m, v1, cr, ⟨c2, rfl, cq⟩ | ⟨c2, rfl, cq⟩⟩
  · have jq := cq
    refine ⟨(jq.k92 BsE.pu s).1, Or.inr (Or.inl ⟨rfl, ?_⟩)⟩
    refine c_ref (kk := 1) (AN2) (9 :: 71 :: 6 :: FN2) J hv BsE.pu jq (by decide) (by decide) cn.up EqP.rf (d2 := 13) (by decide) (fun r1 r2 r3 r4 r5 => r_run (n := X1.length) r1 r2 r3 ⟨r4.1, by omega⟩ (by rw [r5.1 2 (by decide)]; have := cn.1.2; omega) r5.2.2.1.1 c8 r5.2.2.2.2.1.1 j.2.2.2.2.1.2.2) (fun r3 r5 r9 r h2 z => ?_)
    obtain ⟨zs, z⟩ := z
    have ec : ∀ i, i < X1.length → h1.vl 88 i = cX X1 i := fun i hi => r5.2.2.2.2.1.2 i hi
    rw [aos_cg ec] at z
    rcases z with ⟨y1, zq, yt⟩ | ⟨y1, why2, det2, m2, v2, yr, ⟨y2, y3, zq⟩ | ⟨y2, zq⟩⟩
    · have zk := in_kp zq
      have z2 : h2.vl 42 9 = ((aos (cX X1) X1.length).2.1 : Int) := by rw [zq.fl (by decide)]; rfl
      exact ⟨zk.wk (by decide) (by decide), kp_rv (in_rv r5) zq (by decide) (by decide), ⟨zs.1, zs.2.1, by have := zs.2.2; omega⟩, z2, yt, fun z => absurd z (by decide)⟩
    · rw [c1] at y1; exact Bool.noConfusion y1
    · rw [c1] at y1; exact Bool.noConfusion y1
  · have jq := cq
    refine ⟨(jq.k92 BsE.pu s).1, Or.inl ⟨_, rfl, ?_⟩⟩
    refine c_ref (kk := 0) (AN2) (9 :: 71 :: 6 :: FN2) J hv BsE.pu jq (by decide) (by decide) (cn_push cn (c2_run cn.1 j.2.2.2.2.1.2.2 cr)) EqP.pu (d2 := 13) (by decide) (fun r1 r2 r3 r4 r5 => r_run (n := X1.length) r1 r2 r3 ⟨r4.1, by omega⟩ (by rw [r5.1 2 (by decide)]; have := cn.1.2; omega) r5.2.2.1.1 c8 r5.2.2.2.2.1.1 j.2.2.2.2.1.2.2) (fun r3 r5 r9 r h2 z => ?_)
    obtain ⟨zs, z⟩ := z
    have ec : ∀ i, i < X1.length → (h1.put 92 0 ((m : Int) + 1)).vl 88 i = cX X1 i := fun i hi => r5.2.2.2.2.1.2 i hi
    rw [aos_cg ec] at z
    rcases z with ⟨y1, zq, yt⟩ | ⟨y1, why2, det2, m2, v2, yr, ⟨y2, y3, zq⟩ | ⟨y2, zq⟩⟩
    · rw [c1] at y1; exact Bool.noConfusion y1
    · skip
      obtain ⟨v3, e1, e2⟩ := run_cg ec _ _ _ _ _ _ _ _ _ r5.1 cr
      obtain ⟨e3, e4, e5, e6⟩ := run_det _ _ _ _ _ _ _ _ _ _ _ _ e1 yr
      subst e3 e5 e6
      have zk := in_kp zq.1
      have z2 : h2.vl 42 9 = -1 := by rw [zq.1.fl (by decide)]; rfl
      exact ⟨zk.wk (by decide) (by decide), cg_rv c8 (in_rv (x := -1) r5) zq e2, ⟨zs.1, zs.2.1, by have := zs.2.2; omega⟩, z2, zq.2.1, fun _ => put92.trans y3.symm⟩
    · skip
      obtain ⟨v3, e1, e2⟩ := run_cg ec _ _ _ _ _ _ _ _ _ r5.1 cr
      obtain ⟨e3, e4, e5, e6⟩ := run_det _ _ _ _ _ _ _ _ _ _ _ _ e1 yr
      subst e3 e5 e6
      exact absurd c2 y2
  · have jq := cq
    refine ⟨(jq.k92 BsE.pu s).1, Or.inr (Or.inr ⟨rfl, ?_⟩)⟩
    refine c_ref (kk := 2) (AN2) (9 :: 71 :: 6 :: FN2) J hv BsE.pu jq (by decide) (by decide) cn.up EqP.rf (d2 := 13) (by decide) (fun r1 r2 r3 r4 r5 => r_run (n := X1.length) r1 r2 r3 ⟨r4.1, by omega⟩ (by rw [r5.1 2 (by decide)]; have := cn.1.2; omega) r5.2.2.1.1 c8 r5.2.2.2.2.1.1 j.2.2.2.2.1.2.2) (fun r3 r5 r9 r h2 z => ?_)
    obtain ⟨zs, z⟩ := z
    have ec : ∀ i, i < X1.length → h1.vl 88 i = cX X1 i := fun i hi => r5.2.2.2.2.1.2 i hi
    rw [aos_cg ec] at z
    rcases z with ⟨y1, zq, yt⟩ | ⟨y1, why2, det2, m2, v2, yr, ⟨y2, y3, zq⟩ | ⟨y2, zq⟩⟩
    · rw [c1] at y1; exact Bool.noConfusion y1
    · skip
      obtain ⟨v3, e1, e2⟩ := run_cg ec _ _ _ _ _ _ _ _ _ r5.1 cr
      obtain ⟨e3, e4, e5, e6⟩ := run_det _ _ _ _ _ _ _ _ _ _ _ _ e1 yr
      subst e3 e5 e6
      exact absurd y2 c2
    · skip
      obtain ⟨v3, e1, e2⟩ := run_cg ec _ _ _ _ _ _ _ _ _ r5.1 cr
      obtain ⟨e3, e4, e5, e6⟩ := run_det _ _ _ _ _ _ _ _ _ _ _ _ e1 yr
      subst e3 e5 e6
      have zk := in_kp zq.1
      have z2 : h2.vl 42 9 = -1 := by rw [zq.1.fl (by decide)]; rfl
      have ed := e4 c2
      subst ed
      exact ⟨zk, rn_rv (in_rv (x := -1) r5) zq, ⟨zs.1, zs.2.1, by have := zs.2.2; omega⟩, z2, zq.2.1, fun z => absurd z (by decide)⟩
end Ask
