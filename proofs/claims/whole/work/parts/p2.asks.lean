/-! the law's calls -/
section Ask
variable {k : Nat} {h b0 h1 g h2 : AH} {a K a1 K1 : Nat → Nat} {v bv sv : Nat → Int} {isS : Int} {c : Nat} {pv : Nat → Nat → Int} {w d cw cd : Int} {X1 X3 : List Int} {b1 N1 b3 N3 M1 M3 dc ds : Nat} {N : Nat} {LL : Nat → List Nd} {kp : Nat → Option TE} {kk : Int} {Mm : MD} {bs : List AV}
variable {p q9 w9 : Int}
set_option maxHeartbeats 1000000 in
theorem j_nodes (J : JA k h a K v bv isS sv c pv w d cw cd X1 X3 b1 N1 b3 N3) (hk : k < 512) : LC (JW (k + 1)) mL_nodes [iv p] mX11_nodes [iv p] h := by
  obtain ⟨N, LL, kp, hv, hs⟩ := J.1.2.1.1
  have j := J.1
  have n := j.qn hs
  have o := hv.lko
  have s := J.2.1
  have n94 := s.2.2.2.2
  refine ⟨19, by decide, w_nodes (by decide) (g_nodes n.sn) s.1 (by omega) fun oo h1 q => ?_⟩
  rcases q with ⟨c1, rfl, ce⟩ | ⟨c1, rfl, ce⟩
  · have jq : JQ h K N1 N3 1 300 v bv isS sv c pv w d cw cd X1 X3 h1 := (by rw [ce]; exact j.js)
    refine ⟨(jq.k92 BsE.rf s).1, Or.inl ⟨_, rfl, ?_⟩⟩
    refine q_ref (kk := 0) ANn FNn 0 J hv jq EqP.pu (d2 := 9) (by decide) (fun r1 r2 r3 r4 r5 => r_nodes r1 r2.nv) (fun r3 r5 r h2 z => ?_) (by decide)
    obtain ⟨zk, z⟩ := z
    refine ⟨zk, st_n zk r3 (by decide) (by decide), ?_⟩
    rcases z with ⟨y1, yt, y2⟩ | ⟨y1, yt⟩
    all_goals
      first
        | (exfalso; omega)
        | exact ⟨yt, fun z => absurd z (by decide)⟩
        | exact ⟨yt, fun _ => put92.trans (by first | rfl | exact y2.symm | omega)⟩
  · have jq : JQ h K N1 N3 1 300 v bv isS sv c pv w d cw cd X1 X3 h1 := (by rw [ce]; exact j.jt)
    refine ⟨(jq.k92 BsE.rf s).1, Or.inr ⟨rfl, ?_⟩⟩
    refine q_ref (kk := 1) ANn FNn 0 J hv jq EqP.rf (d2 := 9) (by decide) (fun r1 r2 r3 r4 r5 => r_nodes r1 r2.nv) (fun r3 r5 r h2 z => ?_) (by decide)
    obtain ⟨zk, z⟩ := z
    refine ⟨zk, st_n zk r3 (by decide) (by decide), ?_⟩
    rcases z with ⟨y1, yt, y2⟩ | ⟨y1, yt⟩
    all_goals
      first
        | (exfalso; omega)
        | exact ⟨yt, fun z => absurd z (by decide)⟩
        | exact ⟨yt, fun _ => put92.trans (by first | rfl | exact y2.symm | omega)⟩
set_option maxHeartbeats 1000000 in
theorem j_unbound (J : JA k h a K v bv isS sv c pv w d cw cd X1 X3 b1 N1 b3 N3) (hk : k < 512) : LC (JW (k + 1)) mL_unbound [iv p] mX11_unbound [iv p] h := by
  obtain ⟨N, LL, kp, hv, hs⟩ := J.1.2.1.1
  have j := J.1
  have n := j.qn hs
  have o := hv.lko
  have s := J.2.1
  have n94 := s.2.2.2.2
  refine ⟨19, by decide, w_unbound (by decide) (g_unbound n.sn) s.1 (by omega) fun oo h1 q => ?_⟩
  rcases q with ⟨c1, rfl, ce⟩ | ⟨c1, rfl, ce⟩
  · have jq : JQ h K N1 N3 1 300 v bv isS sv c pv w d cw cd X1 X3 h1 := (by rw [ce]; exact j.js)
    refine ⟨(jq.k92 BsE.rf s).1, Or.inl ⟨_, rfl, ?_⟩⟩
    refine q_ref (kk := 0) ANn FNn 0 J hv jq EqP.pu (d2 := 9) (by decide) (fun r1 r2 r3 r4 r5 => r_unbound r1 r2.nv) (fun r3 r5 r h2 z => ?_) (by decide)
    obtain ⟨zk, z⟩ := z
    refine ⟨zk, st_n zk r3 (by decide) (by decide), ?_⟩
    rcases z with ⟨y1, yt, y2⟩ | ⟨y1, yt⟩
    all_goals
      first
        | (exfalso; omega)
        | exact ⟨yt, fun z => absurd z (by decide)⟩
        | exact ⟨yt, fun _ => put92.trans (by first | rfl | exact y2.symm | omega)⟩
  · have jq : JQ h K N1 N3 1 300 v bv isS sv c pv w d cw cd X1 X3 h1 := (by rw [ce]; exact j.jt)
    refine ⟨(jq.k92 BsE.rf s).1, Or.inr ⟨rfl, ?_⟩⟩
    refine q_ref (kk := 1) ANn FNn 0 J hv jq EqP.rf (d2 := 9) (by decide) (fun r1 r2 r3 r4 r5 => r_unbound r1 r2.nv) (fun r3 r5 r h2 z => ?_) (by decide)
    obtain ⟨zk, z⟩ := z
    refine ⟨zk, st_n zk r3 (by decide) (by decide), ?_⟩
    rcases z with ⟨y1, yt, y2⟩ | ⟨y1, yt⟩
    all_goals
      first
        | (exfalso; omega)
        | exact ⟨yt, fun z => absurd z (by decide)⟩
        | exact ⟨yt, fun _ => put92.trans (by first | rfl | exact y2.symm | omega)⟩
set_option maxHeartbeats 1000000 in
theorem j_nodeOf (J : JA k h a K v bv isS sv c pv w d cw cd X1 X3 b1 N1 b3 N3) (hk : k < 512) : LC (JW (k + 1)) mL_nodeOf [iv p, iv q9, iv w9] mX11_nodeOf [iv p, iv q9, iv w9] h := by
  obtain ⟨N, LL, kp, hv, hs⟩ := J.1.2.1.1
  have j := J.1
  have n := j.qn hs
  have o := hv.lko
  have s := J.2.1
  have n94 := s.2.2.2.2
  refine ⟨19, by decide, w_nodeOf (by decide) (g_nodeOf n.sn) s.1 (by omega) fun oo h1 q => ?_⟩
  rcases q with ⟨c1, rfl, ce⟩ | ⟨c1, c2, rfl, ce⟩ | ⟨c1, c2, rfl, ce⟩
  · have jq : JQ h K N1 N3 1 300 v bv isS sv c pv w d cw cd X1 X3 h1 := (by rw [ce]; exact j.jt)
    refine ⟨(jq.k92 BsE.rf s).1, Or.inr (Or.inl ⟨rfl, ?_⟩)⟩
    refine q_ref (kk := 1) ANn FNn 0 J hv jq EqP.rf (d2 := 9) (by decide) (fun r1 r2 r3 r4 r5 => r_nodeOf r1 r2.nv) (fun r3 r5 r h2 z => ?_) (by decide)
    obtain ⟨zk, z⟩ := z
    refine ⟨zk, st_n zk r3 (by decide) (by decide), ?_⟩
    rcases z with ⟨y1, yt⟩ | ⟨y1, y3, yt⟩ | ⟨y1, y3, yt, y2⟩
    all_goals
      first
        | (exfalso; omega)
        | exact ⟨yt, fun z => absurd z (by decide)⟩
        | exact ⟨yt, fun _ => put92.trans (by first | rfl | exact y2.symm | omega)⟩
  · have jq : JQ h K N1 N3 1 300 v bv isS sv c pv w d cw cd X1 X3 h1 := (by rw [ce]; exact j.jt)
    refine ⟨(jq.k92 BsE.rf s).1, Or.inr (Or.inr ⟨rfl, ?_⟩)⟩
    refine q_ref (kk := 2) ANn FNn 0 J hv jq EqP.rf (d2 := 9) (by decide) (fun r1 r2 r3 r4 r5 => r_nodeOf r1 r2.nv) (fun r3 r5 r h2 z => ?_) (by decide)
    obtain ⟨zk, z⟩ := z
    refine ⟨zk, st_n zk r3 (by decide) (by decide), ?_⟩
    rcases z with ⟨y1, yt⟩ | ⟨y1, y3, yt⟩ | ⟨y1, y3, yt, y2⟩
    all_goals
      first
        | (exfalso; omega)
        | exact ⟨yt, fun z => absurd z (by decide)⟩
        | exact ⟨yt, fun _ => put92.trans (by first | rfl | exact y2.symm | omega)⟩
  · have jq : JQ h K N1 N3 1 300 v bv isS sv c pv w d cw cd X1 X3 h1 := (by rw [ce]; exact j.js)
    refine ⟨(jq.k92 BsE.rf s).1, Or.inl ⟨_, rfl, ?_⟩⟩
    refine q_ref (kk := 0) ANn FNn 0 J hv jq EqP.pu (d2 := 9) (by decide) (fun r1 r2 r3 r4 r5 => r_nodeOf r1 r2.nv) (fun r3 r5 r h2 z => ?_) (by decide)
    obtain ⟨zk, z⟩ := z
    refine ⟨zk, st_n zk r3 (by decide) (by decide), ?_⟩
    rcases z with ⟨y1, yt⟩ | ⟨y1, y3, yt⟩ | ⟨y1, y3, yt, y2⟩
    all_goals
      first
        | (exfalso; omega)
        | exact ⟨yt, fun z => absurd z (by decide)⟩
        | exact ⟨yt, fun _ => put92.trans (by first | rfl | exact y2.symm | omega)⟩
set_option maxHeartbeats 1000000 in
theorem j_signOf (J : JA k h a K v bv isS sv c pv w d cw cd X1 X3 b1 N1 b3 N3) (hk : k < 512) : LC (JW (k + 1)) mL_signOf [iv p, iv q9] mX11_signOf [iv p, iv q9] h := by
  obtain ⟨N, LL, kp, hv, hs⟩ := J.1.2.1.1
  have j := J.1
  have n := j.qn hs
  have o := hv.lko
  have s := J.2.1
  have n94 := s.2.2.2.2
  refine ⟨19, by decide, w_signOf (by decide) (g_signOf n.sn (fun l j hl hj => by have := (nv_nd hv hl hj).1; dsimp only at this; omega)) s.1 (by omega) fun oo h1 q => ?_⟩
  rcases q with ⟨c1, rfl, ce⟩ | ⟨c1, c2, rfl, ce⟩ | ⟨c1, c2, rfl, ce⟩
  · have jq : JQ h K N1 N3 1 300 v bv isS sv c pv w d cw cd X1 X3 h1 := (by rw [ce]; exact j.jt)
    refine ⟨(jq.k92 BsE.rf s).1, Or.inr (Or.inl ⟨rfl, ?_⟩)⟩
    refine q_ref (kk := 1) ANn FNn 0 J hv jq EqP.rf (d2 := 9) (by decide) (fun r1 r2 r3 r4 r5 => r_signOf r1 r2.nv) (fun r3 r5 r h2 z => ?_) (by decide)
    obtain ⟨zk, z⟩ := z
    refine ⟨zk, st_n zk r3 (by decide) (by decide), ?_⟩
    rcases z with ⟨y1, yt⟩ | ⟨y1, y3, yt⟩ | ⟨y1, y3, yt, y2⟩
    all_goals
      first
        | (exfalso; omega)
        | exact ⟨yt, fun z => absurd z (by decide)⟩
        | exact ⟨yt, fun _ => put92.trans (by first | rfl | exact y2.symm | omega)⟩
  · have jq : JQ h K N1 N3 1 300 v bv isS sv c pv w d cw cd X1 X3 h1 := (by rw [ce]; exact j.jt)
    refine ⟨(jq.k92 BsE.rf s).1, Or.inr (Or.inr ⟨rfl, ?_⟩)⟩
    refine q_ref (kk := 2) ANn FNn 0 J hv jq EqP.rf (d2 := 9) (by decide) (fun r1 r2 r3 r4 r5 => r_signOf r1 r2.nv) (fun r3 r5 r h2 z => ?_) (by decide)
    obtain ⟨zk, z⟩ := z
    refine ⟨zk, st_n zk r3 (by decide) (by decide), ?_⟩
    rcases z with ⟨y1, yt⟩ | ⟨y1, y3, yt⟩ | ⟨y1, y3, yt, y2⟩
    all_goals
      first
        | (exfalso; omega)
        | exact ⟨yt, fun z => absurd z (by decide)⟩
        | exact ⟨yt, fun _ => put92.trans (by first | rfl | exact y2.symm | omega)⟩
  · have jq : JQ h K N1 N3 1 300 v bv isS sv c pv w d cw cd X1 X3 h1 := (by rw [ce]; exact j.js)
    refine ⟨(jq.k92 BsE.rf s).1, Or.inl ⟨_, rfl, ?_⟩⟩
    refine q_ref (kk := 0) ANn FNn 0 J hv jq EqP.pu (d2 := 9) (by decide) (fun r1 r2 r3 r4 r5 => r_signOf r1 r2.nv) (fun r3 r5 r h2 z => ?_) (by decide)
    obtain ⟨zk, z⟩ := z
    refine ⟨zk, st_n zk r3 (by decide) (by decide), ?_⟩
    rcases z with ⟨y1, yt⟩ | ⟨y1, y3, yt⟩ | ⟨y1, y3, yt, y2⟩
    all_goals
      first
        | (exfalso; omega)
        | exact ⟨yt, fun z => absurd z (by decide)⟩
        | exact ⟨yt, fun _ => put92.trans (by first | rfl | exact y2.symm | omega)⟩
set_option maxHeartbeats 1000000 in
theorem j_binder (J : JA k h a K v bv isS sv c pv w d cw cd X1 X3 b1 N1 b3 N3) (hk : k < 512) : LC (JW (k + 1)) mL_binder [iv p, iv q9] mX11_binder [iv p, iv q9] h := by
  obtain ⟨N, LL, kp, hv, hs⟩ := J.1.2.1.1
  have j := J.1
  have n := j.qn hs
  have o := hv.lko
  have s := J.2.1
  have n94 := s.2.2.2.2
  refine ⟨19, by decide, w_binder (by decide) (g_binder n.sn) s.1 (by omega) fun oo h1 q => ?_⟩
  rcases q with ⟨c1, rfl, ce⟩ | ⟨c1, c2, rfl, ce⟩ | ⟨c1, c2, rfl, ce⟩
  · have jq : JQ h K N1 N3 1 300 v bv isS sv c pv w d cw cd X1 X3 h1 := (by rw [ce]; exact j.jt)
    refine ⟨(jq.k92 BsE.rf s).1, Or.inr (Or.inl ⟨rfl, ?_⟩)⟩
    refine q_ref (kk := 1) ANn FNn 0 J hv jq EqP.rf (d2 := 9) (by decide) (fun r1 r2 r3 r4 r5 => r_binder r1 r2.nv) (fun r3 r5 r h2 z => ?_) (by decide)
    obtain ⟨zk, z⟩ := z
    refine ⟨zk, st_n zk r3 (by decide) (by decide), ?_⟩
    rcases z with ⟨y1, yt⟩ | ⟨y1, y3, yt⟩ | ⟨y1, y3, yt, y2⟩
    all_goals
      first
        | (exfalso; omega)
        | exact ⟨yt, fun z => absurd z (by decide)⟩
        | exact ⟨yt, fun _ => put92.trans (by first | rfl | exact y2.symm | omega)⟩
  · have jq : JQ h K N1 N3 1 300 v bv isS sv c pv w d cw cd X1 X3 h1 := (by rw [ce]; exact j.jt)
    refine ⟨(jq.k92 BsE.rf s).1, Or.inr (Or.inr ⟨rfl, ?_⟩)⟩
    refine q_ref (kk := 2) ANn FNn 0 J hv jq EqP.rf (d2 := 9) (by decide) (fun r1 r2 r3 r4 r5 => r_binder r1 r2.nv) (fun r3 r5 r h2 z => ?_) (by decide)
    obtain ⟨zk, z⟩ := z
    refine ⟨zk, st_n zk r3 (by decide) (by decide), ?_⟩
    rcases z with ⟨y1, yt⟩ | ⟨y1, y3, yt⟩ | ⟨y1, y3, yt, y2⟩
    all_goals
      first
        | (exfalso; omega)
        | exact ⟨yt, fun z => absurd z (by decide)⟩
        | exact ⟨yt, fun _ => put92.trans (by first | rfl | exact y2.symm | omega)⟩
  · have jq : JQ h K N1 N3 1 300 v bv isS sv c pv w d cw cd X1 X3 h1 := (by rw [ce]; exact j.js)
    refine ⟨(jq.k92 BsE.rf s).1, Or.inl ⟨_, rfl, ?_⟩⟩
    refine q_ref (kk := 0) ANn FNn 0 J hv jq EqP.pu (d2 := 9) (by decide) (fun r1 r2 r3 r4 r5 => r_binder r1 r2.nv) (fun r3 r5 r h2 z => ?_) (by decide)
    obtain ⟨zk, z⟩ := z
    refine ⟨zk, st_n zk r3 (by decide) (by decide), ?_⟩
    rcases z with ⟨y1, yt⟩ | ⟨y1, y3, yt⟩ | ⟨y1, y3, yt, y2⟩
    all_goals
      first
        | (exfalso; omega)
        | exact ⟨yt, fun z => absurd z (by decide)⟩
        | exact ⟨yt, fun _ => put92.trans (by first | rfl | exact y2.symm | omega)⟩
set_option maxHeartbeats 1000000 in
theorem j_uses (J : JA k h a K v bv isS sv c pv w d cw cd X1 X3 b1 N1 b3 N3) (hk : k < 512) : LC (JW (k + 1)) mL_uses [iv p, iv q9] mX11_uses [iv p, iv q9] h := by
  obtain ⟨N, LL, kp, hv, hs⟩ := J.1.2.1.1
  have j := J.1
  have n := j.qn hs
  have o := hv.lko
  have s := J.2.1
  have n94 := s.2.2.2.2
  refine ⟨19, by decide, w_uses (by decide) (g_uses n.sn) s.1 (by omega) fun oo h1 q => ?_⟩
  rcases q with ⟨c1, rfl, ce⟩ | ⟨c1, c2, rfl, ce⟩ | ⟨c1, c2, rfl, ce⟩
  · have jq : JQ h K N1 N3 1 300 v bv isS sv c pv w d cw cd X1 X3 h1 := (by rw [ce]; exact j.jt)
    refine ⟨(jq.k92 BsE.rf s).1, Or.inr (Or.inl ⟨rfl, ?_⟩)⟩
    refine q_ref (kk := 1) ANn FNn 0 J hv jq EqP.rf (d2 := 9) (by decide) (fun r1 r2 r3 r4 r5 => r_uses r1 r2.nv) (fun r3 r5 r h2 z => ?_) (by decide)
    obtain ⟨zk, z⟩ := z
    refine ⟨zk, st_n zk r3 (by decide) (by decide), ?_⟩
    rcases z with ⟨y1, yt⟩ | ⟨y1, y3, yt⟩ | ⟨y1, y3, yt, y2⟩
    all_goals
      first
        | (exfalso; omega)
        | exact ⟨yt, fun z => absurd z (by decide)⟩
        | exact ⟨yt, fun _ => put92.trans (by first | rfl | exact y2.symm | omega)⟩
  · have jq : JQ h K N1 N3 1 300 v bv isS sv c pv w d cw cd X1 X3 h1 := (by rw [ce]; exact j.jt)
    refine ⟨(jq.k92 BsE.rf s).1, Or.inr (Or.inr ⟨rfl, ?_⟩)⟩
    refine q_ref (kk := 2) ANn FNn 0 J hv jq EqP.rf (d2 := 9) (by decide) (fun r1 r2 r3 r4 r5 => r_uses r1 r2.nv) (fun r3 r5 r h2 z => ?_) (by decide)
    obtain ⟨zk, z⟩ := z
    refine ⟨zk, st_n zk r3 (by decide) (by decide), ?_⟩
    rcases z with ⟨y1, yt⟩ | ⟨y1, y3, yt⟩ | ⟨y1, y3, yt, y2⟩
    all_goals
      first
        | (exfalso; omega)
        | exact ⟨yt, fun z => absurd z (by decide)⟩
        | exact ⟨yt, fun _ => put92.trans (by first | rfl | exact y2.symm | omega)⟩
  · have jq : JQ h K N1 N3 1 300 v bv isS sv c pv w d cw cd X1 X3 h1 := (by rw [ce]; exact j.js)
    refine ⟨(jq.k92 BsE.rf s).1, Or.inl ⟨_, rfl, ?_⟩⟩
    refine q_ref (kk := 0) ANn FNn 0 J hv jq EqP.pu (d2 := 9) (by decide) (fun r1 r2 r3 r4 r5 => r_uses r1 r2.nv) (fun r3 r5 r h2 z => ?_) (by decide)
    obtain ⟨zk, z⟩ := z
    refine ⟨zk, st_n zk r3 (by decide) (by decide), ?_⟩
    rcases z with ⟨y1, yt⟩ | ⟨y1, y3, yt⟩ | ⟨y1, y3, yt, y2⟩
    all_goals
      first
        | (exfalso; omega)
        | exact ⟨yt, fun z => absurd z (by decide)⟩
        | exact ⟨yt, fun _ => put92.trans (by first | rfl | exact y2.symm | omega)⟩
set_option maxHeartbeats 1000000 in
theorem j_ranked (J : JA k h a K v bv isS sv c pv w d cw cd X1 X3 b1 N1 b3 N3) (hk : k < 512) : LC (JW (k + 1)) mL_ranked [iv p] mX11_ranked [iv p] h := by
  obtain ⟨N, LL, kp, hv, hs⟩ := J.1.2.1.1
  have j := J.1
  have n := j.qn hs
  have o := hv.lko
  have s := J.2.1
  have n94 := s.2.2.2.2
  refine ⟨19, by decide, w_ranked (by decide) (g_ranked n.sn) s.1 (by omega) fun oo h1 q => ?_⟩
  rcases q with ⟨c1, rfl, ce⟩ | ⟨c1, rfl, ce⟩
  · have jq : JQ h K N1 N3 1 300 v bv isS sv c pv w d cw cd X1 X3 h1 := (by rw [ce]; exact j.jt)
    refine ⟨(jq.k92 BsE.rf s).1, Or.inr ⟨rfl, ?_⟩⟩
    refine q_ref (kk := 1) ANn FNn 0 J hv jq EqP.rf (d2 := 9) (by decide) (fun r1 r2 r3 r4 r5 => r_ranked r1 r2.nv) (fun r3 r5 r h2 z => ?_) (by decide)
    obtain ⟨zk, z⟩ := z
    refine ⟨zk, st_n zk r3 (by decide) (by decide), ?_⟩
    rcases z with ⟨y1, yt⟩ | ⟨y1, yt, y2⟩
    all_goals
      first
        | (exfalso; omega)
        | exact ⟨yt, fun z => absurd z (by decide)⟩
        | exact ⟨yt, fun _ => put92.trans (by first | rfl | exact y2.symm | omega)⟩
  · have jq : JQ h K N1 N3 1 300 v bv isS sv c pv w d cw cd X1 X3 h1 := (by rw [ce]; exact j.js)
    refine ⟨(jq.k92 BsE.rf s).1, Or.inl ⟨_, rfl, ?_⟩⟩
    refine q_ref (kk := 0) ANn FNn 0 J hv jq EqP.pu (d2 := 9) (by decide) (fun r1 r2 r3 r4 r5 => r_ranked r1 r2.nv) (fun r3 r5 r h2 z => ?_) (by decide)
    obtain ⟨zk, z⟩ := z
    refine ⟨zk, st_n zk r3 (by decide) (by decide), ?_⟩
    rcases z with ⟨y1, yt⟩ | ⟨y1, yt, y2⟩
    all_goals
      first
        | (exfalso; omega)
        | exact ⟨yt, fun z => absurd z (by decide)⟩
        | exact ⟨yt, fun _ => put92.trans (by first | rfl | exact y2.symm | omega)⟩
set_option maxHeartbeats 1000000 in
theorem j_isTyped (J : JA k h a K v bv isS sv c pv w d cw cd X1 X3 b1 N1 b3 N3) (hk : k < 512) : LCb (JW (k + 1)) mL_isTyped [iv p] mX11_isTyped [iv p] h := by
  obtain ⟨N, LL, kp, hv, hs⟩ := J.1.2.1.1
  have j := J.1
  have n := j.qn hs
  have o := hv.lko
  have s := J.2.1
  have n94 := s.2.2.2.2
  refine ⟨19, by decide, w_isTyped (by decide) (g_isTyped n o) s.1 (by omega) fun oo h1 q => ?_⟩
  rcases q with ⟨c1, rfl, ce⟩ | ⟨c1, r, S, a1, K1, cf, rfl, cq⟩
  · have jq : JQ h K N1 N3 1 300 v bv isS sv c pv w d cw cd X1 X3 h1 := (by rw [ce]; exact j.jt)
    refine ⟨(jq.k92 BsE.rf s).1, Or.inr ⟨rfl, ?_⟩⟩
    refine q_refb (kk := 1) RfA RfF 206010 J hv jq EqP.rf (d2 := 10) (by decide) (fun r1 r2 r3 r4 r5 => r_isTyped r1 r2.nv (r2.kj r3) ⟨r4.1, by omega⟩) (fun r3 r5 r h2 z => ?_) (by decide)
    obtain ⟨⟨zk, zj, zs⟩, z⟩ := z
    refine ⟨zk, ⟨zj.2.2, zs⟩, ?_⟩
    rcases z with ⟨y1, yt, -⟩ | ⟨y1, yt, r', S', yf, y2⟩
    all_goals
      first
        | (exfalso; omega)
        | exact ⟨yt, fun z => absurd z (by decide)⟩
        | exact ⟨yt, fun _ => ⟨put92.trans (by first | exact y2.symm | omega), by first | (rw [y2]; split <;> omega) | omega⟩⟩
        | (obtain ⟨rfl, eS⟩ := fnR_det cf yf
           first
             | (exfalso; omega)
             | exact ⟨yt, fun z => absurd z (by decide)⟩
             | exact ⟨yt, fun _ => ⟨put92.trans (by first | exact y2.symm | omega), by first | (rw [y2]; split <;> omega) | omega⟩⟩
             | (have eS := eS (by assumption)
                subst eS
                exact ⟨yt, fun _ => ⟨put92.trans (by first | exact y2.symm | omega), by first | (rw [y2]; split <;> omega) | omega⟩⟩))
  · have jq : JQ h K N1 N3 1 300 v bv isS sv c pv w d cw cd X1 X3 h1 := j.jf ⟨a1, K1, cq⟩
    refine ⟨(jq.k92 BsE.rf s).1, Or.inl ⟨_, rfl, by split <;> omega, ?_⟩⟩
    refine q_refb (kk := 0) RfA RfF 206010 J hv jq EqP.pu (d2 := 10) (by decide) (fun r1 r2 r3 r4 r5 => r_isTyped r1 r2.nv (r2.kj r3) ⟨r4.1, by omega⟩) (fun r3 r5 r h2 z => ?_) (by decide)
    obtain ⟨⟨zk, zj, zs⟩, z⟩ := z
    refine ⟨zk, ⟨zj.2.2, zs⟩, ?_⟩
    rcases z with ⟨y1, yt, -⟩ | ⟨y1, yt, r', S', yf, y2⟩
    all_goals
      first
        | (exfalso; omega)
        | exact ⟨yt, fun z => absurd z (by decide)⟩
        | exact ⟨yt, fun _ => ⟨put92.trans (by first | exact y2.symm | omega), by first | (rw [y2]; split <;> omega) | omega⟩⟩
        | (obtain ⟨rfl, eS⟩ := fnR_det cf yf
           first
             | (exfalso; omega)
             | exact ⟨yt, fun z => absurd z (by decide)⟩
             | exact ⟨yt, fun _ => ⟨put92.trans (by first | exact y2.symm | omega), by first | (rw [y2]; split <;> omega) | omega⟩⟩
             | (have eS := eS (by assumption)
                subst eS
                exact ⟨yt, fun _ => ⟨put92.trans (by first | exact y2.symm | omega), by first | (rw [y2]; split <;> omega) | omega⟩⟩))
set_option maxHeartbeats 1000000 in
theorem j_failure (J : JA k h a K v bv isS sv c pv w d cw cd X1 X3 b1 N1 b3 N3) (hk : k < 512) : LC (JW (k + 1)) mL_failure [iv p, iv q9] mX11_failure [iv p, iv q9] h := by
  obtain ⟨N, LL, kp, hv, hs⟩ := J.1.2.1.1
  have j := J.1
  have n := j.qn hs
  have o := hv.lko
  have s := J.2.1
  have n94 := s.2.2.2.2
  refine ⟨19, by decide, w_failure (by decide) (g_failure n o) s.1 (by omega) fun oo h1 q => ?_⟩
  rcases q with ⟨c1, rfl, ce⟩ | ⟨c1, c2, rfl, ce⟩ | ⟨c1, c2, r, S, cf, ⟨c3, rfl, cq⟩ | ⟨c3, rfl, cq⟩⟩
  · have jq : JQ h K N1 N3 1 300 v bv isS sv c pv w d cw cd X1 X3 h1 := (by rw [ce]; exact j.jt)
    refine ⟨(jq.k92 BsE.rf s).1, Or.inr (Or.inl ⟨rfl, ?_⟩)⟩
    refine q_ref (kk := 1) RfA RfF 206010 J hv jq EqP.rf (d2 := 10) (by decide) (fun r1 r2 r3 r4 r5 => r_failure r1 r2.nv (r2.kj r3) ⟨r4.1, by omega⟩) (fun r3 r5 r h2 z => ?_) (by decide)
    obtain ⟨⟨zk, zj, zs⟩, z⟩ := z
    refine ⟨zk, ⟨zj.2.2, zs⟩, ?_⟩
    rcases z with ⟨y1, yt⟩ | ⟨y1, y3, yt⟩ | ⟨y1, y3, r', S', yf, ⟨y4, yt⟩ | ⟨y4, yt, y2⟩⟩
    all_goals
      first
        | (exfalso; omega)
        | exact ⟨yt, fun z => absurd z (by decide)⟩
        | exact ⟨yt, fun _ => put92.trans (by first | rfl | exact y2.symm | omega)⟩
        | (obtain ⟨rfl, eS⟩ := fnR_det cf yf
           first
             | (exfalso; omega)
             | exact ⟨yt, fun z => absurd z (by decide)⟩
             | exact ⟨yt, fun _ => put92.trans (by first | rfl | exact y2.symm | omega)⟩
             | (have eS := eS (by assumption)
                subst eS
                exact ⟨yt, fun _ => put92.trans (by first | rfl | exact y2.symm | omega)⟩))
  · have jq : JQ h K N1 N3 1 300 v bv isS sv c pv w d cw cd X1 X3 h1 := (by rw [ce]; exact j.jt)
    refine ⟨(jq.k92 BsE.rf s).1, Or.inr (Or.inr (Or.inl ⟨rfl, ?_⟩))⟩
    refine q_ref (kk := 2) RfA RfF 206010 J hv jq EqP.rf (d2 := 10) (by decide) (fun r1 r2 r3 r4 r5 => r_failure r1 r2.nv (r2.kj r3) ⟨r4.1, by omega⟩) (fun r3 r5 r h2 z => ?_) (by decide)
    obtain ⟨⟨zk, zj, zs⟩, z⟩ := z
    refine ⟨zk, ⟨zj.2.2, zs⟩, ?_⟩
    rcases z with ⟨y1, yt⟩ | ⟨y1, y3, yt⟩ | ⟨y1, y3, r', S', yf, ⟨y4, yt⟩ | ⟨y4, yt, y2⟩⟩
    all_goals
      first
        | (exfalso; omega)
        | exact ⟨yt, fun z => absurd z (by decide)⟩
        | exact ⟨yt, fun _ => put92.trans (by first | rfl | exact y2.symm | omega)⟩
        | (obtain ⟨rfl, eS⟩ := fnR_det cf yf
           first
             | (exfalso; omega)
             | exact ⟨yt, fun z => absurd z (by decide)⟩
             | exact ⟨yt, fun _ => put92.trans (by first | rfl | exact y2.symm | omega)⟩
             | (have eS := eS (by assumption)
                subst eS
                exact ⟨yt, fun _ => put92.trans (by first | rfl | exact y2.symm | omega)⟩))
  · have jq : JQ h K N1 N3 1 300 v bv isS sv c pv w d cw cd X1 X3 h1 := j.jr cq
    refine ⟨(jq.k92 BsE.rf s).1, Or.inr (Or.inr (Or.inr ⟨rfl, ?_⟩))⟩
    refine q_ref (kk := 3) RfA RfF 206010 J hv jq EqP.rf (d2 := 10) (by decide) (fun r1 r2 r3 r4 r5 => r_failure r1 r2.nv (r2.kj r3) ⟨r4.1, by omega⟩) (fun r3 r5 r h2 z => ?_) (by decide)
    obtain ⟨⟨zk, zj, zs⟩, z⟩ := z
    refine ⟨zk, ⟨zj.2.2, zs⟩, ?_⟩
    rcases z with ⟨y1, yt⟩ | ⟨y1, y3, yt⟩ | ⟨y1, y3, r', S', yf, ⟨y4, yt⟩ | ⟨y4, yt, y2⟩⟩
    all_goals
      first
        | (exfalso; omega)
        | exact ⟨yt, fun z => absurd z (by decide)⟩
        | exact ⟨yt, fun _ => put92.trans (by first | rfl | exact y2.symm | omega)⟩
        | (obtain ⟨rfl, eS⟩ := fnR_det cf yf
           first
             | (exfalso; omega)
             | exact ⟨yt, fun z => absurd z (by decide)⟩
             | exact ⟨yt, fun _ => put92.trans (by first | rfl | exact y2.symm | omega)⟩
             | (have eS := eS (by assumption)
                subst eS
                exact ⟨yt, fun _ => put92.trans (by first | rfl | exact y2.symm | omega)⟩))
  · have jq : JQ h K N1 N3 1 300 v bv isS sv c pv w d cw cd X1 X3 h1 := j.jf cq
    refine ⟨(jq.k92 BsE.rf s).1, Or.inl ⟨_, rfl, ?_⟩⟩
    refine q_ref (kk := 0) RfA RfF 206010 J hv jq EqP.pu (d2 := 10) (by decide) (fun r1 r2 r3 r4 r5 => r_failure r1 r2.nv (r2.kj r3) ⟨r4.1, by omega⟩) (fun r3 r5 r h2 z => ?_) (by decide)
    obtain ⟨⟨zk, zj, zs⟩, z⟩ := z
    refine ⟨zk, ⟨zj.2.2, zs⟩, ?_⟩
    rcases z with ⟨y1, yt⟩ | ⟨y1, y3, yt⟩ | ⟨y1, y3, r', S', yf, ⟨y4, yt⟩ | ⟨y4, yt, y2⟩⟩
    all_goals
      first
        | (exfalso; omega)
        | exact ⟨yt, fun z => absurd z (by decide)⟩
        | exact ⟨yt, fun _ => put92.trans (by first | rfl | exact y2.symm | omega)⟩
        | (obtain ⟨rfl, eS⟩ := fnR_det cf yf
           first
             | (exfalso; omega)
             | exact ⟨yt, fun z => absurd z (by decide)⟩
             | exact ⟨yt, fun _ => put92.trans (by first | rfl | exact y2.symm | omega)⟩
             | (have eS := eS (by assumption)
                subst eS
                exact ⟨yt, fun _ => put92.trans (by first | rfl | exact y2.symm | omega)⟩))
set_option maxHeartbeats 1000000 in
theorem j_typeOf (J : JA k h a K v bv isS sv c pv w d cw cd X1 X3 b1 N1 b3 N3) (hk : k < 512) : LC (JW (k + 1)) mL_typeOf [iv p, iv q9] mX11_typeOf [iv p, iv q9] h := by
  obtain ⟨N, LL, kp, hv, hs⟩ := J.1.2.1.1
  have j := J.1
  have n := j.qn hs
  have o := hv.lko
  have s := J.2.1
  have n94 := s.2.2.2.2
  refine ⟨19, by decide, w_typeOf (by decide) (g_typeOf n o) s.1 (by omega) fun oo h1 q => ?_⟩
  rcases q with ⟨c1, rfl, ce⟩ | ⟨c1, c2, rfl, ce⟩ | ⟨c1, c2, r, S, cf, ⟨c3, rfl, cq⟩ | ⟨c3, rfl, cq⟩⟩
  · have jq : JQ h K N1 N3 1 300 v bv isS sv c pv w d cw cd X1 X3 h1 := (by rw [ce]; exact j.jt)
    refine ⟨(jq.k92 BsE.rf s).1, Or.inr (Or.inl ⟨rfl, ?_⟩)⟩
    refine q_ref (kk := 1) RfA RfF 206010 J hv jq EqP.rf (d2 := 10) (by decide) (fun r1 r2 r3 r4 r5 => r_typeOf r1 r2.nv (r2.kj r3) ⟨r4.1, by omega⟩) (fun r3 r5 r h2 z => ?_) (by decide)
    obtain ⟨⟨zk, zj, zs⟩, z⟩ := z
    refine ⟨zk, ⟨zj.2.2, zs⟩, ?_⟩
    rcases z with ⟨y1, yt⟩ | ⟨y1, y3, yt⟩ | ⟨y1, y3, r', S', yf, ⟨y4, yt⟩ | ⟨y4, yt, y2⟩⟩
    all_goals
      first
        | (exfalso; omega)
        | exact ⟨yt, fun z => absurd z (by decide)⟩
        | exact ⟨yt, fun _ => put92.trans (by first | rfl | exact y2.symm | omega)⟩
        | (obtain ⟨rfl, eS⟩ := fnR_det cf yf
           first
             | (exfalso; omega)
             | exact ⟨yt, fun z => absurd z (by decide)⟩
             | exact ⟨yt, fun _ => put92.trans (by first | rfl | exact y2.symm | omega)⟩
             | (have eS := eS (by assumption)
                subst eS
                exact ⟨yt, fun _ => put92.trans (by first | rfl | exact y2.symm | omega)⟩))
  · have jq : JQ h K N1 N3 1 300 v bv isS sv c pv w d cw cd X1 X3 h1 := (by rw [ce]; exact j.jt)
    refine ⟨(jq.k92 BsE.rf s).1, Or.inr (Or.inr (Or.inl ⟨rfl, ?_⟩))⟩
    refine q_ref (kk := 2) RfA RfF 206010 J hv jq EqP.rf (d2 := 10) (by decide) (fun r1 r2 r3 r4 r5 => r_typeOf r1 r2.nv (r2.kj r3) ⟨r4.1, by omega⟩) (fun r3 r5 r h2 z => ?_) (by decide)
    obtain ⟨⟨zk, zj, zs⟩, z⟩ := z
    refine ⟨zk, ⟨zj.2.2, zs⟩, ?_⟩
    rcases z with ⟨y1, yt⟩ | ⟨y1, y3, yt⟩ | ⟨y1, y3, r', S', yf, ⟨y4, yt⟩ | ⟨y4, yt, y2⟩⟩
    all_goals
      first
        | (exfalso; omega)
        | exact ⟨yt, fun z => absurd z (by decide)⟩
        | exact ⟨yt, fun _ => put92.trans (by first | rfl | exact y2.symm | omega)⟩
        | (obtain ⟨rfl, eS⟩ := fnR_det cf yf
           first
             | (exfalso; omega)
             | exact ⟨yt, fun z => absurd z (by decide)⟩
             | exact ⟨yt, fun _ => put92.trans (by first | rfl | exact y2.symm | omega)⟩
             | (have eS := eS (by assumption)
                subst eS
                exact ⟨yt, fun _ => put92.trans (by first | rfl | exact y2.symm | omega)⟩))
  · have jq : JQ h K N1 N3 1 300 v bv isS sv c pv w d cw cd X1 X3 h1 := j.jr cq
    refine ⟨(jq.k92 BsE.rf s).1, Or.inr (Or.inr (Or.inr ⟨rfl, ?_⟩))⟩
    refine q_ref (kk := 3) RfA RfF 206010 J hv jq EqP.rf (d2 := 10) (by decide) (fun r1 r2 r3 r4 r5 => r_typeOf r1 r2.nv (r2.kj r3) ⟨r4.1, by omega⟩) (fun r3 r5 r h2 z => ?_) (by decide)
    obtain ⟨⟨zk, zj, zs⟩, z⟩ := z
    refine ⟨zk, ⟨zj.2.2, zs⟩, ?_⟩
    rcases z with ⟨y1, yt⟩ | ⟨y1, y3, yt⟩ | ⟨y1, y3, r', S', yf, ⟨y4, yt⟩ | ⟨y4, yt, y2⟩⟩
    all_goals
      first
        | (exfalso; omega)
        | exact ⟨yt, fun z => absurd z (by decide)⟩
        | exact ⟨yt, fun _ => put92.trans (by first | rfl | exact y2.symm | omega)⟩
        | (obtain ⟨rfl, eS⟩ := fnR_det cf yf
           first
             | (exfalso; omega)
             | exact ⟨yt, fun z => absurd z (by decide)⟩
             | exact ⟨yt, fun _ => put92.trans (by first | rfl | exact y2.symm | omega)⟩
             | (have eS := eS (by assumption)
                subst eS
                exact ⟨yt, fun _ => put92.trans (by first | rfl | exact y2.symm | omega)⟩))
  · have jq : JQ h K N1 N3 1 300 v bv isS sv c pv w d cw cd X1 X3 h1 := j.jf cq
    refine ⟨(jq.k92 BsE.rf s).1, Or.inl ⟨_, rfl, ?_⟩⟩
    refine q_ref (kk := 0) RfA RfF 206010 J hv jq EqP.pu (d2 := 10) (by decide) (fun r1 r2 r3 r4 r5 => r_typeOf r1 r2.nv (r2.kj r3) ⟨r4.1, by omega⟩) (fun r3 r5 r h2 z => ?_) (by decide)
    obtain ⟨⟨zk, zj, zs⟩, z⟩ := z
    refine ⟨zk, ⟨zj.2.2, zs⟩, ?_⟩
    rcases z with ⟨y1, yt⟩ | ⟨y1, y3, yt⟩ | ⟨y1, y3, r', S', yf, ⟨y4, yt⟩ | ⟨y4, yt, y2⟩⟩
    all_goals
      first
        | (exfalso; omega)
        | exact ⟨yt, fun z => absurd z (by decide)⟩
        | exact ⟨yt, fun _ => put92.trans (by first | rfl | exact y2.symm | omega)⟩
        | (obtain ⟨rfl, eS⟩ := fnR_det cf yf
           first
             | (exfalso; omega)
             | exact ⟨yt, fun z => absurd z (by decide)⟩
             | exact ⟨yt, fun _ => put92.trans (by first | rfl | exact y2.symm | omega)⟩
             | (have eS := eS (by assumption)
                subst eS
                exact ⟨yt, fun _ => put92.trans (by first | rfl | exact y2.symm | omega)⟩))
set_option maxHeartbeats 1000000 in
theorem j_nodeType (J : JA k h a K v bv isS sv c pv w d cw cd X1 X3 b1 N1 b3 N3) (hk : k < 512) : LC (JW (k + 1)) mL_nodeType [iv p, iv q9, iv w9] mX11_nodeType [iv p, iv q9, iv w9] h := by
  obtain ⟨N, LL, kp, hv, hs⟩ := J.1.2.1.1
  have j := J.1
  have n := j.qn hs
  have o := hv.lko
  have s := J.2.1
  have n94 := s.2.2.2.2
  refine ⟨19, by decide, w_nodeType (by decide) (g_nodeType n o) s.1 (by omega) fun oo h1 q => ?_⟩
  rcases q with ⟨c1, rfl, ce⟩ | ⟨c1, c2, rfl, ce⟩ | ⟨c1, c2, r, S, cf, ⟨c3, rfl, cq⟩ | ⟨c3, rfl, cq⟩⟩
  · have jq : JQ h K N1 N3 1 300 v bv isS sv c pv w d cw cd X1 X3 h1 := (by rw [ce]; exact j.jt)
    refine ⟨(jq.k92 BsE.rf s).1, Or.inr (Or.inl ⟨rfl, ?_⟩)⟩
    refine q_ref (kk := 1) RfA RfF 206010 J hv jq EqP.rf (d2 := 10) (by decide) (fun r1 r2 r3 r4 r5 => r_nodeType r1 r2.nv (r2.kj r3) ⟨r4.1, by omega⟩) (fun r3 r5 r h2 z => ?_) (by decide)
    obtain ⟨⟨zk, zj, zs⟩, z⟩ := z
    refine ⟨zk, ⟨zj.2.2, zs⟩, ?_⟩
    rcases z with ⟨y1, yt⟩ | ⟨y1, y3, yt⟩ | ⟨y1, y3, r', S', yf, ⟨y4, yt⟩ | ⟨y4, yt, y2⟩⟩
    all_goals
      first
        | (exfalso; omega)
        | exact ⟨yt, fun z => absurd z (by decide)⟩
        | exact ⟨yt, fun _ => put92.trans (by first | rfl | exact y2.symm | omega)⟩
        | (obtain ⟨rfl, eS⟩ := fnR_det cf yf
           first
             | (exfalso; omega)
             | exact ⟨yt, fun z => absurd z (by decide)⟩
             | exact ⟨yt, fun _ => put92.trans (by first | rfl | exact y2.symm | omega)⟩
             | (have eS := eS (by assumption)
                subst eS
                exact ⟨yt, fun _ => put92.trans (by first | rfl | exact y2.symm | omega)⟩))
  · have jq : JQ h K N1 N3 1 300 v bv isS sv c pv w d cw cd X1 X3 h1 := (by rw [ce]; exact j.jt)
    refine ⟨(jq.k92 BsE.rf s).1, Or.inr (Or.inr (Or.inl ⟨rfl, ?_⟩))⟩
    refine q_ref (kk := 2) RfA RfF 206010 J hv jq EqP.rf (d2 := 10) (by decide) (fun r1 r2 r3 r4 r5 => r_nodeType r1 r2.nv (r2.kj r3) ⟨r4.1, by omega⟩) (fun r3 r5 r h2 z => ?_) (by decide)
    obtain ⟨⟨zk, zj, zs⟩, z⟩ := z
    refine ⟨zk, ⟨zj.2.2, zs⟩, ?_⟩
    rcases z with ⟨y1, yt⟩ | ⟨y1, y3, yt⟩ | ⟨y1, y3, r', S', yf, ⟨y4, yt⟩ | ⟨y4, yt, y2⟩⟩
    all_goals
      first
        | (exfalso; omega)
        | exact ⟨yt, fun z => absurd z (by decide)⟩
        | exact ⟨yt, fun _ => put92.trans (by first | rfl | exact y2.symm | omega)⟩
        | (obtain ⟨rfl, eS⟩ := fnR_det cf yf
           first
             | (exfalso; omega)
             | exact ⟨yt, fun z => absurd z (by decide)⟩
             | exact ⟨yt, fun _ => put92.trans (by first | rfl | exact y2.symm | omega)⟩
             | (have eS := eS (by assumption)
                subst eS
                exact ⟨yt, fun _ => put92.trans (by first | rfl | exact y2.symm | omega)⟩))
  · have jq : JQ h K N1 N3 1 300 v bv isS sv c pv w d cw cd X1 X3 h1 := j.jr cq
    refine ⟨(jq.k92 BsE.rf s).1, Or.inr (Or.inr (Or.inr ⟨rfl, ?_⟩))⟩
    refine q_ref (kk := 3) RfA RfF 206010 J hv jq EqP.rf (d2 := 10) (by decide) (fun r1 r2 r3 r4 r5 => r_nodeType r1 r2.nv (r2.kj r3) ⟨r4.1, by omega⟩) (fun r3 r5 r h2 z => ?_) (by decide)
    obtain ⟨⟨zk, zj, zs⟩, z⟩ := z
    refine ⟨zk, ⟨zj.2.2, zs⟩, ?_⟩
    rcases z with ⟨y1, yt⟩ | ⟨y1, y3, yt⟩ | ⟨y1, y3, r', S', yf, ⟨y4, yt⟩ | ⟨y4, yt, y2⟩⟩
    all_goals
      first
        | (exfalso; omega)
        | exact ⟨yt, fun z => absurd z (by decide)⟩
        | exact ⟨yt, fun _ => put92.trans (by first | rfl | exact y2.symm | omega)⟩
        | (obtain ⟨rfl, eS⟩ := fnR_det cf yf
           first
             | (exfalso; omega)
             | exact ⟨yt, fun z => absurd z (by decide)⟩
             | exact ⟨yt, fun _ => put92.trans (by first | rfl | exact y2.symm | omega)⟩
             | (have eS := eS (by assumption)
                subst eS
                exact ⟨yt, fun _ => put92.trans (by first | rfl | exact y2.symm | omega)⟩))
  · have jq : JQ h K N1 N3 1 300 v bv isS sv c pv w d cw cd X1 X3 h1 := j.jf cq
    refine ⟨(jq.k92 BsE.rf s).1, Or.inl ⟨_, rfl, ?_⟩⟩
    refine q_ref (kk := 0) RfA RfF 206010 J hv jq EqP.pu (d2 := 10) (by decide) (fun r1 r2 r3 r4 r5 => r_nodeType r1 r2.nv (r2.kj r3) ⟨r4.1, by omega⟩) (fun r3 r5 r h2 z => ?_) (by decide)
    obtain ⟨⟨zk, zj, zs⟩, z⟩ := z
    refine ⟨zk, ⟨zj.2.2, zs⟩, ?_⟩
    rcases z with ⟨y1, yt⟩ | ⟨y1, y3, yt⟩ | ⟨y1, y3, r', S', yf, ⟨y4, yt⟩ | ⟨y4, yt, y2⟩⟩
    all_goals
      first
        | (exfalso; omega)
        | exact ⟨yt, fun z => absurd z (by decide)⟩
        | exact ⟨yt, fun _ => put92.trans (by first | rfl | exact y2.symm | omega)⟩
        | (obtain ⟨rfl, eS⟩ := fnR_det cf yf
           first
             | (exfalso; omega)
             | exact ⟨yt, fun z => absurd z (by decide)⟩
             | exact ⟨yt, fun _ => put92.trans (by first | rfl | exact y2.symm | omega)⟩
             | (have eS := eS (by assumption)
                subst eS
                exact ⟨yt, fun _ => put92.trans (by first | rfl | exact y2.symm | omega)⟩))
end Ask
