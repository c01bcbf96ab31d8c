/-! the law's calls -/
section Ask
variable {k : Nat} {h b0 h1 g h2 : AH} {a K a1 K1 : Nat → Nat} {v bv sv : Nat → Int} {isS : Int} {c : Nat} {pv : Nat → Nat → Int} {w d cw cd : Int} {X1 X3 : List Int} {b1 N1 b3 N3 M1 M3 dc ds : Nat} {N : Nat} {LL : Nat → List Nd} {kp : Nat → Option TE} {kk : Int} {Mm : MD} {bs : List AV}
variable {p q9 w9 : Int}variable {v' bv' sv' : Nat → Int}

theorem JC.jl {Z : List Int} (j : JC h a K v bv isS sv c pv w d cw cd X1 X3 b1 N1 b3 N3) (q : TlQ h a K b3 N3 X3 Z h1) : JQ h K N1 N3 1 300 v bv isS sv c pv w d cw cd X1 Z h1 := by
  obtain ⟨h2, a1, K1, b2, M2, q, -, s, t⟩ := q
  have j2 := j.qf q
  exact (((q.fj (N1 := N1) (N3 := N3) j.1.2.2 j.1.1 (fun _ z => z)).jq (j2.t3 s t)).wk (by decide) (by decide))
theorem ln_rv {A F : List Nat} {Z : List Int} (r : RV g v isS sv c pv w d cw cd X1 X3) (q : KP g h2 A F) (hA : A.all (fun x => decide (x ∉ [43, 45, 46, 88])) = true) (hF : F.all (fun j => decide (j ∉ [2, 3, 4, 5, 6, 10, 71])) = true) (t : TxQ h2 Z) : RV h2 v isS sv c pv w d cw cd X1 Z := by
  have nA : ∀ x, x ∈ [43, 45, 46, 88] → x ∉ A := fun x hx z => of_decide_eq_true (List.all_eq_true.mp hA x z) hx
  have nF : ∀ x, x ∈ [2, 3, 4, 5, 6, 10, 71] → x ∉ F := fun x hx z => of_decide_eq_true (List.all_eq_true.mp hF x z) hx
  obtain ⟨u1, ⟨u2, u3⟩, ⟨u4, u5⟩, ⟨u6, u7⟩, ⟨u8, u9⟩, -⟩ := r
  refine ⟨fun i hi => by rw [q.vl (by decide) (nA 43 (by decide))]; exact u1 i hi, ⟨(q.fl (nF 10 (by decide))).trans u2, fun z i hi => by rw [q.vl (by decide) (nA 45 (by decide))]; exact u3 z i hi⟩, ⟨(q.fl (nF 2 (by decide))).trans u4, fun a i ha hi => by unfold PV; rw [q.vl (by decide) (nA 46 (by decide))]; exact u5 a i ha hi⟩, ⟨(q.fl (nF 3 (by decide))).trans u6, fun z => ⟨(q.fl (nF 4 (by decide))).trans (u7 z).1, (q.fl (nF 5 (by decide))).trans (u7 z).2.1, fun y => (q.fl (nF 6 (by decide))).trans ((u7 z).2.2 y)⟩⟩, ⟨(q.fl (nF 71 (by decide))).trans u8, fun i hi => by rw [q.vl (by decide) (nA 88 (by decide))]; exact u9 i hi⟩, ⟨t.1, fun i hi => ?_⟩⟩
  rw [t.2 i hi]
  show Z[i] = Z.getD i 0
  rw [List.getD_eq_getElem?_getD, List.getElem?_eq_getElem hi]
  rfl
theorem kp24 {R : TE} (hv : VS v N LL kp) (hp : 0 ≤ p ∧ p < 8) (h : kp p.toNat = some R) : sz R ≤ 24 := by
  rcases hv.2.1 p.toNat (by omega) with ⟨y, -⟩ | ⟨R', y, -, y3, -⟩
  · rw [h] at y; exact nomatch y
  · rw [h] at y
    rw [Option.some.inj y]
    exact y3
theorem tm900 {l : Nat} (o : LkO N LL kp) (hl : l < N) : (tmX (LL l) 130 0).length ≤ 900 := by
  obtain ⟨⟨T0, o1, o2⟩, o3, o4, o5, o6⟩ := o.1 l hl
  have := tm_len (LL l) T0 130 [] (LL l) [] o2 (by simp) o1
  have this : (tmX (LL l) 130 0).length ≤ 6 * (LL l).length := this
  omega
theorem cn_ln {Z : List Int} (h : CnB k v isS sv c pv X3) (hZ : Z.length ≤ 900) : CnB (k + 1) v isS sv c pv Z := ⟨h.1.up, fun z => (h.2.1 z).up, fun i hi => (h.2.2.1 i hi).up, hZ⟩
set_option maxHeartbeats 1000000 in
theorem j_tell (J : JA k h a K v bv isS sv c pv w d cw cd X1 X3 b1 N1 b3 N3) (hk : k < 512) : LC (JW (k + 1)) mL_tell [iv p] mX11_tell [iv p] h := by
  obtain ⟨N, LL, kp, hv, hs⟩ := J.1.2.1.1
  have j := J.1
  have n := j.qn hs
  have o := hv.lko
  obtain ⟨t3, b3c⟩ := j.2.2.2.2.2.1
  have s := J.2.1
  have n94 := s.2.2.2.2
  have rv := J.2.2.2.1
  have cn := J.2.2.2.2.1
  have c8 := j.2.2.1.1
  refine ⟨19, by decide, w_tell (by decide) (g_tell n o t3 b3c) s.1 (by omega) fun oo h1 q => ?_⟩
  rcases q with ⟨c1, rfl, ce⟩ | ⟨c1, r, S, cf, ⟨c3, rfl, cq⟩ | ⟨c3, rfl, cq⟩⟩
  · have jq : JQ h K N1 N3 1 300 v bv isS sv c pv w d cw cd X1 X3 h1 := (by rw [ce]; exact j.jt)
    refine ⟨(jq.k92 BsE.rf s).1, Or.inr (Or.inl ⟨rfl, ?_⟩)⟩
    refine q_ref (kk := 1) RfA RfF 206010 J hv jq EqP.rf (d2 := 10) (by decide) (fun r1 r2 r3 r4 r5 => r_tell r1 r2.nv (r2.kj r3) ⟨r4.1, by omega⟩) (fun r3 r5 r h2 z => ?_) (by decide)
    rcases z with ⟨⟨zk, zj, zs⟩, ⟨y1, yt⟩ | ⟨y1, yt, r', S', yf, y4⟩⟩ | ⟨⟨zk, zj, zs⟩, y1, yt, r', S', yf, y4, y2, y5⟩
    · exact ⟨zk, ⟨zj.2.2, zs⟩, yt, fun z => absurd z (by decide)⟩
    · exact absurd y1 c1
    · exact absurd y1 c1
  · have jq : JQ h K N1 N3 1 300 v bv isS sv c pv w d cw cd X1 X3 h1 := j.jr cq
    refine ⟨(jq.k92 BsE.rf s).1, Or.inr (Or.inr ⟨rfl, ?_⟩)⟩
    refine q_ref (kk := 2) RfA RfF 206010 J hv jq EqP.rf (d2 := 10) (by decide) (fun r1 r2 r3 r4 r5 => r_tell r1 r2.nv (r2.kj r3) ⟨r4.1, by omega⟩) (fun r3 r5 r h2 z => ?_) (by decide)
    rcases z with ⟨⟨zk, zj, zs⟩, ⟨y1, yt⟩ | ⟨y1, yt, r', S', yf, y4⟩⟩ | ⟨⟨zk, zj, zs⟩, y1, yt, r', S', yf, y4, y2, y5⟩
    · exact absurd c1 y1
    · exact ⟨zk, ⟨zj.2.2, zs⟩, yt, fun z => absurd z (by decide)⟩
    · obtain ⟨rfl, -⟩ := fnR_det cf yf
      exact absurd y4 c3
  · have jq := j.jl cq
    refine ⟨(jq.k92 BsE.rf s).1, Or.inl ⟨_, rfl, ?_⟩⟩
    refine c_ref (kk := 0) (90 :: 91 :: RfA) (80 :: 81 :: RfF) J hv BsE.rf jq (by decide) (by decide) (cn_ln cn (by have := tx_len (cnR (S.2.1 0) []) (-1); rw [cnR_sz] at this; have := fnR_sz cf c3 0 (List.length_pos_iff.mpr (o.ne p.toNat (by omega))); omega)) EqP.pu (d2 := 10) (by decide) (fun r1 r2 r3 r4 r5 => r_tell r1 r2.nv (r2.kj r3) ⟨r4.1, by omega⟩) (fun r3 r5 r9 r h2 z => ?_)
    rcases z with ⟨⟨zk, zj, zs⟩, ⟨y1, yt⟩ | ⟨y1, yt, r', S', yf, y4⟩⟩ | ⟨⟨zk, zj, zs⟩, y1, yt, r', S', yf, y4, y2, y5⟩
    · exact absurd c1 y1
    · obtain ⟨rfl, -⟩ := fnR_det cf yf
      exact absurd c3 y4
    · obtain ⟨rfl, eS⟩ := fnR_det cf yf
      have eS := eS c3
      subst eS
      exact ⟨zk, ln_rv r5 zk (by decide) (by decide) y5, ⟨zj.2.2, zs.1, by have := zs.2; omega⟩, (zk.fl (by decide)).trans r9, yt, fun _ => put92.trans y2.symm⟩
set_option maxHeartbeats 1000000 in
theorem j_tellNode (J : JA k h a K v bv isS sv c pv w d cw cd X1 X3 b1 N1 b3 N3) (hk : k < 512) : LC (JW (k + 1)) mL_tellNode [iv p, iv q9] mX11_tellNode [iv p, iv q9] h := by
  obtain ⟨N, LL, kp, hv, hs⟩ := J.1.2.1.1
  have j := J.1
  have n := j.qn hs
  have o := hv.lko
  obtain ⟨t3, b3c⟩ := j.2.2.2.2.2.1
  have s := J.2.1
  have n94 := s.2.2.2.2
  have rv := J.2.2.2.1
  have cn := J.2.2.2.2.1
  have c8 := j.2.2.1.1
  refine ⟨19, by decide, w_tellNode (by decide) (g_tellNode n o t3 b3c) s.1 (by omega) fun oo h1 q => ?_⟩
  rcases q with ⟨c1, rfl, ce⟩ | ⟨c1, r, S, cf, ⟨c3, rfl, cq⟩ | ⟨c3, rfl, cq⟩⟩
  · have jq : JQ h K N1 N3 1 300 v bv isS sv c pv w d cw cd X1 X3 h1 := (by rw [ce]; exact j.jt)
    refine ⟨(jq.k92 BsE.rf s).1, Or.inr (Or.inl ⟨rfl, ?_⟩)⟩
    refine q_ref (kk := 1) RfA RfF 206010 J hv jq EqP.rf (d2 := 10) (by decide) (fun r1 r2 r3 r4 r5 => r_tellNode r1 r2.nv (r2.kj r3) ⟨r4.1, by omega⟩) (fun r3 r5 r h2 z => ?_) (by decide)
    rcases z with ⟨⟨zk, zj, zs⟩, ⟨y1, yt⟩ | ⟨y1, yt, r', S', yf, y4⟩⟩ | ⟨⟨zk, zj, zs⟩, y1, yt, r', S', yf, y4, y2, y5⟩
    · exact ⟨zk, ⟨zj.2.2, zs⟩, yt, fun z => absurd z (by decide)⟩
    · exact absurd y1 c1
    · exact absurd y1 c1
  · have jq : JQ h K N1 N3 1 300 v bv isS sv c pv w d cw cd X1 X3 h1 := j.jr cq
    refine ⟨(jq.k92 BsE.rf s).1, Or.inr (Or.inr ⟨rfl, ?_⟩)⟩
    refine q_ref (kk := 2) RfA RfF 206010 J hv jq EqP.rf (d2 := 10) (by decide) (fun r1 r2 r3 r4 r5 => r_tellNode r1 r2.nv (r2.kj r3) ⟨r4.1, by omega⟩) (fun r3 r5 r h2 z => ?_) (by decide)
    rcases z with ⟨⟨zk, zj, zs⟩, ⟨y1, yt⟩ | ⟨y1, yt, r', S', yf, y4⟩⟩ | ⟨⟨zk, zj, zs⟩, y1, yt, r', S', yf, y4, y2, y5⟩
    · exact absurd c1 y1
    · exact ⟨zk, ⟨zj.2.2, zs⟩, yt, fun z => absurd z (by decide)⟩
    · obtain ⟨rfl, -⟩ := fnR_det cf yf
      exact absurd y4 c3
  · have jq := j.jl cq
    refine ⟨(jq.k92 BsE.rf s).1, Or.inl ⟨_, rfl, ?_⟩⟩
    refine c_ref (kk := 0) (90 :: 91 :: RfA) (80 :: 81 :: RfF) J hv BsE.rf jq (by decide) (by decide) (cn_ln cn (by have := tx_len (cnR (S.2.1 q9.toNat) []) (-1); rw [cnR_sz] at this; have := fnR_sz cf c3 q9.toNat (by omega); omega)) EqP.pu (d2 := 10) (by decide) (fun r1 r2 r3 r4 r5 => r_tellNode r1 r2.nv (r2.kj r3) ⟨r4.1, by omega⟩) (fun r3 r5 r9 r h2 z => ?_)
    rcases z with ⟨⟨zk, zj, zs⟩, ⟨y1, yt⟩ | ⟨y1, yt, r', S', yf, y4⟩⟩ | ⟨⟨zk, zj, zs⟩, y1, yt, r', S', yf, y4, y2, y5⟩
    · exact absurd c1 y1
    · obtain ⟨rfl, -⟩ := fnR_det cf yf
      exact absurd c3 y4
    · obtain ⟨rfl, eS⟩ := fnR_det cf yf
      have eS := eS c3
      subst eS
      exact ⟨zk, ln_rv r5 zk (by decide) (by decide) y5, ⟨zj.2.2, zs.1, by have := zs.2; omega⟩, (zk.fl (by decide)).trans r9, yt, fun _ => put92.trans y2.symm⟩
set_option maxHeartbeats 1000000 in
theorem j_tellKept (J : JA k h a K v bv isS sv c pv w d cw cd X1 X3 b1 N1 b3 N3) (hk : k < 512) : LC (JW (k + 1)) mL_tellKept [iv p] mX11_tellKept [iv p] h := by
  obtain ⟨N, LL, kp, hv, hs⟩ := J.1.2.1.1
  have j := J.1
  have n := j.qn hs
  have o := hv.lko
  obtain ⟨t3, b3c⟩ := j.2.2.2.2.2.1
  have s := J.2.1
  have n94 := s.2.2.2.2
  have rv := J.2.2.2.1
  have cn := J.2.2.2.2.1
  have c8 := j.2.2.1.1
  refine ⟨19, by decide, w_tellKept (by decide) (g_tellKept n t3 b3c) s.1 (by omega) fun oo h1 q => ?_⟩
  rcases q with ⟨c1, rfl, ce⟩ | ⟨c1, ⟨c2, rfl, ce⟩ | ⟨R, c2, rfl, cq⟩⟩
  · have jq : JQ h K N1 N3 1 300 v bv isS sv c pv w d cw cd X1 X3 h1 := (by rw [ce]; exact j.jt)
    refine ⟨(jq.k92 BsE.rf s).1, Or.inr (Or.inl ⟨rfl, ?_⟩)⟩
    refine q_ref (kk := 1) [] [0] 0 J hv jq EqP.rf (d2 := 10) (by decide) (fun r1 r2 r3 r4 r5 => r_tellKept r1 (r2.kj r3)) (fun r3 r5 r h2 z => ?_) (by decide)
    rcases z with ⟨zk, ⟨y1, yt⟩ | ⟨y1, yt, y4⟩⟩ | ⟨zk, y1, yt, R', y4, y2, y5⟩
    · exact ⟨zk, st_n zk r3 (by decide) (by decide), yt, fun z => absurd z (by decide)⟩
    · omega
    · omega
  · have jq : JQ h K N1 N3 1 300 v bv isS sv c pv w d cw cd X1 X3 h1 := (by rw [ce]; exact j.jt)
    refine ⟨(jq.k92 BsE.rf s).1, Or.inr (Or.inr ⟨rfl, ?_⟩)⟩
    refine q_ref (kk := 2) [] [0] 0 J hv jq EqP.rf (d2 := 10) (by decide) (fun r1 r2 r3 r4 r5 => r_tellKept r1 (r2.kj r3)) (fun r3 r5 r h2 z => ?_) (by decide)
    rcases z with ⟨zk, ⟨y1, yt⟩ | ⟨y1, yt, y4⟩⟩ | ⟨zk, y1, yt, R', y4, y2, y5⟩
    · omega
    · exact ⟨zk, st_n zk r3 (by decide) (by decide), yt, fun z => absurd z (by decide)⟩
    · rw [c2] at y4; exact nomatch y4
  · have jq := j.jl cq
    refine ⟨(jq.k92 BsE.rf s).1, Or.inl ⟨_, rfl, ?_⟩⟩
    refine c_ref (kk := 0) ([78, 90, 91]) ([0, 80, 81]) J hv BsE.rf jq (by decide) (by decide) (cn_ln cn (by have := tx_len R (-1); have := kp24 hv c1 c2; omega)) EqP.pu (d2 := 10) (by decide) (fun r1 r2 r3 r4 r5 => r_tellKept r1 (r2.kj r3)) (fun r3 r5 r9 r h2 z => ?_)
    rcases z with ⟨zk, ⟨y1, yt⟩ | ⟨y1, yt, y4⟩⟩ | ⟨zk, y1, yt, R', y4, y2, y5⟩
    · omega
    · rw [c2] at y4; exact nomatch y4
    · rw [c2] at y4
      have eR := Option.some.inj y4
      subst eR
      have st := st_n zk r3 (by decide) (by decide)
      exact ⟨zk, ln_rv r5 zk (by decide) (by decide) y5, ⟨st.1, st.2.1, by have := st.2.2; omega⟩, (zk.fl (by decide)).trans r9, yt, fun _ => put92.trans y2.symm⟩
set_option maxHeartbeats 1000000 in
theorem j_tellTerm (J : JA k h a K v bv isS sv c pv w d cw cd X1 X3 b1 N1 b3 N3) (hk : k < 512) : LC (JW (k + 1)) mL_tellTerm [iv p] mX11_tellTerm [iv p] h := by
  obtain ⟨N, LL, kp, hv, hs⟩ := J.1.2.1.1
  have j := J.1
  have n := j.qn hs
  have o := hv.lko
  obtain ⟨t3, b3c⟩ := j.2.2.2.2.2.1
  have s := J.2.1
  have n94 := s.2.2.2.2
  have rv := J.2.2.2.1
  have cn := J.2.2.2.2.1
  have c8 := j.2.2.1.1
  refine ⟨19, by decide, w_tellTerm (by decide) (g_tellTerm n o t3 b3c) s.1 (by omega) fun oo h1 q => ?_⟩
  rcases q with ⟨c1, rfl, ce⟩ | ⟨c1, rfl, cq⟩
  · have jq : JQ h K N1 N3 1 300 v bv isS sv c pv w d cw cd X1 X3 h1 := (by rw [ce]; exact j.jt)
    refine ⟨(jq.k92 BsE.rf s).1, Or.inr ⟨rfl, ?_⟩⟩
    refine q_ref (kk := 1) [] [0] 0 J hv jq EqP.rf (d2 := 8) (by decide) (fun r1 r2 r3 r4 r5 => r_tellTerm r1 r2.nv) (fun r3 r5 r h2 z => ?_) (by decide)
    rcases z with ⟨y1, zk, yt⟩ | ⟨y1, zk, yt, y2, y5⟩
    · exact ⟨zk, st_n zk r3 (by decide) (by decide), yt, fun z => absurd z (by decide)⟩
    · omega
  · have jq := j.jl cq
    refine ⟨(jq.k92 BsE.rf s).1, Or.inl ⟨_, rfl, ?_⟩⟩
    refine c_ref (kk := 0) (90 :: 91 :: ANn) (80 :: 81 :: FNn) J hv BsE.rf jq (by decide) (by decide) (cn_ln cn (tm900 o (by omega))) EqP.pu (d2 := 8) (by decide) (fun r1 r2 r3 r4 r5 => r_tellTerm r1 r2.nv) (fun r3 r5 r9 r h2 z => ?_)
    rcases z with ⟨y1, zk, yt⟩ | ⟨y1, zk, yt, y2, y5⟩
    · omega
    · have st := st_n zk r3 (by decide) (by decide)
      exact ⟨zk, ln_rv r5 zk (by decide) (by decide) y5, ⟨st.1, st.2.1, by have := st.2.2; omega⟩, (zk.fl (by decide)).trans r9, yt, fun _ => put92.trans y2.symm⟩
end Ask
