/-! the law's calls -/
section Ask
variable {k : Nat} {h b0 h1 g h2 : AH} {a K a1 K1 : Nat → Nat} {v bv sv : Nat → Int} {isS : Int} {c : Nat} {pv : Nat → Nat → Int} {w d cw cd : Int} {X1 X3 : List Int} {b1 N1 b3 N3 M1 M3 dc ds : Nat} {N : Nat} {LL : Nat → List Nd} {kp : Nat → Option TE} {kk : Int} {Mm : MD} {bs : List AV}
variable {p q9 w9 : Int}variable {v' bv' sv' : Nat → Int}

theorem c2_dr {l n : Nat} (h : C2 k v) : C2 (k + 1) (drV v l n) := by
  have e : drV v l n 1 = v 1 ∧ drV v l n 2 = v 2 := by
    unfold drV
    exact ⟨by rw [if_neg (by decide), if_neg (by omega), if_neg (by omega)], by rw [if_neg (by decide), if_neg (by omega), if_neg (by omega)]⟩
  unfold C2
  rw [e.1, e.2]
  exact h.up
theorem c2_uk {l : Nat} (h : C2 k v) : C2 (k + 1) (ukV v l) := by
  have e : ukV v l 1 = v 1 ∧ ukV v l 2 = v 2 := by
    unfold ukV
    exact ⟨if_neg (by omega), if_neg (by omega)⟩
  unfold C2
  rw [e.1, e.2]
  exact h.up
theorem c2_ke {l : Nat} {r : List Int} (h : C2 k v) : C2 (k + 1) (keV v l r) := by
  have e : keV v l r 1 = v 1 ∧ keV v l r 2 = v 2 + 1 := by
    unfold keV keW
    exact ⟨by rw [if_neg (by decide), if_neg (by omega), if_neg (by omega)], if_pos rfl⟩
  obtain ⟨⟨h1, h2⟩, h3, h4⟩ := h
  unfold C2
  rw [e.1, e.2]
  omega
theorem c2_le {i : Nat → Int} {n l : Nat} (h : C2 k v) : C2 (k + 1) (leV v i n l) := by
  have e : leV v i n l 1 = v 1 + 1 ∧ leV v i n l 2 = v 2 := by
    unfold leV leW
    refine ⟨rfl, ?_⟩
    rw [if_neg (by decide), if_neg (by decide), if_neg (by omega), if_neg (by omega)]
  obtain ⟨⟨h1, h2⟩, h3, h4⟩ := h
  unfold C2
  rw [e.1, e.2]
  omega
theorem c2_run {C : Nat → Int} {n : Nat} {why det : Int} {m : Nat} (h : C2 k v) (hn : n ≤ 60) (r : runR C n (n + 1) 0 0 v why det m v') : C2 (k + 1) v' := by
  obtain ⟨e1, e2, e3⟩ := run_v2 _ _ _ _ _ _ _ _ r
  obtain ⟨⟨h1, h2⟩, h3, h4⟩ := h
  unfold C2
  rw [e1]
  omega
set_option maxHeartbeats 1000000 in
theorem j_drop (J : JA k h a K v bv isS sv c pv w d cw cd X1 X3 b1 N1 b3 N3) (hk : k < 512) : LC (JW (k + 1)) mL_drop [iv p] mX11_drop [iv p] h := by
  obtain ⟨N, LL, kp, hv, hs⟩ := J.1.2.1.1
  have j := J.1
  have s := J.2.1
  have n94 := s.2.2.2.2
  have rv := J.2.2.2.1
  have cn := J.2.2.2.2.1
  have c8 := j.2.2.1.1
  refine ⟨19, by decide, w_drop (by decide) (g_drop j hv hs) s.1 (by omega) fun oo h1 q => ?_⟩
  rcases q with ⟨c1, rfl, cq⟩ | ⟨c1, rfl, cq⟩
  · have jq := cq
    refine ⟨(jq.k92 BsE.rf s).1, Or.inr ⟨rfl, ?_⟩⟩
    refine c_ref (kk := 1) (AN2) (FN2) J hv BsE.rf jq (by decide) (by decide) cn.up EqP.rf (d2 := 9) (by decide) (fun r1 r2 r3 r4 r5 => r_dropS r1 r2.nv r5.2.2.1.1 c8 r3) (fun r3 r5 r9 r h2 z => ?_)
    obtain ⟨zs, ⟨y1, zq⟩ | ⟨y1, y2, zq⟩⟩ := z
    · have zk := zq.1
      exact ⟨zk, rf_rv r5 zq, ⟨zs.1, zs.2.1, by have := zs.2.2; omega⟩, (zk.fl (by decide)).trans r9, zq.2.1, fun z => absurd z (by decide)⟩
    · exact absurd y1 c1
  · have jq := cq
    refine ⟨(jq.k92 BsE.rf s).1, Or.inl ⟨_, rfl, ?_⟩⟩
    refine c_ref (kk := 0) (AN2) (FN2) J hv BsE.rf jq (by decide) (by decide) (cn_push cn (c2_dr cn.1)) EqP.pu (d2 := 9) (by decide) (fun r1 r2 r3 r4 r5 => r_dropS r1 r2.nv r5.2.2.1.1 c8 r3) (fun r3 r5 r9 r h2 z => ?_)
    obtain ⟨zs, ⟨y1, zq⟩ | ⟨y1, y2, zq⟩⟩ := z
    · exact absurd c1 y1
    · have zk := zq.1
      exact ⟨zk, cg_rv c8 r5 zq (dr_cg r5.1), ⟨zs.1, zs.2.1, by have := zs.2.2; omega⟩, (zk.fl (by decide)).trans r9, zq.2.1, fun _ => put92.trans y2.symm⟩
set_option maxHeartbeats 1000000 in
theorem j_unkeep (J : JA k h a K v bv isS sv c pv w d cw cd X1 X3 b1 N1 b3 N3) (hk : k < 512) : LC (JW (k + 1)) mL_unkeep [iv p] mX11_unkeep [iv p] h := by
  obtain ⟨N, LL, kp, hv, hs⟩ := J.1.2.1.1
  have j := J.1
  have s := J.2.1
  have n94 := s.2.2.2.2
  have rv := J.2.2.2.1
  have cn := J.2.2.2.2.1
  have c8 := j.2.2.1.1
  refine ⟨19, by decide, w_unkeep (by decide) (g_unkeep j hv hs) s.1 (by omega) fun oo h1 q => ?_⟩
  rcases q with ⟨c1, rfl, cq⟩ | ⟨c1, c2, rfl, cq⟩ | ⟨c1, c2, rfl, cq⟩
  · have jq := cq
    refine ⟨(jq.k92 BsE.rf s).1, Or.inr ⟨rfl, ?_⟩⟩
    refine c_ref (kk := 1) (AN2) (FN2) J hv BsE.rf jq (by decide) (by decide) cn.up EqP.rf (d2 := 9) (by decide) (fun r1 r2 r3 r4 r5 => r_unkeepS r1 r5.2.2.1.1 c8 r3) (fun r3 r5 r9 r h2 z => ?_)
    obtain ⟨zs, ⟨y1, zq⟩ | ⟨y1, y3, zq⟩ | ⟨y1, y3, y2, zq⟩⟩ := z
    · have zk := zq.1
      first
        | exact ⟨zk, rf_rv r5 zq, ⟨zs.1, zs.2.1, by have := zs.2.2; omega⟩, (zk.fl (by decide)).trans r9, zq.2.1, fun z => absurd z (by decide)⟩
        | exact absurd c1 y1
    · have zk := zq.1
      rw [show h1.vl 43 (369 + 25 * p.toNat) = v (369 + 25 * p.toNat) from r5.1 _ (by omega)] at y3
      first
        | exact ⟨zk, rf_rv r5 zq, ⟨zs.1, zs.2.1, by have := zs.2.2; omega⟩, (zk.fl (by decide)).trans r9, zq.2.1, fun z => absurd z (by decide)⟩
        | exact absurd y1 c1
        | exact absurd y3 c2
    · have zk := zq.1
      rw [show h1.vl 43 (369 + 25 * p.toNat) = v (369 + 25 * p.toNat) from r5.1 _ (by omega)] at y2 y3
      first
        | exact absurd y1 c1
        | exact absurd c2 y3
        | exact ⟨zk, cg_rv c8 r5 zq (uk_cg r5.1), ⟨zs.1, zs.2.1, by have := zs.2.2; omega⟩, (zk.fl (by decide)).trans r9, zq.2.1, fun _ => put92.trans y2.symm⟩
  · have jq := cq
    refine ⟨(jq.k92 BsE.rf s).1, Or.inr ⟨rfl, ?_⟩⟩
    refine c_ref (kk := 1) (AN2) (FN2) J hv BsE.rf jq (by decide) (by decide) cn.up EqP.rf (d2 := 9) (by decide) (fun r1 r2 r3 r4 r5 => r_unkeepS r1 r5.2.2.1.1 c8 r3) (fun r3 r5 r9 r h2 z => ?_)
    obtain ⟨zs, ⟨y1, zq⟩ | ⟨y1, y3, zq⟩ | ⟨y1, y3, y2, zq⟩⟩ := z
    · have zk := zq.1
      first
        | exact ⟨zk, rf_rv r5 zq, ⟨zs.1, zs.2.1, by have := zs.2.2; omega⟩, (zk.fl (by decide)).trans r9, zq.2.1, fun z => absurd z (by decide)⟩
        | exact absurd c1 y1
    · have zk := zq.1
      rw [show h1.vl 43 (369 + 25 * p.toNat) = v (369 + 25 * p.toNat) from r5.1 _ (by omega)] at y3
      first
        | exact ⟨zk, rf_rv r5 zq, ⟨zs.1, zs.2.1, by have := zs.2.2; omega⟩, (zk.fl (by decide)).trans r9, zq.2.1, fun z => absurd z (by decide)⟩
        | exact absurd y1 c1
        | exact absurd y3 c2
    · have zk := zq.1
      rw [show h1.vl 43 (369 + 25 * p.toNat) = v (369 + 25 * p.toNat) from r5.1 _ (by omega)] at y2 y3
      first
        | exact absurd y1 c1
        | exact absurd c2 y3
        | exact ⟨zk, cg_rv c8 r5 zq (uk_cg r5.1), ⟨zs.1, zs.2.1, by have := zs.2.2; omega⟩, (zk.fl (by decide)).trans r9, zq.2.1, fun _ => put92.trans y2.symm⟩
  · have jq := cq
    refine ⟨(jq.k92 BsE.rf s).1, Or.inl ⟨_, rfl, ?_⟩⟩
    refine c_ref (kk := 0) (AN2) (FN2) J hv BsE.rf jq (by decide) (by decide) (cn_push cn (c2_uk cn.1)) EqP.pu (d2 := 9) (by decide) (fun r1 r2 r3 r4 r5 => r_unkeepS r1 r5.2.2.1.1 c8 r3) (fun r3 r5 r9 r h2 z => ?_)
    obtain ⟨zs, ⟨y1, zq⟩ | ⟨y1, y3, zq⟩ | ⟨y1, y3, y2, zq⟩⟩ := z
    · have zk := zq.1
      first
        | exact ⟨zk, rf_rv r5 zq, ⟨zs.1, zs.2.1, by have := zs.2.2; omega⟩, (zk.fl (by decide)).trans r9, zq.2.1, fun z => absurd z (by decide)⟩
        | exact absurd c1 y1
    · have zk := zq.1
      rw [show (h1.put 92 0 (v (369 + 25 * p.toNat))).vl 43 (369 + 25 * p.toNat) = v (369 + 25 * p.toNat) from r5.1 _ (by omega)] at y3
      first
        | exact ⟨zk, rf_rv r5 zq, ⟨zs.1, zs.2.1, by have := zs.2.2; omega⟩, (zk.fl (by decide)).trans r9, zq.2.1, fun z => absurd z (by decide)⟩
        | exact absurd y1 c1
        | exact absurd y3 c2
    · have zk := zq.1
      rw [show (h1.put 92 0 (v (369 + 25 * p.toNat))).vl 43 (369 + 25 * p.toNat) = v (369 + 25 * p.toNat) from r5.1 _ (by omega)] at y2 y3
      first
        | exact absurd y1 c1
        | exact absurd c2 y3
        | exact ⟨zk, cg_rv c8 r5 zq (uk_cg r5.1), ⟨zs.1, zs.2.1, by have := zs.2.2; omega⟩, (zk.fl (by decide)).trans r9, zq.2.1, fun _ => put92.trans y2.symm⟩
set_option maxHeartbeats 1000000 in
theorem j_keep (J : JA k h a K v bv isS sv c pv w d cw cd X1 X3 b1 N1 b3 N3) (hk : k < 512) : LC (JW (k + 1)) mL_keep [iv p, iv q9] mX11_keep [iv p, iv q9] h := by
  obtain ⟨N, LL, kp, hv, hs⟩ := J.1.2.1.1
  have j := J.1
  have s := J.2.1
  have n94 := s.2.2.2.2
  have rv := J.2.2.2.1
  have cn := J.2.2.2.2.1
  have c8 := j.2.2.1.1
  refine ⟨19, by decide, w_keep (by decide) (g_keep j hv hs (by have := cn.1.2; omega)) s.1 (by omega) fun oo h1 q => ?_⟩
  rcases q with ⟨w1, d1, c1, rfl, cq⟩ | ⟨T1, c1, rfl, cq⟩
  · have jq := cq
    refine ⟨(jq.k92 BsE.rf s).1, Or.inr ⟨rfl, ?_⟩⟩
    refine c_ref (kk := 1) (AN2) (FN2) J hv BsE.rf jq (by decide) (by decide) cn.up EqP.rf (d2 := 11) (by decide) (fun r1 r2 r3 r4 r5 => r_keep r1 r2 r3 ⟨r4.1, by omega⟩ (by rw [r5.1 2 (by decide)]; have := cn.1.2; omega) r5.2.2.1.1 c8) (fun r3 r5 r9 r h2 z => ?_)
    obtain ⟨zs, ⟨w2, d2, y1, zq⟩ | ⟨T2, y1, y2, zq⟩⟩ := z
    · have zk := zq.1
      obtain ⟨e1, e2⟩ := keN_det c1 y1
      subst e1 e2
      exact ⟨zk, rf_rv r5 zq, ⟨zs.1, zs.2.1, by have := zs.2.2; omega⟩, (zk.fl (by decide)).trans r9, zq.2.1, fun z => absurd z (by decide)⟩
    · exact (keNO c1 y1).elim
  · have jq := cq
    refine ⟨(jq.k92 BsE.rf s).1, Or.inl ⟨_, rfl, ?_⟩⟩
    refine c_ref (kk := 0) (AN2) (FN2) J hv BsE.rf jq (by decide) (by decide) (cn_push cn (c2_ke cn.1)) EqP.pu (d2 := 11) (by decide) (fun r1 r2 r3 r4 r5 => r_keep r1 r2 r3 ⟨r4.1, by omega⟩ (by rw [r5.1 2 (by decide)]; have := cn.1.2; omega) r5.2.2.1.1 c8) (fun r3 r5 r9 r h2 z => ?_)
    obtain ⟨zs, ⟨w2, d2, y1, zq⟩ | ⟨T2, y1, y2, zq⟩⟩ := z
    · exact (keNO y1 c1).elim
    · have zk := zq.1
      have e1 := keO_det c1 y1
      subst e1
      exact ⟨zk, cg_rv c8 r5 zq (ke_cg r5.1), ⟨zs.1, zs.2.1, by have := zs.2.2; omega⟩, (zk.fl (by decide)).trans r9, zq.2.1, fun _ => put92.trans y2.symm⟩
end Ask
