/-! the nodes of a lesson -/
def rd (c : Nat → Int) (n : Nat) : Int × List Nd := rdF c n (n + 1) (0, 0, 0, [], []) [] 0
def TBL (L : List Nd) : Nat → Nat → Int := tbF L 0 [-1] (fun _ _ => 0)
set_option maxRecDepth 100000 in
theorem s_reads {src b n Ls : Nat} {h : AH} (hI : RI h) (ks : h.kd src = (100, Ls)) (ns : src < h.n) (hsrc : src < 47 ∨ 65 < src) (hs42 : src ≠ 42) (hn : n ≤ 60) (hb : b + n ≤ Ls) (hL9 : Ls ≤ 30000) :
    CV mX11_reads 6 [rv 42, rv (src : Int), iv (b : Int), iv (n : Int)] h (oi (RdQ h (rd (fun j => h.vl src (b + j)) n))) := by
  refine cv_of cdX11_reads ?_
  show EV _ _ 0 [rv 42, rv (src : Int), iv (b : Int), iv (n : Int), uv, uv, uv] [] h _
  have k0 : KP h ((h.put 42 35 0).put 42 34 (-1)) [] [34, 35] := (KP.rf.pf (by decide)).pf (by decide)
  have hI2 : RI ((h.put 42 35 0).put 42 34 (-1)) := k0.ri hI
  refine ev_aload_n dX11_reads_0 rfl ?_
  refine ev_iconst dX11_reads_1 ?_
  refine ev_pt dX11_reads_2 fX11_168 hI.o hI.n rfl ?_
  refine ev_aload_n dX11_reads_5 rfl ?_
  refine ev_iconst dX11_reads_6 ?_
  refine ev_pt dX11_reads_7 fX11_171 hI.o hI.n rfl ?_
  refine ev_aload_n dX11_reads_10 rfl ?_
  refine ev_iconst dX11_reads_11 ?_
  refine ev_iconst dX11_reads_12 ?_
  refine ev_iconst dX11_reads_13 ?_
  refine ev_cvv dX11_reads_14 lX11_185 (s_opensT (s := []) (T := fun _ => []) (m := 0) hI2 trivial (by decide) rfl (by decide)) (by decide) hI.o hI.n rfl rfl rfl (Nat.le_of_ble_eq_true rfl) rfl (fun h1 q => ?_)
  obtain ⟨k1, S1, t1⟩ := q
  refine ev_iconst dX11_reads_17 ?_
  refine ev_ist4 dX11_reads_18 ?_
  exact reads_loop hI ks ns hsrc hs42 hn hb hL9 (n + 1) (0, 0, 0, [], []) [] 0 0 (fun _ => []) h1 _ _ (by omega) (Nat.zero_le _) ((k0.wk (by decide) (by decide)).tr (k1.wk (by decide) (by decide))) ⟨(k1.fl).trans rfl, fun i hi => absurd hi (Nat.not_lt_zero i)⟩ S1 rfl (Nat.le_refl _) (Nat.le_refl _) (Nat.le_refl _) t1
/-- the table of nodes stands -/
def NT (h : AH) (L : List Nd) : Prop := Ag7 L.length [] h (TBL L) ∧ h.vl 42 36 = (L.length : Int) ∧ L ≠ [] ∧ L.length ≤ 120
/-- lesson l, by its letters -/
def LSn (h : AH) (l : Nat) (L : List Nd) : Prop := ∃ n : Nat, h.vl 43 (3 + 61 * l) = (n : Int) ∧ n ≤ 60 ∧ rd (fun j => h.vl 43 (3 + 61 * l + 1 + j)) n = (-1, L)
set_option maxRecDepth 100000 in
theorem s_nodesOf {l : Nat} {L : List Nd} {h : AH} (hI : RI h) (hl : l < 6) (hL : LSn h l L) : CV mX11_nodesOf 7 [rv 42, iv (l : Int)] h (on fun h1 => KP h h1 [47, 48, 49, 50, 51, 52, 53, 54, 55, 56, 57, 58, 59, 60, 61, 62, 63, 64, 65] [34, 35, 36] ∧ NT h1 L) := by
  obtain ⟨n, hn, hn60, hr⟩ := hL
  refine cv_of cdX11_nodesOf ?_
  show EV _ _ 0 [rv 42, iv (l : Int), uv] [] h _
  refine ev_aload_n dX11_nodesOf_0 rfl ?_
  refine ev_aload_n dX11_nodesOf_1 rfl ?_
  refine ev_getrv dX11_nodesOf_2 fX11_13 hI.o hI.n rfl hI.v_v ?_
  refine ev_iload_n dX11_nodesOf_5 rfl ?_
  refine ev_csi dX11_nodesOf_6 lX11_206 (s_lessonAt (by omega) (by omega)) (by decide) rfl rfl (Nat.le_of_ble_eq_true rfl) rfl (fun r z1 q => ?_)
  obtain ⟨rfl, e1⟩ := q
  rw [e1]
  refine ev_iconst dX11_nodesOf_9 ?_
  refine ev_iadd dX11_nodesOf_10 (by unfold ir; omega) ?_
  refine ev_aload_n dX11_nodesOf_11 rfl ?_
  refine ev_getrv dX11_nodesOf_12 fX11_13 hI.o hI.n rfl hI.v_v ?_
  refine ev_iload_n dX11_nodesOf_15 rfl ?_
  refine ev_csi dX11_nodesOf_16 lX11_206 (s_lessonAt (by omega) (by omega)) (by decide) rfl rfl (Nat.le_of_ble_eq_true rfl) rfl (fun r z2 q => ?_)
  obtain ⟨rfl, e2⟩ := q
  rw [e2]
  refine ev_ild dX11_nodesOf_19 hI.k_v hI.n_v rfl (by omega) (by omega) ?_
  rw [show ((3 : Int) + 61 * (l : Int)).toNat = 3 + 61 * l from by omega, hn, show ((3 : Int) + 61 * (l : Int) + 1) = ((3 + 61 * l + 1 : Nat) : Int) from by omega]
  refine ev_cvi dX11_nodesOf_20 lX11_209 (s_reads (src := 43) (Ls := 569) hI hI.k_v hI.n_v (Or.inl (by decide)) (by decide) hn60 (by omega) (by decide)) (by decide) hI.o hI.n rfl rfl rfl (Nat.le_of_ble_eq_true rfl) rfl (fun r h3 q => ?_)
  obtain ⟨q1, q2, q3⟩ := q
  rw [hr] at q1 q3
  obtain ⟨w1, w2, w3, w4⟩ := q3 rfl
  refine ev_ist2 dX11_nodesOf_23 ?_
  exact ev_vret dX11_nodesOf_24 (⟨rfl, q2, w3, w4, w1, w2⟩)
