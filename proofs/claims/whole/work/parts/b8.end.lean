/-! where a type in the second row ends -/
set_option maxRecDepth 100000 in
theorem en_skip {h : AH} {a : Int} {Q : AV → AH → Prop} (hI : RI h) : ∀ (T : TE) (s : List Nat) (k : Nat) (o : Int), RwA (h.vl 80) k (cnT T s).1 → k + sz T ≤ 209 → 1 ≤ o → o + (sz T : Int) ≤ 5000 → EV mX11_endOf 1 4 [rv 42, iv a, iv ((k + sz T : Nat) : Int), iv (o - 1)] [] h Q → EV mX11_endOf 1 4 [rv 42, iv a, iv (k : Int), iv o] [] h Q
  | .var v, s, k, o, hr, hk, ho, ho9, K => by
    obtain ⟨e, e1, e2⟩ := cn_leaf (v := v) (s := s)
    rw [e1] at hr
    have h0 := hr.tl.1
    simp only [sz] at hk K
    refine ev_iload_n dX11_endOf_4 rfl ?_
    refine ev_ifle 32 dX11_endOf_5 (fun h_no => (by exfalso; omega)) (fun hb => ?_)
    refine ev_iload_n dX11_endOf_8 rfl ?_
    refine ev_aload_n dX11_endOf_9 rfl ?_
    refine ev_getrv dX11_endOf_10 fX11_125 hI.o hI.n rfl hI.v_two ?_
    refine ev_iload_n dX11_endOf_13 rfl ?_
    refine ev_ildv dX11_endOf_14 hI.k_two hI.n_two rfl (by omega) (by omega) h0 ?_
    refine ev_iconst dX11_endOf_15 ?_
    refine ev_icmpne 23 dX11_endOf_16 (fun hb2 => ?_) (fun h_no => (by exfalso; omega))
    refine ev_iconst dX11_endOf_23 ?_
    refine ev_iadd dX11_endOf_24 (by unfold ir; omega) ?_
    refine ev_ist3 dX11_endOf_25 ?_
    refine ev_iin2 dX11_endOf_26 (by unfold ir; omega) ?_
    refine ev_gt 4 dX11_endOf_29 ?_
    rw [show o + -1 = o - 1 by omega]
    exact K
  | .op x y, s, k, o, hr, hk, ho, ho9, K => by
    rw [cn_op] at hr
    obtain ⟨h0, h1⟩ := hr.tl
    obtain ⟨h2, h3⟩ := h1.app
    rw [cn_len] at h3
    simp only [sz] at hk K ho9
    refine ev_iload_n dX11_endOf_4 rfl ?_
    refine ev_ifle 32 dX11_endOf_5 (fun h_no => (by exfalso; omega)) (fun hb => ?_)
    refine ev_iload_n dX11_endOf_8 rfl ?_
    refine ev_aload_n dX11_endOf_9 rfl ?_
    refine ev_getrv dX11_endOf_10 fX11_125 hI.o hI.n rfl hI.v_two ?_
    refine ev_iload_n dX11_endOf_13 rfl ?_
    refine ev_ildv dX11_endOf_14 hI.k_two hI.n_two rfl (by omega) (by omega) h0 ?_
    refine ev_iconst dX11_endOf_15 ?_
    refine ev_icmpne 23 dX11_endOf_16 (fun h_no => (by exfalso; omega)) (fun hb2 => ?_)
    refine ev_iconst dX11_endOf_19 ?_
    refine ev_gt 24 dX11_endOf_20 ?_
    refine ev_iadd dX11_endOf_24 (by unfold ir; omega) ?_
    refine ev_ist3 dX11_endOf_25 ?_
    refine ev_iin2 dX11_endOf_26 (by unfold ir; omega) ?_
    refine ev_gt 4 dX11_endOf_29 ?_
    refine en_skip hI x s (k + 1) (o + 1) h2 (by omega) (by omega) (by omega) ?_
    rw [show o + 1 - 1 = o by omega]
    refine en_skip hI y _ (k + 1 + sz x) o h3 (by omega) (by omega) (by omega) ?_
    rw [show k + 1 + sz x + sz y = k + (1 + sz x + sz y) by omega]
    exact K
set_option maxRecDepth 100000 in
theorem s_endOf {h : AH} {T : TE} {s : List Nat} {k : Nat} (hI : RI h) (hr : RwA (h.vl 80) k (cnT T s).1) (hk : k + sz T ≤ 209) : CV mX11_endOf 1 [rv 42, iv (k : Int)] h (oi fun r h1 => r = ((k + sz T : Nat) : Int) ∧ h1 = h) := by
  refine cv_of cdX11_endOf ?_
  show EV _ _ 0 [rv 42, iv (k : Int), uv, uv] [] h _
  refine ev_iload_n dX11_endOf_0 rfl ?_
  refine ev_ist2 dX11_endOf_1 ?_
  refine ev_iconst dX11_endOf_2 ?_
  refine ev_ist3 dX11_endOf_3 ?_
  refine en_skip hI T s k 1 hr hk (by omega) (by omega) ?_
  refine ev_iload_n dX11_endOf_4 rfl ?_
  refine ev_ifle 32 dX11_endOf_5 (fun hb => ?_) (fun h_no => (by exfalso; omega))
  refine ev_iload_n dX11_endOf_32 rfl ?_
  exact ev_iret dX11_endOf_33 (⟨_, rfl, rfl, rfl⟩)
