/-! a type as text: the reference -/
def rwE (x : Nat) : Int := if x < 2 then (x : Int) else (x : Int) + 1
def lfX (e : Int) : List Int := (if e = 0 then 78 else if e = 1 then 66 else 97 + (e - 3) % 26) :: (if e < 29 then [] else [48 + (e - 3) / 26])
/-- the text of a tree; -2: within parentheses if it is an arrow -/
def txR : TE → Int → List Int
  | .var x, _ => lfX (rwE x)
  | .op a b, as => (if as = -2 then [40] else []) ++ (txR a (-2) ++ (62 :: (txR b (-1) ++ (if as = -2 then [41] else []))))
theorem tx_len : ∀ (R : TE) (as : Int), (txR R as).length ≤ 3 * sz R
  | .var x, as => by
    rw [txR, lfX, List.length_cons]
    simp only [sz]
    split
    · show 0 + 1 ≤ 3; omega
    · show 1 + 1 ≤ 3; omega
  | .op a b, as => by
    have h1 := tx_len a (-2)
    have h2 := tx_len b (-1)
    rw [txR, List.length_append, List.length_append, List.length_cons, List.length_append]
    simp only [sz]
    split
    · show 1 + (_ + (_ + 1 + 1)) ≤ _; omega
    · show 0 + (_ + (_ + 0 + 1)) ≤ _; omega
def SkI (v : Nat → Int) : List Int → Prop
  | [] => True
  | a :: st => v st.length = a ∧ SkI v st
theorem SkI.lo {v v1 : Nat → Int} : ∀ {st : List Int}, (∀ i, i < st.length → v1 i = v i) → SkI v st → SkI v1 st
  | [], _, _ => trivial
  | a :: st, h, g => ⟨(h _ (by rw [List.length_cons]; omega)).trans g.1, SkI.lo (fun i hi => h i (by rw [List.length_cons]; omega)) g.2⟩
/-- a text on its way: what is still to do, what stands there -/
def WtI (h : AH) (st out : List Int) : Prop := (h.vl 42 81 = (st.length : Int) ∧ SkI (h.vl 91) st) ∧ h.vl 42 80 = (out.length : Int) ∧ ∀ i (hi : i < out.length), h.vl 90 i = out[i]
theorem i_writes {h : AH} {st out : List Int} {c : Int} (hI : RI h) (hW : WtI h st out) (hl : out.length < 900) : CV mX11_writes 1 [rv 42, iv c] h (on fun h1 => KP h h1 [90] [80] ∧ WtI h1 st (out ++ [c])) := by
  obtain ⟨⟨w1, w2⟩, w3, w4⟩ := hW
  refine cv_mono (s_writes hI (by omega) (by omega)) fun o h1 q => ?_
  obtain ⟨rfl, q⟩ := q
  rw [w3, show ((out.length : Nat) : Int).toNat = out.length from rfl] at q
  have k : KP h h1 [90] [80] := by rw [q]; exact (KP.rf.pr (by decide) (by decide)).pf (by decide)
  refine ⟨rfl, k, ⟨by rw [k.fl]; exact w1, by rw [k.vl]; exact w2⟩, by rw [q, List.length_append]; rfl, fun i hi => ?_⟩
  rw [List.length_append] at hi
  have hi : i < out.length + 1 := hi
  rw [q, AH.put_vl, if_neg (by omega), AH.put_vl]
  by_cases z : i = out.length
  · subst z
    rw [if_pos ⟨rfl, rfl⟩, List.getElem_append_right (Nat.le_refl _)]
    simp
  · rw [if_neg (fun w => z w.2), List.getElem_append_left (by omega)]
    exact w4 i (by omega)
theorem i_later {h : AH} {st out : List Int} {c : Int} (hI : RI h) (hW : WtI h st out) (hl : st.length < 900) : CV mX11_later 1 [rv 42, iv c] h (on fun h1 => KP h h1 [91] [81] ∧ WtI h1 (c :: st) out) := by
  obtain ⟨⟨w1, w2⟩, w3, w4⟩ := hW
  refine cv_mono (s_later hI (by omega) (by omega)) fun o h1 q => ?_
  obtain ⟨rfl, q⟩ := q
  rw [w1, show ((st.length : Nat) : Int).toNat = st.length from rfl] at q
  have k : KP h h1 [91] [81] := by rw [q]; exact (KP.rf.pr (by decide) (by decide)).pf (by decide)
  refine ⟨rfl, k, ⟨by rw [q]; rfl, ?_, w2.lo fun i hi => ?_⟩, by rw [k.fl]; exact w3, by rw [k.vl]; exact w4⟩
  · rw [q, AH.put_vl, if_neg (by omega), AH.put_vl, if_pos ⟨rfl, rfl⟩]
  · rw [q, AH.put_vl, if_neg (by omega), AH.put_vl, if_neg (by omega)]
set_option maxRecDepth 100000 in
theorem wt_pop {h : AH} {st out : List Int} {c : Int} {k : Nat} {v2 v3 : AV} {Q : AV → AH → Prop} (hI : RI h) (hW : WtI h (c :: st) out) (hl : st.length ≤ 890) (kk : ∀ h1, KP h h1 [] [81] → WtI h1 st out → EV mX11_writesType 3 44 [rv 42, iv (k : Int), iv c, v3] [] h1 Q) : EV mX11_writesType 3 17 [rv 42, iv (k : Int), v2, v3] [] h Q := by
  obtain ⟨⟨w1, w2, w2'⟩, w3, w4⟩ := hW
  have w1 : h.vl 42 81 = (st.length : Int) + 1 := w1
  refine ev_aload_n dX11_writesType_17 rfl ?_
  refine ev_getiv dX11_writesType_18 fX11_443 hI.o hI.n rfl w1 ?_
  refine ev_ifle 163 dX11_writesType_21 (fun h_no => (by exfalso; omega)) (fun hb => ?_)
  refine ev_aload_n dX11_writesType_24 rfl ?_
  refine ev_dup dX11_writesType_25 ?_
  refine ev_getiv dX11_writesType_26 fX11_443 hI.o hI.n rfl w1 ?_
  refine ev_iconst dX11_writesType_29 ?_
  refine ev_isub dX11_writesType_30 (by unfold ir; omega) ?_
  refine ev_pt dX11_writesType_31 fX11_443 hI.o hI.n rfl ?_
  rw [show (st.length : Int) + 1 - 1 = (st.length : Int) by omega]
  obtain ⟨h1, e1⟩ : ∃ h1, h1 = h.put 42 81 (st.length : Int) := ⟨_, rfl⟩
  rw [← e1]
  have k1 : KP h h1 [] [81] := by rw [e1]; exact KP.rf.pf (by decide)
  have I1 : RI h1 := k1.ri hI
  have f81 : h1.vl 42 81 = (st.length : Int) := by rw [e1]; rfl
  have f91 : h1.vl 91 st.length = c := by rw [k1.vl]; exact w2
  refine ev_aload_n dX11_writesType_34 rfl ?_
  refine ev_getrv dX11_writesType_35 fX11_158 I1.o I1.n rfl I1.v_acts ?_
  refine ev_aload_n dX11_writesType_38 rfl ?_
  refine ev_getiv dX11_writesType_39 fX11_443 I1.o I1.n rfl f81 ?_
  refine ev_ildv dX11_writesType_42 I1.k_acts I1.n_acts rfl (by omega) (by omega) f91 ?_
  refine ev_ist2 dX11_writesType_43 ?_
  exact kk h1 k1 ⟨⟨f81, by rw [k1.vl]; exact w2'⟩, by rw [k1.fl]; exact w3, by rw [k1.vl]; exact w4⟩
set_option maxRecDepth 100000 in
theorem wt_sign {h : AH} {st out : List Int} {c : Int} {k : Nat} {v2 v3 : AV} {Q : AV → AH → Prop} (hI : RI h) (hW : WtI h (c :: st) out) (hl : st.length ≤ 890) (ho : out.length < 900) (hc : 0 < c) (kk : ∀ h1, KP h h1 [90, 91] [80, 81] → WtI h1 st (out ++ [c]) → EV mX11_writesType 3 17 [rv 42, iv (k : Int), iv c, v3] [] h1 Q) : EV mX11_writesType 3 17 [rv 42, iv (k : Int), v2, v3] [] h Q := by
  refine wt_pop hI hW hl fun h1 k1 W1 => ?_
  have I1 : RI h1 := k1.ri hI
  refine ev_iload_n dX11_writesType_44 rfl ?_
  refine ev_ifle 56 dX11_writesType_45 (fun h_no => (by exfalso; omega)) (fun hb => ?_)
  refine ev_aload_n dX11_writesType_48 rfl ?_
  refine ev_iload_n dX11_writesType_49 rfl ?_
  refine ev_cvv dX11_writesType_50 lX11_449 (i_writes I1 W1 ho) (by decide) I1.o I1.n rfl rfl rfl (Nat.le_of_ble_eq_true rfl) rfl (fun h2 q => ?_)
  obtain ⟨k2, W2⟩ := q
  refine ev_gt 17 dX11_writesType_53 ?_
  exact kk h2 ((k1.wk (by decide) (by decide)).tr (k2.wk (by decide) (by decide))) W2
