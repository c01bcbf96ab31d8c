/-! one call on fresh objects -/
theorem RI.of {h h1 : AH} (hI : RI h) (hn : h.n ≤ h1.n) (hk : ∀ b, b < 94 → h1.kd b = h.kd b) (hv : ∀ j, h1.vl 42 j = h.vl 42 j) : RI h1 := ⟨(hk 42 (by decide)).trans hI.o, Nat.le_trans hI.2.1 hn, ⟨(hv 11).trans hI.v_v, (hk 43 (by decide)).trans hI.k_v⟩, ⟨(hv 12).trans hI.v_before, (hk 44 (by decide)).trans hI.k_before⟩, ⟨(hv 13).trans hI.v_saved, (hk 45 (by decide)).trans hI.k_saved⟩, ⟨(hv 14).trans hI.v_past, (hk 46 (by decide)).trans hI.k_past⟩, ⟨(hv 15).trans hI.v_frame, (hk 47 (by decide)).trans hI.k_frame⟩, ⟨(hv 16).trans hI.v_done, (hk 48 (by decide)).trans hI.k_done⟩, ⟨(hv 17).trans hI.v_letter, (hk 49 (by decide)).trans hI.k_letter⟩, ⟨(hv 18).trans hI.v_place, (hk 50 (by decide)).trans hI.k_place⟩, ⟨(hv 19).trans hI.v_bound, (hk 51 (by decide)).trans hI.k_bound⟩, ⟨(hv 20).trans hI.v_rawKind, (hk 52 (by decide)).trans hI.k_rawKind⟩, ⟨(hv 21).trans hI.v_rawSign, (hk 53 (by decide)).trans hI.k_rawSign⟩, ⟨(hv 22).trans hI.v_rawFirst, (hk 54 (by decide)).trans hI.k_rawFirst⟩, ⟨(hv 23).trans hI.v_rawSecond, (hk 55 (by decide)).trans hI.k_rawSecond⟩, ⟨(hv 24).trans hI.v_rawAt, (hk 56 (by decide)).trans hI.k_rawAt⟩, ⟨(hv 25).trans hI.v_kind, (hk 57 (by decide)).trans hI.k_kind⟩, ⟨(hv 26).trans hI.v_sign, (hk 58 (by decide)).trans hI.k_sign⟩, ⟨(hv 27).trans hI.v_first, (hk 59 (by decide)).trans hI.k_first⟩, ⟨(hv 28).trans hI.v_second, (hk 60 (by decide)).trans hI.k_second⟩, ⟨(hv 29).trans hI.v_up, (hk 61 (by decide)).trans hI.k_up⟩, ⟨(hv 30).trans hI.v_deep, (hk 62 (by decide)).trans hI.k_deep⟩, ⟨(hv 31).trans hI.v_at, (hk 63 (by decide)).trans hI.k_at⟩, ⟨(hv 32).trans hI.v_row, (hk 64 (by decide)).trans hI.k_row⟩, ⟨(hv 33).trans hI.v_rowUp, (hk 65 (by decide)).trans hI.k_rowUp⟩, ⟨(hv 37).trans hI.v_sort, (hk 66 (by decide)).trans hI.k_sort⟩, ⟨(hv 38).trans hI.v_from, (hk 67 (by decide)).trans hI.k_from⟩, ⟨(hv 39).trans hI.v_to, (hk 68 (by decide)).trans hI.k_to⟩, ⟨(hv 40).trans hI.v_link, (hk 69 (by decide)).trans hI.k_link⟩, ⟨(hv 41).trans hI.v_isNew, (hk 70 (by decide)).trans hI.k_isNew⟩, ⟨(hv 42).trans hI.v_seen, (hk 71 (by decide)).trans hI.k_seen⟩, ⟨(hv 43).trans hI.v_memo, (hk 72 (by decide)).trans hI.k_memo⟩, ⟨(hv 44).trans hI.v_orders, (hk 73 (by decide)).trans hI.k_orders⟩, ⟨(hv 45).trans hI.v_stack, (hk 74 (by decide)).trans hI.k_stack⟩, ⟨(hv 46).trans hI.v_left, (hk 75 (by decide)).trans hI.k_left⟩, ⟨(hv 47).trans hI.v_right, (hk 76 (by decide)).trans hI.k_right⟩, ⟨(hv 48).trans hI.v_ends, (hk 77 (by decide)).trans hI.k_ends⟩, ⟨(hv 56).trans hI.v_rowOfType, (hk 78 (by decide)).trans hI.k_rowOfType⟩, ⟨(hv 57).trans hI.v_one, (hk 79 (by decide)).trans hI.k_one⟩, ⟨(hv 58).trans hI.v_two, (hk 80 (by decide)).trans hI.k_two⟩, ⟨(hv 61).trans hI.v_named, (hk 81 (by decide)).trans hI.k_named⟩, ⟨(hv 62).trans hI.v_open, (hk 82 (by decide)).trans hI.k_open⟩, ⟨(hv 63).trans hI.v_got, (hk 83 (by decide)).trans hI.k_got⟩, ⟨(hv 64).trans hI.v_type, (hk 84 (by decide)).trans hI.k_type⟩, ⟨(hv 65).trans hI.v_own, (hk 85 (by decide)).trans hI.k_own⟩, ⟨(hv 66).trans hI.v_walk, (hk 86 (by decide)).trans hI.k_walk⟩, ⟨(hv 67).trans hI.v_phase, (hk 87 (by decide)).trans hI.k_phase⟩, ⟨(hv 70).trans hI.v_input, (hk 88 (by decide)).trans hI.k_input⟩, ⟨(hv 72).trans hI.v_cost, (hk 89 (by decide)).trans hI.k_cost⟩, ⟨(hv 78).trans hI.v_line, (hk 90 (by decide)).trans hI.k_line⟩, ⟨(hv 79).trans hI.v_acts, (hk 91 (by decide)).trans hI.k_acts⟩⟩
/-- what a call of the class leaves alone -/
def NQ (h h1 : AH) : Prop := h.n ≤ h1.n ∧ (∀ b, b < 94 → h1.kd b = h.kd b) ∧ (∀ b j, 42 ≤ b → b < 92 → h1.vl b j = h.vl b j) ∧ h1.cs ≤ h.cs + 2 ∧ h1.ss ≤ h.ss + 40
theorem CQ.nq {K : Nat} {h h1 : AH} (q : CQ K h h1) (hS : STR h) (hK : K ≤ 2 := by decide) : NQ h h1 := ⟨q.1, fun b hb => q.2.1 b (Nat.lt_of_lt_of_le hb hS.2.2.2.2), fun b j h1 h2 => q.2.2.1 b j h1 (by omega), by have := q.2.2.2.1; omega, by have := q.2.2.2.2; omega⟩
theorem NQ.pu {h h1 : AH} {x : Int} (q : NQ h h1) : NQ h (h1.put 92 0 x) := ⟨q.1, q.2.1, fun b j a1 a2 => by rw [AH.put_vl, if_neg (by omega)]; exact q.2.2.1 b j a1 a2, q.2.2.2.1, q.2.2.2.2⟩
theorem NQ.str {h h1 : AH} (q : NQ h h1) (hS : STR h) : STR h1 := ⟨(q.2.1 _ (by decide)).trans hS.1, (q.2.1 _ (by decide)).trans hS.2.1, (q.2.1 _ (by decide)).trans hS.2.2.1, (q.2.1 _ (by decide)).trans hS.2.2.2.1, Nat.le_trans hS.2.2.2.2 q.1⟩
theorem NQ.fr {h h1 : AH} (q : NQ h h1) (hF : FRr h) : FRr h1 := by
  obtain ⟨hI, hZ, ⟨g1, g2, g3, g4, g5, g6⟩, g7⟩ := hF
  have e : ∀ j, h1.vl 42 j = h.vl 42 j := fun j => q.2.2.1 42 j (by decide) (by decide)
  exact ⟨hI.of q.1 q.2.1 e, fun j => (q.2.2.1 43 j (by decide) (by decide)).trans (hZ j), ⟨(e _).trans g1, (e _).trans g2, (e _).trans g3, (e _).trans g4, (e _).trans g5, (e _).trans g6⟩, (e _).trans g7⟩
def J1 (h : AH) : Prop := h.cs ≤ 600006 ∧ h.ss ≤ 7302064
def RM (h : AH) : Prop := h.cs ≤ 600000 ∧ h.ss ≤ 7300000
theorem kp_end {h h1 h2 : AH} (hR : RM h) (hS : STR h) (hF : FRr h) (q : NQ h h1) (k : KP h1 h2 AR0 FR0) : RI h2 ∧ STR h2 ∧ J1 h2 := by
  have s1 := q.str hS
  have hc := q.2.2.2.1
  have hs := q.2.2.2.2
  obtain ⟨r1, r2⟩ := hR
  exact ⟨k.ri (q.fr hF).1 (by decide), ⟨by rw [k.2.1]; exact s1.1, by rw [k.2.1]; exact s1.2.1, by rw [k.2.1]; exact s1.2.2.1, by rw [k.2.1]; exact s1.2.2.2.1, by rw [k.1]; exact s1.2.2.2.2⟩, by rw [k.2.2.1]; omega, by rw [k.2.2.2.1]; omega⟩
/-- the reference throws as the class did -/
theorem x_thr {h h1 : AH} {Mm : MD} {bs : List AV} {Q2 : Int → AH → Prop} {k : Int} (hR : RM h) (hS : STR h) (hF : FRr h) (q : NQ h h1) (hk : k ≠ 0) (f : CV Mm 8 (rv 42 :: bs) h1 (oi Q2)) (hq : ∀ r h2, Q2 r h2 → KP h1 h2 AR0 FR0 ∧ h2.vl 42 0 = k) :
    STR h1 ∧ ∃ d2, d2 < 20 ∧ CV Mm d2 (rv 42 :: bs) h1 (oi fun b h2 => RI h2 ∧ STR h2 ∧ h2.vl 42 0 = k ∧ (k = 0 → h2.vl 92 0 = b) ∧ J1 h2) :=
  ⟨q.str hS, 8, by decide, cv_mono f fun o h2 z => by
    obtain ⟨x, rfl, z⟩ := z
    obtain ⟨z1, z2⟩ := hq _ _ z
    obtain ⟨e1, e2, e3⟩ := kp_end hR hS hF q z1
    exact ⟨x, rfl, e1, e2, z2, fun z => absurd z hk, e3⟩⟩
theorem x_thrb {h h1 : AH} {Mm : MD} {bs : List AV} {Q2 : Int → AH → Prop} {k : Int} (hR : RM h) (hS : STR h) (hF : FRr h) (q : NQ h h1) (hk : k ≠ 0) (f : CV Mm 8 (rv 42 :: bs) h1 (oi Q2)) (hq : ∀ r h2, Q2 r h2 → KP h1 h2 AR0 FR0 ∧ h2.vl 42 0 = k) :
    STR h1 ∧ ∃ d2, d2 < 20 ∧ CV Mm d2 (rv 42 :: bs) h1 (oi fun b h2 => RI h2 ∧ STR h2 ∧ h2.vl 42 0 = k ∧ (k = 0 → h2.vl 92 0 = b ∧ (b = 0 ∨ b = 1)) ∧ J1 h2) :=
  ⟨q.str hS, 8, by decide, cv_mono f fun o h2 z => by
    obtain ⟨x, rfl, z⟩ := z
    obtain ⟨z1, z2⟩ := hq _ _ z
    obtain ⟨e1, e2, e3⟩ := kp_end hR hS hF q z1
    exact ⟨x, rfl, e1, e2, z2, fun z => absurd z hk, e3⟩⟩
/-- the reference answers as the class did -/
theorem x_ans {h h1 : AH} {Mm : MD} {bs : List AV} {Q2 : Int → AH → Prop} {x : Int} (hR : RM h) (hS : STR h) (hF : FRr h) (q : NQ h h1) (f : CV Mm 8 (rv 42 :: bs) (h1.put 92 0 x) (oi Q2)) (hq : ∀ r h2, Q2 r h2 → KP (h1.put 92 0 x) h2 AR0 FR0 ∧ h2.vl 42 0 = 0 ∧ r = x) :
    STR (h1.put 92 0 x) ∧ ∃ d2, d2 < 20 ∧ CV Mm d2 (rv 42 :: bs) (h1.put 92 0 x) (oi fun b h2 => RI h2 ∧ STR h2 ∧ h2.vl 42 0 = 0 ∧ ((0 : Int) = 0 → h2.vl 92 0 = b) ∧ J1 h2) :=
  ⟨q.pu.str hS, 8, by decide, cv_mono f fun o h2 z => by
    obtain ⟨y, rfl, z⟩ := z
    obtain ⟨z1, z2, rfl⟩ := hq _ _ z
    obtain ⟨e1, e2, e3⟩ := kp_end hR hS hF q.pu z1
    exact ⟨y, rfl, e1, e2, z2, fun _ => (congrFun (z1.vl (r := 92) (by decide) (by decide)) 0).trans (by rw [AH.put_vl, if_pos ⟨rfl, rfl⟩]), e3⟩⟩
theorem x_ansb {h h1 : AH} {Mm : MD} {bs : List AV} {Q2 : Int → AH → Prop} {x : Int} (hx : x = 0 ∨ x = 1) (hR : RM h) (hS : STR h) (hF : FRr h) (q : NQ h h1) (f : CV Mm 8 (rv 42 :: bs) (h1.put 92 0 x) (oi Q2)) (hq : ∀ r h2, Q2 r h2 → KP (h1.put 92 0 x) h2 AR0 FR0 ∧ h2.vl 42 0 = 0 ∧ r = x) :
    STR (h1.put 92 0 x) ∧ ∃ d2, d2 < 20 ∧ CV Mm d2 (rv 42 :: bs) (h1.put 92 0 x) (oi fun b h2 => RI h2 ∧ STR h2 ∧ h2.vl 42 0 = 0 ∧ ((0 : Int) = 0 → h2.vl 92 0 = b ∧ (b = 0 ∨ b = 1)) ∧ J1 h2) :=
  ⟨q.pu.str hS, 8, by decide, cv_mono f fun o h2 z => by
    obtain ⟨y, rfl, z⟩ := z
    obtain ⟨z1, z2, rfl⟩ := hq _ _ z
    obtain ⟨e1, e2, e3⟩ := kp_end hR hS hF q.pu z1
    exact ⟨y, rfl, e1, e2, z2, fun _ => ⟨(congrFun (z1.vl (r := 92) (by decide) (by decide)) 0).trans (by rw [AH.put_vl, if_pos ⟨rfl, rfl⟩]), hx⟩, e3⟩⟩
theorem STR.k92 {h h1 : AH} (hS : STR h) (q : NQ h h1) : h1.kd 92 = (102, 1) ∧ 92 < h1.n := by
  have := q.str hS
  exact ⟨this.2.2.1, by have := this.2.2.2.2; omega⟩
theorem STR.k93 {h h1 : AH} (hS : STR h) (q : NQ h h1) : h1.kd 93 = (103, 1) ∧ 93 < h1.n := by
  have := q.str hS
  exact ⟨this.2.2.2.1, by have := this.2.2.2.2; omega⟩
theorem l_lesson {h : AH} (hFc : FRc h) (hFr : FRr h) (hS : STR h) (hR : RM h) : LC J1 mL_lesson [] mX11_lesson [] h :=
  ⟨19, by decide, w_lesson (by decide) (c_lesson hFc) hS.1 (Nat.lt_of_lt_of_le (by decide) hS.2.2.2.2) fun o h1 q => by
    obtain ⟨rfl, q⟩ := q
    have hN := q.nq hS
    exact ⟨hS.k92 hN, Or.inr (Or.inl ⟨rfl, x_thr hR hS hFr hN (by decide) (f_lesson (hN.fr hFr)) fun r h2 z => ⟨z.2.1, z.2.2⟩⟩)⟩⟩
theorem l_drop {p : Int} {h : AH} (hFc : FRc h) (hFr : FRr h) (hS : STR h) (hR : RM h) : LC J1 mL_drop [iv p] mX11_drop [iv p] h :=
  ⟨19, by decide, w_drop (by decide) (c_drop hFc) hS.1 (Nat.lt_of_lt_of_le (by decide) hS.2.2.2.2) fun o h1 q => by
    obtain ⟨rfl, q⟩ := q
    have hN := q.nq hS
    exact ⟨hS.k92 hN, Or.inr ⟨rfl, x_thr hR hS hFr hN (by decide) (f_drop (hN.fr hFr)) fun r h2 z => ⟨z.2.1, z.2.2⟩⟩⟩⟩
theorem l_keep {p q : Int} {h : AH} (hFc : FRc h) (hFr : FRr h) (hS : STR h) (hR : RM h) : LC J1 mL_keep [iv p, iv q] mX11_keep [iv p, iv q] h :=
  ⟨19, by decide, w_keep (by decide) (c_keep hFc) hS.1 (Nat.lt_of_lt_of_le (by decide) hS.2.2.2.2) fun o h1 q => by
    obtain ⟨rfl, q⟩ := q
    have hN := q.nq hS
    exact ⟨hS.k92 hN, Or.inr ⟨rfl, x_thr hR hS hFr hN (by decide) (f_keep (hN.fr hFr)) fun r h2 z => ⟨z.2.1, z.2.2⟩⟩⟩⟩
theorem l_unkeep {p : Int} {h : AH} (hFc : FRc h) (hFr : FRr h) (hS : STR h) (hR : RM h) : LC J1 mL_unkeep [iv p] mX11_unkeep [iv p] h :=
  ⟨19, by decide, w_unkeep (by decide) (c_unkeep hFc) hS.1 (Nat.lt_of_lt_of_le (by decide) hS.2.2.2.2) fun o h1 q => by
    obtain ⟨rfl, q⟩ := q
    have hN := q.nq hS
    exact ⟨hS.k92 hN, Or.inr ⟨rfl, x_thr hR hS hFr hN (by decide) (f_unkeep (hN.fr hFr)) fun r h2 z => ⟨z.2.1, z.2.2⟩⟩⟩⟩
theorem l_nodes {p : Int} {h : AH} (hFc : FRc h) (hFr : FRr h) (hS : STR h) (hR : RM h) : LC J1 mL_nodes [iv p] mX11_nodes [iv p] h :=
  ⟨19, by decide, w_nodes (by decide) (c_nodes hFc) hS.1 (Nat.lt_of_lt_of_le (by decide) hS.2.2.2.2) fun o h1 q => by
    obtain ⟨rfl, q⟩ := q
    have hN := q.nq hS
    exact ⟨hS.k92 hN, Or.inr ⟨rfl, x_thr hR hS hFr hN (by decide) (f_nodes (hN.fr hFr)) fun r h2 z => ⟨z.2.1, z.2.2⟩⟩⟩⟩
theorem l_nodeOf {p q r : Int} {h : AH} (hFc : FRc h) (hFr : FRr h) (hS : STR h) (hR : RM h) : LC J1 mL_nodeOf [iv p, iv q, iv r] mX11_nodeOf [iv p, iv q, iv r] h :=
  ⟨19, by decide, w_nodeOf (by decide) (c_nodeOf hFc) hS.1 (Nat.lt_of_lt_of_le (by decide) hS.2.2.2.2) fun o h1 q => by
    obtain ⟨rfl, q⟩ := q
    have hN := q.nq hS
    exact ⟨hS.k92 hN, Or.inr (Or.inl ⟨rfl, x_thr hR hS hFr hN (by decide) (f_nodeOf (hN.fr hFr)) fun r h2 z => ⟨z.2.1, z.2.2⟩⟩)⟩⟩
theorem l_signOf {p q : Int} {h : AH} (hFc : FRc h) (hFr : FRr h) (hS : STR h) (hR : RM h) : LC J1 mL_signOf [iv p, iv q] mX11_signOf [iv p, iv q] h :=
  ⟨19, by decide, w_signOf (by decide) (c_signOf hFc) hS.1 (Nat.lt_of_lt_of_le (by decide) hS.2.2.2.2) fun o h1 q => by
    obtain ⟨rfl, q⟩ := q
    have hN := q.nq hS
    exact ⟨hS.k92 hN, Or.inr (Or.inl ⟨rfl, x_thr hR hS hFr hN (by decide) (f_signOf (hN.fr hFr)) fun r h2 z => ⟨z.2.1, z.2.2⟩⟩)⟩⟩
theorem l_binder {p q : Int} {h : AH} (hFc : FRc h) (hFr : FRr h) (hS : STR h) (hR : RM h) : LC J1 mL_binder [iv p, iv q] mX11_binder [iv p, iv q] h :=
  ⟨19, by decide, w_binder (by decide) (c_binder hFc) hS.1 (Nat.lt_of_lt_of_le (by decide) hS.2.2.2.2) fun o h1 q => by
    obtain ⟨rfl, q⟩ := q
    have hN := q.nq hS
    exact ⟨hS.k92 hN, Or.inr (Or.inl ⟨rfl, x_thr hR hS hFr hN (by decide) (f_binder (hN.fr hFr)) fun r h2 z => ⟨z.2.1, z.2.2⟩⟩)⟩⟩
theorem l_uses {p q : Int} {h : AH} (hFc : FRc h) (hFr : FRr h) (hS : STR h) (hR : RM h) : LC J1 mL_uses [iv p, iv q] mX11_uses [iv p, iv q] h :=
  ⟨19, by decide, w_uses (by decide) (c_uses hFc) hS.1 (Nat.lt_of_lt_of_le (by decide) hS.2.2.2.2) fun o h1 q => by
    obtain ⟨rfl, q⟩ := q
    have hN := q.nq hS
    exact ⟨hS.k92 hN, Or.inr (Or.inl ⟨rfl, x_thr hR hS hFr hN (by decide) (f_uses (hN.fr hFr)) fun r h2 z => ⟨z.2.1, z.2.2⟩⟩)⟩⟩
theorem l_unbound {p : Int} {h : AH} (hFc : FRc h) (hFr : FRr h) (hS : STR h) (hR : RM h) : LC J1 mL_unbound [iv p] mX11_unbound [iv p] h :=
  ⟨19, by decide, w_unbound (by decide) (c_unbound hFc) hS.1 (Nat.lt_of_lt_of_le (by decide) hS.2.2.2.2) fun o h1 q => by
    obtain ⟨rfl, q⟩ := q
    have hN := q.nq hS
    exact ⟨hS.k92 hN, Or.inr ⟨rfl, x_thr hR hS hFr hN (by decide) (f_unbound (hN.fr hFr)) fun r h2 z => ⟨z.2.1, z.2.2⟩⟩⟩⟩
theorem l_isTyped {p : Int} {h : AH} (hFc : FRc h) (hFr : FRr h) (hS : STR h) (hR : RM h) : LCb J1 mL_isTyped [iv p] mX11_isTyped [iv p] h :=
  ⟨19, by decide, w_isTyped (by decide) (c_isTyped hFc) hS.1 (Nat.lt_of_lt_of_le (by decide) hS.2.2.2.2) fun o h1 q => by
    obtain ⟨rfl, q⟩ := q
    have hN := q.nq hS
    exact ⟨hS.k92 hN, Or.inr ⟨rfl, x_thrb hR hS hFr hN (by decide) (f_isTyped (hN.fr hFr)) fun r h2 z => ⟨z.2.1, z.2.2⟩⟩⟩⟩
theorem l_failure {p q : Int} {h : AH} (hFc : FRc h) (hFr : FRr h) (hS : STR h) (hR : RM h) : LC J1 mL_failure [iv p, iv q] mX11_failure [iv p, iv q] h :=
  ⟨19, by decide, w_failure (by decide) (c_failure hFc) hS.1 (Nat.lt_of_lt_of_le (by decide) hS.2.2.2.2) fun o h1 q => by
    obtain ⟨rfl, q⟩ := q
    have hN := q.nq hS
    exact ⟨hS.k92 hN, Or.inr (Or.inl ⟨rfl, x_thr hR hS hFr hN (by decide) (f_failure (hN.fr hFr)) fun r h2 z => ⟨z.2.1, z.2.2⟩⟩)⟩⟩
theorem l_typeOf {p q : Int} {h : AH} (hFc : FRc h) (hFr : FRr h) (hS : STR h) (hR : RM h) : LC J1 mL_typeOf [iv p, iv q] mX11_typeOf [iv p, iv q] h :=
  ⟨19, by decide, w_typeOf (by decide) (c_typeOf hFc) hS.1 (Nat.lt_of_lt_of_le (by decide) hS.2.2.2.2) fun o h1 q => by
    obtain ⟨rfl, q⟩ := q
    have hN := q.nq hS
    exact ⟨hS.k92 hN, Or.inr (Or.inl ⟨rfl, x_thr hR hS hFr hN (by decide) (f_typeOf (hN.fr hFr)) fun r h2 z => ⟨z.2.1, z.2.2⟩⟩)⟩⟩
theorem l_typeAgain {p q : Int} {h : AH} (hFc : FRc h) (hFr : FRr h) (hS : STR h) (hR : RM h) : LC J1 mL_typeAgain [iv p, iv q] mX11_typeAgain [iv p, iv q] h :=
  ⟨19, by decide, w_typeAgain (by decide) (c_typeAgain hFc) hS.1 (Nat.lt_of_lt_of_le (by decide) hS.2.2.2.2) fun o h1 q => by
    obtain ⟨rfl, q⟩ := q
    have hN := q.nq hS
    exact ⟨hS.k92 hN, Or.inr (Or.inl ⟨rfl, x_thr hR hS hFr hN (by decide) (f_typeAgain (hN.fr hFr)) fun r h2 z => ⟨z.2.1, z.2.2⟩⟩)⟩⟩
theorem l_nodeType {p q r : Int} {h : AH} (hFc : FRc h) (hFr : FRr h) (hS : STR h) (hR : RM h) : LC J1 mL_nodeType [iv p, iv q, iv r] mX11_nodeType [iv p, iv q, iv r] h :=
  ⟨19, by decide, w_nodeType (by decide) (c_nodeType hFc) hS.1 (Nat.lt_of_lt_of_le (by decide) hS.2.2.2.2) fun o h1 q => by
    obtain ⟨rfl, q⟩ := q
    have hN := q.nq hS
    exact ⟨hS.k92 hN, Or.inr (Or.inl ⟨rfl, x_thr hR hS hFr hN (by decide) (f_nodeType (hN.fr hFr)) fun r h2 z => ⟨z.2.1, z.2.2⟩⟩)⟩⟩
theorem l_isAlike {p q : Int} {h : AH} (hFc : FRc h) (hFr : FRr h) (hS : STR h) (hR : RM h) : LCb J1 mL_isAlike [iv p, iv q] mX11_isAlike [iv p, iv q] h :=
  ⟨19, by decide, w_isAlike (by decide) (c_isAlike hFc) hS.1 (Nat.lt_of_lt_of_le (by decide) hS.2.2.2.2) fun o h1 q => by
    obtain ⟨rfl, q⟩ := q
    have hN := q.nq hS
    exact ⟨hS.k92 hN, Or.inr (Or.inl ⟨rfl, x_thrb hR hS hFr hN (by decide) (f_isAlike (hN.fr hFr)) fun r h2 z => ⟨z.2.1, z.2.2⟩⟩)⟩⟩
theorem l_isAsGeneral {p q : Int} {h : AH} (hFc : FRc h) (hFr : FRr h) (hS : STR h) (hR : RM h) : LCb J1 mL_isAsGeneral [iv p, iv q] mX11_isAsGeneral [iv p, iv q] h :=
  ⟨19, by decide, w_isAsGeneral (by decide) (c_isAsGeneral hFc) hS.1 (Nat.lt_of_lt_of_le (by decide) hS.2.2.2.2) fun o h1 q => by
    obtain ⟨rfl, q⟩ := q
    have hN := q.nq hS
    exact ⟨hS.k92 hN, Or.inr (Or.inl ⟨rfl, x_thrb hR hS hFr hN (by decide) (f_isAsGeneral (hN.fr hFr)) fun r h2 z => ⟨z.2.1, z.2.2⟩⟩)⟩⟩
theorem l_fit {p q : Int} {h : AH} (hFc : FRc h) (hFr : FRr h) (hS : STR h) (hR : RM h) : LC J1 mL_fit [iv p, iv q] mX11_fit [iv p, iv q] h :=
  ⟨19, by decide, w_fit (by decide) (c_fit hFc) hS.1 (Nat.lt_of_lt_of_le (by decide) hS.2.2.2.2) fun o h1 q => by
    obtain ⟨rfl, q⟩ := q
    have hN := q.nq hS
    exact ⟨hS.k92 hN, Or.inr (Or.inl ⟨rfl, x_thr hR hS hFr hN (by decide) (f_fit (hN.fr hFr)) fun r h2 z => ⟨z.2.1, z.2.2⟩⟩)⟩⟩
theorem l_fitting {p : Int} {h : AH} (hFc : FRc h) (hFr : FRr h) (hS : STR h) (hR : RM h) : LC J1 mL_fitting [iv p] mX11_fitting [iv p] h :=
  ⟨19, by decide, w_fitting (by decide) (c_fitting hFc) hS.1 (Nat.lt_of_lt_of_le (by decide) hS.2.2.2.2) fun o h1 q => by
    obtain ⟨rfl, q⟩ := q
    have hN := q.nq hS
    exact ⟨hS.k92 hN, Or.inr (Or.inl ⟨rfl, x_thr hR hS hFr hN (by decide) (f_fitting (hN.fr hFr)) fun r h2 z => ⟨z.2.1, z.2.2⟩⟩)⟩⟩
theorem l_isKept {p : Int} {h : AH} (hFc : FRc h) (hFr : FRr h) (hS : STR h) (hR : RM h) : LCb J1 mL_isKept [iv p] mX11_isKept [iv p] h :=
  ⟨19, by decide, w_isKept (by decide) (c_isKept hFc) hS.1 (Nat.lt_of_lt_of_le (by decide) hS.2.2.2.2) fun o h1 q => by
    rcases q with ⟨rfl, hp, q⟩ | ⟨rfl, hp, q⟩
    · skip
      have hN := q.nq hS
      exact ⟨hS.k92 hN, Or.inl ⟨_, rfl, Or.inl rfl, x_ansb (Or.inl rfl) hR hS hFr hN (f_isKept (hN.pu.fr hFr)) fun r h2 z => ⟨z.2.1, z.2.2.trans (if_pos hp), z.1⟩⟩⟩
    · skip
      have hN := q.nq hS
      exact ⟨hS.k92 hN, Or.inr ⟨rfl, x_thrb hR hS hFr hN (by decide) (f_isKept (hN.fr hFr)) fun r h2 z => ⟨z.2.1, z.2.2.trans (if_neg hp)⟩⟩⟩⟩
theorem l_largest {h : AH} (hFc : FRc h) (hFr : FRr h) (hS : STR h) (hR : RM h) : LC J1 mL_largest [] mX11_largest [] h :=
  ⟨19, by decide, w_largest (by decide) (c_largest hFc) hS.1 (Nat.lt_of_lt_of_le (by decide) hS.2.2.2.2) fun o h1 q => by
    obtain ⟨rfl, q⟩ := q
    have hN := q.nq hS
    exact ⟨hS.k92 hN, Or.inr ⟨rfl, x_thr hR hS hFr hN (by decide) (f_largest (hN.fr hFr)) fun r h2 z => ⟨z.2.1, z.2.2⟩⟩⟩⟩
theorem l_ranked {p : Int} {h : AH} (hFc : FRc h) (hFr : FRr h) (hS : STR h) (hR : RM h) : LC J1 mL_ranked [iv p] mX11_ranked [iv p] h :=
  ⟨19, by decide, w_ranked (by decide) (c_ranked hFc) hS.1 (Nat.lt_of_lt_of_le (by decide) hS.2.2.2.2) fun o h1 q => by
    obtain ⟨rfl, q⟩ := q
    have hN := q.nq hS
    exact ⟨hS.k92 hN, Or.inr ⟨rfl, x_thr hR hS hFr hN (by decide) (f_ranked (hN.fr hFr)) fun r h2 z => ⟨z.2.1, z.2.2⟩⟩⟩⟩
theorem l_append {p : Int} {h : AH} (hFc : FRc h) (hFr : FRr h) (hS : STR h) (hR : RM h) : LC J1 mL_append [iv p] mX11_append [iv p] h :=
  ⟨19, by decide, w_append (by decide) (c_append hFc) hS.1 (Nat.lt_of_lt_of_le (by decide) hS.2.2.2.2) fun o h1 q => by
    rcases q with ⟨hp, rfl, q⟩ | ⟨hp, rfl, q⟩
    · have hN := q.nq hS
      exact ⟨hS.k92 hN, Or.inr (Or.inl ⟨rfl, x_thr hR hS hFr hN (by decide) (f_append (hN.fr hFr)) fun r h2 z => ⟨z.1, z.2.elim (fun z => z.2.2) (fun z => absurd z.1 (by omega))⟩⟩)⟩
    · have hN := q.nq hS
      refine ⟨hS.k92 hN, Or.inl ⟨_, rfl, x_ans hR hS hFr hN (f_append (hN.pu.fr hFr)) fun r h2 z => ?_⟩⟩
      rcases z with ⟨z0, ⟨z, -, -⟩ | ⟨-, z1, z2⟩⟩
      · exact absurd hp z
      · exact ⟨z0, z2, z1⟩⟩
theorem l_run {h : AH} (hFc : FRc h) (hFr : FRr h) (hS : STR h) (hR : RM h) : LC J1 mL_run [] mX11_run [] h :=
  ⟨19, by decide, w_run (by decide) (c_run hFc) hS.1 (Nat.lt_of_lt_of_le (by decide) hS.2.2.2.2) fun o h1 q => by
    obtain ⟨rfl, q⟩ := q
    have hN := q.nq hS
    exact ⟨hS.k92 hN, Or.inr (Or.inl ⟨rfl, x_thr hR hS hFr hN (by decide) (f_run (hN.fr hFr)) fun r h2 z => ⟨z.2.1, z.2.2⟩⟩)⟩⟩
theorem l_reason {p q : Int} {h : AH} (hFc : FRc h) (hFr : FRr h) (hS : STR h) (hR : RM h) : LC J1 mL_reason [iv p, iv q] mX11_reason [iv p, iv q] h :=
  ⟨19, by decide, w_reason (by decide) (c_reason hFc) hS.1 (Nat.lt_of_lt_of_le (by decide) hS.2.2.2.2) fun o h1 q => by
    rcases q with ⟨hp, rfl, q⟩ | ⟨hp, rfl, q⟩
    · skip
      have hN := q.nq hS
      exact ⟨hS.k92 hN, Or.inr (Or.inl ⟨rfl, x_thr hR hS hFr hN (by decide) (f_reason (hN.fr hFr)) fun r h2 z => ⟨z.2.1, z.2.2.trans (if_neg hp)⟩⟩)⟩
    · skip
      have hN := q.nq hS
      exact ⟨hS.k92 hN, Or.inr (Or.inr ⟨rfl, x_thr hR hS hFr hN (by decide) (f_reason (hN.fr hFr)) fun r h2 z => ⟨z.2.1, z.2.2.trans (if_pos hp)⟩⟩)⟩⟩
theorem l_tell {p : Int} {h : AH} (hFc : FRc h) (hFr : FRr h) (hS : STR h) (hR : RM h) : LC J1 mL_tell [iv p] mX11_tell [iv p] h :=
  ⟨19, by decide, w_tell (by decide) (c_tell hFc) hS.1 (Nat.lt_of_lt_of_le (by decide) hS.2.2.2.2) fun o h1 q => by
    obtain ⟨rfl, q⟩ := q
    have hN := q.nq hS
    exact ⟨hS.k92 hN, Or.inr (Or.inl ⟨rfl, x_thr hR hS hFr hN (by decide) (f_tell (hN.fr hFr)) fun r h2 z => ⟨z.2.1, z.2.2⟩⟩)⟩⟩
theorem l_tellNode {p q : Int} {h : AH} (hFc : FRc h) (hFr : FRr h) (hS : STR h) (hR : RM h) : LC J1 mL_tellNode [iv p, iv q] mX11_tellNode [iv p, iv q] h :=
  ⟨19, by decide, w_tellNode (by decide) (c_tellNode hFc) hS.1 (Nat.lt_of_lt_of_le (by decide) hS.2.2.2.2) fun o h1 q => by
    obtain ⟨rfl, q⟩ := q
    have hN := q.nq hS
    exact ⟨hS.k92 hN, Or.inr (Or.inl ⟨rfl, x_thr hR hS hFr hN (by decide) (f_tellNode (hN.fr hFr)) fun r h2 z => ⟨z.2.1, z.2.2⟩⟩)⟩⟩
theorem l_tellKept {p : Int} {h : AH} (hFc : FRc h) (hFr : FRr h) (hS : STR h) (hR : RM h) : LC J1 mL_tellKept [iv p] mX11_tellKept [iv p] h :=
  ⟨19, by decide, w_tellKept (by decide) (c_tellKept hFc) hS.1 (Nat.lt_of_lt_of_le (by decide) hS.2.2.2.2) fun o h1 q => by
    rcases q with ⟨rfl, hp, q⟩ | ⟨rfl, hp, q⟩
    · skip
      have hN := q.nq hS
      exact ⟨hS.k92 hN, Or.inr (Or.inr ⟨rfl, x_thr hR hS hFr hN (by decide) (f_tellKept (hN.fr hFr)) fun r h2 z => ⟨z.2.1, z.2.2.trans (if_pos hp)⟩⟩)⟩
    · skip
      have hN := q.nq hS
      exact ⟨hS.k92 hN, Or.inr (Or.inl ⟨rfl, x_thr hR hS hFr hN (by decide) (f_tellKept (hN.fr hFr)) fun r h2 z => ⟨z.2.1, z.2.2.trans (if_neg hp)⟩⟩)⟩⟩
theorem l_tellTerm {p : Int} {h : AH} (hFc : FRc h) (hFr : FRr h) (hS : STR h) (hR : RM h) : LC J1 mL_tellTerm [iv p] mX11_tellTerm [iv p] h :=
  ⟨19, by decide, w_tellTerm (by decide) (c_tellTerm hFc) hS.1 (Nat.lt_of_lt_of_le (by decide) hS.2.2.2.2) fun o h1 q => by
    obtain ⟨rfl, q⟩ := q
    have hN := q.nq hS
    exact ⟨hS.k92 hN, Or.inr ⟨rfl, x_thr hR hS hFr hN (by decide) (f_tellTerm (hN.fr hFr)) fun r h2 z => ⟨z.2.1, z.2.2⟩⟩⟩⟩
theorem l_character {p : Int} {h : AH} (hFc : FRc h) (hFr : FRr h) (hS : STR h) (hR : RM h) : LC J1 mL_character [iv p] mX11_character [iv p] h :=
  ⟨19, by decide, w_character (by decide) (c_character hFc) hS.1 (Nat.lt_of_lt_of_le (by decide) hS.2.2.2.2) fun o h1 q => by
    obtain ⟨rfl, q⟩ := q
    have hN := q.nq hS
    exact ⟨hS.k92 hN, Or.inr ⟨rfl, x_thr hR hS hFr hN (by decide) (f_character (hN.fr hFr)) fun r h2 z => ⟨z.2.1, z.2.2⟩⟩⟩⟩
theorem l_account {p : Int} {h : AH} (hFc : FRc h) (hFr : FRr h) (hS : STR h) (hR : RM h) : LC J1 mL_account [iv p] mX11_account [iv p] h :=
  ⟨19, by decide, w_account (by decide) (c_account hFc) hS.1 (Nat.lt_of_lt_of_le (by decide) hS.2.2.2.2) fun o h1 q => by
    rcases q with ⟨hp, rfl, q⟩ | ⟨hp, rfl, q⟩
    · skip
      have hN := q.nq hS
      exact ⟨hS.k92 hN, Or.inl ⟨_, rfl, x_ans hR hS hFr hN (f_account (hN.pu.fr hFr)) fun r h2 z => ⟨z.2.1, z.2.2.trans (if_pos hp), z.1⟩⟩⟩
    · skip
      have hN := q.nq hS
      exact ⟨hS.k92 hN, Or.inr ⟨rfl, x_thr hR hS hFr hN (by decide) (f_account (hN.fr hFr)) fun r h2 z => ⟨z.2.1, z.2.2.trans (if_neg hp)⟩⟩⟩⟩
theorem l_meanSize {h : AH} (hFc : FRc h) (hFr : FRr h) (hS : STR h) (hR : RM h) : LCd J1 mL_meanSize mX11_meanSize h :=
  ⟨19, by decide, w_meanSize (by decide) (c_meanSize hFc) hS.1 (Nat.lt_of_lt_of_le (by decide) hS.2.2.2.2) fun o h1 q => by
    obtain ⟨rfl, q⟩ := q
    have hN := q.nq hS
    refine ⟨hS.k93 hN, Or.inr ⟨rfl, hN.str hS, 8, by decide, cv_mono (f_meanSize (hN.fr hFr)) fun o h2 z => ?_⟩⟩
    obtain ⟨w, rfl, z1, z2⟩ := z
    obtain ⟨e1, e2, e3⟩ := kp_end hR hS hFr hN z1
    exact ⟨w, rfl, e1, e2, z2, fun z => absurd z (by decide), e3⟩⟩
theorem l_typedShare {h : AH} (hFc : FRc h) (hFr : FRr h) (hS : STR h) (hR : RM h) : LCf J1 mL_typedShare mX11_typedShare h :=
  ⟨19, by decide, w_typedShare (by decide) (c_typedShare hFc) hS.1 (Nat.lt_of_lt_of_le (by decide) hS.2.2.2.2) fun o h1 q => by
    obtain ⟨rfl, q⟩ := q
    have hN := q.nq hS
    refine ⟨hS.k93 hN, Or.inr ⟨rfl, hN.str hS, 8, by decide, cv_mono (f_typedShare (hN.fr hFr)) fun o h2 z => ?_⟩⟩
    obtain ⟨w, rfl, z1, z2⟩ := z
    obtain ⟨e1, e2, e3⟩ := kp_end hR hS hFr hN z1
    exact ⟨w, rfl, e1, e2, z2, fun z => absurd z (by decide), e3⟩⟩
theorem l_undo {h : AH} (hFc : FRc h) (hFr : FRr h) (hS : STR h) (hR : RM h) : LC J1 mL_undo [] mX11_undo [] h :=
  ⟨19, by decide, w_undo (by decide) (c_undo hFc) hS.1 (Nat.lt_of_lt_of_le (by decide) hS.2.2.2.2) fun o h1 q => by
    obtain ⟨rfl, q⟩ := q
    have hN := q.nq hS
    exact ⟨hS.k92 hN, Or.inr ⟨rfl, x_thr hR hS hFr hN (by decide) (f_undo (hN.fr hFr)) fun r h2 z => ⟨z.2.1, z.2.2⟩⟩⟩⟩
theorem l_restore {h : AH} (hFc : FRc h) (hFr : FRr h) (hS : STR h) (hR : RM h) : LC J1 mL_restore [] mX11_restore [] h :=
  ⟨19, by decide, w_restore (by decide) (c_restore hFc) hS.1 (Nat.lt_of_lt_of_le (by decide) hS.2.2.2.2) fun o h1 q => by
    obtain ⟨rfl, q⟩ := q
    have hN := q.nq hS
    exact ⟨hS.k92 hN, Or.inr ⟨rfl, x_thr hR hS hFr hN (by decide) (f_restore (hN.fr hFr)) fun r h2 z => ⟨z.2.1, z.2.2⟩⟩⟩⟩
theorem l_isTold {h : AH} (hFc : FRc h) (hFr : FRr h) (hS : STR h) (hR : RM h) : LCx J1 mX10_isTold mX11_isTold h := ⟨8, by decide, cv_mono (c_isTold hFc) fun o h1 q => by
    obtain ⟨x, rfl, rfl, q⟩ := q
    have hN := q.nq hS
    refine ⟨_, rfl, hN.str hS, 8, by decide, cv_mono (f_isTold (hN.fr hFr)) fun o h2 z => ?_⟩
    obtain ⟨y, rfl, rfl, z⟩ := z
    obtain ⟨e1, e2, e3⟩ := kp_end hR hS hFr hN z
    exact ⟨_, rfl, rfl, e1, e2, e3⟩⟩
theorem l_faultPosition {h : AH} (hFc : FRc h) (hFr : FRr h) (hS : STR h) (hR : RM h) : LCx J1 mX10_faultPosition mX11_faultPosition h := ⟨8, by decide, cv_mono (c_faultPosition hFc) fun o h1 q => by
    obtain ⟨x, rfl, rfl, q⟩ := q
    have hN := q.nq hS
    refine ⟨_, rfl, hN.str hS, 8, by decide, cv_mono (f_faultPosition (hN.fr hFr)) fun o h2 z => ?_⟩
    obtain ⟨y, rfl, rfl, z⟩ := z
    obtain ⟨e1, e2, e3⟩ := kp_end hR hS hFr hN z
    exact ⟨_, rfl, rfl, e1, e2, e3⟩⟩
theorem l_save {h : AH} (hFc : FRc h) (hFr : FRr h) (hS : STR h) (hR : RM h) : LCx J1 mX10_save mX11_save h := ⟨8, by decide, cv_mono (c_save hFc) fun o h1 q => by
    obtain ⟨x, rfl, rfl, q⟩ := q
    have hN := q.nq hS
    refine ⟨_, rfl, hN.str hS, 8, by decide, cv_mono (f_save (hN.fr hFr)) fun o h2 z => ?_⟩
    obtain ⟨y, rfl, rfl, z⟩ := z
    obtain ⟨e1, e2, e3⟩ := kp_end hR hS hFr hN z
    exact ⟨_, rfl, rfl, e1, e2, e3⟩⟩
set_option maxRecDepth 1000000 in
theorem hl_STR : STR hLaw := by unfold STR; decide +kernel
set_option maxRecDepth 1000000 in
theorem hl_RI : RI hLaw := by unfold RI; and_intros <;> decide +kernel
set_option maxRecDepth 1000000 in
theorem hl_CI : CI hLaw := by unfold CI; and_intros <;> decide +kernel
set_option maxRecDepth 1000000 in
theorem hl_RM : RM hLaw := by unfold RM; decide +kernel
set_option maxRecDepth 1000000 in
theorem hl_fs : (hLaw.vl 31 2 = 0 ∧ hLaw.vl 31 3 = 0 ∧ hLaw.vl 31 4 = 0) ∧ hLaw.vl 0 10 = 0 ∧ hLaw.vl 0 11 = -1 ∧ hLaw.vl 0 12 = -1 ∧ hLaw.vl 40 2 = 0 := by decide +kernel
set_option maxRecDepth 1000000 in
theorem hl_sb : SBI hLaw 1 2 16 0 ∧ SBI hLaw 3 4 16 0 := by unfold SBI; decide +kernel
set_option maxRecDepth 1000000 in
theorem hl_fr : (hLaw.vl 42 3 = 0 ∧ hLaw.vl 42 5 = 0 ∧ hLaw.vl 42 2 = 0 ∧ hLaw.vl 42 10 = 0 ∧ hLaw.vl 42 71 = 0 ∧ hLaw.vl 42 80 = 0) ∧ hLaw.vl 42 9 = -1 := by decide +kernel
set_option maxRecDepth 1000000 in
theorem hl_32 (j : Nat) : hLaw.vl 32 j = -1 := rfl
set_option maxRecDepth 1000000 in
theorem hl_33 (j : Nat) : hLaw.vl 33 j = -1 := rfl
set_option maxRecDepth 1000000 in
theorem hl_43 (j : Nat) : hLaw.vl 43 j = 0 := rfl
theorem hl_FRc : FRc hLaw := ⟨hl_CI, hl_fs.1, hl_sb, ⟨hl_32, hl_33⟩, hl_fs.2.1, hl_fs.2.2.1, hl_fs.2.2.2.1, hl_fs.2.2.2.2⟩
theorem hl_FRr : FRr hLaw := ⟨hl_RI, hl_43, hl_fr.1, hl_fr.2⟩
theorem hl_law : LAWH J1 hLaw := ⟨l_lesson hl_FRc hl_FRr hl_STR hl_RM, fun _ _ => l_drop hl_FRc hl_FRr hl_STR hl_RM, fun _ _ _ _ => l_keep hl_FRc hl_FRr hl_STR hl_RM, fun _ _ => l_unkeep hl_FRc hl_FRr hl_STR hl_RM, fun _ _ => l_nodes hl_FRc hl_FRr hl_STR hl_RM, fun _ _ _ _ _ _ => l_nodeOf hl_FRc hl_FRr hl_STR hl_RM, fun _ _ _ _ => l_signOf hl_FRc hl_FRr hl_STR hl_RM, fun _ _ _ _ => l_binder hl_FRc hl_FRr hl_STR hl_RM, fun _ _ _ _ => l_uses hl_FRc hl_FRr hl_STR hl_RM, fun _ _ => l_unbound hl_FRc hl_FRr hl_STR hl_RM, fun _ _ => l_isTyped hl_FRc hl_FRr hl_STR hl_RM, fun _ _ _ _ => l_failure hl_FRc hl_FRr hl_STR hl_RM, fun _ _ _ _ => l_typeOf hl_FRc hl_FRr hl_STR hl_RM, fun _ _ _ _ => l_typeAgain hl_FRc hl_FRr hl_STR hl_RM, fun _ _ _ _ _ _ => l_nodeType hl_FRc hl_FRr hl_STR hl_RM, fun _ _ _ _ => l_isAlike hl_FRc hl_FRr hl_STR hl_RM, fun _ _ _ _ => l_isAsGeneral hl_FRc hl_FRr hl_STR hl_RM, fun _ _ _ _ => l_fit hl_FRc hl_FRr hl_STR hl_RM, fun _ _ => l_fitting hl_FRc hl_FRr hl_STR hl_RM, fun _ _ => l_isKept hl_FRc hl_FRr hl_STR hl_RM, l_largest hl_FRc hl_FRr hl_STR hl_RM, fun _ _ => l_ranked hl_FRc hl_FRr hl_STR hl_RM, l_isTold hl_FRc hl_FRr hl_STR hl_RM, fun _ _ => l_append hl_FRc hl_FRr hl_STR hl_RM, l_run hl_FRc hl_FRr hl_STR hl_RM, l_faultPosition hl_FRc hl_FRr hl_STR hl_RM, fun _ _ _ _ => l_reason hl_FRc hl_FRr hl_STR hl_RM, fun _ _ => l_tell hl_FRc hl_FRr hl_STR hl_RM, fun _ _ _ _ => l_tellNode hl_FRc hl_FRr hl_STR hl_RM, fun _ _ => l_tellKept hl_FRc hl_FRr hl_STR hl_RM, fun _ _ => l_tellTerm hl_FRc hl_FRr hl_STR hl_RM, fun _ _ => l_character hl_FRc hl_FRr hl_STR hl_RM, fun _ _ => l_account hl_FRc hl_FRr hl_STR hl_RM, l_meanSize hl_FRc hl_FRr hl_STR hl_RM, l_typedShare hl_FRc hl_FRr hl_STR hl_RM, l_undo hl_FRc hl_FRr hl_STR hl_RM, l_save hl_FRc hl_FRr hl_STR hl_RM, l_restore hl_FRc hl_FRr hl_STR hl_RM, ⟨by have := hl_RM.1; omega, by have := hl_RM.2; omega⟩⟩
