/-! the class goes through a term the first way -/
theorem len_sh : ∀ {T : TE} {D : List Nd}, shT T D → D.length + 1 ≤ 2 * wtL D
  | .var _, D, ⟨x, e, hx⟩ => by
    rw [e]
    show 1 + 1 ≤ 2 * (wtC x + 0)
    unfold wtC
    rw [if_pos hx]
    decide
  | .op a b, D, h => by
    rcases h with ⟨x, D1, e, hx, h1⟩ | ⟨x, D1, D2, e, hx, h1, h2⟩
    · have := len_sh h1
      rw [e, List.length_cons]
      show _ ≤ 2 * (wtC x + wtL D1)
      unfold wtC
      rw [if_neg (by omega), if_neg (by omega), if_pos hx]
      omega
    · have := len_sh h1
      have := len_sh h2
      rw [e, List.length_cons, List.length_append]
      show _ ≤ 2 * (wtC x + wtL (D1 ++ D2))
      rw [wtL_app]
      omega
theorem NV.len9 {h : AH} {N : Nat} {LL : Nat → List Nd} {l : Nat} (hN : NV h N LL) (hl : l < N) : (LL l).length ≤ 119 := by
  obtain ⟨T, hT⟩ := hN.sh hl
  obtain ⟨n, a, b, c⟩ := hN.2.2 l hl
  have := rd_wt (c := fun j => h.vl 43 (3 + 61 * l + 1 + j)) (n := n)
  rw [c] at this
  have w : wtL (LL l) ≤ n := this
  have := len_sh hT
  omega
section GtT
variable {L : List Nd} {kp : Nat → Option TE} {tc : Nat} {h : AH} {a K : Nat → Nat}
/-- what going through tells -/
def GtQ (h0 : AH) (a0 K0 : Nat → Nat) (L : List Nd) (kp : Nat → Option TE) (tc : Nat) (x : Int) (h1 : AH) : Prop := ∃ (r : IR) (S : IS), fnR L kp r S ∧ x = (if r.1 = 0 then 1 else 0) ∧ (r.1 ≠ 0 → FaC h0 a0 K0 L kp tc r h1) ∧ (r.1 = 0 → ∃ (N : Nat) (T : Nat → TE) (τ : Nat → Nat) (sc : Nat) (gz lz : Int) (fv : Nat → Int) (yl c : Nat) (a1 K1 : Nat → Nat), AtC h0 a0 K0 L kp tc S (fun k => k < L.length) (fun _ => False) (fun _ => False) N T τ sc [] gz lz fv yl (c : Int) h1 a1 K1 ∧ (c < N ∧ T c = S.2.1 0) ∧ N ≤ 40000 ∧ sc ≤ 11)
set_option maxRecDepth 100000 in
theorem s_goThr1 (g : YA h a K) (hK : KEq K) (hf : FSc h a) (hT : TmX h a (FX h) tc L) (hk : KpC h a (FX h) kp) {T0 : TE} (hs : shT T0 L) (ht0 : ht T0 ≤ 130) (hnd : ∀ x ∈ L, ndOK x) (hkp : ∀ c R, kp c = some R → ∀ x, 2 ≤ x → oc x R = true → x < 210) (hL : L.length ≤ 119) (hne : L ≠ []) (hle : nle L ≤ 11) :
    CV mX0_goThrough 9 [rv 8, rv (tc : Int), rv 31, iv 0] h (oi fun x h1 => GtQ h a K L kp tc x h1) := by
  refine cv_of cdX0_goThrough ?_
  show EV _ _ 0 [rv 8, rv (tc : Int), rv 31, iv 0, uv, uv] [] h _
  refine ev_aload_n dX0_goThrough_0 rfl ?_
  refine ev_iload_n dX0_goThrough_1 rfl ?_
  refine ev_cvv dX0_goThrough_2 lX0_41 (s_begin (z := 0) g (Or.inl rfl) hK) (by decide) g.1.k8 g.1.n8 rfl rfl rfl (Nat.le_of_ble_eq_true rfl) rfl (fun h1 q => ?_)
  obtain ⟨a1, K1, c1, k1, s1, p1, l1, t1, f1, v6, v7, v9⟩ := q
  have g1 := s1.1
  have xf : ∀ y, FdX y → FX h y := fun y z => by
    have z : y = 8 ∨ (19 ≤ y ∧ y ≤ 23) := z
    exact z.imp id (fun w => Or.inl (by omega))
  obtain ⟨F1, o1⟩ := hf.px g c1 (by decide) fdx_ok.2
  have e26 : h1.vl 26 = h.vl 26 := c1.v (g.no (by decide)) (by decide)
  have FR : FrW h a K L kp tc h1 a1 K1 := ⟨⟨0, c1.wk (by decide) (by decide) xf (Nat.le_refl 0), by unfold snn; rw [e26, Nat.zero_add]⟩, F1, fun c z => Or.inr (Or.inr (Or.inl ((o1 c).mp z))), hT.xt c1 xf, hk.xt g c1 xf, v7⟩
  have q1 : AtC h a K L kp tc IS0 (fun _ => False) (fun _ => False) (fun _ => False) 2 (fun c => .var c) (fun c => c) 0 [(0, 0, -1)] 0 0 (h1.vl 23) (YL h1 a1 2) (h1.vl 8 8) h1 a1 K1 := ⟨FR, ⟨s1, p1, fun k z => z.elim, fun k z => z.elim, fun b z => z.elim, v6⟩, t1, f1, ⟨v9, l1⟩, rfl, rfl, rfl⟩
  have yl2 : YL h1 a1 2 ≤ 2 := cU_N 2
  have nl9 := nlv_sh hs
  have anc0 : ancN L 0 = [] := by
    unfold ancN
    rw [TBL_610 hne]
    rfl
  have env0 : ∀ k, k ∈ envN L 0 → False := fun k hk => by
    have := (env_mem.mp hk).1
    rw [anc0] at this
    exact absurd this List.not_mem_nil
  refine ev_iconst dX0_goThrough_5 ?_
  refine ev_ist4 dX0_goThrough_6 ?_
  refine cw_tree (by omega) hnd hkp T0 130 [] L [] ht0 (by rw [List.append_nil]; rfl) hs IS0 (fun _ => False) (fun _ => False) (fun _ => False) 2 _ _ 0 [] 0 0 (h1.vl 23) (YL h1 a1 2) (h1.vl 8 8) 0 h1 a1 K1 uv q1 (fun b hb => ?_) (fun b z => z.elim) ⟨fun k hk => False.elim (env0 k hk), fun b hb => ?_, fun x hx => Bool.noConfusion hx, Nat.le_refl _⟩ (by omega) (by rw [List.length_nil]; omega) (by omega) (by omega) (by omega) (by omega) (fun h4 S' r N1 a4 K4 T4 τ4 lz4 fv4 yl4 i4 c4 v5 i1 i2 q4 f4 c4' m1 m2 m3 => ?_) (fun h4 S' r i4 v5 i1 i2 q4 => ?_)
  · rw [show ([] : List Nd).length = 0 from rfl, anc0] at hb
    exact absurd hb List.not_mem_nil
  · rw [show ([] : List Nd).length = 0 from rfl, anc0] at hb
    exact absurd hb List.not_mem_nil
  · have g4 := q4.1.g
    have f10 := q4.2.2.2.1.1
    have h94 := q4.2.2.2.2.1.1
    have i2' : r = (0, -1, -1, -1) ∨ True := Or.inr trivial
    have Q4 : AtC h a K L kp tc S' (fun k => k < L.length) (fun _ => False) (fun _ => False) N1 T4 τ4 (0 + nle L) [] (0 + (L.length : Int)) lz4 fv4 yl4 (c4 : Int) h4 a4 K4 := ⟨q4.1, q4.2.1.wk (fun k hk => Or.inr ⟨Nat.zero_le _, by show k < 0 + L.length; omega⟩) (fun _ z => z) (fun _ z => z), q4.2.2⟩
    refine ev_iload dX0_goThrough_8 rfl ?_
    refine ev_ldci (x := 1000000) dX0_goThrough_10 q_kst1 (by decide) (by unfold ir; omega) ?_
    refine ev_icmpge 74 dX0_goThrough_12 (fun h_no => (by exfalso; omega)) (fun hb => ?_)
    refine ev_aload_n dX0_goThrough_15 rfl ?_
    refine ev_cvi dX0_goThrough_16 lX0_46 (s_isGoing g4 q4.2.2.1 f10 h94) (by decide) g4.1.k8 g4.1.n8 rfl rfl rfl (Nat.le_of_ble_eq_true rfl) rfl (fun r z q9 => ?_)
    obtain ⟨r1, eq⟩ := q9
    rw [r1, eq, if_neg (fun z => z.1 rfl)]
    refine ev_ifeq 74 dX0_goThrough_19 (fun hb2 => ?_) (fun h_no => (by exfalso; omega))
    refine ev_iconst dX0_goThrough_74 ?_
    refine ev_ist4 dX0_goThrough_75 ?_
    refine ev_mono (gt_sizes (by omega) (by omega) (by omega) (by omega) (fun k z => z) L.length 0 h4 a4 K4 (Nat.zero_add _) Q4) fun o h5 q5 => ?_
    obtain ⟨x, rfl, q5⟩ := q5
    refine ⟨x, rfl, mxR S' L.length 0, S', ⟨_, i1, fun z => absurd i2 z, fun _ => rfl⟩, ?_⟩
    rcases q5 with ⟨u1, u2, a5, K5, u3⟩ | ⟨u1, u2, u3⟩
    · have e : mxR S' L.length 0 = (0, -1, -1, -1) := by unfold mxR; rw [if_pos u1]
      rw [e]
      exact ⟨u2, fun z => absurd rfl z, fun _ => ⟨N1, T4, τ4, _, _, _, _, _, c4, a5, K5, u3, ⟨c4'.1, c4'.2.1⟩, by omega, by omega⟩⟩
    · have e : mxR S' L.length 0 = (10, mxS S' L.length 0, -1, -1) := by unfold mxR; rw [if_neg (by omega)]
      rw [e]
      exact ⟨u2, fun _ => u3, fun z => absurd (show (10 : Int) = 0 from z) (by decide)⟩
  · refine ev_mono (gt_fail q4 i2) fun o h5 q5 => ?_
    obtain ⟨x, rfl, rfl, rfl⟩ := q5
    exact ⟨0, rfl, r, S', ⟨r, i1, fun _ => rfl, fun z => absurd z i2⟩, by rw [if_neg i2], fun _ => q4, fun z => absurd z i2⟩
end GtT
