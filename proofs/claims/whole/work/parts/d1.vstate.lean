/-! the state as a row of numbers, and what changes do to it -/
def NVv (v : Nat → Int) (N : Nat) (LL : Nat → List Nd) : Prop := v 0 = (N : Int) ∧ N ≤ 6 ∧ ∀ l, l < N → ∃ n : Nat, v (3 + 61 * l) = (n : Int) ∧ n ≤ 60 ∧ rd (fun j => v (3 + 61 * l + 1 + j)) n = (-1, LL l)
theorem NV.v {h : AH} {N : Nat} {LL : Nat → List Nd} : NV h N LL ↔ NVv (h.vl 43) N LL := Iff.rfl
def VS (v : Nat → Int) (N : Nat) (LL : Nat → List Nd) (kp : Nat → Option TE) : Prop := NVv v N LL ∧ KpV v kp ∧ (∀ c R, kp c = some R → ∀ x, 2 ≤ x → oc x R = true → x < 210) ∧ ∀ c, 8 ≤ c → kp c = none
theorem VS.nv {h : AH} {N : Nat} {LL : Nat → List Nd} {kp : Nat → Option TE} (s : VS (h.vl 43) N LL kp) : NV h N LL := s.1
theorem VS.kj {h : AH} {N : Nat} {LL : Nat → List Nd} {kp : Nat → Option TE} (s : VS (h.vl 43) N LL kp) (hs : ∀ k, h.vl 71 k ≤ h.vl 42 50) : KpJ h kp := ⟨s.2.1, s.2.2.1, hs⟩
theorem VS.eq {v v' : Nat → Int} {N : Nat} {LL : Nat → List Nd} {kp : Nat → Option TE} (s : VS v N LL kp) (e : ∀ j, j < 569 → v' j = v j) : VS v' N LL kp := by
  obtain ⟨⟨a1, a2, a3⟩, b, c⟩ := s
  refine ⟨⟨(e 0 (by decide)).trans a1, a2, fun l hl => ?_⟩, fun k hk => ?_, c⟩
  · obtain ⟨n, n1, n2, n3⟩ := a3 l hl
    refine ⟨n, (e _ (by omega)).trans n1, n2, ?_⟩
    rw [← n3]
    exact rdF_congr (fun j hj => e _ (by omega)) _ _ _ _
  · rcases b k hk with ⟨b1, b2⟩ | ⟨R, b1, b2, b3, b4, b5⟩
    · exact Or.inl ⟨b1, (e _ (by omega)).trans b2⟩
    · refine Or.inr ⟨R, b1, (e _ (by omega)).trans b2, b3, fun i hi => ?_, b5⟩
      have := row_len R
      rw [e _ (by omega)]
      exact b4 i hi
theorem vs_dr {v : Nat → Int} {N l : Nat} {LL : Nat → List Nd} {kp : Nat → Option TE} (s : VS v N LL kp) (hl : l < N) : VS (drV v l N) (N - 1) (fun k => if k < l then LL k else LL (k + 1)) kp := by
  obtain ⟨⟨a1, a2, a3⟩, b, c⟩ := s
  have hi : ∀ k, 369 ≤ k → drV v l N k = v k := fun k hk => by
    unfold drV
    rw [if_neg (by omega), if_neg (by omega), if_neg (by omega)]
  refine ⟨⟨?_, by omega, fun k hk => ?_⟩, fun k hk => ?_, c⟩
  · show (if (0 : Nat) = 0 then (N : Int) - 1 else _) = _
    rw [if_pos rfl]; omega
  · by_cases g : k < l
    · obtain ⟨n, n1, n2, n3⟩ := a3 k (by omega)
      have e : ∀ j, j < 61 → drV v l N (3 + 61 * k + j) = v (3 + 61 * k + j) := fun j hj => by
        unfold drV
        rw [if_neg (by omega), if_neg (by omega), if_neg (by omega)]
      simp only [if_pos g]
      refine ⟨n, (e 0 (by omega)).trans n1, n2, ?_⟩
      rw [← n3]
      refine rdF_congr (fun j hj => ?_) _ _ _ _
      rw [show 3 + 61 * k + 1 + j = 3 + 61 * k + (1 + j) by omega]
      exact e _ (by omega)
    · obtain ⟨n, n1, n2, n3⟩ := a3 (k + 1) (by omega)
      have e : ∀ j, j < 61 → drV v l N (3 + 61 * k + j) = v (3 + 61 * (k + 1) + j) := fun j hj => by
        unfold drV
        rw [if_neg (by omega), if_pos (by omega)]
        congr 1
        omega
      simp only [if_neg g]
      refine ⟨n, (e 0 (by omega)).trans n1, n2, ?_⟩
      rw [← n3]
      refine rdF_congr (fun j hj => ?_) _ _ _ _
      rw [show 3 + 61 * k + 1 + j = 3 + 61 * k + (1 + j) by omega, show 3 + 61 * (k + 1) + 1 + j = 3 + 61 * (k + 1) + (1 + j) by omega]
      exact e _ (by omega)
  · rcases b k hk with ⟨b1, b2⟩ | ⟨R, b1, b2, b3, b4, b5⟩
    · exact Or.inl ⟨b1, (hi _ (by omega)).trans b2⟩
    · refine Or.inr ⟨R, b1, (hi _ (by omega)).trans b2, b3, fun i hi2 => ?_, b5⟩
      rw [hi _ (by omega)]
      exact b4 i hi2
def kpU (kp : Nat → Option TE) (c : Nat) (o : Option TE) : Nat → Option TE := fun k => if k = c then o else kp k
theorem kpU_8 {kp : Nat → Option TE} {c : Nat} {o : Option TE} (h : ∀ k, 8 ≤ k → kp k = none) (hc : c < 8) : ∀ k, 8 ≤ k → kpU kp c o k = none := fun k hk => (if_neg (by omega)).trans (h k hk)
theorem vs_uk {v : Nat → Int} {N c : Nat} {LL : Nat → List Nd} {kp : Nat → Option TE} (s : VS v N LL kp) (hc : c < 8) : VS (ukV v c) N LL (kpU kp c none) := by
  obtain ⟨⟨a1, a2, a3⟩, b, d, d8⟩ := s
  have lo : ∀ k, k < 369 → ukV v c k = v k := fun k hk => by unfold ukV; rw [if_neg (by omega)]
  refine ⟨⟨(lo 0 (by decide)).trans a1, a2, fun l hl => ?_⟩, fun k hk => ?_, fun k R hR => ?_, kpU_8 d8 hc⟩
  · obtain ⟨n, n1, n2, n3⟩ := a3 l hl
    refine ⟨n, (lo _ (by omega)).trans n1, n2, ?_⟩
    rw [← n3]
    exact rdF_congr (fun j hj => lo _ (by omega)) _ _ _ _
  · by_cases e : k = c
    · subst e
      refine Or.inl ⟨if_pos rfl, ?_⟩
      unfold ukV
      rw [if_pos (by omega)]
    · have hi : ∀ j, j < 25 → ukV v c (369 + 25 * k + j) = v (369 + 25 * k + j) := fun j hj => by
        unfold ukV
        rw [if_neg (by omega)]
      rcases b k hk with ⟨b1, b2⟩ | ⟨R, b1, b2, b3, b4, b5⟩
      · exact Or.inl ⟨(if_neg e).trans b1, (hi 0 (by omega)).trans b2⟩
      · refine Or.inr ⟨R, (if_neg e).trans b1, (hi 0 (by omega)).trans b2, b3, fun i hi2 => ?_, b5⟩
        have := row_len R
        rw [show 369 + 25 * k + 1 + i = 369 + 25 * k + (1 + i) by omega, hi _ (by omega), ← b4 i hi2, Nat.add_assoc (369 + 25 * k) 1 i]
  · unfold kpU at hR
    by_cases e : k = c
    · rw [if_pos e] at hR; exact nomatch hR
    · rw [if_neg e] at hR; exact d k R hR
theorem vs_ke {v : Nat → Int} {N c : Nat} {LL : Nat → List Nd} {kp : Nat → Option TE} {T : TE} (s : VS v N LL kp) (hc : c < 8) (hT : sz T ≤ 24) : VS (keV v c (cnT T []).1) N LL (kpU kp c (some (cnR T []))) := by
  obtain ⟨⟨a1, a2, a3⟩, b, d, d8⟩ := s
  have vv : ∀ x, 2 ≤ x → oc x (cnR T []) = true → x < 210 := cnR_210 (by omega)
  have lo : ∀ k, k < 369 → k ≠ 2 → keV v c (cnT T []).1 k = v k := fun k hk h2 => by unfold keV keW; rw [if_neg h2, if_neg (by omega), if_neg (by omega)]
  refine ⟨⟨(lo 0 (by decide) (by decide)).trans a1, a2, fun l hl => ?_⟩, fun k hk => ?_, fun k R hR => ?_, kpU_8 d8 hc⟩
  · obtain ⟨n, n1, n2, n3⟩ := a3 l hl
    refine ⟨n, (lo _ (by omega) (by omega)).trans n1, n2, ?_⟩
    rw [← n3]
    exact rdF_congr (fun j hj => lo _ (by omega) (by omega)) _ _ _ _
  · by_cases e : k = c
    · subst e
      have l1 : (cnT T []).1.length = sz T := cn_len _ _
      have l2 : sz (cnR T []) = sz T := cnR_sz _ _
      refine Or.inr ⟨cnR T [], if_pos rfl, ?_, by omega, fun i hi => ?_, vv⟩
      · unfold keV keW
        rw [if_neg (by omega), if_pos rfl, l1, l2]
      · have hi2 : i < (cnT T []).1.length := by rw [← cnR_row]; exact hi
        unfold keV keW
        rw [if_neg (by omega), if_neg (by omega), if_pos (by omega), show 369 + 25 * k + 1 + i - (369 + 25 * k + 1) = i by omega, List.getD_eq_getElem?_getD, List.getElem?_eq_getElem hi2]
        simp only [cnR_row]
        rfl
    · have hi : ∀ j, j < 25 → keV v c (cnT T []).1 (369 + 25 * k + j) = v (369 + 25 * k + j) := fun j hj => by
        unfold keV keW
        rw [if_neg (by omega), if_neg (by omega), if_neg (by omega)]
      rcases b k hk with ⟨b1, b2⟩ | ⟨R, b1, b2, b3, b4, b5⟩
      · exact Or.inl ⟨(if_neg e).trans b1, (hi 0 (by omega)).trans b2⟩
      · refine Or.inr ⟨R, (if_neg e).trans b1, (hi 0 (by omega)).trans b2, b3, fun i hi2 => ?_, b5⟩
        have := row_len R
        rw [show 369 + 25 * k + 1 + i = 369 + 25 * k + (1 + i) by omega, hi _ (by omega), ← b4 i hi2, Nat.add_assoc (369 + 25 * k) 1 i]
  · unfold kpU at hR
    by_cases e : k = c
    · rw [if_pos e] at hR
      have := Option.some.inj hR
      rw [← this]; exact vv
    · rw [if_neg e] at hR; exact d k R hR
theorem vs_le {v inp : Nat → Int} {N n : Nat} {LL : Nat → List Nd} {kp : Nat → Option TE} {L : List Nd} (s : VS v N LL kp) (hN : N < 6) (hn : n ≤ 60) (hL : rd inp n = (-1, L)) : VS (leV v inp n N) (N + 1) (fun k => if k < N then LL k else L) kp := by
  obtain ⟨⟨a1, a2, a3⟩, b, d⟩ := s
  have hi : ∀ k, 2 ≤ k → (k < 3 + 61 * N ∨ 64 + 61 * N ≤ k) → leV v inp n N k = v k := fun k hk h2 => by
    unfold leV leW
    rw [if_neg (by omega), if_neg (by omega), if_neg (by omega), if_neg (by omega)]
  refine ⟨⟨?_, by omega, fun l hl => ?_⟩, fun k hk => ?_, d⟩
  · show (if (0 : Nat) = 0 then (N : Int) + 1 else _) = _
    rw [if_pos rfl]; omega
  · by_cases g : l < N
    · obtain ⟨m, n1, n2, n3⟩ := a3 l g
      simp only [if_pos g]
      refine ⟨m, (hi _ (by omega) (by omega)).trans n1, n2, ?_⟩
      rw [← n3]
      exact rdF_congr (fun j hj => hi _ (by omega) (by omega)) _ _ _ _
    · obtain rfl : l = N := by omega
      simp only [if_neg g]
      refine ⟨n, ?_, hn, ?_⟩
      · unfold leV leW
        rw [if_neg (by omega), if_neg (by omega), if_pos rfl]
      · rw [← hL]
        refine rdF_congr (fun j hj => ?_) _ _ _ _
        unfold leV leW
        rw [if_neg (by omega), if_neg (by omega), if_neg (by omega), if_pos (by omega), if_pos (by omega), show 3 + 61 * l + 1 + j - (4 + 61 * l) = j by omega]
  · rcases b k hk with ⟨b1, b2⟩ | ⟨R, b1, b2, b3, b4, b5⟩
    · exact Or.inl ⟨b1, (hi _ (by omega) (by omega)).trans b2⟩
    · refine Or.inr ⟨R, b1, (hi _ (by omega) (by omega)).trans b2, b3, fun i hi2 => ?_, b5⟩
      rw [hi _ (by omega) (by omega)]
      exact b4 i hi2
/-- what an order does to the state: why it is refused (0 if it isn't), the detail, the state behind it -/
def odR (v : Nat → Int) (w d c : Int) (why det : Int) (v' : Nat → Int) : Prop := ∃ N LL kp, VS v N LL kp ∧
  ((w = 107 ∧ ((keN N LL kp d c why det ∧ v' = v) ∨ ∃ T, keO N LL kp d c T ∧ why = 0 ∧ v' = keV v c.toNat (cnT T []).1)) ∨
   (w = 117 ∧ ((¬ (0 ≤ c ∧ c ≤ 7) ∧ why = 8 ∧ det = c ∧ v' = v) ∨ ((0 ≤ c ∧ c ≤ 7) ∧ v (369 + 25 * c.toNat) = 0 ∧ why = 6 ∧ det = c ∧ v' = v) ∨ ((0 ≤ c ∧ c ≤ 7) ∧ v (369 + 25 * c.toNat) ≠ 0 ∧ why = 0 ∧ v' = ukV v c.toNat))) ∨
   (w ≠ 107 ∧ w ≠ 117 ∧ ((¬ (0 ≤ d ∧ d < (N : Int)) ∧ why = 2 ∧ det = d ∧ v' = v) ∨ ((0 ≤ d ∧ d < (N : Int)) ∧ why = 0 ∧ v' = drV v d.toNat N))))
theorem od_vs {v v' : Nat → Int} {w d c why det : Int} (h : odR v w d c why det v') : ∃ N LL kp, VS v' N LL kp := by
  obtain ⟨N, LL, kp, s, h | h | h⟩ := h
  · rcases h with ⟨-, ⟨-, rfl⟩ | ⟨T, ⟨h1, h2, r, S, h3, h4, h5, h6⟩, -, rfl⟩⟩
    · exact ⟨N, LL, kp, s⟩
    · exact ⟨_, _, _, vs_ke s (by omega) (by rw [h6]; exact h5)⟩
  · rcases h with ⟨-, ⟨-, -, -, rfl⟩ | ⟨-, -, -, -, rfl⟩ | ⟨h1, -, -, rfl⟩⟩
    · exact ⟨N, LL, kp, s⟩
    · exact ⟨N, LL, kp, s⟩
    · exact ⟨_, _, _, vs_uk s (by omega)⟩
  · rcases h with ⟨-, -, ⟨-, -, -, rfl⟩ | ⟨h1, -, rfl⟩⟩
    · exact ⟨N, LL, kp, s⟩
    · exact ⟨_, _, _, vs_dr s (by omega)⟩
theorem VS.det {v : Nat → Int} {N N' : Nat} {LL LL' : Nat → List Nd} {kp kp' : Nat → Option TE} (s : VS v N LL kp) (s' : VS v N' LL' kp') : N = N' ∧ (∀ l, l < N → LL l = LL' l) ∧ kp = kp' := by
  obtain ⟨⟨a1, a2, a3⟩, b, -, d8⟩ := s
  obtain ⟨⟨a1', a2', a3'⟩, b', -, d8'⟩ := s'
  have eN : N = N' := by omega
  refine ⟨eN, fun l hl => ?_, funext fun c => ?_⟩
  · obtain ⟨n, n1, n2, n3⟩ := a3 l hl
    obtain ⟨m, m1, m2, m3⟩ := a3' l (by omega)
    have : n = m := by omega
    rw [this, m3] at n3
    exact (congrArg Prod.snd n3).symm
  · by_cases hc : 8 ≤ c
    · rw [d8 c hc, d8' c hc]
    · rcases b c (by omega) with ⟨b1, b2⟩ | ⟨R, b1, b2, b3, b4, b5⟩
      · rcases b' c (by omega) with ⟨c1, c2⟩ | ⟨R', c1, c2, c3, c4, c5⟩
        · rw [b1, c1]
        · have := sz_pos R'; omega
      · rcases b' c (by omega) with ⟨c1, c2⟩ | ⟨R', c1, c2, c3, c4, c5⟩
        · have := sz_pos R; omega
        · rw [b1, c1]
          refine congrArg some (row_eq.mp (List.ext_getElem ?_ fun i h1 h2 => ?_))
          · rw [row_len, row_len]; omega
          · rw [← b4 i h1, ← c4 i h2]
