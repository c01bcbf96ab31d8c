/-! orders and their input: only the letters and the row tell -/
theorem nx_cg {c c2 : Nat → Int} {n : Nat} (e : ∀ i, i < n → c2 i = c i) : ∀ i, nxt2 c2 n i = nxt2 c n i := fun i => by
  unfold nxt2
  by_cases z : i < n
  · rw [if_pos z, if_pos z, e i z]
  · rw [if_neg z, if_neg z]
theorem io1_cg {c c2 : Nat → Int} {n : Nat} (e : ∀ i, i < n → c2 i = c i) (i : Nat) : io1 c2 n i = io1 c n i := by unfold io1; rw [nx_cg e]
theorem io_cg {c c2 : Nat → Int} {n : Nat} (e : ∀ i, i < n → c2 i = c i) (i : Nat) : io c2 n i = io c n i := by
  unfold io
  rw [io1_cg e, nx_cg e, nx_cg e, nx_cg e]
theorem ao_cg {c c2 : Nat → Int} {n : Nat} (e : ∀ i, i < n → c2 i = c i) : ∀ t i k, ao c2 n t i k = ao c n t i k
  | 0, _, _ => rfl
  | t + 1, i, k => by
    rw [ao, ao]
    by_cases z : i < n
    · rw [if_pos z, if_pos z, e i z, io_cg e, ao_cg e t]
    · rw [if_neg z, if_neg z]
theorem aos_cg {c c2 : Nat → Int} {n : Nat} (e : ∀ i, i < n → c2 i = c i) : aos c2 n = aos c n := by
  unfold aos
  rw [io_cg e, ao_cg e]
theorem od_cg {v v2 v1 : Nat → Int} {w d c why det : Int} (e : ∀ j, j < 569 → v2 j = v j) (h : odR v w d c why det v1) : ∃ v3, odR v2 w d c why det v3 ∧ ∀ j, j < 569 → v3 j = v1 j := by
  obtain ⟨N, LL, kp, s, h⟩ := h
  have s2 := s.eq e
  rcases h with ⟨a0, h⟩ | ⟨a0, h⟩ | ⟨a0, a1, h⟩
  · rcases h with ⟨x, rfl⟩ | ⟨T, x, x2, rfl⟩
    · exact ⟨v2, ⟨N, LL, kp, s2, Or.inl ⟨a0, Or.inl ⟨x, rfl⟩⟩⟩, e⟩
    · exact ⟨_, ⟨N, LL, kp, s2, Or.inl ⟨a0, Or.inr ⟨T, x, x2, rfl⟩⟩⟩, ke_cg e⟩
  · rcases h with ⟨x1, x2, x3, rfl⟩ | ⟨x1, x2, x3, x4, rfl⟩ | ⟨x1, x2, x3, rfl⟩
    · exact ⟨v2, ⟨N, LL, kp, s2, Or.inr (Or.inl ⟨a0, Or.inl ⟨x1, x2, x3, rfl⟩⟩)⟩, e⟩
    · exact ⟨v2, ⟨N, LL, kp, s2, Or.inr (Or.inl ⟨a0, Or.inr (Or.inl ⟨x1, by rw [e _ (by omega)]; exact x2, x3, x4, rfl⟩)⟩)⟩, e⟩
    · exact ⟨_, ⟨N, LL, kp, s2, Or.inr (Or.inl ⟨a0, Or.inr (Or.inr ⟨x1, by rw [e _ (by omega)]; exact x2, x3, rfl⟩)⟩)⟩, uk_cg e⟩
  · rcases h with ⟨x1, x2, x3, rfl⟩ | ⟨x1, x2, rfl⟩
    · exact ⟨v2, ⟨N, LL, kp, s2, Or.inr (Or.inr ⟨a0, a1, Or.inl ⟨x1, x2, x3, rfl⟩⟩)⟩, e⟩
    · exact ⟨_, ⟨N, LL, kp, s2, Or.inr (Or.inr ⟨a0, a1, Or.inr ⟨x1, x2, rfl⟩⟩)⟩, dr_cg e⟩
theorem run_cg {c c2 : Nat → Int} {n : Nat} (ec : ∀ i, i < n → c2 i = c i) : ∀ (t i k : Nat) (v v2 : Nat → Int) (why det : Int) (m : Nat) (v' : Nat → Int), (∀ j, j < 569 → v2 j = v j) → runR c n t i k v why det m v' → ∃ v3, runR c2 n t i k v2 why det m v3 ∧ ∀ j, j < 569 → v3 j = v' j
  | 0, _, _, _, _, _, _, _, _, _, h => h.elim
  | t + 1, i, k, v, v2, why, det, m, v', e, h => by
    obtain ⟨w, d, u, h1, h2⟩ := h
    obtain ⟨u2, h3, h4⟩ := od_cg e h1
    have eo : oD c2 n i = oD c n i ∧ oC c2 n i = oC c n i := by
      unfold oD oC
      rw [nx_cg ec, nx_cg ec, io1_cg ec, nx_cg ec]
      exact ⟨rfl, rfl⟩
    have h3' : odR v2 (nxt2 c2 n i) (oD c2 n i) (oC c2 n i) w d u2 := by rw [nx_cg ec, eo.1, eo.2]; exact h3
    rcases h2 with ⟨a1, a2, a3, a4, rfl⟩ | ⟨a1, ⟨x1, x2⟩ | ⟨x1, x2, x3, rfl⟩⟩
    · exact ⟨u2, ⟨w, d, u2, h3', Or.inl ⟨a1, a2, a3, a4, rfl⟩⟩, h4⟩
    · obtain ⟨v3, y1, y2⟩ := run_cg ec t _ _ u u2 why det m v' h4 x2
      exact ⟨v3, ⟨w, d, u2, h3', Or.inr ⟨a1, Or.inl ⟨by rw [io_cg ec]; exact x1, by rw [io_cg ec]; exact y1⟩⟩⟩, y2⟩
    · exact ⟨u2, ⟨w, d, u2, h3', Or.inr ⟨a1, Or.inr ⟨by rw [io_cg ec]; exact x1, x2, x3, rfl⟩⟩⟩, h4⟩
theorem od_v2 {v v1 : Nat → Int} {w d c why det : Int} (h : odR v w d c why det v1) : v1 1 = v 1 ∧ v 2 ≤ v1 2 ∧ v1 2 ≤ v 2 + 1 := by
  have ke : ∀ x r, keV v x r 1 = v 1 ∧ keV v x r 2 = v 2 + 1 := fun x r => by
    unfold keV keW
    exact ⟨by rw [if_neg (by decide), if_neg (by omega), if_neg (by omega)], if_pos rfl⟩
  have uk : ∀ x, ukV v x 1 = v 1 ∧ ukV v x 2 = v 2 := fun x => by
    unfold ukV
    exact ⟨if_neg (by omega), if_neg (by omega)⟩
  have dr : ∀ x y, drV v x y 1 = v 1 ∧ drV v x y 2 = v 2 := fun x y => by
    unfold drV
    exact ⟨by rw [if_neg (by decide), if_neg (by omega), if_neg (by omega)], by rw [if_neg (by decide), if_neg (by omega), if_neg (by omega)]⟩
  obtain ⟨N, LL, kp, s, h⟩ := h
  rcases h with ⟨a0, h⟩ | ⟨a0, h⟩ | ⟨a0, a1, h⟩
  · rcases h with ⟨x, rfl⟩ | ⟨T, x, x2, rfl⟩
    · omega
    · rw [(ke _ _).1, (ke _ _).2]; omega
  · rcases h with ⟨x1, x2, x3, rfl⟩ | ⟨x1, x2, x3, x4, rfl⟩ | ⟨x1, x2, x3, rfl⟩
    · omega
    · omega
    · rw [(uk _).1, (uk _).2]; omega
  · rcases h with ⟨x1, x2, x3, rfl⟩ | ⟨x1, x2, rfl⟩
    · omega
    · rw [(dr _ _).1, (dr _ _).2]; omega
theorem run_v2 {c : Nat → Int} {n : Nat} : ∀ (t i k : Nat) (v : Nat → Int) (why det : Int) (m : Nat) (v' : Nat → Int), runR c n t i k v why det m v' → v' 1 = v 1 ∧ v 2 ≤ v' 2 ∧ v' 2 ≤ v 2 + (t : Int)
  | 0, _, _, _, _, _, _, _, h => h.elim
  | t + 1, i, k, v, why, det, m, v', h => by
    obtain ⟨w, d, u, h1, h2⟩ := h
    have e := od_v2 h1
    rcases h2 with ⟨a1, a2, a3, a4, rfl⟩ | ⟨a1, ⟨x1, x2⟩ | ⟨x1, x2, x3, rfl⟩⟩
    · omega
    · have := run_v2 t _ _ _ _ _ _ _ x2
      omega
    · omega
