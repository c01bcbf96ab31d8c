/-! the start of all things -/
def aSt (k : Nat) : Nat := if k ≤ 3 then 10 + k else if k = 6 then 14 else if k = 7 then 15 else if k = 8 then 16 else if k = 10 then 17 else 18
def kSt (k : Nat) : Nat := if k ≤ 3 then 256 else if k ≤ 10 then 64 else 200
set_option maxRecDepth 1000000 in
theorem hl_ty : ∀ k, k ∈ tks → hLaw.vl 9 k = (aSt k : Int) ∧ hLaw.kd (aSt k) = (100, kSt k) ∧ aSt k < hLaw.n ∧ ((10 ≤ aSt k ∧ aSt k ≤ 18) ∨ 94 ≤ aSt k) ∧ 64 ≤ kSt k ∧ kSt k ≤ 400000 := by decide +kernel
theorem hl_inj : ∀ k, k ∈ tks → ∀ l, l ∈ tks → aSt k = aSt l → k = l := by decide
theorem hl_YA : YA hLaw aSt kSt := ⟨hl_CI, hl_ty, fun k l hk hl => hl_inj k hk l hl⟩
set_option maxRecDepth 1000000 in
theorem hl_26 (j : Nat) : hLaw.vl 26 j = -1 := rfl
set_option maxRecDepth 1000000 in
theorem hl_35 (j : Nat) : hLaw.vl 35 j = -1 := rfl
set_option maxRecDepth 1000000 in
theorem hl_36 (j : Nat) : hLaw.vl 36 j = -1 := rfl
set_option maxRecDepth 1000000 in
theorem hl_41 (j : Nat) : hLaw.vl 41 j = -1 := rfl
set_option maxRecDepth 1000000 in
theorem hl_71 (j : Nat) : hLaw.vl 71 j = 0 := rfl
set_option maxRecDepth 1000000 in
theorem hl_t2 (j : Nat) : hLaw.vl 2 j = 0 := rfl
set_option maxRecDepth 1000000 in
theorem hl_t4 (j : Nat) : hLaw.vl 4 j = 0 := rfl
set_option maxRecDepth 1000000 in
theorem hl_st : (ST hLaw 31 32 33 ∧ ST hLaw 34 35 36) ∧ (hLaw.vl 34 2 = 0 ∧ hLaw.vl 34 3 = 0 ∧ hLaw.vl 34 4 = 0) ∧ hLaw.vl 40 1 = 0 ∧ hLaw.vl 42 50 = 0 ∧ hLaw.cs = 94 ∧ hLaw.ss = 213867 := by unfold ST; decide +kernel
theorem hl_FSc : FSc hLaw aSt := ⟨fun i _ => Or.inl (hl_26 i), fun i j s t b c hi hj e => by
  rw [hl_26] at e
  omega⟩
theorem vs_0 : VS (fun _ => 0) 0 (fun _ => []) (fun _ => none) := ⟨⟨rfl, by decide, fun l hl => absurd hl (Nat.not_lt_zero l)⟩, fun c _ => Or.inl ⟨rfl, rfl⟩, fun c R e => by simp at e, fun _ _ => rfl⟩
theorem sv_0 {s : Nat} (t : ST hLaw s (s + 1) (s + 2)) (e : hLaw.vl s 2 = 0 ∧ hLaw.vl s 3 = 0 ∧ hLaw.vl s 4 = 0) (e1 : ∀ j, hLaw.vl (s + 1) j = -1) (e2 : ∀ j, hLaw.vl (s + 2) j = -1) : SvR hLaw aSt s (fun _ => 0) := ⟨0, _, _, vs_0, t, ⟨e.1, by decide, e.2⟩, fun l hl => absurd hl (Nat.not_lt_zero l), fun l _ _ => e1 l, fun c _ => Or.inl ⟨rfl, e2 c⟩⟩
theorem snn_0 : ∀ n, snF (hLaw.vl 26) n = 0
  | 0 => rfl
  | n + 1 => by
    show snF (hLaw.vl 26) n + _ = 0
    rw [snn_0 n, hl_26]
    rfl
theorem hl_tb : TbI hLaw 1 2 16 [] ∧ TbI hLaw 3 4 16 [] := ⟨⟨hl_sb.1, by decide, fun i hi => absurd hi (Nat.not_lt_zero i), fun j _ => by rw [hl_t2]; decide, fun x hx => absurd hx List.not_mem_nil, by decide⟩, hl_sb.2, by decide, fun i hi => absurd hi (Nat.not_lt_zero i), fun j _ => by rw [hl_t4]; decide, fun x hx => absurd hx List.not_mem_nil, by decide⟩
theorem hl_JC : JC hLaw aSt kSt (fun _ => 0) (fun _ => 0) 0 (fun _ => 0) 0 (fun _ _ => 0) 0 0 0 0 [] [] 2 16 4 16 := by
  refine ⟨⟨hl_YA, by unfold KEq; decide, hl_FSc⟩, ⟨sv_0 hl_st.1.1 hl_fs.1 hl_32 hl_33, sv_0 hl_st.1.2 hl_st.2.1 hl_35 hl_36, hl_fs.2.1, Or.inl rfl, fun z => absurd z (by decide)⟩, ⟨by decide, hl_fs.2.2.2.2, 0, hl_st.2.2.1, by decide, fun p _ => Or.inl (hl_41 p), fun p q _ _ _ z => ?_, fun k hk => absurd hk (Nat.not_lt_zero k)⟩, Or.inl ⟨hl_fs.2.2.2.1, rfl⟩, ⟨hl_tb.1, Or.inl rfl, by decide⟩, ⟨hl_tb.2, Or.inl rfl⟩, by decide⟩
  rw [hl_41] at z
  exact absurd z (by decide)
theorem hl_RV : RV hLaw (fun _ => 0) 0 (fun _ => 0) 0 (fun _ _ => 0) 0 0 0 0 [] [] := ⟨fun j _ => hl_43 j, ⟨hl_fr.1.2.2.2.1, fun z => absurd z (by decide)⟩, ⟨hl_fr.1.2.2.1, fun i j hi => absurd hi (Nat.not_lt_zero i)⟩, ⟨hl_fr.1.1, fun z => absurd rfl z⟩, ⟨hl_fr.1.2.2.2.2.1, fun i hi => absurd hi (Nat.not_lt_zero i)⟩, hl_fr.1.2.2.2.2.2, fun i hi => absurd hi (Nat.not_lt_zero i)⟩
theorem c2_0 : C2 0 (fun _ => 0) := by unfold C2; decide
theorem jw_0 : JW 0 hLaw := by
  refine ⟨aSt, kSt, _, _, 0, _, 0, _, 0, 0, 0, 0, [], [], 2, 16, 4, 16, hl_JC, hl_STR, hl_RI, hl_RV, ⟨c2_0, fun z => absurd z (by decide), fun i hi => absurd hi (Nat.not_lt_zero i), by decide⟩, ⟨fun j => ?_, ?_, ?_⟩, ⟨?_, ?_⟩, ?_⟩
  · rw [hl_71, hl_st.2.2.2.1]
    decide
  · rw [hl_st.2.2.2.1]
    decide
  · rw [hl_st.2.2.2.1]
    decide
  · rw [hl_st.2.2.2.2.1]
    exact Nat.le_trans (show 64 * 94 ≤ 12800 by decide) (by omega)
  · rw [hl_st.2.2.2.2.2]
    have e : snn hLaw = 0 := snn_0 12
    have e2 : capK kSt = 1280 := by decide
    rw [e2]
    omega
  · rw [hl_fs.2.2.1, hl_fr.2]
abbrev JP : Nat → AH → Prop := JW
theorem jp_law {L : Nat} (hL : L ≤ 2048) : ∀ k h, 4 * k + 4 ≤ L → JP k h → STR h ∧ RI h ∧ LAWH (JP (k + 1)) h := jw_law hL
theorem jp_0 : JP 0 hLaw := jw_0
theorem jp_end {L : Nat} (hL : L ≤ 2048) : ∀ k h, 4 * k ≤ L → JP k h → h.cs ≤ 603072 ∧ h.ss ≤ 7207018 := jw_endb hL
