/-! the law's induction -/
theorem JW.up {k : Nat} {h : AH} (J : JW k h) : JW (k + 1) h := by
  obtain ⟨a, K, v, bv, isS, sv, c, pv, w, d, cw, cd, X1, X3, b1, N1, b3, N3, j, s, ri, rv, cn, sb, bu, fl⟩ := J
  exact ⟨a, K, v, bv, isS, sv, c, pv, w, d, cw, cd, X1, X3, b1, N1, b3, N3, j, s, ri, rv, cn.up, ⟨sb.1, sb.2.1, by have := sb.2.2; omega⟩, ⟨by have := bu.1; omega, by have := bu.2; omega⟩, fl⟩
theorem jw_law {L : Nat} (hL : L ≤ 2048) : ∀ k h, 4 * k + 4 ≤ L → JW k h → STR h ∧ RI h ∧ LAWH (JW (k + 1)) h := by
  intro k h hk J0
  have J1 := J0.up
  have hk : k < 512 := by omega
  obtain ⟨a, K, v, bv, isS, sv, c, pv, w, d, cw, cd, X1, X3, b1, N1, b3, N3, J⟩ := J0
  exact ⟨J.2.1, J.2.2.1, j_lesson J hk, fun _ _ => j_drop J hk, fun _ _ _ _ => j_keep J hk, fun _ _ => j_unkeep J hk, fun _ _ => j_nodes J hk, fun _ _ _ _ _ _ => j_nodeOf J hk, fun _ _ _ _ => j_signOf J hk, fun _ _ _ _ => j_binder J hk, fun _ _ _ _ => j_uses J hk, fun _ _ => j_unbound J hk, fun _ _ => j_isTyped J hk, fun _ _ _ _ => j_failure J hk, fun _ _ _ _ => j_typeOf J hk, fun _ _ _ _ => j_typeAgain J hk, fun _ _ _ _ _ _ => j_nodeType J hk, fun _ _ _ _ => j_isAlike J hk, fun _ _ _ _ => j_isAsGeneral J hk, fun _ _ _ _ => j_fit J hk, fun _ _ => j_fitting J hk, fun _ _ => j_isKept J hk, j_largest J hk, fun _ _ => j_ranked J hk, j_isTold J hk, fun _ _ => j_append J hk, j_run J hk, j_faultPosition J hk, fun _ _ _ hq => j_reason J hk hq, fun _ _ => j_tell J hk, fun _ _ _ _ => j_tellNode J hk, fun _ _ => j_tellKept J hk, fun _ _ => j_tellTerm J hk, fun _ _ => j_character J hk, fun _ _ => j_account J hk, j_meanSize J hk, j_typedShare J hk, j_undo J hk, j_save J hk, j_restore J hk, J1⟩
theorem jw_endb {L : Nat} (hL : L ≤ 2048) : ∀ k h, 4 * k ≤ L → JW k h → h.cs ≤ 603072 ∧ h.ss ≤ 7207018 := by
  intro k h hk J
  obtain ⟨a, K, v, bv, isS, sv, c, pv, w, d, cw, cd, X1, X3, b1, N1, b3, N3, j, s, ri, rv, cn, sb, bu, fl⟩ := J
  have y := fun k z => (j.1.1.2.1 k z).2.2.2.2.2
  have c8 : capK K ≤ 3200000 := by
    unfold capK
    have := y 0 (by decide)
    have := y 1 (by decide)
    have := y 2 (by decide)
    have := y 3 (by decide)
    have := y 6 (by decide)
    have := y 7 (by decide)
    have := y 8 (by decide)
    have := y 10 (by decide)
    omega
  have sn : snn h ≤ 12 := snF_le 12
  have n1 := j.2.2.2.2.1.1.2.1.2
  have n3 := j.2.2.2.2.2.1.1.2.1.2
  exact ⟨by have := bu.1; omega, by have := bu.2; omega⟩
