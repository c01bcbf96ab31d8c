/-! the class goes through a function -/
section GoK
variable {h0 : AH} {a0 K0 : Nat → Nat} {L : List Nd} {kp : Nat → Option TE} {tc : Nat} {h : AH} {a K : Nat → Nat} {S : IS} {Dn Gn Sn : Nat → Prop} {N sc e yl : Nat} {T : Nat → TE} {τ : Nat → Nat} {st : List (Nat × Int × Int)} {s x gz lz res : Int} {fv : Nat → Int} {Q1 : AH → Prop}
set_option maxRecDepth 100000 in
theorem go_k4 (q : AtC h0 a0 K0 L kp tc S Dn Gn Sn N T τ sc ((e, s, x) :: st) gz lz fv yl res h a K) (hsc : sc ≤ 12) (he : e < L.length) (hs : 0 ≤ s ∧ s ≤ 10) (hgz : 0 ≤ gz ∧ gz ≤ 1000) (h57 : TBL L 57 e = 4) (hm : ∀ h1, AtC h0 a0 K0 L kp tc S Dn Gn Sn N T τ sc ((e, s + 1, x) :: st) (gz + (if s = 0 then 1 else 0)) lz fv yl res h1 a K → CV mX0_goFunction 7 [rv 8, rv (tc : Int), iv (e : Int), iv s] h1 (on Q1)) : CV mX0_goOn 8 [rv 8, rv (tc : Int), rv 31, iv (e : Int)] h (on Q1) := by
  refine go_pre q hsc he hs hgz (fun h1 q1 => ?_)
  have g1 := q1.1.g
  rw [h57]
  refine ev_tsI 134 (91) dX0_goOn_43 (by omega) (by omega) rfl ?_
  refine ev_aload_n dX0_goOn_134 rfl ?_
  refine ev_aload_n dX0_goOn_135 rfl ?_
  refine ev_iload_n dX0_goOn_136 rfl ?_
  refine ev_iload dX0_goOn_137 rfl ?_
  refine ev_cvv dX0_goOn_139 lX0_160 (hm h1 q1) (by decide) g1.1.k8 g1.1.n8 rfl rfl rfl (Nat.le_of_ble_eq_true rfl) rfl (fun h2 q2 => ?_)
  refine ev_gt 164 dX0_goOn_142 ?_
  exact ev_vret dX0_goOn_164 (⟨rfl, q2⟩)
set_option maxRecDepth 100000 in
theorem go_k5 (q : AtC h0 a0 K0 L kp tc S Dn Gn Sn N T τ sc ((e, s, x) :: st) gz lz fv yl res h a K) (hsc : sc ≤ 12) (he : e < L.length) (hs : 0 ≤ s ∧ s ≤ 10) (hgz : 0 ≤ gz ∧ gz ≤ 1000) (h57 : TBL L 57 e = 5) (hm : ∀ h1, AtC h0 a0 K0 L kp tc S Dn Gn Sn N T τ sc ((e, s + 1, x) :: st) (gz + (if s = 0 then 1 else 0)) lz fv yl res h1 a K → CV mX0_goLet 7 [rv 8, rv (tc : Int), iv (e : Int), iv s] h1 (on Q1)) : CV mX0_goOn 8 [rv 8, rv (tc : Int), rv 31, iv (e : Int)] h (on Q1) := by
  refine go_pre q hsc he hs hgz (fun h1 q1 => ?_)
  have g1 := q1.1.g
  rw [h57]
  refine ev_tsI 145 (102) dX0_goOn_43 (by omega) (by omega) rfl ?_
  refine ev_aload_n dX0_goOn_145 rfl ?_
  refine ev_aload_n dX0_goOn_146 rfl ?_
  refine ev_iload_n dX0_goOn_147 rfl ?_
  refine ev_iload dX0_goOn_148 rfl ?_
  refine ev_cvv dX0_goOn_150 lX0_163 (hm h1 q1) (by decide) g1.1.k8 g1.1.n8 rfl rfl rfl (Nat.le_of_ble_eq_true rfl) rfl (fun h2 q2 => ?_)
  refine ev_gt 164 dX0_goOn_153 ?_
  exact ev_vret dX0_goOn_164 (⟨rfl, q2⟩)
set_option maxRecDepth 100000 in
theorem go_k6 (q : AtC h0 a0 K0 L kp tc S Dn Gn Sn N T τ sc ((e, s, x) :: st) gz lz fv yl res h a K) (hsc : sc ≤ 12) (he : e < L.length) (hs : 0 ≤ s ∧ s ≤ 10) (hgz : 0 ≤ gz ∧ gz ≤ 1000) (h57 : TBL L 57 e = 6) (hm : ∀ h1, AtC h0 a0 K0 L kp tc S Dn Gn Sn N T τ sc ((e, s + 1, x) :: st) (gz + (if s = 0 then 1 else 0)) lz fv yl res h1 a K → CV mX0_goApplication 7 [rv 8, rv (tc : Int), iv (e : Int), iv s] h1 (on Q1)) : CV mX0_goOn 8 [rv 8, rv (tc : Int), rv 31, iv (e : Int)] h (on Q1) := by
  refine go_pre q hsc he hs hgz (fun h1 q1 => ?_)
  have g1 := q1.1.g
  rw [h57]
  refine ev_tsO 156 dX0_goOn_43 (Or.inr (by omega)) ?_
  refine ev_aload_n dX0_goOn_156 rfl ?_
  refine ev_aload_n dX0_goOn_157 rfl ?_
  refine ev_iload_n dX0_goOn_158 rfl ?_
  refine ev_iload dX0_goOn_159 rfl ?_
  refine ev_cvv dX0_goOn_161 lX0_166 (hm h1 q1) (by decide) g1.1.k8 g1.1.n8 rfl rfl rfl (Nat.le_of_ble_eq_true rfl) rfl (fun h2 q2 => ?_)
  exact ev_vret dX0_goOn_164 (⟨rfl, q2⟩)
end GoK
theorem pre_fun {L : List Nd} (hl9 : L.length ≤ 120) {e len len1 : Nat} {S : IS} (hP : PreL L S e len) (heL : e < L.length) (hc : e + 1 < L.length) (k57 : TBL L 57 e = 4) (k61 : TBL L 61 (e + 1) = (e : Int)) (hle : len1 + 1 ≤ len) : PreL L (S.1 + 1, S.2.1, upT S.2.2.1 e (.var S.1), S.2.2.2) (e + 1) len1 := by
  have gnf : ∀ y, S.1 ≤ y → S.2.2.2 y = false := fun y hy => by
    cases hz : S.2.2.2 y with
    | false => rfl
    | true => have := hP.2.2.1 y hz; omega
  have lte : ∀ k, k ∈ envN L e → k < e := fun k hk => anc_lt' heL (env_mem.mp hk).1
  obtain ⟨p1, p2, p3, p4⟩ := hP
  refine ⟨fun k hk y y2 yo => ?_, fun b hb hb5 => ?_, fun y hy => by have := p3 y hy; show y < S.1 + 1; omega, by show 2 ≤ S.1 + 1; omega⟩
  · have yo : oc y (upT S.2.2.1 e (.var S.1) k) = true := yo
    rcases (env_c4 hl9 hc k61).mp hk with ⟨rfl, -⟩ | hk
    · rw [upT_s] at yo
      have := oc_v yo
      exact ⟨gnf y (by omega), by show y < S.1 + 1; omega⟩
    · rw [upT_n (by have := lte k hk; omega)] at yo
      obtain ⟨a, b⟩ := p1 k hk y y2 yo
      exact ⟨a, by show y < S.1 + 1; omega⟩
  · rw [anc_st hl9 hc k61] at hb
    rcases List.mem_cons.mp hb with rfl | hb
    · omega
    · rcases p2 b hb hb5 with a | ⟨a, b1, b2⟩
      · exact Or.inl (by omega)
      · refine Or.inr ⟨by omega, fun y y2 yo => ?_, b2⟩
        obtain ⟨c1, c2⟩ := b1 y y2 yo
        refine ⟨by show y < S.1 + 1; omega, c2.imp id (fun ⟨k, k1, k2⟩ => ⟨k, k1, ?_⟩)⟩
        show oc y (upT S.2.2.1 e (.var S.1) k) = true
        rw [upT_n (by have := lte k (env_sub hl9 heL hb k1); omega)]
        exact k2
