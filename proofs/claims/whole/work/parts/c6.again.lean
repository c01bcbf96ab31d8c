/-! how many nodes the second way goes through: the reference -/
def cosF (L : List Nd) (c : Nat → Int) (k : Nat) : Int :=
  if 300 < 1 + (if TBL L 59 k < 0 then 0 else c (fstN L k)) + (if TBL L 60 k < 0 then 0 else c (sndN L k)) + (if TBL L 57 k = 0 ∧ 0 ≤ bd (TBL L) k ∧ TBL L 57 (bd (TBL L) k).toNat = 5 then c (fstN L (bd (TBL L) k).toNat) else 0) then 301
  else 1 + (if TBL L 59 k < 0 then 0 else c (fstN L k)) + (if TBL L 60 k < 0 then 0 else c (sndN L k)) + (if TBL L 57 k = 0 ∧ 0 ≤ bd (TBL L) k ∧ TBL L 57 (bd (TBL L) k).toNat = 5 then c (fstN L (bd (TBL L) k).toNat) else 0)
def agR (L : List Nd) (x : Int) : Prop := ∃ c : Nat → Int, (∀ k, k < L.length → 0 ≤ c k ∧ c k = cosF L c k) ∧ x = c 0
def sumC (c : Nat → Int) : Nat → Int
  | 0 => 0
  | n + 1 => sumC c n + c n
theorem sumC_up {c : Nat → Int} {k : Nat} {x : Int} : ∀ n, sumC (upI c k x) n = sumC c n + (if k < n then x - c k else 0)
  | 0 => by rw [if_neg (Nat.not_lt_zero k)]; rfl
  | n + 1 => by
    rw [sumC, sumC, sumC_up n]
    unfold upI
    by_cases e : n = k
    · subst e
      rw [if_neg (by omega), if_pos rfl, if_pos (by omega)]; omega
    · rw [if_neg e]
      by_cases f : k < n
      · rw [if_pos f, if_pos (by omega)]; omega
      · rw [if_neg f, if_neg (by omega)]; omega
theorem sumC_le {c : Nat → Int} : ∀ n, (∀ k, k < n → c k ≤ 301) → sumC c n ≤ 301 * (n : Int)
  | 0, _ => by rw [sumC]; omega
  | n + 1, h => by
    have := sumC_le n (fun k hk => h k (by omega))
    have := h n (by omega)
    rw [sumC]; omega
/-- what stands on the way: no more than what is due -/
def CoI (L : List Nd) (c : Nat → Int) : Prop := ∀ k, k < L.length → 0 ≤ c k ∧ c k ≤ cosF L c k
theorem cos_301 {L : List Nd} {c : Nat → Int} {k : Nat} : cosF L c k ≤ 301 := by
  unfold cosF
  split <;> omega
theorem cos_mono {L : List Nd} {T : TE} (hs : shT T L) {c c' : Nat → Int} (h : ∀ j, j < L.length → c j ≤ c' j) {k : Nat} (hk : k < L.length) : cosF L c k ≤ cosF L c' k := by
  have t1 : (if TBL L 59 k < 0 then 0 else c (fstN L k)) ≤ (if TBL L 59 k < 0 then 0 else c' (fstN L k)) := by
    by_cases z : TBL L 59 k < 0
    · rw [if_pos z, if_pos z]; omega
    · rw [if_neg z, if_neg z]
      have := (TBL_gd (L := L) k hk).2.2.1
      exact h _ (by unfold fstN; omega)
  have t2 : (if TBL L 60 k < 0 then 0 else c (sndN L k)) ≤ (if TBL L 60 k < 0 then 0 else c' (sndN L k)) := by
    by_cases z : TBL L 60 k < 0
    · rw [if_pos z, if_pos z]; omega
    · rw [if_neg z, if_neg z]
      have := (TBL_gd (L := L) k hk).2.2.2
      exact h _ (by unfold sndN; omega)
  have t3 : (if TBL L 57 k = 0 ∧ 0 ≤ bd (TBL L) k ∧ TBL L 57 (bd (TBL L) k).toNat = 5 then c (fstN L (bd (TBL L) k).toNat) else 0) ≤ (if TBL L 57 k = 0 ∧ 0 ≤ bd (TBL L) k ∧ TBL L 57 (bd (TBL L) k).toNat = 5 then c' (fstN L (bd (TBL L) k).toNat) else 0) := by
    by_cases z : TBL L 57 k = 0 ∧ 0 ≤ bd (TBL L) k ∧ TBL L 57 (bd (TBL L) k).toNat = 5
    · rw [if_pos z, if_pos z]
      have b1 := bd_ok hk
      have := (TBL_gd (L := L) (bd (TBL L) k).toNat (by omega)).2.2.1
      rcases ndR hs (e := (bd (TBL L) k).toNat) (by omega) with g | g | g
      · omega
      · omega
      · exact h _ (by unfold fstN; omega)
    · rw [if_neg z, if_neg z]; omega
  unfold cosF
  by_cases a : 300 < 1 + (if TBL L 59 k < 0 then 0 else c (fstN L k)) + (if TBL L 60 k < 0 then 0 else c (sndN L k)) + (if TBL L 57 k = 0 ∧ 0 ≤ bd (TBL L) k ∧ TBL L 57 (bd (TBL L) k).toNat = 5 then c (fstN L (bd (TBL L) k).toNat) else 0)
  · rw [if_pos a, if_pos (by omega)]; omega
  · rw [if_neg a]
    split <;> omega
theorem CoI.st {L : List Nd} {T : TE} (hs : shT T L) {c : Nat → Int} (h : CoI L c) {k : Nat} (hk : k < L.length) : CoI L (upI c k (cosF L c k)) := by
  have le : ∀ j, j < L.length → c j ≤ upI c k (cosF L c k) j := fun j hj => by
    unfold upI
    by_cases e : j = k
    · rw [if_pos e, e]; exact (h k hk).2
    · rw [if_neg e]; omega
  intro j hj
  have m := cos_mono hs le hj
  refine ⟨by have := (h j hj).1; have := le j hj; omega, ?_⟩
  by_cases e : j = k
  · rw [e] at m ⊢
    unfold upI at m ⊢
    rw [if_pos rfl]
    exact m
  · have := (h j hj).2
    have e2 : upI c k (cosF L c k) j = c j := by unfold upI; rw [if_neg e]
    rw [e2]; omega
/-- one node's number anew -/
abbrev AgQ (n : Nat) (c0 : Nat → Int) (L : List Nd) (k1 : Nat) (d : Int) (c : Nat → Int) : Prop := (d = 1 ∧ c = c0 ∧ ∀ j, k1 ≤ j → j < n → c0 j = cosF L c0 j) ∨ (d = 0 ∧ sumC c0 n + 1 ≤ sumC c n)
set_option maxRecDepth 100000 in
theorem ac_sweep {h0 : AH} {L : List Nd} {T : TE} {c0 : Nat → Int} {Q : AV → AH → Prop} (hI0 : RI h0) (hT0 : NT h0 L) (hs : shT T L)
    (K : ∀ (h1 : AH) (d : Int) (v2 v3 v4 : AV), KP h0 h1 [89] [] → CoI L (h1.vl 89) → (d = 0 ∨ d = 1) → AgQ L.length c0 L 0 d (h1.vl 89) → EV mX11_again 8 25 [rv 42, iv d, v2, v3, v4] [] h1 Q) :
    ∀ (k1 : Nat) (d : Int) (v3 v4 : AV) (h : AH), k1 ≤ L.length → KP h0 h [89] [] → CoI L (h.vl 89) → (d = 0 ∨ d = 1) → AgQ L.length c0 L k1 d (h.vl 89) → sumC c0 L.length ≤ sumC (h.vl 89) L.length → EV mX11_again 8 38 [rv 42, iv d, iv ((k1 : Int) - 1), v3, v4] [] h Q
  | 0, d, v3, v4, h, hk, hK, hC, hd, hq, hm => by
    have hI : RI h := hK.ri hI0
    refine ev_iload_n dX11_again_38 rfl ?_
    refine ev_iflt 195 dX11_again_39 (fun hb => ?_) (fun h_no => (by exfalso; omega))
    refine ev_gt 25 dX11_again_195 ?_
    exact K h d _ v3 v4 hK hC hd hq
  | k + 1, d, v3, v4, h, hk, hK, hC, hd, hq, hm => by
    have hI : RI h := hK.ri hI0
    have hT : NT h L := hT0.kp hK
    have hl9 := hT.2.2.2
    have hkl : k < L.length := by omega
    have c57 : h.vl 57 k = TBL L 57 k := hT.1 57 k (by decide) (by decide) (Or.inl hkl)
    have c59 : h.vl 59 k = TBL L 59 k := hT.1 59 k (by decide) (by decide) (Or.inl hkl)
    have c60 : h.vl 60 k = TBL L 60 k := hT.1 60 k (by decide) (by decide) (Or.inl hkl)
    have g59 := (TBL_gd (L := L) k hkl).2.2.1
    have g60 := (TBL_gd (L := L) k hkl).2.2.2
    have gc : ∀ j : Nat, j < L.length → 0 ≤ h.vl 89 j ∧ h.vl 89 j ≤ 301 := fun j hj => ⟨(hC j hj).1, Int.le_trans (hC j hj).2 cos_301⟩
    rw [show ((k + 1 : Nat) : Int) - 1 = (k : Int) by omega]
    -- the sum is known
    have p181 : ∀ (s d' b : Int), s = cosF L (h.vl 89) k → (d' = 0 ∨ d' = 1) → (d' = 1 ↔ d = 1 ∧ s = h.vl 89 k) → EV mX11_again 8 181 [rv 42, iv d', iv (k : Int), iv b, iv s] [] h Q := by
      intro s d' b es hd' hdd
      have es0 := (hC k hkl).2
      refine ev_aload_n dX11_again_181 rfl ?_
      refine ev_getrv dX11_again_182 fX11_152 hI.o hI.n rfl hI.v_cost ?_
      refine ev_iload_n dX11_again_185 rfl ?_
      refine ev_iload dX11_again_186 rfl ?_
      refine ev_istr dX11_again_188 hI.k_cost hI.n_cost rfl (by omega) (by omega) ?_
      refine ev_iin2 dX11_again_189 (by unfold ir; omega) ?_
      refine ev_gt 38 dX11_again_192 ?_
      rw [show ((k : Nat) : Int).toNat = k from rfl, show (k : Int) + -1 = (k : Int) - 1 by omega]
      have e89 : (h.put 89 k s).vl 89 = upI (h.vl 89) k (cosF L (h.vl 89) k) := by rw [put_row, es]
      have eS := sumC_up (c := h.vl 89) (k := k) (x := cosF L (h.vl 89) k) L.length
      rw [if_pos hkl] at eS
      refine ac_sweep hI0 hT0 hs K k d' _ _ (h.put 89 k s) (by omega) (hK.pr (by decide) (by decide)) (by rw [e89]; exact hC.st hs hkl) hd' ?_ (by rw [e89]; omega)
      rw [e89]
      by_cases z : d' = 1
      · obtain ⟨z1, z2⟩ := hdd.mp z
        rcases hq with ⟨q1, q2, q3⟩ | ⟨q1, q2⟩
        · refine Or.inl ⟨z, ?_, fun j hj hj2 => ?_⟩
          · rw [← q2]
            funext j
            unfold upI
            by_cases e : j = k
            · rw [if_pos e, e, ← es, z2]
            · rw [if_neg e]
          · by_cases e : j = k
            · rw [e, ← q2, ← es, z2]
            · exact q3 j (by omega) hj2
        · omega
      · refine Or.inr ⟨by omega, ?_⟩
        rw [eS]
        rcases hq with ⟨q1, q2, q3⟩ | ⟨q1, q2⟩
        · have : s ≠ h.vl 89 k := fun y => z (hdd.mpr ⟨q1, y⟩)
          rw [q2] at es es0 this ⊢
          omega
        · omega
    have p142 : ∀ (s b : Int), 0 ≤ s ∧ s ≤ 2000 → (if 300 < s then 301 else s) = cosF L (h.vl 89) k → EV mX11_again 8 142 [rv 42, iv d, iv (k : Int), iv b, v4] [iv s] h Q := by
      intro s b s9 es
      have p162 : ∀ s' : Int, s' = cosF L (h.vl 89) k → EV mX11_again 8 160 [rv 42, iv d, iv (k : Int), iv b, iv s] [iv s'] h Q := by
        intro s' es'
        obtain ⟨ck, hck⟩ : ∃ ck, h.vl 89 k = ck := ⟨_, rfl⟩
        refine ev_ist4 dX11_again_160 ?_
        refine ev_iload_n dX11_again_162 rfl ?_
        refine ev_iload dX11_again_163 rfl ?_
        refine ev_aload_n dX11_again_165 rfl ?_
        refine ev_getrv dX11_again_166 fX11_152 hI.o hI.n rfl hI.v_cost ?_
        refine ev_iload_n dX11_again_169 rfl ?_
        refine ev_ildv dX11_again_170 hI.k_cost hI.n_cost rfl (by omega) (by omega) hck ?_
        by_cases c : s' = ck
        · skip
          refine ev_icmpne 178 dX11_again_171 (fun h_no => (by exfalso; omega)) (fun hb => ?_)
          refine ev_iconst dX11_again_174 ?_
          refine ev_gt 179 dX11_again_175 ?_
          obtain ⟨a1, a2⟩ := ian_b hd (Or.inr rfl : (1 : Int) = 0 ∨ (1 : Int) = 1)
          refine ev_iand dX11_again_179 ?_
          refine ev_ist1 dX11_again_180 ?_
          exact p181 s' _ _ es' a1 (by rw [a2]; exact ⟨fun z => ⟨z.1, by rw [c]; exact hck.symm⟩, fun z => ⟨z.1, rfl⟩⟩)
        refine ev_icmpne 178 dX11_again_171 (fun hb => ?_) (fun h_no => (by exfalso; omega))
        refine ev_iconst dX11_again_178 ?_
        obtain ⟨a1, a2⟩ := ian_b hd (Or.inl rfl : (0 : Int) = 0 ∨ (0 : Int) = 1)
        refine ev_iand dX11_again_179 ?_
        refine ev_ist1 dX11_again_180 ?_
        exact p181 s' _ _ es' a1 (by rw [a2]; exact ⟨fun z => absurd z.2 (by decide), fun z => absurd (z.2.trans hck) c⟩)
      refine ev_ist4 dX11_again_142 ?_
      refine ev_iload dX11_again_144 rfl ?_
      refine ev_sipush dX11_again_146 ?_
      by_cases c : s ≤ 300
      · skip
        refine ev_icmple 158 dX11_again_149 (fun hb => ?_) (fun h_no => (by exfalso; omega))
        refine ev_iload dX11_again_158 rfl ?_
        exact p162 s (by rw [← es, if_neg (by omega)])
      refine ev_icmple 158 dX11_again_149 (fun h_no => (by exfalso; omega)) (fun hb => ?_)
      refine ev_sipush dX11_again_152 ?_
      refine ev_gt 160 dX11_again_155 ?_
      exact p162 301 (by rw [← es, if_pos (by omega)])
    obtain ⟨t1, ht1⟩ : ∃ t1, t1 = (if TBL L 59 k < 0 then 0 else h.vl 89 (fstN L k)) := ⟨_, rfl⟩
    obtain ⟨t2, ht2⟩ : ∃ t2, t2 = (if TBL L 60 k < 0 then 0 else h.vl 89 (sndN L k)) := ⟨_, rfl⟩
    obtain ⟨t3, ht3⟩ : ∃ t3, t3 = (if TBL L 57 k = 0 ∧ 0 ≤ bd (TBL L) k ∧ TBL L 57 (bd (TBL L) k).toNat = 5 then h.vl 89 (fstN L (bd (TBL L) k).toNat) else 0) := ⟨_, rfl⟩
    have eF : (if 300 < 1 + t1 + t2 + t3 then 301 else 1 + t1 + t2 + t3) = cosF L (h.vl 89) k := by rw [ht1, ht2, ht3]; rfl
    have b1 : 0 ≤ t1 ∧ t1 ≤ 301 := by
      rw [ht1]
      by_cases z : TBL L 59 k < 0
      · rw [if_pos z]; omega
      · rw [if_neg z]; exact gc _ (by unfold fstN; omega)
    have b2 : 0 ≤ t2 ∧ t2 ≤ 301 := by
      rw [ht2]
      by_cases z : TBL L 60 k < 0
      · rw [if_pos z]; omega
      · rw [if_neg z]; exact gc _ (by unfold sndN; omega)
    have nb : ∀ b : Nat, b < L.length → TBL L 57 b = 5 → TBL L 59 b = ((fstN L b : Nat) : Int) ∧ fstN L b < L.length := by
      intro b hb h5
      rcases ndR hs hb with g | g | ⟨-, g, s, -, g1, g2⟩
      · omega
      · omega
      · have : fstN L b = b + 1 := by rw [fstN, g]; rfl
        exact ⟨by rw [g, this], by omega⟩
    have b3 : 0 ≤ t3 ∧ t3 ≤ 301 := by
      rw [ht3]
      by_cases z : TBL L 57 k = 0 ∧ 0 ≤ bd (TBL L) k ∧ TBL L 57 (bd (TBL L) k).toNat = 5
      · rw [if_pos z]
        have := bd_ok hkl
        exact gc _ (nb _ (by omega) z.2.2).2
      · rw [if_neg z]; omega
    have p141 : ∀ (x b : Int), x = t3 → EV mX11_again 8 141 [rv 42, iv d, iv (k : Int), iv b, v4] [iv x, iv (1 + t1 + t2)] h Q := by
      intro x b ex
      refine ev_iadd dX11_again_141 (by unfold ir; omega) ?_
      rw [ex]
      exact p142 _ _ (by omega) eF
    have p111 : ∀ (x b : Int), x = t2 → b = (if TBL L 57 k = 0 then bd (TBL L) k else -1) → EV mX11_again 8 111 [rv 42, iv d, iv (k : Int), iv b, v4] [iv x, iv (1 + t1)] h Q := by
      intro x b ex eb
      have bo := bd_ok hkl
      refine ev_iadd dX11_again_111 (by unfold ir; omega) ?_
      rw [ex]
      refine ev_iload_n dX11_again_112 rfl ?_
      by_cases c : b < 0
      · skip
        refine ev_iflt 140 dX11_again_113 (fun hb => ?_) (fun h_no => (by exfalso; omega))
        refine ev_iconst dX11_again_140 ?_
        refine p141 0 _ ?_
        rw [ht3, if_neg]
        rintro ⟨z1, z2, -⟩
        rw [eb, if_pos z1] at c
        omega
      have z57 : TBL L 57 k = 0 := Decidable.byContradiction fun z => by rw [if_neg z] at eb; omega
      rw [if_pos z57] at eb
      obtain ⟨bn, hbn⟩ : ∃ bn : Nat, b = (bn : Int) := ⟨b.toNat, by omega⟩
      have ebn : bd (TBL L) k = (bn : Int) := by omega
      have bl : bn < L.length := by omega
      have d57 : h.vl 57 bn = TBL L 57 bn := hT.1 57 bn (by decide) (by decide) (Or.inl bl)
      have d59 : h.vl 59 bn = TBL L 59 bn := hT.1 59 bn (by decide) (by decide) (Or.inl bl)
      rw [ebn, show ((bn : Nat) : Int).toNat = bn from rfl] at ht3
      rw [hbn]
      refine ev_iflt 140 dX11_again_113 (fun h_no => (by exfalso; omega)) (fun hb => ?_)
      refine ev_aload_n dX11_again_116 rfl ?_
      refine ev_getrv dX11_again_117 fX11_56 hI.o hI.n rfl hI.v_kind ?_
      refine ev_iload_n dX11_again_120 rfl ?_
      refine ev_ildv dX11_again_121 hI.k_kind hI.n_kind rfl (by omega) (by omega) d57 ?_
      refine ev_iconst dX11_again_122 ?_
      by_cases c2 : TBL L 57 bn = 5
      · skip
        obtain ⟨n1, n2⟩ := nb bn bl c2
        obtain ⟨cv, hcv⟩ : ∃ cv, h.vl 89 (fstN L bn) = cv := ⟨_, rfl⟩
        refine ev_icmpne 140 dX11_again_123 (fun h_no => (by exfalso; omega)) (fun hb2 => ?_)
        refine ev_aload_n dX11_again_126 rfl ?_
        refine ev_getrv dX11_again_127 fX11_152 hI.o hI.n rfl hI.v_cost ?_
        refine ev_aload_n dX11_again_130 rfl ?_
        refine ev_getrv dX11_again_131 fX11_62 hI.o hI.n rfl hI.v_first ?_
        refine ev_iload_n dX11_again_134 rfl ?_
        rw [n1] at d59
        refine ev_ildv dX11_again_135 hI.k_first hI.n_first rfl (by omega) (by omega) d59 ?_
        refine ev_ildv dX11_again_136 hI.k_cost hI.n_cost rfl (by omega) (by omega) hcv ?_
        refine ev_gt 141 dX11_again_137 ?_
        refine p141 cv _ ?_
        rw [ht3, if_pos ⟨z57, by omega, c2⟩, hcv]
      refine ev_icmpne 140 dX11_again_123 (fun hb2 => ?_) (fun h_no => (by exfalso; omega))
      refine ev_iconst dX11_again_140 ?_
      refine p141 0 _ ?_
      rw [ht3, if_neg (fun z => c2 z.2.2)]
    have p86 : ∀ (x b : Int), x = t1 → b = (if TBL L 57 k = 0 then bd (TBL L) k else -1) → EV mX11_again 8 86 [rv 42, iv d, iv (k : Int), iv b, v4] [iv x, iv 1] h Q := by
      intro x b ex eb
      refine ev_iadd dX11_again_86 (by unfold ir; omega) ?_
      refine ev_aload_n dX11_again_87 rfl ?_
      refine ev_getrv dX11_again_88 fX11_65 hI.o hI.n rfl hI.v_second ?_
      refine ev_iload_n dX11_again_91 rfl ?_
      rw [ex]
      refine ev_ildv dX11_again_92 hI.k_second hI.n_second rfl (by omega) (by omega) c60 ?_
      by_cases c : TBL L 60 k < 0
      · skip
        refine ev_ifge 100 dX11_again_93 (fun h_no => (by exfalso; omega)) (fun hb => ?_)
        refine ev_iconst dX11_again_96 ?_
        refine ev_gt 111 dX11_again_97 ?_
        exact p111 0 b (by rw [ht2, if_pos c]) eb
      have e60 : TBL L 60 k = ((sndN L k : Nat) : Int) := by unfold sndN; omega
      have l60 : sndN L k < L.length := by omega
      obtain ⟨cv, hcv⟩ : ∃ cv, h.vl 89 (sndN L k) = cv := ⟨_, rfl⟩
      refine ev_ifge 100 dX11_again_93 (fun hb => ?_) (fun h_no => (by exfalso; omega))
      refine ev_aload_n dX11_again_100 rfl ?_
      refine ev_getrv dX11_again_101 fX11_152 hI.o hI.n rfl hI.v_cost ?_
      refine ev_aload_n dX11_again_104 rfl ?_
      refine ev_getrv dX11_again_105 fX11_65 hI.o hI.n rfl hI.v_second ?_
      refine ev_iload_n dX11_again_108 rfl ?_
      rw [e60] at c60
      refine ev_ildv dX11_again_109 hI.k_second hI.n_second rfl (by omega) (by omega) c60 ?_
      refine ev_ildv dX11_again_110 hI.k_cost hI.n_cost rfl (by omega) (by omega) hcv ?_
      exact p111 cv b (by rw [ht2, if_neg c, hcv]) eb
    have p60 : ∀ (b : Int) (v3 : AV), b = (if TBL L 57 k = 0 then bd (TBL L) k else -1) → EV mX11_again 8 60 [rv 42, iv d, iv (k : Int), v3, v4] [iv b] h Q := by
      intro b v3 eb
      refine ev_ist3 dX11_again_60 ?_
      refine ev_iconst dX11_again_61 ?_
      refine ev_aload_n dX11_again_62 rfl ?_
      refine ev_getrv dX11_again_63 fX11_62 hI.o hI.n rfl hI.v_first ?_
      refine ev_iload_n dX11_again_66 rfl ?_
      refine ev_ildv dX11_again_67 hI.k_first hI.n_first rfl (by omega) (by omega) c59 ?_
      by_cases c : TBL L 59 k < 0
      · skip
        refine ev_ifge 75 dX11_again_68 (fun h_no => (by exfalso; omega)) (fun hb => ?_)
        refine ev_iconst dX11_again_71 ?_
        refine ev_gt 86 dX11_again_72 ?_
        exact p86 0 b (by rw [ht1, if_pos c]) eb
      have e59 : TBL L 59 k = ((fstN L k : Nat) : Int) := by unfold fstN; omega
      have l59 : fstN L k < L.length := by omega
      obtain ⟨cv, hcv⟩ : ∃ cv, h.vl 89 (fstN L k) = cv := ⟨_, rfl⟩
      refine ev_ifge 75 dX11_again_68 (fun hb => ?_) (fun h_no => (by exfalso; omega))
      refine ev_aload_n dX11_again_75 rfl ?_
      refine ev_getrv dX11_again_76 fX11_152 hI.o hI.n rfl hI.v_cost ?_
      refine ev_aload_n dX11_again_79 rfl ?_
      refine ev_getrv dX11_again_80 fX11_62 hI.o hI.n rfl hI.v_first ?_
      refine ev_iload_n dX11_again_83 rfl ?_
      rw [e59] at c59
      refine ev_ildv dX11_again_84 hI.k_first hI.n_first rfl (by omega) (by omega) c59 ?_
      refine ev_ildv dX11_again_85 hI.k_cost hI.n_cost rfl (by omega) (by omega) hcv ?_
      exact p86 cv b (by rw [ht1, if_neg c, hcv]) eb
    refine ev_iload_n dX11_again_38 rfl ?_
    refine ev_iflt 195 dX11_again_39 (fun h_no => (by exfalso; omega)) (fun hb => ?_)
    refine ev_aload_n dX11_again_42 rfl ?_
    refine ev_getrv dX11_again_43 fX11_56 hI.o hI.n rfl hI.v_kind ?_
    refine ev_iload_n dX11_again_46 rfl ?_
    refine ev_ildv dX11_again_47 hI.k_kind hI.n_kind rfl (by omega) (by omega) c57 ?_
    by_cases c : TBL L 57 k = 0
    · skip
      refine ev_ifne 59 dX11_again_48 (fun h_no => (by exfalso; omega)) (fun hb2 => ?_)
      refine ev_aload_n dX11_again_51 rfl ?_
      refine ev_iload_n dX11_again_52 rfl ?_
      refine ev_cvi dX11_again_53 lX11_291 (s_binderOf hI hT hkl) (by decide) hI.o hI.n rfl rfl rfl (Nat.le_of_ble_eq_true rfl) rfl (fun r z1 q => ?_)
      obtain ⟨rfl, e1⟩ := q
      rw [e1]
      refine ev_gt 60 dX11_again_56 ?_
      exact p60 _ _ (by rw [if_pos c])
    refine ev_ifne 59 dX11_again_48 (fun hb2 => ?_) (fun h_no => (by exfalso; omega))
    refine ev_iconst dX11_again_59 ?_
    exact p60 _ _ (by rw [if_neg c])
set_option maxRecDepth 100000 in
theorem ac_one {h0 : AH} {L : List Nd} {T : TE} (hI0 : RI h0) (hT0 : NT h0 L) (hs : shT T L) (h : AH) (v2 v3 v4 : AV) (hK : KP h0 h [89] []) (hC : CoI L (h.vl 89)) (next : ∀ (h1 : AH) (v2 v3 v4 : AV), KP h0 h1 [89] [] → CoI L (h1.vl 89) → sumC (h.vl 89) L.length + 1 ≤ sumC (h1.vl 89) L.length → EV mX11_again 8 25 [rv 42, iv 0, v2, v3, v4] [] h1 (oi fun x h1 => KP h0 h1 [89] [] ∧ agR L x)) : EV mX11_again 8 25 [rv 42, iv 0, v2, v3, v4] [] h (oi fun x h1 => KP h0 h1 [89] [] ∧ agR L x) := by
  have hI : RI h := hK.ri hI0
  have hT : NT h L := hT0.kp hK
  have hl9 := hT.2.2.2
  have hlp := List.length_pos_iff.mpr hT.2.2.1
  have hn : h.vl 42 36 = (L.length : Int) := hT.2.1
  refine ev_iload_n dX11_again_25 rfl ?_
  refine ev_ifne 198 dX11_again_26 (fun h_no => (by exfalso; omega)) (fun hb => ?_)
  refine ev_iconst dX11_again_29 ?_
  refine ev_ist1 dX11_again_30 ?_
  refine ev_aload_n dX11_again_31 rfl ?_
  refine ev_getiv dX11_again_32 fX11_203 hI.o hI.n rfl hn ?_
  refine ev_iconst dX11_again_35 ?_
  refine ev_isub dX11_again_36 (by unfold ir; omega) ?_
  refine ev_ist2 dX11_again_37 ?_
  refine ac_sweep hI0 hT0 hs (c0 := h.vl 89) (fun h1 d v2 v3 v4 k1 c1 hd hq => ?_) L.length 1 v3 v4 h (Nat.le_refl _) hK hC (Or.inr rfl) (Or.inl ⟨rfl, rfl, fun j a b => by omega⟩) (Int.le_refl _)
  rcases hq with ⟨q1, q2, q3⟩ | ⟨q1, q2⟩
  · obtain ⟨cv, hcv⟩ : ∃ cv, h1.vl 89 0 = cv := ⟨_, rfl⟩
    refine ev_iload_n dX11_again_25 rfl ?_
    refine ev_ifne 198 dX11_again_26 (fun hb => ?_) (fun h_no => (by exfalso; omega))
    refine ev_aload_n dX11_again_198 rfl ?_
    refine ev_getrv dX11_again_199 fX11_152 (k1.ri hI0).o (k1.ri hI0).n rfl (k1.ri hI0).v_cost ?_
    refine ev_iconst dX11_again_202 ?_
    refine ev_ildv dX11_again_203 (k1.ri hI0).k_cost (k1.ri hI0).n_cost rfl (by omega) (by omega) hcv ?_
    exact ev_iret dX11_again_204 (⟨_, rfl, k1, h1.vl 89, fun k hk => ⟨(c1 k hk).1, by rw [q2]; exact q3 k (Nat.zero_le _) hk⟩, hcv.symm⟩)
  · rw [q1]
    exact next h1 v2 v3 v4 k1 c1 q2
set_option maxRecDepth 100000 in
theorem ac_loop {h0 : AH} {L : List Nd} {T : TE} (hI0 : RI h0) (hT0 : NT h0 L) (hs : shT T L) : ∀ (m : Nat) (h : AH) (v2 v3 v4 : AV), (301 * (L.length : Int) - sumC (h.vl 89) L.length).toNat ≤ m → KP h0 h [89] [] → CoI L (h.vl 89) → EV mX11_again 8 25 [rv 42, iv 0, v2, v3, v4] [] h (oi fun x h1 => KP h0 h1 [89] [] ∧ agR L x) := by
  intro m
  induction m with
  | zero =>
    intro h v2 v3 v4 hm hK hC
    exact ac_one hI0 hT0 hs h v2 v3 v4 hK hC (fun h1 v2 v3 v4 k1 c1 le => by
      have := sumC_le (c := h1.vl 89) L.length (fun k hk => Int.le_trans (c1 k hk).2 cos_301)
      omega)
  | succ m ih =>
    intro h v2 v3 v4 hm hK hC
    exact ac_one hI0 hT0 hs h v2 v3 v4 hK hC (fun h1 v2 v3 v4 k1 c1 le => ih h1 v2 v3 v4 (by omega) k1 c1)
set_option maxRecDepth 100000 in
theorem ag_zero {h0 : AH} {n : Nat} {Q : AV → AH → Prop} (hI0 : RI h0) (hn : h0.vl 42 36 = (n : Int)) (hn9 : n ≤ 120) (K : ∀ h1, KP h0 h1 [89] [] → (∀ j, j < n → h1.vl 89 j = 0) → EV mX11_again 8 23 [rv 42, iv (n : Int), uv, uv, uv] [] h1 Q) : ∀ (m i : Nat) (h : AH), i + m = n → KP h0 h [89] [] → (∀ j, j < i → h.vl 89 j = 0) → EV mX11_again 8 2 [rv 42, iv (i : Int), uv, uv, uv] [] h Q
  | 0, i, h, hi, hK, hr => by
    obtain rfl : i = n := by omega
    have hI : RI h := hK.ri hI0
    have hn' : h.vl 42 36 = (i : Int) := (hK.fl).trans hn
    refine ev_iload_n dX11_again_2 rfl ?_
    refine ev_aload_n dX11_again_3 rfl ?_
    refine ev_getiv dX11_again_4 fX11_203 hI.o hI.n rfl hn' ?_
    refine ev_icmpge 23 dX11_again_7 (fun hb => ?_) (fun h_no => (by exfalso; omega))
    exact K h hK hr
  | m + 1, i, h, hi, hK, hr => by
    have hI : RI h := hK.ri hI0
    have hn' : h.vl 42 36 = (n : Int) := (hK.fl).trans hn
    refine ev_iload_n dX11_again_2 rfl ?_
    refine ev_aload_n dX11_again_3 rfl ?_
    refine ev_getiv dX11_again_4 fX11_203 hI.o hI.n rfl hn' ?_
    refine ev_icmpge 23 dX11_again_7 (fun h_no => (by exfalso; omega)) (fun hb => ?_)
    refine ev_aload_n dX11_again_10 rfl ?_
    refine ev_getrv dX11_again_11 fX11_152 hI.o hI.n rfl hI.v_cost ?_
    refine ev_iload_n dX11_again_14 rfl ?_
    refine ev_iconst dX11_again_15 ?_
    refine ev_istr dX11_again_16 hI.k_cost hI.n_cost rfl (by omega) (by omega) ?_
    refine ev_iin1 dX11_again_17 (by unfold ir; omega) ?_
    refine ev_gt 2 dX11_again_20 ?_
    rw [show ((i : Nat) : Int).toNat = i from rfl, show (i : Int) + 1 = ((i + 1 : Nat) : Int) by omega]
    refine ag_zero hI0 hn hn9 K m (i + 1) _ (by omega) (hK.pr (by decide) (by decide)) (fun j hj => ?_)
    rw [AH.put_vl]
    by_cases z : j = i
    · rw [if_pos ⟨rfl, z⟩]
    · rw [if_neg (fun y => z y.2)]
      exact hr j (by omega)
theorem cos_0 {L : List Nd} {T : TE} (hs : shT T L) {c : Nat → Int} (h0 : ∀ j, j < L.length → c j = 0) : CoI L c := fun k hk => by
  have t1 : (if TBL L 59 k < 0 then 0 else c (fstN L k)) = 0 := by
    by_cases z : TBL L 59 k < 0
    · rw [if_pos z]
    · rw [if_neg z]
      have := (TBL_gd (L := L) k hk).2.2.1
      exact h0 _ (by unfold fstN; omega)
  have t2 : (if TBL L 60 k < 0 then 0 else c (sndN L k)) = 0 := by
    by_cases z : TBL L 60 k < 0
    · rw [if_pos z]
    · rw [if_neg z]
      have := (TBL_gd (L := L) k hk).2.2.2
      exact h0 _ (by unfold sndN; omega)
  have t3 : (if TBL L 57 k = 0 ∧ 0 ≤ bd (TBL L) k ∧ TBL L 57 (bd (TBL L) k).toNat = 5 then c (fstN L (bd (TBL L) k).toNat) else 0) = 0 := by
    by_cases z : TBL L 57 k = 0 ∧ 0 ≤ bd (TBL L) k ∧ TBL L 57 (bd (TBL L) k).toNat = 5
    · rw [if_pos z]
      have b1 := bd_ok hk
      rcases ndR hs (e := (bd (TBL L) k).toNat) (by omega) with g | g | ⟨-, g, s, -, g1, g2⟩
      · omega
      · omega
      · exact h0 _ (by unfold fstN; omega)
    · rw [if_neg z]
  rw [h0 k hk]
  unfold cosF
  rw [t1, t2, t3]
  decide
set_option maxRecDepth 100000 in
theorem s_again {h : AH} {L : List Nd} {T : TE} (hI : RI h) (hT : NT h L) (hs : shT T L) : CV mX11_again 8 [rv 42] h (oi fun x h1 => KP h h1 [89] [] ∧ agR L x) := by
  refine cv_of cdX11_again ?_
  show EV _ _ 0 [rv 42, uv, uv, uv, uv] [] h _
  refine ev_iconst dX11_again_0 ?_
  refine ev_ist1 dX11_again_1 ?_
  refine ag_zero hI hT.2.1 hT.2.2.2 (fun h1 k1 z1 => ?_) L.length 0 h (Nat.zero_add _) KP.rf (fun j hj => absurd hj (Nat.not_lt_zero _))
  refine ev_iconst dX11_again_23 ?_
  refine ev_ist1 dX11_again_24 ?_
  refine ac_loop hI hT hs _ h1 _ _ _ (Nat.le_refl _) k1 (cos_0 hs z1)
