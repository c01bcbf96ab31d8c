/-! which nodes are gone through again: what stays apart (pure) -/
/-- a node's parts, told with what they are parts of -/
def NdP (L : List Nd) (e : Nat) : Prop := (0 ≤ TBL L 57 e ∧ TBL L 57 e < 4) ∨ (TBL L 57 e = 4 ∧ TBL L 59 e = ((e + 1 : Nat) : Int) ∧ fstN L e = e + 1 ∧ e + 1 < L.length ∧ TBL L 61 (e + 1) = (e : Int)) ∨ ((TBL L 57 e = 5 ∨ TBL L 57 e = 6) ∧ TBL L 59 e = ((e + 1 : Nat) : Int) ∧ TBL L 60 e = ((sndN L e : Nat) : Int) ∧ fstN L e = e + 1 ∧ e + 1 < sndN L e ∧ sndN L e < L.length ∧ TBL L 61 (e + 1) = (e : Int) ∧ TBL L 61 (sndN L e) = (e : Int))
theorem ndP {L : List Nd} {T : TE} (hs : shT T L) (hnd : ∀ x ∈ L, ndOK x) {e : Nat} (he : e < L.length) : NdP L e := by
  obtain ⟨T', pre, D, post, hL, hp, hsh, hle⟩ := sh_at (L := L) T [] L [] (by simp) hs e (Nat.zero_le _) (by rw [List.length_nil]; omega)
  rw [List.length_nil, Nat.zero_add] at hle
  have nk := (nd_let hnd he).2
  cases T' with
  | var v =>
    obtain ⟨x, hD, hx⟩ := hsh
    have k57 : TBL L 57 pre.length = x.1 := by rw [hL]; exact (TBL_nd hD).1
    rw [hp] at k57
    exact Or.inl ⟨nk.1, by omega⟩
  | op a b =>
    rcases hsh with ⟨x, D1, hD, hx, s1⟩ | ⟨x, D1, D2, hD, hx, s1, s2⟩
    · have hlD : D.length = D1.length + 1 := by rw [hD, List.length_cons]
      have hp1 := List.length_pos_iff.mpr (sh_ne s1)
      have k57 : TBL L 57 pre.length = x.1 := by rw [hL]; exact (TBL_nd hD).1
      have k59 : TBL L 59 pre.length = ((pre.length + 1 : Nat) : Int) := by rw [hL]; exact TBL_f hD (sh_ne s1) (by rw [hx]; decide)
      have k61 : TBL L 61 (pre.length + 1) = (pre.length : Int) := by rw [hL]; exact TBL_61f hD (sh_ne s1) (by rw [hx]; decide)
      rw [hp] at k57 k59 k61
      exact Or.inr (Or.inl ⟨k57.trans hx, k59, by rw [fstN, k59]; rfl, by omega, k61⟩)
    · have hlD : D.length = D1.length + D2.length + 1 := by rw [hD, List.length_cons, List.length_append]
      have hp1 := List.length_pos_iff.mpr (sh_ne s1)
      have hp2 := List.length_pos_iff.mpr (sh_ne s2)
      have hx2 : arN x.1 = 2 := by rw [arN, if_neg (by omega), if_neg (by omega)]
      have k57 : TBL L 57 pre.length = x.1 := by rw [hL]; exact (TBL_nd hD).1
      have k59 : TBL L 59 pre.length = ((pre.length + 1 : Nat) : Int) := by rw [hL]; exact TBL_f hD (by simp; exact fun z => absurd z (sh_ne s1)) (by omega)
      have k60 : TBL L 60 pre.length = ((pre.length + 1 + D1.length : Nat) : Int) := by rw [hL, hD]; exact TBL_60 hx2 s1 s2
      have k61 : TBL L 61 (pre.length + 1) = (pre.length : Int) := by rw [hL]; exact TBL_61f hD (by simp; exact fun z => absurd z (sh_ne s1)) (by omega)
      have k62 : TBL L 61 (pre.length + 1 + D1.length) = (pre.length : Int) := by rw [hL, hD]; exact TBL_61s hx2 s1 s2
      rw [hp] at k57 k59 k60 k61 k62
      have ks : sndN L e = e + 1 + D1.length := by rw [sndN, k60]; rfl
      exact Or.inr (Or.inr ⟨by rw [k57]; exact hx, k59, by rw [ks]; exact k60, by rw [fstN, k59]; rfl, by omega, by omega, k61, by rw [ks]; exact k62⟩)
theorem anc_0 {L : List Nd} {e : Nat} (h : TBL L 61 e < 0) : ancN L e = [] := by rw [ancN, arN', if_pos h]
theorem anc_ch {L : List Nd} (hl : L.length ≤ 120) : ∀ (n x : Nat), x ≤ n → x < L.length → ∀ p q, p ∈ ancN L x → q ∈ ancN L x → p = q ∨ p ∈ ancN L q ∨ q ∈ ancN L p
  | n, x, hn, hx, p, q, hp, hq => by
    have g := (TBL_gd (L := L) x hx).1
    by_cases c : TBL L 61 x < 0
    · rw [anc_0 c] at hp; exact absurd hp List.not_mem_nil
    obtain ⟨y, hy⟩ : ∃ y : Nat, TBL L 61 x = (y : Int) := ⟨(TBL L 61 x).toNat, by omega⟩
    rw [anc_st hl hx hy] at hp hq
    rcases List.mem_cons.mp hp with rfl | hp
    · rcases List.mem_cons.mp hq with rfl | hq
      · exact Or.inl rfl
      · exact Or.inr (Or.inr hq)
    · rcases List.mem_cons.mp hq with rfl | hq
      · exact Or.inr (Or.inl hp)
      · cases n with
        | zero => omega
        | succ n => exact anc_ch hl n y (by omega) (by omega) p q hp hq
/-- a node of a part -/
def InP (L : List Nd) (p x : Nat) : Prop := x = p ∨ p ∈ ancN L x
theorem InP.tr {L : List Nd} (hl : L.length ≤ 120) {p q x : Nat} (hx : x < L.length) (h1 : InP L p q) (h2 : InP L q x) : InP L p x := by
  rcases h2 with rfl | h2
  · exact h1
  · rcases h1 with rfl | h1
    · exact Or.inr h2
    · exact Or.inr (anc_tr hl h1 x x (Nat.le_refl _) hx h2)
/-- the two parts of a let have no node in common -/
theorem in_dj {L : List Nd} (hl : L.length ≤ 120) {b x : Nat} (hb : NdP L b) (h5 : TBL L 57 b = 5 ∨ TBL L 57 b = 6) (hx : x < L.length) (h1 : InP L (fstN L b) x) (h2 : InP L (sndN L b) x) : False := by
  rcases hb with w | w | ⟨-, -, -, w1, w2, w3, w4, w5⟩
  · omega
  · omega
  rw [w1] at h1
  have a1 := anc_st hl (by omega : b + 1 < L.length) w4
  have a2 := anc_st hl w3 w5
  have n1 : ∀ z, z ∈ ancN L (b + 1) → z < b + 1 := fun z hz => anc_lt' (by omega) hz
  have f1 : b + 1 ∉ ancN L (sndN L b) := fun z => by
    rw [a2] at z
    rcases List.mem_cons.mp z with z | z
    · omega
    · have := anc_lt' (by omega) z; omega
  have f2 : sndN L b ∉ ancN L (b + 1) := fun z => by have := n1 _ z; omega
  rcases h1 with rfl | h1
  · rcases h2 with h2 | h2
    · omega
    · exact f2 h2
  · rcases h2 with rfl | h2
    · exact f1 h1
    · rcases anc_ch hl x x (Nat.le_refl _) hx _ _ h1 h2 with z | z | z
      · omega
      · exact f1 z
      · exact f2 z
/-- a node that going through e leaves alone -/
def KpN (L : List Nd) (e k : Nat) : Prop := ¬ InP L e k ∧ ∀ b ∈ ancN L e, TBL L 57 b = 5 → InP L (sndN L b) e → ¬ InP L (fstN L b) k
section KpNs
variable {L : List Nd} {e c k : Nat}
theorem in_ch (hl : L.length ≤ 120) (hc : c < L.length) (h : TBL L 61 c = (e : Int)) (hk : k < L.length) (hi : InP L c k) : InP L e k := InP.tr hl hk (Or.inr (by rw [anc_st hl hc h]; exact List.mem_cons_self)) hi
/-- into a first part, or the part of a function -/
theorem KpN.ch (hl : L.length ≤ 120) (hA : ∀ x, x < L.length → NdP L x) (h : KpN L e k) (he : e < L.length) (hc : c < L.length) (hk : k < L.length) (h61 : TBL L 61 c = (e : Int)) : KpN L c k := by
  have ac := anc_st hl hc h61
  refine ⟨fun z => h.1 (in_ch hl hc h61 hk z), fun b hb h5 hs hf => ?_⟩
  rw [ac] at hb
  rcases List.mem_cons.mp hb with rfl | hb
  · -- the let itself: all its nodes are nodes of e
    rcases hA b he with w | w | ⟨-, -, -, w1, w2, w3, w4, w5⟩
    · omega
    · omega
    · exact h.1 (in_ch hl (by omega) (by rw [w1]; exact w4) hk hf)
  · refine h.2 b hb h5 ?_ hf
    have hbl : b < L.length := by have := anc_lt' he hb; omega
    rcases hA b hbl with w | w | ⟨-, -, -, w1, w2, w3, w4, w5⟩
    · omega
    · omega
    rcases hs with hs | hs
    · rw [← hs, h61] at w5
      have : e = b := by omega
      have := anc_lt' he hb
      omega
    · rw [ac] at hs
      rcases List.mem_cons.mp hs with hs | hs
      · exact Or.inl hs.symm
      · exact Or.inr hs
theorem KpN.own (hl : L.length ≤ 120) (hA : ∀ x, x < L.length → NdP L x) (he : e < L.length) (hc : c < L.length) (h61 : TBL L 61 c = (e : Int)) : KpN L c e := by
  have ac := anc_st hl hc h61
  have ec : e < c := by have := (TBL_gd (L := L) c hc).1; omega
  refine ⟨fun z => ?_, fun b hb h5 hs hf => ?_⟩
  · rcases z with z | z
    · omega
    · have := anc_lt' he z; omega
  · rw [ac] at hb
    rcases List.mem_cons.mp hb with rfl | hb
    · rcases hA b he with w | w | ⟨-, -, -, w1, w2, w3, w4, w5⟩
      · omega
      · omega
      · rcases hf with hf | hf
        · omega
        · have := anc_lt' he hf; omega
    · have hbl : b < L.length := by have := anc_lt' he hb; omega
      have nb := hA b hbl
      refine in_dj hl nb (Or.inl h5) he hf ?_
      rcases hA b hbl with w | w | ⟨-, -, -, w1, w2, w3, w4, w5⟩
      · omega
      · omega
      rcases hs with hs | hs
      · rw [← hs, h61] at w5
        have : e = b := by omega
        have := anc_lt' he hb
        omega
      · rw [ac] at hs
        rcases List.mem_cons.mp hs with hs | hs
        · exact Or.inl hs.symm
        · exact Or.inr hs
/-- a name and the let that binds it -/
def BdL (L : List Nd) (e b : Nat) : Prop := b ∈ ancN L e ∧ TBL L 57 b = 5 ∧ InP L (sndN L b) e
theorem bd_in (hl : L.length ≤ 120) {nd : Nat} (hn : nd < L.length) : ∀ (f : Nat) (below : Nat) (k : Int), InP L below nd → below < L.length → TBL L 61 below = k → 0 ≤ bdW (TBL L) (TBL L 58 nd) f (below : Int) k → TBL L 57 (bdW (TBL L) (TBL L 58 nd) f (below : Int) k).toNat = 5 → TBL L 60 (bdW (TBL L) (TBL L 58 nd) f (below : Int) k).toNat = ((sndN L (bdW (TBL L) (TBL L 58 nd) f (below : Int) k).toNat : Nat) : Int) → InP L (sndN L (bdW (TBL L) (TBL L 58 nd) f (below : Int) k).toNat) nd
  | 0, below, k, _, _, _, h, _, _ => absurd h (by show ¬ (0 : Int) ≤ -1; decide)
  | f + 1, below, k, h1, h2, h3, h, h5, h6 => by
    rw [bdW] at h h5 h6 ⊢
    by_cases c : k < 0
    · rw [if_pos c] at h; exact absurd h (by decide)
    rw [if_neg c] at h h5 h6 ⊢
    by_cases c2 : (TBL L 57 k.toNat = 4 ∨ (TBL L 57 k.toNat = 5 ∧ TBL L 60 k.toNat = (below : Int))) ∧ TBL L 58 k.toNat = TBL L 58 nd
    · rw [if_pos c2] at h h5 h6 ⊢
      rcases c2.1 with d | d
      · omega
      · have : sndN L k.toNat = below := by rw [d.2] at h6; omega
        rw [this]
        exact h1
    · rw [if_neg c2] at h h5 h6 ⊢
      obtain ⟨m, rfl⟩ : ∃ m : Nat, k = (m : Int) := ⟨k.toNat, by omega⟩
      have g := (TBL_gd (L := L) below h2).1
      exact bd_in hl hn f m _ (in_ch hl h2 h3 hn h1) (by omega) rfl h h5 h6
theorem bdL (hl : L.length ≤ 120) (hA : ∀ x, x < L.length → NdP L x) (he : e < L.length) (h0 : 0 ≤ bd (TBL L) e) (h4 : TBL L 57 (bd (TBL L) e).toNat ≠ 4) : BdL L e (bd (TBL L) e).toNat := by
  have g := (TBL_gd (L := L) e he).1
  obtain ⟨a1, a2⟩ := bd_anc (L := L) (nd := e) 130 (e : Int) (TBL L 61 e) (Int.le_refl _) (by omega) (by omega) h0
  have a1 : (bd (TBL L) e).toNat ∈ ancN L e := a1
  have a2' : TBL L 57 (bd (TBL L) e).toNat = 5 := by
    rcases a2 with z | z
    · exact absurd z h4
    · exact z.1
  refine ⟨a1, a2', ?_⟩
  have hbl : (bd (TBL L) e).toNat < L.length := by have := anc_lt' he a1; omega
  rcases hA _ hbl with w | w | ⟨-, -, w0, -⟩
  · omega
  · omega
  exact bd_in hl he 130 e (TBL L 61 e) (Or.inl rfl) he rfl h0 a2' w0
theorem KpN.nm (hl : L.length ≤ 120) (hA : ∀ x, x < L.length → NdP L x) {b : Nat} (h : KpN L e k) (he : e < L.length) (hb : BdL L e b) : KpN L (fstN L b) k := by
  obtain ⟨b1, b2, b3⟩ := hb
  have hbl : b < L.length := by have := anc_lt' he b1; omega
  rcases hA b hbl with w | w | ⟨-, -, -, w1, w2, w3, w4, w5⟩
  · omega
  · omega
  refine ⟨h.2 b b1 b2 b3, fun b' hb' h5 hs => ?_⟩
  have ac := anc_st hl (by omega : b + 1 < L.length) w4
  rw [w1, ac] at hb'
  rw [w1] at hs
  have sb1 : InP L (sndN L b') (b + 1) → b' ∈ ancN L b → InP L (sndN L b') b := fun hs hb' => by
    have hbl' : b' < L.length := by have := anc_lt' hbl hb'; omega
    rcases hA b' hbl' with w | w | ⟨-, -, -, v1, v2, v3, v4, v5⟩
    · omega
    · omega
    rcases hs with hs | hs
    · rw [← hs, w4] at v5
      have : b = b' := by omega
      have := anc_lt' hbl hb'
      omega
    · rw [ac] at hs
      rcases List.mem_cons.mp hs with hs | hs
      · exact Or.inl hs.symm
      · exact Or.inr hs
  rcases List.mem_cons.mp hb' with rfl | hb'
  · exfalso
    rcases hs with hs | hs
    · omega
    · rw [ac] at hs
      rcases List.mem_cons.mp hs with hs | hs
      · omega
      · have := anc_lt' hbl hs; omega
  · exact h.2 b' (anc_tr hl hb' e e (Nat.le_refl _) he b1) h5 (InP.tr hl he (sb1 hs hb') (Or.inr b1))
theorem KpN.nmo (hl : L.length ≤ 120) (hA : ∀ x, x < L.length → NdP L x) {b : Nat} (he : e < L.length) (hb : BdL L e b) : KpN L (fstN L b) e := by
  obtain ⟨b1, b2, b3⟩ := hb
  have hbl : b < L.length := by have := anc_lt' he b1; omega
  have nb := hA b hbl
  rcases hA b hbl with w | w | ⟨-, -, -, w1, w2, w3, w4, w5⟩
  · omega
  · omega
  refine ⟨fun z => in_dj hl nb (Or.inl b2) he z b3, fun b' hb' h5 hs hf => ?_⟩
  have ac := anc_st hl (by omega : b + 1 < L.length) w4
  rw [w1, ac] at hb'
  rw [w1] at hs
  rcases List.mem_cons.mp hb' with rfl | hb'
  · rcases hs with hs | hs
    · omega
    · rw [ac] at hs
      rcases List.mem_cons.mp hs with hs | hs
      · omega
      · have := anc_lt' hbl hs; omega
  · have hbl' : b' < L.length := by have := anc_lt' hbl hb'; omega
    refine in_dj hl (hA b' hbl') (Or.inl h5) he hf ?_
    rcases hA b' hbl' with w | w | ⟨-, -, -, v1, v2, v3, v4, v5⟩
    · omega
    · omega
    rcases hs with hs | hs
    · rw [← hs, w4] at v5
      have : b = b' := by omega
      have := anc_lt' hbl hb'
      omega
    · rw [ac] at hs
      rcases List.mem_cons.mp hs with hs | hs
      · exact Or.inr (by rw [hs]; exact b1)
      · exact Or.inr (anc_tr hl hs e e (Nat.le_refl _) he b1)
/-- what is around stays -/
theorem KpN.ar (hl : L.length ≤ 120) (hA : ∀ x, x < L.length → NdP L x) (he : e < L.length) (hk : k ∈ ancN L e) : KpN L e k := by
  have ke := anc_lt' he hk
  refine ⟨fun z => ?_, fun b hb h5 hs hf => ?_⟩
  · rcases z with z | z
    · omega
    · have := anc_lt' (by omega) z; omega
  · have hbl : b < L.length := by have := anc_lt' he hb; omega
    exact in_dj hl (hA b hbl) (Or.inl h5) he (InP.tr hl he hf (Or.inr hk)) hs
end KpNs
