/-! cells of the picture -/
theorem aE_φ {φ φ' : Nat → Nat} {n : Nat} (hφ : ∀ a, a < n → φ' a = φ a) {c : ClassId} {k : Nat × Nat} {v : Nat → Int} (hv : ∀ j, VR n (kt k.1 j, v j)) : aE φ' c k v = aE φ c k v := by
  unfold aE
  split
  · rw [show (fun j => av_c φ' (kt k.1 j, v j)) = fun j => av_c φ (kt k.1 j, v j) from funext fun j => av_φ hφ (hv j)]
  · split
    · rfl
    · split
      · rfl
      · split
        · rfl
        · rename_i h1 h2 h3 h4
          refine congrArg (fun f => (Sum.inl (c, k.2, Sum.inr (Sum.inr (Sum.inr (Sum.inr f)))) : va_E)) (funext fun j => ?_)
          split
          · rfl
          · have hk : kt k.1 j = 1 := by unfold kt; rw [if_neg h1, if_neg h2, if_neg h3, if_neg h4]
            have := (hv j).2 hk
            simp only at this
            rw [hφ _ (by omega)]
theorem AH.row_self (h : AH) (a i : Nat) (x : Int) : h.put a i x = h.row a (fun j => if j = i then x else h.vl a j) := by
  unfold AH.put AH.row
  congr 3
  funext b j
  by_cases hb : b = a
  · subst hb
    by_cases hj : j = i <;> simp [hj]
  · simp [hb]
theorem wl_row {φ : Nat → Nat} {cA : Nat → ClassId} {h : AH} {a : Nat} {f : Nat → Int} (ha : a < h.n) : (wl φ cA h).set a (φ a, aE φ (cA a) (h.kd a) f) = wl φ cA (h.row a f) := by
  apply List.ext_getElem?
  intro i
  by_cases hi : i < h.n
  · rw [wl_at (h := h.row a f) (by rw [AH.row_n]; exact hi)]
    by_cases e : i = a
    · subst e
      rw [List.getElem?_set_self (by rw [wl_len]; exact ha), AH.row_kd]
      congr 3
      funext j
      rw [AH.row_vl, if_pos rfl]
    · rw [List.getElem?_set_ne (fun q => e q.symm), wl_at hi, AH.row_kd]
      congr 3
      funext j
      rw [AH.row_vl, if_neg e]
  · rw [List.getElem?_eq_none (by rw [List.length_set, wl_len]; omega), List.getElem?_eq_none (by rw [wl_len, AH.row_n]; omega)]
theorem RGh.row {h : AH} (hR : RGh h) {a : Nat} {f : Nat → Int} (hf : ∀ j, VR h.n (kt (h.kd a).1 j, f j)) : RGh (h.row a f) := by
  intro b hb j
  rw [AH.row_n, AH.row_kd, AH.row_vl]
  split
  · rename_i e; rw [e]; exact hf j
  · exact hR b hb j
theorem RGh.put {h : AH} (hR : RGh h) {a i : Nat} {x : Int} (hx : VR h.n (kt (h.kd a).1 i, x)) : RGh (h.put a i x) := by
  intro b hb j
  rw [AH.put_n, AH.put_kd, AH.put_vl]
  split
  · rename_i e; rw [e.1, e.2]; exact hx
  · exact hR b hb j
theorem VR_z {n : Nat} {k : Nat × Nat} {j : Nat} : VR n (kt k.1 j, kz k j) := by
  refine ⟨fun h => ?_, fun h => ?_⟩
  · unfold kz
    simp only at h
    rw [if_neg (by omega)]
    exact ir_0
  · unfold kz
    simp only at h
    rw [if_pos h]
    show (-1 : Int) < n
    omega
theorem RGh.new {h : AH} (hR : RGh h) {k : Nat × Nat} : RGh (h.new k) := by
  intro b hb j
  rw [AH.new_kd, AH.new_vl]
  split
  · exact VR_z
  · rename_i e
    rw [AH.new_n] at hb
    exact (hR b (by omega) j).mono (by rw [AH.new_n]; omega)
theorem RP.row {D : va_G} {base : Nat} {s : State} {φ : Nat → Nat} {cA : Nat → ClassId} {h : AH} {H H1 : Heap} {locs locs1 : List Loc} (P : RP D base s φ cA h H locs) {a : Nat} (ha : a < h.n) {e : va_E} {f : Nat → Int} (he : e = aE φ (cA a) (h.kd a) f)
    (hP : va_P D vwCl ((wl φ cA h).set a (φ a, e)) H1) (hD : va_D (fun q => base ≤ q) ((wl φ cA h).set a (φ a, e))) (hS : va_S (fun q => base ≤ q) s.heap H1 locs1) : RP D base s φ cA (h.row a f) H1 locs1 := by
  rw [he, wl_row ha] at hP hD
  exact ⟨⟨hP, hD, ⟨hS.1, hS.2.1⟩, fun b hb hk => P.1.2.2.2 b hb hk⟩, hS.2.2⟩
theorem wl_new {φ : Nat → Nat} {cA : Nat → ClassId} {h : AH} (hR : RGh h) {k : Nat × Nat} {q : Nat} {c : ClassId} : wl (fun b => if b = h.n then q else φ b) (fun b => if b = h.n then c else cA b) (h.new k) = wl φ cA h ++ [(q, aE φ c k (kz k))] := by
  have hφ : ∀ a, a < h.n → (fun b => if b = h.n then q else φ b) a = φ a := fun a ha => if_neg (by omega)
  unfold wl
  rw [AH.new_n, List.range_succ, List.map_append]
  congr 1
  · apply List.map_congr_left
    intro a ha
    have ha : a < h.n := List.mem_range.mp ha
    have hne : ¬ a = h.n := by omega
    rw [AH.new_kd, if_neg hne]
    simp only [if_neg hne]
    congr 1
    rw [show (h.new k).vl a = h.vl a from funext fun j => by rw [AH.new_vl, if_neg hne]]
    exact aE_φ hφ (fun j => hR a ha j)
  · simp only [List.map_cons, List.map_nil, if_true, AH.new_kd]
    congr 2
    rw [show (h.new k).vl h.n = kz k from funext fun j => by rw [AH.new_vl, if_pos rfl]]
    exact aE_φ hφ (fun j => VR_z)
theorem RP.new {D : va_G} {base : Nat} {s : State} {φ : Nat → Nat} {cA : Nat → ClassId} {h : AH} {H H1 : Heap} {locs locs1 : List Loc} (P : RP D base s φ cA h H locs) (hR : RGh h) {k : Nat × Nat} {q : Nat} {c : ClassId} {e : va_E} (he : e = aE φ c k (kz k)) (hc : 100 ≤ k.1 → va_K D vwCl [(c, aty k.1)] s)
    (hP : va_P D vwCl (wl φ cA h ++ [(q, e)]) H1) (hD : va_D (fun q => base ≤ q) (wl φ cA h ++ [(q, e)])) (hS : va_S (fun q => base ≤ q) s.heap H1 locs1) : RP D base s (fun b => if b = h.n then q else φ b) (fun b => if b = h.n then c else cA b) (h.new k) H1 locs1 := by
  rw [he, ← wl_new hR] at hP hD
  refine ⟨⟨hP, hD, ⟨hS.1, hS.2.1⟩, fun b hb hk => ?_⟩, hS.2.2⟩
  rw [AH.new_kd] at hk ⊢
  by_cases e : b = h.n
  · rw [if_pos e] at hk ⊢
    simp only [if_pos e]
    exact hc hk
  · rw [if_neg e] at hk ⊢
    simp only [if_neg e]
    rw [AH.new_n] at hb
    exact P.1.2.2.2 b (by omega) hk
/-! what the tables say of a class, a field, a call: one lemma each, by program -/
def fok (τ : FieldType) (x : Int) : Prop := match τ with
  | .int => True
  | .boolean => x = 0 ∨ x = 1
  | .byte => -128 ≤ x ∧ x ≤ 127
  | .object _ => True
  | .array _ => True
  | _ => False
def tkt (τ : FieldType) : Nat := match τ with
  | .object _ => 1
  | .array _ => 1
  | _ => 0
theorem fok_ok {φ : Nat → Nat} {τ : FieldType} {x : Int} (h : fok τ x) : narrow τ (av_c φ (tkt τ, x)) = av_c φ (tkt τ, x) ∧ fits τ (av_c φ (tkt τ, x)) = true := by
  cases τ with
  | int => exact ⟨rfl, rfl⟩
  | boolean => rcases h with rfl | rfl <;> exact ⟨rfl, rfl⟩
  | byte =>
    have e : (Int32.ofInt x).toInt8.toInt32 = Int32.ofInt x := by
      obtain ⟨h1, h2⟩ := h
      rw [show (Int32.ofInt x).toInt8 = Int8.ofInt x by rw [Int32.toInt8_ofInt]]
      exact i8 h1 h2
    show narrow .byte (.int (Int32.ofInt x)) = .int (Int32.ofInt x) ∧ fits .byte (.int (Int32.ofInt x)) = true
    rw [← e]
    exact ⟨pk_nb _, pk_fb _⟩
  | object C => show narrow _ (if x < 0 then _ else _) = (if x < 0 then _ else _) ∧ _; by_cases q : x < 0 <;> simp only [tkt, av_c, q, if_true, if_false] <;> exact ⟨rfl, rfl⟩
  | array t => show narrow _ (if x < 0 then _ else _) = (if x < 0 then _ else _) ∧ _; by_cases q : x < 0 <;> simp only [tkt, av_c, q, if_true, if_false] <;> exact ⟨rfl, rfl⟩
  | _ => exact h.elim
/-- class number ci of vwCl -/
def KC (ci : Nat) (C : String) (T : u_T) (ty : Nat → FieldType) (N : Nat) : Prop :=
  ci < 100 ∧ vwCl[ci]? = some (C, T, N) ∧ (∀ w ∈ u_ws C T N, w ∈ gw) ∧ (∀ k, k < N → parseFieldDescriptor (T k).2.2.1 = some (ty k)) ∧ (∀ a, a < N → ∀ b, b < N → a ≠ b → (T a).2.1 ≠ (T b).2.1) ∧ ∀ k, k < N → kt ci k = tkt (ty k) ∧ ((kt ci k = 0 ∧ defaultValue (ty k) = .int 0) ∨ (kt ci k = 1 ∧ defaultValue (ty k) = .null))
/-- entry idx of the class own links field k of class ci -/
def FL (own : String) (idx ci N k : Nat) (fin : Bool) (τ : FieldType) : Prop := ∃ (C : String) (T : u_T) (ty : Nat → FieldType), KC ci C T ty N ∧ k < N ∧ (T k).2.2.2 = fin ∧ ty k = τ ∧
  (Cond.fieldLink own idx (T k).1 (T k).2.1 (T k).2.2.1 ∈ gw ∨ ∃ host, Cond.fieldLinkNest own idx (T k).1 (T k).2.1 (T k).2.2.1 host ∈ lw_tbl)
/-- .. a field that is written in a constructor alone -/
def FLF (own : String) (idx ci N k : Nat) (τ : FieldType) : Prop := ∃ (C : String) (T : u_T) (ty : Nat → FieldType), KC ci C T ty N ∧ k < N ∧ (T k).2.2.2 = true ∧ ty k = τ ∧ (T k).1 = own ∧ Cond.fieldLink own idx (T k).1 (T k).2.1 (T k).2.2.1 ∈ gw
section EvC
variable {M : MD} {d pc : Nat} {L S : List AV} {h : AH} {Q : AV → AH → Prop}
theorem ev_get {idx ci N k : Nat} {fin : Bool} {τ : FieldType} {a : Int} (hd : decode M.cc pc = .ok (.getfield idx, 3)) (f : FL M.y.cls idx ci N k fin τ) (ha : 0 ≤ a) (hn : a < (h.n : Int)) (hk : h.kd a.toNat = (ci, N))
    (kk : EV M d (pc + 3) L ((tkt τ, h.vl a.toNat k) :: S) h Q) : EV M d pc L (rv a :: S) h Q := by
  obtain ⟨C, T, ty, ⟨c0, c1, c2, c3, c4, c5⟩, f1, f2, rfl, f4⟩ := f
  have hkt := (c5 k f1).1
  refine ev_pure kk (fun _ hS hR => SR_c ?_ (SR_t hS)) ?_
  · have := hR a.toNat (by omega) k
    rw [hk] at this
    rw [← hkt]; exact this
  · intro p l e R s m args below meth c D base scr φ cA H locs ls cells slots Q _ hS _ X P hl W0
    obtain ⟨hx, hb, hr, hml, hown, hts, hlk, htr, htb, hnm, hK, hbs, hG, hf, hlo⟩ := X
    have he : (wl φ cA h)[a.toNat]? = some (φ a.toNat, .inr (ci, (List.range N).map (fun j => av_c φ (kt ci j, h.vl a.toNat j)))) := by
      rw [wl_at (by omega)]
      unfold aE
      rw [hk, if_pos c0]
    have hv : ((List.range N).map (fun j => av_c φ (kt ci j, h.vl a.toNat j)))[k]? = some (av_c φ (tkt (ty k), h.vl a.toNat k)) := by
      rw [← hkt]; simp [f1]
    have e1 : (rv a :: S).map (av_c φ) = .ref (φ a.toNat) :: S.map (av_c φ) := by simp [av_c, show ¬ a < 0 by omega]
    rw [e1]
    rcases f4 with f4 | ⟨host, f4⟩
    · exact va_get (own := M.y.cls) (ref := (T k).1) hx hb hts c2 hown hK P.1.1 a.toNat he c1 k f1 (hts _ f4) (fun _ z => z) hv hd W0
    · exact va_getN (own := M.y.cls) (ref := (T k).1) hx hb hts c2 hown hK P.1.1 a.toNat he c1 k f1 (va_Nw.use rfl (hG.2.2.1 _ f4 rfl)) (fun _ z => z) hv hd W0
end EvC
