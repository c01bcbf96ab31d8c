/-! the law, whatever keeps J from call to call -/
def STR (h : AH) : Prop := h.kd 0 = (10, 13) ∧ h.kd 42 = (11, 82) ∧ h.kd 92 = (102, 1) ∧ h.kd 93 = (103, 1) ∧ 94 ≤ h.n
/-- a call of the class, and the same of the reference: they throw alike, and answer alike -/
def LC (J : AH → Prop) (Mw : MD) (as : List AV) (Mm : MD) (bs : List AV) (h : AH) : Prop :=
  ∃ d1, d1 < 20 ∧ CVH Mw d1 (rv 0 :: (as ++ [rv 92])) h (oi fun kk h1 => STR h1 ∧ ∃ d2, d2 < 20 ∧ CV Mm d2 (rv 42 :: bs) h1 (oi fun b h2 => RI h2 ∧ STR h2 ∧ h2.vl 42 0 = kk ∧ (kk = 0 → h2.vl 92 0 = b) ∧ J h2))
def LCb (J : AH → Prop) (Mw : MD) (as : List AV) (Mm : MD) (bs : List AV) (h : AH) : Prop :=
  ∃ d1, d1 < 20 ∧ CVH Mw d1 (rv 0 :: (as ++ [rv 92])) h (oi fun kk h1 => STR h1 ∧ ∃ d2, d2 < 20 ∧ CV Mm d2 (rv 42 :: bs) h1 (oi fun b h2 => RI h2 ∧ STR h2 ∧ h2.vl 42 0 = kk ∧ (kk = 0 → h2.vl 92 0 = b ∧ (b = 0 ∨ b = 1)) ∧ J h2))
def LCd (J : AH → Prop) (Mw Mm : MD) (h : AH) : Prop :=
  ∃ d1, d1 < 20 ∧ CVH Mw d1 [rv 0, rv 93] h (oi fun kk h1 => STR h1 ∧ ∃ d2, d2 < 20 ∧ CV Mm d2 [rv 42] h1 (fun o h2 => ∃ w, o = dv w ∧ RI h2 ∧ STR h2 ∧ h2.vl 42 0 = kk ∧ (kk = 0 → h2.vl 93 0 = (w.toNat : Int) ∧ dcv w w .l = 0) ∧ J h2))
def LCf (J : AH → Prop) (Mw Mm : MD) (h : AH) : Prop :=
  ∃ d1, d1 < 20 ∧ CVH Mw d1 [rv 0, rv 93] h (oi fun kk h1 => STR h1 ∧ ∃ d2, d2 < 20 ∧ CV Mm d2 [rv 42] h1 (fun o h2 => ∃ w, o = fv w ∧ RI h2 ∧ STR h2 ∧ h2.vl 42 0 = kk ∧ (kk = 0 → vf_n64 (FP.f2d w) ∧ h2.vl 93 0 = ((FP.f2d w).toNat : Int) ∧ dcv (FP.f2d w) (FP.f2d w) .l = 0) ∧ J h2))
def LCx (J : AH → Prop) (Mx Mm : MD) (h : AH) : Prop :=
  ∃ d1, d1 < 20 ∧ CV Mx d1 [rv 0] h (oi fun a h1 => STR h1 ∧ ∃ d2, d2 < 20 ∧ CV Mm d2 [rv 42] h1 (oi fun b h2 => a = b ∧ RI h2 ∧ STR h2 ∧ J h2))
/-- each of the calls keeps J -/
def LAWH (J : AH → Prop) (h : AH) : Prop :=
  LC J mL_lesson [] mX11_lesson [] h ∧
  (∀ p : Int, ir p → LC J mL_drop [iv p] mX11_drop [iv p] h) ∧
  (∀ p q : Int, ir p → ir q → LC J mL_keep [iv p, iv q] mX11_keep [iv p, iv q] h) ∧
  (∀ p : Int, ir p → LC J mL_unkeep [iv p] mX11_unkeep [iv p] h) ∧
  (∀ p : Int, ir p → LC J mL_nodes [iv p] mX11_nodes [iv p] h) ∧
  (∀ p q r : Int, ir p → ir q → ir r → LC J mL_nodeOf [iv p, iv q, iv r] mX11_nodeOf [iv p, iv q, iv r] h) ∧
  (∀ p q : Int, ir p → ir q → LC J mL_signOf [iv p, iv q] mX11_signOf [iv p, iv q] h) ∧
  (∀ p q : Int, ir p → ir q → LC J mL_binder [iv p, iv q] mX11_binder [iv p, iv q] h) ∧
  (∀ p q : Int, ir p → ir q → LC J mL_uses [iv p, iv q] mX11_uses [iv p, iv q] h) ∧
  (∀ p : Int, ir p → LC J mL_unbound [iv p] mX11_unbound [iv p] h) ∧
  (∀ p : Int, ir p → LCb J mL_isTyped [iv p] mX11_isTyped [iv p] h) ∧
  (∀ p q : Int, ir p → ir q → LC J mL_failure [iv p, iv q] mX11_failure [iv p, iv q] h) ∧
  (∀ p q : Int, ir p → ir q → LC J mL_typeOf [iv p, iv q] mX11_typeOf [iv p, iv q] h) ∧
  (∀ p q : Int, ir p → ir q → LC J mL_typeAgain [iv p, iv q] mX11_typeAgain [iv p, iv q] h) ∧
  (∀ p q r : Int, ir p → ir q → ir r → LC J mL_nodeType [iv p, iv q, iv r] mX11_nodeType [iv p, iv q, iv r] h) ∧
  (∀ p q : Int, ir p → ir q → LCb J mL_isAlike [iv p, iv q] mX11_isAlike [iv p, iv q] h) ∧
  (∀ p q : Int, ir p → ir q → LCb J mL_isAsGeneral [iv p, iv q] mX11_isAsGeneral [iv p, iv q] h) ∧
  (∀ p q : Int, ir p → ir q → LC J mL_fit [iv p, iv q] mX11_fit [iv p, iv q] h) ∧
  (∀ p : Int, ir p → LC J mL_fitting [iv p] mX11_fitting [iv p] h) ∧
  (∀ p : Int, ir p → LCb J mL_isKept [iv p] mX11_isKept [iv p] h) ∧
  LC J mL_largest [] mX11_largest [] h ∧
  (∀ p : Int, ir p → LC J mL_ranked [iv p] mX11_ranked [iv p] h) ∧
  LCx J mX10_isTold mX11_isTold h ∧
  (∀ p : Int, ir p → LC J mL_append [iv (p % 65536)] mX11_append [iv (p % 65536)] h) ∧
  LC J mL_run [] mX11_run [] h ∧
  LCx J mX10_faultPosition mX11_faultPosition h ∧
  (∀ p q : Int, ir p → (q = 0 ∨ q = 1) → LC J mL_reason [iv p, iv q] mX11_reason [iv p, iv q] h) ∧
  (∀ p : Int, ir p → LC J mL_tell [iv p] mX11_tell [iv p] h) ∧
  (∀ p q : Int, ir p → ir q → LC J mL_tellNode [iv p, iv q] mX11_tellNode [iv p, iv q] h) ∧
  (∀ p : Int, ir p → LC J mL_tellKept [iv p] mX11_tellKept [iv p] h) ∧
  (∀ p : Int, ir p → LC J mL_tellTerm [iv p] mX11_tellTerm [iv p] h) ∧
  (∀ p : Int, ir p → LC J mL_character [iv p] mX11_character [iv p] h) ∧
  (∀ p : Int, ir p → LC J mL_account [iv p] mX11_account [iv p] h) ∧
  LCd J mL_meanSize mX11_meanSize h ∧
  LCf J mL_typedShare mX11_typedShare h ∧
  LC J mL_undo [] mX11_undo [] h ∧
  LCx J mX10_save mX11_save h ∧
  LC J mL_restore [] mX11_restore [] h ∧
  J h
abbrev mLaw (b n : Nat) (xs : Nat → Int32) : MD := (yL_law, cL_law, 9, some .boolean, [], fun scr => scr.1 = b ∧ scr.2.1 = n ∧ scr.2.2 = xs)
def LQ (J : Nat → AH → Prop) (n : Nat) : AV → AH → Prop := fun o h' => o = iv 1 ∧ ∃ k, 4 * k ≤ n ∧ J k h'
theorem i32_ir (x : Int32) : ir x.toInt := ⟨Int32.le_toInt _, by have := Int32.toInt_lt x; omega⟩
set_option maxHeartbeats 4000000 in
set_option maxRecDepth 100000 in
theorem law_loop {b n : Nat} {xs : Nat → Int32} {J : Nat → AH → Prop} (hn : n ≤ 100000) (H : ∀ k h, 4 * k + 4 ≤ n → J k h → STR h ∧ RI h ∧ LAWH (J (k + 1)) h) : ∀ (t k : Nat) (i : Int) (a6 a7 a8 : AV) (h : AH), n ≤ 4 * (k + t) + 3 → i = 4 * (k : Int) → 4 * k ≤ n → J k h → (STR h ∧ RI h) →
    EV (mLaw b n xs) 20 28 [(5, (b : Int)), rv 0, rv 42, rv 92, rv 93, iv i, a6, a7, a8] [] h (LQ J n) := by
  have ho : ∀ scr, (mLaw b n xs).ok scr → scr.1 = (b : Int).toNat ∧ scr.2.1 = n ∧ scr.2.2 = xs := fun scr q => ⟨q.1, q.2.1, q.2.2⟩
  have ho2 : ∀ scr, (mLaw b n xs).ok scr → scr.1 = (b : Int).toNat ∧ scr.2.1 = n := fun scr q => ⟨q.1, q.2.1⟩
  intro t
  induction t with
  | zero =>
    intro k i a6 a7 a8 h ht hi h4 hJ hB
    refine ev_iload dL_law_28 rfl ?_
    refine ev_alx dL_law_30 rfl ?_
    refine ev_slen dL_law_31 ho2 hn ?_
    refine ev_iconst dL_law_32 ?_
    refine ev_isub dL_law_33 (by unfold ir; omega) ?_
    refine ev_icmpgt 2414 dL_law_34 (fun hc => ?_) (fun h_no => (by exfalso; omega))
    refine ev_iconst dL_law_2414 ?_
    exact ev_zret dL_law_2415 (⟨rfl, k, h4, hJ⟩) (Or.inr rfl)
  | succ t ih =>
    intro k i a6 a7 a8 h ht hi h4 hJ hB
    refine ev_iload dL_law_28 rfl ?_
    refine ev_alx dL_law_30 rfl ?_
    refine ev_slen dL_law_31 ho2 hn ?_
    refine ev_iconst dL_law_32 ?_
    refine ev_isub dL_law_33 (by unfold ir; omega) ?_
    refine ev_icmpgt 2414 dL_law_34 (fun hc => ?_) (fun hc => ?_)
    · refine ev_iconst dL_law_2414 ?_
      exact ev_zret dL_law_2415 (⟨rfl, k, h4, hJ⟩) (Or.inr rfl)
    · obtain ⟨hS, hI, hA⟩ := H k h (by omega) hJ
      have nxt : ∀ (a6 a7 a8 : AV) (h' : AH), J (k + 1) h' → STR h' ∧ RI h' → EV (mLaw b n xs) 20 2408 [(5, (b : Int)), rv 0, rv 42, rv 92, rv 93, iv i, a6, a7, a8] [] h' (LQ J n) := by
        intro a6 a7 a8 h' hJ' hB'
        refine ev_iin5 dL_law_2408 (by unfold ir; omega) ?_ (show 5 < 9 by decide)
        refine ev_gt 28 dL_law_2411 ?_
        exact ih (k + 1) (i + 4) a6 a7 a8 h' (by omega) (by omega) (by omega) hJ' hB'
      have hX : STR h → h.kd 0 = (10, 13) := fun q => q.1
      refine ev_alx dL_law_37 rfl ?_
      refine ev_iload dL_law_38 rfl ?_
      refine ev_sld dL_law_40 ho (by omega) (by omega) ?_
      refine ev_bipush dL_law_41 ?_
      refine ev_iand dL_law_43 ?_
      obtain ⟨c, hcd⟩ : ∃ c, c = ian (xs i.toNat).toInt 63 := ⟨_, rfl⟩
      rw [← hcd]
      by_cases hc0 : c = 0
      · subst hc0
        refine ev_tsI 212 (168) dL_law_44 (by omega) (by omega) rfl ?_
        obtain ⟨d1, hd1, hC⟩ := hA.1 
        refine ev_aload_n dL_law_212 rfl ?_
        refine ev_aload_n dL_law_213 rfl ?_
        refine ev_callsH dL_law_214 lL_142 hC hd1 rfl rfl (Nat.le_of_ble_eq_true rfl) (fun kk h1 q => ?_)
        obtain ⟨hS1, d2, hd2, hC2⟩ := q
        refine ev_ist6 dL_law_217 ?_ (show 6 < 9 by decide)
        refine ev_aload_n dL_law_219 rfl ?_
        refine ev_cvi dL_law_220 lL_147 hC2 hd2 hS1.2.1 (by have := hS1.2.2.2.2; omega) rfl rfl rfl (Nat.le_of_ble_eq_true rfl) rfl (fun b2 h2 q => ?_)
        obtain ⟨hR2, hS2, hT, hV, hJ2⟩ := q
        refine ev_rng (fun hL hSt hRg => ?_)
        have hbr : ir b2 := SR_hi hSt
        refine ev_ist7 dL_law_223 ?_ (show 7 < 9 by decide)
        refine ev_aload_n dL_law_225 rfl ?_
        refine ev_cvi dL_law_226 lL_148 (s_thrown hR2) (by decide) hS2.2.1 (by have := hS2.2.2.2.2; omega) rfl rfl rfl (Nat.le_of_ble_eq_true rfl) rfl (fun r h3 q => ?_)
        obtain ⟨rfl, rfl⟩ := q
        refine ev_iload dL_law_229 rfl ?_
        refine ev_icmpeq 236 dL_law_231 (fun hcc => ?_) (fun h_no => (by exfalso; exact h_no hT))
        refine ev_iload dL_law_236 rfl ?_
        refine ev_ifne 253 dL_law_238 (fun hk0 => ?_) (fun hk0 => ?_)
        · refine ev_gt 2408 dL_law_253 ?_
          exact nxt _ _ _ _ hJ2 ⟨hS2, hR2⟩
        · have hv := hV hk0
          refine ev_aload_n dL_law_241 rfl ?_
          refine ev_iconst dL_law_242 ?_
          refine ev_lald dL_law_243 hS2.2.2.1 (by have := hS2.2.2.2.2; omega) rfl (by omega) (by omega) ?_
          refine ev_iload dL_law_244 rfl ?_
          refine ev_i2l dL_law_246 ?_
          refine ev_lcmp dL_law_247 (show ir (h3.vl 92 0) from by rw [hv]; exact hbr) hbr ?_
          refine ev_ifeq 253 dL_law_248 (fun hcc => ?_) (fun h_no => (by exfalso; exact h_no (cmpI_0.mpr hv)))
          refine ev_gt 2408 dL_law_253 ?_
          exact nxt _ _ _ _ hJ2 ⟨hS2, hR2⟩
      by_cases hc1 : c = 1
      · subst hc1
        refine ev_tsI 256 (212) dL_law_44 (by omega) (by omega) rfl ?_
        obtain ⟨d1, hd1, hC⟩ := hA.2.1 (xs (i + 1).toNat).toInt (i32_ir _)
        refine ev_aload_n dL_law_256 rfl ?_
        refine ev_alx dL_law_257 rfl ?_
        refine ev_iload dL_law_258 rfl ?_
        refine ev_iconst dL_law_260 ?_
        refine ev_iadd dL_law_261 (by unfold ir; omega) ?_
        refine ev_sld dL_law_262 ho (by omega) (by omega) ?_
        refine ev_aload_n dL_law_263 rfl ?_
        refine ev_callsH dL_law_264 lL_151 hC hd1 rfl rfl (Nat.le_of_ble_eq_true rfl) (fun kk h1 q => ?_)
        obtain ⟨hS1, d2, hd2, hC2⟩ := q
        refine ev_ist6 dL_law_267 ?_ (show 6 < 9 by decide)
        refine ev_aload_n dL_law_269 rfl ?_
        refine ev_alx dL_law_270 rfl ?_
        refine ev_iload dL_law_271 rfl ?_
        refine ev_iconst dL_law_273 ?_
        refine ev_iadd dL_law_274 (by unfold ir; omega) ?_
        refine ev_sld dL_law_275 ho (by omega) (by omega) ?_
        refine ev_cvi dL_law_276 lL_154 hC2 hd2 hS1.2.1 (by have := hS1.2.2.2.2; omega) rfl rfl rfl (Nat.le_of_ble_eq_true rfl) rfl (fun b2 h2 q => ?_)
        obtain ⟨hR2, hS2, hT, hV, hJ2⟩ := q
        refine ev_rng (fun hL hSt hRg => ?_)
        have hbr : ir b2 := SR_hi hSt
        refine ev_ist7 dL_law_279 ?_ (show 7 < 9 by decide)
        refine ev_aload_n dL_law_281 rfl ?_
        refine ev_cvi dL_law_282 lL_148 (s_thrown hR2) (by decide) hS2.2.1 (by have := hS2.2.2.2.2; omega) rfl rfl rfl (Nat.le_of_ble_eq_true rfl) rfl (fun r h3 q => ?_)
        obtain ⟨rfl, rfl⟩ := q
        refine ev_iload dL_law_285 rfl ?_
        refine ev_icmpeq 292 dL_law_287 (fun hcc => ?_) (fun h_no => (by exfalso; exact h_no hT))
        refine ev_iload dL_law_292 rfl ?_
        refine ev_ifne 309 dL_law_294 (fun hk0 => ?_) (fun hk0 => ?_)
        · refine ev_gt 2408 dL_law_309 ?_
          exact nxt _ _ _ _ hJ2 ⟨hS2, hR2⟩
        · have hv := hV hk0
          refine ev_aload_n dL_law_297 rfl ?_
          refine ev_iconst dL_law_298 ?_
          refine ev_lald dL_law_299 hS2.2.2.1 (by have := hS2.2.2.2.2; omega) rfl (by omega) (by omega) ?_
          refine ev_iload dL_law_300 rfl ?_
          refine ev_i2l dL_law_302 ?_
          refine ev_lcmp dL_law_303 (show ir (h3.vl 92 0) from by rw [hv]; exact hbr) hbr ?_
          refine ev_ifeq 309 dL_law_304 (fun hcc => ?_) (fun h_no => (by exfalso; exact h_no (cmpI_0.mpr hv)))
          refine ev_gt 2408 dL_law_309 ?_
          exact nxt _ _ _ _ hJ2 ⟨hS2, hR2⟩
      by_cases hc2 : c = 2
      · subst hc2
        refine ev_tsI 312 (268) dL_law_44 (by omega) (by omega) rfl ?_
        obtain ⟨d1, hd1, hC⟩ := hA.2.2.1 (xs (i + 1).toNat).toInt (xs (i + 2).toNat).toInt (i32_ir _) (i32_ir _)
        refine ev_aload_n dL_law_312 rfl ?_
        refine ev_alx dL_law_313 rfl ?_
        refine ev_iload dL_law_314 rfl ?_
        refine ev_iconst dL_law_316 ?_
        refine ev_iadd dL_law_317 (by unfold ir; omega) ?_
        refine ev_sld dL_law_318 ho (by omega) (by omega) ?_
        refine ev_alx dL_law_319 rfl ?_
        refine ev_iload dL_law_320 rfl ?_
        refine ev_iconst dL_law_322 ?_
        refine ev_iadd dL_law_323 (by unfold ir; omega) ?_
        refine ev_sld dL_law_324 ho (by omega) (by omega) ?_
        refine ev_aload_n dL_law_325 rfl ?_
        refine ev_callsH dL_law_326 lL_155 hC hd1 rfl rfl (Nat.le_of_ble_eq_true rfl) (fun kk h1 q => ?_)
        obtain ⟨hS1, d2, hd2, hC2⟩ := q
        refine ev_ist6 dL_law_329 ?_ (show 6 < 9 by decide)
        refine ev_aload_n dL_law_331 rfl ?_
        refine ev_alx dL_law_332 rfl ?_
        refine ev_iload dL_law_333 rfl ?_
        refine ev_iconst dL_law_335 ?_
        refine ev_iadd dL_law_336 (by unfold ir; omega) ?_
        refine ev_sld dL_law_337 ho (by omega) (by omega) ?_
        refine ev_alx dL_law_338 rfl ?_
        refine ev_iload dL_law_339 rfl ?_
        refine ev_iconst dL_law_341 ?_
        refine ev_iadd dL_law_342 (by unfold ir; omega) ?_
        refine ev_sld dL_law_343 ho (by omega) (by omega) ?_
        refine ev_cvi dL_law_344 lL_158 hC2 hd2 hS1.2.1 (by have := hS1.2.2.2.2; omega) rfl rfl rfl (Nat.le_of_ble_eq_true rfl) rfl (fun b2 h2 q => ?_)
        obtain ⟨hR2, hS2, hT, hV, hJ2⟩ := q
        refine ev_rng (fun hL hSt hRg => ?_)
        have hbr : ir b2 := SR_hi hSt
        refine ev_ist7 dL_law_347 ?_ (show 7 < 9 by decide)
        refine ev_aload_n dL_law_349 rfl ?_
        refine ev_cvi dL_law_350 lL_148 (s_thrown hR2) (by decide) hS2.2.1 (by have := hS2.2.2.2.2; omega) rfl rfl rfl (Nat.le_of_ble_eq_true rfl) rfl (fun r h3 q => ?_)
        obtain ⟨rfl, rfl⟩ := q
        refine ev_iload dL_law_353 rfl ?_
        refine ev_icmpeq 360 dL_law_355 (fun hcc => ?_) (fun h_no => (by exfalso; exact h_no hT))
        refine ev_iload dL_law_360 rfl ?_
        refine ev_ifne 377 dL_law_362 (fun hk0 => ?_) (fun hk0 => ?_)
        · refine ev_gt 2408 dL_law_377 ?_
          exact nxt _ _ _ _ hJ2 ⟨hS2, hR2⟩
        · have hv := hV hk0
          refine ev_aload_n dL_law_365 rfl ?_
          refine ev_iconst dL_law_366 ?_
          refine ev_lald dL_law_367 hS2.2.2.1 (by have := hS2.2.2.2.2; omega) rfl (by omega) (by omega) ?_
          refine ev_iload dL_law_368 rfl ?_
          refine ev_i2l dL_law_370 ?_
          refine ev_lcmp dL_law_371 (show ir (h3.vl 92 0) from by rw [hv]; exact hbr) hbr ?_
          refine ev_ifeq 377 dL_law_372 (fun hcc => ?_) (fun h_no => (by exfalso; exact h_no (cmpI_0.mpr hv)))
          refine ev_gt 2408 dL_law_377 ?_
          exact nxt _ _ _ _ hJ2 ⟨hS2, hR2⟩
      by_cases hc3 : c = 3
      · subst hc3
        refine ev_tsI 380 (336) dL_law_44 (by omega) (by omega) rfl ?_
        obtain ⟨d1, hd1, hC⟩ := hA.2.2.2.1 (xs (i + 1).toNat).toInt (i32_ir _)
        refine ev_aload_n dL_law_380 rfl ?_
        refine ev_alx dL_law_381 rfl ?_
        refine ev_iload dL_law_382 rfl ?_
        refine ev_iconst dL_law_384 ?_
        refine ev_iadd dL_law_385 (by unfold ir; omega) ?_
        refine ev_sld dL_law_386 ho (by omega) (by omega) ?_
        refine ev_aload_n dL_law_387 rfl ?_
        refine ev_callsH dL_law_388 lL_159 hC hd1 rfl rfl (Nat.le_of_ble_eq_true rfl) (fun kk h1 q => ?_)
        obtain ⟨hS1, d2, hd2, hC2⟩ := q
        refine ev_ist6 dL_law_391 ?_ (show 6 < 9 by decide)
        refine ev_aload_n dL_law_393 rfl ?_
        refine ev_alx dL_law_394 rfl ?_
        refine ev_iload dL_law_395 rfl ?_
        refine ev_iconst dL_law_397 ?_
        refine ev_iadd dL_law_398 (by unfold ir; omega) ?_
        refine ev_sld dL_law_399 ho (by omega) (by omega) ?_
        refine ev_cvi dL_law_400 lL_161 hC2 hd2 hS1.2.1 (by have := hS1.2.2.2.2; omega) rfl rfl rfl (Nat.le_of_ble_eq_true rfl) rfl (fun b2 h2 q => ?_)
        obtain ⟨hR2, hS2, hT, hV, hJ2⟩ := q
        refine ev_rng (fun hL hSt hRg => ?_)
        have hbr : ir b2 := SR_hi hSt
        refine ev_ist7 dL_law_403 ?_ (show 7 < 9 by decide)
        refine ev_aload_n dL_law_405 rfl ?_
        refine ev_cvi dL_law_406 lL_148 (s_thrown hR2) (by decide) hS2.2.1 (by have := hS2.2.2.2.2; omega) rfl rfl rfl (Nat.le_of_ble_eq_true rfl) rfl (fun r h3 q => ?_)
        obtain ⟨rfl, rfl⟩ := q
        refine ev_iload dL_law_409 rfl ?_
        refine ev_icmpeq 416 dL_law_411 (fun hcc => ?_) (fun h_no => (by exfalso; exact h_no hT))
        refine ev_iload dL_law_416 rfl ?_
        refine ev_ifne 433 dL_law_418 (fun hk0 => ?_) (fun hk0 => ?_)
        · refine ev_gt 2408 dL_law_433 ?_
          exact nxt _ _ _ _ hJ2 ⟨hS2, hR2⟩
        · have hv := hV hk0
          refine ev_aload_n dL_law_421 rfl ?_
          refine ev_iconst dL_law_422 ?_
          refine ev_lald dL_law_423 hS2.2.2.1 (by have := hS2.2.2.2.2; omega) rfl (by omega) (by omega) ?_
          refine ev_iload dL_law_424 rfl ?_
          refine ev_i2l dL_law_426 ?_
          refine ev_lcmp dL_law_427 (show ir (h3.vl 92 0) from by rw [hv]; exact hbr) hbr ?_
          refine ev_ifeq 433 dL_law_428 (fun hcc => ?_) (fun h_no => (by exfalso; exact h_no (cmpI_0.mpr hv)))
          refine ev_gt 2408 dL_law_433 ?_
          exact nxt _ _ _ _ hJ2 ⟨hS2, hR2⟩
      by_cases hc4 : c = 4
      · subst hc4
        refine ev_tsI 436 (392) dL_law_44 (by omega) (by omega) rfl ?_
        obtain ⟨d1, hd1, hC⟩ := hA.2.2.2.2.1 (xs (i + 1).toNat).toInt (i32_ir _)
        refine ev_aload_n dL_law_436 rfl ?_
        refine ev_alx dL_law_437 rfl ?_
        refine ev_iload dL_law_438 rfl ?_
        refine ev_iconst dL_law_440 ?_
        refine ev_iadd dL_law_441 (by unfold ir; omega) ?_
        refine ev_sld dL_law_442 ho (by omega) (by omega) ?_
        refine ev_aload_n dL_law_443 rfl ?_
        refine ev_callsH dL_law_444 lL_162 hC hd1 rfl rfl (Nat.le_of_ble_eq_true rfl) (fun kk h1 q => ?_)
        obtain ⟨hS1, d2, hd2, hC2⟩ := q
        refine ev_ist6 dL_law_447 ?_ (show 6 < 9 by decide)
        refine ev_aload_n dL_law_449 rfl ?_
        refine ev_alx dL_law_450 rfl ?_
        refine ev_iload dL_law_451 rfl ?_
        refine ev_iconst dL_law_453 ?_
        refine ev_iadd dL_law_454 (by unfold ir; omega) ?_
        refine ev_sld dL_law_455 ho (by omega) (by omega) ?_
        refine ev_cvi dL_law_456 lL_164 hC2 hd2 hS1.2.1 (by have := hS1.2.2.2.2; omega) rfl rfl rfl (Nat.le_of_ble_eq_true rfl) rfl (fun b2 h2 q => ?_)
        obtain ⟨hR2, hS2, hT, hV, hJ2⟩ := q
        refine ev_rng (fun hL hSt hRg => ?_)
        have hbr : ir b2 := SR_hi hSt
        refine ev_ist7 dL_law_459 ?_ (show 7 < 9 by decide)
        refine ev_aload_n dL_law_461 rfl ?_
        refine ev_cvi dL_law_462 lL_148 (s_thrown hR2) (by decide) hS2.2.1 (by have := hS2.2.2.2.2; omega) rfl rfl rfl (Nat.le_of_ble_eq_true rfl) rfl (fun r h3 q => ?_)
        obtain ⟨rfl, rfl⟩ := q
        refine ev_iload dL_law_465 rfl ?_
        refine ev_icmpeq 472 dL_law_467 (fun hcc => ?_) (fun h_no => (by exfalso; exact h_no hT))
        refine ev_iload dL_law_472 rfl ?_
        refine ev_ifne 489 dL_law_474 (fun hk0 => ?_) (fun hk0 => ?_)
        · refine ev_gt 2408 dL_law_489 ?_
          exact nxt _ _ _ _ hJ2 ⟨hS2, hR2⟩
        · have hv := hV hk0
          refine ev_aload_n dL_law_477 rfl ?_
          refine ev_iconst dL_law_478 ?_
          refine ev_lald dL_law_479 hS2.2.2.1 (by have := hS2.2.2.2.2; omega) rfl (by omega) (by omega) ?_
          refine ev_iload dL_law_480 rfl ?_
          refine ev_i2l dL_law_482 ?_
          refine ev_lcmp dL_law_483 (show ir (h3.vl 92 0) from by rw [hv]; exact hbr) hbr ?_
          refine ev_ifeq 489 dL_law_484 (fun hcc => ?_) (fun h_no => (by exfalso; exact h_no (cmpI_0.mpr hv)))
          refine ev_gt 2408 dL_law_489 ?_
          exact nxt _ _ _ _ hJ2 ⟨hS2, hR2⟩
      by_cases hc5 : c = 5
      · subst hc5
        refine ev_tsI 492 (448) dL_law_44 (by omega) (by omega) rfl ?_
        obtain ⟨d1, hd1, hC⟩ := hA.2.2.2.2.2.1 (xs (i + 1).toNat).toInt (xs (i + 2).toNat).toInt (xs (i + 3).toNat).toInt (i32_ir _) (i32_ir _) (i32_ir _)
        refine ev_aload_n dL_law_492 rfl ?_
        refine ev_alx dL_law_493 rfl ?_
        refine ev_iload dL_law_494 rfl ?_
        refine ev_iconst dL_law_496 ?_
        refine ev_iadd dL_law_497 (by unfold ir; omega) ?_
        refine ev_sld dL_law_498 ho (by omega) (by omega) ?_
        refine ev_alx dL_law_499 rfl ?_
        refine ev_iload dL_law_500 rfl ?_
        refine ev_iconst dL_law_502 ?_
        refine ev_iadd dL_law_503 (by unfold ir; omega) ?_
        refine ev_sld dL_law_504 ho (by omega) (by omega) ?_
        refine ev_alx dL_law_505 rfl ?_
        refine ev_iload dL_law_506 rfl ?_
        refine ev_iconst dL_law_508 ?_
        refine ev_iadd dL_law_509 (by unfold ir; omega) ?_
        refine ev_sld dL_law_510 ho (by omega) (by omega) ?_
        refine ev_aload_n dL_law_511 rfl ?_
        refine ev_callsH dL_law_512 lL_165 hC hd1 rfl rfl (Nat.le_of_ble_eq_true rfl) (fun kk h1 q => ?_)
        obtain ⟨hS1, d2, hd2, hC2⟩ := q
        refine ev_ist6 dL_law_515 ?_ (show 6 < 9 by decide)
        refine ev_aload_n dL_law_517 rfl ?_
        refine ev_alx dL_law_518 rfl ?_
        refine ev_iload dL_law_519 rfl ?_
        refine ev_iconst dL_law_521 ?_
        refine ev_iadd dL_law_522 (by unfold ir; omega) ?_
        refine ev_sld dL_law_523 ho (by omega) (by omega) ?_
        refine ev_alx dL_law_524 rfl ?_
        refine ev_iload dL_law_525 rfl ?_
        refine ev_iconst dL_law_527 ?_
        refine ev_iadd dL_law_528 (by unfold ir; omega) ?_
        refine ev_sld dL_law_529 ho (by omega) (by omega) ?_
        refine ev_alx dL_law_530 rfl ?_
        refine ev_iload dL_law_531 rfl ?_
        refine ev_iconst dL_law_533 ?_
        refine ev_iadd dL_law_534 (by unfold ir; omega) ?_
        refine ev_sld dL_law_535 ho (by omega) (by omega) ?_
        refine ev_cvi dL_law_536 lL_168 hC2 hd2 hS1.2.1 (by have := hS1.2.2.2.2; omega) rfl rfl rfl (Nat.le_of_ble_eq_true rfl) rfl (fun b2 h2 q => ?_)
        obtain ⟨hR2, hS2, hT, hV, hJ2⟩ := q
        refine ev_rng (fun hL hSt hRg => ?_)
        have hbr : ir b2 := SR_hi hSt
        refine ev_ist7 dL_law_539 ?_ (show 7 < 9 by decide)
        refine ev_aload_n dL_law_541 rfl ?_
        refine ev_cvi dL_law_542 lL_148 (s_thrown hR2) (by decide) hS2.2.1 (by have := hS2.2.2.2.2; omega) rfl rfl rfl (Nat.le_of_ble_eq_true rfl) rfl (fun r h3 q => ?_)
        obtain ⟨rfl, rfl⟩ := q
        refine ev_iload dL_law_545 rfl ?_
        refine ev_icmpeq 552 dL_law_547 (fun hcc => ?_) (fun h_no => (by exfalso; exact h_no hT))
        refine ev_iload dL_law_552 rfl ?_
        refine ev_ifne 569 dL_law_554 (fun hk0 => ?_) (fun hk0 => ?_)
        · refine ev_gt 2408 dL_law_569 ?_
          exact nxt _ _ _ _ hJ2 ⟨hS2, hR2⟩
        · have hv := hV hk0
          refine ev_aload_n dL_law_557 rfl ?_
          refine ev_iconst dL_law_558 ?_
          refine ev_lald dL_law_559 hS2.2.2.1 (by have := hS2.2.2.2.2; omega) rfl (by omega) (by omega) ?_
          refine ev_iload dL_law_560 rfl ?_
          refine ev_i2l dL_law_562 ?_
          refine ev_lcmp dL_law_563 (show ir (h3.vl 92 0) from by rw [hv]; exact hbr) hbr ?_
          refine ev_ifeq 569 dL_law_564 (fun hcc => ?_) (fun h_no => (by exfalso; exact h_no (cmpI_0.mpr hv)))
          refine ev_gt 2408 dL_law_569 ?_
          exact nxt _ _ _ _ hJ2 ⟨hS2, hR2⟩
      by_cases hc6 : c = 6
      · subst hc6
        refine ev_tsI 572 (528) dL_law_44 (by omega) (by omega) rfl ?_
        obtain ⟨d1, hd1, hC⟩ := hA.2.2.2.2.2.2.1 (xs (i + 1).toNat).toInt (xs (i + 2).toNat).toInt (i32_ir _) (i32_ir _)
        refine ev_aload_n dL_law_572 rfl ?_
        refine ev_alx dL_law_573 rfl ?_
        refine ev_iload dL_law_574 rfl ?_
        refine ev_iconst dL_law_576 ?_
        refine ev_iadd dL_law_577 (by unfold ir; omega) ?_
        refine ev_sld dL_law_578 ho (by omega) (by omega) ?_
        refine ev_alx dL_law_579 rfl ?_
        refine ev_iload dL_law_580 rfl ?_
        refine ev_iconst dL_law_582 ?_
        refine ev_iadd dL_law_583 (by unfold ir; omega) ?_
        refine ev_sld dL_law_584 ho (by omega) (by omega) ?_
        refine ev_aload_n dL_law_585 rfl ?_
        refine ev_callsH dL_law_586 lL_169 hC hd1 rfl rfl (Nat.le_of_ble_eq_true rfl) (fun kk h1 q => ?_)
        obtain ⟨hS1, d2, hd2, hC2⟩ := q
        refine ev_ist6 dL_law_589 ?_ (show 6 < 9 by decide)
        refine ev_aload_n dL_law_591 rfl ?_
        refine ev_alx dL_law_592 rfl ?_
        refine ev_iload dL_law_593 rfl ?_
        refine ev_iconst dL_law_595 ?_
        refine ev_iadd dL_law_596 (by unfold ir; omega) ?_
        refine ev_sld dL_law_597 ho (by omega) (by omega) ?_
        refine ev_alx dL_law_598 rfl ?_
        refine ev_iload dL_law_599 rfl ?_
        refine ev_iconst dL_law_601 ?_
        refine ev_iadd dL_law_602 (by unfold ir; omega) ?_
        refine ev_sld dL_law_603 ho (by omega) (by omega) ?_
        refine ev_cvi dL_law_604 lL_171 hC2 hd2 hS1.2.1 (by have := hS1.2.2.2.2; omega) rfl rfl rfl (Nat.le_of_ble_eq_true rfl) rfl (fun b2 h2 q => ?_)
        obtain ⟨hR2, hS2, hT, hV, hJ2⟩ := q
        refine ev_rng (fun hL hSt hRg => ?_)
        have hbr : ir b2 := SR_hi hSt
        refine ev_ist7 dL_law_607 ?_ (show 7 < 9 by decide)
        refine ev_aload_n dL_law_609 rfl ?_
        refine ev_cvi dL_law_610 lL_148 (s_thrown hR2) (by decide) hS2.2.1 (by have := hS2.2.2.2.2; omega) rfl rfl rfl (Nat.le_of_ble_eq_true rfl) rfl (fun r h3 q => ?_)
        obtain ⟨rfl, rfl⟩ := q
        refine ev_iload dL_law_613 rfl ?_
        refine ev_icmpeq 620 dL_law_615 (fun hcc => ?_) (fun h_no => (by exfalso; exact h_no hT))
        refine ev_iload dL_law_620 rfl ?_
        refine ev_ifne 637 dL_law_622 (fun hk0 => ?_) (fun hk0 => ?_)
        · refine ev_gt 2408 dL_law_637 ?_
          exact nxt _ _ _ _ hJ2 ⟨hS2, hR2⟩
        · have hv := hV hk0
          refine ev_aload_n dL_law_625 rfl ?_
          refine ev_iconst dL_law_626 ?_
          refine ev_lald dL_law_627 hS2.2.2.1 (by have := hS2.2.2.2.2; omega) rfl (by omega) (by omega) ?_
          refine ev_iload dL_law_628 rfl ?_
          refine ev_i2l dL_law_630 ?_
          refine ev_lcmp dL_law_631 (show ir (h3.vl 92 0) from by rw [hv]; exact hbr) hbr ?_
          refine ev_ifeq 637 dL_law_632 (fun hcc => ?_) (fun h_no => (by exfalso; exact h_no (cmpI_0.mpr hv)))
          refine ev_gt 2408 dL_law_637 ?_
          exact nxt _ _ _ _ hJ2 ⟨hS2, hR2⟩
      by_cases hc7 : c = 7
      · subst hc7
        refine ev_tsI 640 (596) dL_law_44 (by omega) (by omega) rfl ?_
        obtain ⟨d1, hd1, hC⟩ := hA.2.2.2.2.2.2.2.1 (xs (i + 1).toNat).toInt (xs (i + 2).toNat).toInt (i32_ir _) (i32_ir _)
        refine ev_aload_n dL_law_640 rfl ?_
        refine ev_alx dL_law_641 rfl ?_
        refine ev_iload dL_law_642 rfl ?_
        refine ev_iconst dL_law_644 ?_
        refine ev_iadd dL_law_645 (by unfold ir; omega) ?_
        refine ev_sld dL_law_646 ho (by omega) (by omega) ?_
        refine ev_alx dL_law_647 rfl ?_
        refine ev_iload dL_law_648 rfl ?_
        refine ev_iconst dL_law_650 ?_
        refine ev_iadd dL_law_651 (by unfold ir; omega) ?_
        refine ev_sld dL_law_652 ho (by omega) (by omega) ?_
        refine ev_aload_n dL_law_653 rfl ?_
        refine ev_callsH dL_law_654 lL_172 hC hd1 rfl rfl (Nat.le_of_ble_eq_true rfl) (fun kk h1 q => ?_)
        obtain ⟨hS1, d2, hd2, hC2⟩ := q
        refine ev_ist6 dL_law_657 ?_ (show 6 < 9 by decide)
        refine ev_aload_n dL_law_659 rfl ?_
        refine ev_alx dL_law_660 rfl ?_
        refine ev_iload dL_law_661 rfl ?_
        refine ev_iconst dL_law_663 ?_
        refine ev_iadd dL_law_664 (by unfold ir; omega) ?_
        refine ev_sld dL_law_665 ho (by omega) (by omega) ?_
        refine ev_alx dL_law_666 rfl ?_
        refine ev_iload dL_law_667 rfl ?_
        refine ev_iconst dL_law_669 ?_
        refine ev_iadd dL_law_670 (by unfold ir; omega) ?_
        refine ev_sld dL_law_671 ho (by omega) (by omega) ?_
        refine ev_cvi dL_law_672 lL_174 hC2 hd2 hS1.2.1 (by have := hS1.2.2.2.2; omega) rfl rfl rfl (Nat.le_of_ble_eq_true rfl) rfl (fun b2 h2 q => ?_)
        obtain ⟨hR2, hS2, hT, hV, hJ2⟩ := q
        refine ev_rng (fun hL hSt hRg => ?_)
        have hbr : ir b2 := SR_hi hSt
        refine ev_ist7 dL_law_675 ?_ (show 7 < 9 by decide)
        refine ev_aload_n dL_law_677 rfl ?_
        refine ev_cvi dL_law_678 lL_148 (s_thrown hR2) (by decide) hS2.2.1 (by have := hS2.2.2.2.2; omega) rfl rfl rfl (Nat.le_of_ble_eq_true rfl) rfl (fun r h3 q => ?_)
        obtain ⟨rfl, rfl⟩ := q
        refine ev_iload dL_law_681 rfl ?_
        refine ev_icmpeq 688 dL_law_683 (fun hcc => ?_) (fun h_no => (by exfalso; exact h_no hT))
        refine ev_iload dL_law_688 rfl ?_
        refine ev_ifne 705 dL_law_690 (fun hk0 => ?_) (fun hk0 => ?_)
        · refine ev_gt 2408 dL_law_705 ?_
          exact nxt _ _ _ _ hJ2 ⟨hS2, hR2⟩
        · have hv := hV hk0
          refine ev_aload_n dL_law_693 rfl ?_
          refine ev_iconst dL_law_694 ?_
          refine ev_lald dL_law_695 hS2.2.2.1 (by have := hS2.2.2.2.2; omega) rfl (by omega) (by omega) ?_
          refine ev_iload dL_law_696 rfl ?_
          refine ev_i2l dL_law_698 ?_
          refine ev_lcmp dL_law_699 (show ir (h3.vl 92 0) from by rw [hv]; exact hbr) hbr ?_
          refine ev_ifeq 705 dL_law_700 (fun hcc => ?_) (fun h_no => (by exfalso; exact h_no (cmpI_0.mpr hv)))
          refine ev_gt 2408 dL_law_705 ?_
          exact nxt _ _ _ _ hJ2 ⟨hS2, hR2⟩
      by_cases hc8 : c = 8
      · subst hc8
        refine ev_tsI 708 (664) dL_law_44 (by omega) (by omega) rfl ?_
        obtain ⟨d1, hd1, hC⟩ := hA.2.2.2.2.2.2.2.2.1 (xs (i + 1).toNat).toInt (xs (i + 2).toNat).toInt (i32_ir _) (i32_ir _)
        refine ev_aload_n dL_law_708 rfl ?_
        refine ev_alx dL_law_709 rfl ?_
        refine ev_iload dL_law_710 rfl ?_
        refine ev_iconst dL_law_712 ?_
        refine ev_iadd dL_law_713 (by unfold ir; omega) ?_
        refine ev_sld dL_law_714 ho (by omega) (by omega) ?_
        refine ev_alx dL_law_715 rfl ?_
        refine ev_iload dL_law_716 rfl ?_
        refine ev_iconst dL_law_718 ?_
        refine ev_iadd dL_law_719 (by unfold ir; omega) ?_
        refine ev_sld dL_law_720 ho (by omega) (by omega) ?_
        refine ev_aload_n dL_law_721 rfl ?_
        refine ev_callsH dL_law_722 lL_175 hC hd1 rfl rfl (Nat.le_of_ble_eq_true rfl) (fun kk h1 q => ?_)
        obtain ⟨hS1, d2, hd2, hC2⟩ := q
        refine ev_ist6 dL_law_725 ?_ (show 6 < 9 by decide)
        refine ev_aload_n dL_law_727 rfl ?_
        refine ev_alx dL_law_728 rfl ?_
        refine ev_iload dL_law_729 rfl ?_
        refine ev_iconst dL_law_731 ?_
        refine ev_iadd dL_law_732 (by unfold ir; omega) ?_
        refine ev_sld dL_law_733 ho (by omega) (by omega) ?_
        refine ev_alx dL_law_734 rfl ?_
        refine ev_iload dL_law_735 rfl ?_
        refine ev_iconst dL_law_737 ?_
        refine ev_iadd dL_law_738 (by unfold ir; omega) ?_
        refine ev_sld dL_law_739 ho (by omega) (by omega) ?_
        refine ev_cvi dL_law_740 lL_177 hC2 hd2 hS1.2.1 (by have := hS1.2.2.2.2; omega) rfl rfl rfl (Nat.le_of_ble_eq_true rfl) rfl (fun b2 h2 q => ?_)
        obtain ⟨hR2, hS2, hT, hV, hJ2⟩ := q
        refine ev_rng (fun hL hSt hRg => ?_)
        have hbr : ir b2 := SR_hi hSt
        refine ev_ist7 dL_law_743 ?_ (show 7 < 9 by decide)
        refine ev_aload_n dL_law_745 rfl ?_
        refine ev_cvi dL_law_746 lL_148 (s_thrown hR2) (by decide) hS2.2.1 (by have := hS2.2.2.2.2; omega) rfl rfl rfl (Nat.le_of_ble_eq_true rfl) rfl (fun r h3 q => ?_)
        obtain ⟨rfl, rfl⟩ := q
        refine ev_iload dL_law_749 rfl ?_
        refine ev_icmpeq 756 dL_law_751 (fun hcc => ?_) (fun h_no => (by exfalso; exact h_no hT))
        refine ev_iload dL_law_756 rfl ?_
        refine ev_ifne 773 dL_law_758 (fun hk0 => ?_) (fun hk0 => ?_)
        · refine ev_gt 2408 dL_law_773 ?_
          exact nxt _ _ _ _ hJ2 ⟨hS2, hR2⟩
        · have hv := hV hk0
          refine ev_aload_n dL_law_761 rfl ?_
          refine ev_iconst dL_law_762 ?_
          refine ev_lald dL_law_763 hS2.2.2.1 (by have := hS2.2.2.2.2; omega) rfl (by omega) (by omega) ?_
          refine ev_iload dL_law_764 rfl ?_
          refine ev_i2l dL_law_766 ?_
          refine ev_lcmp dL_law_767 (show ir (h3.vl 92 0) from by rw [hv]; exact hbr) hbr ?_
          refine ev_ifeq 773 dL_law_768 (fun hcc => ?_) (fun h_no => (by exfalso; exact h_no (cmpI_0.mpr hv)))
          refine ev_gt 2408 dL_law_773 ?_
          exact nxt _ _ _ _ hJ2 ⟨hS2, hR2⟩
      by_cases hc9 : c = 9
      · subst hc9
        refine ev_tsI 776 (732) dL_law_44 (by omega) (by omega) rfl ?_
        obtain ⟨d1, hd1, hC⟩ := hA.2.2.2.2.2.2.2.2.2.1 (xs (i + 1).toNat).toInt (i32_ir _)
        refine ev_aload_n dL_law_776 rfl ?_
        refine ev_alx dL_law_777 rfl ?_
        refine ev_iload dL_law_778 rfl ?_
        refine ev_iconst dL_law_780 ?_
        refine ev_iadd dL_law_781 (by unfold ir; omega) ?_
        refine ev_sld dL_law_782 ho (by omega) (by omega) ?_
        refine ev_aload_n dL_law_783 rfl ?_
        refine ev_callsH dL_law_784 lL_178 hC hd1 rfl rfl (Nat.le_of_ble_eq_true rfl) (fun kk h1 q => ?_)
        obtain ⟨hS1, d2, hd2, hC2⟩ := q
        refine ev_ist6 dL_law_787 ?_ (show 6 < 9 by decide)
        refine ev_aload_n dL_law_789 rfl ?_
        refine ev_alx dL_law_790 rfl ?_
        refine ev_iload dL_law_791 rfl ?_
        refine ev_iconst dL_law_793 ?_
        refine ev_iadd dL_law_794 (by unfold ir; omega) ?_
        refine ev_sld dL_law_795 ho (by omega) (by omega) ?_
        refine ev_cvi dL_law_796 lL_180 hC2 hd2 hS1.2.1 (by have := hS1.2.2.2.2; omega) rfl rfl rfl (Nat.le_of_ble_eq_true rfl) rfl (fun b2 h2 q => ?_)
        obtain ⟨hR2, hS2, hT, hV, hJ2⟩ := q
        refine ev_rng (fun hL hSt hRg => ?_)
        have hbr : ir b2 := SR_hi hSt
        refine ev_ist7 dL_law_799 ?_ (show 7 < 9 by decide)
        refine ev_aload_n dL_law_801 rfl ?_
        refine ev_cvi dL_law_802 lL_148 (s_thrown hR2) (by decide) hS2.2.1 (by have := hS2.2.2.2.2; omega) rfl rfl rfl (Nat.le_of_ble_eq_true rfl) rfl (fun r h3 q => ?_)
        obtain ⟨rfl, rfl⟩ := q
        refine ev_iload dL_law_805 rfl ?_
        refine ev_icmpeq 812 dL_law_807 (fun hcc => ?_) (fun h_no => (by exfalso; exact h_no hT))
        refine ev_iload dL_law_812 rfl ?_
        refine ev_ifne 829 dL_law_814 (fun hk0 => ?_) (fun hk0 => ?_)
        · refine ev_gt 2408 dL_law_829 ?_
          exact nxt _ _ _ _ hJ2 ⟨hS2, hR2⟩
        · have hv := hV hk0
          refine ev_aload_n dL_law_817 rfl ?_
          refine ev_iconst dL_law_818 ?_
          refine ev_lald dL_law_819 hS2.2.2.1 (by have := hS2.2.2.2.2; omega) rfl (by omega) (by omega) ?_
          refine ev_iload dL_law_820 rfl ?_
          refine ev_i2l dL_law_822 ?_
          refine ev_lcmp dL_law_823 (show ir (h3.vl 92 0) from by rw [hv]; exact hbr) hbr ?_
          refine ev_ifeq 829 dL_law_824 (fun hcc => ?_) (fun h_no => (by exfalso; exact h_no (cmpI_0.mpr hv)))
          refine ev_gt 2408 dL_law_829 ?_
          exact nxt _ _ _ _ hJ2 ⟨hS2, hR2⟩
      by_cases hc10 : c = 10
      · subst hc10
        refine ev_tsI 832 (788) dL_law_44 (by omega) (by omega) rfl ?_
        obtain ⟨d1, hd1, hC⟩ := hA.2.2.2.2.2.2.2.2.2.2.1 (xs (i + 1).toNat).toInt (i32_ir _)
        refine ev_aload_n dL_law_832 rfl ?_
        refine ev_alx dL_law_833 rfl ?_
        refine ev_iload dL_law_834 rfl ?_
        refine ev_iconst dL_law_836 ?_
        refine ev_iadd dL_law_837 (by unfold ir; omega) ?_
        refine ev_sld dL_law_838 ho (by omega) (by omega) ?_
        refine ev_aload_n dL_law_839 rfl ?_
        refine ev_callsH dL_law_840 lL_181 hC hd1 rfl rfl (Nat.le_of_ble_eq_true rfl) (fun kk h1 q => ?_)
        obtain ⟨hS1, d2, hd2, hC2⟩ := q
        refine ev_ist6 dL_law_843 ?_ (show 6 < 9 by decide)
        refine ev_aload_n dL_law_845 rfl ?_
        refine ev_alx dL_law_846 rfl ?_
        refine ev_iload dL_law_847 rfl ?_
        refine ev_iconst dL_law_849 ?_
        refine ev_iadd dL_law_850 (by unfold ir; omega) ?_
        refine ev_sld dL_law_851 ho (by omega) (by omega) ?_
        refine ev_cvi dL_law_852 lL_183 hC2 hd2 hS1.2.1 (by have := hS1.2.2.2.2; omega) rfl rfl rfl (Nat.le_of_ble_eq_true rfl) rfl (fun b2 h2 q => ?_)
        obtain ⟨hR2, hS2, hT, hV, hJ2⟩ := q
        refine ev_rng (fun hL hSt hRg => ?_)
        have hbr : ir b2 := SR_hi hSt
        refine ev_ist7 dL_law_855 ?_ (show 7 < 9 by decide)
        refine ev_aload_n dL_law_857 rfl ?_
        refine ev_cvi dL_law_858 lL_148 (s_thrown hR2) (by decide) hS2.2.1 (by have := hS2.2.2.2.2; omega) rfl rfl rfl (Nat.le_of_ble_eq_true rfl) rfl (fun r h3 q => ?_)
        obtain ⟨rfl, rfl⟩ := q
        refine ev_iload dL_law_861 rfl ?_
        refine ev_icmpeq 868 dL_law_863 (fun hcc => ?_) (fun h_no => (by exfalso; exact h_no hT))
        refine ev_iload dL_law_868 rfl ?_
        refine ev_ifne 892 dL_law_870 (fun hk0 => ?_) (fun hk0 => ?_)
        · refine ev_gt 2408 dL_law_892 ?_
          exact nxt _ _ _ _ hJ2 ⟨hS2, hR2⟩
        · obtain ⟨hv, hb01⟩ := hV hk0
          refine ev_aload_n dL_law_873 rfl ?_
          refine ev_iconst dL_law_874 ?_
          refine ev_lald dL_law_875 hS2.2.2.1 (by have := hS2.2.2.2.2; omega) rfl (by omega) (by omega) ?_
          refine ev_iload dL_law_876 rfl ?_
          refine ev_ifeq 885 dL_law_878 (fun hb0 => ?_) (fun hb0 => ?_)
          · refine ev_lconst dL_law_885 ?_
            refine ev_lcmp dL_law_886 (show ir (h3.vl 92 0) from by rw [hv]; exact hbr) (by unfold ir; decide) ?_
            refine ev_ifeq 892 dL_law_887 (fun hcc => ?_) (fun h_no => (by exfalso; exact h_no (cmpI_0.mpr (hv.trans (by rcases hb01 with e | e <;> first | exact e | exact absurd e hb0 | (rw [e] at hb0; exact absurd hb0 (by decide)))))))
            refine ev_gt 2408 dL_law_892 ?_
            exact nxt _ _ _ _ hJ2 ⟨hS2, hR2⟩
          · refine ev_lconst dL_law_881 ?_
            refine ev_gt 886 dL_law_882 ?_
            refine ev_lcmp dL_law_886 (show ir (h3.vl 92 0) from by rw [hv]; exact hbr) (by unfold ir; decide) ?_
            refine ev_ifeq 892 dL_law_887 (fun hcc => ?_) (fun h_no => (by exfalso; exact h_no (cmpI_0.mpr (hv.trans (by rcases hb01 with e | e <;> first | exact e | exact absurd e hb0 | (rw [e] at hb0; exact absurd hb0 (by decide)))))))
            refine ev_gt 2408 dL_law_892 ?_
            exact nxt _ _ _ _ hJ2 ⟨hS2, hR2⟩
      by_cases hc11 : c = 11
      · subst hc11
        refine ev_tsI 895 (851) dL_law_44 (by omega) (by omega) rfl ?_
        obtain ⟨d1, hd1, hC⟩ := hA.2.2.2.2.2.2.2.2.2.2.2.1 (xs (i + 1).toNat).toInt (xs (i + 2).toNat).toInt (i32_ir _) (i32_ir _)
        refine ev_aload_n dL_law_895 rfl ?_
        refine ev_alx dL_law_896 rfl ?_
        refine ev_iload dL_law_897 rfl ?_
        refine ev_iconst dL_law_899 ?_
        refine ev_iadd dL_law_900 (by unfold ir; omega) ?_
        refine ev_sld dL_law_901 ho (by omega) (by omega) ?_
        refine ev_alx dL_law_902 rfl ?_
        refine ev_iload dL_law_903 rfl ?_
        refine ev_iconst dL_law_905 ?_
        refine ev_iadd dL_law_906 (by unfold ir; omega) ?_
        refine ev_sld dL_law_907 ho (by omega) (by omega) ?_
        refine ev_aload_n dL_law_908 rfl ?_
        refine ev_callsH dL_law_909 lL_184 hC hd1 rfl rfl (Nat.le_of_ble_eq_true rfl) (fun kk h1 q => ?_)
        obtain ⟨hS1, d2, hd2, hC2⟩ := q
        refine ev_ist6 dL_law_912 ?_ (show 6 < 9 by decide)
        refine ev_aload_n dL_law_914 rfl ?_
        refine ev_alx dL_law_915 rfl ?_
        refine ev_iload dL_law_916 rfl ?_
        refine ev_iconst dL_law_918 ?_
        refine ev_iadd dL_law_919 (by unfold ir; omega) ?_
        refine ev_sld dL_law_920 ho (by omega) (by omega) ?_
        refine ev_alx dL_law_921 rfl ?_
        refine ev_iload dL_law_922 rfl ?_
        refine ev_iconst dL_law_924 ?_
        refine ev_iadd dL_law_925 (by unfold ir; omega) ?_
        refine ev_sld dL_law_926 ho (by omega) (by omega) ?_
        refine ev_cvi dL_law_927 lL_186 hC2 hd2 hS1.2.1 (by have := hS1.2.2.2.2; omega) rfl rfl rfl (Nat.le_of_ble_eq_true rfl) rfl (fun b2 h2 q => ?_)
        obtain ⟨hR2, hS2, hT, hV, hJ2⟩ := q
        refine ev_rng (fun hL hSt hRg => ?_)
        have hbr : ir b2 := SR_hi hSt
        refine ev_ist7 dL_law_930 ?_ (show 7 < 9 by decide)
        refine ev_aload_n dL_law_932 rfl ?_
        refine ev_cvi dL_law_933 lL_148 (s_thrown hR2) (by decide) hS2.2.1 (by have := hS2.2.2.2.2; omega) rfl rfl rfl (Nat.le_of_ble_eq_true rfl) rfl (fun r h3 q => ?_)
        obtain ⟨rfl, rfl⟩ := q
        refine ev_iload dL_law_936 rfl ?_
        refine ev_icmpeq 943 dL_law_938 (fun hcc => ?_) (fun h_no => (by exfalso; exact h_no hT))
        refine ev_iload dL_law_943 rfl ?_
        refine ev_ifne 960 dL_law_945 (fun hk0 => ?_) (fun hk0 => ?_)
        · refine ev_gt 2408 dL_law_960 ?_
          exact nxt _ _ _ _ hJ2 ⟨hS2, hR2⟩
        · have hv := hV hk0
          refine ev_aload_n dL_law_948 rfl ?_
          refine ev_iconst dL_law_949 ?_
          refine ev_lald dL_law_950 hS2.2.2.1 (by have := hS2.2.2.2.2; omega) rfl (by omega) (by omega) ?_
          refine ev_iload dL_law_951 rfl ?_
          refine ev_i2l dL_law_953 ?_
          refine ev_lcmp dL_law_954 (show ir (h3.vl 92 0) from by rw [hv]; exact hbr) hbr ?_
          refine ev_ifeq 960 dL_law_955 (fun hcc => ?_) (fun h_no => (by exfalso; exact h_no (cmpI_0.mpr hv)))
          refine ev_gt 2408 dL_law_960 ?_
          exact nxt _ _ _ _ hJ2 ⟨hS2, hR2⟩
      by_cases hc12 : c = 12
      · subst hc12
        refine ev_tsI 963 (919) dL_law_44 (by omega) (by omega) rfl ?_
        obtain ⟨d1, hd1, hC⟩ := hA.2.2.2.2.2.2.2.2.2.2.2.2.1 (xs (i + 1).toNat).toInt (xs (i + 2).toNat).toInt (i32_ir _) (i32_ir _)
        refine ev_aload_n dL_law_963 rfl ?_
        refine ev_alx dL_law_964 rfl ?_
        refine ev_iload dL_law_965 rfl ?_
        refine ev_iconst dL_law_967 ?_
        refine ev_iadd dL_law_968 (by unfold ir; omega) ?_
        refine ev_sld dL_law_969 ho (by omega) (by omega) ?_
        refine ev_alx dL_law_970 rfl ?_
        refine ev_iload dL_law_971 rfl ?_
        refine ev_iconst dL_law_973 ?_
        refine ev_iadd dL_law_974 (by unfold ir; omega) ?_
        refine ev_sld dL_law_975 ho (by omega) (by omega) ?_
        refine ev_aload_n dL_law_976 rfl ?_
        refine ev_callsH dL_law_977 lL_187 hC hd1 rfl rfl (Nat.le_of_ble_eq_true rfl) (fun kk h1 q => ?_)
        obtain ⟨hS1, d2, hd2, hC2⟩ := q
        refine ev_ist6 dL_law_980 ?_ (show 6 < 9 by decide)
        refine ev_aload_n dL_law_982 rfl ?_
        refine ev_alx dL_law_983 rfl ?_
        refine ev_iload dL_law_984 rfl ?_
        refine ev_iconst dL_law_986 ?_
        refine ev_iadd dL_law_987 (by unfold ir; omega) ?_
        refine ev_sld dL_law_988 ho (by omega) (by omega) ?_
        refine ev_alx dL_law_989 rfl ?_
        refine ev_iload dL_law_990 rfl ?_
        refine ev_iconst dL_law_992 ?_
        refine ev_iadd dL_law_993 (by unfold ir; omega) ?_
        refine ev_sld dL_law_994 ho (by omega) (by omega) ?_
        refine ev_cvi dL_law_995 lL_189 hC2 hd2 hS1.2.1 (by have := hS1.2.2.2.2; omega) rfl rfl rfl (Nat.le_of_ble_eq_true rfl) rfl (fun b2 h2 q => ?_)
        obtain ⟨hR2, hS2, hT, hV, hJ2⟩ := q
        refine ev_rng (fun hL hSt hRg => ?_)
        have hbr : ir b2 := SR_hi hSt
        refine ev_ist7 dL_law_998 ?_ (show 7 < 9 by decide)
        refine ev_aload_n dL_law_1000 rfl ?_
        refine ev_cvi dL_law_1001 lL_148 (s_thrown hR2) (by decide) hS2.2.1 (by have := hS2.2.2.2.2; omega) rfl rfl rfl (Nat.le_of_ble_eq_true rfl) rfl (fun r h3 q => ?_)
        obtain ⟨rfl, rfl⟩ := q
        refine ev_iload dL_law_1004 rfl ?_
        refine ev_icmpeq 1011 dL_law_1006 (fun hcc => ?_) (fun h_no => (by exfalso; exact h_no hT))
        refine ev_iload dL_law_1011 rfl ?_
        refine ev_ifne 1028 dL_law_1013 (fun hk0 => ?_) (fun hk0 => ?_)
        · refine ev_gt 2408 dL_law_1028 ?_
          exact nxt _ _ _ _ hJ2 ⟨hS2, hR2⟩
        · have hv := hV hk0
          refine ev_aload_n dL_law_1016 rfl ?_
          refine ev_iconst dL_law_1017 ?_
          refine ev_lald dL_law_1018 hS2.2.2.1 (by have := hS2.2.2.2.2; omega) rfl (by omega) (by omega) ?_
          refine ev_iload dL_law_1019 rfl ?_
          refine ev_i2l dL_law_1021 ?_
          refine ev_lcmp dL_law_1022 (show ir (h3.vl 92 0) from by rw [hv]; exact hbr) hbr ?_
          refine ev_ifeq 1028 dL_law_1023 (fun hcc => ?_) (fun h_no => (by exfalso; exact h_no (cmpI_0.mpr hv)))
          refine ev_gt 2408 dL_law_1028 ?_
          exact nxt _ _ _ _ hJ2 ⟨hS2, hR2⟩
      by_cases hc13 : c = 13
      · subst hc13
        refine ev_tsI 1031 (987) dL_law_44 (by omega) (by omega) rfl ?_
        obtain ⟨d1, hd1, hC⟩ := hA.2.2.2.2.2.2.2.2.2.2.2.2.2.1 (xs (i + 1).toNat).toInt (xs (i + 2).toNat).toInt (i32_ir _) (i32_ir _)
        refine ev_aload_n dL_law_1031 rfl ?_
        refine ev_alx dL_law_1032 rfl ?_
        refine ev_iload dL_law_1033 rfl ?_
        refine ev_iconst dL_law_1035 ?_
        refine ev_iadd dL_law_1036 (by unfold ir; omega) ?_
        refine ev_sld dL_law_1037 ho (by omega) (by omega) ?_
        refine ev_alx dL_law_1038 rfl ?_
        refine ev_iload dL_law_1039 rfl ?_
        refine ev_iconst dL_law_1041 ?_
        refine ev_iadd dL_law_1042 (by unfold ir; omega) ?_
        refine ev_sld dL_law_1043 ho (by omega) (by omega) ?_
        refine ev_aload_n dL_law_1044 rfl ?_
        refine ev_callsH dL_law_1045 lL_190 hC hd1 rfl rfl (Nat.le_of_ble_eq_true rfl) (fun kk h1 q => ?_)
        obtain ⟨hS1, d2, hd2, hC2⟩ := q
        refine ev_ist6 dL_law_1048 ?_ (show 6 < 9 by decide)
        refine ev_aload_n dL_law_1050 rfl ?_
        refine ev_alx dL_law_1051 rfl ?_
        refine ev_iload dL_law_1052 rfl ?_
        refine ev_iconst dL_law_1054 ?_
        refine ev_iadd dL_law_1055 (by unfold ir; omega) ?_
        refine ev_sld dL_law_1056 ho (by omega) (by omega) ?_
        refine ev_alx dL_law_1057 rfl ?_
        refine ev_iload dL_law_1058 rfl ?_
        refine ev_iconst dL_law_1060 ?_
        refine ev_iadd dL_law_1061 (by unfold ir; omega) ?_
        refine ev_sld dL_law_1062 ho (by omega) (by omega) ?_
        refine ev_cvi dL_law_1063 lL_192 hC2 hd2 hS1.2.1 (by have := hS1.2.2.2.2; omega) rfl rfl rfl (Nat.le_of_ble_eq_true rfl) rfl (fun b2 h2 q => ?_)
        obtain ⟨hR2, hS2, hT, hV, hJ2⟩ := q
        refine ev_rng (fun hL hSt hRg => ?_)
        have hbr : ir b2 := SR_hi hSt
        refine ev_ist7 dL_law_1066 ?_ (show 7 < 9 by decide)
        refine ev_aload_n dL_law_1068 rfl ?_
        refine ev_cvi dL_law_1069 lL_148 (s_thrown hR2) (by decide) hS2.2.1 (by have := hS2.2.2.2.2; omega) rfl rfl rfl (Nat.le_of_ble_eq_true rfl) rfl (fun r h3 q => ?_)
        obtain ⟨rfl, rfl⟩ := q
        refine ev_iload dL_law_1072 rfl ?_
        refine ev_icmpeq 1079 dL_law_1074 (fun hcc => ?_) (fun h_no => (by exfalso; exact h_no hT))
        refine ev_iload dL_law_1079 rfl ?_
        refine ev_ifne 1096 dL_law_1081 (fun hk0 => ?_) (fun hk0 => ?_)
        · refine ev_gt 2408 dL_law_1096 ?_
          exact nxt _ _ _ _ hJ2 ⟨hS2, hR2⟩
        · have hv := hV hk0
          refine ev_aload_n dL_law_1084 rfl ?_
          refine ev_iconst dL_law_1085 ?_
          refine ev_lald dL_law_1086 hS2.2.2.1 (by have := hS2.2.2.2.2; omega) rfl (by omega) (by omega) ?_
          refine ev_iload dL_law_1087 rfl ?_
          refine ev_i2l dL_law_1089 ?_
          refine ev_lcmp dL_law_1090 (show ir (h3.vl 92 0) from by rw [hv]; exact hbr) hbr ?_
          refine ev_ifeq 1096 dL_law_1091 (fun hcc => ?_) (fun h_no => (by exfalso; exact h_no (cmpI_0.mpr hv)))
          refine ev_gt 2408 dL_law_1096 ?_
          exact nxt _ _ _ _ hJ2 ⟨hS2, hR2⟩
      by_cases hc14 : c = 14
      · subst hc14
        refine ev_tsI 1099 (1055) dL_law_44 (by omega) (by omega) rfl ?_
        obtain ⟨d1, hd1, hC⟩ := hA.2.2.2.2.2.2.2.2.2.2.2.2.2.2.1 (xs (i + 1).toNat).toInt (xs (i + 2).toNat).toInt (xs (i + 3).toNat).toInt (i32_ir _) (i32_ir _) (i32_ir _)
        refine ev_aload_n dL_law_1099 rfl ?_
        refine ev_alx dL_law_1100 rfl ?_
        refine ev_iload dL_law_1101 rfl ?_
        refine ev_iconst dL_law_1103 ?_
        refine ev_iadd dL_law_1104 (by unfold ir; omega) ?_
        refine ev_sld dL_law_1105 ho (by omega) (by omega) ?_
        refine ev_alx dL_law_1106 rfl ?_
        refine ev_iload dL_law_1107 rfl ?_
        refine ev_iconst dL_law_1109 ?_
        refine ev_iadd dL_law_1110 (by unfold ir; omega) ?_
        refine ev_sld dL_law_1111 ho (by omega) (by omega) ?_
        refine ev_alx dL_law_1112 rfl ?_
        refine ev_iload dL_law_1113 rfl ?_
        refine ev_iconst dL_law_1115 ?_
        refine ev_iadd dL_law_1116 (by unfold ir; omega) ?_
        refine ev_sld dL_law_1117 ho (by omega) (by omega) ?_
        refine ev_aload_n dL_law_1118 rfl ?_
        refine ev_callsH dL_law_1119 lL_193 hC hd1 rfl rfl (Nat.le_of_ble_eq_true rfl) (fun kk h1 q => ?_)
        obtain ⟨hS1, d2, hd2, hC2⟩ := q
        refine ev_ist6 dL_law_1122 ?_ (show 6 < 9 by decide)
        refine ev_aload_n dL_law_1124 rfl ?_
        refine ev_alx dL_law_1125 rfl ?_
        refine ev_iload dL_law_1126 rfl ?_
        refine ev_iconst dL_law_1128 ?_
        refine ev_iadd dL_law_1129 (by unfold ir; omega) ?_
        refine ev_sld dL_law_1130 ho (by omega) (by omega) ?_
        refine ev_alx dL_law_1131 rfl ?_
        refine ev_iload dL_law_1132 rfl ?_
        refine ev_iconst dL_law_1134 ?_
        refine ev_iadd dL_law_1135 (by unfold ir; omega) ?_
        refine ev_sld dL_law_1136 ho (by omega) (by omega) ?_
        refine ev_alx dL_law_1137 rfl ?_
        refine ev_iload dL_law_1138 rfl ?_
        refine ev_iconst dL_law_1140 ?_
        refine ev_iadd dL_law_1141 (by unfold ir; omega) ?_
        refine ev_sld dL_law_1142 ho (by omega) (by omega) ?_
        refine ev_cvi dL_law_1143 lL_195 hC2 hd2 hS1.2.1 (by have := hS1.2.2.2.2; omega) rfl rfl rfl (Nat.le_of_ble_eq_true rfl) rfl (fun b2 h2 q => ?_)
        obtain ⟨hR2, hS2, hT, hV, hJ2⟩ := q
        refine ev_rng (fun hL hSt hRg => ?_)
        have hbr : ir b2 := SR_hi hSt
        refine ev_ist7 dL_law_1146 ?_ (show 7 < 9 by decide)
        refine ev_aload_n dL_law_1148 rfl ?_
        refine ev_cvi dL_law_1149 lL_148 (s_thrown hR2) (by decide) hS2.2.1 (by have := hS2.2.2.2.2; omega) rfl rfl rfl (Nat.le_of_ble_eq_true rfl) rfl (fun r h3 q => ?_)
        obtain ⟨rfl, rfl⟩ := q
        refine ev_iload dL_law_1152 rfl ?_
        refine ev_icmpeq 1159 dL_law_1154 (fun hcc => ?_) (fun h_no => (by exfalso; exact h_no hT))
        refine ev_iload dL_law_1159 rfl ?_
        refine ev_ifne 1176 dL_law_1161 (fun hk0 => ?_) (fun hk0 => ?_)
        · refine ev_gt 2408 dL_law_1176 ?_
          exact nxt _ _ _ _ hJ2 ⟨hS2, hR2⟩
        · have hv := hV hk0
          refine ev_aload_n dL_law_1164 rfl ?_
          refine ev_iconst dL_law_1165 ?_
          refine ev_lald dL_law_1166 hS2.2.2.1 (by have := hS2.2.2.2.2; omega) rfl (by omega) (by omega) ?_
          refine ev_iload dL_law_1167 rfl ?_
          refine ev_i2l dL_law_1169 ?_
          refine ev_lcmp dL_law_1170 (show ir (h3.vl 92 0) from by rw [hv]; exact hbr) hbr ?_
          refine ev_ifeq 1176 dL_law_1171 (fun hcc => ?_) (fun h_no => (by exfalso; exact h_no (cmpI_0.mpr hv)))
          refine ev_gt 2408 dL_law_1176 ?_
          exact nxt _ _ _ _ hJ2 ⟨hS2, hR2⟩
      by_cases hc15 : c = 15
      · subst hc15
        refine ev_tsI 1179 (1135) dL_law_44 (by omega) (by omega) rfl ?_
        obtain ⟨d1, hd1, hC⟩ := hA.2.2.2.2.2.2.2.2.2.2.2.2.2.2.2.1 (xs (i + 1).toNat).toInt (xs (i + 2).toNat).toInt (i32_ir _) (i32_ir _)
        refine ev_aload_n dL_law_1179 rfl ?_
        refine ev_alx dL_law_1180 rfl ?_
        refine ev_iload dL_law_1181 rfl ?_
        refine ev_iconst dL_law_1183 ?_
        refine ev_iadd dL_law_1184 (by unfold ir; omega) ?_
        refine ev_sld dL_law_1185 ho (by omega) (by omega) ?_
        refine ev_alx dL_law_1186 rfl ?_
        refine ev_iload dL_law_1187 rfl ?_
        refine ev_iconst dL_law_1189 ?_
        refine ev_iadd dL_law_1190 (by unfold ir; omega) ?_
        refine ev_sld dL_law_1191 ho (by omega) (by omega) ?_
        refine ev_aload_n dL_law_1192 rfl ?_
        refine ev_callsH dL_law_1193 lL_196 hC hd1 rfl rfl (Nat.le_of_ble_eq_true rfl) (fun kk h1 q => ?_)
        obtain ⟨hS1, d2, hd2, hC2⟩ := q
        refine ev_ist6 dL_law_1196 ?_ (show 6 < 9 by decide)
        refine ev_aload_n dL_law_1198 rfl ?_
        refine ev_alx dL_law_1199 rfl ?_
        refine ev_iload dL_law_1200 rfl ?_
        refine ev_iconst dL_law_1202 ?_
        refine ev_iadd dL_law_1203 (by unfold ir; omega) ?_
        refine ev_sld dL_law_1204 ho (by omega) (by omega) ?_
        refine ev_alx dL_law_1205 rfl ?_
        refine ev_iload dL_law_1206 rfl ?_
        refine ev_iconst dL_law_1208 ?_
        refine ev_iadd dL_law_1209 (by unfold ir; omega) ?_
        refine ev_sld dL_law_1210 ho (by omega) (by omega) ?_
        refine ev_cvi dL_law_1211 lL_198 hC2 hd2 hS1.2.1 (by have := hS1.2.2.2.2; omega) rfl rfl rfl (Nat.le_of_ble_eq_true rfl) rfl (fun b2 h2 q => ?_)
        obtain ⟨hR2, hS2, hT, hV, hJ2⟩ := q
        refine ev_rng (fun hL hSt hRg => ?_)
        have hbr : ir b2 := SR_hi hSt
        refine ev_ist7 dL_law_1214 ?_ (show 7 < 9 by decide)
        refine ev_aload_n dL_law_1216 rfl ?_
        refine ev_cvi dL_law_1217 lL_148 (s_thrown hR2) (by decide) hS2.2.1 (by have := hS2.2.2.2.2; omega) rfl rfl rfl (Nat.le_of_ble_eq_true rfl) rfl (fun r h3 q => ?_)
        obtain ⟨rfl, rfl⟩ := q
        refine ev_iload dL_law_1220 rfl ?_
        refine ev_icmpeq 1227 dL_law_1222 (fun hcc => ?_) (fun h_no => (by exfalso; exact h_no hT))
        refine ev_iload dL_law_1227 rfl ?_
        refine ev_ifne 1251 dL_law_1229 (fun hk0 => ?_) (fun hk0 => ?_)
        · refine ev_gt 2408 dL_law_1251 ?_
          exact nxt _ _ _ _ hJ2 ⟨hS2, hR2⟩
        · obtain ⟨hv, hb01⟩ := hV hk0
          refine ev_aload_n dL_law_1232 rfl ?_
          refine ev_iconst dL_law_1233 ?_
          refine ev_lald dL_law_1234 hS2.2.2.1 (by have := hS2.2.2.2.2; omega) rfl (by omega) (by omega) ?_
          refine ev_iload dL_law_1235 rfl ?_
          refine ev_ifeq 1244 dL_law_1237 (fun hb0 => ?_) (fun hb0 => ?_)
          · refine ev_lconst dL_law_1244 ?_
            refine ev_lcmp dL_law_1245 (show ir (h3.vl 92 0) from by rw [hv]; exact hbr) (by unfold ir; decide) ?_
            refine ev_ifeq 1251 dL_law_1246 (fun hcc => ?_) (fun h_no => (by exfalso; exact h_no (cmpI_0.mpr (hv.trans (by rcases hb01 with e | e <;> first | exact e | exact absurd e hb0 | (rw [e] at hb0; exact absurd hb0 (by decide)))))))
            refine ev_gt 2408 dL_law_1251 ?_
            exact nxt _ _ _ _ hJ2 ⟨hS2, hR2⟩
          · refine ev_lconst dL_law_1240 ?_
            refine ev_gt 1245 dL_law_1241 ?_
            refine ev_lcmp dL_law_1245 (show ir (h3.vl 92 0) from by rw [hv]; exact hbr) (by unfold ir; decide) ?_
            refine ev_ifeq 1251 dL_law_1246 (fun hcc => ?_) (fun h_no => (by exfalso; exact h_no (cmpI_0.mpr (hv.trans (by rcases hb01 with e | e <;> first | exact e | exact absurd e hb0 | (rw [e] at hb0; exact absurd hb0 (by decide)))))))
            refine ev_gt 2408 dL_law_1251 ?_
            exact nxt _ _ _ _ hJ2 ⟨hS2, hR2⟩
      by_cases hc16 : c = 16
      · subst hc16
        refine ev_tsI 1254 (1210) dL_law_44 (by omega) (by omega) rfl ?_
        obtain ⟨d1, hd1, hC⟩ := hA.2.2.2.2.2.2.2.2.2.2.2.2.2.2.2.2.1 (xs (i + 1).toNat).toInt (xs (i + 2).toNat).toInt (i32_ir _) (i32_ir _)
        refine ev_aload_n dL_law_1254 rfl ?_
        refine ev_alx dL_law_1255 rfl ?_
        refine ev_iload dL_law_1256 rfl ?_
        refine ev_iconst dL_law_1258 ?_
        refine ev_iadd dL_law_1259 (by unfold ir; omega) ?_
        refine ev_sld dL_law_1260 ho (by omega) (by omega) ?_
        refine ev_alx dL_law_1261 rfl ?_
        refine ev_iload dL_law_1262 rfl ?_
        refine ev_iconst dL_law_1264 ?_
        refine ev_iadd dL_law_1265 (by unfold ir; omega) ?_
        refine ev_sld dL_law_1266 ho (by omega) (by omega) ?_
        refine ev_aload_n dL_law_1267 rfl ?_
        refine ev_callsH dL_law_1268 lL_199 hC hd1 rfl rfl (Nat.le_of_ble_eq_true rfl) (fun kk h1 q => ?_)
        obtain ⟨hS1, d2, hd2, hC2⟩ := q
        refine ev_ist6 dL_law_1271 ?_ (show 6 < 9 by decide)
        refine ev_aload_n dL_law_1273 rfl ?_
        refine ev_alx dL_law_1274 rfl ?_
        refine ev_iload dL_law_1275 rfl ?_
        refine ev_iconst dL_law_1277 ?_
        refine ev_iadd dL_law_1278 (by unfold ir; omega) ?_
        refine ev_sld dL_law_1279 ho (by omega) (by omega) ?_
        refine ev_alx dL_law_1280 rfl ?_
        refine ev_iload dL_law_1281 rfl ?_
        refine ev_iconst dL_law_1283 ?_
        refine ev_iadd dL_law_1284 (by unfold ir; omega) ?_
        refine ev_sld dL_law_1285 ho (by omega) (by omega) ?_
        refine ev_cvi dL_law_1286 lL_201 hC2 hd2 hS1.2.1 (by have := hS1.2.2.2.2; omega) rfl rfl rfl (Nat.le_of_ble_eq_true rfl) rfl (fun b2 h2 q => ?_)
        obtain ⟨hR2, hS2, hT, hV, hJ2⟩ := q
        refine ev_rng (fun hL hSt hRg => ?_)
        have hbr : ir b2 := SR_hi hSt
        refine ev_ist7 dL_law_1289 ?_ (show 7 < 9 by decide)
        refine ev_aload_n dL_law_1291 rfl ?_
        refine ev_cvi dL_law_1292 lL_148 (s_thrown hR2) (by decide) hS2.2.1 (by have := hS2.2.2.2.2; omega) rfl rfl rfl (Nat.le_of_ble_eq_true rfl) rfl (fun r h3 q => ?_)
        obtain ⟨rfl, rfl⟩ := q
        refine ev_iload dL_law_1295 rfl ?_
        refine ev_icmpeq 1302 dL_law_1297 (fun hcc => ?_) (fun h_no => (by exfalso; exact h_no hT))
        refine ev_iload dL_law_1302 rfl ?_
        refine ev_ifne 1326 dL_law_1304 (fun hk0 => ?_) (fun hk0 => ?_)
        · refine ev_gt 2408 dL_law_1326 ?_
          exact nxt _ _ _ _ hJ2 ⟨hS2, hR2⟩
        · obtain ⟨hv, hb01⟩ := hV hk0
          refine ev_aload_n dL_law_1307 rfl ?_
          refine ev_iconst dL_law_1308 ?_
          refine ev_lald dL_law_1309 hS2.2.2.1 (by have := hS2.2.2.2.2; omega) rfl (by omega) (by omega) ?_
          refine ev_iload dL_law_1310 rfl ?_
          refine ev_ifeq 1319 dL_law_1312 (fun hb0 => ?_) (fun hb0 => ?_)
          · refine ev_lconst dL_law_1319 ?_
            refine ev_lcmp dL_law_1320 (show ir (h3.vl 92 0) from by rw [hv]; exact hbr) (by unfold ir; decide) ?_
            refine ev_ifeq 1326 dL_law_1321 (fun hcc => ?_) (fun h_no => (by exfalso; exact h_no (cmpI_0.mpr (hv.trans (by rcases hb01 with e | e <;> first | exact e | exact absurd e hb0 | (rw [e] at hb0; exact absurd hb0 (by decide)))))))
            refine ev_gt 2408 dL_law_1326 ?_
            exact nxt _ _ _ _ hJ2 ⟨hS2, hR2⟩
          · refine ev_lconst dL_law_1315 ?_
            refine ev_gt 1320 dL_law_1316 ?_
            refine ev_lcmp dL_law_1320 (show ir (h3.vl 92 0) from by rw [hv]; exact hbr) (by unfold ir; decide) ?_
            refine ev_ifeq 1326 dL_law_1321 (fun hcc => ?_) (fun h_no => (by exfalso; exact h_no (cmpI_0.mpr (hv.trans (by rcases hb01 with e | e <;> first | exact e | exact absurd e hb0 | (rw [e] at hb0; exact absurd hb0 (by decide)))))))
            refine ev_gt 2408 dL_law_1326 ?_
            exact nxt _ _ _ _ hJ2 ⟨hS2, hR2⟩
      by_cases hc17 : c = 17
      · subst hc17
        refine ev_tsI 1329 (1285) dL_law_44 (by omega) (by omega) rfl ?_
        obtain ⟨d1, hd1, hC⟩ := hA.2.2.2.2.2.2.2.2.2.2.2.2.2.2.2.2.2.1 (xs (i + 1).toNat).toInt (xs (i + 2).toNat).toInt (i32_ir _) (i32_ir _)
        refine ev_aload_n dL_law_1329 rfl ?_
        refine ev_alx dL_law_1330 rfl ?_
        refine ev_iload dL_law_1331 rfl ?_
        refine ev_iconst dL_law_1333 ?_
        refine ev_iadd dL_law_1334 (by unfold ir; omega) ?_
        refine ev_sld dL_law_1335 ho (by omega) (by omega) ?_
        refine ev_alx dL_law_1336 rfl ?_
        refine ev_iload dL_law_1337 rfl ?_
        refine ev_iconst dL_law_1339 ?_
        refine ev_iadd dL_law_1340 (by unfold ir; omega) ?_
        refine ev_sld dL_law_1341 ho (by omega) (by omega) ?_
        refine ev_aload_n dL_law_1342 rfl ?_
        refine ev_callsH dL_law_1343 lL_202 hC hd1 rfl rfl (Nat.le_of_ble_eq_true rfl) (fun kk h1 q => ?_)
        obtain ⟨hS1, d2, hd2, hC2⟩ := q
        refine ev_ist6 dL_law_1346 ?_ (show 6 < 9 by decide)
        refine ev_aload_n dL_law_1348 rfl ?_
        refine ev_alx dL_law_1349 rfl ?_
        refine ev_iload dL_law_1350 rfl ?_
        refine ev_iconst dL_law_1352 ?_
        refine ev_iadd dL_law_1353 (by unfold ir; omega) ?_
        refine ev_sld dL_law_1354 ho (by omega) (by omega) ?_
        refine ev_alx dL_law_1355 rfl ?_
        refine ev_iload dL_law_1356 rfl ?_
        refine ev_iconst dL_law_1358 ?_
        refine ev_iadd dL_law_1359 (by unfold ir; omega) ?_
        refine ev_sld dL_law_1360 ho (by omega) (by omega) ?_
        refine ev_cvi dL_law_1361 lL_204 hC2 hd2 hS1.2.1 (by have := hS1.2.2.2.2; omega) rfl rfl rfl (Nat.le_of_ble_eq_true rfl) rfl (fun b2 h2 q => ?_)
        obtain ⟨hR2, hS2, hT, hV, hJ2⟩ := q
        refine ev_rng (fun hL hSt hRg => ?_)
        have hbr : ir b2 := SR_hi hSt
        refine ev_ist7 dL_law_1364 ?_ (show 7 < 9 by decide)
        refine ev_aload_n dL_law_1366 rfl ?_
        refine ev_cvi dL_law_1367 lL_148 (s_thrown hR2) (by decide) hS2.2.1 (by have := hS2.2.2.2.2; omega) rfl rfl rfl (Nat.le_of_ble_eq_true rfl) rfl (fun r h3 q => ?_)
        obtain ⟨rfl, rfl⟩ := q
        refine ev_iload dL_law_1370 rfl ?_
        refine ev_icmpeq 1377 dL_law_1372 (fun hcc => ?_) (fun h_no => (by exfalso; exact h_no hT))
        refine ev_iload dL_law_1377 rfl ?_
        refine ev_ifne 1394 dL_law_1379 (fun hk0 => ?_) (fun hk0 => ?_)
        · refine ev_gt 2408 dL_law_1394 ?_
          exact nxt _ _ _ _ hJ2 ⟨hS2, hR2⟩
        · have hv := hV hk0
          refine ev_aload_n dL_law_1382 rfl ?_
          refine ev_iconst dL_law_1383 ?_
          refine ev_lald dL_law_1384 hS2.2.2.1 (by have := hS2.2.2.2.2; omega) rfl (by omega) (by omega) ?_
          refine ev_iload dL_law_1385 rfl ?_
          refine ev_i2l dL_law_1387 ?_
          refine ev_lcmp dL_law_1388 (show ir (h3.vl 92 0) from by rw [hv]; exact hbr) hbr ?_
          refine ev_ifeq 1394 dL_law_1389 (fun hcc => ?_) (fun h_no => (by exfalso; exact h_no (cmpI_0.mpr hv)))
          refine ev_gt 2408 dL_law_1394 ?_
          exact nxt _ _ _ _ hJ2 ⟨hS2, hR2⟩
      by_cases hc18 : c = 18
      · subst hc18
        refine ev_tsI 1397 (1353) dL_law_44 (by omega) (by omega) rfl ?_
        obtain ⟨d1, hd1, hC⟩ := hA.2.2.2.2.2.2.2.2.2.2.2.2.2.2.2.2.2.2.1 (xs (i + 1).toNat).toInt (i32_ir _)
        refine ev_aload_n dL_law_1397 rfl ?_
        refine ev_alx dL_law_1398 rfl ?_
        refine ev_iload dL_law_1399 rfl ?_
        refine ev_iconst dL_law_1401 ?_
        refine ev_iadd dL_law_1402 (by unfold ir; omega) ?_
        refine ev_sld dL_law_1403 ho (by omega) (by omega) ?_
        refine ev_aload_n dL_law_1404 rfl ?_
        refine ev_callsH dL_law_1405 lL_205 hC hd1 rfl rfl (Nat.le_of_ble_eq_true rfl) (fun kk h1 q => ?_)
        obtain ⟨hS1, d2, hd2, hC2⟩ := q
        refine ev_ist6 dL_law_1408 ?_ (show 6 < 9 by decide)
        refine ev_aload_n dL_law_1410 rfl ?_
        refine ev_alx dL_law_1411 rfl ?_
        refine ev_iload dL_law_1412 rfl ?_
        refine ev_iconst dL_law_1414 ?_
        refine ev_iadd dL_law_1415 (by unfold ir; omega) ?_
        refine ev_sld dL_law_1416 ho (by omega) (by omega) ?_
        refine ev_cvi dL_law_1417 lL_207 hC2 hd2 hS1.2.1 (by have := hS1.2.2.2.2; omega) rfl rfl rfl (Nat.le_of_ble_eq_true rfl) rfl (fun b2 h2 q => ?_)
        obtain ⟨hR2, hS2, hT, hV, hJ2⟩ := q
        refine ev_rng (fun hL hSt hRg => ?_)
        have hbr : ir b2 := SR_hi hSt
        refine ev_ist7 dL_law_1420 ?_ (show 7 < 9 by decide)
        refine ev_aload_n dL_law_1422 rfl ?_
        refine ev_cvi dL_law_1423 lL_148 (s_thrown hR2) (by decide) hS2.2.1 (by have := hS2.2.2.2.2; omega) rfl rfl rfl (Nat.le_of_ble_eq_true rfl) rfl (fun r h3 q => ?_)
        obtain ⟨rfl, rfl⟩ := q
        refine ev_iload dL_law_1426 rfl ?_
        refine ev_icmpeq 1433 dL_law_1428 (fun hcc => ?_) (fun h_no => (by exfalso; exact h_no hT))
        refine ev_iload dL_law_1433 rfl ?_
        refine ev_ifne 1450 dL_law_1435 (fun hk0 => ?_) (fun hk0 => ?_)
        · refine ev_gt 2408 dL_law_1450 ?_
          exact nxt _ _ _ _ hJ2 ⟨hS2, hR2⟩
        · have hv := hV hk0
          refine ev_aload_n dL_law_1438 rfl ?_
          refine ev_iconst dL_law_1439 ?_
          refine ev_lald dL_law_1440 hS2.2.2.1 (by have := hS2.2.2.2.2; omega) rfl (by omega) (by omega) ?_
          refine ev_iload dL_law_1441 rfl ?_
          refine ev_i2l dL_law_1443 ?_
          refine ev_lcmp dL_law_1444 (show ir (h3.vl 92 0) from by rw [hv]; exact hbr) hbr ?_
          refine ev_ifeq 1450 dL_law_1445 (fun hcc => ?_) (fun h_no => (by exfalso; exact h_no (cmpI_0.mpr hv)))
          refine ev_gt 2408 dL_law_1450 ?_
          exact nxt _ _ _ _ hJ2 ⟨hS2, hR2⟩
      by_cases hc19 : c = 19
      · subst hc19
        refine ev_tsI 1453 (1409) dL_law_44 (by omega) (by omega) rfl ?_
        obtain ⟨d1, hd1, hC⟩ := hA.2.2.2.2.2.2.2.2.2.2.2.2.2.2.2.2.2.2.2.1 (xs (i + 1).toNat).toInt (i32_ir _)
        refine ev_aload_n dL_law_1453 rfl ?_
        refine ev_alx dL_law_1454 rfl ?_
        refine ev_iload dL_law_1455 rfl ?_
        refine ev_iconst dL_law_1457 ?_
        refine ev_iadd dL_law_1458 (by unfold ir; omega) ?_
        refine ev_sld dL_law_1459 ho (by omega) (by omega) ?_
        refine ev_aload_n dL_law_1460 rfl ?_
        refine ev_callsH dL_law_1461 lL_208 hC hd1 rfl rfl (Nat.le_of_ble_eq_true rfl) (fun kk h1 q => ?_)
        obtain ⟨hS1, d2, hd2, hC2⟩ := q
        refine ev_ist6 dL_law_1464 ?_ (show 6 < 9 by decide)
        refine ev_aload_n dL_law_1466 rfl ?_
        refine ev_alx dL_law_1467 rfl ?_
        refine ev_iload dL_law_1468 rfl ?_
        refine ev_iconst dL_law_1470 ?_
        refine ev_iadd dL_law_1471 (by unfold ir; omega) ?_
        refine ev_sld dL_law_1472 ho (by omega) (by omega) ?_
        refine ev_cvi dL_law_1473 lL_210 hC2 hd2 hS1.2.1 (by have := hS1.2.2.2.2; omega) rfl rfl rfl (Nat.le_of_ble_eq_true rfl) rfl (fun b2 h2 q => ?_)
        obtain ⟨hR2, hS2, hT, hV, hJ2⟩ := q
        refine ev_rng (fun hL hSt hRg => ?_)
        have hbr : ir b2 := SR_hi hSt
        refine ev_ist7 dL_law_1476 ?_ (show 7 < 9 by decide)
        refine ev_aload_n dL_law_1478 rfl ?_
        refine ev_cvi dL_law_1479 lL_148 (s_thrown hR2) (by decide) hS2.2.1 (by have := hS2.2.2.2.2; omega) rfl rfl rfl (Nat.le_of_ble_eq_true rfl) rfl (fun r h3 q => ?_)
        obtain ⟨rfl, rfl⟩ := q
        refine ev_iload dL_law_1482 rfl ?_
        refine ev_icmpeq 1489 dL_law_1484 (fun hcc => ?_) (fun h_no => (by exfalso; exact h_no hT))
        refine ev_iload dL_law_1489 rfl ?_
        refine ev_ifne 1513 dL_law_1491 (fun hk0 => ?_) (fun hk0 => ?_)
        · refine ev_gt 2408 dL_law_1513 ?_
          exact nxt _ _ _ _ hJ2 ⟨hS2, hR2⟩
        · obtain ⟨hv, hb01⟩ := hV hk0
          refine ev_aload_n dL_law_1494 rfl ?_
          refine ev_iconst dL_law_1495 ?_
          refine ev_lald dL_law_1496 hS2.2.2.1 (by have := hS2.2.2.2.2; omega) rfl (by omega) (by omega) ?_
          refine ev_iload dL_law_1497 rfl ?_
          refine ev_ifeq 1506 dL_law_1499 (fun hb0 => ?_) (fun hb0 => ?_)
          · refine ev_lconst dL_law_1506 ?_
            refine ev_lcmp dL_law_1507 (show ir (h3.vl 92 0) from by rw [hv]; exact hbr) (by unfold ir; decide) ?_
            refine ev_ifeq 1513 dL_law_1508 (fun hcc => ?_) (fun h_no => (by exfalso; exact h_no (cmpI_0.mpr (hv.trans (by rcases hb01 with e | e <;> first | exact e | exact absurd e hb0 | (rw [e] at hb0; exact absurd hb0 (by decide)))))))
            refine ev_gt 2408 dL_law_1513 ?_
            exact nxt _ _ _ _ hJ2 ⟨hS2, hR2⟩
          · refine ev_lconst dL_law_1502 ?_
            refine ev_gt 1507 dL_law_1503 ?_
            refine ev_lcmp dL_law_1507 (show ir (h3.vl 92 0) from by rw [hv]; exact hbr) (by unfold ir; decide) ?_
            refine ev_ifeq 1513 dL_law_1508 (fun hcc => ?_) (fun h_no => (by exfalso; exact h_no (cmpI_0.mpr (hv.trans (by rcases hb01 with e | e <;> first | exact e | exact absurd e hb0 | (rw [e] at hb0; exact absurd hb0 (by decide)))))))
            refine ev_gt 2408 dL_law_1513 ?_
            exact nxt _ _ _ _ hJ2 ⟨hS2, hR2⟩
      by_cases hc20 : c = 20
      · subst hc20
        refine ev_tsI 1516 (1472) dL_law_44 (by omega) (by omega) rfl ?_
        obtain ⟨d1, hd1, hC⟩ := hA.2.2.2.2.2.2.2.2.2.2.2.2.2.2.2.2.2.2.2.2.1 
        refine ev_aload_n dL_law_1516 rfl ?_
        refine ev_aload_n dL_law_1517 rfl ?_
        refine ev_callsH dL_law_1518 lL_211 hC hd1 rfl rfl (Nat.le_of_ble_eq_true rfl) (fun kk h1 q => ?_)
        obtain ⟨hS1, d2, hd2, hC2⟩ := q
        refine ev_ist6 dL_law_1521 ?_ (show 6 < 9 by decide)
        refine ev_aload_n dL_law_1523 rfl ?_
        refine ev_cvi dL_law_1524 lL_213 hC2 hd2 hS1.2.1 (by have := hS1.2.2.2.2; omega) rfl rfl rfl (Nat.le_of_ble_eq_true rfl) rfl (fun b2 h2 q => ?_)
        obtain ⟨hR2, hS2, hT, hV, hJ2⟩ := q
        refine ev_rng (fun hL hSt hRg => ?_)
        have hbr : ir b2 := SR_hi hSt
        refine ev_ist7 dL_law_1527 ?_ (show 7 < 9 by decide)
        refine ev_aload_n dL_law_1529 rfl ?_
        refine ev_cvi dL_law_1530 lL_148 (s_thrown hR2) (by decide) hS2.2.1 (by have := hS2.2.2.2.2; omega) rfl rfl rfl (Nat.le_of_ble_eq_true rfl) rfl (fun r h3 q => ?_)
        obtain ⟨rfl, rfl⟩ := q
        refine ev_iload dL_law_1533 rfl ?_
        refine ev_icmpeq 1540 dL_law_1535 (fun hcc => ?_) (fun h_no => (by exfalso; exact h_no hT))
        refine ev_iload dL_law_1540 rfl ?_
        refine ev_ifne 1557 dL_law_1542 (fun hk0 => ?_) (fun hk0 => ?_)
        · refine ev_gt 2408 dL_law_1557 ?_
          exact nxt _ _ _ _ hJ2 ⟨hS2, hR2⟩
        · have hv := hV hk0
          refine ev_aload_n dL_law_1545 rfl ?_
          refine ev_iconst dL_law_1546 ?_
          refine ev_lald dL_law_1547 hS2.2.2.1 (by have := hS2.2.2.2.2; omega) rfl (by omega) (by omega) ?_
          refine ev_iload dL_law_1548 rfl ?_
          refine ev_i2l dL_law_1550 ?_
          refine ev_lcmp dL_law_1551 (show ir (h3.vl 92 0) from by rw [hv]; exact hbr) hbr ?_
          refine ev_ifeq 1557 dL_law_1552 (fun hcc => ?_) (fun h_no => (by exfalso; exact h_no (cmpI_0.mpr hv)))
          refine ev_gt 2408 dL_law_1557 ?_
          exact nxt _ _ _ _ hJ2 ⟨hS2, hR2⟩
      by_cases hc21 : c = 21
      · subst hc21
        refine ev_tsI 1560 (1516) dL_law_44 (by omega) (by omega) rfl ?_
        obtain ⟨d1, hd1, hC⟩ := hA.2.2.2.2.2.2.2.2.2.2.2.2.2.2.2.2.2.2.2.2.2.1 (xs (i + 1).toNat).toInt (i32_ir _)
        refine ev_aload_n dL_law_1560 rfl ?_
        refine ev_alx dL_law_1561 rfl ?_
        refine ev_iload dL_law_1562 rfl ?_
        refine ev_iconst dL_law_1564 ?_
        refine ev_iadd dL_law_1565 (by unfold ir; omega) ?_
        refine ev_sld dL_law_1566 ho (by omega) (by omega) ?_
        refine ev_aload_n dL_law_1567 rfl ?_
        refine ev_callsH dL_law_1568 lL_214 hC hd1 rfl rfl (Nat.le_of_ble_eq_true rfl) (fun kk h1 q => ?_)
        obtain ⟨hS1, d2, hd2, hC2⟩ := q
        refine ev_ist6 dL_law_1571 ?_ (show 6 < 9 by decide)
        refine ev_aload_n dL_law_1573 rfl ?_
        refine ev_alx dL_law_1574 rfl ?_
        refine ev_iload dL_law_1575 rfl ?_
        refine ev_iconst dL_law_1577 ?_
        refine ev_iadd dL_law_1578 (by unfold ir; omega) ?_
        refine ev_sld dL_law_1579 ho (by omega) (by omega) ?_
        refine ev_cvi dL_law_1580 lL_216 hC2 hd2 hS1.2.1 (by have := hS1.2.2.2.2; omega) rfl rfl rfl (Nat.le_of_ble_eq_true rfl) rfl (fun b2 h2 q => ?_)
        obtain ⟨hR2, hS2, hT, hV, hJ2⟩ := q
        refine ev_rng (fun hL hSt hRg => ?_)
        have hbr : ir b2 := SR_hi hSt
        refine ev_ist7 dL_law_1583 ?_ (show 7 < 9 by decide)
        refine ev_aload_n dL_law_1585 rfl ?_
        refine ev_cvi dL_law_1586 lL_148 (s_thrown hR2) (by decide) hS2.2.1 (by have := hS2.2.2.2.2; omega) rfl rfl rfl (Nat.le_of_ble_eq_true rfl) rfl (fun r h3 q => ?_)
        obtain ⟨rfl, rfl⟩ := q
        refine ev_iload dL_law_1589 rfl ?_
        refine ev_icmpeq 1596 dL_law_1591 (fun hcc => ?_) (fun h_no => (by exfalso; exact h_no hT))
        refine ev_iload dL_law_1596 rfl ?_
        refine ev_ifne 1613 dL_law_1598 (fun hk0 => ?_) (fun hk0 => ?_)
        · refine ev_gt 2408 dL_law_1613 ?_
          exact nxt _ _ _ _ hJ2 ⟨hS2, hR2⟩
        · have hv := hV hk0
          refine ev_aload_n dL_law_1601 rfl ?_
          refine ev_iconst dL_law_1602 ?_
          refine ev_lald dL_law_1603 hS2.2.2.1 (by have := hS2.2.2.2.2; omega) rfl (by omega) (by omega) ?_
          refine ev_iload dL_law_1604 rfl ?_
          refine ev_i2l dL_law_1606 ?_
          refine ev_lcmp dL_law_1607 (show ir (h3.vl 92 0) from by rw [hv]; exact hbr) hbr ?_
          refine ev_ifeq 1613 dL_law_1608 (fun hcc => ?_) (fun h_no => (by exfalso; exact h_no (cmpI_0.mpr hv)))
          refine ev_gt 2408 dL_law_1613 ?_
          exact nxt _ _ _ _ hJ2 ⟨hS2, hR2⟩
      by_cases hc22 : c = 22
      · subst hc22
        refine ev_tsI 1616 (1572) dL_law_44 (by omega) (by omega) rfl ?_
        obtain ⟨d1, hd1, hC⟩ := hA.2.2.2.2.2.2.2.2.2.2.2.2.2.2.2.2.2.2.2.2.2.2.1
        refine ev_aload_n dL_law_1616 rfl ?_
        refine ev_cvi dL_law_1617 lL_217 hC hd1 hS.1 (by have := hS.2.2.2.2; omega) rfl rfl rfl (Nat.le_of_ble_eq_true rfl) rfl (fun a h1 q => ?_)
        obtain ⟨hS1, d2, hd2, hC2⟩ := q
        refine ev_aload_n dL_law_1620 rfl ?_
        refine ev_cvi dL_law_1621 lL_221 hC2 hd2 hS1.2.1 (by have := hS1.2.2.2.2; omega) rfl rfl rfl (Nat.le_of_ble_eq_true rfl) rfl (fun b2 h2 q => ?_)
        obtain ⟨hT, hR2, hS2, hJ2⟩ := q
        refine ev_icmpeq 2408 dL_law_1624 (fun hcc => ?_) (fun h_no => (by exfalso; exact h_no hT))
        exact nxt _ _ _ _ hJ2 ⟨hS2, hR2⟩
      by_cases hc23 : c = 23
      · subst hc23
        refine ev_tsI 1629 (1585) dL_law_44 (by omega) (by omega) rfl ?_
        obtain ⟨d1, hd1, hC⟩ := hA.2.2.2.2.2.2.2.2.2.2.2.2.2.2.2.2.2.2.2.2.2.2.2.1 (xs (i + 1).toNat).toInt (i32_ir _)
        refine ev_aload_n dL_law_1629 rfl ?_
        refine ev_alx dL_law_1630 rfl ?_
        refine ev_iload dL_law_1631 rfl ?_
        refine ev_iconst dL_law_1633 ?_
        refine ev_iadd dL_law_1634 (by unfold ir; omega) ?_
        refine ev_sld dL_law_1635 ho (by omega) (by omega) ?_
        refine ev_i2c dL_law_1636 ?_
        refine ev_aload_n dL_law_1637 rfl ?_
        refine ev_callsH dL_law_1638 lL_222 hC hd1 rfl rfl (Nat.le_of_ble_eq_true rfl) (fun kk h1 q => ?_)
        obtain ⟨hS1, d2, hd2, hC2⟩ := q
        refine ev_ist6 dL_law_1641 ?_ (show 6 < 9 by decide)
        refine ev_aload_n dL_law_1643 rfl ?_
        refine ev_alx dL_law_1644 rfl ?_
        refine ev_iload dL_law_1645 rfl ?_
        refine ev_iconst dL_law_1647 ?_
        refine ev_iadd dL_law_1648 (by unfold ir; omega) ?_
        refine ev_sld dL_law_1649 ho (by omega) (by omega) ?_
        refine ev_i2c dL_law_1650 ?_
        refine ev_cvi dL_law_1651 lL_225 hC2 hd2 hS1.2.1 (by have := hS1.2.2.2.2; omega) rfl rfl rfl (Nat.le_of_ble_eq_true rfl) rfl (fun b2 h2 q => ?_)
        obtain ⟨hR2, hS2, hT, hV, hJ2⟩ := q
        refine ev_rng (fun hL hSt hRg => ?_)
        have hbr : ir b2 := SR_hi hSt
        refine ev_ist7 dL_law_1654 ?_ (show 7 < 9 by decide)
        refine ev_aload_n dL_law_1656 rfl ?_
        refine ev_cvi dL_law_1657 lL_148 (s_thrown hR2) (by decide) hS2.2.1 (by have := hS2.2.2.2.2; omega) rfl rfl rfl (Nat.le_of_ble_eq_true rfl) rfl (fun r h3 q => ?_)
        obtain ⟨rfl, rfl⟩ := q
        refine ev_iload dL_law_1660 rfl ?_
        refine ev_icmpeq 1667 dL_law_1662 (fun hcc => ?_) (fun h_no => (by exfalso; exact h_no hT))
        refine ev_iload dL_law_1667 rfl ?_
        refine ev_ifne 1684 dL_law_1669 (fun hk0 => ?_) (fun hk0 => ?_)
        · refine ev_gt 2408 dL_law_1684 ?_
          exact nxt _ _ _ _ hJ2 ⟨hS2, hR2⟩
        · have hv := hV hk0
          refine ev_aload_n dL_law_1672 rfl ?_
          refine ev_iconst dL_law_1673 ?_
          refine ev_lald dL_law_1674 hS2.2.2.1 (by have := hS2.2.2.2.2; omega) rfl (by omega) (by omega) ?_
          refine ev_iload dL_law_1675 rfl ?_
          refine ev_i2l dL_law_1677 ?_
          refine ev_lcmp dL_law_1678 (show ir (h3.vl 92 0) from by rw [hv]; exact hbr) hbr ?_
          refine ev_ifeq 1684 dL_law_1679 (fun hcc => ?_) (fun h_no => (by exfalso; exact h_no (cmpI_0.mpr hv)))
          refine ev_gt 2408 dL_law_1684 ?_
          exact nxt _ _ _ _ hJ2 ⟨hS2, hR2⟩
      by_cases hc24 : c = 24
      · subst hc24
        refine ev_tsI 1687 (1643) dL_law_44 (by omega) (by omega) rfl ?_
        obtain ⟨d1, hd1, hC⟩ := hA.2.2.2.2.2.2.2.2.2.2.2.2.2.2.2.2.2.2.2.2.2.2.2.2.1 
        refine ev_aload_n dL_law_1687 rfl ?_
        refine ev_aload_n dL_law_1688 rfl ?_
        refine ev_callsH dL_law_1689 lL_226 hC hd1 rfl rfl (Nat.le_of_ble_eq_true rfl) (fun kk h1 q => ?_)
        obtain ⟨hS1, d2, hd2, hC2⟩ := q
        refine ev_ist6 dL_law_1692 ?_ (show 6 < 9 by decide)
        refine ev_aload_n dL_law_1694 rfl ?_
        refine ev_cvi dL_law_1695 lL_228 hC2 hd2 hS1.2.1 (by have := hS1.2.2.2.2; omega) rfl rfl rfl (Nat.le_of_ble_eq_true rfl) rfl (fun b2 h2 q => ?_)
        obtain ⟨hR2, hS2, hT, hV, hJ2⟩ := q
        refine ev_rng (fun hL hSt hRg => ?_)
        have hbr : ir b2 := SR_hi hSt
        refine ev_ist7 dL_law_1698 ?_ (show 7 < 9 by decide)
        refine ev_aload_n dL_law_1700 rfl ?_
        refine ev_cvi dL_law_1701 lL_148 (s_thrown hR2) (by decide) hS2.2.1 (by have := hS2.2.2.2.2; omega) rfl rfl rfl (Nat.le_of_ble_eq_true rfl) rfl (fun r h3 q => ?_)
        obtain ⟨rfl, rfl⟩ := q
        refine ev_iload dL_law_1704 rfl ?_
        refine ev_icmpeq 1711 dL_law_1706 (fun hcc => ?_) (fun h_no => (by exfalso; exact h_no hT))
        refine ev_iload dL_law_1711 rfl ?_
        refine ev_ifne 1728 dL_law_1713 (fun hk0 => ?_) (fun hk0 => ?_)
        · refine ev_gt 2408 dL_law_1728 ?_
          exact nxt _ _ _ _ hJ2 ⟨hS2, hR2⟩
        · have hv := hV hk0
          refine ev_aload_n dL_law_1716 rfl ?_
          refine ev_iconst dL_law_1717 ?_
          refine ev_lald dL_law_1718 hS2.2.2.1 (by have := hS2.2.2.2.2; omega) rfl (by omega) (by omega) ?_
          refine ev_iload dL_law_1719 rfl ?_
          refine ev_i2l dL_law_1721 ?_
          refine ev_lcmp dL_law_1722 (show ir (h3.vl 92 0) from by rw [hv]; exact hbr) hbr ?_
          refine ev_ifeq 1728 dL_law_1723 (fun hcc => ?_) (fun h_no => (by exfalso; exact h_no (cmpI_0.mpr hv)))
          refine ev_gt 2408 dL_law_1728 ?_
          exact nxt _ _ _ _ hJ2 ⟨hS2, hR2⟩
      by_cases hc25 : c = 25
      · subst hc25
        refine ev_tsI 1731 (1687) dL_law_44 (by omega) (by omega) rfl ?_
        obtain ⟨d1, hd1, hC⟩ := hA.2.2.2.2.2.2.2.2.2.2.2.2.2.2.2.2.2.2.2.2.2.2.2.2.2.1
        refine ev_aload_n dL_law_1731 rfl ?_
        refine ev_cvi dL_law_1732 lL_229 hC hd1 hS.1 (by have := hS.2.2.2.2; omega) rfl rfl rfl (Nat.le_of_ble_eq_true rfl) rfl (fun a h1 q => ?_)
        obtain ⟨hS1, d2, hd2, hC2⟩ := q
        refine ev_aload_n dL_law_1735 rfl ?_
        refine ev_cvi dL_law_1736 lL_232 hC2 hd2 hS1.2.1 (by have := hS1.2.2.2.2; omega) rfl rfl rfl (Nat.le_of_ble_eq_true rfl) rfl (fun b2 h2 q => ?_)
        obtain ⟨hT, hR2, hS2, hJ2⟩ := q
        refine ev_icmpeq 2408 dL_law_1739 (fun hcc => ?_) (fun h_no => (by exfalso; exact h_no hT))
        exact nxt _ _ _ _ hJ2 ⟨hS2, hR2⟩
      by_cases hc26 : c = 26
      · subst hc26
        refine ev_tsI 1744 (1700) dL_law_44 (by omega) (by omega) rfl ?_
        by_cases hz : (xs (i + 2).toNat).toInt = 0
        · obtain ⟨d1, hd1, hC⟩ := hA.2.2.2.2.2.2.2.2.2.2.2.2.2.2.2.2.2.2.2.2.2.2.2.2.2.2.1 (xs (i + 1).toNat).toInt 0 (i32_ir _) (by decide)
          refine ev_aload_n dL_law_1744 rfl ?_
          refine ev_alx dL_law_1745 rfl ?_
          refine ev_iload dL_law_1746 rfl ?_
          refine ev_iconst dL_law_1748 ?_
          refine ev_iadd dL_law_1749 (by unfold ir; omega) ?_
          refine ev_sld dL_law_1750 ho (by omega) (by omega) ?_
          refine ev_alx dL_law_1751 rfl ?_
          refine ev_iload dL_law_1752 rfl ?_
          refine ev_iconst dL_law_1754 ?_
          refine ev_iadd dL_law_1755 (by unfold ir; omega) ?_
          refine ev_sld dL_law_1756 ho (by omega) (by omega) ?_
          refine ev_ifeq 1764 dL_law_1757 (fun hcc => ?_) (fun h_no => (by exfalso; exact h_no hz))
          refine ev_iconst dL_law_1764 ?_
          refine ev_aload_n dL_law_1765 rfl ?_
          refine ev_callsH dL_law_1766 lL_233 hC hd1 rfl rfl (Nat.le_of_ble_eq_true rfl) (fun kk h1 q => ?_)
          obtain ⟨hS1, d2, hd2, hC2⟩ := q
          refine ev_ist6 dL_law_1769 ?_ (show 6 < 9 by decide)
          refine ev_aload_n dL_law_1771 rfl ?_
          refine ev_alx dL_law_1772 rfl ?_
          refine ev_iload dL_law_1773 rfl ?_
          refine ev_iconst dL_law_1775 ?_
          refine ev_iadd dL_law_1776 (by unfold ir; omega) ?_
          refine ev_sld dL_law_1777 ho (by omega) (by omega) ?_
          refine ev_alx dL_law_1778 rfl ?_
          refine ev_iload dL_law_1779 rfl ?_
          refine ev_iconst dL_law_1781 ?_
          refine ev_iadd dL_law_1782 (by unfold ir; omega) ?_
          refine ev_sld dL_law_1783 ho (by omega) (by omega) ?_
          refine ev_ifeq 1791 dL_law_1784 (fun hcc => ?_) (fun h_no => (by exfalso; exact h_no hz))
          refine ev_iconst dL_law_1791 ?_
          refine ev_cvi dL_law_1792 lL_236 hC2 hd2 hS1.2.1 (by have := hS1.2.2.2.2; omega) rfl rfl rfl (Nat.le_of_ble_eq_true rfl) rfl (fun b2 h2 q => ?_)
          obtain ⟨hR2, hS2, hT, hV, hJ2⟩ := q
          refine ev_rng (fun hL hSt hRg => ?_)
          have hbr : ir b2 := SR_hi hSt
          refine ev_ist7 dL_law_1795 ?_ (show 7 < 9 by decide)
          refine ev_aload_n dL_law_1797 rfl ?_
          refine ev_cvi dL_law_1798 lL_148 (s_thrown hR2) (by decide) hS2.2.1 (by have := hS2.2.2.2.2; omega) rfl rfl rfl (Nat.le_of_ble_eq_true rfl) rfl (fun r h3 q => ?_)
          obtain ⟨rfl, rfl⟩ := q
          refine ev_iload dL_law_1801 rfl ?_
          refine ev_icmpeq 1808 dL_law_1803 (fun hcc => ?_) (fun h_no => (by exfalso; exact h_no hT))
          refine ev_iload dL_law_1808 rfl ?_
          refine ev_ifne 1825 dL_law_1810 (fun hk0 => ?_) (fun hk0 => ?_)
          · refine ev_gt 2408 dL_law_1825 ?_
            exact nxt _ _ _ _ hJ2 ⟨hS2, hR2⟩
          · have hv := hV hk0
            refine ev_aload_n dL_law_1813 rfl ?_
            refine ev_iconst dL_law_1814 ?_
            refine ev_lald dL_law_1815 hS2.2.2.1 (by have := hS2.2.2.2.2; omega) rfl (by omega) (by omega) ?_
            refine ev_iload dL_law_1816 rfl ?_
            refine ev_i2l dL_law_1818 ?_
            refine ev_lcmp dL_law_1819 (show ir (h3.vl 92 0) from by rw [hv]; exact hbr) hbr ?_
            refine ev_ifeq 1825 dL_law_1820 (fun hcc => ?_) (fun h_no => (by exfalso; exact h_no (cmpI_0.mpr hv)))
            refine ev_gt 2408 dL_law_1825 ?_
            exact nxt _ _ _ _ hJ2 ⟨hS2, hR2⟩
        · obtain ⟨d1, hd1, hC⟩ := hA.2.2.2.2.2.2.2.2.2.2.2.2.2.2.2.2.2.2.2.2.2.2.2.2.2.2.1 (xs (i + 1).toNat).toInt 1 (i32_ir _) (by decide)
          refine ev_aload_n dL_law_1744 rfl ?_
          refine ev_alx dL_law_1745 rfl ?_
          refine ev_iload dL_law_1746 rfl ?_
          refine ev_iconst dL_law_1748 ?_
          refine ev_iadd dL_law_1749 (by unfold ir; omega) ?_
          refine ev_sld dL_law_1750 ho (by omega) (by omega) ?_
          refine ev_alx dL_law_1751 rfl ?_
          refine ev_iload dL_law_1752 rfl ?_
          refine ev_iconst dL_law_1754 ?_
          refine ev_iadd dL_law_1755 (by unfold ir; omega) ?_
          refine ev_sld dL_law_1756 ho (by omega) (by omega) ?_
          refine ev_ifeq 1764 dL_law_1757 (fun h_no => (by exfalso; exact hz h_no)) (fun hcc => ?_)
          refine ev_iconst dL_law_1760 ?_
          refine ev_gt 1765 dL_law_1761 ?_
          refine ev_aload_n dL_law_1765 rfl ?_
          refine ev_callsH dL_law_1766 lL_233 hC hd1 rfl rfl (Nat.le_of_ble_eq_true rfl) (fun kk h1 q => ?_)
          obtain ⟨hS1, d2, hd2, hC2⟩ := q
          refine ev_ist6 dL_law_1769 ?_ (show 6 < 9 by decide)
          refine ev_aload_n dL_law_1771 rfl ?_
          refine ev_alx dL_law_1772 rfl ?_
          refine ev_iload dL_law_1773 rfl ?_
          refine ev_iconst dL_law_1775 ?_
          refine ev_iadd dL_law_1776 (by unfold ir; omega) ?_
          refine ev_sld dL_law_1777 ho (by omega) (by omega) ?_
          refine ev_alx dL_law_1778 rfl ?_
          refine ev_iload dL_law_1779 rfl ?_
          refine ev_iconst dL_law_1781 ?_
          refine ev_iadd dL_law_1782 (by unfold ir; omega) ?_
          refine ev_sld dL_law_1783 ho (by omega) (by omega) ?_
          refine ev_ifeq 1791 dL_law_1784 (fun h_no => (by exfalso; exact hz h_no)) (fun hcc => ?_)
          refine ev_iconst dL_law_1787 ?_
          refine ev_gt 1792 dL_law_1788 ?_
          refine ev_cvi dL_law_1792 lL_236 hC2 hd2 hS1.2.1 (by have := hS1.2.2.2.2; omega) rfl rfl rfl (Nat.le_of_ble_eq_true rfl) rfl (fun b2 h2 q => ?_)
          obtain ⟨hR2, hS2, hT, hV, hJ2⟩ := q
          refine ev_rng (fun hL hSt hRg => ?_)
          have hbr : ir b2 := SR_hi hSt
          refine ev_ist7 dL_law_1795 ?_ (show 7 < 9 by decide)
          refine ev_aload_n dL_law_1797 rfl ?_
          refine ev_cvi dL_law_1798 lL_148 (s_thrown hR2) (by decide) hS2.2.1 (by have := hS2.2.2.2.2; omega) rfl rfl rfl (Nat.le_of_ble_eq_true rfl) rfl (fun r h3 q => ?_)
          obtain ⟨rfl, rfl⟩ := q
          refine ev_iload dL_law_1801 rfl ?_
          refine ev_icmpeq 1808 dL_law_1803 (fun hcc => ?_) (fun h_no => (by exfalso; exact h_no hT))
          refine ev_iload dL_law_1808 rfl ?_
          refine ev_ifne 1825 dL_law_1810 (fun hk0 => ?_) (fun hk0 => ?_)
          · refine ev_gt 2408 dL_law_1825 ?_
            exact nxt _ _ _ _ hJ2 ⟨hS2, hR2⟩
          · have hv := hV hk0
            refine ev_aload_n dL_law_1813 rfl ?_
            refine ev_iconst dL_law_1814 ?_
            refine ev_lald dL_law_1815 hS2.2.2.1 (by have := hS2.2.2.2.2; omega) rfl (by omega) (by omega) ?_
            refine ev_iload dL_law_1816 rfl ?_
            refine ev_i2l dL_law_1818 ?_
            refine ev_lcmp dL_law_1819 (show ir (h3.vl 92 0) from by rw [hv]; exact hbr) hbr ?_
            refine ev_ifeq 1825 dL_law_1820 (fun hcc => ?_) (fun h_no => (by exfalso; exact h_no (cmpI_0.mpr hv)))
            refine ev_gt 2408 dL_law_1825 ?_
            exact nxt _ _ _ _ hJ2 ⟨hS2, hR2⟩
      by_cases hc27 : c = 27
      · subst hc27
        refine ev_tsI 1828 (1784) dL_law_44 (by omega) (by omega) rfl ?_
        obtain ⟨d1, hd1, hC⟩ := hA.2.2.2.2.2.2.2.2.2.2.2.2.2.2.2.2.2.2.2.2.2.2.2.2.2.2.2.1 (xs (i + 1).toNat).toInt (i32_ir _)
        refine ev_aload_n dL_law_1828 rfl ?_
        refine ev_alx dL_law_1829 rfl ?_
        refine ev_iload dL_law_1830 rfl ?_
        refine ev_iconst dL_law_1832 ?_
        refine ev_iadd dL_law_1833 (by unfold ir; omega) ?_
        refine ev_sld dL_law_1834 ho (by omega) (by omega) ?_
        refine ev_aload_n dL_law_1835 rfl ?_
        refine ev_callsH dL_law_1836 lL_237 hC hd1 rfl rfl (Nat.le_of_ble_eq_true rfl) (fun kk h1 q => ?_)
        obtain ⟨hS1, d2, hd2, hC2⟩ := q
        refine ev_ist6 dL_law_1839 ?_ (show 6 < 9 by decide)
        refine ev_aload_n dL_law_1841 rfl ?_
        refine ev_alx dL_law_1842 rfl ?_
        refine ev_iload dL_law_1843 rfl ?_
        refine ev_iconst dL_law_1845 ?_
        refine ev_iadd dL_law_1846 (by unfold ir; omega) ?_
        refine ev_sld dL_law_1847 ho (by omega) (by omega) ?_
        refine ev_cvi dL_law_1848 lL_239 hC2 hd2 hS1.2.1 (by have := hS1.2.2.2.2; omega) rfl rfl rfl (Nat.le_of_ble_eq_true rfl) rfl (fun b2 h2 q => ?_)
        obtain ⟨hR2, hS2, hT, hV, hJ2⟩ := q
        refine ev_rng (fun hL hSt hRg => ?_)
        have hbr : ir b2 := SR_hi hSt
        refine ev_ist7 dL_law_1851 ?_ (show 7 < 9 by decide)
        refine ev_aload_n dL_law_1853 rfl ?_
        refine ev_cvi dL_law_1854 lL_148 (s_thrown hR2) (by decide) hS2.2.1 (by have := hS2.2.2.2.2; omega) rfl rfl rfl (Nat.le_of_ble_eq_true rfl) rfl (fun r h3 q => ?_)
        obtain ⟨rfl, rfl⟩ := q
        refine ev_iload dL_law_1857 rfl ?_
        refine ev_icmpeq 1864 dL_law_1859 (fun hcc => ?_) (fun h_no => (by exfalso; exact h_no hT))
        refine ev_iload dL_law_1864 rfl ?_
        refine ev_ifne 1881 dL_law_1866 (fun hk0 => ?_) (fun hk0 => ?_)
        · refine ev_gt 2408 dL_law_1881 ?_
          exact nxt _ _ _ _ hJ2 ⟨hS2, hR2⟩
        · have hv := hV hk0
          refine ev_aload_n dL_law_1869 rfl ?_
          refine ev_iconst dL_law_1870 ?_
          refine ev_lald dL_law_1871 hS2.2.2.1 (by have := hS2.2.2.2.2; omega) rfl (by omega) (by omega) ?_
          refine ev_iload dL_law_1872 rfl ?_
          refine ev_i2l dL_law_1874 ?_
          refine ev_lcmp dL_law_1875 (show ir (h3.vl 92 0) from by rw [hv]; exact hbr) hbr ?_
          refine ev_ifeq 1881 dL_law_1876 (fun hcc => ?_) (fun h_no => (by exfalso; exact h_no (cmpI_0.mpr hv)))
          refine ev_gt 2408 dL_law_1881 ?_
          exact nxt _ _ _ _ hJ2 ⟨hS2, hR2⟩
      by_cases hc28 : c = 28
      · subst hc28
        refine ev_tsI 1884 (1840) dL_law_44 (by omega) (by omega) rfl ?_
        obtain ⟨d1, hd1, hC⟩ := hA.2.2.2.2.2.2.2.2.2.2.2.2.2.2.2.2.2.2.2.2.2.2.2.2.2.2.2.2.1 (xs (i + 1).toNat).toInt (xs (i + 2).toNat).toInt (i32_ir _) (i32_ir _)
        refine ev_aload_n dL_law_1884 rfl ?_
        refine ev_alx dL_law_1885 rfl ?_
        refine ev_iload dL_law_1886 rfl ?_
        refine ev_iconst dL_law_1888 ?_
        refine ev_iadd dL_law_1889 (by unfold ir; omega) ?_
        refine ev_sld dL_law_1890 ho (by omega) (by omega) ?_
        refine ev_alx dL_law_1891 rfl ?_
        refine ev_iload dL_law_1892 rfl ?_
        refine ev_iconst dL_law_1894 ?_
        refine ev_iadd dL_law_1895 (by unfold ir; omega) ?_
        refine ev_sld dL_law_1896 ho (by omega) (by omega) ?_
        refine ev_aload_n dL_law_1897 rfl ?_
        refine ev_callsH dL_law_1898 lL_240 hC hd1 rfl rfl (Nat.le_of_ble_eq_true rfl) (fun kk h1 q => ?_)
        obtain ⟨hS1, d2, hd2, hC2⟩ := q
        refine ev_ist6 dL_law_1901 ?_ (show 6 < 9 by decide)
        refine ev_aload_n dL_law_1903 rfl ?_
        refine ev_alx dL_law_1904 rfl ?_
        refine ev_iload dL_law_1905 rfl ?_
        refine ev_iconst dL_law_1907 ?_
        refine ev_iadd dL_law_1908 (by unfold ir; omega) ?_
        refine ev_sld dL_law_1909 ho (by omega) (by omega) ?_
        refine ev_alx dL_law_1910 rfl ?_
        refine ev_iload dL_law_1911 rfl ?_
        refine ev_iconst dL_law_1913 ?_
        refine ev_iadd dL_law_1914 (by unfold ir; omega) ?_
        refine ev_sld dL_law_1915 ho (by omega) (by omega) ?_
        refine ev_cvi dL_law_1916 lL_242 hC2 hd2 hS1.2.1 (by have := hS1.2.2.2.2; omega) rfl rfl rfl (Nat.le_of_ble_eq_true rfl) rfl (fun b2 h2 q => ?_)
        obtain ⟨hR2, hS2, hT, hV, hJ2⟩ := q
        refine ev_rng (fun hL hSt hRg => ?_)
        have hbr : ir b2 := SR_hi hSt
        refine ev_ist7 dL_law_1919 ?_ (show 7 < 9 by decide)
        refine ev_aload_n dL_law_1921 rfl ?_
        refine ev_cvi dL_law_1922 lL_148 (s_thrown hR2) (by decide) hS2.2.1 (by have := hS2.2.2.2.2; omega) rfl rfl rfl (Nat.le_of_ble_eq_true rfl) rfl (fun r h3 q => ?_)
        obtain ⟨rfl, rfl⟩ := q
        refine ev_iload dL_law_1925 rfl ?_
        refine ev_icmpeq 1932 dL_law_1927 (fun hcc => ?_) (fun h_no => (by exfalso; exact h_no hT))
        refine ev_iload dL_law_1932 rfl ?_
        refine ev_ifne 1949 dL_law_1934 (fun hk0 => ?_) (fun hk0 => ?_)
        · refine ev_gt 2408 dL_law_1949 ?_
          exact nxt _ _ _ _ hJ2 ⟨hS2, hR2⟩
        · have hv := hV hk0
          refine ev_aload_n dL_law_1937 rfl ?_
          refine ev_iconst dL_law_1938 ?_
          refine ev_lald dL_law_1939 hS2.2.2.1 (by have := hS2.2.2.2.2; omega) rfl (by omega) (by omega) ?_
          refine ev_iload dL_law_1940 rfl ?_
          refine ev_i2l dL_law_1942 ?_
          refine ev_lcmp dL_law_1943 (show ir (h3.vl 92 0) from by rw [hv]; exact hbr) hbr ?_
          refine ev_ifeq 1949 dL_law_1944 (fun hcc => ?_) (fun h_no => (by exfalso; exact h_no (cmpI_0.mpr hv)))
          refine ev_gt 2408 dL_law_1949 ?_
          exact nxt _ _ _ _ hJ2 ⟨hS2, hR2⟩
      by_cases hc29 : c = 29
      · subst hc29
        refine ev_tsI 1952 (1908) dL_law_44 (by omega) (by omega) rfl ?_
        obtain ⟨d1, hd1, hC⟩ := hA.2.2.2.2.2.2.2.2.2.2.2.2.2.2.2.2.2.2.2.2.2.2.2.2.2.2.2.2.2.1 (xs (i + 1).toNat).toInt (i32_ir _)
        refine ev_aload_n dL_law_1952 rfl ?_
        refine ev_alx dL_law_1953 rfl ?_
        refine ev_iload dL_law_1954 rfl ?_
        refine ev_iconst dL_law_1956 ?_
        refine ev_iadd dL_law_1957 (by unfold ir; omega) ?_
        refine ev_sld dL_law_1958 ho (by omega) (by omega) ?_
        refine ev_aload_n dL_law_1959 rfl ?_
        refine ev_callsH dL_law_1960 lL_243 hC hd1 rfl rfl (Nat.le_of_ble_eq_true rfl) (fun kk h1 q => ?_)
        obtain ⟨hS1, d2, hd2, hC2⟩ := q
        refine ev_ist6 dL_law_1963 ?_ (show 6 < 9 by decide)
        refine ev_aload_n dL_law_1965 rfl ?_
        refine ev_alx dL_law_1966 rfl ?_
        refine ev_iload dL_law_1967 rfl ?_
        refine ev_iconst dL_law_1969 ?_
        refine ev_iadd dL_law_1970 (by unfold ir; omega) ?_
        refine ev_sld dL_law_1971 ho (by omega) (by omega) ?_
        refine ev_cvi dL_law_1972 lL_245 hC2 hd2 hS1.2.1 (by have := hS1.2.2.2.2; omega) rfl rfl rfl (Nat.le_of_ble_eq_true rfl) rfl (fun b2 h2 q => ?_)
        obtain ⟨hR2, hS2, hT, hV, hJ2⟩ := q
        refine ev_rng (fun hL hSt hRg => ?_)
        have hbr : ir b2 := SR_hi hSt
        refine ev_ist7 dL_law_1975 ?_ (show 7 < 9 by decide)
        refine ev_aload_n dL_law_1977 rfl ?_
        refine ev_cvi dL_law_1978 lL_148 (s_thrown hR2) (by decide) hS2.2.1 (by have := hS2.2.2.2.2; omega) rfl rfl rfl (Nat.le_of_ble_eq_true rfl) rfl (fun r h3 q => ?_)
        obtain ⟨rfl, rfl⟩ := q
        refine ev_iload dL_law_1981 rfl ?_
        refine ev_icmpeq 1988 dL_law_1983 (fun hcc => ?_) (fun h_no => (by exfalso; exact h_no hT))
        refine ev_iload dL_law_1988 rfl ?_
        refine ev_ifne 2005 dL_law_1990 (fun hk0 => ?_) (fun hk0 => ?_)
        · refine ev_gt 2408 dL_law_2005 ?_
          exact nxt _ _ _ _ hJ2 ⟨hS2, hR2⟩
        · have hv := hV hk0
          refine ev_aload_n dL_law_1993 rfl ?_
          refine ev_iconst dL_law_1994 ?_
          refine ev_lald dL_law_1995 hS2.2.2.1 (by have := hS2.2.2.2.2; omega) rfl (by omega) (by omega) ?_
          refine ev_iload dL_law_1996 rfl ?_
          refine ev_i2l dL_law_1998 ?_
          refine ev_lcmp dL_law_1999 (show ir (h3.vl 92 0) from by rw [hv]; exact hbr) hbr ?_
          refine ev_ifeq 2005 dL_law_2000 (fun hcc => ?_) (fun h_no => (by exfalso; exact h_no (cmpI_0.mpr hv)))
          refine ev_gt 2408 dL_law_2005 ?_
          exact nxt _ _ _ _ hJ2 ⟨hS2, hR2⟩
      by_cases hc30 : c = 30
      · subst hc30
        refine ev_tsI 2008 (1964) dL_law_44 (by omega) (by omega) rfl ?_
        obtain ⟨d1, hd1, hC⟩ := hA.2.2.2.2.2.2.2.2.2.2.2.2.2.2.2.2.2.2.2.2.2.2.2.2.2.2.2.2.2.2.1 (xs (i + 1).toNat).toInt (i32_ir _)
        refine ev_aload_n dL_law_2008 rfl ?_
        refine ev_alx dL_law_2009 rfl ?_
        refine ev_iload dL_law_2010 rfl ?_
        refine ev_iconst dL_law_2012 ?_
        refine ev_iadd dL_law_2013 (by unfold ir; omega) ?_
        refine ev_sld dL_law_2014 ho (by omega) (by omega) ?_
        refine ev_aload_n dL_law_2015 rfl ?_
        refine ev_callsH dL_law_2016 lL_246 hC hd1 rfl rfl (Nat.le_of_ble_eq_true rfl) (fun kk h1 q => ?_)
        obtain ⟨hS1, d2, hd2, hC2⟩ := q
        refine ev_ist6 dL_law_2019 ?_ (show 6 < 9 by decide)
        refine ev_aload_n dL_law_2021 rfl ?_
        refine ev_alx dL_law_2022 rfl ?_
        refine ev_iload dL_law_2023 rfl ?_
        refine ev_iconst dL_law_2025 ?_
        refine ev_iadd dL_law_2026 (by unfold ir; omega) ?_
        refine ev_sld dL_law_2027 ho (by omega) (by omega) ?_
        refine ev_cvi dL_law_2028 lL_248 hC2 hd2 hS1.2.1 (by have := hS1.2.2.2.2; omega) rfl rfl rfl (Nat.le_of_ble_eq_true rfl) rfl (fun b2 h2 q => ?_)
        obtain ⟨hR2, hS2, hT, hV, hJ2⟩ := q
        refine ev_rng (fun hL hSt hRg => ?_)
        have hbr : ir b2 := SR_hi hSt
        refine ev_ist7 dL_law_2031 ?_ (show 7 < 9 by decide)
        refine ev_aload_n dL_law_2033 rfl ?_
        refine ev_cvi dL_law_2034 lL_148 (s_thrown hR2) (by decide) hS2.2.1 (by have := hS2.2.2.2.2; omega) rfl rfl rfl (Nat.le_of_ble_eq_true rfl) rfl (fun r h3 q => ?_)
        obtain ⟨rfl, rfl⟩ := q
        refine ev_iload dL_law_2037 rfl ?_
        refine ev_icmpeq 2044 dL_law_2039 (fun hcc => ?_) (fun h_no => (by exfalso; exact h_no hT))
        refine ev_iload dL_law_2044 rfl ?_
        refine ev_ifne 2061 dL_law_2046 (fun hk0 => ?_) (fun hk0 => ?_)
        · refine ev_gt 2408 dL_law_2061 ?_
          exact nxt _ _ _ _ hJ2 ⟨hS2, hR2⟩
        · have hv := hV hk0
          refine ev_aload_n dL_law_2049 rfl ?_
          refine ev_iconst dL_law_2050 ?_
          refine ev_lald dL_law_2051 hS2.2.2.1 (by have := hS2.2.2.2.2; omega) rfl (by omega) (by omega) ?_
          refine ev_iload dL_law_2052 rfl ?_
          refine ev_i2l dL_law_2054 ?_
          refine ev_lcmp dL_law_2055 (show ir (h3.vl 92 0) from by rw [hv]; exact hbr) hbr ?_
          refine ev_ifeq 2061 dL_law_2056 (fun hcc => ?_) (fun h_no => (by exfalso; exact h_no (cmpI_0.mpr hv)))
          refine ev_gt 2408 dL_law_2061 ?_
          exact nxt _ _ _ _ hJ2 ⟨hS2, hR2⟩
      by_cases hc31 : c = 31
      · subst hc31
        refine ev_tsI 2064 (2020) dL_law_44 (by omega) (by omega) rfl ?_
        obtain ⟨d1, hd1, hC⟩ := hA.2.2.2.2.2.2.2.2.2.2.2.2.2.2.2.2.2.2.2.2.2.2.2.2.2.2.2.2.2.2.2.1 (xs (i + 1).toNat).toInt (i32_ir _)
        refine ev_aload_n dL_law_2064 rfl ?_
        refine ev_alx dL_law_2065 rfl ?_
        refine ev_iload dL_law_2066 rfl ?_
        refine ev_iconst dL_law_2068 ?_
        refine ev_iadd dL_law_2069 (by unfold ir; omega) ?_
        refine ev_sld dL_law_2070 ho (by omega) (by omega) ?_
        refine ev_aload_n dL_law_2071 rfl ?_
        refine ev_callsH dL_law_2072 lL_249 hC hd1 rfl rfl (Nat.le_of_ble_eq_true rfl) (fun kk h1 q => ?_)
        obtain ⟨hS1, d2, hd2, hC2⟩ := q
        refine ev_ist6 dL_law_2075 ?_ (show 6 < 9 by decide)
        refine ev_aload_n dL_law_2077 rfl ?_
        refine ev_alx dL_law_2078 rfl ?_
        refine ev_iload dL_law_2079 rfl ?_
        refine ev_iconst dL_law_2081 ?_
        refine ev_iadd dL_law_2082 (by unfold ir; omega) ?_
        refine ev_sld dL_law_2083 ho (by omega) (by omega) ?_
        refine ev_cvi dL_law_2084 lL_251 hC2 hd2 hS1.2.1 (by have := hS1.2.2.2.2; omega) rfl rfl rfl (Nat.le_of_ble_eq_true rfl) rfl (fun b2 h2 q => ?_)
        obtain ⟨hR2, hS2, hT, hV, hJ2⟩ := q
        refine ev_rng (fun hL hSt hRg => ?_)
        have hbr : ir b2 := SR_hi hSt
        refine ev_ist7 dL_law_2087 ?_ (show 7 < 9 by decide)
        refine ev_aload_n dL_law_2089 rfl ?_
        refine ev_cvi dL_law_2090 lL_148 (s_thrown hR2) (by decide) hS2.2.1 (by have := hS2.2.2.2.2; omega) rfl rfl rfl (Nat.le_of_ble_eq_true rfl) rfl (fun r h3 q => ?_)
        obtain ⟨rfl, rfl⟩ := q
        refine ev_iload dL_law_2093 rfl ?_
        refine ev_icmpeq 2100 dL_law_2095 (fun hcc => ?_) (fun h_no => (by exfalso; exact h_no hT))
        refine ev_iload dL_law_2100 rfl ?_
        refine ev_ifne 2117 dL_law_2102 (fun hk0 => ?_) (fun hk0 => ?_)
        · refine ev_gt 2408 dL_law_2117 ?_
          exact nxt _ _ _ _ hJ2 ⟨hS2, hR2⟩
        · have hv := hV hk0
          refine ev_aload_n dL_law_2105 rfl ?_
          refine ev_iconst dL_law_2106 ?_
          refine ev_lald dL_law_2107 hS2.2.2.1 (by have := hS2.2.2.2.2; omega) rfl (by omega) (by omega) ?_
          refine ev_iload dL_law_2108 rfl ?_
          refine ev_i2l dL_law_2110 ?_
          refine ev_lcmp dL_law_2111 (show ir (h3.vl 92 0) from by rw [hv]; exact hbr) hbr ?_
          refine ev_ifeq 2117 dL_law_2112 (fun hcc => ?_) (fun h_no => (by exfalso; exact h_no (cmpI_0.mpr hv)))
          refine ev_gt 2408 dL_law_2117 ?_
          exact nxt _ _ _ _ hJ2 ⟨hS2, hR2⟩
      by_cases hc32 : c = 32
      · subst hc32
        refine ev_tsI 2120 (2076) dL_law_44 (by omega) (by omega) rfl ?_
        obtain ⟨d1, hd1, hC⟩ := hA.2.2.2.2.2.2.2.2.2.2.2.2.2.2.2.2.2.2.2.2.2.2.2.2.2.2.2.2.2.2.2.2.1 (xs (i + 1).toNat).toInt (i32_ir _)
        refine ev_aload_n dL_law_2120 rfl ?_
        refine ev_alx dL_law_2121 rfl ?_
        refine ev_iload dL_law_2122 rfl ?_
        refine ev_iconst dL_law_2124 ?_
        refine ev_iadd dL_law_2125 (by unfold ir; omega) ?_
        refine ev_sld dL_law_2126 ho (by omega) (by omega) ?_
        refine ev_aload_n dL_law_2127 rfl ?_
        refine ev_callsH dL_law_2128 lL_252 hC hd1 rfl rfl (Nat.le_of_ble_eq_true rfl) (fun kk h1 q => ?_)
        obtain ⟨hS1, d2, hd2, hC2⟩ := q
        refine ev_ist6 dL_law_2131 ?_ (show 6 < 9 by decide)
        refine ev_aload_n dL_law_2133 rfl ?_
        refine ev_alx dL_law_2134 rfl ?_
        refine ev_iload dL_law_2135 rfl ?_
        refine ev_iconst dL_law_2137 ?_
        refine ev_iadd dL_law_2138 (by unfold ir; omega) ?_
        refine ev_sld dL_law_2139 ho (by omega) (by omega) ?_
        refine ev_cvi dL_law_2140 lL_254 hC2 hd2 hS1.2.1 (by have := hS1.2.2.2.2; omega) rfl rfl rfl (Nat.le_of_ble_eq_true rfl) rfl (fun b2 h2 q => ?_)
        obtain ⟨hR2, hS2, hT, hV, hJ2⟩ := q
        refine ev_rng (fun hL hSt hRg => ?_)
        have hbr : ir b2 := SR_hi hSt
        refine ev_ist7 dL_law_2143 ?_ (show 7 < 9 by decide)
        refine ev_aload_n dL_law_2145 rfl ?_
        refine ev_cvi dL_law_2146 lL_148 (s_thrown hR2) (by decide) hS2.2.1 (by have := hS2.2.2.2.2; omega) rfl rfl rfl (Nat.le_of_ble_eq_true rfl) rfl (fun r h3 q => ?_)
        obtain ⟨rfl, rfl⟩ := q
        refine ev_iload dL_law_2149 rfl ?_
        refine ev_icmpeq 2156 dL_law_2151 (fun hcc => ?_) (fun h_no => (by exfalso; exact h_no hT))
        refine ev_iload dL_law_2156 rfl ?_
        refine ev_ifne 2173 dL_law_2158 (fun hk0 => ?_) (fun hk0 => ?_)
        · refine ev_gt 2408 dL_law_2173 ?_
          exact nxt _ _ _ _ hJ2 ⟨hS2, hR2⟩
        · have hv := hV hk0
          refine ev_aload_n dL_law_2161 rfl ?_
          refine ev_iconst dL_law_2162 ?_
          refine ev_lald dL_law_2163 hS2.2.2.1 (by have := hS2.2.2.2.2; omega) rfl (by omega) (by omega) ?_
          refine ev_iload dL_law_2164 rfl ?_
          refine ev_i2l dL_law_2166 ?_
          refine ev_lcmp dL_law_2167 (show ir (h3.vl 92 0) from by rw [hv]; exact hbr) hbr ?_
          refine ev_ifeq 2173 dL_law_2168 (fun hcc => ?_) (fun h_no => (by exfalso; exact h_no (cmpI_0.mpr hv)))
          refine ev_gt 2408 dL_law_2173 ?_
          exact nxt _ _ _ _ hJ2 ⟨hS2, hR2⟩
      by_cases hc33 : c = 33
      · subst hc33
        refine ev_tsI 2176 (2132) dL_law_44 (by omega) (by omega) rfl ?_
        obtain ⟨d1, hd1, hC⟩ := hA.2.2.2.2.2.2.2.2.2.2.2.2.2.2.2.2.2.2.2.2.2.2.2.2.2.2.2.2.2.2.2.2.2.1 
        refine ev_aload_n dL_law_2176 rfl ?_
        refine ev_aload dL_law_2177 rfl ?_
        refine ev_callsH dL_law_2179 lL_255 hC hd1 rfl rfl (Nat.le_of_ble_eq_true rfl) (fun kk h1 q => ?_)
        obtain ⟨hS1, d2, hd2, hC2⟩ := q
        refine ev_ist6 dL_law_2182 ?_ (show 6 < 9 by decide)
        refine ev_aload_n dL_law_2184 rfl ?_
        refine ev_callv dL_law_2185 lL_258 hC2 hd2 (by decide) (by have := hS1.2.2.2.2; omega) hS1.2.1 rfl rfl (Nat.le_of_ble_eq_true rfl) rfl (fun o h2 q => ?_) (Or.inr q_2408)
        obtain ⟨w, rfl, hR2, hS2, hT, hV, hJ2⟩ := q
        refine ⟨fun e => absurd (show (4 : Nat) = 7 from e) (by decide), fun _ => ?_⟩
        show EV _ _ _ _ (dv w :: _) _ _
        refine ev_dstx dL_law_2188 ?_ (Nat.le_of_ble_eq_true rfl) (Nat.le_of_ble_eq_true rfl)
        refine ev_aload_n dL_law_2190 rfl ?_
        refine ev_cvi dL_law_2191 lL_148 (s_thrown hR2) (by decide) hS2.2.1 (by have := hS2.2.2.2.2; omega) rfl rfl rfl (Nat.le_of_ble_eq_true rfl) rfl (fun r h3 q => ?_)
        obtain ⟨rfl, rfl⟩ := q
        refine ev_iload dL_law_2194 rfl ?_
        refine ev_icmpeq 2201 dL_law_2196 (fun hcc => ?_) (fun h_no => (by exfalso; exact h_no hT))
        refine ev_iload dL_law_2201 rfl ?_
        refine ev_ifne 2238 dL_law_2203 (fun hk0 => ?_) (fun hk0 => ?_)
        · refine ev_gt 2408 dL_law_2238 ?_
          exact nxt _ _ _ _ hJ2 ⟨hS2, hR2⟩
        · obtain ⟨hv, hz⟩ := hV hk0
          refine ev_aload dL_law_2206 rfl ?_
          refine ev_iconst dL_law_2208 ?_
          refine ev_dald dL_law_2209 hS2.2.2.2.1 (by have := hS2.2.2.2.2; omega) rfl (by decide) (by decide) hv ?_
          refine ev_dld dL_law_2210 rfl ?_
          refine ev_dcmp dL_law_2212 ?_
          refine ev_ifeq 2238 dL_law_2213 (fun hcc => ?_) (fun h_no => (by exfalso; exact h_no hz))
          refine ev_gt 2408 dL_law_2238 ?_
          exact nxt _ _ _ _ hJ2 ⟨hS2, hR2⟩
      by_cases hc34 : c = 34
      · subst hc34
        refine ev_tsI 2241 (2197) dL_law_44 (by omega) (by omega) rfl ?_
        obtain ⟨d1, hd1, hC⟩ := hA.2.2.2.2.2.2.2.2.2.2.2.2.2.2.2.2.2.2.2.2.2.2.2.2.2.2.2.2.2.2.2.2.2.2.1 
        refine ev_aload_n dL_law_2241 rfl ?_
        refine ev_aload dL_law_2242 rfl ?_
        refine ev_callsH dL_law_2244 lL_259 hC hd1 rfl rfl (Nat.le_of_ble_eq_true rfl) (fun kk h1 q => ?_)
        obtain ⟨hS1, d2, hd2, hC2⟩ := q
        refine ev_ist6 dL_law_2247 ?_ (show 6 < 9 by decide)
        refine ev_aload_n dL_law_2249 rfl ?_
        refine ev_callv dL_law_2250 lL_261 hC2 hd2 (by decide) (by have := hS1.2.2.2.2; omega) hS1.2.1 rfl rfl (Nat.le_of_ble_eq_true rfl) rfl (fun o h2 q => ?_) (Or.inr q_2412)
        obtain ⟨w, rfl, hR2, hS2, hT, hV, hJ2⟩ := q
        refine ⟨fun e => absurd (show (3 : Nat) = 7 from e) (by decide), fun _ => ?_⟩
        show EV _ _ _ _ (fv w :: _) _ _
        refine ev_fstx dL_law_2253 ?_ (Nat.le_of_ble_eq_true rfl)
        refine ev_aload_n dL_law_2255 rfl ?_
        refine ev_cvi dL_law_2256 lL_148 (s_thrown hR2) (by decide) hS2.2.1 (by have := hS2.2.2.2.2; omega) rfl rfl rfl (Nat.le_of_ble_eq_true rfl) rfl (fun r h3 q => ?_)
        obtain ⟨rfl, rfl⟩ := q
        refine ev_iload dL_law_2259 rfl ?_
        refine ev_icmpeq 2266 dL_law_2261 (fun hcc => ?_) (fun h_no => (by exfalso; exact h_no hT))
        refine ev_iload dL_law_2266 rfl ?_
        refine ev_ifne 2304 dL_law_2268 (fun hk0 => ?_) (fun hk0 => ?_)
        · refine ev_gt 2408 dL_law_2304 ?_
          exact nxt _ _ _ _ hJ2 ⟨hS2, hR2⟩
        · obtain ⟨hne, hv, hz⟩ := hV hk0
          refine ev_aload dL_law_2271 rfl ?_
          refine ev_iconst dL_law_2273 ?_
          refine ev_dald dL_law_2274 hS2.2.2.2.1 (by have := hS2.2.2.2.2; omega) rfl (by decide) (by decide) hv ?_
          refine ev_fld dL_law_2275 rfl ?_
          refine ev_f2d dL_law_2277 hne ?_
          refine ev_dcmp dL_law_2278 ?_
          refine ev_ifeq 2304 dL_law_2279 (fun hcc => ?_) (fun h_no => (by exfalso; exact h_no hz))
          refine ev_gt 2408 dL_law_2304 ?_
          exact nxt _ _ _ _ hJ2 ⟨hS2, hR2⟩
      by_cases hc35 : c = 35
      · subst hc35
        refine ev_tsI 2307 (2263) dL_law_44 (by omega) (by omega) rfl ?_
        obtain ⟨d1, hd1, hC⟩ := hA.2.2.2.2.2.2.2.2.2.2.2.2.2.2.2.2.2.2.2.2.2.2.2.2.2.2.2.2.2.2.2.2.2.2.2.1 
        refine ev_aload_n dL_law_2307 rfl ?_
        refine ev_aload_n dL_law_2308 rfl ?_
        refine ev_callsH dL_law_2309 lL_262 hC hd1 rfl rfl (Nat.le_of_ble_eq_true rfl) (fun kk h1 q => ?_)
        obtain ⟨hS1, d2, hd2, hC2⟩ := q
        refine ev_ist6 dL_law_2312 ?_ (show 6 < 9 by decide)
        refine ev_aload_n dL_law_2314 rfl ?_
        refine ev_cvi dL_law_2315 lL_264 hC2 hd2 hS1.2.1 (by have := hS1.2.2.2.2; omega) rfl rfl rfl (Nat.le_of_ble_eq_true rfl) rfl (fun b2 h2 q => ?_)
        obtain ⟨hR2, hS2, hT, hV, hJ2⟩ := q
        refine ev_rng (fun hL hSt hRg => ?_)
        have hbr : ir b2 := SR_hi hSt
        refine ev_ist7 dL_law_2318 ?_ (show 7 < 9 by decide)
        refine ev_aload_n dL_law_2320 rfl ?_
        refine ev_cvi dL_law_2321 lL_148 (s_thrown hR2) (by decide) hS2.2.1 (by have := hS2.2.2.2.2; omega) rfl rfl rfl (Nat.le_of_ble_eq_true rfl) rfl (fun r h3 q => ?_)
        obtain ⟨rfl, rfl⟩ := q
        refine ev_iload dL_law_2324 rfl ?_
        refine ev_icmpeq 2331 dL_law_2326 (fun hcc => ?_) (fun h_no => (by exfalso; exact h_no hT))
        refine ev_iload dL_law_2331 rfl ?_
        refine ev_ifne 2348 dL_law_2333 (fun hk0 => ?_) (fun hk0 => ?_)
        · refine ev_gt 2408 dL_law_2348 ?_
          exact nxt _ _ _ _ hJ2 ⟨hS2, hR2⟩
        · have hv := hV hk0
          refine ev_aload_n dL_law_2336 rfl ?_
          refine ev_iconst dL_law_2337 ?_
          refine ev_lald dL_law_2338 hS2.2.2.1 (by have := hS2.2.2.2.2; omega) rfl (by omega) (by omega) ?_
          refine ev_iload dL_law_2339 rfl ?_
          refine ev_i2l dL_law_2341 ?_
          refine ev_lcmp dL_law_2342 (show ir (h3.vl 92 0) from by rw [hv]; exact hbr) hbr ?_
          refine ev_ifeq 2348 dL_law_2343 (fun hcc => ?_) (fun h_no => (by exfalso; exact h_no (cmpI_0.mpr hv)))
          refine ev_gt 2408 dL_law_2348 ?_
          exact nxt _ _ _ _ hJ2 ⟨hS2, hR2⟩
      by_cases hc36 : c = 36
      · subst hc36
        refine ev_tsI 2351 (2307) dL_law_44 (by omega) (by omega) rfl ?_
        obtain ⟨d1, hd1, hC⟩ := hA.2.2.2.2.2.2.2.2.2.2.2.2.2.2.2.2.2.2.2.2.2.2.2.2.2.2.2.2.2.2.2.2.2.2.2.2.1
        refine ev_aload_n dL_law_2351 rfl ?_
        refine ev_cvi dL_law_2352 lL_265 hC hd1 hS.1 (by have := hS.2.2.2.2; omega) rfl rfl rfl (Nat.le_of_ble_eq_true rfl) rfl (fun a h1 q => ?_)
        obtain ⟨hS1, d2, hd2, hC2⟩ := q
        refine ev_aload_n dL_law_2355 rfl ?_
        refine ev_cvi dL_law_2356 lL_268 hC2 hd2 hS1.2.1 (by have := hS1.2.2.2.2; omega) rfl rfl rfl (Nat.le_of_ble_eq_true rfl) rfl (fun b2 h2 q => ?_)
        obtain ⟨hT, hR2, hS2, hJ2⟩ := q
        refine ev_icmpeq 2408 dL_law_2359 (fun hcc => ?_) (fun h_no => (by exfalso; exact h_no hT))
        exact nxt _ _ _ _ hJ2 ⟨hS2, hR2⟩
      by_cases hc37 : c = 37
      · subst hc37
        refine ev_tsI 2364 (2320) dL_law_44 (by omega) (by omega) rfl ?_
        obtain ⟨d1, hd1, hC⟩ := hA.2.2.2.2.2.2.2.2.2.2.2.2.2.2.2.2.2.2.2.2.2.2.2.2.2.2.2.2.2.2.2.2.2.2.2.2.2.1 
        refine ev_aload_n dL_law_2364 rfl ?_
        refine ev_aload_n dL_law_2365 rfl ?_
        refine ev_callsH dL_law_2366 lL_269 hC hd1 rfl rfl (Nat.le_of_ble_eq_true rfl) (fun kk h1 q => ?_)
        obtain ⟨hS1, d2, hd2, hC2⟩ := q
        refine ev_ist6 dL_law_2369 ?_ (show 6 < 9 by decide)
        refine ev_aload_n dL_law_2371 rfl ?_
        refine ev_cvi dL_law_2372 lL_271 hC2 hd2 hS1.2.1 (by have := hS1.2.2.2.2; omega) rfl rfl rfl (Nat.le_of_ble_eq_true rfl) rfl (fun b2 h2 q => ?_)
        obtain ⟨hR2, hS2, hT, hV, hJ2⟩ := q
        refine ev_rng (fun hL hSt hRg => ?_)
        have hbr : ir b2 := SR_hi hSt
        refine ev_ist7 dL_law_2375 ?_ (show 7 < 9 by decide)
        refine ev_aload_n dL_law_2377 rfl ?_
        refine ev_cvi dL_law_2378 lL_148 (s_thrown hR2) (by decide) hS2.2.1 (by have := hS2.2.2.2.2; omega) rfl rfl rfl (Nat.le_of_ble_eq_true rfl) rfl (fun r h3 q => ?_)
        obtain ⟨rfl, rfl⟩ := q
        refine ev_iload dL_law_2381 rfl ?_
        refine ev_icmpeq 2388 dL_law_2383 (fun hcc => ?_) (fun h_no => (by exfalso; exact h_no hT))
        refine ev_iload dL_law_2388 rfl ?_
        refine ev_ifne 2405 dL_law_2390 (fun hk0 => ?_) (fun hk0 => ?_)
        · refine ev_gt 2408 dL_law_2405 ?_
          exact nxt _ _ _ _ hJ2 ⟨hS2, hR2⟩
        · have hv := hV hk0
          refine ev_aload_n dL_law_2393 rfl ?_
          refine ev_iconst dL_law_2394 ?_
          refine ev_lald dL_law_2395 hS2.2.2.1 (by have := hS2.2.2.2.2; omega) rfl (by omega) (by omega) ?_
          refine ev_iload dL_law_2396 rfl ?_
          refine ev_i2l dL_law_2398 ?_
          refine ev_lcmp dL_law_2399 (show ir (h3.vl 92 0) from by rw [hv]; exact hbr) hbr ?_
          refine ev_ifeq 2405 dL_law_2400 (fun hcc => ?_) (fun h_no => (by exfalso; exact h_no (cmpI_0.mpr hv)))
          refine ev_gt 2408 dL_law_2405 ?_
          exact nxt _ _ _ _ hJ2 ⟨hS2, hR2⟩
      refine ev_tsO 2408 dL_law_44 (by omega) ?_
      exact nxt _ _ _ _ hA.2.2.2.2.2.2.2.2.2.2.2.2.2.2.2.2.2.2.2.2.2.2.2.2.2.2.2.2.2.2.2.2.2.2.2.2.2.2 ⟨hS, hI⟩
/-- the law's start: the two objects, the rows for answers -/
def h00 : AH := (0, fun _ => (0, 0), fun _ _ => 0, 0, 0)
def hLaw : AH := ((eModel 42 (hT10.new (11, 82))).new (102, 1)).new (103, 1)
set_option maxRecDepth 100000 in
theorem law_all {b n : Nat} {xs : Nat → Int32} {J : Nat → AH → Prop} (hn : n ≤ 100000) (H : ∀ k h, 4 * k + 4 ≤ n → J k h → STR h ∧ RI h ∧ LAWH (J (k + 1)) h) (h0 : J 0 hLaw) (hB : STR hLaw ∧ RI hLaw) :
    EV (mLaw b n xs) 20 0 [(5, (b : Int)), uv, uv, uv, uv, uv, uv, uv, uv] [] h00 (LQ J n) := by
  refine ev_new dL_law_0 nL_8 ?_
  refine ev_dup dL_law_3 ?_
  refine ev_ci dL_law_4 lL_138 (as := []) (a := 0) (h := hT0) s_X10i (by decide) (by decide) rfl rfl (Nat.le_of_ble_eq_true rfl) rfl (fun h1 q => ?_)
  subst q
  refine ev_ast1 dL_law_7 ?_ (show 1 < 9 by decide)
  refine ev_new dL_law_8 nL_139 ?_
  refine ev_dup dL_law_11 ?_
  refine ev_ci dL_law_12 lL_141 (as := []) (a := 42) (h := hT10.new (11, 82)) (s_eModel (a := 42) rfl (by decide)) (by decide) (by decide) rfl rfl (Nat.le_of_ble_eq_true rfl) rfl (fun h1 q => ?_)
  subst q
  refine ev_ast2 dL_law_15 ?_ (show 2 < 9 by decide)
  refine ev_iconst dL_law_16 ?_
  refine ev_newl dL_law_17 (by decide) (by decide) ?_ q_al
  refine ev_ast3 dL_law_19 ?_ (show 3 < 9 by decide)
  refine ev_iconst dL_law_20 ?_
  refine ev_newd dL_law_21 (by decide) (by decide) ?_ q_ad
  refine ev_ast4 dL_law_23 ?_ (show 4 < 9 by decide)
  refine ev_iconst dL_law_25 ?_
  refine ev_ist5 dL_law_26 ?_ (show 5 < 9 by decide)
  exact law_loop hn H n 0 0 uv uv uv hLaw (by omega) (by omega) (by omega) h0 hB
