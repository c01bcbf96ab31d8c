/-! the start's facts, and the law's walk over the machine -/
theorem sel_priv {C : String} {y : MethodName} {s : State} {args : Array Value} {n : Nat} (hy : y.cls ≠ "java/lang/invoke/MethodHandle" ∧ y.cls ≠ "java/lang/invoke/VarHandle") (hins : (Cond.instantiable C n).before args s = true) (hpriv : (Cond.privateMethod y).before args s = true) (hinst : (Cond.instanceMethod y).before args s = true) (hsm : (Cond.sameMethod y.cls y.cls y.name y.desc).before args s = true) : (Cond.selects C y y).before args s = true := by
  obtain ⟨c, k, hc, hk, -, hniab, -, -⟩ := Cond.instantiable_spec hins
  obtain ⟨mk, methM, hnamed, hmethM, -, -⟩ := Cond.instanceMethod_spec hinst
  have hfound : s.methodFound? y.cls y.name y.desc = some mk := State.methodFound?_of_named hnamed hy
  obtain ⟨c2, ck2, r2, hc2, hck2, hni2, hf2, hn2⟩ := Cond.sameMethod_found hsm
  have hcls : mk.cls = c2 := Option.some.inj ((findClass_of_methodNamed hnamed).symm.trans hc2)
  have hsel : selectMethod {} s.vm c mk = .method mk := selectMethod_private hmethM (Cond.privateMethod_at hpriv mk methM hnamed hmethM)
  simp only [Cond.before, Cond.holds, Cond.value, hc, hfound, hnamed, hsel, hcls, hck2]
  simp; exact hni2
theorem gwx_J5_ensureCapacityInternal_d00df {s : State} {args : Array Value} (hts : ∀ w ∈ lw_tbl, w.before args s = true) : (Cond.selects RJ4 yJ5_ensureCapacityInternal_d00df yJ5_ensureCapacityInternal_d00df).before args s = true :=
  sel_priv (C := RJ4) (y := yJ5_ensureCapacityInternal_d00df) (n := 4) ⟨by decide, by decide⟩ (hts (.instantiable RJ4 4) (t_in_1 (List.mem_of_getElem? (i := 45) rfl))) (hts (.privateMethod yJ5_ensureCapacityInternal_d00df) (t_in_3 (List.mem_of_getElem? (i := 198) rfl))) (hts (.instanceMethod yJ5_ensureCapacityInternal_d00df) (t_in_3 (List.mem_of_getElem? (i := 199) rfl))) (hts (.sameMethod RJ5 RJ5 "ensureCapacityInternal" "(I)V") (t_in_10 (List.mem_of_getElem? (i := 120) rfl)))
theorem gwx_J5_newCapacity_0f7a4 {s : State} {args : Array Value} (hts : ∀ w ∈ lw_tbl, w.before args s = true) : (Cond.selects RJ4 yJ5_newCapacity_0f7a4 yJ5_newCapacity_0f7a4).before args s = true :=
  sel_priv (C := RJ4) (y := yJ5_newCapacity_0f7a4) (n := 4) ⟨by decide, by decide⟩ (hts (.instantiable RJ4 4) (t_in_1 (List.mem_of_getElem? (i := 45) rfl))) (hts (.privateMethod yJ5_newCapacity_0f7a4) (t_in_3 (List.mem_of_getElem? (i := 202) rfl))) (hts (.instanceMethod yJ5_newCapacity_0f7a4) (t_in_3 (List.mem_of_getElem? (i := 203) rfl))) (hts (.sameMethod RJ5 RJ5 "newCapacity" "(I)I") (t_in_10 (List.mem_of_getElem? (i := 121) rfl)))
theorem gw_all {s : State} {args : Array Value} (hts : ∀ w ∈ lw_tbl, w.before args s = true) : ∀ w ∈ gw, w.before args s = true := fun w hw => by
  rcases List.mem_append.mp hw with h | h
  · simp only [gwx, List.mem_cons, List.not_mem_nil, or_false] at h
    rcases h with rfl | rfl
    · exact gwx_J5_ensureCapacityInternal_d00df hts
    · exact gwx_J5_newCapacity_0f7a4 hts
  · exact hts w (List.mem_filter.mp h).1
theorem kc_all {s : State} {args : Array Value} (hg : ∀ w ∈ gw, w.before args s = true) : ∃ D : va_G, va_K D vwCl [] s := by
  have h : ∀ k : Nat, ∃ z : ClassId × (Nat → Nat), ∀ q, vwCl[k]? = some q → u_Kn s q.1 q.2.1 q.2.2 z.1 z.2 := by
    intro k
    match k with
    | 0 => obtain ⟨c, i, hh⟩ := u_known (C := RJ4) (T := TJ4) (N := 4) (n := 4) hg kc_J4.2.2.1 (hg _ q_200); exact ⟨(c, i), fun q hq => by cases hq; exact hh⟩
    | 1 => obtain ⟨c, i, hh⟩ := u_known (C := RX0) (T := TX0) (N := 14) (n := 14) hg kc_X0.2.2.1 (hg _ q_253); exact ⟨(c, i), fun q hq => by cases hq; exact hh⟩
    | 2 => obtain ⟨c, i, hh⟩ := u_known (C := RX1) (T := TX1) (N := 3) (n := 3) hg kc_X1.2.2.1 (hg _ q_426); exact ⟨(c, i), fun q hq => by cases hq; exact hh⟩
    | 3 => obtain ⟨c, i, hh⟩ := u_known (C := RX3) (T := TX3) (N := 4) (n := 4) hg kc_X3.2.2.1 (hg _ q_314); exact ⟨(c, i), fun q hq => by cases hq; exact hh⟩
    | 4 => obtain ⟨c, i, hh⟩ := u_known (C := RX4) (T := TX4) (N := 3) (n := 3) hg kc_X4.2.2.1 (hg _ q_1131); exact ⟨(c, i), fun q hq => by cases hq; exact hh⟩
    | 5 => obtain ⟨c, i, hh⟩ := u_known (C := RX5) (T := TX5) (N := 2) (n := 2) hg kc_X5.2.2.1 (hg _ q_383); exact ⟨(c, i), fun q hq => by cases hq; exact hh⟩
    | 6 => obtain ⟨c, i, hh⟩ := u_known (C := RX6) (T := TX6) (N := 5) (n := 5) hg kc_X6.2.2.1 (hg _ q_398); exact ⟨(c, i), fun q hq => by cases hq; exact hh⟩
    | 7 => obtain ⟨c, i, hh⟩ := u_known (C := RX7) (T := TX7) (N := 2) (n := 2) hg kc_X7.2.2.1 (hg _ q_605); exact ⟨(c, i), fun q hq => by cases hq; exact hh⟩
    | 8 => obtain ⟨c, i, hh⟩ := u_known (C := RX8) (T := TX8) (N := 4) (n := 4) hg kc_X8.2.2.1 (hg _ q_233); exact ⟨(c, i), fun q hq => by cases hq; exact hh⟩
    | 9 => obtain ⟨c, i, hh⟩ := u_known (C := RX9) (T := TX9) (N := 15) (n := 15) hg kc_X9.2.2.1 (hg _ q_259); exact ⟨(c, i), fun q hq => by cases hq; exact hh⟩
    | 10 => obtain ⟨c, i, hh⟩ := u_known (C := RX10) (T := TX10) (N := 13) (n := 13) hg kc_X10.2.2.1 (hg _ q_192); exact ⟨(c, i), fun q hq => by cases hq; exact hh⟩
    | 11 => obtain ⟨c, i, hh⟩ := u_known (C := RX11) (T := TX11) (N := 82) (n := 82) hg kc_X11.2.2.1 (hg _ q_1760); exact ⟨(c, i), fun q hq => by cases hq; exact hh⟩
    | k + 12 => exact ⟨(0, fun _ => 0), fun q hq => by simp [vwCl] at hq⟩
  obtain ⟨f, hf⟩ := Classical.axiomOfChoice h
  exact ⟨(fun k => (f k).1, fun k => (f k).2), fun k q hq => hf k q hq, fun k q hq => by simp at hq⟩
def lw_G : List Cond := flatC (Jvm.Cond.and given_1 narrow_1)
def lw_need : List Cond := [.eq (.static "java/lang/String" "COMPACT_STRINGS" "Z") (.int 1), .isRef (.static Bundle.tN "UNASSIGNED_STACK" Bundle.steD), .isRef (.static Bundle.tN "SUPPRESSED_SENTINEL" Bundle.listD), .exactly (.string "TypeTutor" 78) "java/lang/String", .exactly (.string "TypeTutor" 92) "java/lang/String", .exactly (.string "TypeTutor" 114) "java/lang/String", .exactly (.string "TypeTutor" 119) "java/lang/String", .exactly (.string "TypeTutor" 124) "java/lang/String", .exactly (.string "TypeTutor" 137) "java/lang/String", .exactly (.string "TypeTutor" 144) "java/lang/String", .exactly (.string "TypeTutor" 147) "java/lang/String", .exactly (.string "TypeTutor" 149) "java/lang/String", .exactly (.string "TypeTutor" 158) "java/lang/String", .exactly (.string "TypeTutor" 160) "java/lang/String", .exactly (.string "TypeTutor" 186) "java/lang/String", .exactly (.string "TypeTutor" 208) "java/lang/String", .exactly (.string "TypeTutor" 227) "java/lang/String", .exactly (.string "TypeTutor" 232) "java/lang/String", .exactly (.string "TypeTutor" 234) "java/lang/String", .exactly (.string "TypeTutor" 239) "java/lang/String", .exactly (.string "TypeTutor" 248) "java/lang/String", .exactly (.string "TypeTutor" 267) "java/lang/String", .exactly (.string "TypeTutor" 269) "java/lang/String", .exactly (.string "TypeTutor" 274) "java/lang/String", .exactly (.string "TypeTutor" 286) "java/lang/String", .exactly (.string "TypeTutor" 294) "java/lang/String", .exactly (.string "TypeTutor" 320) "java/lang/String", .exactly (.string "TypeTutor" 325) "java/lang/String", .exactly (.string "TypeTutor" 327) "java/lang/String", .exactly (.string "TypeTutor" 336) "java/lang/String", .exactly (.string "TypeTutor" 358) "java/lang/String", .exactly (.string "TypeTutor" 363) "java/lang/String", .exactly (.string "TypeTutor" 365) "java/lang/String", .exactly (.string "TypeTutor" 367) "java/lang/String", .exactly (.string "TypeTutor" 369) "java/lang/String"] ++ (List.range 6).flatMap (fun (i : Nat) => ((List.range 6).filter (fun (j : Nat) => j != i)).map (fun (j : Nat) => Cond.not (.castable (xn (i : Int)) (xn (j : Int)))))
theorem lw_need_in : ∀ w ∈ lw_need, w ∈ lw_G := fun w hw => by
  have h : lw_need.all (fun w => decide (w ∈ lw_G)) = true := by decide +kernel
  exact of_decide_eq_true (List.all_eq_true.mp h w hw)
theorem st_ref {args : Array Value} {s : State} {own : String} {k : Nat} {C : String} (h : (Cond.exactly (.string own k) C).before args s = true) : ∃ a, (Term.string own k).eval args s none [] s = some (.ref a) := by
  cases hv : (Term.string own k).eval args s none [] s with
  | none => simp [Cond.before, Cond.holds, Cond.value, hv] at h
  | some w =>
    cases w with
    | ref a => exact ⟨a, rfl⟩
    | _ => cases hc : s.vm.findClass C <;> simp [Cond.before, Cond.holds, Cond.value, hv, hc] at h
theorem txts_all {args : Array Value} {s : State} (hts : ∀ w ∈ lw_tbl, w.before args s = true) (hgv : ∀ w ∈ lw_need, w.before args s = true) : ∀ q ∈ txts, ∃ a, vk_R q.1 q.2.1 q.2.2 a s := by
  intro q hq
  simp only [txts, List.mem_cons, List.not_mem_nil, or_false] at hq
  rcases hq with rfl | rfl | rfl | rfl | rfl | rfl | rfl | rfl | rfl | rfl | rfl | rfl | rfl | rfl | rfl | rfl | rfl | rfl | rfl | rfl | rfl | rfl | rfl | rfl | rfl | rfl | rfl | rfl | rfl | rfl | rfl | rfl
  · obtain ⟨a, ha⟩ := st_ref (hgv _ (List.mem_append_left _ (List.mem_of_getElem? (i := 3) rfl)))
    exact ⟨a, vk_R.of (hts (.stringRef "TypeTutor" 78 "the term has a fault") (t_in_5 (List.mem_of_getElem? (i := 9) rfl))) ha⟩
  · obtain ⟨a, ha⟩ := st_ref (hgv _ (List.mem_append_left _ (List.mem_of_getElem? (i := 4) rfl)))
    exact ⟨a, vk_R.of (hts (.stringRef "TypeTutor" 92 "there are as many lessons as there can be") (t_in_5 (List.mem_of_getElem? (i := 43) rfl))) ha⟩
  · obtain ⟨a, ha⟩ := st_ref (hgv _ (List.mem_append_left _ (List.mem_of_getElem? (i := 5) rfl)))
    exact ⟨a, vk_R.of (hts (.stringRef "TypeTutor" 114 "the lesson can't be dropped") (t_in_5 (List.mem_of_getElem? (i := 136) rfl))) ha⟩
  · obtain ⟨a, ha⟩ := st_ref (hgv _ (List.mem_append_left _ (List.mem_of_getElem? (i := 6) rfl)))
    exact ⟨a, vk_R.of (hts (.stringRef "TypeTutor" 119 "the type can't be kept") (t_in_5 (List.mem_of_getElem? (i := 183) rfl))) ha⟩
  · obtain ⟨a, ha⟩ := st_ref (hgv _ (List.mem_append_left _ (List.mem_of_getElem? (i := 7) rfl)))
    exact ⟨a, vk_R.of (hts (.stringRef "TypeTutor" 124 "the capital can't be emptied") (t_in_5 (List.mem_of_getElem? (i := 200) rfl))) ha⟩
  · obtain ⟨a, ha⟩ := st_ref (hgv _ (List.mem_append_left _ (List.mem_of_getElem? (i := 8) rfl)))
    exact ⟨a, vk_R.of (hts (.stringRef "TypeTutor" 137 "there is no such number of a node") (t_in_6 (List.mem_of_getElem? (i := 1) rfl))) ha⟩
  · obtain ⟨a, ha⟩ := st_ref (hgv _ (List.mem_append_left _ (List.mem_of_getElem? (i := 9) rfl)))
    exact ⟨a, vk_R.of (hts (.stringRef "TypeTutor" 144 "an application has no sign") (t_in_6 (List.mem_of_getElem? (i := 20) rfl))) ha⟩
  · obtain ⟨a, ha⟩ := st_ref (hgv _ (List.mem_append_left _ (List.mem_of_getElem? (i := 10) rfl)))
    exact ⟨a, vk_R.of (hts (.stringRef "TypeTutor" 147 "nothing binds this node") (t_in_6 (List.mem_of_getElem? (i := 34) rfl))) ha⟩
  · obtain ⟨a, ha⟩ := st_ref (hgv _ (List.mem_append_left _ (List.mem_of_getElem? (i := 11) rfl)))
    exact ⟨a, vk_R.of (hts (.stringRef "TypeTutor" 149 "the node is neither a function nor a let") (t_in_6 (List.mem_of_getElem? (i := 42) rfl))) ha⟩
  · obtain ⟨a, ha⟩ := st_ref (hgv _ (List.mem_append_left _ (List.mem_of_getElem? (i := 12) rfl)))
    exact ⟨a, vk_R.of (hts (.stringRef "TypeTutor" 158 "there is no such number of a failure") (t_in_6 (List.mem_of_getElem? (i := 68) rfl))) ha⟩
  · obtain ⟨a, ha⟩ := st_ref (hgv _ (List.mem_append_left _ (List.mem_of_getElem? (i := 13) rfl)))
    exact ⟨a, vk_R.of (hts (.stringRef "TypeTutor" 160 "the lesson has a type") (t_in_6 (List.mem_of_getElem? (i := 69) rfl))) ha⟩
  · obtain ⟨a, ha⟩ := st_ref (hgv _ (List.mem_append_left _ (List.mem_of_getElem? (i := 14) rfl)))
    exact ⟨a, vk_R.of (hts (.stringRef "TypeTutor" 186 "the second way goes through too many nodes") (t_in_6 (List.mem_of_getElem? (i := 109) rfl))) ha⟩
  · obtain ⟨a, ha⟩ := st_ref (hgv _ (List.mem_append_left _ (List.mem_of_getElem? (i := 15) rfl)))
    exact ⟨a, vk_R.of (hts (.stringRef "TypeTutor" 208 "the lessons do not fit") (t_in_6 (List.mem_of_getElem? (i := 159) rfl))) ha⟩
  · obtain ⟨a, ha⟩ := st_ref (hgv _ (List.mem_append_left _ (List.mem_of_getElem? (i := 16) rfl)))
    exact ⟨a, vk_R.of (hts (.stringRef "TypeTutor" 227 "no lesson has a type") (t_in_6 (List.mem_of_getElem? (i := 185) rfl))) ha⟩
  · obtain ⟨a, ha⟩ := st_ref (hgv _ (List.mem_append_left _ (List.mem_of_getElem? (i := 17) rfl)))
    exact ⟨a, vk_R.of (hts (.stringRef "TypeTutor" 232 "there is no such place") (t_in_6 (List.mem_of_getElem? (i := 201) rfl))) ha⟩
  · obtain ⟨a, ha⟩ := st_ref (hgv _ (List.mem_append_left _ (List.mem_of_getElem? (i := 18) rfl)))
    exact ⟨a, vk_R.of (hts (.stringRef "TypeTutor" 234 "no such character can be appended") (t_in_6 (List.mem_of_getElem? (i := 209) rfl))) ha⟩
  · obtain ⟨a, ha⟩ := st_ref (hgv _ (List.mem_append_left _ (List.mem_of_getElem? (i := 19) rfl)))
    exact ⟨a, vk_R.of (hts (.stringRef "TypeTutor" 239 "the input is full") (t_in_6 (List.mem_of_getElem? (i := 210) rfl))) ha⟩
  · obtain ⟨a, ha⟩ := st_ref (hgv _ (List.mem_append_left _ (List.mem_of_getElem? (i := 20) rfl)))
    exact ⟨a, vk_R.of (hts (.stringRef "TypeTutor" 248 "the text has a fault") (t_in_7 (List.mem_of_getElem? (i := 5) rfl))) ha⟩
  · obtain ⟨a, ha⟩ := st_ref (hgv _ (List.mem_append_left _ (List.mem_of_getElem? (i := 21) rfl)))
    exact ⟨a, vk_R.of (hts (.stringRef "TypeTutor" 267 "an order is refused") (t_in_7 (List.mem_of_getElem? (i := 10) rfl))) ha⟩
  · obtain ⟨a, ha⟩ := st_ref (hgv _ (List.mem_append_left _ (List.mem_of_getElem? (i := 22) rfl)))
    exact ⟨a, vk_R.of (hts (.stringRef "TypeTutor" 269 "the depth is neither 0 nor 1") (t_in_7 (List.mem_of_getElem? (i := 18) rfl))) ha⟩
  · obtain ⟨a, ha⟩ := st_ref (hgv _ (List.mem_append_left _ (List.mem_of_getElem? (i := 23) rfl)))
    exact ⟨a, vk_R.of (hts (.stringRef "TypeTutor" 274 "there is no such reason") (t_in_7 (List.mem_of_getElem? (i := 19) rfl))) ha⟩
  · obtain ⟨a, ha⟩ := st_ref (hgv _ (List.mem_append_left _ (List.mem_of_getElem? (i := 24) rfl)))
    exact ⟨a, vk_R.of (hts (.stringRef "TypeTutor" 286 "the capital keeps nothing") (t_in_7 (List.mem_of_getElem? (i := 55) rfl))) ha⟩
  · obtain ⟨a, ha⟩ := st_ref (hgv _ (List.mem_append_left _ (List.mem_of_getElem? (i := 25) rfl)))
    exact ⟨a, vk_R.of (hts (.stringRef "TypeTutor" 294 "there is no such character") (t_in_7 (List.mem_of_getElem? (i := 83) rfl))) ha⟩
  · obtain ⟨a, ha⟩ := st_ref (hgv _ (List.mem_append_left _ (List.mem_of_getElem? (i := 26) rfl)))
    exact ⟨a, vk_R.of (hts (.stringRef "TypeTutor" 320 "there is no such account") (t_in_7 (List.mem_of_getElem? (i := 107) rfl))) ha⟩
  · obtain ⟨a, ha⟩ := st_ref (hgv _ (List.mem_append_left _ (List.mem_of_getElem? (i := 27) rfl)))
    exact ⟨a, vk_R.of (hts (.stringRef "TypeTutor" 325 "there are no lessons") (t_in_7 (List.mem_of_getElem? (i := 138) rfl))) ha⟩
  · obtain ⟨a, ha⟩ := st_ref (hgv _ (List.mem_append_left _ (List.mem_of_getElem? (i := 28) rfl)))
    exact ⟨a, vk_R.of (hts (.stringRef "TypeTutor" 327 "there is no change to undo") (t_in_7 (List.mem_of_getElem? (i := 146) rfl))) ha⟩
  · obtain ⟨a, ha⟩ := st_ref (hgv _ (List.mem_append_left _ (List.mem_of_getElem? (i := 29) rfl)))
    exact ⟨a, vk_R.of (hts (.stringRef "TypeTutor" 336 "nothing was saved") (t_in_7 (List.mem_of_getElem? (i := 159) rfl))) ha⟩
  · obtain ⟨a, ha⟩ := st_ref (hgv _ (List.mem_append_left _ (List.mem_of_getElem? (i := 30) rfl)))
    exact ⟨a, vk_R.of (hts (.stringRef "TypeTutor" 358 "there is no such lesson") (t_in_5 (List.mem_of_getElem? (i := 224) rfl))) ha⟩
  · obtain ⟨a, ha⟩ := st_ref (hgv _ (List.mem_append_left _ (List.mem_of_getElem? (i := 31) rfl)))
    exact ⟨a, vk_R.of (hts (.stringRef "TypeTutor" 363 "there is no such node") (t_in_6 (List.mem_of_getElem? (i := 0) rfl))) ha⟩
  · obtain ⟨a, ha⟩ := st_ref (hgv _ (List.mem_append_left _ (List.mem_of_getElem? (i := 32) rfl)))
    exact ⟨a, vk_R.of (hts (.stringRef "TypeTutor" 365 "there is no such number of a type") (t_in_6 (List.mem_of_getElem? (i := 81) rfl))) ha⟩
  · obtain ⟨a, ha⟩ := st_ref (hgv _ (List.mem_append_left _ (List.mem_of_getElem? (i := 33) rfl)))
    exact ⟨a, vk_R.of (hts (.stringRef "TypeTutor" 367 "there is no such capital") (t_in_6 (List.mem_of_getElem? (i := 177) rfl))) ha⟩
  · obtain ⟨a, ha⟩ := st_ref (hgv _ (List.mem_append_left _ (List.mem_of_getElem? (i := 34) rfl)))
    exact ⟨a, vk_R.of (hts (.stringRef "TypeTutor" 369 "the lesson has no type") (t_in_6 (List.mem_of_getElem? (i := 95) rfl))) ha⟩
def lw_dig (j : Nat) : Cond := .eq (.elem (.static "java/lang/Integer" "DigitOnes" "[B") (.int (Int32.ofNat j))) (.int (Int32.ofNat (48 + j % 10)))
def lw_need2 : List Cond := [.isRef (.static "jdk/internal/util/Preconditions" "SIOOBE_FORMATTER" "Ljava/util/function/BiFunction;"), .arrayOf (.static "java/lang/Integer" "DigitOnes" "[B") .byte, .eq (.length (.static "java/lang/Integer" "DigitOnes" "[B")) (.int 100)] ++ (List.range 100).map lw_dig
theorem lw_need2_in : ∀ w ∈ lw_need2, w ∈ lw_G := fun w hw => by
  have h : lw_need2.all (fun w => decide (w ∈ lw_G)) = true := by decide +kernel
  exact of_decide_eq_true (List.all_eq_true.mp h w hw)
theorem gs_start {args : Array Value} {s : State} {b L : Nat} {xs : Nat → Int32} (hts : ∀ w ∈ lw_tbl, w.before args s = true) (hgv : ∀ w ∈ lw_need, w.before args s = true) (hg2 : ∀ w ∈ lw_need2, w.before args s = true) (hX : va_X b L xs s s.heap) (hb : b < s.heap.size) : GS s.heap.size (b, L, xs) s s.heap := by
  have hA : ∀ a : Nat, a < s.heap.size → ¬ s.heap.size ≤ a := fun a h => Nat.not_le.mpr h
  have g : ∀ {w : Cond} {i : Nat}, lw_need[i]? = some w → w.before args s = true := fun h => hgv _ (List.mem_of_getElem? h)
  refine ⟨⟨vx_Zqof (hts (.laysStatic Bundle.tN "UNASSIGNED_STACK" Bundle.steD) (t_in_4 (List.mem_of_getElem? (i := 126) rfl))) (hts (.initialized Bundle.tN) (t_in_1 (List.mem_of_getElem? (i := 16) rfl))) (g (i := 1) rfl) hA, vx_Zqof (hts (.laysStatic Bundle.tN "SUPPRESSED_SENTINEL" Bundle.listD) (t_in_4 (List.mem_of_getElem? (i := 128) rfl))) (hts (.initialized Bundle.tN) (t_in_1 (List.mem_of_getElem? (i := 16) rfl))) (g (i := 2) rfl) hA,
    va_Zof (hts (.laysStatic "java/lang/String" "COMPACT_STRINGS" "Z") (t_in_1 (List.mem_of_getElem? (i := 54) rfl))) (hts (.initialized "java/lang/String") (t_in_1 (List.mem_of_getElem? (i := 4) rfl))) (va_eqi (g (i := 0) rfl)) hA, ?_, ?_, ?_, ?_⟩, ⟨hX, hb, hb⟩, fun w hw hn => va_Nw.of (nw_tab hn) (hts w hw), txts_all hts hgv⟩
  · intro i j hi hj hn
    refine va_Nc.of (args := args) (hgv _ (List.mem_append_right _ ?_))
    exact List.mem_flatMap.mpr ⟨i, List.mem_range.mpr hi, List.mem_map.mpr ⟨j, List.mem_filter.mpr ⟨List.mem_range.mpr hj, bne_iff_ne.mpr (fun e => hn e.symm)⟩, rfl⟩⟩
  · intro C hC
    simp only [List.mem_cons, List.not_mem_nil, or_false] at hC
    rcases hC with rfl | rfl | rfl
    · exact va_AO.of (A := args) (hts (.arrayOver (.object "TypeTutor$Shape")) (t_in_1 (List.mem_of_getElem? (i := 179) rfl)))
    · exact va_AO.of (A := args) (hts (.arrayOver (.object "TypeTutor$State")) (t_in_2 (List.mem_of_getElem? (i := 37) rfl)))
    · exact va_AO.of (A := args) (hts (.arrayOver (.object "TypeTutor$Term")) (t_in_2 (List.mem_of_getElem? (i := 9) rfl)))
  · exact va_AOA.of (A := args) (hts (.arrayOver (.array .int)) (t_in_5 (List.mem_of_getElem? (i := 60) rfl)))
  · refine ⟨vx_Zqof (hts (.laysStatic "jdk/internal/util/Preconditions" "SIOOBE_FORMATTER" "Ljava/util/function/BiFunction;") (t_in_3 (List.mem_of_getElem? (i := 125) rfl))) (hts (.initialized "jdk/internal/util/Preconditions") (t_in_1 (List.mem_of_getElem? (i := 15) rfl))) (hg2 _ (List.mem_append_left _ (List.mem_of_getElem? (i := 0) rfl))) hA, ?_⟩
    obtain ⟨t, ht, hT⟩ := va_Tof (tm := .static "java/lang/Integer" "DigitOnes" "[B") (ty := .byte) (N := 100) (f := fun j => .int (Int32.ofNat (48 + j % 10))) (by decide) (hg2 _ (List.mem_append_left _ (List.mem_of_getElem? (i := 1) rfl))) (va_eqt (hg2 _ (List.mem_append_left _ (List.mem_of_getElem? (i := 2) rfl)))) (fun j hj => va_eqt (hg2 (lw_dig j) (List.mem_append_right _ (List.mem_map.mpr ⟨j, List.mem_range.mpr hj, rfl⟩)))) hA
    exact ⟨t, va_Zof (hts (.laysStatic "java/lang/Integer" "DigitOnes" "[B") (t_in_4 (List.mem_of_getElem? (i := 59) rfl))) (hts (.initialized "java/lang/Integer") (t_in_1 (List.mem_of_getElem? (i := 26) rfl))) ht hA, hT⟩
