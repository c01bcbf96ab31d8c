/-! the class adds a node to the term that it reads -/
def AgC (k : Nat) (D : List Nat) (h : AH) (a : Nat) (S : Nat → Nat → Int) : Prop := ∀ c j, c < 8 → (j < k ∨ (j = k ∧ c ∈ D)) → h.vl (a + 2 + c) j = S c j
theorem AgC.pk {k c a : Nat} {D : List Nat} {h : AH} {S : Nat → Nat → Int} {x : Int} (g : AgC k D h a S) : AgC k (c :: D) (h.put (a + 2 + c) k x) a (pt7 S c k x) := fun b j h1 hj => by
  show (if a + 2 + b = a + 2 + c ∧ j = k then x else h.vl (a + 2 + b) j) = (if b = c ∧ j = k then x else S b j)
  by_cases e : b = c ∧ j = k
  · rw [if_pos e, if_pos ⟨by omega, e.2⟩]
  · rw [if_neg e, if_neg (by omega)]
    refine g b j h1 ?_
    rcases hj with hj | ⟨hj, hm⟩
    · exact Or.inl hj
    · rcases List.mem_cons.mp hm with hm | hm
      · exact absurd ⟨hm, hj⟩ e
      · exact Or.inr ⟨hj, hm⟩
theorem AgC.pl {k c i a : Nat} {D : List Nat} {h : AH} {S : Nat → Nat → Int} {x : Int} (g : AgC k D h a S) : AgC k D (h.put (a + 2 + c) i x) a (pt7 S c i x) := fun b j h1 hj => by
  show (if a + 2 + b = a + 2 + c ∧ j = i then x else h.vl (a + 2 + b) j) = (if b = c ∧ j = i then x else S b j)
  by_cases e : b = c ∧ j = i
  · rw [if_pos e, if_pos ⟨by omega, e.2⟩]
  · rw [if_neg e, if_neg (by omega)]
    exact g b j h1 hj
theorem AgC.ot {k b i a : Nat} {D : List Nat} {h : AH} {S : Nat → Nat → Int} {x : Int} (g : AgC k D h a S) (hb : b < a + 2) : AgC k D (h.put b i x) a S := fun c j h1 hj => by
  rw [AH.put_vl, if_neg (by omega)]
  exact g c j h1 hj
theorem n8_in : ∀ b, b < 8 → b ∈ [0, 1, 2, 3, 4, 5, 6, 7] := by decide
theorem AgC.nx {k a : Nat} {D : List Nat} {h : AH} {S : Nat → Nat → Int} (g : AgC k D h a S) (hD : [0, 1, 2, 3, 4, 5, 6, 7].all (fun c => decide (c ∈ D)) = true) : AgC (k + 1) [] h a S := fun b j h1 hj => by
  rcases hj with hj | ⟨-, hm⟩
  · refine g b j h1 ?_
    by_cases e : j = k
    · exact Or.inr ⟨e, of_decide_eq_true (List.all_eq_true.mp hD b (n8_in b h1))⟩
    · exact Or.inl (by omega)
  · exact nomatch hm
/-- a term whose rows came with it -/
def TmC (h : AH) (a N cnt : Nat) : Prop := TmI h a (a + 1) (fun k => a + 2 + k) N cnt
theorem TmC.ot {h : AH} {a N cnt b i : Nat} {x : Int} (hT : TmC h a N cnt) (hb : b ≠ a ∧ b ≠ a + 1) : TmC (h.put b i x) a N cnt := by
  obtain ⟨q1, ⟨q2, q3, q4⟩, q5, q6, q7⟩ := hT
  refine ⟨q1, ⟨?_, q3, q4⟩, fun k hk => ⟨?_, (q5 k hk).2⟩, ?_, q7⟩
  · rw [AH.put_vl, if_neg (by omega)]; exact q2
  · rw [AH.put_vl, if_neg (by omega)]; exact (q5 k hk).1
  · rw [AH.put_vl, if_neg (by omega)]; exact q6
theorem TmC.ct {h : AH} {a N cnt : Nat} (hT : TmC h a N cnt) (hc : cnt < 1000) : TmC (h.put a 1 ((cnt : Int) + 1)) a N (cnt + 1) := by
  obtain ⟨q1, ⟨q2, q3, q4⟩, q5, q6, q7, q8⟩ := hT
  refine ⟨q1, ⟨?_, q3, q4⟩, fun k hk => ⟨?_, (q5 k hk).2⟩, ?_, by omega, q8⟩
  · rw [AH.put_vl, if_neg (by omega)]; exact q2
  · rw [AH.put_vl, if_neg (by omega)]; exact (q5 k hk).1
  · rw [AH.put_vl, if_pos ⟨rfl, rfl⟩]; rfl
def WSt (h : AH) : List Int → Prop
  | [] => True
  | x :: s => h.vl 7 s.length = x ∧ WSt h s
theorem WSt.lo {h h1 : AH} : ∀ {o : List Int}, (∀ i, i < o.length → h1.vl 7 i = h.vl 7 i) → WSt h o → WSt h1 o
  | [], _, _ => trivial
  | x :: s, hk, ⟨a, b⟩ => ⟨(hk _ (Nat.lt_succ_self _)).trans a, WSt.lo (fun i hi => hk i (Nat.lt_succ_of_lt hi)) b⟩
def rdA (a : Nat) : List Nat := [7, a, a + 2, a + 3, a + 4, a + 5, a + 6, a + 7, a + 8, a + 9]
theorem rdA_c {a c : Nat} (h : c < 8) : a + 2 + c ∈ rdA a := by
  obtain rfl | rfl | rfl | rfl | rfl | rfl | rfl | rfl : c = 0 ∨ c = 1 ∨ c = 2 ∨ c = 3 ∨ c = 4 ∨ c = 5 ∨ c = 6 ∨ c = 7 := by omega
  all_goals simp [rdA]
theorem CIs_rd {a : Nat} (ha : 94 ≤ a) : CIs.all (fun q => decide (q.1 ∉ rdA a ∧ q ∉ [(5, 3)])) = true := by
  have h : ∀ q ∈ CIs, q.1 ≤ 40 ∧ q.1 ≠ 7 ∧ q ∉ [(5, 3)] := by decide
  refine List.all_eq_true.mpr (fun q hq => decide_eq_true ⟨?_, (h q hq).2.2⟩)
  have := h q hq
  simp only [rdA, List.mem_cons, List.not_mem_nil, or_false]
  omega
/-- a term on its way: rows stand up to k (row k: those in D), P is awaited -/
def RB (h0 h : AH) (a N cnt k : Nat) (D : List Nat) (S : Nat → Nat → Int) (P : List Int) (w : Nat) : Prop := CI h ∧ 94 ≤ a ∧ TmC h a N cnt ∧ AgC k D h a S ∧ KS h0 h (rdA a) [(5, 3)] ∧ WSt h P ∧ h.vl 5 3 = (w : Int)
section RBs
variable {h0 h : AH} {a N cnt k w : Nat} {D : List Nat} {S : Nat → Nat → Int} {P : List Int}
theorem RB.put (hB : RB h0 h a N cnt k D S P w) {b i : Nat} {x : Int} (hb : b ∈ rdA a) : CI (h.put b i x) := hB.1.ks (KS.rf.pa hb) (CIs_rd hB.2.1)
theorem RB.set (hB : RB h0 h a N cnt k D S P w) {c : Nat} {x : Int} (hc : c < 8) : RB h0 (h.put (a + 2 + c) k x) a N cnt k (c :: D) (pt7 S c k x) P w := by
  have q0 := hB.put (i := k) (x := x) (rdA_c hc)
  obtain ⟨q1, q2, q3, q4, q5, q6, q7⟩ := hB
  exact ⟨q0, q2, q3.ot (by omega), q4.pk, q5.pa (rdA_c hc), WSt.lo (fun i _ => by rw [AH.put_vl, if_neg (by omega)]) q6, by rw [AH.put_vl, if_neg (by omega)]; exact q7⟩
theorem RB.setl (hB : RB h0 h a N cnt k D S P w) {c i : Nat} {x : Int} (hc : c < 8) : RB h0 (h.put (a + 2 + c) i x) a N cnt k D (pt7 S c i x) P w := by
  have q0 := hB.put (i := i) (x := x) (rdA_c hc)
  obtain ⟨q1, q2, q3, q4, q5, q6, q7⟩ := hB
  exact ⟨q0, q2, q3.ot (by omega), q4.pl, q5.pa (rdA_c hc), WSt.lo (fun i _ => by rw [AH.put_vl, if_neg (by omega)]) q6, by rw [AH.put_vl, if_neg (by omega)]; exact q7⟩
theorem RB.ct (hB : RB h0 h a N cnt k D S P w) (hc : cnt < 1000) : RB h0 (h.put a 1 ((cnt : Int) + 1)) a N (cnt + 1) k D S P w := by
  have q0 := hB.put (b := a) (i := 1) (x := (cnt : Int) + 1) (by simp [rdA])
  obtain ⟨q1, q2, q3, q4, q5, q6, q7⟩ := hB
  exact ⟨q0, q2, q3.ct hc, q4.ot (by omega), q5.pa (by simp [rdA]), WSt.lo (fun i _ => by rw [AH.put_vl, if_neg (by omega)]) q6, by rw [AH.put_vl, if_neg (by omega)]; exact q7⟩
theorem RB.wc (hB : RB h0 h a N cnt k D S P w) {w' : Nat} {x : Int} (hx : x = (w' : Int)) : RB h0 (h.put 5 3 x) a N cnt k D S P w' := by
  obtain ⟨q1, q2, q3, q4, q5, q6, q7⟩ := hB
  exact ⟨q1.ks (A := rdA a) (F := [(5, 3)]) (KS.rf.pf (by decide)) (CIs_rd q2), q2, q3.ot (by omega), q4.ot (by omega), q5.pf (by decide), WSt.lo (fun i _ => by rw [AH.put_vl, if_neg (by omega)]) q6, by rw [AH.put_vl, if_pos ⟨rfl, rfl⟩]; exact hx⟩
theorem RB.pu (hB : RB h0 h a N cnt k D S P w) {x : Int} {i : Nat} (hi : i = P.length) : RB h0 (h.put 7 i x) a N cnt k D S (x :: P) w := by
  have q0 := hB.put (b := 7) (i := i) (x := x) (by simp [rdA])
  obtain ⟨q1, q2, q3, q4, q5, q6, q7⟩ := hB
  subst hi
  refine ⟨q0, q2, q3.ot (by omega), q4.ot (by omega), q5.pa (by simp [rdA]), ⟨by rw [AH.put_vl, if_pos ⟨rfl, rfl⟩], WSt.lo (fun i hi => by rw [AH.put_vl, if_neg (by omega)]) q6⟩, by rw [AH.put_vl, if_neg (by omega)]; exact q7⟩
theorem RB.po {p : Int} (hB : RB h0 h a N cnt k D S (p :: P) w) : RB h0 h a N cnt k D S P w := by
  obtain ⟨q1, q2, q3, q4, q5, q6, q7⟩ := hB
  exact ⟨q1, q2, q3, q4, q5, q6.2, q7⟩
theorem RB.nx (hB : RB h0 h a N cnt k D S P w) (hD : [0, 1, 2, 3, 4, 5, 6, 7].all (fun c => decide (c ∈ D)) = true) : RB h0 h a N cnt (k + 1) [] S P w := by
  obtain ⟨q1, q2, q3, q4, q5, q6, q7⟩ := hB
  exact ⟨q1, q2, q3, q4.nx hD, q5, q6, q7⟩
theorem RB.cg (hB : RB h0 h a N cnt k D S P w) {S' : Nat → Nat → Int} (e : S' = S) : RB h0 h a N cnt k D S' P w := by rw [e]; exact hB
set_option maxRecDepth 100000 in
theorem s_setB (hB : RB h0 h a N cnt k D S P w) {c : Nat} {x : Int} (hc : c < 8) (hk : k < N) : CV mX7_set 2 [rv a, iv (c : Int), iv (k : Int), iv x] h (on fun h1 => RB h0 h1 a N cnt k (c :: D) (pt7 S c k x) P w) := cv_mono (s_set hB.2.2.1 hc) fun o h1 q => by
  obtain ⟨rfl, rfl⟩ := q
  rw [if_pos (by omega)]
  exact ⟨rfl, hB.set hc⟩
set_option maxRecDepth 100000 in
theorem s_setBl (hB : RB h0 h a N cnt k D S P w) {c i : Nat} {x : Int} (hc : c < 8) (hk : i < N) : CV mX7_set 2 [rv a, iv (c : Int), iv (i : Int), iv x] h (on fun h1 => RB h0 h1 a N cnt k D (pt7 S c i x) P w) := cv_mono (s_set hB.2.2.1 hc) fun o h1 q => by
  obtain ⟨rfl, rfl⟩ := q
  rw [if_pos (by omega)]
  exact ⟨rfl, hB.setl hc⟩
set_option maxRecDepth 100000 in
theorem s_ofRB (hB : RB h0 h a N cnt k D S P w) {c i : Nat} (hc : c < 8) (hi : i < k) (hk : k ≤ cnt) (hN : k ≤ N) : CV mX7_of 2 [rv a, iv (c : Int), iv (i : Int)] h (oi fun r h1 => r = S c i ∧ h1 = h) := cv_mono (s_of hB.2.2.1 hc) fun o h1 q => by
  obtain ⟨r, rfl, rfl, rfl⟩ := q
  rw [if_pos (by omega)]
  exact ⟨_, rfl, hB.2.2.2.1 c i hc (Or.inl hi), rfl⟩
end RBs
/-- what is awaited when a node comes: nothing yet, or its parent first -/
def HdP (k : Nat) (P : List Int) (p : Int) : Prop := (k = 0 ∧ P = [] ∧ p = -1) ∨ (0 < k ∧ ∃ (p0 : Nat) (P1 : List Int), P = (p0 : Int) :: P1 ∧ p = (p0 : Int) ∧ p0 < k)
set_option maxRecDepth 100000 in
theorem s_addNode {h0 h : AH} {a N k : Nat} {S : Nat → Nat → Int} {P : List Int} {p x0 x1 x2 : Int} (hB : RB h0 h a N k k [] S P P.length) (hkN : k < N) (hk9 : k < 900) (hPl : P.length ≤ 200) (hp : HdP k P p) (hx : 0 ≤ x0 ∧ x0 ≤ 6) (hd : ∀ j, j < k → 0 ≤ S 4 j ∧ S 4 j ≤ (j : Int)) :
    CV mX8_addNode 3 [rv 5, rv a, iv x0, iv x1, iv x2] h (on fun h1 => RB h0 h1 a N (k + 1) (k + 1) [] (tcl (x0, x1, x2) k p S) (List.replicate (arN x0) (k : Int) ++ P.tail) (List.replicate (arN x0) (k : Int) ++ P.tail).length) := by
  refine cv_of cdX8_addNode ?_
  show EV _ _ 0 [rv 5, rv a, iv x0, iv x1, iv x2, uv, uv, uv, uv] [] h _
  obtain ⟨hp1, hp2⟩ : p < (k : Int) ∧ -1 ≤ p := by
    rcases hp with ⟨e1, e2, e3⟩ | ⟨e1, p0, P1, e2, e3, e4⟩ <;> omega
  have hPt : P.tail.length ≤ 200 := by rw [List.length_tail]; omega
  have p171 : ∀ (h3 : AH) (v6 : Int) (v7 v8 : AV) (S3 : Nat → Nat → Int), RB h0 h3 a N (k + 1) (k + 1) [] S3 P.tail P.tail.length → EV mX8_addNode 3 171 [rv 5, rv a, iv x0, iv x1, iv x2, iv (k : Int), iv v6, v7, v8] [] h3 (on fun h1 => RB h0 h1 a N (k + 1) (k + 1) [] S3 (List.replicate (arN x0) (k : Int) ++ P.tail) (List.replicate (arN x0) (k : Int) ++ P.tail).length) := by
    intro h3 v6 v7 v8 S3 B3
    obtain ⟨PP, hPP⟩ : ∃ PP, PP = List.replicate (arN x0) (k : Int) ++ P.tail := ⟨_, rfl⟩
    rw [← hPP]
    have hC3 := B3.1
    have w3 := B3.2.2.2.2.2.2
    have one : ∀ (h4 : AH) (P4 : List Int) (m : Nat) (v6 : Int) (i : Int), RB h0 h4 a N (k + 1) (k + 1) [] S3 P4 P4.length → P4.length ≤ 220 → 0 ≤ i → i < (m : Int) → m ≤ 2 → (∀ h5 : AH, RB h0 h5 a N (k + 1) (k + 1) [] S3 ((k : Int) :: P4) ((k : Int) :: P4).length → EV mX8_addNode 3 195 [rv 5, rv a, iv x0, iv x1, iv x2, iv (k : Int), iv v6, iv (m : Int), iv (i + 1)] [] h5 (on fun h1 => RB h0 h1 a N (k + 1) (k + 1) [] S3 PP PP.length)) → EV mX8_addNode 3 195 [rv 5, rv a, iv x0, iv x1, iv x2, iv (k : Int), iv v6, iv (m : Int), iv i] [] h4 (on fun h1 => RB h0 h1 a N (k + 1) (k + 1) [] S3 PP PP.length) := by
      intro h4 P4 m v6 i B4 hP4 hi0 hi hm kk
      have hC4 := B4.1
      have w4 := B4.2.2.2.2.2.2
      refine ev_iload dX8_addNode_195 rfl ?_
      refine ev_iload dX8_addNode_197 rfl ?_
      refine ev_icmpge 231 dX8_addNode_199 (fun h_no => (by exfalso; omega)) (fun hb => ?_)
      refine ev_aload_n dX8_addNode_202 rfl ?_
      refine ev_getrv dX8_addNode_203 fX8_15 hC4.k5 hC4.n5 rfl hC4.v5_2 ?_
      refine ev_aload_n dX8_addNode_206 rfl ?_
      refine ev_getiv dX8_addNode_207 fX8_73 hC4.k5 hC4.n5 rfl w4 ?_
      refine ev_iload dX8_addNode_210 rfl ?_
      refine ev_csv dX8_addNode_212 lX8_54 (s_putI hC4.k7 hC4.n7 (by decide)) (by decide) rfl rfl (Nat.le_of_ble_eq_true rfl) rfl (fun h5 q => ?_)
      rw [if_pos (by omega), show ((P4.length : Nat) : Int).toNat = P4.length from rfl] at q
      have B5 : RB h0 h5 a N (k + 1) (k + 1) [] S3 ((k : Int) :: P4) P4.length := by rw [q]; exact B4.pu rfl
      have hC5 := B5.1
      have w5 := B5.2.2.2.2.2.2
      refine ev_aload_n dX8_addNode_215 rfl ?_
      refine ev_dup dX8_addNode_216 ?_
      refine ev_getiv dX8_addNode_217 fX8_73 hC5.k5 hC5.n5 rfl w5 ?_
      refine ev_iconst dX8_addNode_220 ?_
      refine ev_iadd dX8_addNode_221 (by unfold ir; omega) ?_
      refine ev_pt dX8_addNode_222 fX8_73 hC5.k5 hC5.n5 rfl ?_
      refine ev_iin8 dX8_addNode_225 (by unfold ir; omega) ?_
      refine ev_gt 195 dX8_addNode_228 ?_
      exact kk _ (B5.wc (by simp only [List.length_cons]; omega))
    have fin : ∀ (h4 : AH) (m : Nat) (v6 : Int), RB h0 h4 a N (k + 1) (k + 1) [] S3 PP PP.length → EV mX8_addNode 3 195 [rv 5, rv a, iv x0, iv x1, iv x2, iv (k : Int), iv v6, iv (m : Int), iv (m : Int)] [] h4 (on fun h1 => RB h0 h1 a N (k + 1) (k + 1) [] S3 PP PP.length) := by
      intro h4 m v6 B4
      refine ev_iload dX8_addNode_195 rfl ?_
      refine ev_iload dX8_addNode_197 rfl ?_
      refine ev_icmpge 231 dX8_addNode_199 (fun hb => ?_) (fun h_no => (by exfalso; omega))
      exact ev_vret dX8_addNode_231 (⟨rfl, B4⟩)
    refine ev_iload_n dX8_addNode_171 rfl ?_
    refine ev_iconst dX8_addNode_172 ?_
    by_cases g4 : x0 < 4
    · skip
      refine ev_icmpge 180 dX8_addNode_173 (fun h_no => (by exfalso; omega)) (fun hb => ?_)
      refine ev_iconst dX8_addNode_176 ?_
      refine ev_gt 190 dX8_addNode_177 ?_
      refine ev_ist7 dX8_addNode_190 ?_
      refine ev_iconst dX8_addNode_192 ?_
      refine ev_ist8 dX8_addNode_193 ?_
      have ea : PP = P.tail := by rw [hPP, show arN x0 = 0 from if_pos g4]; rfl
      exact fin h3 0 v6 (by rw [ea]; exact B3)
    · skip
      refine ev_icmpge 180 dX8_addNode_173 (fun hb => ?_) (fun h_no => (by exfalso; omega))
      refine ev_iload_n dX8_addNode_180 rfl ?_
      refine ev_iconst dX8_addNode_181 ?_
      by_cases g5 : x0 = 4
      · skip
        refine ev_icmpne 189 dX8_addNode_182 (fun h_no => (by exfalso; omega)) (fun hb2 => ?_)
        refine ev_iconst dX8_addNode_185 ?_
        refine ev_gt 190 dX8_addNode_186 ?_
        refine ev_ist7 dX8_addNode_190 ?_
        refine ev_iconst dX8_addNode_192 ?_
        refine ev_ist8 dX8_addNode_193 ?_
        have ea : PP = (k : Int) :: P.tail := by rw [hPP, show arN x0 = 1 by rw [arN, if_neg g4, if_pos g5]]; rfl
        exact one h3 P.tail 1 v6 0 B3 (by omega) (by omega) (by omega) (by omega) (fun h5 B5 => fin h5 1 v6 (by rw [ea]; exact B5))
      · skip
        refine ev_icmpne 189 dX8_addNode_182 (fun hb2 => ?_) (fun h_no => (by exfalso; omega))
        refine ev_iconst dX8_addNode_189 ?_
        refine ev_ist7 dX8_addNode_190 ?_
        refine ev_iconst dX8_addNode_192 ?_
        refine ev_ist8 dX8_addNode_193 ?_
        have ea : PP = (k : Int) :: (k : Int) :: P.tail := by rw [hPP, show arN x0 = 2 by rw [arN, if_neg g4, if_neg g5]]; rfl
        exact one h3 P.tail 2 v6 0 B3 (by omega) (by omega) (by omega) (by omega) (fun h5 B5 => one h5 _ 2 v6 1 B5 (by simp only [List.length_cons]; omega) (by omega) (by omega) (by omega) (fun h6 B6 => fin h6 2 v6 (by rw [ea]; exact B6)))
  have p57 : ∀ (h2 : AH) (v6 v7 v8 : AV), RB h0 h2 a N (k + 1) k [] S P.tail P.tail.length → EV mX8_addNode 3 57 [rv 5, rv a, iv x0, iv x1, iv x2, iv (k : Int), v6, v7, v8] [iv p] h2 (on fun h1 => RB h0 h1 a N (k + 1) (k + 1) [] (tcl (x0, x1, x2) k p S) (List.replicate (arN x0) (k : Int) ++ P.tail) (List.replicate (arN x0) (k : Int) ++ P.tail).length) := by
    intro h2 v6 v7 v8 B0
    refine ev_ist6 dX8_addNode_57 ?_
    refine ev_aload_n dX8_addNode_59 rfl ?_
    refine ev_iconst dX8_addNode_60 ?_
    refine ev_iload dX8_addNode_61 rfl ?_
    refine ev_iload_n dX8_addNode_63 rfl ?_
    refine ev_cvv dX8_addNode_64 lX8_99 (s_setB (c := 0) B0 (by decide) hkN) (by decide) B0.2.2.1.1.1 B0.2.2.1.1.2 rfl rfl rfl (Nat.le_of_ble_eq_true rfl) rfl (fun h3 B1 => ?_)
    refine ev_aload_n dX8_addNode_67 rfl ?_
    refine ev_iconst dX8_addNode_68 ?_
    refine ev_iload dX8_addNode_69 rfl ?_
    refine ev_iload dX8_addNode_71 rfl ?_
    refine ev_cvv dX8_addNode_73 lX8_99 (s_setB (c := 1) B1 (by decide) hkN) (by decide) B1.2.2.1.1.1 B1.2.2.1.1.2 rfl rfl rfl (Nat.le_of_ble_eq_true rfl) rfl (fun h4 B2 => ?_)
    refine ev_aload_n dX8_addNode_76 rfl ?_
    refine ev_iconst dX8_addNode_77 ?_
    refine ev_iload dX8_addNode_78 rfl ?_
    refine ev_iconst dX8_addNode_80 ?_
    refine ev_cvv dX8_addNode_81 lX8_99 (s_setB (c := 2) B2 (by decide) hkN) (by decide) B2.2.2.1.1.1 B2.2.2.1.1.2 rfl rfl rfl (Nat.le_of_ble_eq_true rfl) rfl (fun h5 B3 => ?_)
    refine ev_aload_n dX8_addNode_84 rfl ?_
    refine ev_iconst dX8_addNode_85 ?_
    refine ev_iload dX8_addNode_86 rfl ?_
    refine ev_iconst dX8_addNode_88 ?_
    refine ev_cvv dX8_addNode_89 lX8_99 (s_setB (c := 3) B3 (by decide) hkN) (by decide) B3.2.2.1.1.1 B3.2.2.1.1.2 rfl rfl rfl (Nat.le_of_ble_eq_true rfl) rfl (fun h6 B4 => ?_)
    refine ev_aload_n dX8_addNode_92 rfl ?_
    refine ev_iconst dX8_addNode_93 ?_
    refine ev_iload dX8_addNode_94 rfl ?_
    refine ev_iload dX8_addNode_96 rfl ?_
    have p114 : EV mX8_addNode 3 114 [rv 5, rv a, iv x0, iv x1, iv x2, iv (k : Int), iv p, v7, v8] [iv (if p < 0 then 0 else S 4 p.toNat + 1), iv (k : Int), iv 4, rv a] h6 (on fun h1 => RB h0 h1 a N (k + 1) (k + 1) [] (tcl (x0, x1, x2) k p S) (List.replicate (arN x0) (k : Int) ++ P.tail) (List.replicate (arN x0) (k : Int) ++ P.tail).length) := by
      refine ev_cvv dX8_addNode_114 lX8_99 (s_setB (c := 4) B4 (by decide) hkN) (by decide) B4.2.2.1.1.1 B4.2.2.1.1.2 rfl rfl rfl (Nat.le_of_ble_eq_true rfl) rfl (fun h7 B5 => ?_)
      refine ev_aload_n dX8_addNode_117 rfl ?_
      refine ev_iconst dX8_addNode_118 ?_
      refine ev_iload dX8_addNode_119 rfl ?_
      refine ev_iload dX8_addNode_121 rfl ?_
      refine ev_cvv dX8_addNode_123 lX8_99 (s_setB (c := 5) B5 (by decide) hkN) (by decide) B5.2.2.1.1.1 B5.2.2.1.1.2 rfl rfl rfl (Nat.le_of_ble_eq_true rfl) rfl (fun h8 B6 => ?_)
      refine ev_aload_n dX8_addNode_126 rfl ?_
      refine ev_bipush dX8_addNode_127 ?_
      refine ev_iload dX8_addNode_129 rfl ?_
      refine ev_iload_n dX8_addNode_131 rfl ?_
      refine ev_cvv dX8_addNode_132 lX8_99 (s_setB (c := 6) B6 (by decide) hkN) (by decide) B6.2.2.1.1.1 B6.2.2.1.1.2 rfl rfl rfl (Nat.le_of_ble_eq_true rfl) rfl (fun h9 B7 => ?_)
      refine ev_aload_n dX8_addNode_135 rfl ?_
      refine ev_bipush dX8_addNode_136 ?_
      refine ev_iload dX8_addNode_138 rfl ?_
      refine ev_iconst dX8_addNode_140 ?_
      refine ev_cvv dX8_addNode_141 lX8_99 (s_setB (c := 7) B7 (by decide) hkN) (by decide) B7.2.2.1.1.1 B7.2.2.1.1.2 rfl rfl rfl (Nat.le_of_ble_eq_true rfl) rfl (fun h10 B8 => ?_)
      refine ev_iload dX8_addNode_144 rfl ?_
      have B9 := B8.nx (by decide)
      have e9 : pt7 (pt7 (pt7 (pt7 (pt7 (pt7 (pt7 (pt7 S 0 k x0) 1 k p) 2 k (-1)) 3 k (-1)) 4 k (if p < 0 then 0 else S 4 p.toNat + 1)) 5 k x2) 6 k x1) 7 k (-1) = tcl0 (x0, x1, x2) k p S := rfl
      by_cases k0 : k = 0
      · skip
        refine ev_ifle 171 dX8_addNode_146 (fun hb => ?_) (fun h_no => (by exfalso; omega))
        have e : tcl (x0, x1, x2) k p S = tcl0 (x0, x1, x2) k p S := by rw [tcl, if_pos (by omega)]
        rw [e]
        exact p171 h10 _ _ _ _ B9
      · skip
        refine ev_ifle 171 dX8_addNode_146 (fun h_no => (by exfalso; omega)) (fun hb => ?_)
        refine ev_aload_n dX8_addNode_149 rfl ?_
        refine ev_iload dX8_addNode_150 rfl ?_
        refine ev_iload dX8_addNode_152 rfl ?_
        refine ev_iconst dX8_addNode_154 ?_
        refine ev_iadd dX8_addNode_155 (by unfold ir; omega) ?_
        have hp0 : 0 ≤ p := by
          rcases hp with ⟨e1, e2, e3⟩ | ⟨e1, p0, P1, e2, e3, e4⟩ <;> omega
        obtain ⟨p0, e0⟩ : ∃ p0 : Nat, p = (p0 : Int) := ⟨p.toNat, by omega⟩
        by_cases g : (k : Int) = p + 1
        · skip
          refine ev_icmpne 163 dX8_addNode_156 (fun h_no => (by exfalso; omega)) (fun hb2 => ?_)
          refine ev_iconst dX8_addNode_159 ?_
          refine ev_gt 164 dX8_addNode_160 ?_
          refine ev_iload dX8_addNode_164 rfl ?_
          refine ev_iload dX8_addNode_166 rfl ?_
          subst e0
          refine ev_cvv dX8_addNode_168 lX8_99 (s_setBl (c := 2) (i := p0) B9 (by decide) (by omega)) (by decide) B9.2.2.1.1.1 B9.2.2.1.1.2 rfl rfl rfl (Nat.le_of_ble_eq_true rfl) rfl (fun h11 B10 => ?_)
          have e : tcl (x0, x1, x2) k (p0 : Int) S = pt7 (tcl0 (x0, x1, x2) k (p0 : Int) S) 2 p0 k := by rw [tcl, if_neg (by omega), if_pos g]; rfl
          rw [e]
          exact p171 h11 _ _ _ _ B10
        · skip
          refine ev_icmpne 163 dX8_addNode_156 (fun hb2 => ?_) (fun h_no => (by exfalso; omega))
          refine ev_iconst dX8_addNode_163 ?_
          refine ev_iload dX8_addNode_164 rfl ?_
          refine ev_iload dX8_addNode_166 rfl ?_
          subst e0
          refine ev_cvv dX8_addNode_168 lX8_99 (s_setBl (c := 3) (i := p0) B9 (by decide) (by omega)) (by decide) B9.2.2.1.1.1 B9.2.2.1.1.2 rfl rfl rfl (Nat.le_of_ble_eq_true rfl) rfl (fun h11 B10 => ?_)
          have e : tcl (x0, x1, x2) k (p0 : Int) S = pt7 (tcl0 (x0, x1, x2) k (p0 : Int) S) 3 p0 k := by rw [tcl, if_neg (by omega), if_neg g]; rfl
          rw [e]
          exact p171 h11 _ _ _ _ B10
    by_cases k0 : k = 0
    · skip
      refine ev_ifne 105 dX8_addNode_98 (fun h_no => (by exfalso; omega)) (fun hb => ?_)
      refine ev_iconst dX8_addNode_101 ?_
      refine ev_gt 114 dX8_addNode_102 ?_
      rw [if_pos (by omega)] at p114
      exact p114
    · skip
      refine ev_ifne 105 dX8_addNode_98 (fun hb => ?_) (fun h_no => (by exfalso; omega))
      refine ev_aload_n dX8_addNode_105 rfl ?_
      refine ev_iconst dX8_addNode_106 ?_
      refine ev_iload dX8_addNode_107 rfl ?_
      have hp0 : 0 ≤ p := by
        rcases hp with ⟨e1, e2, e3⟩ | ⟨e1, p0, P1, e2, e3, e4⟩ <;> omega
      rw [if_neg (by omega)] at p114
      obtain ⟨p0, e0⟩ : ∃ p0 : Nat, p = (p0 : Int) := ⟨p.toNat, by omega⟩
      have dd := hd p0 (by omega)
      subst e0
      have c8 : (pt7 (pt7 (pt7 (pt7 S 0 k x0) 1 k (p0 : Int)) 2 k (-1)) 3 k (-1)) 4 p0 = S 4 p0 := rfl
      refine ev_cvi dX8_addNode_109 lX8_103 (s_ofRB (c := 4) (i := p0) B4 (by decide) (by omega) (by omega) (by omega)) (by decide) B4.2.2.1.1.1 B4.2.2.1.1.2 rfl rfl rfl (Nat.le_of_ble_eq_true rfl) rfl (fun r z1 q => ?_)
      obtain ⟨rfl, e⟩ := q
      rw [e, c8]
      refine ev_iconst dX8_addNode_112 ?_
      refine ev_iadd dX8_addNode_113 (by unfold ir; omega) ?_
      exact p114
  have hC := hB.1
  have hw := hB.2.2.2.2.2.2
  refine ev_aload_n dX8_addNode_0 rfl ?_
  refine ev_getiv dX8_addNode_1 fX8_96 hB.2.2.1.1.1 hB.2.2.1.1.2 rfl hB.2.2.1.2.2.2.1 ?_
  refine ev_ist5 dX8_addNode_4 ?_
  refine ev_aload_n dX8_addNode_6 rfl ?_
  refine ev_dup dX8_addNode_7 ?_
  refine ev_getiv dX8_addNode_8 fX8_96 hB.2.2.1.1.1 hB.2.2.1.1.2 rfl hB.2.2.1.2.2.2.1 ?_
  refine ev_iconst dX8_addNode_11 ?_
  refine ev_iadd dX8_addNode_12 (by unfold ir; omega) ?_
  refine ev_pt dX8_addNode_13 fX8_96 hB.2.2.1.1.1 hB.2.2.1.1.2 rfl ?_
  obtain ⟨h1, e1⟩ : ∃ h1, h1 = h.put a 1 ((k : Int) + 1) := ⟨_, rfl⟩
  rw [← e1]
  have B1 : RB h0 h1 a N (k + 1) k [] S P P.length := by rw [e1]; exact hB.ct (by omega)
  have hC1 := B1.1
  have w1 := B1.2.2.2.2.2.2
  have p37 : ∀ (h2 : AH) (v6 v7 v8 : AV), RB h0 h2 a N (k + 1) k [] S P.tail P.tail.length → (0 < k → h2.vl 7 P.tail.length = p) → EV mX8_addNode 3 37 [rv 5, rv a, iv x0, iv x1, iv x2, iv (k : Int), v6, v7, v8] [] h2 (on fun h1 => RB h0 h1 a N (k + 1) (k + 1) [] (tcl (x0, x1, x2) k p S) (List.replicate (arN x0) (k : Int) ++ P.tail) (List.replicate (arN x0) (k : Int) ++ P.tail).length) := by
    intro h2 v6 v7 v8 B2 hv
    have hC2 := B2.1
    have w2 := B2.2.2.2.2.2.2
    refine ev_iload dX8_addNode_37 rfl ?_
    by_cases k0 : k = 0
    · skip
      have e : p = -1 := by
        rcases hp with ⟨e1, e2, e3⟩ | ⟨e1, p0, P1, e2, e3, e4⟩ <;> omega
      refine ev_ifne 46 dX8_addNode_39 (fun h_no => (by exfalso; omega)) (fun hb => ?_)
      refine ev_iconst dX8_addNode_42 ?_
      refine ev_gt 57 dX8_addNode_43 ?_
      have := p57 h2 v6 v7 v8 B2
      rw [e] at this ⊢
      exact this
    · skip
      refine ev_ifne 46 dX8_addNode_39 (fun hb => ?_) (fun h_no => (by exfalso; omega))
      refine ev_aload_n dX8_addNode_46 rfl ?_
      refine ev_getrv dX8_addNode_47 fX8_15 hC2.k5 hC2.n5 rfl hC2.v5_2 ?_
      refine ev_aload_n dX8_addNode_50 rfl ?_
      refine ev_getiv dX8_addNode_51 fX8_73 hC2.k5 hC2.n5 rfl w2 ?_
      refine ev_csi dX8_addNode_54 lX8_58 (s_atI hC2.k7 hC2.n7 (by decide)) (by decide) rfl rfl (Nat.le_of_ble_eq_true rfl) rfl (fun r z1 q => ?_)
      obtain ⟨rfl, e⟩ := q
      rw [e, if_pos (by omega), show ((P.tail.length : Nat) : Int).toNat = P.tail.length from rfl, hv (by omega)]
      exact p57 h2 v6 v7 v8 B2
  refine ev_aload_n dX8_addNode_16 rfl ?_
  refine ev_aload_n dX8_addNode_17 rfl ?_
  refine ev_getiv dX8_addNode_18 fX8_73 hC1.k5 hC1.n5 rfl w1 ?_
  rcases hp with ⟨g1, g2, g3⟩ | ⟨g1, p0, P1, g2, g3, g4⟩
  · skip
    subst g2
    refine ev_ifle 33 dX8_addNode_21 (fun hb => ?_) (fun h_no => (by exfalso; exact h_no (Int.le_refl 0)))
    refine ev_iconst dX8_addNode_33 ?_
    refine ev_pt dX8_addNode_34 fX8_73 hC1.k5 hC1.n5 rfl ?_
    exact p37 _ _ _ _ (B1.wc rfl) (fun z => absurd z (by omega))
  · skip
    subst g2
    have w1' : h1.vl 5 3 = (P1.length : Int) + 1 := w1
    refine ev_ifle 33 dX8_addNode_21 (fun h_no => (by exfalso; simp only [List.length_cons] at *; omega)) (fun hb => ?_)
    refine ev_aload_n dX8_addNode_24 rfl ?_
    refine ev_getiv dX8_addNode_25 fX8_73 hC1.k5 hC1.n5 rfl w1' ?_
    refine ev_iconst dX8_addNode_28 ?_
    refine ev_isub dX8_addNode_29 (by unfold ir; omega) ?_
    refine ev_gt 34 dX8_addNode_30 ?_
    refine ev_pt dX8_addNode_34 fX8_73 hC1.k5 hC1.n5 rfl ?_
    refine p37 _ _ _ _ (B1.po.wc (by show (P1.length : Int) + 1 - 1 = _; simp only [List.tail_cons]; omega)) (fun _ => ?_)
    rw [AH.put_vl, if_neg (by omega), g3]
    exact B1.2.2.2.2.2.1.1
