/-! why the printed start doesn't meet narrow_1_1: it asks a word of a class that the start's table lacks -/
theorem zz_and {a b : Cond} {args : Array Value} {s : State} (h : (Cond.and a b).before args s = true) : a.before args s = true ∧ b.before args s = true := by
  rw [Cond.before_and, Bool.and_eq_true] at h
  exact h
/-- what narrow_1_1 asks of the row class of StackTraceElement -/
theorem zz_asks {args : Array Value} {s : State} (h : narrow_1_1.before args s = true) : (Cond.not (Cond.castable "[Ljava/lang/StackTraceElement;" "java/lang/String")).before args s = true :=
  (zz_and (zz_and (zz_and (zz_and (zz_and (zz_and (zz_and (zz_and (zz_and h).2).2).2).1).1).2).2).2).2
/-- in a state whose table lacks this class, narrow_1_1 doesn't hold -/
theorem zz_false {args : Array Value} {s : State} (hn : s.vm.findClass "[Ljava/lang/StackTraceElement;" = none) : narrow_1_1.before args s = false := by
  cases e : narrow_1_1.before args s with
  | false => rfl
  | true =>
    have h := zz_asks e
    simp [Cond.before, Cond.holds, Cond.value, hn] at h
