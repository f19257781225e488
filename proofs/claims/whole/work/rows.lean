section
/-! what the statement's premises ask of the tables: the array class of StackTraceElement must be there -/
/-- no start whose tables lack that class meets the premises -/
theorem wi_out {args : Array Value} {s : State} (h : s.vm.findClass "[Ljava/lang/StackTraceElement;" = none) : narrow_1.before args s = false := by
  cases hn : narrow_1.before args s with
  | false => rfl
  | true =>
    have hs := flat_of_before _ hn
    have h1 : (Cond.not (Cond.castable "[Ljava/lang/StackTraceElement;" "java/lang/Integer")).before args s = true := hs _ (by decide +kernel)
    simp [Cond.before, Cond.holds, Cond.value, h] at h1
end
