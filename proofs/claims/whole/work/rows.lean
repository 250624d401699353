section
theorem zz_missing {args : Array Value} {s : State} (h : s.vm.findClass "[Ljava/lang/StackTraceElement;" = none) :
    (Cond.not (.castable "[Ljava/lang/StackTraceElement;" "java/lang/String")).before args s = false := by
  simp [Cond.before, Cond.holds, Cond.value, h]
theorem i_vc : Claimed_1_1 ∧ Claimed_1_2 := sorry
end
