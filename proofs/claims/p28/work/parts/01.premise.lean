set_option maxRecDepth 100000 in
set_option maxHeartbeats 4000000 in
/-- every start that the Statement allows has the array class of stack trace elements loaded -/
theorem start_has_traces (a : Array Value) (s : State) (h : (Jvm.Cond.and given_1 narrow_1).before a s = true) : ∃ c t : ClassId, s.vm.findClass "[Ljava/lang/StackTraceElement;" = some c ∧ s.vm.findClass "java/lang/String" = some t ∧ s.vm.assignable c t = false := by
  have hs := flat_of_before _ h
  have hc : (Cond.not (.castable "[Ljava/lang/StackTraceElement;" "java/lang/String")).before a s = true := hs _ (by decide +kernel)
  exact va_Nc.of hc
/-- so a start without a class of that name meets the premises never: the printed start lays none -/
theorem no_start_without_traces (a : Array Value) (s : State) (h0 : s.vm.findClass "[Ljava/lang/StackTraceElement;" = none) : (Jvm.Cond.and given_1 narrow_1).before a s ≠ true := by
  intro h
  obtain ⟨c, t, hc, _, _⟩ := start_has_traces a s h
  rw [h0] at hc
  exact nomatch hc
theorem i_vc : Claimed_1_1 ∧ Claimed_1_2 := sorry
