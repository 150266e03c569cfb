/-- of the library's rest -/
theorem zz_wide : True := by
  have _ := @Jvm.Free.Multi.outerC
  trivial
