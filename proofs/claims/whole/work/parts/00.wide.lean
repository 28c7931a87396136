/-! a name of the library's rest: so a round is read over the whole of it from its first part on -/
theorem hm_wide : True := by
  have h := @Jvm.Stand.thenCaughtThrough
  exact trivial
