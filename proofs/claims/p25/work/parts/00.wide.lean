/-! the throw's rows stand in the rest of the library -/
theorem wd_lib : True := by
  have h0 := @Jvm.Stand.thenCaughtThrough
  trivial
