/-! names of the rest of the library are used below -/
theorem aa_wide : True := by
  have h := @Stand.thenCaughtThrough
  have h2 := @Stand.outThrough
  trivial
