/-! a name of the wide library, met first: a round on a new machine reads the wide one from its first part on -/
theorem wd_probe : True := by
  have _h := @Stand.thenCaughtThrough
  trivial
