/-! A name of the library's rest, written out, so that a round on a new machine is read over the whole library from its first part on. -/
theorem wide_name : True := by
  have _ := @Jvm.Stand.thenCaughtThrough
  trivial
