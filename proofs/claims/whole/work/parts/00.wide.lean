/-! this claim stands over the whole library: a name of its rest, named first (on a new machine the first round goes over to the whole by this row) -/
theorem wd_lib : True := by
  have _ := @Jvm.Stand.thenCaughtThrough
  trivial
