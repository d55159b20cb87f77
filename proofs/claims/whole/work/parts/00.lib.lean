/-! Read over the whole library: the rows of throws name two of its laws. -/
theorem x_lib : True := by
  have _h1 := @Jvm.Stand.thenCaughtThrough
  have _h2 := @Jvm.Stand.outThrough
  trivial
