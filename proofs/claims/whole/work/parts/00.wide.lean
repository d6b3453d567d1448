/-- the row of the library that the making of an int[][] needs -/
theorem mj_wide : True := by
  have _ := @Jvm.Stand.multianewarray2F
  trivial
