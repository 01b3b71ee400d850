/-! the rows stand on a law of the library's later part (arrays of arrays) -/
theorem zw_multi : True := by
  have h := @Jvm.Stand.multianewarray2F
  trivial
