/-! a name of the whole library: so the short reading falls at once -/
theorem zw_wide : True := by
  have h := @Jvm.Stand.thenCaughtThrough
  trivial
