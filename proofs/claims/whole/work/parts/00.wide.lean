/-- the catch of an exception behind rows that are passed stands in the whole library -/
theorem wd_catch : True := by
  have _h := @Stand.thenCaughtThrough
  trivial
