/-- a name of the rest of the library: the claim is read over the whole of it -/
theorem wide_word : True := by
  have _ := @Stand.thenCaughtThrough
  trivial
