theorem sx_first : True := by
  have := @Stand.multianewarray2F
  exact trivial
