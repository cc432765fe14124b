theorem bv_wide : True := by
  have h := @Bundle.chainSX
  trivial
