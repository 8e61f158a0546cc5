theorem lwx_wide : True := by
  have _h := @Jvm.Stand.outThrough
  trivial
