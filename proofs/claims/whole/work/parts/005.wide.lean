-- the library's rule of what is caught behind rows that are passed, named here first
theorem wd_caught : True := by
  have h := @Jvm.Stand.thenCaughtThrough
  trivial
