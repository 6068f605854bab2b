/-! the whole library from the first part on: a name that the narrow round doesn't know (11.grid stands on it) -/
theorem wd_wide : True := by
  have _h := @Jvm.Free.Multi.fill_old
  trivial
