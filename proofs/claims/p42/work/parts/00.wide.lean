theorem wide_0 : True := by
  have h := @Jvm.Free.Multi.fill_old
  trivial
