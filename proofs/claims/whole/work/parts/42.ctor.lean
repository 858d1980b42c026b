theorem tst_mna : True := by
  have := @Stand.multianewarray2F
  have := @Jvm.Free.Multi.fill_facts
  have := @Jvm.Free.Multi.fill_old
  have := @Jvm.Free.Multi.fill_inner
  trivial
