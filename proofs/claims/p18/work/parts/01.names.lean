theorem zz9 : True := by
  have h := @Jvm.Free.Multi.fill_facts
  exact trivial
