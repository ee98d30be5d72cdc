/-! PART 00: names a lemma of the rest of the library, so that the rounds are read over the whole of it from the first part on -/
theorem wd_first : True := by
  have _h := @Jvm.Free.Multi.fill_old
  trivial
