/-- names a row of the whole library, so that every round is read over the whole of it (part 20 needs it) -/
theorem wide_look : @Jvm.Free.Multi.outerC = @Jvm.Free.Multi.outerC := rfl
