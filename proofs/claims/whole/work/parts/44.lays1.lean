theorem lays_run15 : runB laysR (PMh 15) (fun h => okL 15 h && okLf 15 h) = true := by decide +kernel
theorem lays_run16 : runB laysR (PMh 16) (fun h => okL 16 h && okLf 16 h) = true := by decide +kernel
theorem lays_run17 : runB laysR (PMh 17) (fun h => okL 17 h && okLf 17 h) = true := by decide +kernel
theorem lays_run18 : runB laysR (PMh 18) (fun h => okL 18 h && okLf 18 h) = true := by decide +kernel
theorem lays_run19 : runB laysR (PMh 19) (fun h => okL 19 h && okLf 19 h) = true := by decide +kernel
