theorem lays_run23 : runB laysR (PMh 23) (fun h => okL 23 h && okLf 23 h) = true := by decide +kernel
theorem lays_run24 : runB laysR (PMh 24) (fun h => okL 24 h && okLf 24 h) = true := by decide +kernel
theorem lays_run25 : runB laysR (PMh 25) (fun h => okL 25 h && okLf 25 h) = true := by decide +kernel
