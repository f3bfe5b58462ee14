theorem lays_run20 : runB laysR (PMh 20) (fun h => okL 20 h && okLf 20 h) = true := by decide +kernel
theorem lays_run21 : runB laysR (PMh 21) (fun h => okL 21 h && okLf 21 h) = true := by decide +kernel
theorem lays_run22 : runB laysR (PMh 22) (fun h => okL 22 h && okLf 22 h) = true := by decide +kernel
