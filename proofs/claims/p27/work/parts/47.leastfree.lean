/-! the pure side: leastFree -/
