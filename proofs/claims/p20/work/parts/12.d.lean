/-! the search, reckoned: case B, the greater primes -/
theorem np_B24 : np_ab (fun j => np_okB (2 * j + 1)) 4500 12 2048 = true := by decide +kernel
theorem np_B25 : np_ab (fun j => np_okB (2 * j + 1)) 7500 12 4500 = true := by decide +kernel
theorem np_B26 : np_ab (fun j => np_okB (2 * j + 1)) 10500 12 7500 = true := by decide +kernel
theorem np_B27 : np_ab (fun j => np_okB (2 * j + 1)) 13500 12 10500 = true := by decide +kernel
theorem np_B28 : np_ab (fun j => np_okB (2 * j + 1)) 16384 12 13500 = true := by decide +kernel
