/-! the search, reckoned: case B, first half -/
theorem np_B0 : np_ab (fun j => np_okB (2 * j + 1)) 51 0 50 = true := by decide +kernel
theorem np_B1 : np_ab (fun j => np_okB (2 * j + 1)) 53 1 51 = true := by decide +kernel
theorem np_B2 : np_ab (fun j => np_okB (2 * j + 1)) 54 0 53 = true := by decide +kernel
theorem np_B3 : np_ab (fun j => np_okB (2 * j + 1)) 56 1 54 = true := by decide +kernel
theorem np_B4 : np_ab (fun j => np_okB (2 * j + 1)) 63 3 56 = true := by decide +kernel
theorem np_B5 : np_ab (fun j => np_okB (2 * j + 1)) 65 1 63 = true := by decide +kernel
theorem np_B6 : np_ab (fun j => np_okB (2 * j + 1)) 68 2 65 = true := by decide +kernel
theorem np_B7 : np_ab (fun j => np_okB (2 * j + 1)) 74 3 68 = true := by decide +kernel
theorem np_B8 : np_ab (fun j => np_okB (2 * j + 1)) 78 2 74 = true := by decide +kernel
theorem np_B9 : np_ab (fun j => np_okB (2 * j + 1)) 83 3 78 = true := by decide +kernel
theorem np_B10 : np_ab (fun j => np_okB (2 * j + 1)) 89 3 83 = true := by decide +kernel
theorem np_B11 : np_ab (fun j => np_okB (2 * j + 1)) 95 3 89 = true := by decide +kernel
