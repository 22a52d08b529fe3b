/-! the search, reckoned: case B, second half -/
theorem np_B12 : np_ab (fun j => np_okB (2 * j + 1)) 98 2 95 = true := by decide +kernel
theorem np_B13 : np_ab (fun j => np_okB (2 * j + 1)) 113 4 98 = true := by decide +kernel
theorem np_B14 : np_ab (fun j => np_okB (2 * j + 1)) 120 3 113 = true := by decide +kernel
theorem np_B15 : np_ab (fun j => np_okB (2 * j + 1)) 135 4 120 = true := by decide +kernel
theorem np_B16 : np_ab (fun j => np_okB (2 * j + 1)) 155 5 135 = true := by decide +kernel
theorem np_B17 : np_ab (fun j => np_okB (2 * j + 1)) 179 5 155 = true := by decide +kernel
theorem np_B18 : np_ab (fun j => np_okB (2 * j + 1)) 215 6 179 = true := by decide +kernel
theorem np_B19 : np_ab (fun j => np_okB (2 * j + 1)) 233 5 215 = true := by decide +kernel
theorem np_B20 : np_ab (fun j => np_okB (2 * j + 1)) 300 7 233 = true := by decide +kernel
theorem np_B21 : np_ab (fun j => np_okB (2 * j + 1)) 419 7 300 = true := by decide +kernel
theorem np_B22 : np_ab (fun j => np_okB (2 * j + 1)) 791 9 419 = true := by decide +kernel
theorem np_B23 : np_ab (fun j => np_okB (2 * j + 1)) 2048 11 791 = true := by decide +kernel
