/-! the search, reckoned: case A -/
theorem np_A0 : np_fo (np_rp 15 1) (fun Q => np_ab (fun j => np_okA Q (2 * j + 3)) 16383 12 0) = true := by decide +kernel
theorem np_A1 : np_fo (np_rp 15 1) (fun Q => np_ab (fun j => np_okA Q (2 * j + 3)) 16383 12 4096) = true := by decide +kernel
theorem np_A2 : np_fo (np_rp 15 1) (fun Q => np_ab (fun j => np_okA Q (2 * j + 3)) 16383 12 8192) = true := by decide +kernel
theorem np_A3 : np_fo (np_rp 15 1) (fun Q => np_ab (fun j => np_okA Q (2 * j + 3)) 16383 12 12288) = true := by decide +kernel
