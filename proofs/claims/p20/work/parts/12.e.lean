/-! the search, reckoned: case C, in the order of the primes, with an early end -/
def np_lf (n : Nat) : Bool := !(np_fil n) || np_out n
theorem np_lf_out {n : Nat} (h : np_lf n = true) : np_out n = true := by
  unfold np_lf at h
  rw [Bool.or_eq_true] at h
  rcases h with h | h
  · have hf : np_fil n = false := by simpa using h
    unfold np_out
    rw [hf]
    simp
  · exact h
def np_dg : Nat → List Nat → Nat → Bool
  | 0, _, _ => false
  | _ + 1, [], P => np_fo P np_lf
  | f + 1, s :: rest, P => cond (Nat.ble 1073741824 (Nat.mul P s)) (np_fo P np_lf) (np_dg f rest P && np_fo (Nat.mul P s) (np_dg f (s :: rest)))
theorem np_dg_spec : ∀ (f : Nat) (ps : List Nat) (P m : Nat), np_dg f ps P = true → 0 < m → (∀ r, np_pr r → r ∣ m → r ∈ ps) → ps.Pairwise (· ≤ ·) → P * m < 1073741824 → np_out (P * m) = true
  | 0, _, _, _, h, _, _, _, _ => by
    unfold np_dg at h
    exact absurd h (by decide)
  | f + 1, [], P, m, h, h0, hr, _, hb => by
    unfold np_dg at h
    rw [np_fo_eq] at h
    have e : m = 1 := by
      rcases Nat.lt_or_ge 1 m with h1 | h1
      · obtain ⟨r, h2, h3⟩ := np_factor m h1
        have := hr r h2 h3
        cases this
      · omega
    rw [e, Nat.mul_one]
    exact np_lf_out h
  | f + 1, s :: rest, P, m, h, h0, hr, hs, hb => by
    unfold np_dg at h
    cases hc : Nat.ble 1073741824 (Nat.mul P s) with
    | true =>
      rw [hc] at h
      have h : np_fo P np_lf = true := h
      rw [np_fo_eq] at h
      have hc := Nat.le_of_ble_eq_true hc
      have hc : 1073741824 ≤ P * s := hc
      have e : m = 1 := by
        rcases Nat.lt_or_ge 1 m with h1 | h1
        · exfalso
          obtain ⟨r, h2, h3⟩ := np_factor m h1
          have h4 : s ≤ r := by
            rcases List.mem_cons.mp (hr r h2 h3) with e | e
            · omega
            · exact (List.pairwise_cons.mp hs).1 r e
          have h5 : r ≤ m := Nat.le_of_dvd h0 h3
          have h6 : P * s ≤ P * m := Nat.mul_le_mul_left P (Nat.le_trans h4 h5)
          omega
        · omega
      rw [e, Nat.mul_one]
      exact np_lf_out h
    | false =>
      rw [hc] at h
      have h : (np_dg f rest P && np_fo (Nat.mul P s) (np_dg f (s :: rest))) = true := h
      rw [Bool.and_eq_true, np_fo_eq] at h
      obtain ⟨h1, h2⟩ := h
      by_cases hs1 : s ∣ m
      · obtain ⟨c, rfl⟩ := hs1
        have hc : 0 < c := by
          rcases Nat.eq_zero_or_pos c with e | e
          · subst e
            rw [Nat.mul_zero] at h0
            omega
          · exact e
        rw [← Nat.mul_assoc] at hb ⊢
        exact np_dg_spec f (s :: rest) (P * s) c h2 hc (fun r h3 h4 => hr r h3 (Nat.dvd_trans h4 (Nat.dvd_mul_left _ _))) hs hb
      · refine np_dg_spec f rest P m h1 h0 (fun r h3 h4 => ?_) (List.pairwise_cons.mp hs).2 hb
        rcases List.mem_cons.mp (hr r h3 h4) with e | e
        · subst e
          exact absurd h4 hs1
        · exact e
theorem np_C0 : np_dg 40 [11, 13, 17, 19, 23, 29, 31, 37, 41, 43, 47, 53, 59, 61, 67, 71, 73, 79, 83, 89, 97] 11 = true := by decide +kernel
theorem np_C1 : np_dg 40 [13, 17, 19, 23, 29, 31, 37, 41, 43, 47, 53, 59, 61, 67, 71, 73, 79, 83, 89, 97] 13 = true := by decide +kernel
theorem np_C2 : np_dg 40 [17, 19, 23, 29, 31, 37, 41, 43, 47, 53, 59, 61, 67, 71, 73, 79, 83, 89, 97] 17 = true := by decide +kernel
theorem np_C3 : np_dg 40 [19, 23, 29, 31, 37, 41, 43, 47, 53, 59, 61, 67, 71, 73, 79, 83, 89, 97] 19 = true := by decide +kernel
theorem np_C4 : np_dg 40 [23, 29, 31, 37, 41, 43, 47, 53, 59, 61, 67, 71, 73, 79, 83, 89, 97] 23 = true := by decide +kernel
theorem np_C5 : np_dg 40 [29, 31, 37, 41, 43, 47, 53, 59, 61, 67, 71, 73, 79, 83, 89, 97] 29 = true := by decide +kernel
theorem np_C6 : np_dg 40 [31, 37, 41, 43, 47, 53, 59, 61, 67, 71, 73, 79, 83, 89, 97] 31 = true := by decide +kernel
theorem np_C7 : np_dg 40 [37, 41, 43, 47, 53, 59, 61, 67, 71, 73, 79, 83, 89, 97] 37 = true := by decide +kernel
theorem np_C8 : np_dg 40 [41, 43, 47, 53, 59, 61, 67, 71, 73, 79, 83, 89, 97] 41 = true := by decide +kernel
theorem np_C9 : np_dg 40 [43, 47, 53, 59, 61, 67, 71, 73, 79, 83, 89, 97] 43 = true := by decide +kernel
theorem np_C10 : np_dg 40 [47, 53, 59, 61, 67, 71, 73, 79, 83, 89, 97] 47 = true := by decide +kernel
theorem np_C11 : np_dg 40 [53, 59, 61, 67, 71, 73, 79, 83, 89, 97] 53 = true := by decide +kernel
theorem np_C12 : np_dg 40 [59, 61, 67, 71, 73, 79, 83, 89, 97] 59 = true := by decide +kernel
theorem np_C13 : np_dg 40 [61, 67, 71, 73, 79, 83, 89, 97] 61 = true := by decide +kernel
theorem np_C14 : np_dg 40 [67, 71, 73, 79, 83, 89, 97] 67 = true := by decide +kernel
theorem np_C15 : np_dg 40 [71, 73, 79, 83, 89, 97] 71 = true := by decide +kernel
theorem np_C16 : np_dg 40 [73, 79, 83, 89, 97] 73 = true := by decide +kernel
theorem np_C17 : np_dg 40 [79, 83, 89, 97] 79 = true := by decide +kernel
theorem np_C18 : np_dg 40 [83, 89, 97] 83 = true := by decide +kernel
theorem np_C19 : np_dg 40 [89, 97] 89 = true := by decide +kernel
theorem np_C20 : np_dg 40 [97] 97 = true := by decide +kernel
def np_dh : List Nat → Bool
  | [] => true
  | s :: rest => np_dg 40 (s :: rest) s && np_dh rest
theorem np_dh_spec : ∀ (ps : List Nat) (m : Nat), np_dh ps = true → 1 < m → (∀ r, np_pr r → r ∣ m → r ∈ ps) → ps.Pairwise (· ≤ ·) → m < 1073741824 → np_out m = true
  | [], m, _, h1, hr, _, _ => by
    obtain ⟨r, h2, h3⟩ := np_factor m h1
    have := hr r h2 h3
    cases this
  | s :: rest, m, h, h1, hr, hs, hb => by
    unfold np_dh at h
    rw [Bool.and_eq_true] at h
    by_cases hd : s ∣ m
    · obtain ⟨c, rfl⟩ := hd
      have hc : 0 < c := by
        rcases Nat.eq_zero_or_pos c with e | e
        · subst e
          rw [Nat.mul_zero] at h1
          omega
        · exact e
      exact np_dg_spec 40 (s :: rest) s c h.1 hc (fun r h3 h4 => hr r h3 (Nat.dvd_trans h4 (Nat.dvd_mul_left _ _))) hs hb
    · refine np_dh_spec rest m h.2 h1 (fun r h3 h4 => ?_) (List.pairwise_cons.mp hs).2 hb
      rcases List.mem_cons.mp (hr r h3 h4) with e | e
      · subst e
        exact absurd h4 hd
      · exact e
theorem np_C : np_dh np_ps = true := by
  show (np_dg 40 [11, 13, 17, 19, 23, 29, 31, 37, 41, 43, 47, 53, 59, 61, 67, 71, 73, 79, 83, 89, 97] 11 && (np_dg 40 [13, 17, 19, 23, 29, 31, 37, 41, 43, 47, 53, 59, 61, 67, 71, 73, 79, 83, 89, 97] 13 && (np_dg 40 [17, 19, 23, 29, 31, 37, 41, 43, 47, 53, 59, 61, 67, 71, 73, 79, 83, 89, 97] 17 && (np_dg 40 [19, 23, 29, 31, 37, 41, 43, 47, 53, 59, 61, 67, 71, 73, 79, 83, 89, 97] 19 && (np_dg 40 [23, 29, 31, 37, 41, 43, 47, 53, 59, 61, 67, 71, 73, 79, 83, 89, 97] 23 && (np_dg 40 [29, 31, 37, 41, 43, 47, 53, 59, 61, 67, 71, 73, 79, 83, 89, 97] 29 && (np_dg 40 [31, 37, 41, 43, 47, 53, 59, 61, 67, 71, 73, 79, 83, 89, 97] 31 && (np_dg 40 [37, 41, 43, 47, 53, 59, 61, 67, 71, 73, 79, 83, 89, 97] 37 && (np_dg 40 [41, 43, 47, 53, 59, 61, 67, 71, 73, 79, 83, 89, 97] 41 && (np_dg 40 [43, 47, 53, 59, 61, 67, 71, 73, 79, 83, 89, 97] 43 && (np_dg 40 [47, 53, 59, 61, 67, 71, 73, 79, 83, 89, 97] 47 && (np_dg 40 [53, 59, 61, 67, 71, 73, 79, 83, 89, 97] 53 && (np_dg 40 [59, 61, 67, 71, 73, 79, 83, 89, 97] 59 && (np_dg 40 [61, 67, 71, 73, 79, 83, 89, 97] 61 && (np_dg 40 [67, 71, 73, 79, 83, 89, 97] 67 && (np_dg 40 [71, 73, 79, 83, 89, 97] 71 && (np_dg 40 [73, 79, 83, 89, 97] 73 && (np_dg 40 [79, 83, 89, 97] 79 && (np_dg 40 [83, 89, 97] 83 && (np_dg 40 [89, 97] 89 && (np_dg 40 [97] 97 && true))))))))))))))))))))) = true
  rw [np_C0, np_C1, np_C2, np_C3, np_C4, np_C5, np_C6, np_C7, np_C8, np_C9, np_C10, np_C11, np_C12, np_C13, np_C14, np_C15, np_C16, np_C17, np_C18, np_C19, np_C20]
  rfl
theorem np_ps_sorted : np_ps.Pairwise (· ≤ ·) := by decide +kernel
