/-! a number below 2^30 that passes is a prime -/
theorem np_Aall {Q : Nat} (hQ : Q = np_rp 15 1) {k : Nat} (h3 : 3 ≤ k) (hk : k < 32768) (ho : k % 2 = 1) : np_okA Q k = true := by
  have h0 := np_A0
  have h1 := np_A1
  have h2 := np_A2
  have h4 := np_A3
  rw [np_fo_eq, ← hQ] at h0 h1 h2 h4
  have e : 2 * ((k - 3) / 2) + 3 = k := by omega
  have key : ∀ lo, np_ab (fun j => np_okA Q (2 * j + 3)) 16383 12 lo = true → lo ≤ (k - 3) / 2 → (k - 3) / 2 < lo + 4096 → np_okA Q k = true := by
    intro lo h ha hb
    have := np_ab_all 12 lo h ((k - 3) / 2) ha hb (by omega)
    try dsimp only at this
    rw [e] at this
    exact this
  have hc : (k - 3) / 2 < 4096 ∨ (4096 ≤ (k - 3) / 2 ∧ (k - 3) / 2 < 8192) ∨ (8192 ≤ (k - 3) / 2 ∧ (k - 3) / 2 < 12288) ∨ (12288 ≤ (k - 3) / 2 ∧ (k - 3) / 2 < 16384) := by omega
  rcases hc with hc | hc | hc | hc
  · exact key 0 h0 (by omega) (by omega)
  · exact key 4096 h1 (by omega) (by omega)
  · exact key 8192 h2 (by omega) (by omega)
  · exact key 12288 h4 (by omega) (by omega)
theorem np_Ball {r : Nat} (h101 : 101 ≤ r) (hr : r < 32768) (ho : r % 2 = 1) : np_okB r = true := by
  have e : 2 * ((r - 1) / 2) + 1 = r := by omega
  have key : ∀ hi f lo, np_ab (fun j => np_okB (2 * j + 1)) hi f lo = true → lo ≤ (r - 1) / 2 → (r - 1) / 2 < lo + 2 ^ f → (r - 1) / 2 < hi → np_okB r = true := by
    intro hi f lo h ha hb hc
    have := np_ab_all f lo h ((r - 1) / 2) ha hb hc
    try dsimp only at this
    rw [e] at this
    exact this
  by_cases c0 : r < 103
  · exact key 51 0 50 np_B0 (by omega) (by omega) (by omega)
  by_cases c1 : r < 107
  · exact key 53 1 51 np_B1 (by omega) (by omega) (by omega)
  by_cases c2 : r < 109
  · exact key 54 0 53 np_B2 (by omega) (by omega) (by omega)
  by_cases c3 : r < 113
  · exact key 56 1 54 np_B3 (by omega) (by omega) (by omega)
  by_cases c4 : r < 127
  · exact key 63 3 56 np_B4 (by omega) (by omega) (by omega)
  by_cases c5 : r < 131
  · exact key 65 1 63 np_B5 (by omega) (by omega) (by omega)
  by_cases c6 : r < 137
  · exact key 68 2 65 np_B6 (by omega) (by omega) (by omega)
  by_cases c7 : r < 149
  · exact key 74 3 68 np_B7 (by omega) (by omega) (by omega)
  by_cases c8 : r < 157
  · exact key 78 2 74 np_B8 (by omega) (by omega) (by omega)
  by_cases c9 : r < 167
  · exact key 83 3 78 np_B9 (by omega) (by omega) (by omega)
  by_cases c10 : r < 179
  · exact key 89 3 83 np_B10 (by omega) (by omega) (by omega)
  by_cases c11 : r < 191
  · exact key 95 3 89 np_B11 (by omega) (by omega) (by omega)
  by_cases c12 : r < 197
  · exact key 98 2 95 np_B12 (by omega) (by omega) (by omega)
  by_cases c13 : r < 227
  · exact key 113 4 98 np_B13 (by omega) (by omega) (by omega)
  by_cases c14 : r < 241
  · exact key 120 3 113 np_B14 (by omega) (by omega) (by omega)
  by_cases c15 : r < 271
  · exact key 135 4 120 np_B15 (by omega) (by omega) (by omega)
  by_cases c16 : r < 311
  · exact key 155 5 135 np_B16 (by omega) (by omega) (by omega)
  by_cases c17 : r < 359
  · exact key 179 5 155 np_B17 (by omega) (by omega) (by omega)
  by_cases c18 : r < 431
  · exact key 215 6 179 np_B18 (by omega) (by omega) (by omega)
  by_cases c19 : r < 467
  · exact key 233 5 215 np_B19 (by omega) (by omega) (by omega)
  by_cases c20 : r < 601
  · exact key 300 7 233 np_B20 (by omega) (by omega) (by omega)
  by_cases c21 : r < 839
  · exact key 419 7 300 np_B21 (by omega) (by omega) (by omega)
  by_cases c22 : r < 1583
  · exact key 791 9 419 np_B22 (by omega) (by omega) (by omega)
  by_cases c23 : r < 4097
  · exact key 2048 11 791 np_B23 (by omega) (by omega) (by omega)
  by_cases c24 : r < 9001
  · exact key 4500 12 2048 np_B24 (by omega) (by omega) (by omega)
  by_cases c25 : r < 15001
  · exact key 7500 12 4500 np_B25 (by omega) (by omega) (by omega)
  by_cases c26 : r < 21001
  · exact key 10500 12 7500 np_B26 (by omega) (by omega) (by omega)
  by_cases c27 : r < 27001
  · exact key 13500 12 10500 np_B27 (by omega) (by omega) (by omega)
  exact key 16384 12 13500 np_B28 (by omega) (by omega) (by omega)
theorem np_search {n : Nat} (hn : n < 1073741824) (h : np_in n) : np_pr n := by
  apply Classical.byContradiction
  intro hnp
  have hfil := h.1
  have hbig := h.2.1
  have h2 := (h.2.2 2 (by simp)).1
  have h3 := (h.2.2 3 (by simp)).1
  have h5 := (h.2.2 5 (by simp)).1
  have h7 := (h.2.2 7 (by simp)).1
  unfold np_fil at hfil
  simp only [Bool.and_eq_true, Bool.not_eq_true', Bool.or_eq_false_iff] at hfil
  obtain ⟨f2, f3, ⟨f5, -⟩, ⟨f7, -⟩⟩ := hfil
  have f2 : n % 2 = 1 := Nat.eq_of_beq_eq_true f2
  have f3 : n % 3 = 2 := Nat.eq_of_beq_eq_true f3
  have f5 : Nat.beq (n % 5) 0 = false := f5
  have f7 : Nat.beq (n % 7) 0 = false := f7
  have f5 : n % 5 ≠ 0 := fun e => by rw [e] at f5; exact absurd f5 (by decide)
  have f7 : n % 7 ≠ 0 := fun e => by rw [e] at f7; exact absurd f7 (by decide)
  -- a prime factor and its cofactor
  have cof : ∀ r, np_pr r → r ∣ n → ∃ k, n = r * k ∧ 1 < k ∧ (∀ a, a = 2 ∨ a = 3 ∨ a = 5 ∨ a = 7 → a ^ (k - 1) % r = 1) := by
    intro r hr hd
    obtain ⟨k, hk⟩ := hd
    have hk1 : 1 < k := by
      rcases Nat.lt_or_ge 1 k with h | h
      · exact h
      · have : k = 0 ∨ k = 1 := by omega
        rcases this with e | e
        · rw [e, Nat.mul_zero] at hk
          omega
        · rw [e, Nat.mul_one] at hk
          rw [hk] at hnp
          exact absurd hr hnp
    refine ⟨k, hk, hk1, fun a ha => np_cof hr hk1 ?_⟩
    rw [← hk]
    exact (h.2.2 a ha).1
  have odd : ∀ r, r ∣ n → r % 2 = 1 := by
    intro r hd
    rcases Nat.mod_two_eq_zero_or_one r with e | e
    · have : 2 ∣ n := Nat.dvd_trans (Nat.dvd_of_mod_eq_zero e) hd
      have := Nat.mod_eq_zero_of_dvd this
      omega
    · exact e
  have noA : ∀ r, np_pr r → r ∣ n → r < 32769 := by
    intro r hr hd
    rcases Nat.lt_or_ge r 32769 with hl | hl
    · exact hl
    · exfalso
      obtain ⟨k, hk, hk1, hp⟩ := cof r hr hd
      have hko : k % 2 = 1 := odd k ⟨r, by rw [hk, Nat.mul_comm]⟩
      have hk3 : k < 32768 := by
        rcases Nat.lt_or_ge k 32768 with h | h
        · exact h
        · have : 32769 * 32768 ≤ r * k := Nat.mul_le_mul hl h
          omega
      obtain ⟨Q, hQ⟩ : ∃ Q, Q = np_rp 15 1 := ⟨_, rfl⟩
      have hok := np_Aall hQ (k := k) (by omega) hk3 hko
      refine np_in_out h ?_
      rw [hk]
      refine np_okA_spec (Q := Q) hr (fun hd2 => ?_) (fun s h0 h1 => ?_) (by omega) (hp 2 (by simp)) (hp 3 (by simp)) (hp 5 (by simp)) (hp 7 (by simp)) (by omega) hok
      · rw [hQ] at hd2
        have := np_rp_lt hr 15 1 (by decide) hd2
        have e : 1 + 2 ^ 15 = 32769 := by decide
        omega
      · rw [hQ]
        exact np_rp_dvd 15 1 h0 (by omega)
  have noB : ∀ r, np_pr r → r ∣ n → r < 101 := by
    intro r hr hd
    rcases Nat.lt_or_ge r 101 with hl | hl
    · exact hl
    · exfalso
      obtain ⟨k, hk, hk1, hp⟩ := cof r hr hd
      have hro := odd r hd
      have hr1 := noA r hr hd
      have hok := np_Ball hl (by omega) hro
      refine np_in_out h ?_
      rw [hk]
      exact np_okB_spec hr hl (by omega) hk1 (hp 2 (by simp)) (hp 3 (by simp)) (by omega) hok
  have hC := np_dh_spec np_ps n np_C (by omega) (fun r hr hd => by
    have h10 : 10 < r := by
      rcases Nat.lt_or_ge 10 r with h | h
      · exact h
      · exfalso
        have h1 := hr.1
        have ho := odd r hd
        have hm := Nat.mod_eq_zero_of_dvd hd
        have hc : r = 3 ∨ r = 5 ∨ r = 7 ∨ r = 9 := by omega
        rcases hc with rfl | rfl | rfl | rfl <;> omega
    exact np_small_pr hr (noB r hr hd) h10) np_ps_sorted (by omega)
  exact np_in_out h hC
/-- Pocklington: p = 2 q + 1, q a prime -/
theorem np_pock {q : Nat} (hq : np_pr q) (h2 : 2 < q) (ho : q % 2 = 1) (h3 : (2 * q + 1) % 3 ≠ 0) (hf : 2 ^ (2 * q) % (2 * q + 1) = 1) : np_pr (2 * q + 1) := by
  refine ⟨by omega, ?_⟩
  -- every prime factor is p itself
  have key : ∀ r, np_pr r → r ∣ 2 * q + 1 → r = 2 * q + 1 := by
    intro r hr hd
    have h1 := hr.1
    have hr2 : r % 2 = 1 := by
      rcases Nat.mod_two_eq_zero_or_one r with e | e
      · have := Nat.mod_eq_zero_of_dvd (Nat.dvd_trans (Nat.dvd_of_mod_eq_zero e) hd)
        omega
      · exact e
    have hr3 : r ≠ 3 := by
      rintro rfl
      exact h3 (Nat.mod_eq_zero_of_dvd hd)
    have hp := np_mod_dvd h1 hd hf
    have hn2 : ¬ r ∣ 2 := fun h => by
      have := Nat.le_of_dvd (by decide) h
      omega
    have hfer := np_fermat hr hn2
    have hg := np_powgcd h1 _ _ hp hfer
    have hle : r ≤ 2 * q + 1 := Nat.le_of_dvd (by omega) hd
    by_cases hqd : q ∣ r - 1
    · obtain ⟨c, hc⟩ := hqd
      have hc2 : c ≠ 0 := by
        rintro rfl
        omega
      have hc1 : c ≠ 1 := by
        rintro rfl
        omega
      have : q * 2 ≤ q * c := Nat.mul_le_mul_left q (by omega)
      omega
    · exfalso
      have hcop : Nat.Coprime q (r - 1) := np_cop hq hqd
      have hg2 : Nat.gcd (2 * q) (r - 1) ∣ 2 := by
        have h6 : Nat.gcd (2 * q) (r - 1) = Nat.gcd 2 (r - 1) := Nat.Coprime.gcd_mul_right_cancel 2 hcop
        rw [h6]
        exact Nat.gcd_dvd_left 2 (r - 1)
      have h4 := np_powdvd h1 hg2 hg
      have h5 : r ∣ 2 ^ 2 - 1 := by
        apply Nat.dvd_of_mod_eq_zero
        apply Nat.sub_mod_eq_zero_of_mod_eq
        rw [h4, Nat.mod_eq_of_lt h1]
      have h7 : r ∣ 3 := h5
      have := Nat.le_of_dvd (by decide) h7
      omega
  intro d hd
  have hd0 : d ≠ 0 := by
    rintro rfl
    have := Nat.eq_zero_of_zero_dvd hd
    omega
  by_cases h1 : d = 1
  · exact Or.inl h1
  · right
    obtain ⟨r, hr, hrd⟩ := np_factor d (by omega)
    have h4 := key r hr (Nat.dvd_trans hrd hd)
    have h5 := Nat.le_of_dvd (by omega) hrd
    have h6 := Nat.le_of_dvd (by omega) hd
    omega
