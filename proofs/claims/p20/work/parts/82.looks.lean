/-! the strong test as numbers -/
theorem nb_pred {N : Nat} (h : 0 < N) : Int32.ofNat N - 1 = Int32.ofNat (N - 1) := (Int32.ofNat_sub N 1 h).symm
theorem nb_62 {N : Nat} (h1 : 1 < N) (hN : N < 2147483648) (v1 v2 : Int32) : ∀ (k n x i s : Nat), s - i = k → k < n → s < 100 → i < 100 → x < N →
    ∃ r : Int32, ff_N_looksPrime_62 n (Int32.ofNat N) v1 v2 (Int32.ofNat s) (Int32.ofNat x) (Int32.ofNat i) = some r ∧ ((r = 1 ∧ ∃ j, j < k ∧ x ^ (2 ^ (j + 1)) % N = N - 1) ∨ (r = 0 ∧ ∀ j, j < k → x ^ (2 ^ (j + 1)) % N ≠ N - 1)) := by
  intro k
  induction k with
  | zero =>
    intro n x i s hs hn _ _ hx
    obtain ⟨n, rfl⟩ : ∃ q, n = q + 1 := ⟨n - 1, by omega⟩
    rw [ff_N_looksPrime_62, if_pos ((nb_le (by omega) (by omega)).mpr (by omega))]
    exact ⟨0, rfl, Or.inr ⟨rfl, fun j hj => by omega⟩⟩
  | succ k ih =>
    intro n x i s hs hn h3 h4 hx
    obtain ⟨n, rfl⟩ : ∃ q, n = q + 1 := ⟨n - 1, by omega⟩
    rw [ff_N_looksPrime_62, if_neg (fun h => by have := (nb_le (by omega) (by omega)).mp h; omega), nb_times (by omega) (by omega) (by omega) hN, Option.bind_some, nb_pred (by omega)]
    have hy : x * x % N < N := Nat.mod_lt _ (by omega)
    have hsq : ∀ j, (x * x % N) ^ (2 ^ (j + 1)) % N = x ^ (2 ^ (j + 1 + 1)) % N := fun j => by
      rw [← Nat.pow_mod, ← Nat.pow_two, ← Nat.pow_mul, Nat.pow_succ 2 (j + 1), Nat.mul_comm (2 ^ (j + 1)) 2]
    have h0 : x ^ (2 ^ (0 + 1)) % N = x * x % N := by rw [Nat.zero_add, Nat.pow_one, Nat.pow_two]
    by_cases he : x * x % N = N - 1
    · rw [if_pos (by rw [he])]
      exact ⟨1, rfl, Or.inl ⟨rfl, 0, by omega, by rw [h0]; exact he⟩⟩
    · rw [if_neg (fun h => he ((nb_inj (by omega) (by omega)).mp h)), show Int32.ofNat i + 1 = Int32.ofNat (i + 1) from sm_suc]
      obtain ⟨r, e1, e2⟩ := ih n (x * x % N) (i + 1) s (by omega) (by omega) h3 (by omega) hy
      refine ⟨r, e1, ?_⟩
      rcases e2 with ⟨hr, j, hj, e3⟩ | ⟨hr, e3⟩
      · exact Or.inl ⟨hr, j + 1, by omega, by rw [← hsq]; exact e3⟩
      · refine Or.inr ⟨hr, fun j hj => ?_⟩
        cases j with
        | zero => rw [h0]; exact he
        | succ j => rw [← hsq]; exact e3 j (by omega)
/-- the strong test's own words -/
def nb_LP (N a d s : Nat) : Prop := a ^ d % N = 1 ∨ ∃ i, i < s ∧ a ^ (d * 2 ^ i) % N = N - 1
theorem nb_35 {N a d s n : Nat} (h1 : 2 < N) (hN : N < 2147483648) (ha : a < 2147483648) (hd : d < 2147483648) (hs : s < 100) (hn : 200 < n) (hs0 : 0 < s) (v4 : Int32) :
    ∃ r : Int32, ff_N_looksPrime_35 n (Int32.ofNat N) (Int32.ofNat a) (Int32.ofNat d) (Int32.ofNat s) v4 = some r ∧ ((r = 1 ∧ nb_LP N a d s) ∨ (r = 0 ∧ ¬ nb_LP N a d s)) := by
  unfold ff_N_looksPrime_35 nb_LP
  have hx : a ^ d % N < N := Nat.mod_lt _ (by omega)
  rw [nb_power (by omega) hN ha hd (by omega), Option.bind_some, nb_pred (by omega)]
  by_cases e1 : a ^ d % N = 1
  · rw [if_pos (by rw [e1]; rfl)]
    exact ⟨1, rfl, Or.inl ⟨rfl, Or.inl e1⟩⟩
  · rw [if_neg (show ¬ Int32.ofNat (a ^ d % N) = 1 from fun h => e1 ((nb_inj (y := 1) (by omega) (by omega)).mp h))]
    by_cases e2 : a ^ d % N = N - 1
    · rw [if_pos (by rw [e2])]
      exact ⟨1, rfl, Or.inl ⟨rfl, Or.inr ⟨0, hs0, by rw [Nat.pow_zero, Nat.mul_one]; exact e2⟩⟩⟩
    · rw [if_neg (fun h => e2 ((nb_inj (by omega) (by omega)).mp h))]
      have hsq : ∀ j, (a ^ d % N) ^ (2 ^ j) % N = a ^ (d * 2 ^ j) % N := fun j => by rw [← Nat.pow_mod, ← Nat.pow_mul]
      obtain ⟨r, e3, e4⟩ := nb_62 (by omega) hN (Int32.ofNat a) (Int32.ofNat d) (s - 1) n (a ^ d % N) 1 s rfl (by omega) hs (by omega) hx
      refine ⟨r, e3, ?_⟩
      rcases e4 with ⟨hr, j, hj, e5⟩ | ⟨hr, e5⟩
      · exact Or.inl ⟨hr, Or.inr ⟨j + 1, by omega, by rw [← hsq]; exact e5⟩⟩
      · refine Or.inr ⟨hr, fun h => ?_⟩
        rcases h with h | ⟨i, hi, h⟩
        · exact e1 h
        · cases i with
          | zero => rw [Nat.pow_zero, Nat.mul_one] at h; exact e2 h
          | succ i => exact e5 i (by omega) (by rw [hsq]; exact h)
theorem nb_9 {N : Nat} (hN : N < 2147483648) (v1 : Int32) : ∀ (k n c d : Nat), c + k = 31 → k < n → 0 < d → d * 2 ^ c = N - 1 →
    ∃ n' s d', n ≤ n' + k + 1 ∧ c ≤ s ∧ s < 31 ∧ d' % 2 = 1 ∧ d' * 2 ^ s = N - 1 ∧ ff_N_looksPrime_9 n (Int32.ofNat N) v1 (Int32.ofNat d) (Int32.ofNat c) (Int32.ofNat c) = ff_N_looksPrime_35 n' (Int32.ofNat N) v1 (Int32.ofNat d') (Int32.ofNat s) (Int32.ofNat s) := by
  intro k
  induction k with
  | zero =>
    intro n c d hc _ hd he
    exfalso
    have : c = 31 := by omega
    subst this
    omega
  | succ k ih =>
    intro n c d hc hn hd he
    obtain ⟨n, rfl⟩ : ∃ q, n = q + 1 := ⟨n - 1, by omega⟩
    have hdl : d ≤ N - 1 := by rw [← he]; exact Nat.le_mul_of_pos_right d (Nat.two_pow_pos c)
    rw [ff_N_looksPrime_9, if_neg (show ¬ (31 : Int32) ≤ Int32.ofNat c from fun h => by have := (nb_le (x := 31) (by omega) (by omega)).mp h; omega)]
    dsimp only [tl]
    rw [nb_odd (by omega)]
    by_cases ho : d % 2 = 0
    · rw [if_pos (by rw [ho]; rfl), nb_half (by omega), show Int32.ofNat c + 1 = Int32.ofNat (c + 1) from sm_suc]
      obtain ⟨n', s, d', g1, g2, g3, g4, g5, g6⟩ := ih n (c + 1) (d / 2) (by omega) (by omega) (by omega) (by rw [Nat.pow_succ, Nat.mul_comm (2 ^ c) 2, ← Nat.mul_assoc, show d / 2 * 2 = d by omega]; exact he)
      exact ⟨n', s, d', by omega, by omega, g3, g4, g5, g6⟩
    · rw [if_neg (show ¬ Int32.ofNat (d % 2) = 0 from fun h => ho ((nb_inj (y := 0) (by omega) (by omega)).mp h))]
      exact ⟨n, c, d, by omega, Nat.le_refl _, by omega, by omega, he, rfl⟩
theorem nb_looks {N a n : Nat} (h1 : 2 < N) (hodd : N % 2 = 1) (hN : N < 2147483648) (ha : a < 2147483648) (hn : 300 < n) :
    ∃ (r : Int32) (s d : Nat), d % 2 = 1 ∧ d * 2 ^ s = N - 1 ∧ 0 < s ∧ ff_N_looksPrime n (Int32.ofNat N) (Int32.ofNat a) = some r ∧ ((r = 1 ∧ nb_LP N a d s) ∨ (r = 0 ∧ ¬ nb_LP N a d s)) := by
  unfold ff_N_looksPrime
  dsimp only [tl]
  rw [nb_pred (by omega)]
  obtain ⟨n', s, d, g1, g2, g3, g4, g5, g6⟩ := nb_9 hN (Int32.ofNat a) 31 n 0 (N - 1) (by omega) (by omega) (by omega) (by rw [Nat.pow_zero, Nat.mul_one])
  have hs : 0 < s := by
    rcases Nat.eq_zero_or_pos s with h | h
    · subst h
      rw [Nat.pow_zero, Nat.mul_one] at g5
      omega
    · exact h
  have hdl : d ≤ N - 1 := by rw [← g5]; exact Nat.le_mul_of_pos_right d (Nat.two_pow_pos s)
  obtain ⟨r, e1, e2⟩ := nb_35 (n := n') h1 hN ha (d := d) (s := s) (by omega) (by omega) (by omega) hs (Int32.ofNat s)
  exact ⟨r, s, d, g4, g5, hs, g6.trans e1, e2⟩
