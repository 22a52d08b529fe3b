/-! the strong test: what it says, and that primes pass -/
theorem st_one {x N : Nat} (h1 : 1 < N) (h : x % N = 1) : x * x % N = 1 := by rw [Nat.mul_mod, h, Nat.mod_eq_of_lt (by omega)]
theorem st_neg {x N : Nat} (h1 : 2 < N) (h : x % N = N - 1) : x * x % N = 1 := by
  rw [Nat.mul_mod, h]
  have : (N - 1) * (N - 1) = 1 + N * (N - 2) := by
    obtain ⟨k, rfl⟩ : ∃ k, N = k + 2 := ⟨N - 2, by omega⟩
    rw [show k + 2 - 1 = k + 1 by omega, show k + 2 - 2 = k by omega]
    simp only [Nat.add_mul, Nat.mul_add, Nat.mul_one, Nat.one_mul]
    omega
  rw [this, Nat.add_mul_mod_self_left, Nat.mod_eq_of_lt (by omega)]
theorem st_sq (a d j : Nat) : a ^ (d * 2 ^ (j + 1)) = a ^ (d * 2 ^ j) * a ^ (d * 2 ^ j) := by
  rw [← Nat.pow_add, Nat.pow_succ]
  congr 1
  rw [Nat.mul_comm (2 ^ j) 2, Nat.two_mul, Nat.mul_add]
theorem st_up {N a d i : Nat} (h1 : 2 < N) (h : a ^ (d * 2 ^ i) % N = 1) : ∀ k, a ^ (d * 2 ^ (i + k)) % N = 1
  | 0 => h
  | k + 1 => by rw [show i + (k + 1) = (i + k) + 1 by omega, st_sq]; exact st_one (by omega) (st_up h1 h k)
theorem st_upn {N a d i : Nat} (h1 : 2 < N) (h : a ^ (d * 2 ^ i) % N = N - 1) (k : Nat) : a ^ (d * 2 ^ (i + 1 + k)) % N = 1 := st_up h1 (by rw [st_sq]; exact st_neg h1 h) k
theorem st_ch {N a d : Nat} (h1 : 2 < N) (hd : d % 2 = 1) : ∀ (j f : Nat), (a ^ d % N = 1 ∨ ∃ i, i ≤ j ∧ a ^ (d * 2 ^ i) % N = N - 1) → np_ch N a f (d * 2 ^ j) = true := by
  intro j
  induction j with
  | zero =>
    intro f h
    cases f with
    | zero => rfl
    | succ f =>
      rw [np_ch, np_pw_eq, Nat.pow_zero, Nat.mul_one]
      rcases h with h | ⟨i, hi, h⟩
      · rw [h, show Nat.mod d 2 = 1 from hd]; simp
      · have : i = 0 := by omega
        subst this
        rw [Nat.pow_zero, Nat.mul_one] at h
        rw [h]; simp
  | succ j ih =>
    intro f h
    cases f with
    | zero => rfl
    | succ f =>
      have hdiv : Nat.div (d * 2 ^ (j + 1)) 2 = d * 2 ^ j := by
        show d * 2 ^ (j + 1) / 2 = _
        rw [Nat.pow_succ, ← Nat.mul_assoc, Nat.mul_div_cancel _ (by omega)]
      rw [np_ch, np_pw_eq, hdiv]
      rcases h with h | ⟨i, hi, h⟩
      · have h2 : a ^ (d * 2 ^ (j + 1)) % N = 1 := by
          have := st_up (i := 0) h1 (by rw [Nat.pow_zero, Nat.mul_one]; exact h) (j + 1)
          rwa [Nat.zero_add] at this
        rw [h2, ih f (Or.inl h)]; simp
      · by_cases hij : i = j + 1
        · subst hij
          rw [h]; simp
        · have h2 : a ^ (d * 2 ^ (j + 1)) % N = 1 := by
            have := st_upn h1 h (j - i)
            rwa [show i + 1 + (j - i) = j + 1 by omega] at this
          rw [h2, ih f (Or.inr ⟨i, by omega, h⟩)]; simp
/-- what passes the test: the power is 1, and the chain from above holds -/
theorem st_D1 {N a d s : Nat} (h1 : 2 < N) (hd : d % 2 = 1) (hs : d * 2 ^ s = N - 1) (h : nb_LP N a d s) : a ^ (N - 1) % N = 1 ∧ ∀ f, np_ch N a f (N - 1) = true := by
  refine ⟨?_, fun f => ?_⟩
  · rw [← hs]
    rcases h with h | ⟨i, hi, h⟩
    · have := st_up (i := 0) h1 (by rw [Nat.pow_zero, Nat.mul_one]; exact h) s
      rwa [Nat.zero_add] at this
    · have := st_upn h1 h (s - i - 1)
      rwa [show i + 1 + (s - i - 1) = s by omega] at this
  · rw [← hs]
    refine st_ch h1 hd s f ?_
    rcases h with h | ⟨i, hi, h⟩
    · exact Or.inl h
    · exact Or.inr ⟨i, by omega, h⟩
theorem st_root {N x : Nat} (hp : np_pr N) (h : x * x % N = 1) : x % N = 1 ∨ x % N = N - 1 := by
  have h1 := hp.1
  have hy : x % N < N := Nat.mod_lt _ (by omega)
  rw [Nat.mul_mod] at h
  generalize x % N = y at h hy
  cases y with
  | zero => rw [Nat.zero_mul, Nat.zero_mod] at h; omega
  | succ y =>
    have hd : N ∣ y * (y + 2) := by
      have e : (y + 1) * (y + 1) = y * (y + 2) + 1 := by
        simp only [Nat.add_mul, Nat.mul_add, Nat.mul_one, Nat.one_mul]
        omega
      have e2 := Nat.div_add_mod ((y + 1) * (y + 1)) N
      rw [h, e] at e2
      exact ⟨(y * (y + 2) + 1) / N, by omega⟩
    rcases np_euclid hp hd with h3 | h3
    · left
      have := Nat.eq_zero_of_dvd_of_lt h3 (by omega)
      omega
    · right
      have := Nat.le_of_dvd (by omega) h3
      omega
theorem st_down {N a d : Nat} (hp : np_pr N) : ∀ j, a ^ (d * 2 ^ j) % N = 1 → a ^ d % N = 1 ∨ ∃ i, i < j ∧ a ^ (d * 2 ^ i) % N = N - 1
  | 0, h => by rw [Nat.pow_zero, Nat.mul_one] at h; exact Or.inl h
  | j + 1, h => by
    rw [st_sq] at h
    rcases st_root hp h with h2 | h2
    · rcases st_down hp j h2 with h3 | ⟨i, hi, h3⟩
      · exact Or.inl h3
      · exact Or.inr ⟨i, by omega, h3⟩
    · exact Or.inr ⟨j, by omega, h2⟩
/-- a prime passes -/
theorem st_D2 {N a d s : Nat} (hp : np_pr N) (ha : ¬ N ∣ a) (hs : d * 2 ^ s = N - 1) : nb_LP N a d s := st_down hp s (by rw [hs]; exact np_fermat hp ha)
