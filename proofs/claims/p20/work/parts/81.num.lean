/-! the numbers' methods, as numbers -/
theorem nb_64 {x : Nat} (h : x < 2147483648) : (Int32.ofNat x).toInt64 = Int64.ofNat x := Int32.toInt64_ofNat' (by show (x : Int) ≤ 2147483647; omega)
theorem nb_le {x y : Nat} (hx : x < 2147483648) (hy : y < 2147483648) : (Int32.ofNat x ≤ Int32.ofNat y) ↔ x ≤ y := Int32.ofNat_le_ofNat (by omega) (by omega)
theorem nb_inj {x y : Nat} (hx : x < 2147483648) (hy : y < 2147483648) : (Int32.ofNat x = Int32.ofNat y) ↔ x = y := by
  constructor
  · intro h
    have h1 := congrArg Int32.toInt h
    rw [Int32.toInt_ofNat_of_lt (by omega), Int32.toInt_ofNat_of_lt (by omega)] at h1
    omega
  · intro h; rw [h]
theorem nb_times {n x y m : Nat} (hx : x < 2147483648) (hy : y < 2147483648) (h0 : 0 < m) (hm : m < 2147483648) : ff_N_times n (Int32.ofNat x) (Int32.ofNat y) (Int32.ofNat m) = some (Int32.ofNat (x * y % m)) := by
  unfold ff_N_times
  have hxy : x * y < 2 ^ 63 := Nat.lt_of_le_of_lt (Nat.mul_le_mul (show x ≤ 2147483647 by omega) (show y ≤ 2147483647 by omega)) (by decide)
  have h1 : ¬ Int32.ofNat m ≤ 0 := fun h => by
    have := (nb_le (y := 0) hm (by omega)).mp h
    omega
  have h2 : ¬ Int64.ofNat m = 0 := fun h => by
    have h3 := congrArg Int64.toInt h
    rw [Int64.toInt_ofNat_of_lt (by omega)] at h3
    have h4 : (m : Int) = 0 := h3
    omega
  rw [if_neg h1, nb_64 hx, nb_64 hy, nb_64 hm, if_pos h2]
  dsimp only [tl]
  rw [← Int64.ofNat_mul, ← Int64.ofNat_div hxy (by omega), ← Int64.ofNat_mul, ← Int64.ofNat_sub _ _ (Nat.div_mul_le_self _ _), Int64.toInt32_ofNat']
  rw [show x * y - x * y / m * m = x * y % m by rw [Nat.mod_def, Nat.mul_comm m]]
theorem nb_half {e : Nat} (h : e < 2147483648) : Int32.ofNat e / 2 = Int32.ofNat (e / 2) := (Int32.ofNat_div (a := e) (b := 2) (by omega) (by omega)).symm
theorem nb_odd {e : Nat} (h : e < 2147483648) : Int32.ofNat e - Int32.ofNat e / 2 * 2 = Int32.ofNat (e % 2) := by
  rw [nb_half h, show (2 : Int32) = Int32.ofNat 2 from rfl, ← Int32.ofNat_mul, ← Int32.ofNat_sub _ _ (by omega)]
  rw [show e - e / 2 * 2 = e % 2 by omega]
theorem nb_pstep (r b e m : Nat) : ((if e % 2 = 1 then r * b % m else r) * (b * b % m) ^ (e / 2)) % m = r * b ^ e % m := by
  have h1 : (b * b) ^ (e / 2) * b ^ (e % 2) = b ^ e := by
    rw [← Nat.pow_two, ← Nat.pow_mul, ← Nat.pow_add, show 2 * (e / 2) + e % 2 = e by omega]
  by_cases h : e % 2 = 1
  · rw [if_pos h]
    rw [h, Nat.pow_one] at h1
    rw [Nat.mul_mod, Nat.mod_mod, ← Nat.pow_mod, ← Nat.mul_mod, Nat.mul_assoc, Nat.mul_comm b, h1]
  · rw [if_neg h]
    rw [show e % 2 = 0 by omega, Nat.pow_zero, Nat.mul_one] at h1
    rw [Nat.mul_mod, ← Nat.pow_mod, ← Nat.mul_mod, h1]
theorem nb_pow8 {m : Nat} (h0 : 0 < m) (hm : m < 2147483648) (v0 v1 : Int32) : ∀ (k n r b e : Nat), e < 2 ^ k → k < n → e < 2147483648 → r < m → b < 2147483648 → ff_N_power_8 n v0 v1 (Int32.ofNat m) (Int32.ofNat r) (Int32.ofNat b) (Int32.ofNat e) = some (Int32.ofNat (r * b ^ e % m)) := by
  intro k
  induction k with
  | zero =>
    intro n r b e he hn _ hr hb
    obtain ⟨n, rfl⟩ : ∃ q, n = q + 1 := ⟨n - 1, by omega⟩
    have : e = 0 := by simpa using he
    subst this
    rw [ff_N_power_8, if_pos (by decide), Nat.pow_zero, Nat.mul_one, Nat.mod_eq_of_lt hr]
  | succ k ih =>
    intro n r b e he hn he2 hr hb
    obtain ⟨n, rfl⟩ : ∃ q, n = q + 1 := ⟨n - 1, by omega⟩
    rw [ff_N_power_8]
    by_cases hz : e = 0
    · subst hz
      rw [if_pos (by decide), Nat.pow_zero, Nat.mul_one, Nat.mod_eq_of_lt hr]
    · have h1 : ¬ Int32.ofNat e ≤ 0 := fun h => by
        have := (nb_le (y := 0) he2 (by omega)).mp h
        omega
      have hbb : b * b % m < 2147483648 := Nat.lt_trans (Nat.mod_lt _ h0) hm
      have he3 : e / 2 < 2 ^ k := by rw [Nat.pow_succ] at he; omega
      rw [if_neg h1]
      dsimp only [tl]
      rw [nb_odd he2, ← nb_pstep r b e m]
      by_cases ho : e % 2 = 1
      · rw [if_pos (show Int32.ofNat (e % 2) = 1 from congrArg Int32.ofNat ho), if_pos ho, nb_times (by omega) hb h0 hm, Option.bind_some]
        dsimp only [ff_N_power_29, tl]
        rw [nb_times hb hb h0 hm, Option.bind_some, nb_half he2]
        exact ih n _ _ _ he3 (by omega) (by omega) (Nat.mod_lt _ h0) hbb
      · rw [if_neg (show ¬ Int32.ofNat (e % 2) = 1 from fun h => ho ((nb_inj (y := 1) (by omega) (by omega)).mp h)), if_neg ho]
        dsimp only [ff_N_power_29, tl]
        rw [nb_times hb hb h0 hm, Option.bind_some, nb_half he2]
        exact ih n _ _ _ he3 (by omega) (by omega) hr hbb
theorem nb_power {n a e m : Nat} (h1 : 1 < m) (hm : m < 2147483648) (ha : a < 2147483648) (he : e < 2147483648) (hn : 31 < n) : ff_N_power n (Int32.ofNat a) (Int32.ofNat e) (Int32.ofNat m) = some (Int32.ofNat (a ^ e % m)) := by
  unfold ff_N_power
  have h := nb_pow8 (by omega) hm (Int32.ofNat a) (Int32.ofNat e) 31 n 1 a e (by omega) hn he h1 ha
  rw [Nat.one_mul] at h
  exact h
