/-! the reference's test of primes: dividing -/
theorem tr_cmp (x y : Int64) : (0 < lg_cmp x y) ↔ y < x := by
  unfold lg_cmp
  by_cases h : x > y
  · rw [if_pos h]; exact ⟨fun _ => h, fun _ => by decide⟩
  · rw [if_neg h]
    by_cases h2 : x = y
    · rw [if_pos h2]; exact ⟨fun h3 => absurd h3 (by decide), fun h3 => absurd h3 h⟩
    · rw [if_neg h2]; exact ⟨fun h3 => absurd h3 (by decide), fun h3 => absurd h3 h⟩
theorem tr_lt {x y : Nat} (hx : x < 2 ^ 63) (hy : y < 2 ^ 63) : (Int64.ofNat x < Int64.ofNat y) ↔ x < y := by
  rw [Int64.lt_iff_toInt_lt, Int64.toInt_ofNat_of_lt (by omega), Int64.toInt_ofNat_of_lt (by omega)]
  omega
theorem tr_mod {N v : Nat} (hN : N < 2147483648) (hv : v < 2147483648) : Int32.ofNat N - Int32.ofNat N / Int32.ofNat v * Int32.ofNat v = Int32.ofNat (N % v) := by
  rw [← Int32.ofNat_div (by omega) (by omega), ← Int32.ofNat_mul, ← Int32.ofNat_sub _ _ (Nat.div_mul_le_self _ _), Nat.mod_def, Nat.mul_comm v]
theorem tr_pr {N v : Nat} (h1 : 1 < N) (hv : N < v * v) (hd : ∀ d, 2 ≤ d → d < v → ¬ d ∣ N) : np_pr N := by
  refine ⟨h1, fun d hdv => ?_⟩
  obtain ⟨e, he⟩ := hdv
  by_cases h2 : d < 2
  · rcases (show d = 0 ∨ d = 1 by omega) with h | h
    · subst h; rw [Nat.zero_mul] at he; omega
    · exact Or.inl h
  · right
    have hvd : v ≤ d := Nat.not_lt.mp fun h => hd d (by omega) h ⟨e, he⟩
    by_cases h3 : e < 2
    · rcases (show e = 0 ∨ e = 1 by omega) with h | h
      · subst h; rw [Nat.mul_zero] at he; omega
      · subst h; rw [Nat.mul_one] at he; exact he.symm
    · exfalso
      have hve : v ≤ e := Nat.not_lt.mp fun h => hd e (by omega) h ⟨d, by rw [Nat.mul_comm]; exact he⟩
      have := Nat.mul_le_mul hvd hve
      omega
theorem tr_2 {N : Nat} (hN : N < 2147483648) : ∀ (k n v : Nat), v + k = 46342 → k < n → 2 ≤ v → (∀ d, 2 ≤ d → d < v → ¬ d ∣ N) →
    ∃ r : Int32, ff_M_isPrime_2 n (Int32.ofNat N) (Int32.ofNat v) = some r ∧ ((r = 1 ∧ np_pr N) ∨ (r = 0 ∧ ¬ np_pr N)) := by
  have fin : ∀ (v : Nat), N < v * v → (∀ d, 2 ≤ d → d < v → ¬ d ∣ N) → ∃ r : Int32, (if Int32.ofNat N ≤ (1 : Int32) then (some (0 : Int32)) else (some (1 : Int32))) = some r ∧ ((r = 1 ∧ np_pr N) ∨ (r = 0 ∧ ¬ np_pr N)) := fun v hv hd => by
    by_cases h1 : N ≤ 1
    · rw [if_pos (show Int32.ofNat N ≤ 1 from (nb_le (y := 1) hN (by omega)).mpr h1)]
      exact ⟨0, rfl, Or.inr ⟨rfl, fun hp => by have := hp.1; omega⟩⟩
    · rw [if_neg (show ¬ Int32.ofNat N ≤ 1 from fun h => h1 ((nb_le (y := 1) hN (by omega)).mp h))]
      exact ⟨1, rfl, Or.inl ⟨rfl, tr_pr (by omega) hv hd⟩⟩
  intro k
  induction k with
  | zero =>
    intro n v hv hn h2 hd
    obtain ⟨n, rfl⟩ : ∃ q, n = q + 1 := ⟨n - 1, by omega⟩
    have : v = 46342 := by omega
    subst this
    rw [ff_M_isPrime_2, nb_64 (by omega), nb_64 hN, ← Int64.ofNat_mul, if_pos ((tr_cmp _ _).mpr ((tr_lt (by omega) (by omega)).mpr (by omega)))]
    exact fin 46342 (by omega) hd
  | succ k ih =>
    intro n v hv hn h2 hd
    obtain ⟨n, rfl⟩ : ∃ q, n = q + 1 := ⟨n - 1, by omega⟩
    have hvv : v * v < 2 ^ 63 := Nat.lt_of_le_of_lt (Nat.mul_le_mul (show v ≤ 46342 by omega) (show v ≤ 46342 by omega)) (by decide)
    rw [ff_M_isPrime_2, nb_64 (by omega), nb_64 hN, ← Int64.ofNat_mul]
    by_cases hc : N < v * v
    · rw [if_pos ((tr_cmp _ _).mpr ((tr_lt (by omega) hvv).mpr hc))]
      exact fin v hc hd
    · rw [if_neg (fun h => hc ((tr_lt (by omega) hvv).mp ((tr_cmp _ _).mp h))), if_pos (show ¬ Int32.ofNat v = 0 from fun h => by have := (nb_inj (y := 0) (by omega) (by omega)).mp h; omega)]
      dsimp only [tl]
      have hml : N % v < v := Nat.mod_lt _ (by omega)
      rw [tr_mod hN (by omega)]
      by_cases hm : N % v = 0
      · rw [if_pos (by rw [hm]; rfl)]
        refine ⟨0, rfl, Or.inr ⟨rfl, fun hp => ?_⟩⟩
        have h3 : 2 * v ≤ v * v := Nat.mul_le_mul_right v h2
        rcases hp.2 v (Nat.dvd_of_mod_eq_zero hm) with h | h <;> omega
      · rw [if_neg (show ¬ Int32.ofNat (N % v) = 0 from fun h => hm ((nb_inj (y := 0) (by omega) (by omega)).mp h)), show Int32.ofNat v + 1 = Int32.ofNat (v + 1) from sm_suc]
        refine ih n (v + 1) (by omega) (by omega) (by omega) (fun d h3 h4 => ?_)
        by_cases h5 : d = v
        · subst h5; exact fun h => hm (Nat.mod_eq_zero_of_dvd h)
        · exact hd d h3 (by omega)
theorem tr_isPrime {N : Nat} (hN : N < 2147483648) : ∃ r : Int32, ff_M_isPrime 50000 (Int32.ofNat N) = some r ∧ ((r = 1 ∧ np_pr N) ∨ (r = 0 ∧ ¬ np_pr N)) := tr_2 hN 46340 50000 2 (by omega) (by omega) (by omega) (fun d h1 h2 => by omega)
