/-! prime: class and reference agree -/
theorem pq_nat {a : Int32} (h : ¬ a ≤ 65536) : ∃ N : Nat, a = Int32.ofNat N ∧ 65536 < N ∧ N < 2147483648 := by
  have h1 : (65536 : Int) < a.toInt := by
    have := Int32.not_le.mp h
    exact Int32.lt_iff_toInt_lt.mp this
  have h2 : a.toInt < 2147483648 := Int32.toInt_lt a
  refine ⟨a.toInt.toNat, ?_, by omega, by omega⟩
  rw [← Int32.ofInt_eq_ofNat, Int.toNat_of_nonneg (by omega), Int32.ofInt_toInt]
theorem pq_23 {N : Nat} (h0 : 0 < N) (hN : N < 2147483648) (J : MJ) : ∀ (k n : Nat) (I : MI), k ≤ 52 → k < n → ∃ r, ff_O_prime_23 n I J (Int32.ofNat N) (Int32.ofNat (52 - k)) = some r ∧ r.1 = 1 := by
  intro k
  induction k with
  | zero =>
    intro n I _ hn
    obtain ⟨n, rfl⟩ : ∃ q, n = q + 1 := ⟨n - 1, by omega⟩
    rw [ff_O_prime_23, if_pos (by decide)]
    exact ⟨_, rfl, rfl⟩
  | succ k ih =>
    intro n I hk hn
    obtain ⟨n, rfl⟩ : ∃ q, n = q + 1 := ⟨n - 1, by omega⟩
    have e2 : Int32.ofNat (52 - (k + 1)) + 2 = Int32.ofNat (52 - (k + 1) + 2) := (Int32.ofNat_add _ 2).symm
    rw [ff_O_prime_23, if_neg (show ¬ (52 : Int32) ≤ Int32.ofNat (52 - (k + 1)) from fun h => by have := (nb_le (x := 52) (by omega) (by omega)).mp h; omega), if_pos (by decide)]
    unfold ff_N_ofCard
    rw [e2, nb_times (by omega) (by omega) h0 hN, Option.bind_some, Option.bind_some, if_pos (sm_in (by omega) (by omega)), sm_suc, show 52 - (k + 1) + 1 = 52 - k by omega]
    exact ih n _ (by omega) (by omega)
theorem pq_deck (J : MJ) : ∀ (k n : Nat) (I : MI), I 0 1 ≠ 0 → k ≤ 52 → k < n → ∃ r, ff_M_beginDeck_2 n I J (Int32.ofNat (52 - k)) = some r := by
  intro k
  induction k with
  | zero =>
    intro n I _ _ hn
    obtain ⟨n, rfl⟩ : ∃ q, n = q + 1 := ⟨n - 1, by omega⟩
    rw [ff_M_beginDeck_2, if_pos (by decide)]
    exact ⟨_, rfl⟩
  | succ k ih =>
    intro n I hI hk hn
    obtain ⟨n, rfl⟩ : ∃ q, n = q + 1 := ⟨n - 1, by omega⟩
    rw [ff_M_beginDeck_2, if_neg (show ¬ (52 : Int32) ≤ Int32.ofNat (52 - (k + 1)) from fun h => by have := (nb_le (x := 52) (by omega) (by omega)).mp h; omega), if_pos hI]
    dsimp only [tl]
    have hb := sm_in (j := 52 - (k + 1)) (N := 468) (by omega) (by omega)
    rw [if_pos hb, sm_suc, show 52 - (k + 1) + 1 = 52 - k by omega]
    exact ih n _ (by rw [ui_else I _ _ (by decide)]; exact hI) (by omega) (by omega)
theorem pq_odd2 {q : Nat} (h : 2 < q) (he : q % 2 = 0) : ¬ np_pr q := fun hp => by
  rcases hp.2 2 (Nat.dvd_of_mod_eq_zero he) with h1 | h1 <;> omega
/-- the class's test says 1 just where both are primes; the reference's as well -/
theorem pq_O {N : Nat} (h1 : 65536 < N) (hN : N < 2147483648) : ∃ r : Int32, ff_N_isTablePrime 500 (Int32.ofNat N) = some r ∧ ((r = 1 ∧ N % 2 = 1 ∧ np_pr N ∧ np_pr ((N - 1) / 2)) ∨ (r = 0 ∧ ¬ (N % 2 = 1 ∧ np_pr N ∧ np_pr ((N - 1) / 2)))) := by
  unfold ff_N_isTablePrime
  have hq : (Int32.ofNat N - 1) / 2 = Int32.ofNat ((N - 1) / 2) := by rw [nb_pred (by omega), nb_half (by omega)]
  rw [if_neg (show ¬ Int32.ofNat N ≤ 65536 from fun h => by have := (nb_le (y := 65536) hN (by omega)).mp h; omega), hq]
  by_cases ho : N % 2 = 1
  · obtain ⟨r2, e2, f2⟩ := tp_isPrime (n := 500) (by omega) ho hN (by omega)
    rw [e2, Option.bind_some]
    rcases f2.symm with ⟨hr, hp⟩ | ⟨hr, hp⟩
    · rw [if_pos hr]; exact ⟨0, rfl, Or.inr ⟨rfl, fun h => hp h.2.1⟩⟩
    · rw [if_neg (by rw [hr]; decide)]
      by_cases hqo : (N - 1) / 2 % 2 = 1
      · obtain ⟨r4, e4, f4⟩ := tp_isPrime (N := (N - 1) / 2) (n := 500) (by omega) hqo (by omega) (by omega)
        rw [e4, Option.bind_some]
        rcases f4.symm with ⟨hr4, hp4⟩ | ⟨hr4, hp4⟩
        · rw [if_pos hr4]; exact ⟨0, rfl, Or.inr ⟨rfl, fun h => hp4 h.2.2⟩⟩
        · rw [if_neg (by rw [hr4]; decide)]
          have hN2 : N = 2 * ((N - 1) / 2) + 1 := by omega
          have hb := tp_both (q := (N - 1) / 2) (by omega) (by omega) hqo (by rw [← hN2]; exact hp) hp4
          rw [← hN2] at hb
          exact ⟨1, rfl, Or.inl ⟨rfl, ho, hb.2, hb.1⟩⟩
      · rw [tp_even (by omega) (by omega) (by omega) (by omega), Option.bind_some, if_pos rfl]
        exact ⟨0, rfl, Or.inr ⟨rfl, fun h => pq_odd2 (by omega) (by omega) h.2.2⟩⟩
  · rw [tp_even (by omega) (by omega) hN (by omega), Option.bind_some, if_pos rfl]
    exact ⟨0, rfl, Or.inr ⟨rfl, fun h => ho h.1⟩⟩
/-- prime, wherever no prime has been taken -/
theorem pq_prime (I : MI) (J : MJ) (I' : MI) (J' : MJ) (hI : I 0 0 = 0) (hI' : I' 0 1 = 0) (a : Int32) : ∃ n r n' r', ff_O_prime n I J a = some r ∧ ff_M_prime n' I' J' a = some r' ∧ r.1 = r'.1 := by
  have hI2 : (ui I' 0 0 (0 : Int32)) 0 1 = 0 := by rw [ui_row]; exact hI'
  by_cases ha : a ≤ 65536
  · refine ⟨500, (0, I, J), 50000, (0, ui I' 0 0 0, J'), ?_, ?_, rfl⟩
    · unfold ff_O_prime ff_N_isTablePrime
      rw [if_pos hI, if_pos ha, Option.bind_some, if_pos rfl]
    · unfold ff_M_prime
      rw [if_pos hI2, if_pos ha]
  · obtain ⟨N, rfl, h1, h2⟩ := pq_nat ha
    obtain ⟨r, e1, f1⟩ := pq_O h1 h2
    obtain ⟨r5, e5, f5⟩ := tr_isPrime h2
    obtain ⟨r7, e7, f7⟩ := tr_isPrime (N := (N - 1) / 2) (by omega)
    have hq : (Int32.ofNat N - 1) / 2 = Int32.ofNat ((N - 1) / 2) := by rw [nb_pred (by omega), nb_half (by omega)]
    have hml : N % 2 < 2 := Nat.mod_lt _ (by omega)
    unfold ff_O_prime ff_M_prime
    rcases f1 with ⟨hr, p1, p2, p3⟩ | ⟨hr, hp⟩
    · obtain ⟨ro, g1, g2⟩ := pq_23 (N := N) (by omega) h2 J 52 500 (ui I 0 0 (Int32.ofNat N)) (by omega) (by omega)
      have g1 : ff_O_prime_23 500 (ui I 0 0 (Int32.ofNat N)) J (Int32.ofNat N) 0 = some ro := g1
      have hIm : (ui (ui (ui I' 0 0 (0 : Int32)) 0 1 (Int32.ofNat N)) 0 2 ((Int32.ofNat N - 1) / 2)) 0 1 ≠ 0 := by
        rw [ui_row]
        show (if (1 : Nat) = 2 then _ else (ui (ui I' 0 0 (0 : Int32)) 0 1 (Int32.ofNat N)) 0 1) ≠ 0
        rw [if_neg (by decide), ui_row]
        show (if (1 : Nat) = 1 then Int32.ofNat N else _) ≠ 0
        rw [if_pos rfl]
        exact fun h => by have := (nb_inj (y := 0) h2 (by omega)).mp h; omega
      obtain ⟨rm, g3⟩ := pq_deck J' 52 50000 _ hIm (by omega) (by omega)
      have g3 : ff_M_beginDeck 50000 (ui (ui (ui I' 0 0 (0 : Int32)) 0 1 (Int32.ofNat N)) 0 2 ((Int32.ofNat N - 1) / 2)) J' = some rm := g3
      refine ⟨500, ro, 50000, (1, rm.1, rm.2), ?_, ?_, g2⟩
      · rw [if_pos hI, e1, Option.bind_some, if_neg (by rw [hr]; decide)]
        exact g1
      · rw [if_pos hI2, if_neg ha]
        dsimp only [tl]
        rw [nb_odd h2, if_neg (show ¬ Int32.ofNat (N % 2) = 0 from fun h => by have := (nb_inj (y := 0) (by omega) (by omega)).mp h; omega), e5, Option.bind_some]
        rw [if_neg (by rcases f5 with ⟨h, _⟩ | ⟨_, h⟩; rw [h]; decide; exact absurd p2 h)]
        rw [g3, hq, e7, Option.bind_some, if_neg (by rcases f7 with ⟨h, _⟩ | ⟨_, h⟩; rw [h]; decide; exact absurd p3 h), Option.bind_some]
    · refine ⟨500, (0, I, J), 50000, (0, ui I' 0 0 0, J'), ?_, ?_, rfl⟩
      · rw [if_pos hI, e1, Option.bind_some, if_pos hr]
      · rw [if_pos hI2, if_neg ha]
        dsimp only [tl]
        rw [nb_odd h2]
        by_cases ho : N % 2 = 0
        · rw [if_pos (by rw [ho]; rfl)]
        · rw [if_neg (show ¬ Int32.ofNat (N % 2) = 0 from fun h => ho ((nb_inj (y := 0) (by omega) (by omega)).mp h)), e5, Option.bind_some]
          rcases f5.symm with ⟨h5, p5⟩ | ⟨h5, p5⟩
          · rw [if_pos h5]
          · rw [if_neg (by rw [h5]; decide), hq, e7, Option.bind_some]
            rcases f7.symm with ⟨h7, p7⟩ | ⟨h7, p7⟩
            · rw [if_pos h7]
            · exact absurd ⟨by omega, p5, p7⟩ hp
