/-! the class's test of primes, as numbers -/
theorem nbf {x y : Nat} (h : x ≠ y) : Nat.beq x y = false := by
  cases hh : Nat.beq x y with
  | false => rfl
  | true => exact absurd (Nat.eq_of_beq_eq_true hh) h
/-- what all four tests say -/
def tp_all (N : Nat) : Prop := ∀ a, a = 2 ∨ a = 3 ∨ a = 5 ∨ a = 7 → a ^ (N - 1) % N = 1 ∧ ∀ f, np_ch N a f (N - 1) = true
theorem tp_looks {N n a : Nat} (h1 : 2 < N) (ho : N % 2 = 1) (hN : N < 2147483648) (ha : a < 2147483648) (hn : 300 < n) : ∃ r : Int32, ff_N_looksPrime n (Int32.ofNat N) (Int32.ofNat a) = some r ∧ ((r = 1 ∧ a ^ (N - 1) % N = 1 ∧ ∀ f, np_ch N a f (N - 1) = true) ∨ (r = 0 ∧ (np_pr N → N ∣ a))) := by
  obtain ⟨r, s, d, g1, g2, g3, g4, g5⟩ := nb_looks h1 ho hN ha hn
  refine ⟨r, g4, ?_⟩
  rcases g5 with ⟨hr, h⟩ | ⟨hr, h⟩
  · exact Or.inl ⟨hr, st_D1 h1 g1 g2 h⟩
  · exact Or.inr ⟨hr, fun hp => Classical.byContradiction fun hd => h (st_D2 hp hd g2)⟩
theorem tp_isPrime {N n : Nat} (h1 : 7 < N) (ho : N % 2 = 1) (hN : N < 2147483648) (hn : 400 < n) : ∃ r : Int32, ff_N_isPrime n (Int32.ofNat N) = some r ∧ ((r = 1 ∧ tp_all N) ∨ (r = 0 ∧ ¬ np_pr N)) := by
  unfold ff_N_isPrime
  obtain ⟨n, rfl⟩ : ∃ q, n = q + 5 := ⟨n - 5, by omega⟩
  have nd : ∀ a, 0 < a → a ≤ 7 → ¬ N ∣ a := fun a h2 h3 h4 => by
    have := Nat.le_of_dvd h2 h4
    omega
  obtain ⟨r2, e2, f2⟩ := tp_looks (n := n + 4) (a := 2) (by omega) ho hN (by omega) (by omega)
  obtain ⟨r3, e3, f3⟩ := tp_looks (n := n + 3) (a := 3) (by omega) ho hN (by omega) (by omega)
  obtain ⟨r5, e5, f5⟩ := tp_looks (n := n + 2) (a := 5) (by omega) ho hN (by omega) (by omega)
  obtain ⟨r7, e7, f7⟩ := tp_looks (n := n + 1) (a := 7) (by omega) ho hN (by omega) (by omega)
  have k2 : ff_N_looksPrime (n + 4) (Int32.ofNat N) (wtv (0 : Int32).toNatClampNeg) = some r2 := e2
  have k3 : ff_N_looksPrime (n + 3) (Int32.ofNat N) (wtv (0 + 1 : Int32).toNatClampNeg) = some r3 := e3
  have k5 : ff_N_looksPrime (n + 2) (Int32.ofNat N) (wtv (0 + 1 + 1 : Int32).toNatClampNeg) = some r5 := e5
  have k7 : ff_N_looksPrime (n + 1) (Int32.ofNat N) (wtv (0 + 1 + 1 + 1 : Int32).toNatClampNeg) = some r7 := e7
  rw [ff_N_isPrime_2, if_neg (by decide), if_pos (by decide), k2, Option.bind_some]
  rcases f2.symm with ⟨hr2, p2⟩ | ⟨hr2, p2⟩
  · rw [if_pos hr2]; exact ⟨0, rfl, Or.inr ⟨rfl, fun hp => nd 2 (by omega) (by omega) (p2 hp)⟩⟩
  rw [if_neg (by rw [hr2]; decide), ff_N_isPrime_2, if_neg (by decide), if_pos (by decide), k3, Option.bind_some]
  rcases f3.symm with ⟨hr3, p3⟩ | ⟨hr3, p3⟩
  · rw [if_pos hr3]; exact ⟨0, rfl, Or.inr ⟨rfl, fun hp => nd 3 (by omega) (by omega) (p3 hp)⟩⟩
  rw [if_neg (by rw [hr3]; decide), ff_N_isPrime_2, if_neg (by decide), if_pos (by decide), k5, Option.bind_some]
  rcases f5.symm with ⟨hr5, p5⟩ | ⟨hr5, p5⟩
  · rw [if_pos hr5]; exact ⟨0, rfl, Or.inr ⟨rfl, fun hp => nd 5 (by omega) (by omega) (p5 hp)⟩⟩
  rw [if_neg (by rw [hr5]; decide), ff_N_isPrime_2, if_neg (by decide), if_pos (by decide), k7, Option.bind_some]
  rcases f7.symm with ⟨hr7, p7⟩ | ⟨hr7, p7⟩
  · rw [if_pos hr7]; exact ⟨0, rfl, Or.inr ⟨rfl, fun hp => nd 7 (by omega) (by omega) (p7 hp)⟩⟩
  rw [if_neg (by rw [hr7]; decide), ff_N_isPrime_2, if_pos (by decide)]
  refine ⟨1, rfl, Or.inl ⟨rfl, ?_⟩⟩
  intro a ha
  rcases ha with rfl | rfl | rfl | rfl
  · exact p2
  · exact p3
  · exact p5
  · exact p7
/-- an even number is no prime for the class -/
theorem tp_even {N n : Nat} (h1 : 7 < N) (he : N % 2 = 0) (hN : N < 2147483648) (hn : 400 < n) : ff_N_isPrime n (Int32.ofNat N) = some 0 := by
  obtain ⟨n, rfl⟩ : ∃ q, n = q + 2 := ⟨n - 2, by omega⟩
  have k2 : ff_N_looksPrime (n + 1) (Int32.ofNat N) (wtv (0 : Int32).toNatClampNeg) = some 0 := by
    show ff_N_looksPrime (n + 1) (Int32.ofNat N) (Int32.ofNat 2) = some 0
    unfold ff_N_looksPrime
    dsimp only [tl]
    rw [nb_pred (by omega), ff_N_looksPrime_9, if_neg (by decide)]
    dsimp only [tl]
    rw [nb_odd (by omega), if_neg (show ¬ Int32.ofNat ((N - 1) % 2) = 0 from fun h => by have := (nb_inj (y := 0) (by omega) (by omega)).mp h; omega)]
    unfold ff_N_looksPrime_35
    rw [nb_power (by omega) hN (by omega) (by omega) (by omega), Option.bind_some, nb_pred (by omega)]
    have hev : 2 ^ (N - 1) % N % 2 = 0 := by
      rw [Nat.mod_mod_of_dvd _ (Nat.dvd_of_mod_eq_zero he)]
      obtain ⟨k, hk⟩ : ∃ k, N - 1 = k + 1 := ⟨N - 2, by omega⟩
      rw [hk, Nat.pow_succ, Nat.mul_mod_left]
    have hlt : 2 ^ (N - 1) % N < N := Nat.mod_lt _ (by omega)
    rw [if_neg (show ¬ Int32.ofNat (2 ^ (N - 1) % N) = 1 from fun h => by have := (nb_inj (y := 1) (by omega) (by omega)).mp h; omega), if_neg (fun h => by have := (nb_inj (by omega) (by omega)).mp h; omega)]
    obtain ⟨n, rfl⟩ : ∃ q, n = q + 1 := ⟨n - 1, by omega⟩
    rw [ff_N_looksPrime_62, if_pos (by decide)]
  unfold ff_N_isPrime
  rw [ff_N_isPrime_2, if_neg (by decide), if_pos (by decide), k2, Option.bind_some, if_pos rfl]
theorem tp_nd {N a : Nat} (ha : a = 2 ∨ a = 3 ∨ a = 5 ∨ a = 7) (h1 : 7 < N) (h : tp_all N) : N % a ≠ 0 := fun h0 => by
  have h2 := (h a ha).1
  have hs : 1 < a := by omega
  exact np_notdvd (n := N) hs (by omega) (np_mod_dvd hs (Nat.dvd_of_mod_eq_zero h0) h2) (Nat.dvd_refl a)
/-- the heart: both pass, so both are primes -/
theorem tp_both {q : Nat} (h1 : 32767 < q) (h2 : q < 1073741824) (ho : q % 2 = 1) (hp : tp_all (2 * q + 1)) (hq : tp_all q) : np_pr q ∧ np_pr (2 * q + 1) := by
  have a3 := tp_nd (a := 3) (by omega) (by omega) hq
  have a5 := tp_nd (a := 5) (by omega) (by omega) hq
  have a7 := tp_nd (a := 7) (by omega) (by omega) hq
  have b3 := tp_nd (a := 3) (by omega) (by omega) hp
  have b5 := tp_nd (a := 5) (by omega) (by omega) hp
  have b7 := tp_nd (a := 7) (by omega) (by omega) hp
  have hin : np_in q := by
    refine ⟨?_, h1, fun a ha => ⟨(hq a ha).1, (hq a ha).2 30⟩⟩
    have c2 : Nat.mod q 2 = 1 := ho
    have c3 : Nat.mod q 3 = 2 := by show q % 3 = 2; omega
    have c5 : Nat.beq (Nat.mod q 5) 0 = false ∧ Nat.beq (Nat.mod q 5) 2 = false := ⟨nbf a5, nbf (show q % 5 ≠ 2 by omega)⟩
    have c7 : Nat.beq (Nat.mod q 7) 0 = false ∧ Nat.beq (Nat.mod q 7) 3 = false := ⟨nbf a7, nbf (show q % 7 ≠ 3 by omega)⟩
    unfold np_fil
    rw [c2, c3, c5.1, c5.2, c7.1, c7.2]
    rfl
  have hpq := np_search h2 hin
  exact ⟨hpq, np_pock hpq (by omega) ho b3 (by have := (hp 2 (by omega)).1; rwa [show 2 * q + 1 - 1 = 2 * q by omega] at this)⟩
