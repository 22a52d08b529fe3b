/-! the draws: every state is reached -/
def kx (K : Int64) : Int64 := K * 6364136223846793005 + 1442695040888963407
def dv (K : Int64) : Int32 := Int64.toInt32 ((Int64.toUInt64 K >>> ((Int32.toInt64 (33 : Int32)).toUInt64 &&& Int64.toUInt64 63)).toInt64)
def kn (K : Int64) : Nat := K.toUInt64.toNat
theorem dv_nat (K : Int64) : dv K = Int32.ofNat (kn K / 8589934592) := by
  unfold dv kn
  have e : (Int32.toInt64 (33 : Int32)).toUInt64 &&& Int64.toUInt64 63 = 33 := by decide
  rw [e]
  generalize Int64.toUInt64 K = u
  have h : (u >>> 33).toNat = u.toNat / 8589934592 := by
    rw [UInt64.toNat_shiftRight]
    show u.toNat >>> 33 = _
    rw [Nat.shiftRight_eq_div_pow]
  rw [← h]
  generalize u >>> 33 = v
  rw [← Int64.toInt32_ofNat']
  congr 1
  exact (congrArg UInt64.toInt64 (UInt64.ofNat_toNat (x := v))).symm
theorem kn_lt (K : Int64) : kn K < 18446744073709551616 := UInt64.toNat_lt _
theorem kn_kx (K : Int64) : kn (kx K) = (kn K * 6364136223846793005 + 1442695040888963407) % 18446744073709551616 := by
  unfold kn kx
  have e : (K * 6364136223846793005 + 1442695040888963407).toUInt64 = K.toUInt64 * 6364136223846793005 + 1442695040888963407 := rfl
  rw [e, UInt64.toNat_add, UInt64.toNat_mul]
  show (K.toUInt64.toNat * 6364136223846793005 % 18446744073709551616 + 1442695040888963407) % 18446744073709551616 = _
  omega
def kxi (K : Int64) : Nat → Int64
  | 0 => K
  | i + 1 => kx (kxi K i)
def yy (x : Nat) : Nat → Nat
  | 0 => x
  | i + 1 => yy x i * 6364136223846793005 + 1442695040888963407
theorem kxi_yy (K : Int64) : ∀ i, kn (kxi K i) = yy (kn K) i % 18446744073709551616
  | 0 => (Nat.mod_eq_of_lt (kn_lt K)).symm
  | i + 1 => by
    show kn (kx (kxi K i)) = _
    rw [kn_kx, kxi_yy K i]
    show _ = (yy (kn K) i * 6364136223846793005 + 1442695040888963407) % 18446744073709551616
    omega
theorem yy_add (x : Nat) : ∀ i j, yy x (i + j) = yy (yy x i) j
  | i, 0 => rfl
  | i, j + 1 => by
    show yy x (i + j) * _ + _ = yy (yy x i) j * _ + _
    rw [yy_add x i j]
theorem yy_r1 (z u v : Nat) : (4 * z * u + 1) * (z * (2 * v + 1)) + z * (2 * v + 1) = 2 * z * (2 * (z * u * (2 * v + 1) + v) + 1) := by grind
theorem yy_r2 (z u : Nat) : (4 * z * u + 1) * (4 * z * u + 1) = 8 * z * (2 * z * u * u + u) + 1 := by grind
theorem yy_r3 (z u v p : Nat) : (4 * z * u + 1) * (z * (2 * p + 1)) + z * (2 * v + 1) = 2 * z * (2 * z * u * (2 * p + 1) + (p + 1) + v) := by grind
theorem yy_aff : ∀ k, ∃ A C, (∀ x, yy x (2 ^ k) = A * x + C) ∧ (∃ u, A = 2 ^ (k + 2) * u + 1) ∧ ∃ v, C = 2 ^ k * (2 * v + 1)
  | 0 => ⟨6364136223846793005, 1442695040888963407, fun x => by show x * _ + _ = _; rw [Nat.mul_comm], ⟨1591034055961698251, by decide⟩, ⟨721347520444481703, by decide⟩⟩
  | k + 1 => by
    obtain ⟨A, C, h, ⟨u, hu⟩, ⟨v, hv⟩⟩ := yy_aff k
    refine ⟨A * A, A * C + C, fun x => ?_, ⟨2 ^ (k + 1) * u * u + u, ?_⟩, ⟨2 ^ k * u * (2 * v + 1) + v, ?_⟩⟩
    · rw [show 2 ^ (k + 1) = 2 ^ k + 2 ^ k by rw [Nat.pow_succ]; omega, yy_add, h, h, Nat.mul_add, Nat.mul_assoc, Nat.add_assoc]
    · rw [hu]
      have e1 : 2 ^ (k + 2) = 4 * 2 ^ k := by rw [Nat.pow_add, Nat.mul_comm]
      have e2 : 2 ^ (k + 1 + 2) = 8 * 2 ^ k := by rw [Nat.pow_add, Nat.pow_succ]; omega
      have e3 : 2 ^ (k + 1) = 2 * 2 ^ k := by rw [Nat.pow_succ]; omega
      rw [e1, e2, e3]
      exact yy_r2 _ _
    · rw [hu, hv]
      have e1 : 2 ^ (k + 2) = 4 * 2 ^ k := by rw [Nat.pow_add, Nat.mul_comm]
      have e3 : 2 ^ (k + 1) = 2 * 2 ^ k := by rw [Nat.pow_succ]; omega
      rw [e1, e3]
      exact yy_r1 _ _ _
theorem yy_zero (x : Nat) : ∀ k, ∃ i, 2 ^ k ∣ yy x i
  | 0 => ⟨0, 1 * yy x 0, by rw [Nat.pow_zero]; omega⟩
  | k + 1 => by
    obtain ⟨i, q, hq⟩ := yy_zero x k
    by_cases h : q % 2 = 0
    · exact ⟨i, q / 2, by rw [hq, Nat.pow_succ, Nat.mul_assoc]; congr 1; omega⟩
    · obtain ⟨A, C, hA, ⟨u, hu⟩, ⟨v, hv⟩⟩ := yy_aff k
      refine ⟨i + 2 ^ k, 2 * 2 ^ k * u * q + (q + 1) / 2 + v, ?_⟩
      rw [yy_add, hA, hq, hu, hv]
      have e1 : 2 ^ (k + 2) = 4 * 2 ^ k := by rw [Nat.pow_add, Nat.mul_comm]
      have e3 : 2 ^ (k + 1) = 2 * 2 ^ k := by rw [Nat.pow_succ]; omega
      rw [e1, e3]
      obtain ⟨p, hp⟩ : ∃ p, q = 2 * p + 1 := ⟨q / 2, by omega⟩
      rw [show (q + 1) / 2 = p + 1 by omega, hp]
      exact yy_r3 _ _ _ _
theorem yy_zero2 (x k m : Nat) (hm : m = 2 ^ k) : ∃ i, m ∣ yy x i := by subst hm; exact yy_zero x k
theorem kxi_zero (K : Int64) : ∃ i, kn (kxi K i) = 0 := by
  obtain ⟨i, h⟩ := yy_zero2 (kn K) 64 18446744073709551616 (by decide)
  exact ⟨i, by rw [kxi_yy]; exact Nat.mod_eq_zero_of_dvd h⟩
/-- an EXPONENT comes, however long it takes -/
theorem kxi_exp (K : Int64) {P : Nat} (hP : TP P) : ∃ i, XN P (3 + kn (kxi K (i + 1)) / 8589934592 % (P - 4)) := by
  have hsh : ∀ i, kxi (kx K) i = kxi K (i + 1) := by
    intro i
    induction i with
    | zero => simp only [kxi]
    | succ i ih => simp only [kxi] at ih ⊢; rw [ih]
  obtain ⟨i, h⟩ := kxi_zero (kx K)
  refine ⟨i, ?_⟩
  rw [← hsh i, h]
  obtain ⟨h1, _⟩ := hP
  unfold XN
  rw [Nat.zero_div, Nat.zero_mod]
  omega
