/-! powers as numbers -/
theorem m64 {x m : Nat} (hx : x < 2 ^ 63) (hm : m < 2147483648) : Int64.ofNat x - Int64.ofNat x / Int64.ofNat m * Int64.ofNat m = Int64.ofNat (x % m) := by
  rw [← Int64.ofNat_div hx (by omega), ← Int64.ofNat_mul, ← Int64.ofNat_sub _ _ (Nat.div_mul_le_self _ _)]
  rw [show x - x / m * m = x % m by rw [Nat.mod_def, Nat.mul_comm m]]
theorem M_pwN {m : Nat} (h0 : 0 < m) (hm : m < 2147483648) (v0 v1 : Int32) : ∀ (e r b : Nat), e < 2147483648 → r < m → b < m → Ev (fun n => ff_M_power_11 n v0 v1 (Int32.ofNat m) (Int64.ofNat r) (Int64.ofNat b) (Int32.ofNat e)) (Int32.ofNat (r * b ^ e % m)) := by
  intro e
  have nz : ¬ Int64.ofNat m = 0 := fun h => by
    have h3 := congrArg Int64.toInt h
    rw [Int64.toInt_ofNat_of_lt (by omega)] at h3
    have h4 : (m : Int) = 0 := h3
    omega
  have mul : ∀ {x y : Nat}, x < m → y < m → x * y < 2 ^ 63 := fun {x y} hx hy => Nat.lt_of_le_of_lt (Nat.mul_le_mul (show x ≤ 2147483647 by omega) (show y ≤ 2147483647 by omega)) (by decide)
  induction e using Nat.strongRecOn with
  | _ e ih =>
    intro r b he hr hb
    by_cases hz : e = 0
    · subst hz
      refine Ev.suc (Ev.now fun n => ?_)
      rw [ff_M_power_11, if_pos (by decide), Nat.pow_zero, Nat.mul_one, Nat.mod_eq_of_lt hr, Int64.toInt32_ofNat']
    · have c1 : ¬ Int32.ofNat e ≤ 0 := by rw [q_le0 he]; exact hz
      have bb : Int64.ofNat b * Int64.ofNat b - Int64.ofNat b * Int64.ofNat b / Int64.ofNat m * Int64.ofNat m = Int64.ofNat (b * b % m) := by rw [← Int64.ofNat_mul]; exact m64 (mul hb hb) hm
      have rb : Int64.ofNat r * Int64.ofNat b - Int64.ofNat r * Int64.ofNat b / Int64.ofNat m * Int64.ofNat m = Int64.ofNat (r * b % m) := by rw [← Int64.ofNat_mul]; exact m64 (mul hr hb) hm
      have od : Int32.ofNat e - Int32.ofNat (e / 2) * 2 = Int32.ofNat (e % 2) := by rw [← nb_half he]; exact nb_odd he
      rw [← nb_pstep r b e m]
      by_cases ho : e % 2 = 1
      · rw [if_pos ho]
        refine Ev.step (fun n => ?_) (ih (e / 2) (by omega) (r * b % m) (b * b % m) (by omega) (Nat.mod_lt _ h0) (Nat.mod_lt _ h0))
        simp only [ff_M_power_11, if_neg c1, tl, nb_half he, od, if_pos (show Int32.ofNat (e % 2) = 1 from congrArg Int32.ofNat ho), nb_64 hm, if_pos nz, ff_M_power_32, rb, bb]
      · rw [if_neg ho]
        refine Ev.step (fun n => ?_) (ih (e / 2) (by omega) r (b * b % m) (by omega) hr (Nat.mod_lt _ h0))
        simp only [ff_M_power_11, if_neg c1, tl, nb_half he, od, if_neg (show ¬ Int32.ofNat (e % 2) = 1 from fun h => ho ((nb_inj (y := 1) (by omega) (by omega)).mp h)), nb_64 hm, if_pos nz, ff_M_power_32, bb]
theorem pwM_nat {a e m : Nat} (h1 : 1 < m) (hm : m < 2147483648) (ha : a < 2147483648) (he : e < 2147483648) : pwM (Int32.ofNat a) (Int32.ofNat e) (Int32.ofNat m) = Int32.ofNat (a ^ e % m) := by
  have nz : Int32.ofNat m ≠ 0 := fun h => by have := (nb_inj (y := 0) (by omega) (by omega)).mp h; omega
  refine Ev.one (M_pow _ _ _ nz) ?_
  have hb : a % m < m := Nat.mod_lt _ (by omega)
  have g := M_pwN (by omega) hm (Int32.ofNat a) (Int32.ofNat e) e 1 (a % m) he h1 hb
  rw [Nat.one_mul, ← Nat.pow_mod] at g
  unfold ff_M_power
  have e1 : Int32.ofNat a - Int32.ofNat a / Int32.ofNat m * Int32.ofNat m = Int32.ofNat (a % m) := tr_mod ha hm
  have e2 : Int32.toInt64 (Int32.ofNat (a % m)) = Int64.ofNat (a % m) := nb_64 (by omega)
  simp only [if_pos (show ¬ Int32.ofNat m = 0 from nz), tl, e1, e2]
  exact g
theorem pwO_nat {a e m : Nat} (h1 : 1 < m) (hm : m < 2147483648) (ha : a < 2147483648) (he : e < 2147483648) : pwO (Int32.ofNat a) (Int32.ofNat e) (Int32.ofNat m) = Int32.ofNat (a ^ e % m) :=
  Ev.one (N_pow _ _ _) ⟨32, fun n hn => nb_power h1 hm ha he (by omega)⟩
theorem tmO_nat {x y m : Nat} (hx : x < 2147483648) (hy : y < 2147483648) (h0 : 0 < m) (hm : m < 2147483648) : tmO (Int32.ofNat x) (Int32.ofNat y) (Int32.ofNat m) = Int32.ofNat (x * y % m) :=
  Option.some.inj ((N_times 0 _ _ _).symm.trans (nb_times hx hy h0 hm))
theorem inv_nat {P e : Nat} (hP : TP P) (he : e < 2147483648) : ivO (Int32.ofNat e) (Int32.ofNat P) = Int32.ofNat (e ^ ((P - 1) / 2 - 2) % (P - 1)) ∧ ivM (Int32.ofNat e) P = Int32.ofNat (e ^ ((P - 1) / 2 - 2) % (P - 1)) := by
  obtain ⟨p1, p2, _⟩ := hP
  have e1 : Int32.ofNat P - 1 = Int32.ofNat (P - 1) := nb_pred (by omega)
  have e2 : Int32.ofNat ((P - 1) / 2) - 2 = Int32.ofNat ((P - 1) / 2 - 2) := q_sub (x := (P - 1) / 2) (y := 2) (by omega)
  unfold ivO ivM
  rw [e1, nb_half (by omega), e2]
  exact ⟨pwO_nat (by omega) (by omega) he (by omega), pwM_nat (by omega) (by omega) he (by omega)⟩
/-- an exponent counts modulo P - 1 -/
theorem pow_red {P x : Nat} (hp : np_pr P) (hx : ¬ P ∣ x) (k : Nat) : x ^ k % P = x ^ (k % (P - 1)) % P := by
  have f : x ^ (P - 1) % P = 1 := np_fermat hp hx
  have p1 : 1 < P := hp.1
  have h1 : ∀ q, x ^ ((P - 1) * q) % P = 1 := fun q => by
    rw [Nat.pow_mul, Nat.pow_mod, f, Nat.one_pow, Nat.mod_eq_of_lt p1]
  have e : x ^ k = x ^ ((P - 1) * (k / (P - 1))) * x ^ (k % (P - 1)) := by rw [← Nat.pow_add, Nat.div_add_mod]
  rw [e, Nat.mul_mod, h1, Nat.one_mul, Nat.mod_mod]
theorem pow_in {P x : Nat} (hp : np_pr P) (hx : ¬ P ∣ x) (k : Nat) : 0 < x ^ k % P := by
  have p1 : 1 < P := hp.1
  refine Nat.pos_of_ne_zero fun h => ?_
  have : ∀ k, x ^ k % P ≠ 0 := by
    intro k
    induction k with
    | zero => rw [Nat.pow_zero, Nat.mod_eq_of_lt p1]; omega
    | succ k ih =>
      intro q
      have d : P ∣ x ^ k * x := Nat.dvd_of_mod_eq_zero (by rw [← Nat.pow_succ]; exact q)
      rcases np_euclid hp d with d | d
      · exact ih (Nat.mod_eq_zero_of_dvd d)
      · exact hx d
  exact this k h
