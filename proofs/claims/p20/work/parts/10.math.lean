/-! numbers: primes, Fermat, powers modulo a number (own rows; nothing of the machine) -/
/-- a prime -/
def np_pr (n : Nat) : Prop := 1 < n ∧ ∀ d, d ∣ n → d = 1 ∨ d = n
theorem np_cop {r a : Nat} (h : np_pr r) (ha : ¬ r ∣ a) : Nat.Coprime r a := by
  rcases h.2 (Nat.gcd r a) (Nat.gcd_dvd_left r a) with h1 | h1
  · exact h1
  · exact absurd (h1 ▸ Nat.gcd_dvd_right r a) ha
theorem np_euclid {r a b : Nat} (h : np_pr r) (hd : r ∣ a * b) : r ∣ a ∨ r ∣ b := by
  by_cases ha : r ∣ a
  · exact Or.inl ha
  · exact Or.inr ((np_cop h ha).dvd_of_dvd_mul_left hd)
theorem np_euclidP {r a : Nat} (h : np_pr r) : ∀ k : Nat, r ∣ a ^ k → r ∣ a
  | 0, hd => by
    have h1 := Nat.le_of_dvd (by decide) (by simpa using hd : r ∣ 1)
    have := h.1
    omega
  | k + 1, hd => by
    rw [Nat.pow_succ] at hd
    rcases np_euclid h hd with h1 | h1
    · exact np_euclidP h k h1
    · exact h1
theorem np_factor : ∀ n : Nat, 1 < n → ∃ r, np_pr r ∧ r ∣ n := by
  intro n
  induction n using Nat.strongRecOn with
  | _ n ih =>
    intro h
    by_cases hp : np_pr n
    · exact ⟨n, hp, Nat.dvd_refl n⟩
    · have hc : ∃ d, d ∣ n ∧ d ≠ 1 ∧ d ≠ n := by
        apply Classical.byContradiction
        intro hc
        apply hp
        refine ⟨h, fun d hd => ?_⟩
        by_cases h1 : d = 1
        · exact Or.inl h1
        · right
          apply Classical.byContradiction
          intro h2
          exact hc ⟨d, hd, h1, h2⟩
      obtain ⟨d, hd, h1, h2⟩ := hc
      have hdn : d ≤ n := Nat.le_of_dvd (by omega) hd
      have hd0 : d ≠ 0 := by
        intro e
        subst e
        have := Nat.eq_zero_of_zero_dvd hd
        omega
      obtain ⟨r, hr, hrd⟩ := ih d (by omega) (by omega)
      exact ⟨r, hr, Nat.dvd_trans hrd hd⟩
/-- Pascal's numbers -/
def np_c : Nat → Nat → Nat
  | _, 0 => 1
  | 0, _ + 1 => 0
  | n + 1, k + 1 => np_c n k + np_c n (k + 1)
theorem np_c0 (n : Nat) : np_c n 0 = 1 := by cases n <;> rfl
theorem np_cS (n k : Nat) : np_c (n + 1) (k + 1) = np_c n k + np_c n (k + 1) := rfl
theorem np_cbig : ∀ n k, n < k → np_c n k = 0
  | _, 0, h => by omega
  | 0, _ + 1, _ => rfl
  | n + 1, k + 1, h => by rw [np_cS, np_cbig n k (by omega), np_cbig n (k + 1) (by omega)]
theorem np_cself : ∀ n, np_c n n = 1
  | 0 => rfl
  | n + 1 => by rw [np_cS, np_cself n, np_cbig n (n + 1) (by omega)]
theorem np_cmul : ∀ n k, (k + 1) * np_c (n + 1) (k + 1) = (n + 1) * np_c n k
  | 0, 0 => rfl
  | 0, k + 1 => by
    rw [np_cS, np_cbig 0 (k + 1) (by omega), np_cbig 0 (k + 1 + 1) (by omega)]
    simp
  | n + 1, 0 => by
    have h := np_cmul n 0
    rw [np_c0] at h
    rw [np_cS, np_c0]
    omega
  | n + 1, k + 1 => by
    have h1 := np_cmul n (k + 1)
    have h2 := np_cmul n k
    have h3 := np_cS n k
    have h4 := np_cS (n + 1) (k + 1)
    rw [h4]
    grind
def np_s (n x : Nat) : Nat → Nat
  | 0 => 0
  | m + 1 => np_s n x m + np_c n m * x ^ m
theorem np_sS (n x m : Nat) : np_s n x (m + 1) = np_s n x m + np_c n m * x ^ m := rfl
theorem np_sstep (n x : Nat) : ∀ m, np_s (n + 1) x (m + 1) = np_s n x (m + 1) + x * np_s n x m
  | 0 => by
    rw [np_sS, np_sS, np_c0, np_c0]
    show 0 + 1 * x ^ 0 = 0 + 1 * x ^ 0 + x * 0
    omega
  | m + 1 => by
    have h := np_sstep n x m
    have h1 := np_sS (n + 1) x (m + 1)
    have h2 := np_sS n x (m + 1)
    have h3 := np_sS n x m
    have h4 := np_cS n m
    have h5 : x ^ (m + 1) = x ^ m * x := Nat.pow_succ ..
    rw [h1, h, h2, h4, h3, h5]
    grind
theorem np_binom (x : Nat) : ∀ n, np_s n x (n + 1) = (x + 1) ^ n
  | 0 => by simp [np_s, np_c]
  | n + 1 => by
    have h := np_sstep n x (n + 1)
    have h1 := np_sS n x (n + 1)
    have h2 := np_cbig n (n + 1) (by omega)
    have h3 := np_binom x n
    rw [h, h1, h2, h3, Nat.pow_succ]
    grind
theorem np_cdvd {r k : Nat} (h : np_pr r) (h0 : 0 < k) (hk : k < r) : r ∣ np_c r k := by
  obtain ⟨r', rfl⟩ : ∃ r', r = r' + 1 := ⟨r - 1, by omega⟩
  obtain ⟨k', rfl⟩ : ∃ k', k = k' + 1 := ⟨k - 1, by omega⟩
  have h1 := np_cmul r' k'
  have h2 : (r' + 1) ∣ (k' + 1) * np_c (r' + 1) (k' + 1) := by rw [h1]; exact Nat.dvd_mul_right _ _
  rcases np_euclid h h2 with h3 | h3
  · have := Nat.le_of_dvd (by omega) h3
    omega
  · exact h3
theorem np_sdvd {r : Nat} (h : np_pr r) (x : Nat) : ∀ m, m < r → ∃ t, np_s r x (m + 1) = 1 + r * t
  | 0, _ => ⟨0, by simp [np_s, np_c0]⟩
  | m + 1, hm => by
    obtain ⟨t, ht⟩ := np_sdvd h x m (by omega)
    obtain ⟨u, hu⟩ := np_cdvd h (k := m + 1) (by omega) hm
    refine ⟨t + u * x ^ (m + 1), ?_⟩
    rw [np_sS, ht, hu]
    grind
theorem np_frob {r : Nat} (h : np_pr r) (x : Nat) : ∃ t, (x + 1) ^ r = x ^ r + 1 + r * t := by
  have h1 := h.1
  obtain ⟨t, ht⟩ := np_sdvd h x (r - 1) (by omega)
  have e : r - 1 + 1 = r := by omega
  rw [e] at ht
  refine ⟨t, ?_⟩
  rw [← np_binom x r, np_sS, ht, np_cself]
  omega
theorem np_fermat0 {r : Nat} (h : np_pr r) : ∀ x, x ^ r % r = x % r
  | 0 => by
    have := h.1
    rw [Nat.zero_pow (by omega)]
  | x + 1 => by
    obtain ⟨t, ht⟩ := np_frob h x
    rw [ht, Nat.add_mul_mod_self_left, Nat.add_mod, np_fermat0 h x, ← Nat.add_mod]
theorem np_fermat {r x : Nat} (h : np_pr r) (hx : ¬ r ∣ x) : x ^ (r - 1) % r = 1 := by
  have h1 := h.1
  have hf := np_fermat0 h x
  have e : x ^ r = x * x ^ (r - 1) := by
    have : r = (r - 1) + 1 := by omega
    conv => lhs; rw [this]
    rw [Nat.pow_succ, Nat.mul_comm]
  have hp : 0 < x := by
    rcases Nat.eq_zero_or_pos x with e | e
    · subst e; exact absurd (Nat.dvd_zero r) hx
    · exact e
  have hpp : 0 < x ^ (r - 1) := Nat.pow_pos hp
  have hd : r ∣ x * (x ^ (r - 1) - 1) := by
    rw [Nat.mul_sub, Nat.mul_one, ← e]
    exact Nat.dvd_of_mod_eq_zero (Nat.sub_mod_eq_zero_of_mod_eq hf)
  rcases np_euclid h hd with h2 | h2
  · exact absurd h2 hx
  · obtain ⟨t, ht⟩ := h2
    have e2 : x ^ (r - 1) = 1 + r * t := by omega
    rw [e2, Nat.add_mul_mod_self_left, Nat.mod_eq_of_lt h1]
/-- powers: what is 1 at two exponents is 1 at their greatest common divisor -/
theorem np_powgcd {a r : Nat} (hr : 1 < r) : ∀ m n : Nat, a ^ m % r = 1 → a ^ n % r = 1 → a ^ (Nat.gcd m n) % r = 1 := by
  intro m n
  induction m, n using Nat.gcd.induction with
  | H0 n =>
    intro _ h
    rw [Nat.gcd_zero_left]
    exact h
  | H1 m n hm ih =>
    intro h1 h2
    rw [Nat.gcd_rec]
    refine ih ?_ h1
    have e : n = m * (n / m) + n % m := (Nat.div_add_mod n m).symm
    have h3 : a ^ n % r = a ^ (n % m) % r := by
      conv => lhs; rw [e, Nat.pow_add, Nat.pow_mul, Nat.mul_mod, Nat.pow_mod, h1, Nat.one_pow, Nat.mod_eq_of_lt hr, Nat.one_mul, Nat.mod_mod]
    rw [← h3]
    exact h2
theorem np_powdvd {a r m n : Nat} (hr : 1 < r) (hd : m ∣ n) (h : a ^ m % r = 1) : a ^ n % r = 1 := by
  obtain ⟨t, rfl⟩ := hd
  rw [Nat.pow_mul, Nat.pow_mod, h, Nat.one_pow, Nat.mod_eq_of_lt hr]
theorem np_mod_dvd {a n s : Nat} (hs : 1 < s) (hd : s ∣ n) {e : Nat} (h : a ^ e % n = 1) : a ^ e % s = 1 := by
  rw [← Nat.mod_mod_of_dvd _ hd, h, Nat.mod_eq_of_lt hs]
theorem np_notdvd {a n s : Nat} (hs : 1 < s) {e : Nat} (he : 0 < e) (h : a ^ e % s = 1) : ¬ s ∣ a := by
  intro hd
  have h1 : s ∣ a ^ e := by
    obtain ⟨e', rfl⟩ : ∃ e', e = e' + 1 := ⟨e - 1, by omega⟩
    rw [Nat.pow_succ]
    exact Nat.dvd_trans hd (Nat.dvd_mul_left _ _)
  rw [Nat.mod_eq_zero_of_dvd h1] at h
  omega
/-- the cofactor: s | n = s * k, s a prime: what is 1 at n - 1 is 1 at k - 1 -/
theorem np_cof {a s k : Nat} (h : np_pr s) (hk : 1 < k) (hf : a ^ (s * k - 1) % (s * k) = 1) : a ^ (k - 1) % s = 1 := by
  have h1 := h.1
  have hsk : 1 < s * k := by
    calc 1 < k := hk
      _ = 1 * k := (Nat.one_mul k).symm
      _ ≤ s * k := Nat.mul_le_mul_right k (by omega)
  have h2 : a ^ (s * k - 1) % s = 1 := np_mod_dvd h1 (Nat.dvd_mul_right s k) hf
  have hna : ¬ s ∣ a := np_notdvd (n := s) h1 (by omega) h2
  have h3 := np_fermat h hna
  have e : s * k - 1 = (s - 1) * k + (k - 1) := by
    rw [Nat.sub_mul, Nat.one_mul]
    have : k ≤ s * k := Nat.le_mul_of_pos_left k (by omega)
    omega
  rw [e, Nat.pow_add, Nat.pow_mul, Nat.mul_mod, Nat.pow_mod, h3, Nat.one_pow, Nat.mod_eq_of_lt h1, Nat.one_mul, Nat.mod_mod] at h2
  exact h2
/-- a power modulo m in three steps of ten bits -/
def np_pw (a e m : Nat) : Nat := Nat.mod (Nat.mul (Nat.mod (Nat.pow (Nat.mod (Nat.mul (Nat.mod (Nat.pow (Nat.mod (Nat.pow a (Nat.div e 1048576)) m) 1024) m) (Nat.pow a (Nat.mod (Nat.div e 1024) 1024))) m) 1024) m) (Nat.pow a (Nat.mod e 1024))) m
theorem np_pws (x y k m : Nat) : ((x % m) ^ k % m * y) % m = (x ^ k * y) % m := by
  rw [← Nat.pow_mod, Nat.mod_mul_mod]
theorem np_pw_eq (a e m : Nat) : np_pw a e m = a ^ e % m := by
  have e1 : e = e / 1024 * 1024 + e % 1024 := by omega
  have e2 : e / 1024 = e / 1048576 * 1024 + e / 1024 % 1024 := by omega
  show ((((a ^ (e / 1048576) % m) ^ 1024 % m * a ^ (e / 1024 % 1024)) % m) ^ 1024 % m * a ^ (e % 1024)) % m = a ^ e % m
  rw [np_pws (a ^ (e / 1048576)), np_pws, ← Nat.pow_mul, ← Nat.pow_add, ← e2, ← Nat.pow_mul, ← Nat.pow_add, ← e1]
