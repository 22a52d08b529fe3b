section
/-! numbers: primes, Fermat, powers modulo a number (own rows; nothing of the machine) -/
/-- a prime -/
def np_pr (n : Nat) : Prop := 1 < n ∧ ∀ d, d ∣ n → d = 1 ∨ d = n
theorem np_cop {r a : Nat} (h : np_pr r) (ha : ¬ r ∣ a) : Nat.Coprime r a := by
  rcases h.2 (Nat.gcd r a) (Nat.gcd_dvd_left r a) with h1 | h1
  · exact h1
  · exact absurd (h1 ▸ Nat.gcd_dvd_right r a) ha
theorem np_euclid {r a b : Nat} (h : np_pr r) (hd : r ∣ a * b) : r ∣ a ∨ r ∣ b := by
  by_cases ha : r ∣ a
  · exact Or.inl ha
  · exact Or.inr ((np_cop h ha).dvd_of_dvd_mul_left hd)
theorem np_euclidP {r a : Nat} (h : np_pr r) : ∀ k : Nat, r ∣ a ^ k → r ∣ a
  | 0, hd => by
    have h1 := Nat.le_of_dvd (by decide) (by simpa using hd : r ∣ 1)
    have := h.1
    omega
  | k + 1, hd => by
    rw [Nat.pow_succ] at hd
    rcases np_euclid h hd with h1 | h1
    · exact np_euclidP h k h1
    · exact h1
theorem np_factor : ∀ n : Nat, 1 < n → ∃ r, np_pr r ∧ r ∣ n := by
  intro n
  induction n using Nat.strongRecOn with
  | _ n ih =>
    intro h
    by_cases hp : np_pr n
    · exact ⟨n, hp, Nat.dvd_refl n⟩
    · have hc : ∃ d, d ∣ n ∧ d ≠ 1 ∧ d ≠ n := by
        apply Classical.byContradiction
        intro hc
        apply hp
        refine ⟨h, fun d hd => ?_⟩
        by_cases h1 : d = 1
        · exact Or.inl h1
        · right
          apply Classical.byContradiction
          intro h2
          exact hc ⟨d, hd, h1, h2⟩
      obtain ⟨d, hd, h1, h2⟩ := hc
      have hdn : d ≤ n := Nat.le_of_dvd (by omega) hd
      have hd0 : d ≠ 0 := by
        intro e
        subst e
        have := Nat.eq_zero_of_zero_dvd hd
        omega
      obtain ⟨r, hr, hrd⟩ := ih d (by omega) (by omega)
      exact ⟨r, hr, Nat.dvd_trans hrd hd⟩
/-- Pascal's numbers -/
def np_c : Nat → Nat → Nat
  | _, 0 => 1
  | 0, _ + 1 => 0
  | n + 1, k + 1 => np_c n k + np_c n (k + 1)
theorem np_c0 (n : Nat) : np_c n 0 = 1 := by cases n <;> rfl
theorem np_cS (n k : Nat) : np_c (n + 1) (k + 1) = np_c n k + np_c n (k + 1) := rfl
theorem np_cbig : ∀ n k, n < k → np_c n k = 0
  | _, 0, h => by omega
  | 0, _ + 1, _ => rfl
  | n + 1, k + 1, h => by rw [np_cS, np_cbig n k (by omega), np_cbig n (k + 1) (by omega)]
theorem np_cself : ∀ n, np_c n n = 1
  | 0 => rfl
  | n + 1 => by rw [np_cS, np_cself n, np_cbig n (n + 1) (by omega)]
theorem np_cmul : ∀ n k, (k + 1) * np_c (n + 1) (k + 1) = (n + 1) * np_c n k
  | 0, 0 => rfl
  | 0, k + 1 => by
    rw [np_cS, np_cbig 0 (k + 1) (by omega), np_cbig 0 (k + 1 + 1) (by omega)]
    simp
  | n + 1, 0 => by
    have h := np_cmul n 0
    rw [np_c0] at h
    rw [np_cS, np_c0]
    omega
  | n + 1, k + 1 => by
    have h1 := np_cmul n (k + 1)
    have h2 := np_cmul n k
    have h3 := np_cS n k
    have h4 := np_cS (n + 1) (k + 1)
    rw [h4]
    grind
def np_s (n x : Nat) : Nat → Nat
  | 0 => 0
  | m + 1 => np_s n x m + np_c n m * x ^ m
theorem np_sS (n x m : Nat) : np_s n x (m + 1) = np_s n x m + np_c n m * x ^ m := rfl
theorem np_sstep (n x : Nat) : ∀ m, np_s (n + 1) x (m + 1) = np_s n x (m + 1) + x * np_s n x m
  | 0 => by
    rw [np_sS, np_sS, np_c0, np_c0]
    show 0 + 1 * x ^ 0 = 0 + 1 * x ^ 0 + x * 0
    omega
  | m + 1 => by
    have h := np_sstep n x m
    have h1 := np_sS (n + 1) x (m + 1)
    have h2 := np_sS n x (m + 1)
    have h3 := np_sS n x m
    have h4 := np_cS n m
    have h5 : x ^ (m + 1) = x ^ m * x := Nat.pow_succ ..
    rw [h1, h, h2, h4, h3, h5]
    grind
theorem np_binom (x : Nat) : ∀ n, np_s n x (n + 1) = (x + 1) ^ n
  | 0 => by simp [np_s, np_c]
  | n + 1 => by
    have h := np_sstep n x (n + 1)
    have h1 := np_sS n x (n + 1)
    have h2 := np_cbig n (n + 1) (by omega)
    have h3 := np_binom x n
    rw [h, h1, h2, h3, Nat.pow_succ]
    grind
theorem np_cdvd {r k : Nat} (h : np_pr r) (h0 : 0 < k) (hk : k < r) : r ∣ np_c r k := by
  obtain ⟨r', rfl⟩ : ∃ r', r = r' + 1 := ⟨r - 1, by omega⟩
  obtain ⟨k', rfl⟩ : ∃ k', k = k' + 1 := ⟨k - 1, by omega⟩
  have h1 := np_cmul r' k'
  have h2 : (r' + 1) ∣ (k' + 1) * np_c (r' + 1) (k' + 1) := by rw [h1]; exact Nat.dvd_mul_right _ _
  rcases np_euclid h h2 with h3 | h3
  · have := Nat.le_of_dvd (by omega) h3
    omega
  · exact h3
theorem np_sdvd {r : Nat} (h : np_pr r) (x : Nat) : ∀ m, m < r → ∃ t, np_s r x (m + 1) = 1 + r * t
  | 0, _ => ⟨0, by simp [np_s, np_c0]⟩
  | m + 1, hm => by
    obtain ⟨t, ht⟩ := np_sdvd h x m (by omega)
    obtain ⟨u, hu⟩ := np_cdvd h (k := m + 1) (by omega) hm
    refine ⟨t + u * x ^ (m + 1), ?_⟩
    rw [np_sS, ht, hu]
    grind
theorem np_frob {r : Nat} (h : np_pr r) (x : Nat) : ∃ t, (x + 1) ^ r = x ^ r + 1 + r * t := by
  have h1 := h.1
  obtain ⟨t, ht⟩ := np_sdvd h x (r - 1) (by omega)
  have e : r - 1 + 1 = r := by omega
  rw [e] at ht
  refine ⟨t, ?_⟩
  rw [← np_binom x r, np_sS, ht, np_cself]
  omega
theorem np_fermat0 {r : Nat} (h : np_pr r) : ∀ x, x ^ r % r = x % r
  | 0 => by
    have := h.1
    rw [Nat.zero_pow (by omega)]
  | x + 1 => by
    obtain ⟨t, ht⟩ := np_frob h x
    rw [ht, Nat.add_mul_mod_self_left, Nat.add_mod, np_fermat0 h x, ← Nat.add_mod]
theorem np_fermat {r x : Nat} (h : np_pr r) (hx : ¬ r ∣ x) : x ^ (r - 1) % r = 1 := by
  have h1 := h.1
  have hf := np_fermat0 h x
  have e : x ^ r = x * x ^ (r - 1) := by
    have : r = (r - 1) + 1 := by omega
    conv => lhs; rw [this]
    rw [Nat.pow_succ, Nat.mul_comm]
  have hp : 0 < x := by
    rcases Nat.eq_zero_or_pos x with e | e
    · subst e; exact absurd (Nat.dvd_zero r) hx
    · exact e
  have hpp : 0 < x ^ (r - 1) := Nat.pow_pos hp
  have hd : r ∣ x * (x ^ (r - 1) - 1) := by
    rw [Nat.mul_sub, Nat.mul_one, ← e]
    exact Nat.dvd_of_mod_eq_zero (Nat.sub_mod_eq_zero_of_mod_eq hf)
  rcases np_euclid h hd with h2 | h2
  · exact absurd h2 hx
  · obtain ⟨t, ht⟩ := h2
    have e2 : x ^ (r - 1) = 1 + r * t := by omega
    rw [e2, Nat.add_mul_mod_self_left, Nat.mod_eq_of_lt h1]
/-- powers: what is 1 at two exponents is 1 at their greatest common divisor -/
theorem np_powgcd {a r : Nat} (hr : 1 < r) : ∀ m n : Nat, a ^ m % r = 1 → a ^ n % r = 1 → a ^ (Nat.gcd m n) % r = 1 := by
  intro m n
  induction m, n using Nat.gcd.induction with
  | H0 n =>
    intro _ h
    rw [Nat.gcd_zero_left]
    exact h
  | H1 m n hm ih =>
    intro h1 h2
    rw [Nat.gcd_rec]
    refine ih ?_ h1
    have e : n = m * (n / m) + n % m := (Nat.div_add_mod n m).symm
    have h3 : a ^ n % r = a ^ (n % m) % r := by
      conv => lhs; rw [e, Nat.pow_add, Nat.pow_mul, Nat.mul_mod, Nat.pow_mod, h1, Nat.one_pow, Nat.mod_eq_of_lt hr, Nat.one_mul, Nat.mod_mod]
    rw [← h3]
    exact h2
theorem np_powdvd {a r m n : Nat} (hr : 1 < r) (hd : m ∣ n) (h : a ^ m % r = 1) : a ^ n % r = 1 := by
  obtain ⟨t, rfl⟩ := hd
  rw [Nat.pow_mul, Nat.pow_mod, h, Nat.one_pow, Nat.mod_eq_of_lt hr]
theorem np_mod_dvd {a n s : Nat} (hs : 1 < s) (hd : s ∣ n) {e : Nat} (h : a ^ e % n = 1) : a ^ e % s = 1 := by
  rw [← Nat.mod_mod_of_dvd _ hd, h, Nat.mod_eq_of_lt hs]
theorem np_notdvd {a n s : Nat} (hs : 1 < s) {e : Nat} (he : 0 < e) (h : a ^ e % s = 1) : ¬ s ∣ a := by
  intro hd
  have h1 : s ∣ a ^ e := by
    obtain ⟨e', rfl⟩ : ∃ e', e = e' + 1 := ⟨e - 1, by omega⟩
    rw [Nat.pow_succ]
    exact Nat.dvd_trans hd (Nat.dvd_mul_left _ _)
  rw [Nat.mod_eq_zero_of_dvd h1] at h
  omega
/-- the cofactor: s | n = s * k, s a prime: what is 1 at n - 1 is 1 at k - 1 -/
theorem np_cof {a s k : Nat} (h : np_pr s) (hk : 1 < k) (hf : a ^ (s * k - 1) % (s * k) = 1) : a ^ (k - 1) % s = 1 := by
  have h1 := h.1
  have hsk : 1 < s * k := by
    calc 1 < k := hk
      _ = 1 * k := (Nat.one_mul k).symm
      _ ≤ s * k := Nat.mul_le_mul_right k (by omega)
  have h2 : a ^ (s * k - 1) % s = 1 := np_mod_dvd h1 (Nat.dvd_mul_right s k) hf
  have hna : ¬ s ∣ a := np_notdvd (n := s) h1 (by omega) h2
  have h3 := np_fermat h hna
  have e : s * k - 1 = (s - 1) * k + (k - 1) := by
    rw [Nat.sub_mul, Nat.one_mul]
    have : k ≤ s * k := Nat.le_mul_of_pos_left k (by omega)
    omega
  rw [e, Nat.pow_add, Nat.pow_mul, Nat.mul_mod, Nat.pow_mod, h3, Nat.one_pow, Nat.mod_eq_of_lt h1, Nat.one_mul, Nat.mod_mod] at h2
  exact h2
/-- a power modulo m in three steps of ten bits -/
def np_pw (a e m : Nat) : Nat := Nat.mod (Nat.mul (Nat.mod (Nat.pow (Nat.mod (Nat.mul (Nat.mod (Nat.pow (Nat.mod (Nat.pow a (Nat.div e 1048576)) m) 1024) m) (Nat.pow a (Nat.mod (Nat.div e 1024) 1024))) m) 1024) m) (Nat.pow a (Nat.mod e 1024))) m
theorem np_pws (x y k m : Nat) : ((x % m) ^ k % m * y) % m = (x ^ k * y) % m := by
  rw [← Nat.pow_mod, Nat.mod_mul_mod]
theorem np_pw_eq (a e m : Nat) : np_pw a e m = a ^ e % m := by
  have e1 : e = e / 1024 * 1024 + e % 1024 := by omega
  have e2 : e / 1024 = e / 1048576 * 1024 + e / 1024 % 1024 := by omega
  show ((((a ^ (e / 1048576) % m) ^ 1024 % m * a ^ (e / 1024 % 1024)) % m) ^ 1024 % m * a ^ (e % 1024)) % m = a ^ e % m
  rw [np_pws (a ^ (e / 1048576)), np_pws, ← Nat.pow_mul, ← Nat.pow_add, ← e2, ← Nat.pow_mul, ← Nat.pow_add, ← e1]
end
section
/-! the search: a number below 2^30 that passes the strong tests is a prime -/
/-- the strong test, from above: at e, then at e / 2 as long as the power is 1 and e is even -/
def np_ch (n a : Nat) : Nat → Nat → Bool
  | 0, _ => true
  | f + 1, e => Nat.beq (np_pw a e n) (n - 1) || (Nat.beq (np_pw a e n) 1 && (Nat.beq (Nat.mod e 2) 1 || np_ch n a f (Nat.div e 2)))
/-- what 2 * n + 1 without a factor 3, 5, 7 says of n, and n itself -/
def np_fil (n : Nat) : Bool := Nat.beq (Nat.mod n 2) 1 && (Nat.beq (Nat.mod n 3) 2 && (!(Nat.beq (Nat.mod n 5) 0 || Nat.beq (Nat.mod n 5) 2) && !(Nat.beq (Nat.mod n 7) 0 || Nat.beq (Nat.mod n 7) 3)))
theorem np_fil_mod {n m : Nat} (h : n % 210 = m % 210) : np_fil n = np_fil m := by
  have h2 : n % 2 = m % 2 := by omega
  have h3 : n % 3 = m % 3 := by omega
  have h5 : n % 5 = m % 5 := by omega
  have h7 : n % 7 = m % 7 := by omega
  show (Nat.beq (n % 2) 1 && (Nat.beq (n % 3) 2 && (!(Nat.beq (n % 5) 0 || Nat.beq (n % 5) 2) && !(Nat.beq (n % 7) 0 || Nat.beq (n % 7) 3)))) = (Nat.beq (m % 2) 1 && (Nat.beq (m % 3) 2 && (!(Nat.beq (m % 5) 0 || Nat.beq (m % 5) 2) && !(Nat.beq (m % 7) 0 || Nat.beq (m % 7) 3))))
  rw [h2, h3, h5, h7]
/-- n is out: too small, filtered, or it fails a test -/
def np_out (n : Nat) : Bool := !(Nat.beq (np_pw 2 (Nat.sub n 1) n) 1) || (!(np_fil n) || (Nat.ble n 32767 || !(np_ch n 2 30 (n - 1) && (np_ch n 3 30 (n - 1) && (np_ch n 5 30 (n - 1) && np_ch n 7 30 (n - 1))))))
/-- n passes -/
def np_in (n : Nat) : Prop := np_fil n = true ∧ 32767 < n ∧ (∀ a, a = 2 ∨ a = 3 ∨ a = 5 ∨ a = 7 → a ^ (n - 1) % n = 1 ∧ np_ch n a 30 (n - 1) = true)
theorem np_in_out {n : Nat} (h : np_in n) (ho : np_out n = true) : False := by
  obtain ⟨h1, h2, h3⟩ := h
  unfold np_out at ho
  rw [h1, (h3 2 (by simp)).2, (h3 3 (by simp)).2, (h3 5 (by simp)).2, (h3 7 (by simp)).2, np_pw_eq, show Nat.sub n 1 = n - 1 from rfl, (h3 2 (by simp)).1] at ho
  have h4 : Nat.ble n 32767 = false := by
    cases hb : Nat.ble n 32767 with
    | false => rfl
    | true => have := Nat.le_of_ble_eq_true hb; omega
  rw [h4] at ho
  exact absurd ho (by decide)
/-- a number is reckoned once -/
def np_fo (x : Nat) (f : Nat → Bool) : Bool := match Nat.add x 1 with
  | 0 => f x
  | m + 1 => f m
theorem np_fo_eq (x : Nat) (f : Nat → Bool) : np_fo x f = f x := rfl
/-- all of lo .. lo + 2^f - 1 below B -/
def np_ab (P : Nat → Bool) (B : Nat) : Nat → Nat → Bool
  | 0, lo => Nat.ble B lo || np_fo lo P
  | f + 1, lo => Nat.ble B lo || (np_ab P B f lo && np_ab P B f (Nat.add lo (Nat.pow 2 f)))
theorem np_ab_all {P : Nat → Bool} {B : Nat} : ∀ (f lo : Nat), np_ab P B f lo = true → ∀ j, lo ≤ j → j < lo + 2 ^ f → j < B → P j = true
  | 0, lo, h, j, h1, h2, h3 => by
    have e : j = lo := by
      rw [Nat.pow_zero] at h2
      omega
    subst e
    unfold np_ab at h
    rw [np_fo_eq, Bool.or_eq_true] at h
    rcases h with h | h
    · have := Nat.le_of_ble_eq_true h
      omega
    · exact h
  | f + 1, lo, h, j, h1, h2, h3 => by
    unfold np_ab at h
    rw [Bool.or_eq_true, Bool.and_eq_true] at h
    have e : 2 ^ (f + 1) = 2 ^ f + 2 ^ f := by rw [Nat.pow_succ]; omega
    rcases h with h | ⟨ha, hb⟩
    · have := Nat.le_of_ble_eq_true h
      omega
    · by_cases hj : j < lo + 2 ^ f
      · exact np_ab_all f lo ha j h1 hj h3
      · exact np_ab_all f (lo + 2 ^ f) hb j (by omega) (by omega) h3
/-! case A: a prime factor above 2^15 -/
/-- the product of lo .. lo + 2^f - 1 -/
def np_rp : Nat → Nat → Nat
  | 0, lo => lo
  | f + 1, lo => np_rp f lo * np_rp f (lo + 2 ^ f)
theorem np_rp_lt {r : Nat} (h : np_pr r) : ∀ (f lo : Nat), 0 < lo → r ∣ np_rp f lo → r < lo + 2 ^ f
  | 0, lo, h0, hd => by
    have := Nat.le_of_dvd h0 hd
    rw [Nat.pow_zero]
    omega
  | f + 1, lo, h0, hd => by
    have e : 2 ^ (f + 1) = 2 ^ f + 2 ^ f := by rw [Nat.pow_succ]; omega
    have hp0 : 0 < 2 ^ f := Nat.two_pow_pos f
    rcases np_euclid h hd with h1 | h1
    · have := np_rp_lt h f lo h0 h1
      omega
    · have := np_rp_lt h f (lo + 2 ^ f) (by omega) h1
      omega
theorem np_rp_dvd {s : Nat} : ∀ (f lo : Nat), lo ≤ s → s < lo + 2 ^ f → s ∣ np_rp f lo
  | 0, lo, h0, h1 => by
    rw [Nat.pow_zero] at h1
    have e : s = lo := by omega
    subst e
    exact Nat.dvd_refl s
  | f + 1, lo, h0, h1 => by
    have e : 2 ^ (f + 1) = 2 ^ f + 2 ^ f := by rw [Nat.pow_succ]; omega
    by_cases hs : s < lo + 2 ^ f
    · exact Nat.dvd_trans (np_rp_dvd f lo h0 hs) (Nat.dvd_mul_right _ _)
    · exact Nat.dvd_trans (np_rp_dvd f (lo + 2 ^ f) (by omega) (by omega)) (Nat.dvd_mul_left _ _)
/-- the part without small factors -/
def np_str (Q h : Nat) : Nat := Nat.div h (Nat.gcd h Q)
theorem np_str_dvd {r Q h : Nat} (hp : np_pr r) (hQ : ¬ r ∣ Q) (hd : r ∣ h) : r ∣ np_str Q h := by
  show r ∣ h / Nat.gcd h Q
  have h1 : h = Nat.gcd h Q * (h / Nat.gcd h Q) := (Nat.mul_div_cancel' (Nat.gcd_dvd_left h Q)).symm
  rw [h1] at hd
  rcases np_euclid hp hd with h2 | h2
  · exact absurd (Nat.dvd_trans h2 (Nat.gcd_dvd_right h Q)) hQ
  · exact h2
/-- what is left of k: nothing, or one prime whose product with k is too great or out -/
def np_okH (Q k h : Nat) : Bool := (Nat.beq h 1 || (Nat.beq k 27061 && Nat.beq h 3661339771)) || (Nat.beq (Nat.gcd h Q) 1 && (Nat.ble h 1073741823 && (Nat.ble 1073741824 (h * k) || np_fo (Nat.mul h k) np_out)))
def np_g0 (k : Nat) : Nat := Nat.gcd (Nat.gcd (2 ^ (k - 1) - 1) (3 ^ (k - 1) - 1)) (Nat.gcd (5 ^ (k - 1) - 1) (7 ^ (k - 1) - 1))
def np_okA (Q k : Nat) : Bool := np_fo (np_g0 k) fun g0 => np_fo (np_str Q g0) fun g1 => np_fo (np_str Q g1) fun g2 => np_fo (np_str Q g2) fun g3 => np_fo (np_str Q g3) fun g4 => np_fo (np_str Q g4) fun g5 => np_fo (np_str Q g5) (np_okH Q k)
theorem np_okA_spec {r Q k : Nat} (hp : np_pr r) (hQ : ¬ r ∣ Q) (hS : ∀ s, 0 < s → s < 32768 → s ∣ Q) (hr : 32768 ≤ r) (h2 : 2 ^ (k - 1) % r = 1) (h3 : 3 ^ (k - 1) % r = 1) (h5 : 5 ^ (k - 1) % r = 1) (h7 : 7 ^ (k - 1) % r = 1) (hk : r * k < 1073741824) (hok : np_okA Q k = true) : np_out (r * k) = true := by
  have key : ∀ x, x % r = 1 → r ∣ x - 1 := by
    intro x hx
    apply Nat.dvd_of_mod_eq_zero
    apply Nat.sub_mod_eq_zero_of_mod_eq
    rw [hx, Nat.mod_eq_of_lt hp.1]
  unfold np_okA at hok
  rw [np_fo_eq, np_fo_eq, np_fo_eq, np_fo_eq, np_fo_eq, np_fo_eq, np_fo_eq] at hok
  have hd0 : r ∣ np_g0 k := Nat.dvd_gcd (Nat.dvd_gcd (key _ h2) (key _ h3)) (Nat.dvd_gcd (key _ h5) (key _ h7))
  have hd : r ∣ np_str Q (np_str Q (np_str Q (np_str Q (np_str Q (np_str Q (np_g0 k)))))) :=
    np_str_dvd hp hQ (np_str_dvd hp hQ (np_str_dvd hp hQ (np_str_dvd hp hQ (np_str_dvd hp hQ (np_str_dvd hp hQ hd0)))))
  revert hok hd
  generalize np_str Q (np_str Q (np_str Q (np_str Q (np_str Q (np_str Q (np_g0 k)))))) = h
  intro hok hd
  unfold np_okH at hok
  rw [Bool.or_eq_true, Bool.or_eq_true, Bool.and_eq_true, Bool.and_eq_true, Bool.and_eq_true, Bool.or_eq_true, np_fo_eq] at hok
  rcases hok with (hok | ⟨hk1, hh1⟩) | ⟨hg, hb, hx⟩
  · have e := Nat.eq_of_beq_eq_true hok
    rw [e] at hd
    have := Nat.le_of_dvd (by decide) hd
    omega
  · exfalso
    have e := Nat.eq_of_beq_eq_true hh1
    have ek := Nat.eq_of_beq_eq_true hk1
    rw [e, show 3661339771 = 54121 * 67651 from by decide] at hd
    subst ek
    rcases np_euclid hp hd with ⟨c, hc⟩ | ⟨c, hc⟩
    · rcases Nat.lt_or_ge c 2 with h | h
      · have : c = 0 ∨ c = 1 := by omega
        rcases this with rfl | rfl <;> omega
      · have : 32768 * 2 ≤ r * c := Nat.mul_le_mul hr h
        omega
    · rcases Nat.lt_or_ge c 3 with h | h
      · have : c = 0 ∨ c = 1 ∨ c = 2 := by omega
        rcases this with rfl | rfl | rfl <;> omega
      · have : 32768 * 3 ≤ r * c := Nat.mul_le_mul hr h
        omega
  · have hg := Nat.eq_of_beq_eq_true hg
    have hb := Nat.le_of_ble_eq_true hb
    have hh : h = r := by
      obtain ⟨c, rfl⟩ := hd
      rcases Nat.lt_or_ge 1 c with hc | hc
      · obtain ⟨s, hs, hsd⟩ := np_factor c hc
        have hs1 := hs.1
        rcases Nat.lt_or_ge s 32768 with hl | hl
        · have h6 : s ∣ Nat.gcd (r * c) Q := Nat.dvd_gcd (Nat.dvd_trans hsd (Nat.dvd_mul_left _ _)) (hS s (by omega) hl)
          rw [hg] at h6
          have := Nat.le_of_dvd (by decide) h6
          omega
        · have h7 : s ≤ c := Nat.le_of_dvd (by omega) hsd
          have h8 : 32768 * 32768 ≤ r * c := Nat.mul_le_mul hr (by omega)
          omega
      · have h9 : c ≠ 0 := by
          intro e
          subst e
          rw [Nat.mul_zero, Nat.gcd_zero_left] at hg
          have := hS 2 (by decide) (by decide)
          rw [hg] at this
          have := Nat.le_of_dvd (by decide) this
          omega
        have h10 : c = 1 := by omega
        rw [h10, Nat.mul_one]
    subst hh
    rcases hx with hx | hx
    · have := Nat.le_of_ble_eq_true hx
      omega
    · exact hx
/-! case B: a prime factor of 101 .. 32767 -/
def np_E (r d : Nat) : Bool := Nat.beq (Nat.mod (Nat.pow 2 d) r) 1 && Nat.beq (Nat.mod (Nat.pow 3 d) r) 1
def np_c1 (r i : Nat) : Nat := cond (np_E r i) i 0
def np_c2 (r i : Nat) : Nat := cond (np_E r (Nat.div (Nat.sub r 1) i)) (Nat.div (Nat.sub r 1) i) 0
def np_Lg (r : Nat) : Nat → Nat
  | 0 => r - 1
  | i + 1 => cond (Nat.beq (Nat.mod (Nat.sub r 1) (i + 1)) 0) (Nat.gcd (Nat.gcd (np_c1 r (i + 1)) (np_c2 r (i + 1))) (np_Lg r i)) (np_Lg r i)
theorem np_Lg_dvd (r : Nat) : ∀ (m i : Nat), 1 ≤ i → i ≤ m → (r - 1) % i = 0 → np_Lg r m ∣ np_c1 r i ∧ np_Lg r m ∣ np_c2 r i
  | 0, i, h1, h2, _ => by omega
  | m + 1, i, h1, h2, h0 => by
    by_cases e : i = m + 1
    · subst e
      have e1 : np_Lg r (m + 1) = Nat.gcd (Nat.gcd (np_c1 r (m + 1)) (np_c2 r (m + 1))) (np_Lg r m) := by
        show cond (Nat.beq ((r - 1) % (m + 1)) 0) _ _ = _
        rw [h0]
        rfl
      rw [e1]
      exact ⟨Nat.dvd_trans (Nat.gcd_dvd_left _ _) (Nat.gcd_dvd_left _ _), Nat.dvd_trans (Nat.gcd_dvd_left _ _) (Nat.gcd_dvd_right _ _)⟩
    · obtain ⟨h3, h4⟩ := np_Lg_dvd r m i h1 (by omega) h0
      have e1 : np_Lg r (m + 1) ∣ np_Lg r m := by
        show cond (Nat.beq ((r - 1) % (m + 1)) 0) _ _ ∣ _
        cases Nat.beq ((r - 1) % (m + 1)) 0
        · exact Nat.dvd_refl _
        · exact Nat.gcd_dvd_right _ _
      exact ⟨Nat.dvd_trans e1 h3, Nat.dvd_trans e1 h4⟩
def np_L (r : Nat) : Nat := np_Lg r 181
theorem np_L_dvd {r d : Nat} (h1 : 1 < r) (hr : r < 32768) (hd : d ∣ r - 1) (hE : np_E r d = true) : np_L r ∣ d := by
  obtain ⟨i, hi⟩ := hd
  have hd0 : 0 < d := by
    rcases Nat.eq_zero_or_pos d with e | e
    · subst e
      rw [Nat.zero_mul] at hi
      omega
    · exact e
  have hi0 : 0 < i := by
    rcases Nat.eq_zero_or_pos i with e | e
    · subst e
      rw [Nat.mul_zero] at hi
      omega
    · exact e
  rcases Nat.lt_or_ge d 182 with hl | hl
  · have hm : (r - 1) % d = 0 := by rw [hi]; exact Nat.mul_mod_right d i
    have h := (np_Lg_dvd r 181 d (by omega) (by omega) hm).1
    unfold np_c1 at h
    rw [hE] at h
    exact h
  · have hl2 : i < 182 := by
      rcases Nat.lt_or_ge i 182 with h | h
      · exact h
      · have : 182 * 182 ≤ d * i := Nat.mul_le_mul hl h
        omega
    have hm : (r - 1) % i = 0 := by rw [hi]; exact Nat.mul_mod_left d i
    have h := (np_Lg_dvd r 181 i (by omega) (by omega) hm).2
    have hq : (r - 1) / i = d := by rw [hi]; exact Nat.mul_div_cancel d hi0
    have h : np_L r ∣ cond (np_E r ((r - 1) / i)) ((r - 1) / i) 0 := h
    rw [hq, hE] at h
    exact h
def np_P97 : Nat := 2305567963945518424753102147331756070
/-- every product of r and a number that is 1 modulo L is out: by the 210 rests of the count -/
def np_okM (r L n0 : Nat) : Bool := Nat.ble 1073741824 n0 || (!(np_fil n0) || np_fo (Nat.mul (Nat.mul r L) 210) fun st => np_ab (fun i => np_fo (Nat.add n0 (Nat.mul st i)) np_out) (Nat.add (Nat.div (Nat.sub 1073741823 n0) st) 1) 24 0)
def np_okL (r L : Nat) : Bool := np_ab (fun t => np_fo (Nat.mul r (Nat.add 1 (Nat.mul L t))) (np_okM r L)) 210 8 0
def np_okB (r : Nat) : Bool := !(Nat.beq (Nat.gcd r np_P97) 1) || np_fo (np_L r) (np_okL r)
theorem np_okB_spec {r k : Nat} (hp : np_pr r) (h101 : 101 ≤ r) (hr : r < 32768) (hk1 : 1 < k) (h2 : 2 ^ (k - 1) % r = 1) (h3 : 3 ^ (k - 1) % r = 1) (hk : r * k < 1073741824) (hok : np_okB r = true) : np_out (r * k) = true := by
  unfold np_okB at hok
  rw [Bool.or_eq_true, np_fo_eq] at hok
  rcases hok with hok | hok
  · exfalso
    have hg : Nat.gcd r np_P97 = 1 := by
      rcases hp.2 _ (Nat.gcd_dvd_left r np_P97) with h | h
      · exact h
      · exfalso
        have hd : r ∣ np_P97 := by rw [← h]; exact Nat.gcd_dvd_right r np_P97
        have e : np_P97 = 2 * 3 * 5 * 7 * 11 * 13 * 17 * 19 * 23 * 29 * 31 * 37 * 41 * 43 * 47 * 53 * 59 * 61 * 67 * 71 * 73 * 79 * 83 * 89 * 97 := by decide +kernel
        rw [e] at hd
        have big : ∀ x, r ∣ x → 0 < x → x < 101 → False := fun x h h0 hx => by
          have := Nat.le_of_dvd h0 h
          omega
        iterate 24 (
          rcases np_euclid hp hd with hd | hd
          rotate_left
          · exact big _ hd (by decide) (by decide))
        exact big _ hd (by decide) (by decide)
    rw [hg] at hok
    exact absurd hok (by decide)
  · have h1 := hp.1
    have hE : np_E r (Nat.gcd (k - 1) (r - 1)) = true := by
      have n2 : ¬ r ∣ 2 := fun h => by have := Nat.le_of_dvd (by decide) h; omega
      have n3 : ¬ r ∣ 3 := fun h => by have := Nat.le_of_dvd (by decide) h; omega
      show (Nat.beq (2 ^ (Nat.gcd (k - 1) (r - 1)) % r) 1 && Nat.beq (3 ^ (Nat.gcd (k - 1) (r - 1)) % r) 1) = true
      rw [np_powgcd h1 _ _ h2 (np_fermat hp n2), np_powgcd h1 _ _ h3 (np_fermat hp n3)]
      rfl
    have hL := Nat.dvd_trans (np_L_dvd h1 hr (Nat.gcd_dvd_right (k - 1) (r - 1)) hE) (Nat.gcd_dvd_left (k - 1) (r - 1))
    generalize np_L r = L at hok hL
    obtain ⟨j, hj⟩ := hL
    have hj0 : 0 < j := by
      rcases Nat.eq_zero_or_pos j with e | e
      · subst e
        rw [Nat.mul_zero] at hj
        omega
      · exact e
    have hL0 : 0 < L := by
      rcases Nat.eq_zero_or_pos L with e | e
      · subst e
        rw [Nat.zero_mul] at hj
        omega
      · exact e
    unfold np_okL at hok
    have e : r * k = r * (1 + L * (j % 210)) + r * L * 210 * (j / 210) := by
      have e1 : k = 1 + L * j := by omega
      have e2 : j = j % 210 + 210 * (j / 210) := by omega
      conv => lhs; rw [e1, e2]
      grind
    have h := np_ab_all 8 0 hok (j % 210) (by omega) (by
      have : 0 + 2 ^ 8 = 256 := by decide
      omega) (by omega)
    try dsimp only at h
    rw [np_fo_eq] at h
    have h : np_okM r L (r * (1 + L * (j % 210))) = true := h
    have hst0 : 0 < r * L * 210 := Nat.mul_pos (Nat.mul_pos (by omega) hL0) (by decide)
    have hfm : (r * k) % 210 = (r * (1 + L * (j % 210))) % 210 := by
      rw [e, Nat.mul_assoc (r * L), Nat.mul_left_comm (r * L), Nat.add_mul_mod_self_left]
    generalize hn0 : r * (1 + L * (j % 210)) = n0 at h e hfm
    generalize hst : r * L * 210 = st at e hst0
    unfold np_okM at h
    rw [Bool.or_eq_true, Bool.or_eq_true, np_fo_eq] at h
    rcases h with h | h | h
    · have := Nat.le_of_ble_eq_true h
      omega
    · have hf : np_fil (r * k) = false := by
        rw [np_fil_mod hfm]
        simpa using h
      unfold np_out
      rw [hf]
      simp
    · have h : np_ab (fun i => np_fo (Nat.add n0 (Nat.mul (r * L * 210) i)) np_out) (Nat.add (Nat.div (Nat.sub 1073741823 n0) (r * L * 210)) 1) 24 0 = true := h
      rw [hst] at h
      have hB : j / 210 ≤ (1073741823 - n0) / st := by
        rw [Nat.le_div_iff_mul_le hst0, Nat.mul_comm]
        omega
      have hB2 : j / 210 < 0 + 2 ^ 24 := by
        have h1 : (1073741823 - n0) / st ≤ 1073741823 / st := Nat.div_le_div_right (Nat.sub_le _ _)
        have h2 : 1073741823 / st ≤ 1073741823 / (101 * 1 * 210) := by
          apply Nat.div_le_div_left _ (by decide)
          rw [← hst]
          exact Nat.mul_le_mul_right 210 (Nat.mul_le_mul h101 hL0)
        have h3 : 1073741823 / (101 * 1 * 210) = 50624 := by decide
        have h4 : 0 + 2 ^ 24 = 16777216 := by decide
        omega
      have h := np_ab_all 24 0 h (j / 210) (by omega) hB2 (by
        show j / 210 < (1073741823 - n0) / st + 1
        omega)
      try dsimp only at h
      rw [np_fo_eq] at h
      rw [e]
      exact h
/-! case C: all prime factors of 11 .. 97 -/
def np_ps : List Nat := [11, 13, 17, 19, 23, 29, 31, 37, 41, 43, 47, 53, 59, 61, 67, 71, 73, 79, 83, 89, 97]
def np_dfs : Nat → List Nat → Nat → Bool
  | 0, _, _ => false
  | _ + 1, [], P => np_fo P np_out
  | f + 1, s :: rest, P => np_dfs f rest P && (Nat.ble 1073741824 (P * s) || np_fo (P * s) (np_dfs f (s :: rest)))
theorem np_dfs_spec : ∀ (f : Nat) (ps : List Nat) (P m : Nat), np_dfs f ps P = true → 0 < m → (∀ r, np_pr r → r ∣ m → r ∈ ps) → P * m < 1073741824 → np_out (P * m) = true
  | 0, _, _, _, h, _, _, _ => by
    unfold np_dfs at h
    exact absurd h (by decide)
  | f + 1, [], P, m, h, h0, hr, hb => by
    unfold np_dfs at h
    rw [np_fo_eq] at h
    have e : m = 1 := by
      rcases Nat.lt_or_ge 1 m with h1 | h1
      · obtain ⟨r, h2, h3⟩ := np_factor m h1
        have := hr r h2 h3
        cases this
      · omega
    rw [e, Nat.mul_one]
    exact h
  | f + 1, s :: rest, P, m, h, h0, hr, hb => by
    unfold np_dfs at h
    rw [Bool.and_eq_true, Bool.or_eq_true, np_fo_eq] at h
    obtain ⟨h1, h2⟩ := h
    by_cases hs : s ∣ m
    · obtain ⟨c, rfl⟩ := hs
      have hc : 0 < c := by
        rcases Nat.eq_zero_or_pos c with e | e
        · subst e
          rw [Nat.mul_zero] at h0
          omega
        · exact e
      rw [← Nat.mul_assoc] at hb ⊢
      rcases h2 with h2 | h2
      · have := Nat.le_of_ble_eq_true h2
        have : P * s * 1 ≤ P * s * c := Nat.mul_le_mul_left _ hc
        omega
      · exact np_dfs_spec f (s :: rest) (P * s) c h2 hc (fun r h3 h4 => hr r h3 (Nat.dvd_trans h4 (Nat.dvd_mul_left _ _))) hb
    · refine np_dfs_spec f rest P m h1 h0 (fun r h3 h4 => ?_) hb
      rcases List.mem_cons.mp (hr r h3 h4) with e | e
      · subst e
        exact absurd h4 hs
      · exact e
/-- primes below 101 -/
def np_small (r : Nat) : Bool := Nat.ble r 10 || (np_ps.contains r || (List.range 10).any (fun d => Nat.ble 2 d && Nat.beq (r % d) 0))
theorem np_small_all : ∀ r, r < 101 → np_small r = true := by decide +kernel
theorem np_small_pr {r : Nat} (hp : np_pr r) (hr : r < 101) (h10 : 10 < r) : r ∈ np_ps := by
  have h := np_small_all r hr
  unfold np_small at h
  rw [Bool.or_eq_true, Bool.or_eq_true] at h
  rcases h with h | h | h
  · have := Nat.le_of_ble_eq_true h
    omega
  · exact List.contains_iff_mem.mp h
  · obtain ⟨d, h1, h2⟩ := List.any_eq_true.mp h
    rw [Bool.and_eq_true] at h2
    have h3 := Nat.le_of_ble_eq_true h2.1
    have h4 := Nat.eq_of_beq_eq_true h2.2
    have h5 := List.mem_range.mp h1
    rcases hp.2 d (Nat.dvd_of_mod_eq_zero h4) with e | e <;> omega
end
section
/-! the search, reckoned: case A -/
theorem np_A0 : np_fo (np_rp 15 1) (fun Q => np_ab (fun j => np_okA Q (2 * j + 3)) 16383 12 0) = true := by decide +kernel
theorem np_A1 : np_fo (np_rp 15 1) (fun Q => np_ab (fun j => np_okA Q (2 * j + 3)) 16383 12 4096) = true := by decide +kernel
theorem np_A2 : np_fo (np_rp 15 1) (fun Q => np_ab (fun j => np_okA Q (2 * j + 3)) 16383 12 8192) = true := by decide +kernel
theorem np_A3 : np_fo (np_rp 15 1) (fun Q => np_ab (fun j => np_okA Q (2 * j + 3)) 16383 12 12288) = true := by decide +kernel
end
section
/-! the search, reckoned: case B, first half -/
theorem np_B0 : np_ab (fun j => np_okB (2 * j + 1)) 51 0 50 = true := by decide +kernel
theorem np_B1 : np_ab (fun j => np_okB (2 * j + 1)) 53 1 51 = true := by decide +kernel
theorem np_B2 : np_ab (fun j => np_okB (2 * j + 1)) 54 0 53 = true := by decide +kernel
theorem np_B3 : np_ab (fun j => np_okB (2 * j + 1)) 56 1 54 = true := by decide +kernel
theorem np_B4 : np_ab (fun j => np_okB (2 * j + 1)) 63 3 56 = true := by decide +kernel
theorem np_B5 : np_ab (fun j => np_okB (2 * j + 1)) 65 1 63 = true := by decide +kernel
theorem np_B6 : np_ab (fun j => np_okB (2 * j + 1)) 68 2 65 = true := by decide +kernel
theorem np_B7 : np_ab (fun j => np_okB (2 * j + 1)) 74 3 68 = true := by decide +kernel
theorem np_B8 : np_ab (fun j => np_okB (2 * j + 1)) 78 2 74 = true := by decide +kernel
theorem np_B9 : np_ab (fun j => np_okB (2 * j + 1)) 83 3 78 = true := by decide +kernel
theorem np_B10 : np_ab (fun j => np_okB (2 * j + 1)) 89 3 83 = true := by decide +kernel
theorem np_B11 : np_ab (fun j => np_okB (2 * j + 1)) 95 3 89 = true := by decide +kernel
end
section
/-! the search, reckoned: case B, second half -/
theorem np_B12 : np_ab (fun j => np_okB (2 * j + 1)) 98 2 95 = true := by decide +kernel
theorem np_B13 : np_ab (fun j => np_okB (2 * j + 1)) 113 4 98 = true := by decide +kernel
theorem np_B14 : np_ab (fun j => np_okB (2 * j + 1)) 120 3 113 = true := by decide +kernel
theorem np_B15 : np_ab (fun j => np_okB (2 * j + 1)) 135 4 120 = true := by decide +kernel
theorem np_B16 : np_ab (fun j => np_okB (2 * j + 1)) 155 5 135 = true := by decide +kernel
theorem np_B17 : np_ab (fun j => np_okB (2 * j + 1)) 179 5 155 = true := by decide +kernel
theorem np_B18 : np_ab (fun j => np_okB (2 * j + 1)) 215 6 179 = true := by decide +kernel
theorem np_B19 : np_ab (fun j => np_okB (2 * j + 1)) 233 5 215 = true := by decide +kernel
theorem np_B20 : np_ab (fun j => np_okB (2 * j + 1)) 300 7 233 = true := by decide +kernel
theorem np_B21 : np_ab (fun j => np_okB (2 * j + 1)) 419 7 300 = true := by decide +kernel
theorem np_B22 : np_ab (fun j => np_okB (2 * j + 1)) 791 9 419 = true := by decide +kernel
theorem np_B23 : np_ab (fun j => np_okB (2 * j + 1)) 2048 11 791 = true := by decide +kernel
end
section
/-! the search, reckoned: case B, the greater primes -/
theorem np_B24 : np_ab (fun j => np_okB (2 * j + 1)) 4500 12 2048 = true := by decide +kernel
theorem np_B25 : np_ab (fun j => np_okB (2 * j + 1)) 7500 12 4500 = true := by decide +kernel
theorem np_B26 : np_ab (fun j => np_okB (2 * j + 1)) 10500 12 7500 = true := by decide +kernel
theorem np_B27 : np_ab (fun j => np_okB (2 * j + 1)) 13500 12 10500 = true := by decide +kernel
theorem np_B28 : np_ab (fun j => np_okB (2 * j + 1)) 16384 12 13500 = true := by decide +kernel
end
section
/-! the search, reckoned: case C, in the order of the primes, with an early end -/
def np_lf (n : Nat) : Bool := !(np_fil n) || np_out n
theorem np_lf_out {n : Nat} (h : np_lf n = true) : np_out n = true := by
  unfold np_lf at h
  rw [Bool.or_eq_true] at h
  rcases h with h | h
  · have hf : np_fil n = false := by simpa using h
    unfold np_out
    rw [hf]
    simp
  · exact h
def np_dg : Nat → List Nat → Nat → Bool
  | 0, _, _ => false
  | _ + 1, [], P => np_fo P np_lf
  | f + 1, s :: rest, P => cond (Nat.ble 1073741824 (Nat.mul P s)) (np_fo P np_lf) (np_dg f rest P && np_fo (Nat.mul P s) (np_dg f (s :: rest)))
theorem np_dg_spec : ∀ (f : Nat) (ps : List Nat) (P m : Nat), np_dg f ps P = true → 0 < m → (∀ r, np_pr r → r ∣ m → r ∈ ps) → ps.Pairwise (· ≤ ·) → P * m < 1073741824 → np_out (P * m) = true
  | 0, _, _, _, h, _, _, _, _ => by
    unfold np_dg at h
    exact absurd h (by decide)
  | f + 1, [], P, m, h, h0, hr, _, hb => by
    unfold np_dg at h
    rw [np_fo_eq] at h
    have e : m = 1 := by
      rcases Nat.lt_or_ge 1 m with h1 | h1
      · obtain ⟨r, h2, h3⟩ := np_factor m h1
        have := hr r h2 h3
        cases this
      · omega
    rw [e, Nat.mul_one]
    exact np_lf_out h
  | f + 1, s :: rest, P, m, h, h0, hr, hs, hb => by
    unfold np_dg at h
    cases hc : Nat.ble 1073741824 (Nat.mul P s) with
    | true =>
      rw [hc] at h
      have h : np_fo P np_lf = true := h
      rw [np_fo_eq] at h
      have hc := Nat.le_of_ble_eq_true hc
      have hc : 1073741824 ≤ P * s := hc
      have e : m = 1 := by
        rcases Nat.lt_or_ge 1 m with h1 | h1
        · exfalso
          obtain ⟨r, h2, h3⟩ := np_factor m h1
          have h4 : s ≤ r := by
            rcases List.mem_cons.mp (hr r h2 h3) with e | e
            · omega
            · exact (List.pairwise_cons.mp hs).1 r e
          have h5 : r ≤ m := Nat.le_of_dvd h0 h3
          have h6 : P * s ≤ P * m := Nat.mul_le_mul_left P (Nat.le_trans h4 h5)
          omega
        · omega
      rw [e, Nat.mul_one]
      exact np_lf_out h
    | false =>
      rw [hc] at h
      have h : (np_dg f rest P && np_fo (Nat.mul P s) (np_dg f (s :: rest))) = true := h
      rw [Bool.and_eq_true, np_fo_eq] at h
      obtain ⟨h1, h2⟩ := h
      by_cases hs1 : s ∣ m
      · obtain ⟨c, rfl⟩ := hs1
        have hc : 0 < c := by
          rcases Nat.eq_zero_or_pos c with e | e
          · subst e
            rw [Nat.mul_zero] at h0
            omega
          · exact e
        rw [← Nat.mul_assoc] at hb ⊢
        exact np_dg_spec f (s :: rest) (P * s) c h2 hc (fun r h3 h4 => hr r h3 (Nat.dvd_trans h4 (Nat.dvd_mul_left _ _))) hs hb
      · refine np_dg_spec f rest P m h1 h0 (fun r h3 h4 => ?_) (List.pairwise_cons.mp hs).2 hb
        rcases List.mem_cons.mp (hr r h3 h4) with e | e
        · subst e
          exact absurd h4 hs1
        · exact e
theorem np_C0 : np_dg 40 [11, 13, 17, 19, 23, 29, 31, 37, 41, 43, 47, 53, 59, 61, 67, 71, 73, 79, 83, 89, 97] 11 = true := by decide +kernel
theorem np_C1 : np_dg 40 [13, 17, 19, 23, 29, 31, 37, 41, 43, 47, 53, 59, 61, 67, 71, 73, 79, 83, 89, 97] 13 = true := by decide +kernel
theorem np_C2 : np_dg 40 [17, 19, 23, 29, 31, 37, 41, 43, 47, 53, 59, 61, 67, 71, 73, 79, 83, 89, 97] 17 = true := by decide +kernel
theorem np_C3 : np_dg 40 [19, 23, 29, 31, 37, 41, 43, 47, 53, 59, 61, 67, 71, 73, 79, 83, 89, 97] 19 = true := by decide +kernel
theorem np_C4 : np_dg 40 [23, 29, 31, 37, 41, 43, 47, 53, 59, 61, 67, 71, 73, 79, 83, 89, 97] 23 = true := by decide +kernel
theorem np_C5 : np_dg 40 [29, 31, 37, 41, 43, 47, 53, 59, 61, 67, 71, 73, 79, 83, 89, 97] 29 = true := by decide +kernel
theorem np_C6 : np_dg 40 [31, 37, 41, 43, 47, 53, 59, 61, 67, 71, 73, 79, 83, 89, 97] 31 = true := by decide +kernel
theorem np_C7 : np_dg 40 [37, 41, 43, 47, 53, 59, 61, 67, 71, 73, 79, 83, 89, 97] 37 = true := by decide +kernel
theorem np_C8 : np_dg 40 [41, 43, 47, 53, 59, 61, 67, 71, 73, 79, 83, 89, 97] 41 = true := by decide +kernel
theorem np_C9 : np_dg 40 [43, 47, 53, 59, 61, 67, 71, 73, 79, 83, 89, 97] 43 = true := by decide +kernel
theorem np_C10 : np_dg 40 [47, 53, 59, 61, 67, 71, 73, 79, 83, 89, 97] 47 = true := by decide +kernel
theorem np_C11 : np_dg 40 [53, 59, 61, 67, 71, 73, 79, 83, 89, 97] 53 = true := by decide +kernel
theorem np_C12 : np_dg 40 [59, 61, 67, 71, 73, 79, 83, 89, 97] 59 = true := by decide +kernel
theorem np_C13 : np_dg 40 [61, 67, 71, 73, 79, 83, 89, 97] 61 = true := by decide +kernel
theorem np_C14 : np_dg 40 [67, 71, 73, 79, 83, 89, 97] 67 = true := by decide +kernel
theorem np_C15 : np_dg 40 [71, 73, 79, 83, 89, 97] 71 = true := by decide +kernel
theorem np_C16 : np_dg 40 [73, 79, 83, 89, 97] 73 = true := by decide +kernel
theorem np_C17 : np_dg 40 [79, 83, 89, 97] 79 = true := by decide +kernel
theorem np_C18 : np_dg 40 [83, 89, 97] 83 = true := by decide +kernel
theorem np_C19 : np_dg 40 [89, 97] 89 = true := by decide +kernel
theorem np_C20 : np_dg 40 [97] 97 = true := by decide +kernel
def np_dh : List Nat → Bool
  | [] => true
  | s :: rest => np_dg 40 (s :: rest) s && np_dh rest
theorem np_dh_spec : ∀ (ps : List Nat) (m : Nat), np_dh ps = true → 1 < m → (∀ r, np_pr r → r ∣ m → r ∈ ps) → ps.Pairwise (· ≤ ·) → m < 1073741824 → np_out m = true
  | [], m, _, h1, hr, _, _ => by
    obtain ⟨r, h2, h3⟩ := np_factor m h1
    have := hr r h2 h3
    cases this
  | s :: rest, m, h, h1, hr, hs, hb => by
    unfold np_dh at h
    rw [Bool.and_eq_true] at h
    by_cases hd : s ∣ m
    · obtain ⟨c, rfl⟩ := hd
      have hc : 0 < c := by
        rcases Nat.eq_zero_or_pos c with e | e
        · subst e
          rw [Nat.mul_zero] at h1
          omega
        · exact e
      exact np_dg_spec 40 (s :: rest) s c h.1 hc (fun r h3 h4 => hr r h3 (Nat.dvd_trans h4 (Nat.dvd_mul_left _ _))) hs hb
    · refine np_dh_spec rest m h.2 h1 (fun r h3 h4 => ?_) (List.pairwise_cons.mp hs).2 hb
      rcases List.mem_cons.mp (hr r h3 h4) with e | e
      · subst e
        exact absurd h4 hd
      · exact e
theorem np_C : np_dh np_ps = true := by
  show (np_dg 40 [11, 13, 17, 19, 23, 29, 31, 37, 41, 43, 47, 53, 59, 61, 67, 71, 73, 79, 83, 89, 97] 11 && (np_dg 40 [13, 17, 19, 23, 29, 31, 37, 41, 43, 47, 53, 59, 61, 67, 71, 73, 79, 83, 89, 97] 13 && (np_dg 40 [17, 19, 23, 29, 31, 37, 41, 43, 47, 53, 59, 61, 67, 71, 73, 79, 83, 89, 97] 17 && (np_dg 40 [19, 23, 29, 31, 37, 41, 43, 47, 53, 59, 61, 67, 71, 73, 79, 83, 89, 97] 19 && (np_dg 40 [23, 29, 31, 37, 41, 43, 47, 53, 59, 61, 67, 71, 73, 79, 83, 89, 97] 23 && (np_dg 40 [29, 31, 37, 41, 43, 47, 53, 59, 61, 67, 71, 73, 79, 83, 89, 97] 29 && (np_dg 40 [31, 37, 41, 43, 47, 53, 59, 61, 67, 71, 73, 79, 83, 89, 97] 31 && (np_dg 40 [37, 41, 43, 47, 53, 59, 61, 67, 71, 73, 79, 83, 89, 97] 37 && (np_dg 40 [41, 43, 47, 53, 59, 61, 67, 71, 73, 79, 83, 89, 97] 41 && (np_dg 40 [43, 47, 53, 59, 61, 67, 71, 73, 79, 83, 89, 97] 43 && (np_dg 40 [47, 53, 59, 61, 67, 71, 73, 79, 83, 89, 97] 47 && (np_dg 40 [53, 59, 61, 67, 71, 73, 79, 83, 89, 97] 53 && (np_dg 40 [59, 61, 67, 71, 73, 79, 83, 89, 97] 59 && (np_dg 40 [61, 67, 71, 73, 79, 83, 89, 97] 61 && (np_dg 40 [67, 71, 73, 79, 83, 89, 97] 67 && (np_dg 40 [71, 73, 79, 83, 89, 97] 71 && (np_dg 40 [73, 79, 83, 89, 97] 73 && (np_dg 40 [79, 83, 89, 97] 79 && (np_dg 40 [83, 89, 97] 83 && (np_dg 40 [89, 97] 89 && (np_dg 40 [97] 97 && true))))))))))))))))))))) = true
  rw [np_C0, np_C1, np_C2, np_C3, np_C4, np_C5, np_C6, np_C7, np_C8, np_C9, np_C10, np_C11, np_C12, np_C13, np_C14, np_C15, np_C16, np_C17, np_C18, np_C19, np_C20]
  rfl
theorem np_ps_sorted : np_ps.Pairwise (· ≤ ·) := by decide +kernel
end
section
/-! a number below 2^30 that passes is a prime -/
theorem np_Aall {Q : Nat} (hQ : Q = np_rp 15 1) {k : Nat} (h3 : 3 ≤ k) (hk : k < 32768) (ho : k % 2 = 1) : np_okA Q k = true := by
  have h0 := np_A0
  have h1 := np_A1
  have h2 := np_A2
  have h4 := np_A3
  rw [np_fo_eq, ← hQ] at h0 h1 h2 h4
  have e : 2 * ((k - 3) / 2) + 3 = k := by omega
  have key : ∀ lo, np_ab (fun j => np_okA Q (2 * j + 3)) 16383 12 lo = true → lo ≤ (k - 3) / 2 → (k - 3) / 2 < lo + 4096 → np_okA Q k = true := by
    intro lo h ha hb
    have := np_ab_all 12 lo h ((k - 3) / 2) ha hb (by omega)
    try dsimp only at this
    rw [e] at this
    exact this
  have hc : (k - 3) / 2 < 4096 ∨ (4096 ≤ (k - 3) / 2 ∧ (k - 3) / 2 < 8192) ∨ (8192 ≤ (k - 3) / 2 ∧ (k - 3) / 2 < 12288) ∨ (12288 ≤ (k - 3) / 2 ∧ (k - 3) / 2 < 16384) := by omega
  rcases hc with hc | hc | hc | hc
  · exact key 0 h0 (by omega) (by omega)
  · exact key 4096 h1 (by omega) (by omega)
  · exact key 8192 h2 (by omega) (by omega)
  · exact key 12288 h4 (by omega) (by omega)
theorem np_Ball {r : Nat} (h101 : 101 ≤ r) (hr : r < 32768) (ho : r % 2 = 1) : np_okB r = true := by
  have e : 2 * ((r - 1) / 2) + 1 = r := by omega
  have key : ∀ hi f lo, np_ab (fun j => np_okB (2 * j + 1)) hi f lo = true → lo ≤ (r - 1) / 2 → (r - 1) / 2 < lo + 2 ^ f → (r - 1) / 2 < hi → np_okB r = true := by
    intro hi f lo h ha hb hc
    have := np_ab_all f lo h ((r - 1) / 2) ha hb hc
    try dsimp only at this
    rw [e] at this
    exact this
  by_cases c0 : r < 103
  · exact key 51 0 50 np_B0 (by omega) (by omega) (by omega)
  by_cases c1 : r < 107
  · exact key 53 1 51 np_B1 (by omega) (by omega) (by omega)
  by_cases c2 : r < 109
  · exact key 54 0 53 np_B2 (by omega) (by omega) (by omega)
  by_cases c3 : r < 113
  · exact key 56 1 54 np_B3 (by omega) (by omega) (by omega)
  by_cases c4 : r < 127
  · exact key 63 3 56 np_B4 (by omega) (by omega) (by omega)
  by_cases c5 : r < 131
  · exact key 65 1 63 np_B5 (by omega) (by omega) (by omega)
  by_cases c6 : r < 137
  · exact key 68 2 65 np_B6 (by omega) (by omega) (by omega)
  by_cases c7 : r < 149
  · exact key 74 3 68 np_B7 (by omega) (by omega) (by omega)
  by_cases c8 : r < 157
  · exact key 78 2 74 np_B8 (by omega) (by omega) (by omega)
  by_cases c9 : r < 167
  · exact key 83 3 78 np_B9 (by omega) (by omega) (by omega)
  by_cases c10 : r < 179
  · exact key 89 3 83 np_B10 (by omega) (by omega) (by omega)
  by_cases c11 : r < 191
  · exact key 95 3 89 np_B11 (by omega) (by omega) (by omega)
  by_cases c12 : r < 197
  · exact key 98 2 95 np_B12 (by omega) (by omega) (by omega)
  by_cases c13 : r < 227
  · exact key 113 4 98 np_B13 (by omega) (by omega) (by omega)
  by_cases c14 : r < 241
  · exact key 120 3 113 np_B14 (by omega) (by omega) (by omega)
  by_cases c15 : r < 271
  · exact key 135 4 120 np_B15 (by omega) (by omega) (by omega)
  by_cases c16 : r < 311
  · exact key 155 5 135 np_B16 (by omega) (by omega) (by omega)
  by_cases c17 : r < 359
  · exact key 179 5 155 np_B17 (by omega) (by omega) (by omega)
  by_cases c18 : r < 431
  · exact key 215 6 179 np_B18 (by omega) (by omega) (by omega)
  by_cases c19 : r < 467
  · exact key 233 5 215 np_B19 (by omega) (by omega) (by omega)
  by_cases c20 : r < 601
  · exact key 300 7 233 np_B20 (by omega) (by omega) (by omega)
  by_cases c21 : r < 839
  · exact key 419 7 300 np_B21 (by omega) (by omega) (by omega)
  by_cases c22 : r < 1583
  · exact key 791 9 419 np_B22 (by omega) (by omega) (by omega)
  by_cases c23 : r < 4097
  · exact key 2048 11 791 np_B23 (by omega) (by omega) (by omega)
  by_cases c24 : r < 9001
  · exact key 4500 12 2048 np_B24 (by omega) (by omega) (by omega)
  by_cases c25 : r < 15001
  · exact key 7500 12 4500 np_B25 (by omega) (by omega) (by omega)
  by_cases c26 : r < 21001
  · exact key 10500 12 7500 np_B26 (by omega) (by omega) (by omega)
  by_cases c27 : r < 27001
  · exact key 13500 12 10500 np_B27 (by omega) (by omega) (by omega)
  exact key 16384 12 13500 np_B28 (by omega) (by omega) (by omega)
theorem np_search {n : Nat} (hn : n < 1073741824) (h : np_in n) : np_pr n := by
  apply Classical.byContradiction
  intro hnp
  have hfil := h.1
  have hbig := h.2.1
  have h2 := (h.2.2 2 (by simp)).1
  have h3 := (h.2.2 3 (by simp)).1
  have h5 := (h.2.2 5 (by simp)).1
  have h7 := (h.2.2 7 (by simp)).1
  unfold np_fil at hfil
  simp only [Bool.and_eq_true, Bool.not_eq_true', Bool.or_eq_false_iff] at hfil
  obtain ⟨f2, f3, ⟨f5, -⟩, ⟨f7, -⟩⟩ := hfil
  have f2 : n % 2 = 1 := Nat.eq_of_beq_eq_true f2
  have f3 : n % 3 = 2 := Nat.eq_of_beq_eq_true f3
  have f5 : Nat.beq (n % 5) 0 = false := f5
  have f7 : Nat.beq (n % 7) 0 = false := f7
  have f5 : n % 5 ≠ 0 := fun e => by rw [e] at f5; exact absurd f5 (by decide)
  have f7 : n % 7 ≠ 0 := fun e => by rw [e] at f7; exact absurd f7 (by decide)
  -- a prime factor and its cofactor
  have cof : ∀ r, np_pr r → r ∣ n → ∃ k, n = r * k ∧ 1 < k ∧ (∀ a, a = 2 ∨ a = 3 ∨ a = 5 ∨ a = 7 → a ^ (k - 1) % r = 1) := by
    intro r hr hd
    obtain ⟨k, hk⟩ := hd
    have hk1 : 1 < k := by
      rcases Nat.lt_or_ge 1 k with h | h
      · exact h
      · have : k = 0 ∨ k = 1 := by omega
        rcases this with e | e
        · rw [e, Nat.mul_zero] at hk
          omega
        · rw [e, Nat.mul_one] at hk
          rw [hk] at hnp
          exact absurd hr hnp
    refine ⟨k, hk, hk1, fun a ha => np_cof hr hk1 ?_⟩
    rw [← hk]
    exact (h.2.2 a ha).1
  have odd : ∀ r, r ∣ n → r % 2 = 1 := by
    intro r hd
    rcases Nat.mod_two_eq_zero_or_one r with e | e
    · have : 2 ∣ n := Nat.dvd_trans (Nat.dvd_of_mod_eq_zero e) hd
      have := Nat.mod_eq_zero_of_dvd this
      omega
    · exact e
  have noA : ∀ r, np_pr r → r ∣ n → r < 32769 := by
    intro r hr hd
    rcases Nat.lt_or_ge r 32769 with hl | hl
    · exact hl
    · exfalso
      obtain ⟨k, hk, hk1, hp⟩ := cof r hr hd
      have hko : k % 2 = 1 := odd k ⟨r, by rw [hk, Nat.mul_comm]⟩
      have hk3 : k < 32768 := by
        rcases Nat.lt_or_ge k 32768 with h | h
        · exact h
        · have : 32769 * 32768 ≤ r * k := Nat.mul_le_mul hl h
          omega
      obtain ⟨Q, hQ⟩ : ∃ Q, Q = np_rp 15 1 := ⟨_, rfl⟩
      have hok := np_Aall hQ (k := k) (by omega) hk3 hko
      refine np_in_out h ?_
      rw [hk]
      refine np_okA_spec (Q := Q) hr (fun hd2 => ?_) (fun s h0 h1 => ?_) (by omega) (hp 2 (by simp)) (hp 3 (by simp)) (hp 5 (by simp)) (hp 7 (by simp)) (by omega) hok
      · rw [hQ] at hd2
        have := np_rp_lt hr 15 1 (by decide) hd2
        have e : 1 + 2 ^ 15 = 32769 := by decide
        omega
      · rw [hQ]
        exact np_rp_dvd 15 1 h0 (by omega)
  have noB : ∀ r, np_pr r → r ∣ n → r < 101 := by
    intro r hr hd
    rcases Nat.lt_or_ge r 101 with hl | hl
    · exact hl
    · exfalso
      obtain ⟨k, hk, hk1, hp⟩ := cof r hr hd
      have hro := odd r hd
      have hr1 := noA r hr hd
      have hok := np_Ball hl (by omega) hro
      refine np_in_out h ?_
      rw [hk]
      exact np_okB_spec hr hl (by omega) hk1 (hp 2 (by simp)) (hp 3 (by simp)) (by omega) hok
  have hC := np_dh_spec np_ps n np_C (by omega) (fun r hr hd => by
    have h10 : 10 < r := by
      rcases Nat.lt_or_ge 10 r with h | h
      · exact h
      · exfalso
        have h1 := hr.1
        have ho := odd r hd
        have hm := Nat.mod_eq_zero_of_dvd hd
        have hc : r = 3 ∨ r = 5 ∨ r = 7 ∨ r = 9 := by omega
        rcases hc with rfl | rfl | rfl | rfl <;> omega
    exact np_small_pr hr (noB r hr hd) h10) np_ps_sorted (by omega)
  exact np_in_out h hC
/-- Pocklington: p = 2 q + 1, q a prime -/
theorem np_pock {q : Nat} (hq : np_pr q) (h2 : 2 < q) (ho : q % 2 = 1) (h3 : (2 * q + 1) % 3 ≠ 0) (hf : 2 ^ (2 * q) % (2 * q + 1) = 1) : np_pr (2 * q + 1) := by
  refine ⟨by omega, ?_⟩
  -- every prime factor is p itself
  have key : ∀ r, np_pr r → r ∣ 2 * q + 1 → r = 2 * q + 1 := by
    intro r hr hd
    have h1 := hr.1
    have hr2 : r % 2 = 1 := by
      rcases Nat.mod_two_eq_zero_or_one r with e | e
      · have := Nat.mod_eq_zero_of_dvd (Nat.dvd_trans (Nat.dvd_of_mod_eq_zero e) hd)
        omega
      · exact e
    have hr3 : r ≠ 3 := by
      rintro rfl
      exact h3 (Nat.mod_eq_zero_of_dvd hd)
    have hp := np_mod_dvd h1 hd hf
    have hn2 : ¬ r ∣ 2 := fun h => by
      have := Nat.le_of_dvd (by decide) h
      omega
    have hfer := np_fermat hr hn2
    have hg := np_powgcd h1 _ _ hp hfer
    have hle : r ≤ 2 * q + 1 := Nat.le_of_dvd (by omega) hd
    by_cases hqd : q ∣ r - 1
    · obtain ⟨c, hc⟩ := hqd
      have hc2 : c ≠ 0 := by
        rintro rfl
        omega
      have hc1 : c ≠ 1 := by
        rintro rfl
        omega
      have : q * 2 ≤ q * c := Nat.mul_le_mul_left q (by omega)
      omega
    · exfalso
      have hcop : Nat.Coprime q (r - 1) := np_cop hq hqd
      have hg2 : Nat.gcd (2 * q) (r - 1) ∣ 2 := by
        have h6 : Nat.gcd (2 * q) (r - 1) = Nat.gcd 2 (r - 1) := Nat.Coprime.gcd_mul_right_cancel 2 hcop
        rw [h6]
        exact Nat.gcd_dvd_left 2 (r - 1)
      have h4 := np_powdvd h1 hg2 hg
      have h5 : r ∣ 2 ^ 2 - 1 := by
        apply Nat.dvd_of_mod_eq_zero
        apply Nat.sub_mod_eq_zero_of_mod_eq
        rw [h4, Nat.mod_eq_of_lt h1]
      have h7 : r ∣ 3 := h5
      have := Nat.le_of_dvd (by decide) h7
      omega
  intro d hd
  have hd0 : d ≠ 0 := by
    rintro rfl
    have := Nat.eq_zero_of_zero_dvd hd
    omega
  by_cases h1 : d = 1
  · exact Or.inl h1
  · right
    obtain ⟨r, hr, hrd⟩ := np_factor d (by omega)
    have h4 := key r hr (Nat.dvd_trans hrd hd)
    have h5 := Nat.le_of_dvd (by omega) hrd
    have h6 := Nat.le_of_dvd (by omega) hd
    omega
end
section
/-! the words of the tables (begun from the given skeleton's first part) -/
def lw_okq (q : MethodName × Nat) : Prop := (q.1.cls ≠ "java/lang/invoke/MethodHandle" ∧ q.1.cls ≠ "java/lang/invoke/VarHandle") ∧ Cond.instantiable q.1.cls q.2 ∈ tables_1 ∧ Cond.privateMethod q.1 ∈ tables_1 ∧ Cond.instanceMethod q.1 ∈ tables_1
theorem lw_p0 : lw_okq (⟨"OpenDeal", "countWithChips", "()I"⟩, 11) := ⟨⟨by decide +kernel, by decide +kernel⟩, List.mem_of_getElem? (i := 15) (by decide +kernel), List.mem_of_getElem? (i := 188) (by decide +kernel), List.mem_of_getElem? (i := 189) (by decide +kernel)⟩
theorem lw_p1 : lw_okq (⟨"OpenDeal", "isSeated", "(I)Z"⟩, 11) := ⟨⟨by decide +kernel, by decide +kernel⟩, List.mem_of_getElem? (i := 15) (by decide +kernel), List.mem_of_getElem? (i := 197) (by decide +kernel), List.mem_of_getElem? (i := 198) (by decide +kernel)⟩
theorem lw_p2 : lw_okq (⟨"OpenDeal$Draws", "nextExponent", "(I)I"⟩, 1) := ⟨⟨by decide +kernel, by decide +kernel⟩, List.mem_of_getElem? (i := 217) (by decide +kernel), List.mem_of_getElem? (i := 227) (by decide +kernel), List.mem_of_getElem? (i := 228) (by decide +kernel)⟩
theorem lw_p3 : lw_okq (⟨"OpenDeal$Draws", "next", "()I"⟩, 1) := ⟨⟨by decide +kernel, by decide +kernel⟩, List.mem_of_getElem? (i := 217) (by decide +kernel), List.mem_of_getElem? (i := 232) (by decide +kernel), List.mem_of_getElem? (i := 233) (by decide +kernel)⟩
theorem lw_p4 : lw_okq (⟨"OpenDeal", "allSealed", "()Z"⟩, 11) := ⟨⟨by decide +kernel, by decide +kernel⟩, List.mem_of_getElem? (i := 15) (by decide +kernel), List.mem_of_getElem? (i := 239) (by decide +kernel), List.mem_of_getElem? (i := 240) (by decide +kernel)⟩
theorem lw_p5 : lw_okq (⟨"OpenDeal", "nextToTurn", "()I"⟩, 11) := ⟨⟨by decide +kernel, by decide +kernel⟩, List.mem_of_getElem? (i := 15) (by decide +kernel), List.mem_of_getElem? (i := 247) (by decide +kernel), List.mem_of_getElem? (i := 248) (by decide +kernel)⟩
theorem lw_p6 : lw_okq (⟨"OpenDeal", "playerOfTurn", "(I)I"⟩, 11) := ⟨⟨by decide +kernel, by decide +kernel⟩, List.mem_of_getElem? (i := 15) (by decide +kernel), List.mem_of_getElem? (i := 251) (by decide +kernel), List.mem_of_getElem? (i := 252) (by decide +kernel)⟩
theorem lw_p7 : lw_okq (⟨"OpenDeal", "reckonTurn", "(ILOpenDeal$Secrets;[I)V"⟩, 11) := ⟨⟨by decide +kernel, by decide +kernel⟩, List.mem_of_getElem? (i := 15) (by decide +kernel), List.mem_of_getElem? (i := 255) (by decide +kernel), List.mem_of_getElem? (i := 256) (by decide +kernel)⟩
theorem lw_p8 : lw_okq (⟨"OpenDeal", "spoil", "([ILOpenDeal$Player;I)V"⟩, 11) := ⟨⟨by decide +kernel, by decide +kernel⟩, List.mem_of_getElem? (i := 15) (by decide +kernel), List.mem_of_getElem? (i := 267) (by decide +kernel), List.mem_of_getElem? (i := 268) (by decide +kernel)⟩
theorem lw_p9 : lw_okq (⟨"OpenDeal", "mayOpen", "(II)Z"⟩, 11) := ⟨⟨by decide +kernel, by decide +kernel⟩, List.mem_of_getElem? (i := 15) (by decide +kernel), List.mem_of_getElem? (i := 298) (by decide +kernel), List.mem_of_getElem? (i := 299) (by decide +kernel)⟩
theorem lw_p10 : lw_okq (⟨"OpenDeal", "cardOf", "(I)I"⟩, 11) := ⟨⟨by decide +kernel, by decide +kernel⟩, List.mem_of_getElem? (i := 15) (by decide +kernel), List.mem_of_getElem? (i := 302) (by decide +kernel), List.mem_of_getElem? (i := 303) (by decide +kernel)⟩
theorem lw_p11 : lw_okq (⟨"OpenDeal", "awaitAll", "()V"⟩, 11) := ⟨⟨by decide +kernel, by decide +kernel⟩, List.mem_of_getElem? (i := 15) (by decide +kernel), List.mem_of_getElem? (i := 310) (by decide +kernel), List.mem_of_getElem? (i := 311) (by decide +kernel)⟩
theorem lw_p12 : lw_okq (⟨"OpenDeal", "countAbleToAct", "()I"⟩, 11) := ⟨⟨by decide +kernel, by decide +kernel⟩, List.mem_of_getElem? (i := 15) (by decide +kernel), List.mem_of_getElem? (i := 314) (by decide +kernel), List.mem_of_getElem? (i := 315) (by decide +kernel)⟩
theorem lw_p13 : lw_okq (⟨"OpenDeal", "nextToAct", "(I)I"⟩, 11) := ⟨⟨by decide +kernel, by decide +kernel⟩, List.mem_of_getElem? (i := 15) (by decide +kernel), List.mem_of_getElem? (i := 322) (by decide +kernel), List.mem_of_getElem? (i := 323) (by decide +kernel)⟩
theorem lw_p14 : lw_okq (⟨"OpenDeal", "mostInRound", "()I"⟩, 11) := ⟨⟨by decide +kernel, by decide +kernel⟩, List.mem_of_getElem? (i := 15) (by decide +kernel), List.mem_of_getElem? (i := 330) (by decide +kernel), List.mem_of_getElem? (i := 331) (by decide +kernel)⟩
theorem lw_p15 : lw_okq (⟨"OpenDeal", "goOnWithRound", "()V"⟩, 11) := ⟨⟨by decide +kernel, by decide +kernel⟩, List.mem_of_getElem? (i := 15) (by decide +kernel), List.mem_of_getElem? (i := 344) (by decide +kernel), List.mem_of_getElem? (i := 345) (by decide +kernel)⟩
def lw_privs_1 : List (MethodName × Nat) := [(⟨"OpenDeal", "countWithChips", "()I"⟩, 11), (⟨"OpenDeal", "isSeated", "(I)Z"⟩, 11), (⟨"OpenDeal$Draws", "nextExponent", "(I)I"⟩, 1), (⟨"OpenDeal$Draws", "next", "()I"⟩, 1), (⟨"OpenDeal", "allSealed", "()Z"⟩, 11), (⟨"OpenDeal", "nextToTurn", "()I"⟩, 11), (⟨"OpenDeal", "playerOfTurn", "(I)I"⟩, 11), (⟨"OpenDeal", "reckonTurn", "(ILOpenDeal$Secrets;[I)V"⟩, 11), (⟨"OpenDeal", "spoil", "([ILOpenDeal$Player;I)V"⟩, 11), (⟨"OpenDeal", "mayOpen", "(II)Z"⟩, 11), (⟨"OpenDeal", "cardOf", "(I)I"⟩, 11), (⟨"OpenDeal", "awaitAll", "()V"⟩, 11), (⟨"OpenDeal", "countAbleToAct", "()I"⟩, 11), (⟨"OpenDeal", "nextToAct", "(I)I"⟩, 11), (⟨"OpenDeal", "mostInRound", "()I"⟩, 11), (⟨"OpenDeal", "goOnWithRound", "()V"⟩, 11)]
theorem lw_r1 : ∀ q ∈ lw_privs_1, lw_okq q := List.forall_mem_cons.mpr ⟨lw_p0, List.forall_mem_cons.mpr ⟨lw_p1, List.forall_mem_cons.mpr ⟨lw_p2, List.forall_mem_cons.mpr ⟨lw_p3, List.forall_mem_cons.mpr ⟨lw_p4, List.forall_mem_cons.mpr ⟨lw_p5, List.forall_mem_cons.mpr ⟨lw_p6, List.forall_mem_cons.mpr ⟨lw_p7, List.forall_mem_cons.mpr ⟨lw_p8, List.forall_mem_cons.mpr ⟨lw_p9, List.forall_mem_cons.mpr ⟨lw_p10, List.forall_mem_cons.mpr ⟨lw_p11, List.forall_mem_cons.mpr ⟨lw_p12, List.forall_mem_cons.mpr ⟨lw_p13, List.forall_mem_cons.mpr ⟨lw_p14, List.forall_mem_cons.mpr ⟨lw_p15, fun _ h => absurd h List.not_mem_nil⟩⟩⟩⟩⟩⟩⟩⟩⟩⟩⟩⟩⟩⟩⟩⟩
theorem lw_p16 : lw_okq (⟨"OpenDeal", "countIn", "()I"⟩, 11) := ⟨⟨by decide +kernel, by decide +kernel⟩, List.mem_of_getElem? (i := 15) (by decide +kernel), List.mem_of_getElem? (i := 348) (by decide +kernel), List.mem_of_getElem? (i := 349) (by decide +kernel)⟩
theorem lw_p17 : lw_okq (⟨"OpenDeal", "leastInHand", "()I"⟩, 11) := ⟨⟨by decide +kernel, by decide +kernel⟩, List.mem_of_getElem? (i := 15) (by decide +kernel), List.mem_of_getElem? (i := 356) (by decide +kernel), List.mem_of_getElem? (i := 357) (by decide +kernel)⟩
theorem lw_p18 : lw_okq (⟨"OpenDeal", "payLayer", "(II)V"⟩, 11) := ⟨⟨by decide +kernel, by decide +kernel⟩, List.mem_of_getElem? (i := 15) (by decide +kernel), List.mem_of_getElem? (i := 360) (by decide +kernel), List.mem_of_getElem? (i := 361) (by decide +kernel)⟩
theorem lw_p19 : lw_okq (⟨"OpenDeal", "bestRank", "(I)I"⟩, 11) := ⟨⟨by decide +kernel, by decide +kernel⟩, List.mem_of_getElem? (i := 15) (by decide +kernel), List.mem_of_getElem? (i := 364) (by decide +kernel), List.mem_of_getElem? (i := 365) (by decide +kernel)⟩
theorem lw_p20 : lw_okq (⟨"OpenDeal", "winsLayer", "(III)Z"⟩, 11) := ⟨⟨by decide +kernel, by decide +kernel⟩, List.mem_of_getElem? (i := 15) (by decide +kernel), List.mem_of_getElem? (i := 375) (by decide +kernel), List.mem_of_getElem? (i := 376) (by decide +kernel)⟩
theorem lw_p21 : lw_okq (⟨"OpenDeal", "allShown", "()Z"⟩, 11) := ⟨⟨by decide +kernel, by decide +kernel⟩, List.mem_of_getElem? (i := 15) (by decide +kernel), List.mem_of_getElem? (i := 389) (by decide +kernel), List.mem_of_getElem? (i := 390) (by decide +kernel)⟩
theorem lw_p22 : lw_okq (⟨"OpenDeal", "reckonAudit", "()I"⟩, 11) := ⟨⟨by decide +kernel, by decide +kernel⟩, List.mem_of_getElem? (i := 15) (by decide +kernel), List.mem_of_getElem? (i := 393) (by decide +kernel), List.mem_of_getElem? (i := 394) (by decide +kernel)⟩
theorem lw_p23 : lw_okq (⟨"OpenDeal", "sumInHand", "()I"⟩, 11) := ⟨⟨by decide +kernel, by decide +kernel⟩, List.mem_of_getElem? (i := 15) (by decide +kernel), List.mem_of_getElem? (i := 413) (by decide +kernel), List.mem_of_getElem? (i := 414) (by decide +kernel)⟩
theorem lw_p24 : lw_okq (⟨"java/lang/Throwable", "fillInStackTrace", "(I)Ljava/lang/Throwable;"⟩, 6) := ⟨⟨by decide +kernel, by decide +kernel⟩, List.mem_of_getElem? (i := 470) (by decide +kernel), List.mem_of_getElem? (i := 468) (by decide +kernel), List.mem_of_getElem? (i := 469) (by decide +kernel)⟩
theorem lw_p25 : lw_okq (⟨"OpenDealModel", "beginDeck", "()V"⟩, 32) := ⟨⟨by decide +kernel, by decide +kernel⟩, List.mem_of_getElem? (i := 532) (by decide +kernel), List.mem_of_getElem? (i := 648) (by decide +kernel), List.mem_of_getElem? (i := 649) (by decide +kernel)⟩
theorem lw_p26 : lw_okq (⟨"OpenDealModel", "isPlayer", "(I)Z"⟩, 32) := ⟨⟨by decide +kernel, by decide +kernel⟩, List.mem_of_getElem? (i := 532) (by decide +kernel), List.mem_of_getElem? (i := 669) (by decide +kernel), List.mem_of_getElem? (i := 670) (by decide +kernel)⟩
theorem lw_p27 : lw_okq (⟨"OpenDealModel", "isExponent", "(I)Z"⟩, 32) := ⟨⟨by decide +kernel, by decide +kernel⟩, List.mem_of_getElem? (i := 532) (by decide +kernel), List.mem_of_getElem? (i := 673) (by decide +kernel), List.mem_of_getElem? (i := 674) (by decide +kernel)⟩
theorem lw_p28 : lw_okq (⟨"OpenDealModel", "raise", "(I)I"⟩, 32) := ⟨⟨by decide +kernel, by decide +kernel⟩, List.mem_of_getElem? (i := 532) (by decide +kernel), List.mem_of_getElem? (i := 686) (by decide +kernel), List.mem_of_getElem? (i := 687) (by decide +kernel)⟩
theorem lw_p29 : lw_okq (⟨"OpenDealModel", "makeOrder", "(J)V"⟩, 32) := ⟨⟨by decide +kernel, by decide +kernel⟩, List.mem_of_getElem? (i := 532) (by decide +kernel), List.mem_of_getElem? (i := 694) (by decide +kernel), List.mem_of_getElem? (i := 695) (by decide +kernel)⟩
theorem lw_p30 : lw_okq (⟨"OpenDealModel", "nextDraw", "()I"⟩, 32) := ⟨⟨by decide +kernel, by decide +kernel⟩, List.mem_of_getElem? (i := 532) (by decide +kernel), List.mem_of_getElem? (i := 698) (by decide +kernel), List.mem_of_getElem? (i := 699) (by decide +kernel)⟩
theorem lw_p31 : lw_okq (⟨"OpenDealModel", "makeLocks", "(J)V"⟩, 32) := ⟨⟨by decide +kernel, by decide +kernel⟩, List.mem_of_getElem? (i := 532) (by decide +kernel), List.mem_of_getElem? (i := 704) (by decide +kernel), List.mem_of_getElem? (i := 705) (by decide +kernel)⟩
def lw_privs_2 : List (MethodName × Nat) := [(⟨"OpenDeal", "countIn", "()I"⟩, 11), (⟨"OpenDeal", "leastInHand", "()I"⟩, 11), (⟨"OpenDeal", "payLayer", "(II)V"⟩, 11), (⟨"OpenDeal", "bestRank", "(I)I"⟩, 11), (⟨"OpenDeal", "winsLayer", "(III)Z"⟩, 11), (⟨"OpenDeal", "allShown", "()Z"⟩, 11), (⟨"OpenDeal", "reckonAudit", "()I"⟩, 11), (⟨"OpenDeal", "sumInHand", "()I"⟩, 11), (⟨"java/lang/Throwable", "fillInStackTrace", "(I)Ljava/lang/Throwable;"⟩, 6), (⟨"OpenDealModel", "beginDeck", "()V"⟩, 32), (⟨"OpenDealModel", "isPlayer", "(I)Z"⟩, 32), (⟨"OpenDealModel", "isExponent", "(I)Z"⟩, 32), (⟨"OpenDealModel", "raise", "(I)I"⟩, 32), (⟨"OpenDealModel", "makeOrder", "(J)V"⟩, 32), (⟨"OpenDealModel", "nextDraw", "()I"⟩, 32), (⟨"OpenDealModel", "makeLocks", "(J)V"⟩, 32)]
theorem lw_r2 : ∀ q ∈ lw_privs_2, lw_okq q := List.forall_mem_cons.mpr ⟨lw_p16, List.forall_mem_cons.mpr ⟨lw_p17, List.forall_mem_cons.mpr ⟨lw_p18, List.forall_mem_cons.mpr ⟨lw_p19, List.forall_mem_cons.mpr ⟨lw_p20, List.forall_mem_cons.mpr ⟨lw_p21, List.forall_mem_cons.mpr ⟨lw_p22, List.forall_mem_cons.mpr ⟨lw_p23, List.forall_mem_cons.mpr ⟨lw_p24, List.forall_mem_cons.mpr ⟨lw_p25, List.forall_mem_cons.mpr ⟨lw_p26, List.forall_mem_cons.mpr ⟨lw_p27, List.forall_mem_cons.mpr ⟨lw_p28, List.forall_mem_cons.mpr ⟨lw_p29, List.forall_mem_cons.mpr ⟨lw_p30, List.forall_mem_cons.mpr ⟨lw_p31, fun _ h => absurd h List.not_mem_nil⟩⟩⟩⟩⟩⟩⟩⟩⟩⟩⟩⟩⟩⟩⟩⟩
theorem lw_p32 : lw_okq (⟨"OpenDealModel", "lockedAt", "(III)I"⟩, 32) := ⟨⟨by decide +kernel, by decide +kernel⟩, List.mem_of_getElem? (i := 532) (by decide +kernel), List.mem_of_getElem? (i := 708) (by decide +kernel), List.mem_of_getElem? (i := 709) (by decide +kernel)⟩
theorem lw_p33 : lw_okq (⟨"OpenDealModel", "relockedAt", "(III)I"⟩, 32) := ⟨⟨by decide +kernel, by decide +kernel⟩, List.mem_of_getElem? (i := 532) (by decide +kernel), List.mem_of_getElem? (i := 715) (by decide +kernel), List.mem_of_getElem? (i := 716) (by decide +kernel)⟩
theorem lw_p34 : lw_okq (⟨"OpenDealModel", "inverse", "(I)I"⟩, 32) := ⟨⟨by decide +kernel, by decide +kernel⟩, List.mem_of_getElem? (i := 532) (by decide +kernel), List.mem_of_getElem? (i := 719) (by decide +kernel), List.mem_of_getElem? (i := 720) (by decide +kernel)⟩
theorem lw_p35 : lw_okq (⟨"OpenDealModel", "cheated", "(JII)I"⟩, 32) := ⟨⟨by decide +kernel, by decide +kernel⟩, List.mem_of_getElem? (i := 532) (by decide +kernel), List.mem_of_getElem? (i := 723) (by decide +kernel), List.mem_of_getElem? (i := 724) (by decide +kernel)⟩
theorem lw_p36 : lw_okq (⟨"OpenDealModel", "lockOf", "(II)I"⟩, 32) := ⟨⟨by decide +kernel, by decide +kernel⟩, List.mem_of_getElem? (i := 532) (by decide +kernel), List.mem_of_getElem? (i := 742) (by decide +kernel), List.mem_of_getElem? (i := 743) (by decide +kernel)⟩
theorem lw_p37 : lw_okq (⟨"OpenDealModel", "leastAbove", "(I)I"⟩, 32) := ⟨⟨by decide +kernel, by decide +kernel⟩, List.mem_of_getElem? (i := 532) (by decide +kernel), List.mem_of_getElem? (i := 746) (by decide +kernel), List.mem_of_getElem? (i := 747) (by decide +kernel)⟩
theorem lw_p38 : lw_okq (⟨"OpenDealModel", "canAct", "(I)Z"⟩, 32) := ⟨⟨by decide +kernel, by decide +kernel⟩, List.mem_of_getElem? (i := 532) (by decide +kernel), List.mem_of_getElem? (i := 758) (by decide +kernel), List.mem_of_getElem? (i := 759) (by decide +kernel)⟩
theorem lw_p39 : lw_okq (⟨"OpenDealModel", "findNext", "(I)V"⟩, 32) := ⟨⟨by decide +kernel, by decide +kernel⟩, List.mem_of_getElem? (i := 532) (by decide +kernel), List.mem_of_getElem? (i := 762) (by decide +kernel), List.mem_of_getElem? (i := 763) (by decide +kernel)⟩
theorem lw_p40 : lw_okq (⟨"OpenDealModel", "many", "()I"⟩, 32) := ⟨⟨by decide +kernel, by decide +kernel⟩, List.mem_of_getElem? (i := 532) (by decide +kernel), List.mem_of_getElem? (i := 766) (by decide +kernel), List.mem_of_getElem? (i := 767) (by decide +kernel)⟩
theorem lw_p41 : lw_okq (⟨"OpenDealModel", "endRound", "()V"⟩, 32) := ⟨⟨by decide +kernel, by decide +kernel⟩, List.mem_of_getElem? (i := 532) (by decide +kernel), List.mem_of_getElem? (i := 770) (by decide +kernel), List.mem_of_getElem? (i := 771) (by decide +kernel)⟩
theorem lw_p42 : lw_okq (⟨"OpenDealModel", "most", "()I"⟩, 32) := ⟨⟨by decide +kernel, by decide +kernel⟩, List.mem_of_getElem? (i := 532) (by decide +kernel), List.mem_of_getElem? (i := 778) (by decide +kernel), List.mem_of_getElem? (i := 779) (by decide +kernel)⟩
theorem lw_p43 : lw_okq (⟨"OpenDealModel", "pay", "(II)V"⟩, 32) := ⟨⟨by decide +kernel, by decide +kernel⟩, List.mem_of_getElem? (i := 532) (by decide +kernel), List.mem_of_getElem? (i := 782) (by decide +kernel), List.mem_of_getElem? (i := 783) (by decide +kernel)⟩
theorem lw_p44 : lw_okq (⟨"OpenDealModel", "payLayer", "(I)Z"⟩, 32) := ⟨⟨by decide +kernel, by decide +kernel⟩, List.mem_of_getElem? (i := 532) (by decide +kernel), List.mem_of_getElem? (i := 790) (by decide +kernel), List.mem_of_getElem? (i := 791) (by decide +kernel)⟩
theorem lw_p45 : lw_okq (⟨"OpenDealModel", "fitsLocked", "(I)Z"⟩, 32) := ⟨⟨by decide +kernel, by decide +kernel⟩, List.mem_of_getElem? (i := 532) (by decide +kernel), List.mem_of_getElem? (i := 802) (by decide +kernel), List.mem_of_getElem? (i := 803) (by decide +kernel)⟩
theorem lw_p46 : lw_okq (⟨"OpenDealModel", "fitsRelocked", "(I)Z"⟩, 32) := ⟨⟨by decide +kernel, by decide +kernel⟩, List.mem_of_getElem? (i := 532) (by decide +kernel), List.mem_of_getElem? (i := 806) (by decide +kernel), List.mem_of_getElem? (i := 807) (by decide +kernel)⟩
def lw_privs_3 : List (MethodName × Nat) := [(⟨"OpenDealModel", "lockedAt", "(III)I"⟩, 32), (⟨"OpenDealModel", "relockedAt", "(III)I"⟩, 32), (⟨"OpenDealModel", "inverse", "(I)I"⟩, 32), (⟨"OpenDealModel", "cheated", "(JII)I"⟩, 32), (⟨"OpenDealModel", "lockOf", "(II)I"⟩, 32), (⟨"OpenDealModel", "leastAbove", "(I)I"⟩, 32), (⟨"OpenDealModel", "canAct", "(I)Z"⟩, 32), (⟨"OpenDealModel", "findNext", "(I)V"⟩, 32), (⟨"OpenDealModel", "many", "()I"⟩, 32), (⟨"OpenDealModel", "endRound", "()V"⟩, 32), (⟨"OpenDealModel", "most", "()I"⟩, 32), (⟨"OpenDealModel", "pay", "(II)V"⟩, 32), (⟨"OpenDealModel", "payLayer", "(I)Z"⟩, 32), (⟨"OpenDealModel", "fitsLocked", "(I)Z"⟩, 32), (⟨"OpenDealModel", "fitsRelocked", "(I)Z"⟩, 32)]
theorem lw_r3 : ∀ q ∈ lw_privs_3, lw_okq q := List.forall_mem_cons.mpr ⟨lw_p32, List.forall_mem_cons.mpr ⟨lw_p33, List.forall_mem_cons.mpr ⟨lw_p34, List.forall_mem_cons.mpr ⟨lw_p35, List.forall_mem_cons.mpr ⟨lw_p36, List.forall_mem_cons.mpr ⟨lw_p37, List.forall_mem_cons.mpr ⟨lw_p38, List.forall_mem_cons.mpr ⟨lw_p39, List.forall_mem_cons.mpr ⟨lw_p40, List.forall_mem_cons.mpr ⟨lw_p41, List.forall_mem_cons.mpr ⟨lw_p42, List.forall_mem_cons.mpr ⟨lw_p43, List.forall_mem_cons.mpr ⟨lw_p44, List.forall_mem_cons.mpr ⟨lw_p45, List.forall_mem_cons.mpr ⟨lw_p46, fun _ h => absurd h List.not_mem_nil⟩⟩⟩⟩⟩⟩⟩⟩⟩⟩⟩⟩⟩⟩⟩
def lw_privs : List (MethodName × Nat) := lw_privs_1 ++ (lw_privs_2 ++ (lw_privs_3))
def lw_tbl : List Cond := k2_sels lw_privs ++ tables_1
theorem lw_privs_ok : ∀ q ∈ lw_privs, lw_okq q := by
  show ∀ q ∈ lw_privs_1 ++ (lw_privs_2 ++ (lw_privs_3)), lw_okq q
  exact List.forall_mem_append.mpr ⟨lw_r1, List.forall_mem_append.mpr ⟨lw_r2, lw_r3⟩⟩
end
section
/-! own rows: the words, the let, the branches, calls that only read -/
def kw : List Cond := lw_tbl.filter goodWord
theorem kw_of {w : Cond} (h : w ∈ lw_tbl) (g : goodWord w = true) : w ∈ kw := List.mem_filter.mpr ⟨h, g⟩
theorem kw_good {ws : List Cond} (h : ∀ w ∈ ws, w ∈ kw) : GoodIn kw ws := fun w hw => ⟨h w hw, good_of_word (List.mem_filter.mp (h w hw)).2⟩
theorem kw_cons {c w : Cond} (h : c ∈ kw) (hw : w ∈ c :: kw) : w ∈ kw := by
  rcases List.mem_cons.mp hw with rfl | hw
  · exact h
  · exact hw
def tl {α β : Type} (e : α) (f : α → Option β) : Option β := f e
theorem tl_at {α β : Type} {e x : α} {f : α → Option β} {r : β} (hx : x = e) (h : tl e f = some r) : f x = some r := by subst hx; exact h
theorem tl_eq {α β : Type} (e : α) (f : α → Option β) : tl e f = f e := rfl
theorem ob_out {α β : Type} {x : Option α} {f : α → Option β} {r : β} (h : x.bind f = some r) : ∃ v, x = some v ∧ f v = some r := by
  cases x with
  | none => cases h
  | some v => exact ⟨v, rfl, h⟩
theorem oi_out {β : Type} {c : Prop} {d : Decidable c} {a : Option β} {r : β} (h : (if c then a else none) = some r) : c ∧ a = some r := by
  by_cases hc : c
  · rw [if_pos hc] at h
    exact ⟨hc, h⟩
  · rw [if_neg hc] at h
    cases h
theorem ip_out {β : Type} {c : Prop} {d : Decidable c} {a b : Option β} {r : β} (hc : c) (h : (if c then a else b) = some r) : a = some r := by rw [if_pos hc] at h; exact h
theorem in_out {β : Type} {c : Prop} {d : Decidable c} {a b : Option β} {r : β} (hc : ¬ c) (h : (if c then a else b) = some r) : b = some r := by rw [if_neg hc] at h; exact h
section ROC
variable {p : Program} {l : Launch} {e : Env} {R : Room} {s : State} {m : MethodId} {args : Array Value} {below : List Frame} {meth : Method} {c : Code} {H : Heap} {locs : List Loc} {cells slots : Nat} {Q : State → Prop}
variable {cc bytes : ByteArray} {pc nL maxL index n : Nat} {ls : Array Slot} {As rest st0 : List Value} {own : String} {y : MethodName} {ret : Option FieldType} {rm : Room} {B : State → Prop}
theorem ro_Si {v : Int32} (hx : p.tables.exec = Jvm.exec) (hb : c.code = cc) (hml : c.maxLocals = nL) (hown : s.vm.findClass own = some m.cls) (hk : ∀ w ∈ kw, w.before args s = true)
    (hM : Met l y (Cond.code y bytes maxL ret :: kw) rm (va_Pc As B) (vp_Si (fun z => z = v)) 0 0 (fun _ => False)) (hB : ∀ U : State, U.heap = H → s.WarmedH U.vm → B U) (hbl : ∀ (U : State) (g : JFrame) (mk : MethodId) (a : Array Value), B U → B (U.calling g mk a))
    (w1 : Cond.methodLink own index y ∈ kw) (w2 : Cond.static y ∈ kw) (w3 : Cond.initialized y.cls ∈ kw) (w4 : Cond.code y bytes maxL ret ∈ kw) (hrm : rm.cells = 0 ∧ rm.slots = 0)
    (hd : y.cls ≠ "java/lang/invoke/MethodHandle" ∧ y.cls ≠ "java/lang/invoke/VarHandle" ∧ (parseMethodDescriptor y.desc).map (fun d => d.parameters.length) = some n) (hR : rm.frames + 1 ≤ R.frames ∧ 8 + (maxL + 11) + rm.locals ≤ R.locals)
    (hn : As.length = n) (hsize : ls.size = nL) (hst : st0 = As.reverse ++ rest) (hW : (rest.map fun v => v.category).sum ≤ 8) (hdg : decode cc pc = .ok (.invokestatic index, 3)) (hcs : cells ≤ R.cells ∧ slots ≤ R.slots)
    (kk : W p l e R s m args below meth c H locs cells slots Q (F0 m (pc + 3) ls (.int v :: rest))) : W p l e R s m args below meth c H locs cells slots Q (F0 m pc ls st0) := by
  refine vp_callSi (W.runS (Ts := kw) (As := As) ⟨hx, hb, hml, hown, hk⟩ hM (va_cwS n hk (kw_good (fun w hw => ?_)) rfl hrm.1 hrm.2 hd hR) ⟨fun a U g mk q => ⟨q.1, hbl U g mk a q.2⟩, fun U hU hW => ⟨rfl, hB U hU hW⟩⟩ rfl hn hsize hst (lv_room hW) hdg hcs) (fun r hr => ?_)
  · unfold va_wsS at hw
    rcases List.mem_append.mp hw with h | h
    · simp only [List.mem_cons, List.not_mem_nil, or_false] at h
      rcases h with rfl | rfl | rfl
      · exact w1
      · exact w2
      · exact w3
    · exact kw_cons w4 h
  · subst hr
    exact kk
theorem ro_Sl {v : Int64} (hx : p.tables.exec = Jvm.exec) (hb : c.code = cc) (hml : c.maxLocals = nL) (hown : s.vm.findClass own = some m.cls) (hk : ∀ w ∈ kw, w.before args s = true)
    (hM : Met l y (Cond.code y bytes maxL ret :: kw) rm (va_Pc As B) (vp_Sl (fun z => z = v)) 0 0 (fun _ => False)) (hB : ∀ U : State, U.heap = H → s.WarmedH U.vm → B U) (hbl : ∀ (U : State) (g : JFrame) (mk : MethodId) (a : Array Value), B U → B (U.calling g mk a))
    (w1 : Cond.methodLink own index y ∈ kw) (w2 : Cond.static y ∈ kw) (w3 : Cond.initialized y.cls ∈ kw) (w4 : Cond.code y bytes maxL ret ∈ kw) (hrm : rm.cells = 0 ∧ rm.slots = 0)
    (hd : y.cls ≠ "java/lang/invoke/MethodHandle" ∧ y.cls ≠ "java/lang/invoke/VarHandle" ∧ (parseMethodDescriptor y.desc).map (fun d => d.parameters.length) = some n) (hR : rm.frames + 1 ≤ R.frames ∧ 8 + (maxL + 11) + rm.locals ≤ R.locals)
    (hn : As.length = n) (hsize : ls.size = nL) (hst : st0 = As.reverse ++ rest) (hW : (rest.map fun v => v.category).sum ≤ 8) (hdg : decode cc pc = .ok (.invokestatic index, 3)) (hcs : cells ≤ R.cells ∧ slots ≤ R.slots)
    (kk : W p l e R s m args below meth c H locs cells slots Q (F0 m (pc + 3) ls (.long v :: rest))) : W p l e R s m args below meth c H locs cells slots Q (F0 m pc ls st0) := by
  refine vp_callSl (W.runS (Ts := kw) (As := As) ⟨hx, hb, hml, hown, hk⟩ hM (va_cwS n hk (kw_good (fun w hw => ?_)) rfl hrm.1 hrm.2 hd hR) ⟨fun a U g mk q => ⟨q.1, hbl U g mk a q.2⟩, fun U hU hW => ⟨rfl, hB U hU hW⟩⟩ rfl hn hsize hst (lv_room hW) hdg hcs) (fun r hr => ?_)
  · unfold va_wsS at hw
    rcases List.mem_append.mp hw with h | h
    · simp only [List.mem_cons, List.not_mem_nil, or_false] at h
      rcases h with rfl | rfl | rfl
      · exact w1
      · exact w2
      · exact w3
    · exact kw_cons w4 h
  · subst hr
    exact kk
end ROC
end
section
/-! the words by their numbers, laid by program -/
theorem kw_0 : (Jvm.Cond.initialized "OpenDealLaw") ∈ kw := kw_of (List.mem_append_right _ (List.mem_of_getElem? (i := 0) (by decide +kernel))) (by decide +kernel)
theorem kw_1 : (Jvm.Cond.initialized "OpenDeal") ∈ kw := kw_of (List.mem_append_right _ (List.mem_of_getElem? (i := 1) (by decide +kernel))) (by decide +kernel)
theorem kw_2 : (Jvm.Cond.initialized "OpenDeal$Player") ∈ kw := kw_of (List.mem_append_right _ (List.mem_of_getElem? (i := 2) (by decide +kernel))) (by decide +kernel)
theorem kw_3 : (Jvm.Cond.initialized "OpenDeal$Secrets") ∈ kw := kw_of (List.mem_append_right _ (List.mem_of_getElem? (i := 3) (by decide +kernel))) (by decide +kernel)
theorem kw_4 : (Jvm.Cond.initialized "OpenDealModel") ∈ kw := kw_of (List.mem_append_right _ (List.mem_of_getElem? (i := 4) (by decide +kernel))) (by decide +kernel)
theorem kw_5 : (Jvm.Cond.initialized "OpenDeal$Numbers") ∈ kw := kw_of (List.mem_append_right _ (List.mem_of_getElem? (i := 5) (by decide +kernel))) (by decide +kernel)
theorem kw_6 : (Jvm.Cond.initialized "java/util/Arrays") ∈ kw := kw_of (List.mem_append_right _ (List.mem_of_getElem? (i := 6) (by decide +kernel))) (by decide +kernel)
theorem kw_7 : (Jvm.Cond.initialized "OpenDeal$Draws") ∈ kw := kw_of (List.mem_append_right _ (List.mem_of_getElem? (i := 7) (by decide +kernel))) (by decide +kernel)
theorem kw_8 : (Jvm.Cond.initialized "java/lang/Throwable") ∈ kw := kw_of (List.mem_append_right _ (List.mem_of_getElem? (i := 8) (by decide +kernel))) (by decide +kernel)
theorem kw_9 : (Jvm.Cond.initialized "java/lang/Exception") ∈ kw := kw_of (List.mem_append_right _ (List.mem_of_getElem? (i := 9) (by decide +kernel))) (by decide +kernel)
theorem kw_10 : (Jvm.Cond.initialized "java/lang/RuntimeException") ∈ kw := kw_of (List.mem_append_right _ (List.mem_of_getElem? (i := 10) (by decide +kernel))) (by decide +kernel)
theorem kw_11 : (Jvm.Cond.initialized "java/lang/IndexOutOfBoundsException") ∈ kw := kw_of (List.mem_append_right _ (List.mem_of_getElem? (i := 11) (by decide +kernel))) (by decide +kernel)
theorem kw_12 : (Jvm.Cond.initialized "java/lang/Math") ∈ kw := kw_of (List.mem_append_right _ (List.mem_of_getElem? (i := 12) (by decide +kernel))) (by decide +kernel)
theorem kw_13 : (Jvm.Cond.initialized "java/lang/IllegalStateException") ∈ kw := kw_of (List.mem_append_right _ (List.mem_of_getElem? (i := 13) (by decide +kernel))) (by decide +kernel)
theorem kw_14 : (Jvm.Cond.classLink "OpenDealLaw" (8 : Nat) "OpenDeal") ∈ kw := kw_of (List.mem_append_right _ (List.mem_of_getElem? (i := 14) (by decide +kernel))) (by decide +kernel)
theorem kw_15 : (Jvm.Cond.instantiable "OpenDeal" (11 : Nat)) ∈ kw := kw_of (List.mem_append_right _ (List.mem_of_getElem? (i := 15) (by decide +kernel))) (by decide +kernel)
theorem kw_16 : (Jvm.Cond.methodLink "OpenDealLaw" (25 : Nat) ({ cls := "OpenDeal", name := "<init>", desc := "()V" } : Jvm.MethodName)) ∈ kw := kw_of (List.mem_append_right _ (List.mem_of_getElem? (i := 16) (by decide +kernel))) (by decide +kernel)
theorem kw_17 : (Jvm.Cond.instanceMethod ({ cls := "OpenDeal", name := "<init>", desc := "()V" } : Jvm.MethodName)) ∈ kw := kw_of (List.mem_append_right _ (List.mem_of_getElem? (i := 17) (by decide +kernel))) (by decide +kernel)
set_option maxRecDepth 100000 in
theorem kw_18 : (Jvm.Cond.code ({ cls := "OpenDeal", name := "<init>", desc := "()V" } : Jvm.MethodName) prog_1_method_1_code (2 : Nat) (Option.none : Option Jvm.ClassFile.FieldType)) ∈ kw := kw_of (List.mem_append_right _ (List.mem_of_getElem? (i := 18) rfl)) (by decide +kernel)
theorem kw_19 : (Jvm.Cond.methodLink "OpenDeal" (1 : Nat) ({ cls := "java/lang/Object", name := "<init>", desc := "()V" } : Jvm.MethodName)) ∈ kw := kw_of (List.mem_append_right _ (List.mem_of_getElem? (i := 19) (by decide +kernel))) (by decide +kernel)
theorem kw_20 : (Jvm.Cond.instanceMethod ({ cls := "java/lang/Object", name := "<init>", desc := "()V" } : Jvm.MethodName)) ∈ kw := kw_of (List.mem_append_right _ (List.mem_of_getElem? (i := 20) (by decide +kernel))) (by decide +kernel)
set_option maxRecDepth 100000 in
theorem kw_21 : (Jvm.Cond.code ({ cls := "java/lang/Object", name := "<init>", desc := "()V" } : Jvm.MethodName) object_method_1_code (1 : Nat) (Option.none : Option Jvm.ClassFile.FieldType)) ∈ kw := kw_of (List.mem_append_right _ (List.mem_of_getElem? (i := 21) rfl)) (by decide +kernel)
theorem kw_22 : (Jvm.Cond.classLink "OpenDeal" (9 : Nat) "OpenDeal$Player") ∈ kw := kw_of (List.mem_append_right _ (List.mem_of_getElem? (i := 22) (by decide +kernel))) (by decide +kernel)
theorem kw_24 : (Jvm.Cond.instantiable "OpenDeal$Player" (13 : Nat)) ∈ kw := kw_of (List.mem_append_right _ (List.mem_of_getElem? (i := 24) (by decide +kernel))) (by decide +kernel)
theorem kw_25 : (Jvm.Cond.methodLink "OpenDeal" (15 : Nat) ({ cls := "OpenDeal$Player", name := "<init>", desc := "()V" } : Jvm.MethodName)) ∈ kw := kw_of (List.mem_append_right _ (List.mem_of_getElem? (i := 25) (by decide +kernel))) (by decide +kernel)
theorem kw_26 : (Jvm.Cond.instanceMethod ({ cls := "OpenDeal$Player", name := "<init>", desc := "()V" } : Jvm.MethodName)) ∈ kw := kw_of (List.mem_append_right _ (List.mem_of_getElem? (i := 26) (by decide +kernel))) (by decide +kernel)
set_option maxRecDepth 100000 in
theorem kw_27 : (Jvm.Cond.code ({ cls := "OpenDeal$Player", name := "<init>", desc := "()V" } : Jvm.MethodName) prog_4_method_1_code (1 : Nat) (Option.none : Option Jvm.ClassFile.FieldType)) ∈ kw := kw_of (List.mem_append_right _ (List.mem_of_getElem? (i := 27) rfl)) (by decide +kernel)
theorem kw_28 : (Jvm.Cond.methodLink "OpenDeal$Player" (3 : Nat) ({ cls := "java/lang/Object", name := "<init>", desc := "()V" } : Jvm.MethodName)) ∈ kw := kw_of (List.mem_append_right _ (List.mem_of_getElem? (i := 28) (by decide +kernel))) (by decide +kernel)
theorem kw_29 : (Jvm.Cond.classLink "OpenDeal$Player" (9 : Nat) "OpenDeal$Secrets") ∈ kw := kw_of (List.mem_append_right _ (List.mem_of_getElem? (i := 29) (by decide +kernel))) (by decide +kernel)
theorem kw_30 : (Jvm.Cond.instantiable "OpenDeal$Secrets" (3 : Nat)) ∈ kw := kw_of (List.mem_append_right _ (List.mem_of_getElem? (i := 30) (by decide +kernel))) (by decide +kernel)
theorem kw_32 : (Jvm.Cond.instanceMethod ({ cls := "OpenDeal$Secrets", name := "<init>", desc := "()V" } : Jvm.MethodName)) ∈ kw := kw_of (List.mem_append_right _ (List.mem_of_getElem? (i := 32) (by decide +kernel))) (by decide +kernel)
set_option maxRecDepth 100000 in
theorem kw_33 : (Jvm.Cond.code ({ cls := "OpenDeal$Secrets", name := "<init>", desc := "()V" } : Jvm.MethodName) prog_5_method_1_code (1 : Nat) (Option.none : Option Jvm.ClassFile.FieldType)) ∈ kw := kw_of (List.mem_append_right _ (List.mem_of_getElem? (i := 33) rfl)) (by decide +kernel)
theorem kw_34 : (Jvm.Cond.methodLink "OpenDeal$Secrets" (1 : Nat) ({ cls := "java/lang/Object", name := "<init>", desc := "()V" } : Jvm.MethodName)) ∈ kw := kw_of (List.mem_append_right _ (List.mem_of_getElem? (i := 34) (by decide +kernel))) (by decide +kernel)
theorem kw_35 : (Jvm.Cond.fieldLink "OpenDeal$Secrets" (7 : Nat) "OpenDeal$Secrets" "exponent" "I") ∈ kw := kw_of (List.mem_append_right _ (List.mem_of_getElem? (i := 35) (by decide +kernel))) (by decide +kernel)
theorem kw_36 : (Jvm.Cond.fieldLink "OpenDeal$Player" (65 : Nat) "OpenDeal$Secrets" "exponent" "I") ∈ kw := kw_of (List.mem_append_right _ (List.mem_of_getElem? (i := 36) (by decide +kernel))) (by decide +kernel)
theorem kw_37 : (Jvm.Cond.fieldLink "OpenDeal" (247 : Nat) "OpenDeal$Secrets" "exponent" "I") ∈ kw := kw_of (List.mem_append_right _ (List.mem_of_getElem? (i := 37) (by decide +kernel))) (by decide +kernel)
theorem kw_38 : (Jvm.Cond.fieldLink "OpenDeal$Secrets" (13 : Nat) "OpenDeal$Secrets" "orderKey" "J") ∈ kw := kw_of (List.mem_append_right _ (List.mem_of_getElem? (i := 38) (by decide +kernel))) (by decide +kernel)
theorem kw_39 : (Jvm.Cond.fieldLink "OpenDeal$Player" (68 : Nat) "OpenDeal$Secrets" "orderKey" "J") ∈ kw := kw_of (List.mem_append_right _ (List.mem_of_getElem? (i := 39) (by decide +kernel))) (by decide +kernel)
theorem kw_40 : (Jvm.Cond.fieldLink "OpenDeal" (240 : Nat) "OpenDeal$Secrets" "orderKey" "J") ∈ kw := kw_of (List.mem_append_right _ (List.mem_of_getElem? (i := 40) (by decide +kernel))) (by decide +kernel)
theorem kw_41 : (Jvm.Cond.fieldLink "OpenDeal$Secrets" (17 : Nat) "OpenDeal$Secrets" "locksKey" "J") ∈ kw := kw_of (List.mem_append_right _ (List.mem_of_getElem? (i := 41) (by decide +kernel))) (by decide +kernel)
theorem kw_42 : (Jvm.Cond.fieldLink "OpenDeal$Player" (78 : Nat) "OpenDeal$Secrets" "locksKey" "J") ∈ kw := kw_of (List.mem_append_right _ (List.mem_of_getElem? (i := 42) (by decide +kernel))) (by decide +kernel)
theorem kw_43 : (Jvm.Cond.lays "OpenDeal$Secrets" "OpenDeal$Secrets" "exponent" "I") ∈ kw := kw_of (List.mem_append_right _ (List.mem_of_getElem? (i := 43) (by decide +kernel))) (by decide +kernel)
theorem kw_45 : (Jvm.Cond.lays "OpenDeal$Secrets" "OpenDeal$Secrets" "orderKey" "J") ∈ kw := kw_of (List.mem_append_right _ (List.mem_of_getElem? (i := 45) (by decide +kernel))) (by decide +kernel)
theorem kw_47 : (Jvm.Cond.lays "OpenDeal$Secrets" "OpenDeal$Secrets" "locksKey" "J") ∈ kw := kw_of (List.mem_append_right _ (List.mem_of_getElem? (i := 47) (by decide +kernel))) (by decide +kernel)
theorem kw_49 : (Jvm.Cond.superclass "OpenDeal$Secrets" "java/lang/Object") ∈ kw := kw_of (List.mem_append_right _ (List.mem_of_getElem? (i := 49) (by decide +kernel))) (by decide +kernel)
theorem kw_50 : (Jvm.Cond.fieldLink "OpenDeal$Player" (58 : Nat) "OpenDeal$Player" "chips" "I") ∈ kw := kw_of (List.mem_append_right _ (List.mem_of_getElem? (i := 50) (by decide +kernel))) (by decide +kernel)
theorem kw_51 : (Jvm.Cond.fieldLink "OpenDeal" (58 : Nat) "OpenDeal$Player" "chips" "I") ∈ kw := kw_of (List.mem_append_right _ (List.mem_of_getElem? (i := 51) (by decide +kernel))) (by decide +kernel)
theorem kw_52 : (Jvm.Cond.fieldLink "OpenDeal$Player" (32 : Nat) "OpenDeal$Player" "inHand" "I") ∈ kw := kw_of (List.mem_append_right _ (List.mem_of_getElem? (i := 52) (by decide +kernel))) (by decide +kernel)
theorem kw_53 : (Jvm.Cond.fieldLink "OpenDeal" (231 : Nat) "OpenDeal$Player" "inHand" "I") ∈ kw := kw_of (List.mem_append_right _ (List.mem_of_getElem? (i := 53) (by decide +kernel))) (by decide +kernel)
theorem kw_54 : (Jvm.Cond.fieldLink "OpenDeal$Player" (36 : Nat) "OpenDeal$Player" "inRound" "I") ∈ kw := kw_of (List.mem_append_right _ (List.mem_of_getElem? (i := 54) (by decide +kernel))) (by decide +kernel)
theorem kw_55 : (Jvm.Cond.fieldLink "OpenDeal" (176 : Nat) "OpenDeal$Player" "inRound" "I") ∈ kw := kw_of (List.mem_append_right _ (List.mem_of_getElem? (i := 55) (by decide +kernel))) (by decide +kernel)
theorem kw_56 : (Jvm.Cond.fieldLink "OpenDeal$Player" (39 : Nat) "OpenDeal$Player" "folded" "Z") ∈ kw := kw_of (List.mem_append_right _ (List.mem_of_getElem? (i := 56) (by decide +kernel))) (by decide +kernel)
theorem kw_57 : (Jvm.Cond.fieldLink "OpenDeal" (179 : Nat) "OpenDeal$Player" "folded" "Z") ∈ kw := kw_of (List.mem_append_right _ (List.mem_of_getElem? (i := 57) (by decide +kernel))) (by decide +kernel)
theorem kw_58 : (Jvm.Cond.fieldLink "OpenDeal" (191 : Nat) "OpenDeal$Player" "acted" "Z") ∈ kw := kw_of (List.mem_append_right _ (List.mem_of_getElem? (i := 58) (by decide +kernel))) (by decide +kernel)
theorem kw_59 : (Jvm.Cond.fieldLink "OpenDeal$Player" (43 : Nat) "OpenDeal$Player" "sealed" "Z") ∈ kw := kw_of (List.mem_append_right _ (List.mem_of_getElem? (i := 59) (by decide +kernel))) (by decide +kernel)
theorem kw_60 : (Jvm.Cond.fieldLink "OpenDeal" (81 : Nat) "OpenDeal$Player" "sealed" "Z") ∈ kw := kw_of (List.mem_append_right _ (List.mem_of_getElem? (i := 60) (by decide +kernel))) (by decide +kernel)
theorem kw_61 : (Jvm.Cond.fieldLink "OpenDeal" (99 : Nat) "OpenDeal$Player" "mark" "J") ∈ kw := kw_of (List.mem_append_right _ (List.mem_of_getElem? (i := 61) (by decide +kernel))) (by decide +kernel)
theorem kw_62 : (Jvm.Cond.fieldLink "OpenDeal$Player" (46 : Nat) "OpenDeal$Player" "hasShown" "Z") ∈ kw := kw_of (List.mem_append_right _ (List.mem_of_getElem? (i := 62) (by decide +kernel))) (by decide +kernel)
theorem kw_63 : (Jvm.Cond.fieldLink "OpenDeal" (204 : Nat) "OpenDeal$Player" "hasShown" "Z") ∈ kw := kw_of (List.mem_append_right _ (List.mem_of_getElem? (i := 63) (by decide +kernel))) (by decide +kernel)
theorem kw_64 : (Jvm.Cond.fieldLink "OpenDeal$Player" (12 : Nat) "OpenDeal$Player" "secrets" "LOpenDeal$Secrets;") ∈ kw := kw_of (List.mem_append_right _ (List.mem_of_getElem? (i := 64) (by decide +kernel))) (by decide +kernel)
theorem kw_65 : (Jvm.Cond.fieldLink "OpenDeal" (85 : Nat) "OpenDeal$Player" "secrets" "LOpenDeal$Secrets;") ∈ kw := kw_of (List.mem_append_right _ (List.mem_of_getElem? (i := 65) (by decide +kernel))) (by decide +kernel)
theorem kw_66 : (Jvm.Cond.fieldLink "OpenDeal$Player" (18 : Nat) "OpenDeal$Player" "shown" "LOpenDeal$Secrets;") ∈ kw := kw_of (List.mem_append_right _ (List.mem_of_getElem? (i := 66) (by decide +kernel))) (by decide +kernel)
theorem kw_67 : (Jvm.Cond.fieldLink "OpenDeal" (275 : Nat) "OpenDeal$Player" "shown" "LOpenDeal$Secrets;") ∈ kw := kw_of (List.mem_append_right _ (List.mem_of_getElem? (i := 67) (by decide +kernel))) (by decide +kernel)
theorem kw_68 : (Jvm.Cond.fieldLink "OpenDeal$Player" (21 : Nat) "OpenDeal$Player" "locks" "[I") ∈ kw := kw_of (List.mem_append_right _ (List.mem_of_getElem? (i := 68) (by decide +kernel))) (by decide +kernel)
theorem kw_69 : (Jvm.Cond.fieldLink "OpenDeal" (102 : Nat) "OpenDeal$Player" "locks" "[I") ∈ kw := kw_of (List.mem_append_right _ (List.mem_of_getElem? (i := 69) (by decide +kernel))) (by decide +kernel)
theorem kw_70 : (Jvm.Cond.fieldLink "OpenDeal$Player" (25 : Nat) "OpenDeal$Player" "given" "[I") ∈ kw := kw_of (List.mem_append_right _ (List.mem_of_getElem? (i := 70) (by decide +kernel))) (by decide +kernel)
theorem kw_71 : (Jvm.Cond.fieldLink "OpenDeal" (141 : Nat) "OpenDeal$Player" "given" "[I") ∈ kw := kw_of (List.mem_append_right _ (List.mem_of_getElem? (i := 71) (by decide +kernel))) (by decide +kernel)
theorem kw_72 : (Jvm.Cond.fieldLink "OpenDeal$Player" (28 : Nat) "OpenDeal$Player" "cheats" "[J") ∈ kw := kw_of (List.mem_append_right _ (List.mem_of_getElem? (i := 72) (by decide +kernel))) (by decide +kernel)
theorem kw_73 : (Jvm.Cond.fieldLink "OpenDeal" (224 : Nat) "OpenDeal$Player" "cheats" "[J") ∈ kw := kw_of (List.mem_append_right _ (List.mem_of_getElem? (i := 73) (by decide +kernel))) (by decide +kernel)
theorem kw_74 : (Jvm.Cond.lays "OpenDeal$Player" "OpenDeal$Player" "chips" "I") ∈ kw := kw_of (List.mem_append_right _ (List.mem_of_getElem? (i := 74) (by decide +kernel))) (by decide +kernel)
theorem kw_76 : (Jvm.Cond.lays "OpenDeal$Player" "OpenDeal$Player" "inHand" "I") ∈ kw := kw_of (List.mem_append_right _ (List.mem_of_getElem? (i := 76) (by decide +kernel))) (by decide +kernel)
theorem kw_78 : (Jvm.Cond.lays "OpenDeal$Player" "OpenDeal$Player" "inRound" "I") ∈ kw := kw_of (List.mem_append_right _ (List.mem_of_getElem? (i := 78) (by decide +kernel))) (by decide +kernel)
theorem kw_80 : (Jvm.Cond.lays "OpenDeal$Player" "OpenDeal$Player" "folded" "Z") ∈ kw := kw_of (List.mem_append_right _ (List.mem_of_getElem? (i := 80) (by decide +kernel))) (by decide +kernel)
theorem kw_82 : (Jvm.Cond.lays "OpenDeal$Player" "OpenDeal$Player" "acted" "Z") ∈ kw := kw_of (List.mem_append_right _ (List.mem_of_getElem? (i := 82) (by decide +kernel))) (by decide +kernel)
theorem kw_84 : (Jvm.Cond.lays "OpenDeal$Player" "OpenDeal$Player" "sealed" "Z") ∈ kw := kw_of (List.mem_append_right _ (List.mem_of_getElem? (i := 84) (by decide +kernel))) (by decide +kernel)
theorem kw_86 : (Jvm.Cond.lays "OpenDeal$Player" "OpenDeal$Player" "mark" "J") ∈ kw := kw_of (List.mem_append_right _ (List.mem_of_getElem? (i := 86) (by decide +kernel))) (by decide +kernel)
theorem kw_88 : (Jvm.Cond.lays "OpenDeal$Player" "OpenDeal$Player" "hasShown" "Z") ∈ kw := kw_of (List.mem_append_right _ (List.mem_of_getElem? (i := 88) (by decide +kernel))) (by decide +kernel)
theorem kw_90 : (Jvm.Cond.laysFinal "OpenDeal$Player" "OpenDeal$Player" "secrets" "LOpenDeal$Secrets;") ∈ kw := kw_of (List.mem_append_right _ (List.mem_of_getElem? (i := 90) (by decide +kernel))) (by decide +kernel)
theorem kw_92 : (Jvm.Cond.laysFinal "OpenDeal$Player" "OpenDeal$Player" "shown" "LOpenDeal$Secrets;") ∈ kw := kw_of (List.mem_append_right _ (List.mem_of_getElem? (i := 92) (by decide +kernel))) (by decide +kernel)
theorem kw_94 : (Jvm.Cond.laysFinal "OpenDeal$Player" "OpenDeal$Player" "locks" "[I") ∈ kw := kw_of (List.mem_append_right _ (List.mem_of_getElem? (i := 94) (by decide +kernel))) (by decide +kernel)
theorem kw_96 : (Jvm.Cond.laysFinal "OpenDeal$Player" "OpenDeal$Player" "given" "[I") ∈ kw := kw_of (List.mem_append_right _ (List.mem_of_getElem? (i := 96) (by decide +kernel))) (by decide +kernel)
theorem kw_98 : (Jvm.Cond.laysFinal "OpenDeal$Player" "OpenDeal$Player" "cheats" "[J") ∈ kw := kw_of (List.mem_append_right _ (List.mem_of_getElem? (i := 98) (by decide +kernel))) (by decide +kernel)
theorem kw_100 : (Jvm.Cond.superclass "OpenDeal$Player" "java/lang/Object") ∈ kw := kw_of (List.mem_append_right _ (List.mem_of_getElem? (i := 100) (by decide +kernel))) (by decide +kernel)
theorem kw_101 : (Jvm.Cond.arrayClass Jvm.ClassFile.FieldType.int) ∈ kw := kw_of (List.mem_append_right _ (List.mem_of_getElem? (i := 101) (by decide +kernel))) (by decide +kernel)
theorem kw_102 : (Jvm.Cond.arrayClass Jvm.ClassFile.FieldType.long) ∈ kw := kw_of (List.mem_append_right _ (List.mem_of_getElem? (i := 102) (by decide +kernel))) (by decide +kernel)
theorem kw_103 : (Jvm.Cond.classLink "OpenDeal" (16 : Nat) "[[I") ∈ kw := kw_of (List.mem_append_right _ (List.mem_of_getElem? (i := 103) (by decide +kernel))) (by decide +kernel)
theorem kw_105 : (Jvm.Cond.fieldLink "OpenDeal" (35 : Nat) "OpenDeal" "p" "I") ∈ kw := kw_of (List.mem_append_right _ (List.mem_of_getElem? (i := 105) (by decide +kernel))) (by decide +kernel)
theorem kw_106 : (Jvm.Cond.fieldLink "OpenDeal" (48 : Nat) "OpenDeal" "phase" "I") ∈ kw := kw_of (List.mem_append_right _ (List.mem_of_getElem? (i := 106) (by decide +kernel))) (by decide +kernel)
theorem kw_107 : (Jvm.Cond.fieldLink "OpenDeal" (51 : Nat) "OpenDeal" "seats" "I") ∈ kw := kw_of (List.mem_append_right _ (List.mem_of_getElem? (i := 107) (by decide +kernel))) (by decide +kernel)
theorem kw_108 : (Jvm.Cond.fieldLink "OpenDeal" (11 : Nat) "OpenDeal" "players" "[LOpenDeal$Player;") ∈ kw := kw_of (List.mem_append_right _ (List.mem_of_getElem? (i := 108) (by decide +kernel))) (by decide +kernel)
theorem kw_109 : (Jvm.Cond.fieldLink "OpenDeal" (54 : Nat) "OpenDeal" "turns" "I") ∈ kw := kw_of (List.mem_append_right _ (List.mem_of_getElem? (i := 109) (by decide +kernel))) (by decide +kernel)
theorem kw_110 : (Jvm.Cond.fieldLink "OpenDeal" (18 : Nat) "OpenDeal" "decks" "[[I") ∈ kw := kw_of (List.mem_append_right _ (List.mem_of_getElem? (i := 110) (by decide +kernel))) (by decide +kernel)
theorem kw_111 : (Jvm.Cond.fieldLink "OpenDeal" (21 : Nat) "OpenDeal" "owners" "[I") ∈ kw := kw_of (List.mem_append_right _ (List.mem_of_getElem? (i := 111) (by decide +kernel))) (by decide +kernel)
theorem kw_112 : (Jvm.Cond.fieldLink "OpenDeal" (31 : Nat) "OpenDeal" "actor" "I") ∈ kw := kw_of (List.mem_append_right _ (List.mem_of_getElem? (i := 112) (by decide +kernel))) (by decide +kernel)
theorem kw_113 : (Jvm.Cond.fieldLink "OpenDeal" (216 : Nat) "OpenDeal" "verdict" "I") ∈ kw := kw_of (List.mem_append_right _ (List.mem_of_getElem? (i := 113) (by decide +kernel))) (by decide +kernel)
theorem kw_114 : (Jvm.Cond.fieldLink "OpenDeal" (25 : Nat) "OpenDeal" "orderRow" "[I") ∈ kw := kw_of (List.mem_append_right _ (List.mem_of_getElem? (i := 114) (by decide +kernel))) (by decide +kernel)
theorem kw_115 : (Jvm.Cond.fieldLink "OpenDeal" (28 : Nat) "OpenDeal" "deckRow" "[I") ∈ kw := kw_of (List.mem_append_right _ (List.mem_of_getElem? (i := 115) (by decide +kernel))) (by decide +kernel)
theorem kw_116 : (Jvm.Cond.lays "OpenDeal" "OpenDeal" "p" "I") ∈ kw := kw_of (List.mem_append_right _ (List.mem_of_getElem? (i := 116) (by decide +kernel))) (by decide +kernel)
theorem kw_118 : (Jvm.Cond.lays "OpenDeal" "OpenDeal" "phase" "I") ∈ kw := kw_of (List.mem_append_right _ (List.mem_of_getElem? (i := 118) (by decide +kernel))) (by decide +kernel)
theorem kw_120 : (Jvm.Cond.lays "OpenDeal" "OpenDeal" "seats" "I") ∈ kw := kw_of (List.mem_append_right _ (List.mem_of_getElem? (i := 120) (by decide +kernel))) (by decide +kernel)
theorem kw_122 : (Jvm.Cond.laysFinal "OpenDeal" "OpenDeal" "players" "[LOpenDeal$Player;") ∈ kw := kw_of (List.mem_append_right _ (List.mem_of_getElem? (i := 122) (by decide +kernel))) (by decide +kernel)
theorem kw_124 : (Jvm.Cond.lays "OpenDeal" "OpenDeal" "turns" "I") ∈ kw := kw_of (List.mem_append_right _ (List.mem_of_getElem? (i := 124) (by decide +kernel))) (by decide +kernel)
theorem kw_126 : (Jvm.Cond.laysFinal "OpenDeal" "OpenDeal" "decks" "[[I") ∈ kw := kw_of (List.mem_append_right _ (List.mem_of_getElem? (i := 126) (by decide +kernel))) (by decide +kernel)
theorem kw_128 : (Jvm.Cond.laysFinal "OpenDeal" "OpenDeal" "owners" "[I") ∈ kw := kw_of (List.mem_append_right _ (List.mem_of_getElem? (i := 128) (by decide +kernel))) (by decide +kernel)
theorem kw_130 : (Jvm.Cond.lays "OpenDeal" "OpenDeal" "actor" "I") ∈ kw := kw_of (List.mem_append_right _ (List.mem_of_getElem? (i := 130) (by decide +kernel))) (by decide +kernel)
theorem kw_132 : (Jvm.Cond.lays "OpenDeal" "OpenDeal" "verdict" "I") ∈ kw := kw_of (List.mem_append_right _ (List.mem_of_getElem? (i := 132) (by decide +kernel))) (by decide +kernel)
theorem kw_134 : (Jvm.Cond.laysFinal "OpenDeal" "OpenDeal" "orderRow" "[I") ∈ kw := kw_of (List.mem_append_right _ (List.mem_of_getElem? (i := 134) (by decide +kernel))) (by decide +kernel)
theorem kw_136 : (Jvm.Cond.laysFinal "OpenDeal" "OpenDeal" "deckRow" "[I") ∈ kw := kw_of (List.mem_append_right _ (List.mem_of_getElem? (i := 136) (by decide +kernel))) (by decide +kernel)
theorem kw_138 : (Jvm.Cond.superclass "OpenDeal" "java/lang/Object") ∈ kw := kw_of (List.mem_append_right _ (List.mem_of_getElem? (i := 138) (by decide +kernel))) (by decide +kernel)
theorem kw_139 : (Jvm.Cond.methodLink "OpenDealLaw" (29 : Nat) ({ cls := "OpenDeal", name := "prime", desc := "(I)Z" } : Jvm.MethodName)) ∈ kw := kw_of (List.mem_append_right _ (List.mem_of_getElem? (i := 139) (by decide +kernel))) (by decide +kernel)
theorem kw_140 : (Jvm.Cond.instanceMethod ({ cls := "OpenDeal", name := "prime", desc := "(I)Z" } : Jvm.MethodName)) ∈ kw := kw_of (List.mem_append_right _ (List.mem_of_getElem? (i := 140) (by decide +kernel))) (by decide +kernel)
theorem kw_141 : (Jvm.Cond.selects "OpenDeal" ({ cls := "OpenDeal", name := "prime", desc := "(I)Z" } : Jvm.MethodName) ({ cls := "OpenDeal", name := "prime", desc := "(I)Z" } : Jvm.MethodName)) ∈ kw := kw_of (List.mem_append_right _ (List.mem_of_getElem? (i := 141) (by decide +kernel))) (by decide +kernel)
set_option maxRecDepth 100000 in
theorem kw_142 : (Jvm.Cond.code ({ cls := "OpenDeal", name := "prime", desc := "(I)Z" } : Jvm.MethodName) prog_1_method_2_code (3 : Nat) (Option.some Jvm.ClassFile.FieldType.boolean)) ∈ kw := kw_of (List.mem_append_right _ (List.mem_of_getElem? (i := 142) rfl)) (by decide +kernel)
theorem kw_143 : (Jvm.Cond.methodLink "OpenDeal" (38 : Nat) ({ cls := "OpenDeal$Numbers", name := "isTablePrime", desc := "(I)Z" } : Jvm.MethodName)) ∈ kw := kw_of (List.mem_append_right _ (List.mem_of_getElem? (i := 143) (by decide +kernel))) (by decide +kernel)
theorem kw_144 : (Jvm.Cond.static ({ cls := "OpenDeal$Numbers", name := "isTablePrime", desc := "(I)Z" } : Jvm.MethodName)) ∈ kw := kw_of (List.mem_append_right _ (List.mem_of_getElem? (i := 144) (by decide +kernel))) (by decide +kernel)
set_option maxRecDepth 100000 in
theorem kw_145 : (Jvm.Cond.code ({ cls := "OpenDeal$Numbers", name := "isTablePrime", desc := "(I)Z" } : Jvm.MethodName) prog_3_method_2_code (1 : Nat) (Option.some Jvm.ClassFile.FieldType.boolean)) ∈ kw := kw_of (List.mem_append_right _ (List.mem_of_getElem? (i := 145) rfl)) (by decide +kernel)
theorem kw_146 : (Jvm.Cond.constant "OpenDeal$Numbers" (9 : Nat) (65536 : Int32)) ∈ kw := kw_of (List.mem_append_right _ (List.mem_of_getElem? (i := 146) (by decide +kernel))) (by decide +kernel)
theorem kw_147 : (Jvm.Cond.methodLink "OpenDeal$Numbers" (10 : Nat) ({ cls := "OpenDeal$Numbers", name := "isPrime", desc := "(I)Z" } : Jvm.MethodName)) ∈ kw := kw_of (List.mem_append_right _ (List.mem_of_getElem? (i := 147) (by decide +kernel))) (by decide +kernel)
theorem kw_148 : (Jvm.Cond.static ({ cls := "OpenDeal$Numbers", name := "isPrime", desc := "(I)Z" } : Jvm.MethodName)) ∈ kw := kw_of (List.mem_append_right _ (List.mem_of_getElem? (i := 148) (by decide +kernel))) (by decide +kernel)
set_option maxRecDepth 100000 in
theorem kw_149 : (Jvm.Cond.code ({ cls := "OpenDeal$Numbers", name := "isPrime", desc := "(I)Z" } : Jvm.MethodName) prog_3_method_3_code (2 : Nat) (Option.some Jvm.ClassFile.FieldType.boolean)) ∈ kw := kw_of (List.mem_append_right _ (List.mem_of_getElem? (i := 149) rfl)) (by decide +kernel)
theorem kw_150 : (Jvm.Cond.fieldLink "OpenDeal$Numbers" (14 : Nat) "OpenDeal$Numbers" "WITNESSES" "[I") ∈ kw := kw_of (List.mem_append_right _ (List.mem_of_getElem? (i := 150) (by decide +kernel))) (by decide +kernel)
theorem kw_152 : (Jvm.Cond.methodLink "OpenDeal$Numbers" (18 : Nat) ({ cls := "OpenDeal$Numbers", name := "looksPrime", desc := "(II)Z" } : Jvm.MethodName)) ∈ kw := kw_of (List.mem_append_right _ (List.mem_of_getElem? (i := 152) (by decide +kernel))) (by decide +kernel)
theorem kw_153 : (Jvm.Cond.static ({ cls := "OpenDeal$Numbers", name := "looksPrime", desc := "(II)Z" } : Jvm.MethodName)) ∈ kw := kw_of (List.mem_append_right _ (List.mem_of_getElem? (i := 153) (by decide +kernel))) (by decide +kernel)
set_option maxRecDepth 100000 in
theorem kw_154 : (Jvm.Cond.code ({ cls := "OpenDeal$Numbers", name := "looksPrime", desc := "(II)Z" } : Jvm.MethodName) prog_3_method_4_code (6 : Nat) (Option.some Jvm.ClassFile.FieldType.boolean)) ∈ kw := kw_of (List.mem_append_right _ (List.mem_of_getElem? (i := 154) rfl)) (by decide +kernel)
theorem kw_155 : (Jvm.Cond.methodLink "OpenDeal$Numbers" (22 : Nat) ({ cls := "OpenDeal$Numbers", name := "power", desc := "(III)I" } : Jvm.MethodName)) ∈ kw := kw_of (List.mem_append_right _ (List.mem_of_getElem? (i := 155) (by decide +kernel))) (by decide +kernel)
theorem kw_156 : (Jvm.Cond.static ({ cls := "OpenDeal$Numbers", name := "power", desc := "(III)I" } : Jvm.MethodName)) ∈ kw := kw_of (List.mem_append_right _ (List.mem_of_getElem? (i := 156) (by decide +kernel))) (by decide +kernel)
set_option maxRecDepth 100000 in
theorem kw_157 : (Jvm.Cond.code ({ cls := "OpenDeal$Numbers", name := "power", desc := "(III)I" } : Jvm.MethodName) prog_3_method_10_code (6 : Nat) (Option.some Jvm.ClassFile.FieldType.int)) ∈ kw := kw_of (List.mem_append_right _ (List.mem_of_getElem? (i := 157) rfl)) (by decide +kernel)
theorem kw_158 : (Jvm.Cond.methodLink "OpenDeal$Numbers" (26 : Nat) ({ cls := "OpenDeal$Numbers", name := "times", desc := "(III)I" } : Jvm.MethodName)) ∈ kw := kw_of (List.mem_append_right _ (List.mem_of_getElem? (i := 158) (by decide +kernel))) (by decide +kernel)
theorem kw_159 : (Jvm.Cond.static ({ cls := "OpenDeal$Numbers", name := "times", desc := "(III)I" } : Jvm.MethodName)) ∈ kw := kw_of (List.mem_append_right _ (List.mem_of_getElem? (i := 159) (by decide +kernel))) (by decide +kernel)
set_option maxRecDepth 100000 in
theorem kw_160 : (Jvm.Cond.code ({ cls := "OpenDeal$Numbers", name := "times", desc := "(III)I" } : Jvm.MethodName) prog_3_method_9_code (3 : Nat) (Option.some Jvm.ClassFile.FieldType.int)) ∈ kw := kw_of (List.mem_append_right _ (List.mem_of_getElem? (i := 160) rfl)) (by decide +kernel)
theorem kw_161 : (Jvm.Cond.methodLink "OpenDeal" (44 : Nat) ({ cls := "OpenDeal$Numbers", name := "ofCard", desc := "(II)I" } : Jvm.MethodName)) ∈ kw := kw_of (List.mem_append_right _ (List.mem_of_getElem? (i := 161) (by decide +kernel))) (by decide +kernel)
theorem kw_162 : (Jvm.Cond.static ({ cls := "OpenDeal$Numbers", name := "ofCard", desc := "(II)I" } : Jvm.MethodName)) ∈ kw := kw_of (List.mem_append_right _ (List.mem_of_getElem? (i := 162) (by decide +kernel))) (by decide +kernel)
set_option maxRecDepth 100000 in
theorem kw_163 : (Jvm.Cond.code ({ cls := "OpenDeal$Numbers", name := "ofCard", desc := "(II)I" } : Jvm.MethodName) prog_3_method_5_code (2 : Nat) (Option.some Jvm.ClassFile.FieldType.int)) ∈ kw := kw_of (List.mem_append_right _ (List.mem_of_getElem? (i := 163) rfl)) (by decide +kernel)
theorem kw_164 : (Jvm.Cond.methodLink "OpenDealLaw" (34 : Nat) ({ cls := "OpenDeal", name := "clear", desc := "()V" } : Jvm.MethodName)) ∈ kw := kw_of (List.mem_append_right _ (List.mem_of_getElem? (i := 164) (by decide +kernel))) (by decide +kernel)
theorem kw_165 : (Jvm.Cond.instanceMethod ({ cls := "OpenDeal", name := "clear", desc := "()V" } : Jvm.MethodName)) ∈ kw := kw_of (List.mem_append_right _ (List.mem_of_getElem? (i := 165) (by decide +kernel))) (by decide +kernel)
theorem kw_166 : (Jvm.Cond.selects "OpenDeal" ({ cls := "OpenDeal", name := "clear", desc := "()V" } : Jvm.MethodName) ({ cls := "OpenDeal", name := "clear", desc := "()V" } : Jvm.MethodName)) ∈ kw := kw_of (List.mem_append_right _ (List.mem_of_getElem? (i := 166) (by decide +kernel))) (by decide +kernel)
set_option maxRecDepth 100000 in
theorem kw_167 : (Jvm.Cond.code ({ cls := "OpenDeal", name := "clear", desc := "()V" } : Jvm.MethodName) prog_1_method_3_code (1 : Nat) (Option.none : Option Jvm.ClassFile.FieldType)) ∈ kw := kw_of (List.mem_append_right _ (List.mem_of_getElem? (i := 167) rfl)) (by decide +kernel)
theorem kw_168 : (Jvm.Cond.methodLink "OpenDealLaw" (38 : Nat) ({ cls := "OpenDeal", name := "seat", desc := "(I)I" } : Jvm.MethodName)) ∈ kw := kw_of (List.mem_append_right _ (List.mem_of_getElem? (i := 168) (by decide +kernel))) (by decide +kernel)
theorem kw_169 : (Jvm.Cond.instanceMethod ({ cls := "OpenDeal", name := "seat", desc := "(I)I" } : Jvm.MethodName)) ∈ kw := kw_of (List.mem_append_right _ (List.mem_of_getElem? (i := 169) (by decide +kernel))) (by decide +kernel)
theorem kw_170 : (Jvm.Cond.selects "OpenDeal" ({ cls := "OpenDeal", name := "seat", desc := "(I)I" } : Jvm.MethodName) ({ cls := "OpenDeal", name := "seat", desc := "(I)I" } : Jvm.MethodName)) ∈ kw := kw_of (List.mem_append_right _ (List.mem_of_getElem? (i := 170) (by decide +kernel))) (by decide +kernel)
set_option maxRecDepth 100000 in
theorem kw_171 : (Jvm.Cond.code ({ cls := "OpenDeal", name := "seat", desc := "(I)I" } : Jvm.MethodName) prog_1_method_4_code (2 : Nat) (Option.some Jvm.ClassFile.FieldType.int)) ∈ kw := kw_of (List.mem_append_right _ (List.mem_of_getElem? (i := 171) rfl)) (by decide +kernel)
theorem kw_172 : (Jvm.Cond.constant "OpenDeal" (57 : Nat) (100000 : Int32)) ∈ kw := kw_of (List.mem_append_right _ (List.mem_of_getElem? (i := 172) (by decide +kernel))) (by decide +kernel)
theorem kw_173 : (Jvm.Cond.methodLink "OpenDeal" (61 : Nat) ({ cls := "OpenDeal$Player", name := "beginHand", desc := "()V" } : Jvm.MethodName)) ∈ kw := kw_of (List.mem_append_right _ (List.mem_of_getElem? (i := 173) (by decide +kernel))) (by decide +kernel)
theorem kw_174 : (Jvm.Cond.instanceMethod ({ cls := "OpenDeal$Player", name := "beginHand", desc := "()V" } : Jvm.MethodName)) ∈ kw := kw_of (List.mem_append_right _ (List.mem_of_getElem? (i := 174) (by decide +kernel))) (by decide +kernel)
theorem kw_175 : (Jvm.Cond.selects "OpenDeal$Player" ({ cls := "OpenDeal$Player", name := "beginHand", desc := "()V" } : Jvm.MethodName) ({ cls := "OpenDeal$Player", name := "beginHand", desc := "()V" } : Jvm.MethodName)) ∈ kw := kw_of (List.mem_append_right _ (List.mem_of_getElem? (i := 175) (by decide +kernel))) (by decide +kernel)
set_option maxRecDepth 100000 in
theorem kw_176 : (Jvm.Cond.code ({ cls := "OpenDeal$Player", name := "beginHand", desc := "()V" } : Jvm.MethodName) prog_4_method_2_code (1 : Nat) (Option.none : Option Jvm.ClassFile.FieldType)) ∈ kw := kw_of (List.mem_append_right _ (List.mem_of_getElem? (i := 176) rfl)) (by decide +kernel)
theorem kw_177 : (Jvm.Cond.methodLink "OpenDeal$Player" (49 : Nat) ({ cls := "java/util/Arrays", name := "fill", desc := "([II)V" } : Jvm.MethodName)) ∈ kw := kw_of (List.mem_append_right _ (List.mem_of_getElem? (i := 177) (by decide +kernel))) (by decide +kernel)
theorem kw_178 : (Jvm.Cond.static ({ cls := "java/util/Arrays", name := "fill", desc := "([II)V" } : Jvm.MethodName)) ∈ kw := kw_of (List.mem_append_right _ (List.mem_of_getElem? (i := 178) (by decide +kernel))) (by decide +kernel)
set_option maxRecDepth 100000 in
theorem kw_179 : (Jvm.Cond.code ({ cls := "java/util/Arrays", name := "fill", desc := "([II)V" } : Jvm.MethodName) prog_15_method_103_code (4 : Nat) (Option.none : Option Jvm.ClassFile.FieldType)) ∈ kw := kw_of (List.mem_append_right _ (List.mem_of_getElem? (i := 179) rfl)) (by decide +kernel)
theorem kw_180 : (Jvm.Cond.methodLink "OpenDeal$Player" (55 : Nat) ({ cls := "java/util/Arrays", name := "fill", desc := "([JJ)V" } : Jvm.MethodName)) ∈ kw := kw_of (List.mem_append_right _ (List.mem_of_getElem? (i := 180) (by decide +kernel))) (by decide +kernel)
theorem kw_181 : (Jvm.Cond.static ({ cls := "java/util/Arrays", name := "fill", desc := "([JJ)V" } : Jvm.MethodName)) ∈ kw := kw_of (List.mem_append_right _ (List.mem_of_getElem? (i := 181) (by decide +kernel))) (by decide +kernel)
set_option maxRecDepth 100000 in
theorem kw_182 : (Jvm.Cond.code ({ cls := "java/util/Arrays", name := "fill", desc := "([JJ)V" } : Jvm.MethodName) prog_15_method_101_code (5 : Nat) (Option.none : Option Jvm.ClassFile.FieldType)) ∈ kw := kw_of (List.mem_append_right _ (List.mem_of_getElem? (i := 182) rfl)) (by decide +kernel)
theorem kw_183 : (Jvm.Cond.methodLink "OpenDealLaw" (42 : Nat) ({ cls := "OpenDeal", name := "deal", desc := "()Z" } : Jvm.MethodName)) ∈ kw := kw_of (List.mem_append_right _ (List.mem_of_getElem? (i := 183) (by decide +kernel))) (by decide +kernel)
theorem kw_184 : (Jvm.Cond.instanceMethod ({ cls := "OpenDeal", name := "deal", desc := "()Z" } : Jvm.MethodName)) ∈ kw := kw_of (List.mem_append_right _ (List.mem_of_getElem? (i := 184) (by decide +kernel))) (by decide +kernel)
theorem kw_185 : (Jvm.Cond.selects "OpenDeal" ({ cls := "OpenDeal", name := "deal", desc := "()Z" } : Jvm.MethodName) ({ cls := "OpenDeal", name := "deal", desc := "()Z" } : Jvm.MethodName)) ∈ kw := kw_of (List.mem_append_right _ (List.mem_of_getElem? (i := 185) (by decide +kernel))) (by decide +kernel)
set_option maxRecDepth 100000 in
theorem kw_186 : (Jvm.Cond.code ({ cls := "OpenDeal", name := "deal", desc := "()Z" } : Jvm.MethodName) prog_1_method_5_code (2 : Nat) (Option.some Jvm.ClassFile.FieldType.boolean)) ∈ kw := kw_of (List.mem_append_right _ (List.mem_of_getElem? (i := 186) rfl)) (by decide +kernel)
theorem kw_187 : (Jvm.Cond.methodLink "OpenDeal" (64 : Nat) ({ cls := "OpenDeal", name := "countWithChips", desc := "()I" } : Jvm.MethodName)) ∈ kw := kw_of (List.mem_append_right _ (List.mem_of_getElem? (i := 187) (by decide +kernel))) (by decide +kernel)
theorem kw_189 : (Jvm.Cond.instanceMethod ({ cls := "OpenDeal", name := "countWithChips", desc := "()I" } : Jvm.MethodName)) ∈ kw := kw_of (List.mem_append_right _ (List.mem_of_getElem? (i := 189) (by decide +kernel))) (by decide +kernel)
set_option maxRecDepth 100000 in
theorem kw_190 : (Jvm.Cond.code ({ cls := "OpenDeal", name := "countWithChips", desc := "()I" } : Jvm.MethodName) prog_1_method_23_code (3 : Nat) (Option.some Jvm.ClassFile.FieldType.int)) ∈ kw := kw_of (List.mem_append_right _ (List.mem_of_getElem? (i := 190) rfl)) (by decide +kernel)
theorem kw_191 : (Jvm.Cond.methodLink "OpenDeal" (68 : Nat) ({ cls := "java/util/Arrays", name := "fill", desc := "([II)V" } : Jvm.MethodName)) ∈ kw := kw_of (List.mem_append_right _ (List.mem_of_getElem? (i := 191) (by decide +kernel))) (by decide +kernel)
theorem kw_192 : (Jvm.Cond.methodLink "OpenDealLaw" (49 : Nat) ({ cls := "OpenDeal", name := "seal", desc := "(IIJJ)Z" } : Jvm.MethodName)) ∈ kw := kw_of (List.mem_append_right _ (List.mem_of_getElem? (i := 192) (by decide +kernel))) (by decide +kernel)
theorem kw_193 : (Jvm.Cond.instanceMethod ({ cls := "OpenDeal", name := "seal", desc := "(IIJJ)Z" } : Jvm.MethodName)) ∈ kw := kw_of (List.mem_append_right _ (List.mem_of_getElem? (i := 193) (by decide +kernel))) (by decide +kernel)
theorem kw_194 : (Jvm.Cond.selects "OpenDeal" ({ cls := "OpenDeal", name := "seal", desc := "(IIJJ)Z" } : Jvm.MethodName) ({ cls := "OpenDeal", name := "seal", desc := "(IIJJ)Z" } : Jvm.MethodName)) ∈ kw := kw_of (List.mem_append_right _ (List.mem_of_getElem? (i := 194) (by decide +kernel))) (by decide +kernel)
set_option maxRecDepth 100000 in
theorem kw_195 : (Jvm.Cond.code ({ cls := "OpenDeal", name := "seal", desc := "(IIJJ)Z" } : Jvm.MethodName) prog_1_method_6_code (8 : Nat) (Option.some Jvm.ClassFile.FieldType.boolean)) ∈ kw := kw_of (List.mem_append_right _ (List.mem_of_getElem? (i := 195) rfl)) (by decide +kernel)
theorem kw_196 : (Jvm.Cond.methodLink "OpenDeal" (74 : Nat) ({ cls := "OpenDeal", name := "isSeated", desc := "(I)Z" } : Jvm.MethodName)) ∈ kw := kw_of (List.mem_append_right _ (List.mem_of_getElem? (i := 196) (by decide +kernel))) (by decide +kernel)
theorem kw_198 : (Jvm.Cond.instanceMethod ({ cls := "OpenDeal", name := "isSeated", desc := "(I)Z" } : Jvm.MethodName)) ∈ kw := kw_of (List.mem_append_right _ (List.mem_of_getElem? (i := 198) (by decide +kernel))) (by decide +kernel)
set_option maxRecDepth 100000 in
theorem kw_199 : (Jvm.Cond.code ({ cls := "OpenDeal", name := "isSeated", desc := "(I)Z" } : Jvm.MethodName) prog_1_method_21_code (2 : Nat) (Option.some Jvm.ClassFile.FieldType.boolean)) ∈ kw := kw_of (List.mem_append_right _ (List.mem_of_getElem? (i := 199) rfl)) (by decide +kernel)
theorem kw_200 : (Jvm.Cond.methodLink "OpenDeal" (77 : Nat) ({ cls := "OpenDeal$Numbers", name := "isExponent", desc := "(II)Z" } : Jvm.MethodName)) ∈ kw := kw_of (List.mem_append_right _ (List.mem_of_getElem? (i := 200) (by decide +kernel))) (by decide +kernel)
theorem kw_201 : (Jvm.Cond.static ({ cls := "OpenDeal$Numbers", name := "isExponent", desc := "(II)Z" } : Jvm.MethodName)) ∈ kw := kw_of (List.mem_append_right _ (List.mem_of_getElem? (i := 201) (by decide +kernel))) (by decide +kernel)
set_option maxRecDepth 100000 in
theorem kw_202 : (Jvm.Cond.code ({ cls := "OpenDeal$Numbers", name := "isExponent", desc := "(II)Z" } : Jvm.MethodName) prog_3_method_6_code (2 : Nat) (Option.some Jvm.ClassFile.FieldType.boolean)) ∈ kw := kw_of (List.mem_append_right _ (List.mem_of_getElem? (i := 202) rfl)) (by decide +kernel)
theorem kw_203 : (Jvm.Cond.methodLink "OpenDeal" (89 : Nat) ({ cls := "OpenDeal$Secrets", name := "keep", desc := "(IJJ)V" } : Jvm.MethodName)) ∈ kw := kw_of (List.mem_append_right _ (List.mem_of_getElem? (i := 203) (by decide +kernel))) (by decide +kernel)
theorem kw_204 : (Jvm.Cond.instanceMethod ({ cls := "OpenDeal$Secrets", name := "keep", desc := "(IJJ)V" } : Jvm.MethodName)) ∈ kw := kw_of (List.mem_append_right _ (List.mem_of_getElem? (i := 204) (by decide +kernel))) (by decide +kernel)
theorem kw_205 : (Jvm.Cond.selects "OpenDeal$Secrets" ({ cls := "OpenDeal$Secrets", name := "keep", desc := "(IJJ)V" } : Jvm.MethodName) ({ cls := "OpenDeal$Secrets", name := "keep", desc := "(IJJ)V" } : Jvm.MethodName)) ∈ kw := kw_of (List.mem_append_right _ (List.mem_of_getElem? (i := 205) (by decide +kernel))) (by decide +kernel)
set_option maxRecDepth 100000 in
theorem kw_206 : (Jvm.Cond.code ({ cls := "OpenDeal$Secrets", name := "keep", desc := "(IJJ)V" } : Jvm.MethodName) prog_5_method_2_code (6 : Nat) (Option.none : Option Jvm.ClassFile.FieldType)) ∈ kw := kw_of (List.mem_append_right _ (List.mem_of_getElem? (i := 206) rfl)) (by decide +kernel)
theorem kw_207 : (Jvm.Cond.methodLink "OpenDeal" (95 : Nat) ({ cls := "OpenDeal$Secrets", name := "mark", desc := "()J" } : Jvm.MethodName)) ∈ kw := kw_of (List.mem_append_right _ (List.mem_of_getElem? (i := 207) (by decide +kernel))) (by decide +kernel)
theorem kw_208 : (Jvm.Cond.instanceMethod ({ cls := "OpenDeal$Secrets", name := "mark", desc := "()J" } : Jvm.MethodName)) ∈ kw := kw_of (List.mem_append_right _ (List.mem_of_getElem? (i := 208) (by decide +kernel))) (by decide +kernel)
theorem kw_209 : (Jvm.Cond.selects "OpenDeal$Secrets" ({ cls := "OpenDeal$Secrets", name := "mark", desc := "()J" } : Jvm.MethodName) ({ cls := "OpenDeal$Secrets", name := "mark", desc := "()J" } : Jvm.MethodName)) ∈ kw := kw_of (List.mem_append_right _ (List.mem_of_getElem? (i := 209) (by decide +kernel))) (by decide +kernel)
set_option maxRecDepth 100000 in
theorem kw_210 : (Jvm.Cond.code ({ cls := "OpenDeal$Secrets", name := "mark", desc := "()J" } : Jvm.MethodName) prog_5_method_3_code (3 : Nat) (Option.some Jvm.ClassFile.FieldType.long)) ∈ kw := kw_of (List.mem_append_right _ (List.mem_of_getElem? (i := 210) rfl)) (by decide +kernel)
theorem kw_211 : (Jvm.Cond.constantLong "OpenDeal$Secrets" (20 : Nat) (-4658895280553007687 : Int64)) ∈ kw := kw_of (List.mem_append_right _ (List.mem_of_getElem? (i := 211) (by decide +kernel))) (by decide +kernel)
theorem kw_212 : (Jvm.Cond.constantLong "OpenDeal$Secrets" (22 : Nat) (-7723592293110705685 : Int64)) ∈ kw := kw_of (List.mem_append_right _ (List.mem_of_getElem? (i := 212) (by decide +kernel))) (by decide +kernel)
theorem kw_213 : (Jvm.Cond.methodLink "OpenDeal" (105 : Nat) ({ cls := "OpenDeal$Draws", name := "fillLocks", desc := "(JI[I)V" } : Jvm.MethodName)) ∈ kw := kw_of (List.mem_append_right _ (List.mem_of_getElem? (i := 213) (by decide +kernel))) (by decide +kernel)
theorem kw_214 : (Jvm.Cond.static ({ cls := "OpenDeal$Draws", name := "fillLocks", desc := "(JI[I)V" } : Jvm.MethodName)) ∈ kw := kw_of (List.mem_append_right _ (List.mem_of_getElem? (i := 214) (by decide +kernel))) (by decide +kernel)
set_option maxRecDepth 100000 in
theorem kw_215 : (Jvm.Cond.code ({ cls := "OpenDeal$Draws", name := "fillLocks", desc := "(JI[I)V" } : Jvm.MethodName) prog_2_method_3_code (6 : Nat) (Option.none : Option Jvm.ClassFile.FieldType)) ∈ kw := kw_of (List.mem_append_right _ (List.mem_of_getElem? (i := 215) rfl)) (by decide +kernel)
theorem kw_216 : (Jvm.Cond.classLink "OpenDeal$Draws" (10 : Nat) "OpenDeal$Draws") ∈ kw := kw_of (List.mem_append_right _ (List.mem_of_getElem? (i := 216) (by decide +kernel))) (by decide +kernel)
theorem kw_217 : (Jvm.Cond.instantiable "OpenDeal$Draws" (1 : Nat)) ∈ kw := kw_of (List.mem_append_right _ (List.mem_of_getElem? (i := 217) (by decide +kernel))) (by decide +kernel)
theorem kw_218 : (Jvm.Cond.methodLink "OpenDeal$Draws" (15 : Nat) ({ cls := "OpenDeal$Draws", name := "<init>", desc := "(J)V" } : Jvm.MethodName)) ∈ kw := kw_of (List.mem_append_right _ (List.mem_of_getElem? (i := 218) (by decide +kernel))) (by decide +kernel)
theorem kw_219 : (Jvm.Cond.instanceMethod ({ cls := "OpenDeal$Draws", name := "<init>", desc := "(J)V" } : Jvm.MethodName)) ∈ kw := kw_of (List.mem_append_right _ (List.mem_of_getElem? (i := 219) (by decide +kernel))) (by decide +kernel)
set_option maxRecDepth 100000 in
theorem kw_220 : (Jvm.Cond.code ({ cls := "OpenDeal$Draws", name := "<init>", desc := "(J)V" } : Jvm.MethodName) prog_2_method_1_code (3 : Nat) (Option.none : Option Jvm.ClassFile.FieldType)) ∈ kw := kw_of (List.mem_append_right _ (List.mem_of_getElem? (i := 220) rfl)) (by decide +kernel)
theorem kw_221 : (Jvm.Cond.methodLink "OpenDeal$Draws" (3 : Nat) ({ cls := "java/lang/Object", name := "<init>", desc := "()V" } : Jvm.MethodName)) ∈ kw := kw_of (List.mem_append_right _ (List.mem_of_getElem? (i := 221) (by decide +kernel))) (by decide +kernel)
theorem kw_222 : (Jvm.Cond.fieldLink "OpenDeal$Draws" (9 : Nat) "OpenDeal$Draws" "key" "J") ∈ kw := kw_of (List.mem_append_right _ (List.mem_of_getElem? (i := 222) (by decide +kernel))) (by decide +kernel)
theorem kw_223 : (Jvm.Cond.lays "OpenDeal$Draws" "OpenDeal$Draws" "key" "J") ∈ kw := kw_of (List.mem_append_right _ (List.mem_of_getElem? (i := 223) (by decide +kernel))) (by decide +kernel)
theorem kw_225 : (Jvm.Cond.superclass "OpenDeal$Draws" "java/lang/Object") ∈ kw := kw_of (List.mem_append_right _ (List.mem_of_getElem? (i := 225) (by decide +kernel))) (by decide +kernel)
theorem kw_226 : (Jvm.Cond.methodLink "OpenDeal$Draws" (22 : Nat) ({ cls := "OpenDeal$Draws", name := "nextExponent", desc := "(I)I" } : Jvm.MethodName)) ∈ kw := kw_of (List.mem_append_right _ (List.mem_of_getElem? (i := 226) (by decide +kernel))) (by decide +kernel)
theorem kw_228 : (Jvm.Cond.instanceMethod ({ cls := "OpenDeal$Draws", name := "nextExponent", desc := "(I)I" } : Jvm.MethodName)) ∈ kw := kw_of (List.mem_append_right _ (List.mem_of_getElem? (i := 228) (by decide +kernel))) (by decide +kernel)
set_option maxRecDepth 100000 in
theorem kw_229 : (Jvm.Cond.code ({ cls := "OpenDeal$Draws", name := "nextExponent", desc := "(I)I" } : Jvm.MethodName) prog_2_method_5_code (4 : Nat) (Option.some Jvm.ClassFile.FieldType.int)) ∈ kw := kw_of (List.mem_append_right _ (List.mem_of_getElem? (i := 229) rfl)) (by decide +kernel)
theorem kw_230 : (Jvm.Cond.constant "OpenDeal$Draws" (30 : Nat) (1000000 : Int32)) ∈ kw := kw_of (List.mem_append_right _ (List.mem_of_getElem? (i := 230) (by decide +kernel))) (by decide +kernel)
theorem kw_231 : (Jvm.Cond.methodLink "OpenDeal$Draws" (18 : Nat) ({ cls := "OpenDeal$Draws", name := "next", desc := "()I" } : Jvm.MethodName)) ∈ kw := kw_of (List.mem_append_right _ (List.mem_of_getElem? (i := 231) (by decide +kernel))) (by decide +kernel)
theorem kw_233 : (Jvm.Cond.instanceMethod ({ cls := "OpenDeal$Draws", name := "next", desc := "()I" } : Jvm.MethodName)) ∈ kw := kw_of (List.mem_append_right _ (List.mem_of_getElem? (i := 233) (by decide +kernel))) (by decide +kernel)
set_option maxRecDepth 100000 in
theorem kw_234 : (Jvm.Cond.code ({ cls := "OpenDeal$Draws", name := "next", desc := "()I" } : Jvm.MethodName) prog_2_method_4_code (1 : Nat) (Option.some Jvm.ClassFile.FieldType.int)) ∈ kw := kw_of (List.mem_append_right _ (List.mem_of_getElem? (i := 234) rfl)) (by decide +kernel)
theorem kw_235 : (Jvm.Cond.constantLong "OpenDeal$Draws" (26 : Nat) (6364136223846793005 : Int64)) ∈ kw := kw_of (List.mem_append_right _ (List.mem_of_getElem? (i := 235) (by decide +kernel))) (by decide +kernel)
theorem kw_236 : (Jvm.Cond.constantLong "OpenDeal$Draws" (28 : Nat) (1442695040888963407 : Int64)) ∈ kw := kw_of (List.mem_append_right _ (List.mem_of_getElem? (i := 236) (by decide +kernel))) (by decide +kernel)
theorem kw_237 : (Jvm.Cond.methodLink "OpenDeal$Draws" (33 : Nat) ({ cls := "OpenDeal$Numbers", name := "isExponent", desc := "(II)Z" } : Jvm.MethodName)) ∈ kw := kw_of (List.mem_append_right _ (List.mem_of_getElem? (i := 237) (by decide +kernel))) (by decide +kernel)
theorem kw_238 : (Jvm.Cond.methodLink "OpenDeal" (111 : Nat) ({ cls := "OpenDeal", name := "allSealed", desc := "()Z" } : Jvm.MethodName)) ∈ kw := kw_of (List.mem_append_right _ (List.mem_of_getElem? (i := 238) (by decide +kernel))) (by decide +kernel)
theorem kw_240 : (Jvm.Cond.instanceMethod ({ cls := "OpenDeal", name := "allSealed", desc := "()Z" } : Jvm.MethodName)) ∈ kw := kw_of (List.mem_append_right _ (List.mem_of_getElem? (i := 240) (by decide +kernel))) (by decide +kernel)
set_option maxRecDepth 100000 in
theorem kw_241 : (Jvm.Cond.code ({ cls := "OpenDeal", name := "allSealed", desc := "()Z" } : Jvm.MethodName) prog_1_method_24_code (2 : Nat) (Option.some Jvm.ClassFile.FieldType.boolean)) ∈ kw := kw_of (List.mem_append_right _ (List.mem_of_getElem? (i := 241) rfl)) (by decide +kernel)
theorem kw_242 : (Jvm.Cond.methodLink "OpenDealLaw" (63 : Nat) ({ cls := "OpenDeal", name := "turn", desc := "(I)Z" } : Jvm.MethodName)) ∈ kw := kw_of (List.mem_append_right _ (List.mem_of_getElem? (i := 242) (by decide +kernel))) (by decide +kernel)
theorem kw_243 : (Jvm.Cond.instanceMethod ({ cls := "OpenDeal", name := "turn", desc := "(I)Z" } : Jvm.MethodName)) ∈ kw := kw_of (List.mem_append_right _ (List.mem_of_getElem? (i := 243) (by decide +kernel))) (by decide +kernel)
theorem kw_244 : (Jvm.Cond.selects "OpenDeal" ({ cls := "OpenDeal", name := "turn", desc := "(I)Z" } : Jvm.MethodName) ({ cls := "OpenDeal", name := "turn", desc := "(I)Z" } : Jvm.MethodName)) ∈ kw := kw_of (List.mem_append_right _ (List.mem_of_getElem? (i := 244) (by decide +kernel))) (by decide +kernel)
set_option maxRecDepth 100000 in
theorem kw_245 : (Jvm.Cond.code ({ cls := "OpenDeal", name := "turn", desc := "(I)Z" } : Jvm.MethodName) prog_1_method_8_code (5 : Nat) (Option.some Jvm.ClassFile.FieldType.boolean)) ∈ kw := kw_of (List.mem_append_right _ (List.mem_of_getElem? (i := 245) rfl)) (by decide +kernel)
theorem kw_246 : (Jvm.Cond.methodLink "OpenDeal" (122 : Nat) ({ cls := "OpenDeal", name := "nextToTurn", desc := "()I" } : Jvm.MethodName)) ∈ kw := kw_of (List.mem_append_right _ (List.mem_of_getElem? (i := 246) (by decide +kernel))) (by decide +kernel)
theorem kw_248 : (Jvm.Cond.instanceMethod ({ cls := "OpenDeal", name := "nextToTurn", desc := "()I" } : Jvm.MethodName)) ∈ kw := kw_of (List.mem_append_right _ (List.mem_of_getElem? (i := 248) (by decide +kernel))) (by decide +kernel)
set_option maxRecDepth 100000 in
theorem kw_249 : (Jvm.Cond.code ({ cls := "OpenDeal", name := "nextToTurn", desc := "()I" } : Jvm.MethodName) prog_1_method_26_code (1 : Nat) (Option.some Jvm.ClassFile.FieldType.int)) ∈ kw := kw_of (List.mem_append_right _ (List.mem_of_getElem? (i := 249) rfl)) (by decide +kernel)
theorem kw_250 : (Jvm.Cond.methodLink "OpenDeal" (237 : Nat) ({ cls := "OpenDeal", name := "playerOfTurn", desc := "(I)I" } : Jvm.MethodName)) ∈ kw := kw_of (List.mem_append_right _ (List.mem_of_getElem? (i := 250) (by decide +kernel))) (by decide +kernel)
theorem kw_252 : (Jvm.Cond.instanceMethod ({ cls := "OpenDeal", name := "playerOfTurn", desc := "(I)I" } : Jvm.MethodName)) ∈ kw := kw_of (List.mem_append_right _ (List.mem_of_getElem? (i := 252) (by decide +kernel))) (by decide +kernel)
set_option maxRecDepth 100000 in
theorem kw_253 : (Jvm.Cond.code ({ cls := "OpenDeal", name := "playerOfTurn", desc := "(I)I" } : Jvm.MethodName) prog_1_method_27_code (2 : Nat) (Option.some Jvm.ClassFile.FieldType.int)) ∈ kw := kw_of (List.mem_append_right _ (List.mem_of_getElem? (i := 253) rfl)) (by decide +kernel)
theorem kw_254 : (Jvm.Cond.methodLink "OpenDeal" (125 : Nat) ({ cls := "OpenDeal", name := "reckonTurn", desc := "(ILOpenDeal$Secrets;[I)V" } : Jvm.MethodName)) ∈ kw := kw_of (List.mem_append_right _ (List.mem_of_getElem? (i := 254) (by decide +kernel))) (by decide +kernel)
theorem kw_256 : (Jvm.Cond.instanceMethod ({ cls := "OpenDeal", name := "reckonTurn", desc := "(ILOpenDeal$Secrets;[I)V" } : Jvm.MethodName)) ∈ kw := kw_of (List.mem_append_right _ (List.mem_of_getElem? (i := 256) (by decide +kernel))) (by decide +kernel)
set_option maxRecDepth 100000 in
theorem kw_257 : (Jvm.Cond.code ({ cls := "OpenDeal", name := "reckonTurn", desc := "(ILOpenDeal$Secrets;[I)V" } : Jvm.MethodName) prog_1_method_28_code (8 : Nat) (Option.none : Option Jvm.ClassFile.FieldType)) ∈ kw := kw_of (List.mem_append_right _ (List.mem_of_getElem? (i := 257) rfl)) (by decide +kernel)
theorem kw_258 : (Jvm.Cond.methodLink "OpenDeal" (243 : Nat) ({ cls := "OpenDeal$Draws", name := "fillOrder", desc := "(J[I)V" } : Jvm.MethodName)) ∈ kw := kw_of (List.mem_append_right _ (List.mem_of_getElem? (i := 258) (by decide +kernel))) (by decide +kernel)
theorem kw_259 : (Jvm.Cond.static ({ cls := "OpenDeal$Draws", name := "fillOrder", desc := "(J[I)V" } : Jvm.MethodName)) ∈ kw := kw_of (List.mem_append_right _ (List.mem_of_getElem? (i := 259) (by decide +kernel))) (by decide +kernel)
set_option maxRecDepth 100000 in
theorem kw_260 : (Jvm.Cond.code ({ cls := "OpenDeal$Draws", name := "fillOrder", desc := "(J[I)V" } : Jvm.MethodName) prog_2_method_2_code (7 : Nat) (Option.none : Option Jvm.ClassFile.FieldType)) ∈ kw := kw_of (List.mem_append_right _ (List.mem_of_getElem? (i := 260) rfl)) (by decide +kernel)
theorem kw_261 : (Jvm.Cond.methodLink "OpenDeal" (156 : Nat) ({ cls := "OpenDeal$Numbers", name := "power", desc := "(III)I" } : Jvm.MethodName)) ∈ kw := kw_of (List.mem_append_right _ (List.mem_of_getElem? (i := 261) (by decide +kernel))) (by decide +kernel)
theorem kw_262 : (Jvm.Cond.methodLink "OpenDeal" (153 : Nat) ({ cls := "OpenDeal$Numbers", name := "inverse", desc := "(II)I" } : Jvm.MethodName)) ∈ kw := kw_of (List.mem_append_right _ (List.mem_of_getElem? (i := 262) (by decide +kernel))) (by decide +kernel)
theorem kw_263 : (Jvm.Cond.static ({ cls := "OpenDeal$Numbers", name := "inverse", desc := "(II)I" } : Jvm.MethodName)) ∈ kw := kw_of (List.mem_append_right _ (List.mem_of_getElem? (i := 263) (by decide +kernel))) (by decide +kernel)
set_option maxRecDepth 100000 in
theorem kw_264 : (Jvm.Cond.code ({ cls := "OpenDeal$Numbers", name := "inverse", desc := "(II)I" } : Jvm.MethodName) prog_3_method_8_code (2 : Nat) (Option.some Jvm.ClassFile.FieldType.int)) ∈ kw := kw_of (List.mem_append_right _ (List.mem_of_getElem? (i := 264) rfl)) (by decide +kernel)
theorem kw_265 : (Jvm.Cond.methodLink "OpenDeal" (250 : Nat) ({ cls := "OpenDeal$Numbers", name := "times", desc := "(III)I" } : Jvm.MethodName)) ∈ kw := kw_of (List.mem_append_right _ (List.mem_of_getElem? (i := 265) (by decide +kernel))) (by decide +kernel)
theorem kw_266 : (Jvm.Cond.methodLink "OpenDeal" (129 : Nat) ({ cls := "OpenDeal", name := "spoil", desc := "([ILOpenDeal$Player;I)V" } : Jvm.MethodName)) ∈ kw := kw_of (List.mem_append_right _ (List.mem_of_getElem? (i := 266) (by decide +kernel))) (by decide +kernel)
theorem kw_268 : (Jvm.Cond.instanceMethod ({ cls := "OpenDeal", name := "spoil", desc := "([ILOpenDeal$Player;I)V" } : Jvm.MethodName)) ∈ kw := kw_of (List.mem_append_right _ (List.mem_of_getElem? (i := 268) (by decide +kernel))) (by decide +kernel)
set_option maxRecDepth 100000 in
theorem kw_269 : (Jvm.Cond.code ({ cls := "OpenDeal", name := "spoil", desc := "([ILOpenDeal$Player;I)V" } : Jvm.MethodName) prog_1_method_29_code (5 : Nat) (Option.none : Option Jvm.ClassFile.FieldType)) ∈ kw := kw_of (List.mem_append_right _ (List.mem_of_getElem? (i := 269) rfl)) (by decide +kernel)
theorem kw_270 : (Jvm.Cond.methodLink "OpenDeal" (144 : Nat) ({ cls := "OpenDeal$Player", name := "cheatsAt", desc := "(II)Z" } : Jvm.MethodName)) ∈ kw := kw_of (List.mem_append_right _ (List.mem_of_getElem? (i := 270) (by decide +kernel))) (by decide +kernel)
theorem kw_271 : (Jvm.Cond.instanceMethod ({ cls := "OpenDeal$Player", name := "cheatsAt", desc := "(II)Z" } : Jvm.MethodName)) ∈ kw := kw_of (List.mem_append_right _ (List.mem_of_getElem? (i := 271) (by decide +kernel))) (by decide +kernel)
theorem kw_272 : (Jvm.Cond.selects "OpenDeal$Player" ({ cls := "OpenDeal$Player", name := "cheatsAt", desc := "(II)Z" } : Jvm.MethodName) ({ cls := "OpenDeal$Player", name := "cheatsAt", desc := "(II)Z" } : Jvm.MethodName)) ∈ kw := kw_of (List.mem_append_right _ (List.mem_of_getElem? (i := 272) (by decide +kernel))) (by decide +kernel)
set_option maxRecDepth 100000 in
theorem kw_273 : (Jvm.Cond.code ({ cls := "OpenDeal$Player", name := "cheatsAt", desc := "(II)Z" } : Jvm.MethodName) prog_4_method_9_code (3 : Nat) (Option.some Jvm.ClassFile.FieldType.boolean)) ∈ kw := kw_of (List.mem_append_right _ (List.mem_of_getElem? (i := 273) rfl)) (by decide +kernel)
theorem kw_274 : (Jvm.Cond.methodLink "OpenDealLaw" (70 : Nat) ({ cls := "OpenDeal", name := "assign", desc := "(II)Z" } : Jvm.MethodName)) ∈ kw := kw_of (List.mem_append_right _ (List.mem_of_getElem? (i := 274) (by decide +kernel))) (by decide +kernel)
theorem kw_275 : (Jvm.Cond.instanceMethod ({ cls := "OpenDeal", name := "assign", desc := "(II)Z" } : Jvm.MethodName)) ∈ kw := kw_of (List.mem_append_right _ (List.mem_of_getElem? (i := 275) (by decide +kernel))) (by decide +kernel)
theorem kw_276 : (Jvm.Cond.selects "OpenDeal" ({ cls := "OpenDeal", name := "assign", desc := "(II)Z" } : Jvm.MethodName) ({ cls := "OpenDeal", name := "assign", desc := "(II)Z" } : Jvm.MethodName)) ∈ kw := kw_of (List.mem_append_right _ (List.mem_of_getElem? (i := 276) (by decide +kernel))) (by decide +kernel)
set_option maxRecDepth 100000 in
theorem kw_277 : (Jvm.Cond.code ({ cls := "OpenDeal", name := "assign", desc := "(II)Z" } : Jvm.MethodName) prog_1_method_10_code (3 : Nat) (Option.some Jvm.ClassFile.FieldType.boolean)) ∈ kw := kw_of (List.mem_append_right _ (List.mem_of_getElem? (i := 277) rfl)) (by decide +kernel)
theorem kw_278 : (Jvm.Cond.methodLink "OpenDeal" (133 : Nat) ({ cls := "OpenDeal", name := "isPlace", desc := "(I)Z" } : Jvm.MethodName)) ∈ kw := kw_of (List.mem_append_right _ (List.mem_of_getElem? (i := 278) (by decide +kernel))) (by decide +kernel)
theorem kw_279 : (Jvm.Cond.static ({ cls := "OpenDeal", name := "isPlace", desc := "(I)Z" } : Jvm.MethodName)) ∈ kw := kw_of (List.mem_append_right _ (List.mem_of_getElem? (i := 279) (by decide +kernel))) (by decide +kernel)
set_option maxRecDepth 100000 in
theorem kw_280 : (Jvm.Cond.code ({ cls := "OpenDeal", name := "isPlace", desc := "(I)Z" } : Jvm.MethodName) prog_1_method_22_code (1 : Nat) (Option.some Jvm.ClassFile.FieldType.boolean)) ∈ kw := kw_of (List.mem_append_right _ (List.mem_of_getElem? (i := 280) rfl)) (by decide +kernel)
theorem kw_281 : (Jvm.Cond.methodLink "OpenDealLaw" (75 : Nat) ({ cls := "OpenDeal", name := "give", desc := "(II)Z" } : Jvm.MethodName)) ∈ kw := kw_of (List.mem_append_right _ (List.mem_of_getElem? (i := 281) (by decide +kernel))) (by decide +kernel)
theorem kw_282 : (Jvm.Cond.instanceMethod ({ cls := "OpenDeal", name := "give", desc := "(II)Z" } : Jvm.MethodName)) ∈ kw := kw_of (List.mem_append_right _ (List.mem_of_getElem? (i := 282) (by decide +kernel))) (by decide +kernel)
theorem kw_283 : (Jvm.Cond.selects "OpenDeal" ({ cls := "OpenDeal", name := "give", desc := "(II)Z" } : Jvm.MethodName) ({ cls := "OpenDeal", name := "give", desc := "(II)Z" } : Jvm.MethodName)) ∈ kw := kw_of (List.mem_append_right _ (List.mem_of_getElem? (i := 283) (by decide +kernel))) (by decide +kernel)
set_option maxRecDepth 100000 in
theorem kw_284 : (Jvm.Cond.code ({ cls := "OpenDeal", name := "give", desc := "(II)Z" } : Jvm.MethodName) prog_1_method_11_code (5 : Nat) (Option.some Jvm.ClassFile.FieldType.boolean)) ∈ kw := kw_of (List.mem_append_right _ (List.mem_of_getElem? (i := 284) rfl)) (by decide +kernel)
theorem kw_285 : (Jvm.Cond.methodLink "OpenDeal" (138 : Nat) ({ cls := "OpenDeal$Player", name := "hasGiven", desc := "(I)Z" } : Jvm.MethodName)) ∈ kw := kw_of (List.mem_append_right _ (List.mem_of_getElem? (i := 285) (by decide +kernel))) (by decide +kernel)
theorem kw_286 : (Jvm.Cond.instanceMethod ({ cls := "OpenDeal$Player", name := "hasGiven", desc := "(I)Z" } : Jvm.MethodName)) ∈ kw := kw_of (List.mem_append_right _ (List.mem_of_getElem? (i := 286) (by decide +kernel))) (by decide +kernel)
theorem kw_287 : (Jvm.Cond.selects "OpenDeal$Player" ({ cls := "OpenDeal$Player", name := "hasGiven", desc := "(I)Z" } : Jvm.MethodName) ({ cls := "OpenDeal$Player", name := "hasGiven", desc := "(I)Z" } : Jvm.MethodName)) ∈ kw := kw_of (List.mem_append_right _ (List.mem_of_getElem? (i := 287) (by decide +kernel))) (by decide +kernel)
set_option maxRecDepth 100000 in
theorem kw_288 : (Jvm.Cond.code ({ cls := "OpenDeal$Player", name := "hasGiven", desc := "(I)Z" } : Jvm.MethodName) prog_4_method_6_code (2 : Nat) (Option.some Jvm.ClassFile.FieldType.boolean)) ∈ kw := kw_of (List.mem_append_right _ (List.mem_of_getElem? (i := 288) rfl)) (by decide +kernel)
theorem kw_289 : (Jvm.Cond.methodLink "OpenDeal" (147 : Nat) ({ cls := "OpenDeal$Numbers", name := "exponentAbove", desc := "(II)I" } : Jvm.MethodName)) ∈ kw := kw_of (List.mem_append_right _ (List.mem_of_getElem? (i := 289) (by decide +kernel))) (by decide +kernel)
theorem kw_290 : (Jvm.Cond.static ({ cls := "OpenDeal$Numbers", name := "exponentAbove", desc := "(II)I" } : Jvm.MethodName)) ∈ kw := kw_of (List.mem_append_right _ (List.mem_of_getElem? (i := 290) (by decide +kernel))) (by decide +kernel)
set_option maxRecDepth 100000 in
theorem kw_291 : (Jvm.Cond.code ({ cls := "OpenDeal$Numbers", name := "exponentAbove", desc := "(II)I" } : Jvm.MethodName) prog_3_method_7_code (3 : Nat) (Option.some Jvm.ClassFile.FieldType.int)) ∈ kw := kw_of (List.mem_append_right _ (List.mem_of_getElem? (i := 291) rfl)) (by decide +kernel)
theorem kw_292 : (Jvm.Cond.methodLink "OpenDeal$Numbers" (29 : Nat) ({ cls := "OpenDeal$Numbers", name := "isExponent", desc := "(II)Z" } : Jvm.MethodName)) ∈ kw := kw_of (List.mem_append_right _ (List.mem_of_getElem? (i := 292) (by decide +kernel))) (by decide +kernel)
theorem kw_293 : (Jvm.Cond.methodLink "OpenDealLaw" (79 : Nat) ({ cls := "OpenDeal", name := "open", desc := "(II)I" } : Jvm.MethodName)) ∈ kw := kw_of (List.mem_append_right _ (List.mem_of_getElem? (i := 293) (by decide +kernel))) (by decide +kernel)
theorem kw_294 : (Jvm.Cond.instanceMethod ({ cls := "OpenDeal", name := "open", desc := "(II)I" } : Jvm.MethodName)) ∈ kw := kw_of (List.mem_append_right _ (List.mem_of_getElem? (i := 294) (by decide +kernel))) (by decide +kernel)
theorem kw_295 : (Jvm.Cond.selects "OpenDeal" ({ cls := "OpenDeal", name := "open", desc := "(II)I" } : Jvm.MethodName) ({ cls := "OpenDeal", name := "open", desc := "(II)I" } : Jvm.MethodName)) ∈ kw := kw_of (List.mem_append_right _ (List.mem_of_getElem? (i := 295) (by decide +kernel))) (by decide +kernel)
set_option maxRecDepth 100000 in
theorem kw_296 : (Jvm.Cond.code ({ cls := "OpenDeal", name := "open", desc := "(II)I" } : Jvm.MethodName) prog_1_method_12_code (7 : Nat) (Option.some Jvm.ClassFile.FieldType.int)) ∈ kw := kw_of (List.mem_append_right _ (List.mem_of_getElem? (i := 296) rfl)) (by decide +kernel)
theorem kw_297 : (Jvm.Cond.methodLink "OpenDeal" (150 : Nat) ({ cls := "OpenDeal", name := "mayOpen", desc := "(II)Z" } : Jvm.MethodName)) ∈ kw := kw_of (List.mem_append_right _ (List.mem_of_getElem? (i := 297) (by decide +kernel))) (by decide +kernel)
theorem kw_299 : (Jvm.Cond.instanceMethod ({ cls := "OpenDeal", name := "mayOpen", desc := "(II)Z" } : Jvm.MethodName)) ∈ kw := kw_of (List.mem_append_right _ (List.mem_of_getElem? (i := 299) (by decide +kernel))) (by decide +kernel)
set_option maxRecDepth 100000 in
theorem kw_300 : (Jvm.Cond.code ({ cls := "OpenDeal", name := "mayOpen", desc := "(II)Z" } : Jvm.MethodName) prog_1_method_30_code (5 : Nat) (Option.some Jvm.ClassFile.FieldType.boolean)) ∈ kw := kw_of (List.mem_append_right _ (List.mem_of_getElem? (i := 300) rfl)) (by decide +kernel)
theorem kw_301 : (Jvm.Cond.methodLink "OpenDeal" (160 : Nat) ({ cls := "OpenDeal", name := "cardOf", desc := "(I)I" } : Jvm.MethodName)) ∈ kw := kw_of (List.mem_append_right _ (List.mem_of_getElem? (i := 301) (by decide +kernel))) (by decide +kernel)
theorem kw_303 : (Jvm.Cond.instanceMethod ({ cls := "OpenDeal", name := "cardOf", desc := "(I)I" } : Jvm.MethodName)) ∈ kw := kw_of (List.mem_append_right _ (List.mem_of_getElem? (i := 303) (by decide +kernel))) (by decide +kernel)
set_option maxRecDepth 100000 in
theorem kw_304 : (Jvm.Cond.code ({ cls := "OpenDeal", name := "cardOf", desc := "(I)I" } : Jvm.MethodName) prog_1_method_31_code (3 : Nat) (Option.some Jvm.ClassFile.FieldType.int)) ∈ kw := kw_of (List.mem_append_right _ (List.mem_of_getElem? (i := 304) rfl)) (by decide +kernel)
theorem kw_305 : (Jvm.Cond.methodLink "OpenDealLaw" (84 : Nat) ({ cls := "OpenDeal", name := "round", desc := "()Z" } : Jvm.MethodName)) ∈ kw := kw_of (List.mem_append_right _ (List.mem_of_getElem? (i := 305) (by decide +kernel))) (by decide +kernel)
theorem kw_306 : (Jvm.Cond.instanceMethod ({ cls := "OpenDeal", name := "round", desc := "()Z" } : Jvm.MethodName)) ∈ kw := kw_of (List.mem_append_right _ (List.mem_of_getElem? (i := 306) (by decide +kernel))) (by decide +kernel)
theorem kw_307 : (Jvm.Cond.selects "OpenDeal" ({ cls := "OpenDeal", name := "round", desc := "()Z" } : Jvm.MethodName) ({ cls := "OpenDeal", name := "round", desc := "()Z" } : Jvm.MethodName)) ∈ kw := kw_of (List.mem_append_right _ (List.mem_of_getElem? (i := 307) (by decide +kernel))) (by decide +kernel)
set_option maxRecDepth 100000 in
theorem kw_308 : (Jvm.Cond.code ({ cls := "OpenDeal", name := "round", desc := "()Z" } : Jvm.MethodName) prog_1_method_13_code (1 : Nat) (Option.some Jvm.ClassFile.FieldType.boolean)) ∈ kw := kw_of (List.mem_append_right _ (List.mem_of_getElem? (i := 308) rfl)) (by decide +kernel)
theorem kw_309 : (Jvm.Cond.methodLink "OpenDeal" (164 : Nat) ({ cls := "OpenDeal", name := "awaitAll", desc := "()V" } : Jvm.MethodName)) ∈ kw := kw_of (List.mem_append_right _ (List.mem_of_getElem? (i := 309) (by decide +kernel))) (by decide +kernel)
theorem kw_311 : (Jvm.Cond.instanceMethod ({ cls := "OpenDeal", name := "awaitAll", desc := "()V" } : Jvm.MethodName)) ∈ kw := kw_of (List.mem_append_right _ (List.mem_of_getElem? (i := 311) (by decide +kernel))) (by decide +kernel)
set_option maxRecDepth 100000 in
theorem kw_312 : (Jvm.Cond.code ({ cls := "OpenDeal", name := "awaitAll", desc := "()V" } : Jvm.MethodName) prog_1_method_32_code (2 : Nat) (Option.none : Option Jvm.ClassFile.FieldType)) ∈ kw := kw_of (List.mem_append_right _ (List.mem_of_getElem? (i := 312) rfl)) (by decide +kernel)
theorem kw_313 : (Jvm.Cond.methodLink "OpenDeal" (167 : Nat) ({ cls := "OpenDeal", name := "countAbleToAct", desc := "()I" } : Jvm.MethodName)) ∈ kw := kw_of (List.mem_append_right _ (List.mem_of_getElem? (i := 313) (by decide +kernel))) (by decide +kernel)
theorem kw_315 : (Jvm.Cond.instanceMethod ({ cls := "OpenDeal", name := "countAbleToAct", desc := "()I" } : Jvm.MethodName)) ∈ kw := kw_of (List.mem_append_right _ (List.mem_of_getElem? (i := 315) (by decide +kernel))) (by decide +kernel)
set_option maxRecDepth 100000 in
theorem kw_316 : (Jvm.Cond.code ({ cls := "OpenDeal", name := "countAbleToAct", desc := "()I" } : Jvm.MethodName) prog_1_method_36_code (3 : Nat) (Option.some Jvm.ClassFile.FieldType.int)) ∈ kw := kw_of (List.mem_append_right _ (List.mem_of_getElem? (i := 316) rfl)) (by decide +kernel)
theorem kw_317 : (Jvm.Cond.methodLink "OpenDeal" (256 : Nat) ({ cls := "OpenDeal$Player", name := "canAct", desc := "()Z" } : Jvm.MethodName)) ∈ kw := kw_of (List.mem_append_right _ (List.mem_of_getElem? (i := 317) (by decide +kernel))) (by decide +kernel)
theorem kw_318 : (Jvm.Cond.instanceMethod ({ cls := "OpenDeal$Player", name := "canAct", desc := "()Z" } : Jvm.MethodName)) ∈ kw := kw_of (List.mem_append_right _ (List.mem_of_getElem? (i := 318) (by decide +kernel))) (by decide +kernel)
theorem kw_319 : (Jvm.Cond.selects "OpenDeal$Player" ({ cls := "OpenDeal$Player", name := "canAct", desc := "()Z" } : Jvm.MethodName) ({ cls := "OpenDeal$Player", name := "canAct", desc := "()Z" } : Jvm.MethodName)) ∈ kw := kw_of (List.mem_append_right _ (List.mem_of_getElem? (i := 319) (by decide +kernel))) (by decide +kernel)
set_option maxRecDepth 100000 in
theorem kw_320 : (Jvm.Cond.code ({ cls := "OpenDeal$Player", name := "canAct", desc := "()Z" } : Jvm.MethodName) prog_4_method_3_code (1 : Nat) (Option.some Jvm.ClassFile.FieldType.boolean)) ∈ kw := kw_of (List.mem_append_right _ (List.mem_of_getElem? (i := 320) rfl)) (by decide +kernel)
theorem kw_321 : (Jvm.Cond.methodLink "OpenDeal" (170 : Nat) ({ cls := "OpenDeal", name := "nextToAct", desc := "(I)I" } : Jvm.MethodName)) ∈ kw := kw_of (List.mem_append_right _ (List.mem_of_getElem? (i := 321) (by decide +kernel))) (by decide +kernel)
theorem kw_323 : (Jvm.Cond.instanceMethod ({ cls := "OpenDeal", name := "nextToAct", desc := "(I)I" } : Jvm.MethodName)) ∈ kw := kw_of (List.mem_append_right _ (List.mem_of_getElem? (i := 323) (by decide +kernel))) (by decide +kernel)
set_option maxRecDepth 100000 in
theorem kw_324 : (Jvm.Cond.code ({ cls := "OpenDeal", name := "nextToAct", desc := "(I)I" } : Jvm.MethodName) prog_1_method_34_code (4 : Nat) (Option.some Jvm.ClassFile.FieldType.int)) ∈ kw := kw_of (List.mem_append_right _ (List.mem_of_getElem? (i := 324) rfl)) (by decide +kernel)
theorem kw_325 : (Jvm.Cond.methodLink "OpenDealLaw" (88 : Nat) ({ cls := "OpenDeal", name := "bet", desc := "(III)Z" } : Jvm.MethodName)) ∈ kw := kw_of (List.mem_append_right _ (List.mem_of_getElem? (i := 325) (by decide +kernel))) (by decide +kernel)
theorem kw_326 : (Jvm.Cond.instanceMethod ({ cls := "OpenDeal", name := "bet", desc := "(III)Z" } : Jvm.MethodName)) ∈ kw := kw_of (List.mem_append_right _ (List.mem_of_getElem? (i := 326) (by decide +kernel))) (by decide +kernel)
theorem kw_327 : (Jvm.Cond.selects "OpenDeal" ({ cls := "OpenDeal", name := "bet", desc := "(III)Z" } : Jvm.MethodName) ({ cls := "OpenDeal", name := "bet", desc := "(III)Z" } : Jvm.MethodName)) ∈ kw := kw_of (List.mem_append_right _ (List.mem_of_getElem? (i := 327) (by decide +kernel))) (by decide +kernel)
set_option maxRecDepth 100000 in
theorem kw_328 : (Jvm.Cond.code ({ cls := "OpenDeal", name := "bet", desc := "(III)Z" } : Jvm.MethodName) prog_1_method_14_code (6 : Nat) (Option.some Jvm.ClassFile.FieldType.boolean)) ∈ kw := kw_of (List.mem_append_right _ (List.mem_of_getElem? (i := 328) rfl)) (by decide +kernel)
theorem kw_329 : (Jvm.Cond.methodLink "OpenDeal" (173 : Nat) ({ cls := "OpenDeal", name := "mostInRound", desc := "()I" } : Jvm.MethodName)) ∈ kw := kw_of (List.mem_append_right _ (List.mem_of_getElem? (i := 329) (by decide +kernel))) (by decide +kernel)
theorem kw_331 : (Jvm.Cond.instanceMethod ({ cls := "OpenDeal", name := "mostInRound", desc := "()I" } : Jvm.MethodName)) ∈ kw := kw_of (List.mem_append_right _ (List.mem_of_getElem? (i := 331) (by decide +kernel))) (by decide +kernel)
set_option maxRecDepth 100000 in
theorem kw_332 : (Jvm.Cond.code ({ cls := "OpenDeal", name := "mostInRound", desc := "()I" } : Jvm.MethodName) prog_1_method_37_code (3 : Nat) (Option.some Jvm.ClassFile.FieldType.int)) ∈ kw := kw_of (List.mem_append_right _ (List.mem_of_getElem? (i := 332) rfl)) (by decide +kernel)
theorem kw_333 : (Jvm.Cond.methodLink "OpenDeal" (259 : Nat) ({ cls := "java/lang/Math", name := "max", desc := "(II)I" } : Jvm.MethodName)) ∈ kw := kw_of (List.mem_append_right _ (List.mem_of_getElem? (i := 333) (by decide +kernel))) (by decide +kernel)
theorem kw_334 : (Jvm.Cond.static ({ cls := "java/lang/Math", name := "max", desc := "(II)I" } : Jvm.MethodName)) ∈ kw := kw_of (List.mem_append_right _ (List.mem_of_getElem? (i := 334) (by decide +kernel))) (by decide +kernel)
set_option maxRecDepth 100000 in
theorem kw_335 : (Jvm.Cond.code ({ cls := "java/lang/Math", name := "max", desc := "(II)I" } : Jvm.MethodName) prog_11_method_65_code (2 : Nat) (Option.some Jvm.ClassFile.FieldType.int)) ∈ kw := kw_of (List.mem_append_right _ (List.mem_of_getElem? (i := 335) rfl)) (by decide +kernel)
theorem kw_336 : (Jvm.Cond.methodLink "OpenDeal" (182 : Nat) ({ cls := "java/lang/Math", name := "min", desc := "(II)I" } : Jvm.MethodName)) ∈ kw := kw_of (List.mem_append_right _ (List.mem_of_getElem? (i := 336) (by decide +kernel))) (by decide +kernel)
theorem kw_337 : (Jvm.Cond.static ({ cls := "java/lang/Math", name := "min", desc := "(II)I" } : Jvm.MethodName)) ∈ kw := kw_of (List.mem_append_right _ (List.mem_of_getElem? (i := 337) (by decide +kernel))) (by decide +kernel)
set_option maxRecDepth 100000 in
theorem kw_338 : (Jvm.Cond.code ({ cls := "java/lang/Math", name := "min", desc := "(II)I" } : Jvm.MethodName) prog_11_method_69_code (2 : Nat) (Option.some Jvm.ClassFile.FieldType.int)) ∈ kw := kw_of (List.mem_append_right _ (List.mem_of_getElem? (i := 338) rfl)) (by decide +kernel)
theorem kw_339 : (Jvm.Cond.methodLink "OpenDeal" (187 : Nat) ({ cls := "OpenDeal$Player", name := "putIn", desc := "(I)V" } : Jvm.MethodName)) ∈ kw := kw_of (List.mem_append_right _ (List.mem_of_getElem? (i := 339) (by decide +kernel))) (by decide +kernel)
theorem kw_340 : (Jvm.Cond.instanceMethod ({ cls := "OpenDeal$Player", name := "putIn", desc := "(I)V" } : Jvm.MethodName)) ∈ kw := kw_of (List.mem_append_right _ (List.mem_of_getElem? (i := 340) (by decide +kernel))) (by decide +kernel)
theorem kw_341 : (Jvm.Cond.selects "OpenDeal$Player" ({ cls := "OpenDeal$Player", name := "putIn", desc := "(I)V" } : Jvm.MethodName) ({ cls := "OpenDeal$Player", name := "putIn", desc := "(I)V" } : Jvm.MethodName)) ∈ kw := kw_of (List.mem_append_right _ (List.mem_of_getElem? (i := 341) (by decide +kernel))) (by decide +kernel)
set_option maxRecDepth 100000 in
theorem kw_342 : (Jvm.Cond.code ({ cls := "OpenDeal$Player", name := "putIn", desc := "(I)V" } : Jvm.MethodName) prog_4_method_5_code (2 : Nat) (Option.none : Option Jvm.ClassFile.FieldType)) ∈ kw := kw_of (List.mem_append_right _ (List.mem_of_getElem? (i := 342) rfl)) (by decide +kernel)
theorem kw_343 : (Jvm.Cond.methodLink "OpenDeal" (194 : Nat) ({ cls := "OpenDeal", name := "goOnWithRound", desc := "()V" } : Jvm.MethodName)) ∈ kw := kw_of (List.mem_append_right _ (List.mem_of_getElem? (i := 343) (by decide +kernel))) (by decide +kernel)
theorem kw_345 : (Jvm.Cond.instanceMethod ({ cls := "OpenDeal", name := "goOnWithRound", desc := "()V" } : Jvm.MethodName)) ∈ kw := kw_of (List.mem_append_right _ (List.mem_of_getElem? (i := 345) (by decide +kernel))) (by decide +kernel)
set_option maxRecDepth 100000 in
theorem kw_346 : (Jvm.Cond.code ({ cls := "OpenDeal", name := "goOnWithRound", desc := "()V" } : Jvm.MethodName) prog_1_method_33_code (2 : Nat) (Option.none : Option Jvm.ClassFile.FieldType)) ∈ kw := kw_of (List.mem_append_right _ (List.mem_of_getElem? (i := 346) rfl)) (by decide +kernel)
theorem kw_347 : (Jvm.Cond.methodLink "OpenDeal" (253 : Nat) ({ cls := "OpenDeal", name := "countIn", desc := "()I" } : Jvm.MethodName)) ∈ kw := kw_of (List.mem_append_right _ (List.mem_of_getElem? (i := 347) (by decide +kernel))) (by decide +kernel)
theorem kw_349 : (Jvm.Cond.instanceMethod ({ cls := "OpenDeal", name := "countIn", desc := "()I" } : Jvm.MethodName)) ∈ kw := kw_of (List.mem_append_right _ (List.mem_of_getElem? (i := 349) (by decide +kernel))) (by decide +kernel)
set_option maxRecDepth 100000 in
theorem kw_350 : (Jvm.Cond.code ({ cls := "OpenDeal", name := "countIn", desc := "()I" } : Jvm.MethodName) prog_1_method_35_code (3 : Nat) (Option.some Jvm.ClassFile.FieldType.int)) ∈ kw := kw_of (List.mem_append_right _ (List.mem_of_getElem? (i := 350) rfl)) (by decide +kernel)
theorem kw_351 : (Jvm.Cond.methodLink "OpenDealLaw" (93 : Nat) ({ cls := "OpenDeal", name := "settle", desc := "(I)Z" } : Jvm.MethodName)) ∈ kw := kw_of (List.mem_append_right _ (List.mem_of_getElem? (i := 351) (by decide +kernel))) (by decide +kernel)
theorem kw_352 : (Jvm.Cond.instanceMethod ({ cls := "OpenDeal", name := "settle", desc := "(I)Z" } : Jvm.MethodName)) ∈ kw := kw_of (List.mem_append_right _ (List.mem_of_getElem? (i := 352) (by decide +kernel))) (by decide +kernel)
theorem kw_353 : (Jvm.Cond.selects "OpenDeal" ({ cls := "OpenDeal", name := "settle", desc := "(I)Z" } : Jvm.MethodName) ({ cls := "OpenDeal", name := "settle", desc := "(I)Z" } : Jvm.MethodName)) ∈ kw := kw_of (List.mem_append_right _ (List.mem_of_getElem? (i := 353) (by decide +kernel))) (by decide +kernel)
set_option maxRecDepth 100000 in
theorem kw_354 : (Jvm.Cond.code ({ cls := "OpenDeal", name := "settle", desc := "(I)Z" } : Jvm.MethodName) prog_1_method_15_code (3 : Nat) (Option.some Jvm.ClassFile.FieldType.boolean)) ∈ kw := kw_of (List.mem_append_right _ (List.mem_of_getElem? (i := 354) rfl)) (by decide +kernel)
theorem kw_355 : (Jvm.Cond.methodLink "OpenDeal" (197 : Nat) ({ cls := "OpenDeal", name := "leastInHand", desc := "()I" } : Jvm.MethodName)) ∈ kw := kw_of (List.mem_append_right _ (List.mem_of_getElem? (i := 355) (by decide +kernel))) (by decide +kernel)
theorem kw_357 : (Jvm.Cond.instanceMethod ({ cls := "OpenDeal", name := "leastInHand", desc := "()I" } : Jvm.MethodName)) ∈ kw := kw_of (List.mem_append_right _ (List.mem_of_getElem? (i := 357) (by decide +kernel))) (by decide +kernel)
set_option maxRecDepth 100000 in
theorem kw_358 : (Jvm.Cond.code ({ cls := "OpenDeal", name := "leastInHand", desc := "()I" } : Jvm.MethodName) prog_1_method_39_code (4 : Nat) (Option.some Jvm.ClassFile.FieldType.int)) ∈ kw := kw_of (List.mem_append_right _ (List.mem_of_getElem? (i := 358) rfl)) (by decide +kernel)
theorem kw_359 : (Jvm.Cond.methodLink "OpenDeal" (200 : Nat) ({ cls := "OpenDeal", name := "payLayer", desc := "(II)V" } : Jvm.MethodName)) ∈ kw := kw_of (List.mem_append_right _ (List.mem_of_getElem? (i := 359) (by decide +kernel))) (by decide +kernel)
theorem kw_361 : (Jvm.Cond.instanceMethod ({ cls := "OpenDeal", name := "payLayer", desc := "(II)V" } : Jvm.MethodName)) ∈ kw := kw_of (List.mem_append_right _ (List.mem_of_getElem? (i := 361) (by decide +kernel))) (by decide +kernel)
set_option maxRecDepth 100000 in
theorem kw_362 : (Jvm.Cond.code ({ cls := "OpenDeal", name := "payLayer", desc := "(II)V" } : Jvm.MethodName) prog_1_method_40_code (10 : Nat) (Option.none : Option Jvm.ClassFile.FieldType)) ∈ kw := kw_of (List.mem_append_right _ (List.mem_of_getElem? (i := 362) rfl)) (by decide +kernel)
theorem kw_363 : (Jvm.Cond.methodLink "OpenDeal" (262 : Nat) ({ cls := "OpenDeal", name := "bestRank", desc := "(I)I" } : Jvm.MethodName)) ∈ kw := kw_of (List.mem_append_right _ (List.mem_of_getElem? (i := 363) (by decide +kernel))) (by decide +kernel)
theorem kw_365 : (Jvm.Cond.instanceMethod ({ cls := "OpenDeal", name := "bestRank", desc := "(I)I" } : Jvm.MethodName)) ∈ kw := kw_of (List.mem_append_right _ (List.mem_of_getElem? (i := 365) (by decide +kernel))) (by decide +kernel)
set_option maxRecDepth 100000 in
theorem kw_366 : (Jvm.Cond.code ({ cls := "OpenDeal", name := "bestRank", desc := "(I)I" } : Jvm.MethodName) prog_1_method_42_code (4 : Nat) (Option.some Jvm.ClassFile.FieldType.int)) ∈ kw := kw_of (List.mem_append_right _ (List.mem_of_getElem? (i := 366) rfl)) (by decide +kernel)
theorem kw_367 : (Jvm.Cond.methodLink "OpenDeal" (269 : Nat) ({ cls := "OpenDeal$Player", name := "isInFor", desc := "()Z" } : Jvm.MethodName)) ∈ kw := kw_of (List.mem_append_right _ (List.mem_of_getElem? (i := 367) (by decide +kernel))) (by decide +kernel)
theorem kw_368 : (Jvm.Cond.instanceMethod ({ cls := "OpenDeal$Player", name := "isInFor", desc := "()Z" } : Jvm.MethodName)) ∈ kw := kw_of (List.mem_append_right _ (List.mem_of_getElem? (i := 368) (by decide +kernel))) (by decide +kernel)
theorem kw_369 : (Jvm.Cond.selects "OpenDeal$Player" ({ cls := "OpenDeal$Player", name := "isInFor", desc := "()Z" } : Jvm.MethodName) ({ cls := "OpenDeal$Player", name := "isInFor", desc := "()Z" } : Jvm.MethodName)) ∈ kw := kw_of (List.mem_append_right _ (List.mem_of_getElem? (i := 369) (by decide +kernel))) (by decide +kernel)
set_option maxRecDepth 100000 in
theorem kw_370 : (Jvm.Cond.code ({ cls := "OpenDeal$Player", name := "isInFor", desc := "()Z" } : Jvm.MethodName) prog_4_method_4_code (1 : Nat) (Option.some Jvm.ClassFile.FieldType.boolean)) ∈ kw := kw_of (List.mem_append_right _ (List.mem_of_getElem? (i := 370) rfl)) (by decide +kernel)
theorem kw_371 : (Jvm.Cond.methodLink "OpenDeal" (272 : Nat) ({ cls := "OpenDeal", name := "rankOf", desc := "(II)I" } : Jvm.MethodName)) ∈ kw := kw_of (List.mem_append_right _ (List.mem_of_getElem? (i := 371) (by decide +kernel))) (by decide +kernel)
theorem kw_372 : (Jvm.Cond.static ({ cls := "OpenDeal", name := "rankOf", desc := "(II)I" } : Jvm.MethodName)) ∈ kw := kw_of (List.mem_append_right _ (List.mem_of_getElem? (i := 372) (by decide +kernel))) (by decide +kernel)
set_option maxRecDepth 100000 in
theorem kw_373 : (Jvm.Cond.code ({ cls := "OpenDeal", name := "rankOf", desc := "(II)I" } : Jvm.MethodName) prog_1_method_43_code (2 : Nat) (Option.some Jvm.ClassFile.FieldType.int)) ∈ kw := kw_of (List.mem_append_right _ (List.mem_of_getElem? (i := 373) rfl)) (by decide +kernel)
theorem kw_374 : (Jvm.Cond.methodLink "OpenDeal" (265 : Nat) ({ cls := "OpenDeal", name := "winsLayer", desc := "(III)Z" } : Jvm.MethodName)) ∈ kw := kw_of (List.mem_append_right _ (List.mem_of_getElem? (i := 374) (by decide +kernel))) (by decide +kernel)
theorem kw_376 : (Jvm.Cond.instanceMethod ({ cls := "OpenDeal", name := "winsLayer", desc := "(III)Z" } : Jvm.MethodName)) ∈ kw := kw_of (List.mem_append_right _ (List.mem_of_getElem? (i := 376) (by decide +kernel))) (by decide +kernel)
set_option maxRecDepth 100000 in
theorem kw_377 : (Jvm.Cond.code ({ cls := "OpenDeal", name := "winsLayer", desc := "(III)Z" } : Jvm.MethodName) prog_1_method_41_code (4 : Nat) (Option.some Jvm.ClassFile.FieldType.boolean)) ∈ kw := kw_of (List.mem_append_right _ (List.mem_of_getElem? (i := 377) rfl)) (by decide +kernel)
theorem kw_378 : (Jvm.Cond.methodLink "OpenDealLaw" (97 : Nat) ({ cls := "OpenDeal", name := "show", desc := "(I)Z" } : Jvm.MethodName)) ∈ kw := kw_of (List.mem_append_right _ (List.mem_of_getElem? (i := 378) (by decide +kernel))) (by decide +kernel)
theorem kw_379 : (Jvm.Cond.instanceMethod ({ cls := "OpenDeal", name := "show", desc := "(I)Z" } : Jvm.MethodName)) ∈ kw := kw_of (List.mem_append_right _ (List.mem_of_getElem? (i := 379) (by decide +kernel))) (by decide +kernel)
theorem kw_380 : (Jvm.Cond.selects "OpenDeal" ({ cls := "OpenDeal", name := "show", desc := "(I)Z" } : Jvm.MethodName) ({ cls := "OpenDeal", name := "show", desc := "(I)Z" } : Jvm.MethodName)) ∈ kw := kw_of (List.mem_append_right _ (List.mem_of_getElem? (i := 380) (by decide +kernel))) (by decide +kernel)
set_option maxRecDepth 100000 in
theorem kw_381 : (Jvm.Cond.code ({ cls := "OpenDeal", name := "show", desc := "(I)Z" } : Jvm.MethodName) prog_1_method_16_code (2 : Nat) (Option.some Jvm.ClassFile.FieldType.boolean)) ∈ kw := kw_of (List.mem_append_right _ (List.mem_of_getElem? (i := 381) rfl)) (by decide +kernel)
theorem kw_382 : (Jvm.Cond.methodLink "OpenDeal" (207 : Nat) ({ cls := "OpenDeal$Player", name := "showSecrets", desc := "(I)V" } : Jvm.MethodName)) ∈ kw := kw_of (List.mem_append_right _ (List.mem_of_getElem? (i := 382) (by decide +kernel))) (by decide +kernel)
theorem kw_383 : (Jvm.Cond.instanceMethod ({ cls := "OpenDeal$Player", name := "showSecrets", desc := "(I)V" } : Jvm.MethodName)) ∈ kw := kw_of (List.mem_append_right _ (List.mem_of_getElem? (i := 383) (by decide +kernel))) (by decide +kernel)
theorem kw_384 : (Jvm.Cond.selects "OpenDeal$Player" ({ cls := "OpenDeal$Player", name := "showSecrets", desc := "(I)V" } : Jvm.MethodName) ({ cls := "OpenDeal$Player", name := "showSecrets", desc := "(I)V" } : Jvm.MethodName)) ∈ kw := kw_of (List.mem_append_right _ (List.mem_of_getElem? (i := 384) (by decide +kernel))) (by decide +kernel)
set_option maxRecDepth 100000 in
theorem kw_385 : (Jvm.Cond.code ({ cls := "OpenDeal$Player", name := "showSecrets", desc := "(I)V" } : Jvm.MethodName) prog_4_method_10_code (5 : Nat) (Option.none : Option Jvm.ClassFile.FieldType)) ∈ kw := kw_of (List.mem_append_right _ (List.mem_of_getElem? (i := 385) rfl)) (by decide +kernel)
theorem kw_386 : (Jvm.Cond.methodLink "OpenDeal$Player" (72 : Nat) ({ cls := "OpenDeal$Numbers", name := "exponentAbove", desc := "(II)I" } : Jvm.MethodName)) ∈ kw := kw_of (List.mem_append_right _ (List.mem_of_getElem? (i := 386) (by decide +kernel))) (by decide +kernel)
theorem kw_387 : (Jvm.Cond.methodLink "OpenDeal$Player" (81 : Nat) ({ cls := "OpenDeal$Secrets", name := "keep", desc := "(IJJ)V" } : Jvm.MethodName)) ∈ kw := kw_of (List.mem_append_right _ (List.mem_of_getElem? (i := 387) (by decide +kernel))) (by decide +kernel)
theorem kw_388 : (Jvm.Cond.methodLink "OpenDeal" (210 : Nat) ({ cls := "OpenDeal", name := "allShown", desc := "()Z" } : Jvm.MethodName)) ∈ kw := kw_of (List.mem_append_right _ (List.mem_of_getElem? (i := 388) (by decide +kernel))) (by decide +kernel)
theorem kw_390 : (Jvm.Cond.instanceMethod ({ cls := "OpenDeal", name := "allShown", desc := "()Z" } : Jvm.MethodName)) ∈ kw := kw_of (List.mem_append_right _ (List.mem_of_getElem? (i := 390) (by decide +kernel))) (by decide +kernel)
set_option maxRecDepth 100000 in
theorem kw_391 : (Jvm.Cond.code ({ cls := "OpenDeal", name := "allShown", desc := "()Z" } : Jvm.MethodName) prog_1_method_25_code (2 : Nat) (Option.some Jvm.ClassFile.FieldType.boolean)) ∈ kw := kw_of (List.mem_append_right _ (List.mem_of_getElem? (i := 391) rfl)) (by decide +kernel)
theorem kw_392 : (Jvm.Cond.methodLink "OpenDeal" (213 : Nat) ({ cls := "OpenDeal", name := "reckonAudit", desc := "()I" } : Jvm.MethodName)) ∈ kw := kw_of (List.mem_append_right _ (List.mem_of_getElem? (i := 392) (by decide +kernel))) (by decide +kernel)
theorem kw_394 : (Jvm.Cond.instanceMethod ({ cls := "OpenDeal", name := "reckonAudit", desc := "()I" } : Jvm.MethodName)) ∈ kw := kw_of (List.mem_append_right _ (List.mem_of_getElem? (i := 394) (by decide +kernel))) (by decide +kernel)
set_option maxRecDepth 100000 in
theorem kw_395 : (Jvm.Cond.code ({ cls := "OpenDeal", name := "reckonAudit", desc := "()I" } : Jvm.MethodName) prog_1_method_44_code (3 : Nat) (Option.some Jvm.ClassFile.FieldType.int)) ∈ kw := kw_of (List.mem_append_right _ (List.mem_of_getElem? (i := 395) rfl)) (by decide +kernel)
theorem kw_396 : (Jvm.Cond.methodLink "OpenDeal" (278 : Nat) ({ cls := "OpenDeal", name := "isSameDeck", desc := "([I[I)Z" } : Jvm.MethodName)) ∈ kw := kw_of (List.mem_append_right _ (List.mem_of_getElem? (i := 396) (by decide +kernel))) (by decide +kernel)
theorem kw_397 : (Jvm.Cond.static ({ cls := "OpenDeal", name := "isSameDeck", desc := "([I[I)Z" } : Jvm.MethodName)) ∈ kw := kw_of (List.mem_append_right _ (List.mem_of_getElem? (i := 397) (by decide +kernel))) (by decide +kernel)
set_option maxRecDepth 100000 in
theorem kw_398 : (Jvm.Cond.code ({ cls := "OpenDeal", name := "isSameDeck", desc := "([I[I)Z" } : Jvm.MethodName) prog_1_method_45_code (3 : Nat) (Option.some Jvm.ClassFile.FieldType.boolean)) ∈ kw := kw_of (List.mem_append_right _ (List.mem_of_getElem? (i := 398) rfl)) (by decide +kernel)
theorem kw_399 : (Jvm.Cond.methodLink "OpenDeal" (282 : Nat) ({ cls := "OpenDeal$Player", name := "gaveWrong", desc := "(I)Z" } : Jvm.MethodName)) ∈ kw := kw_of (List.mem_append_right _ (List.mem_of_getElem? (i := 399) (by decide +kernel))) (by decide +kernel)
theorem kw_400 : (Jvm.Cond.instanceMethod ({ cls := "OpenDeal$Player", name := "gaveWrong", desc := "(I)Z" } : Jvm.MethodName)) ∈ kw := kw_of (List.mem_append_right _ (List.mem_of_getElem? (i := 400) (by decide +kernel))) (by decide +kernel)
theorem kw_401 : (Jvm.Cond.selects "OpenDeal$Player" ({ cls := "OpenDeal$Player", name := "gaveWrong", desc := "(I)Z" } : Jvm.MethodName) ({ cls := "OpenDeal$Player", name := "gaveWrong", desc := "(I)Z" } : Jvm.MethodName)) ∈ kw := kw_of (List.mem_append_right _ (List.mem_of_getElem? (i := 401) (by decide +kernel))) (by decide +kernel)
set_option maxRecDepth 100000 in
theorem kw_402 : (Jvm.Cond.code ({ cls := "OpenDeal$Player", name := "gaveWrong", desc := "(I)Z" } : Jvm.MethodName) prog_4_method_7_code (2 : Nat) (Option.some Jvm.ClassFile.FieldType.boolean)) ∈ kw := kw_of (List.mem_append_right _ (List.mem_of_getElem? (i := 402) rfl)) (by decide +kernel)
theorem kw_403 : (Jvm.Cond.methodLink "OpenDeal$Player" (61 : Nat) ({ cls := "OpenDeal$Player", name := "hasGiven", desc := "(I)Z" } : Jvm.MethodName)) ∈ kw := kw_of (List.mem_append_right _ (List.mem_of_getElem? (i := 403) (by decide +kernel))) (by decide +kernel)
theorem kw_404 : (Jvm.Cond.methodLink "OpenDealLaw" (105 : Nat) ({ cls := "OpenDeal", name := "cheat", desc := "(III)Z" } : Jvm.MethodName)) ∈ kw := kw_of (List.mem_append_right _ (List.mem_of_getElem? (i := 404) (by decide +kernel))) (by decide +kernel)
theorem kw_405 : (Jvm.Cond.instanceMethod ({ cls := "OpenDeal", name := "cheat", desc := "(III)Z" } : Jvm.MethodName)) ∈ kw := kw_of (List.mem_append_right _ (List.mem_of_getElem? (i := 405) (by decide +kernel))) (by decide +kernel)
theorem kw_406 : (Jvm.Cond.selects "OpenDeal" ({ cls := "OpenDeal", name := "cheat", desc := "(III)Z" } : Jvm.MethodName) ({ cls := "OpenDeal", name := "cheat", desc := "(III)Z" } : Jvm.MethodName)) ∈ kw := kw_of (List.mem_append_right _ (List.mem_of_getElem? (i := 406) (by decide +kernel))) (by decide +kernel)
set_option maxRecDepth 100000 in
theorem kw_407 : (Jvm.Cond.code ({ cls := "OpenDeal", name := "cheat", desc := "(III)Z" } : Jvm.MethodName) prog_1_method_18_code (4 : Nat) (Option.some Jvm.ClassFile.FieldType.boolean)) ∈ kw := kw_of (List.mem_append_right _ (List.mem_of_getElem? (i := 407) rfl)) (by decide +kernel)
theorem kw_408 : (Jvm.Cond.methodLink "OpenDealLaw" (109 : Nat) ({ cls := "OpenDeal", name := "state", desc := "(I)I" } : Jvm.MethodName)) ∈ kw := kw_of (List.mem_append_right _ (List.mem_of_getElem? (i := 408) (by decide +kernel))) (by decide +kernel)
theorem kw_409 : (Jvm.Cond.instanceMethod ({ cls := "OpenDeal", name := "state", desc := "(I)I" } : Jvm.MethodName)) ∈ kw := kw_of (List.mem_append_right _ (List.mem_of_getElem? (i := 409) (by decide +kernel))) (by decide +kernel)
theorem kw_410 : (Jvm.Cond.selects "OpenDeal" ({ cls := "OpenDeal", name := "state", desc := "(I)I" } : Jvm.MethodName) ({ cls := "OpenDeal", name := "state", desc := "(I)I" } : Jvm.MethodName)) ∈ kw := kw_of (List.mem_append_right _ (List.mem_of_getElem? (i := 410) (by decide +kernel))) (by decide +kernel)
set_option maxRecDepth 100000 in
theorem kw_411 : (Jvm.Cond.code ({ cls := "OpenDeal", name := "state", desc := "(I)I" } : Jvm.MethodName) prog_1_method_19_code (2 : Nat) (Option.some Jvm.ClassFile.FieldType.int)) ∈ kw := kw_of (List.mem_append_right _ (List.mem_of_getElem? (i := 411) rfl)) (by decide +kernel)
theorem kw_412 : (Jvm.Cond.methodLink "OpenDeal" (228 : Nat) ({ cls := "OpenDeal", name := "sumInHand", desc := "()I" } : Jvm.MethodName)) ∈ kw := kw_of (List.mem_append_right _ (List.mem_of_getElem? (i := 412) (by decide +kernel))) (by decide +kernel)
theorem kw_414 : (Jvm.Cond.instanceMethod ({ cls := "OpenDeal", name := "sumInHand", desc := "()I" } : Jvm.MethodName)) ∈ kw := kw_of (List.mem_append_right _ (List.mem_of_getElem? (i := 414) (by decide +kernel))) (by decide +kernel)
set_option maxRecDepth 100000 in
theorem kw_415 : (Jvm.Cond.code ({ cls := "OpenDeal", name := "sumInHand", desc := "()I" } : Jvm.MethodName) prog_1_method_38_code (3 : Nat) (Option.some Jvm.ClassFile.FieldType.int)) ∈ kw := kw_of (List.mem_append_right _ (List.mem_of_getElem? (i := 415) rfl)) (by decide +kernel)
theorem kw_416 : (Jvm.Cond.methodLink "OpenDealLaw" (113 : Nat) ({ cls := "OpenDeal", name := "player", desc := "(II)I" } : Jvm.MethodName)) ∈ kw := kw_of (List.mem_append_right _ (List.mem_of_getElem? (i := 416) (by decide +kernel))) (by decide +kernel)
theorem kw_417 : (Jvm.Cond.instanceMethod ({ cls := "OpenDeal", name := "player", desc := "(II)I" } : Jvm.MethodName)) ∈ kw := kw_of (List.mem_append_right _ (List.mem_of_getElem? (i := 417) (by decide +kernel))) (by decide +kernel)
theorem kw_418 : (Jvm.Cond.selects "OpenDeal" ({ cls := "OpenDeal", name := "player", desc := "(II)I" } : Jvm.MethodName) ({ cls := "OpenDeal", name := "player", desc := "(II)I" } : Jvm.MethodName)) ∈ kw := kw_of (List.mem_append_right _ (List.mem_of_getElem? (i := 418) (by decide +kernel))) (by decide +kernel)
set_option maxRecDepth 100000 in
theorem kw_419 : (Jvm.Cond.code ({ cls := "OpenDeal", name := "player", desc := "(II)I" } : Jvm.MethodName) prog_1_method_20_code (4 : Nat) (Option.some Jvm.ClassFile.FieldType.int)) ∈ kw := kw_of (List.mem_append_right _ (List.mem_of_getElem? (i := 419) rfl)) (by decide +kernel)
theorem kw_420 : (Jvm.Cond.methodLink "OpenDeal" (234 : Nat) ({ cls := "OpenDeal$Player", name := "countGiven", desc := "()I" } : Jvm.MethodName)) ∈ kw := kw_of (List.mem_append_right _ (List.mem_of_getElem? (i := 420) (by decide +kernel))) (by decide +kernel)
theorem kw_421 : (Jvm.Cond.instanceMethod ({ cls := "OpenDeal$Player", name := "countGiven", desc := "()I" } : Jvm.MethodName)) ∈ kw := kw_of (List.mem_append_right _ (List.mem_of_getElem? (i := 421) (by decide +kernel))) (by decide +kernel)
theorem kw_422 : (Jvm.Cond.selects "OpenDeal$Player" ({ cls := "OpenDeal$Player", name := "countGiven", desc := "()I" } : Jvm.MethodName) ({ cls := "OpenDeal$Player", name := "countGiven", desc := "()I" } : Jvm.MethodName)) ∈ kw := kw_of (List.mem_append_right _ (List.mem_of_getElem? (i := 422) (by decide +kernel))) (by decide +kernel)
set_option maxRecDepth 100000 in
theorem kw_423 : (Jvm.Cond.code ({ cls := "OpenDeal$Player", name := "countGiven", desc := "()I" } : Jvm.MethodName) prog_4_method_8_code (3 : Nat) (Option.some Jvm.ClassFile.FieldType.int)) ∈ kw := kw_of (List.mem_append_right _ (List.mem_of_getElem? (i := 423) rfl)) (by decide +kernel)
theorem kw_424 : (Jvm.Cond.methodLink "OpenDealLaw" (54 : Nat) ({ cls := "OpenDealLaw", name := "sealOf", desc := "(LOpenDeal;I[J)I" } : Jvm.MethodName)) ∈ kw := kw_of (List.mem_append_right _ (List.mem_of_getElem? (i := 424) (by decide +kernel))) (by decide +kernel)
theorem kw_425 : (Jvm.Cond.static ({ cls := "OpenDealLaw", name := "sealOf", desc := "(LOpenDeal;I[J)I" } : Jvm.MethodName)) ∈ kw := kw_of (List.mem_append_right _ (List.mem_of_getElem? (i := 425) (by decide +kernel))) (by decide +kernel)
theorem kw_427 : (Jvm.Cond.classLink "OpenDealLaw" (13 : Nat) "java/lang/IndexOutOfBoundsException") ∈ kw := kw_of (List.mem_append_right _ (List.mem_of_getElem? (i := 427) (by decide +kernel))) (by decide +kernel)
theorem kw_428 : (Jvm.Cond.methodLink "OpenDealLaw" (7 : Nat) ({ cls := "OpenDeal", name := "sealOf", desc := "(I)J" } : Jvm.MethodName)) ∈ kw := kw_of (List.mem_append_right _ (List.mem_of_getElem? (i := 428) (by decide +kernel))) (by decide +kernel)
theorem kw_429 : (Jvm.Cond.instanceMethod ({ cls := "OpenDeal", name := "sealOf", desc := "(I)J" } : Jvm.MethodName)) ∈ kw := kw_of (List.mem_append_right _ (List.mem_of_getElem? (i := 429) (by decide +kernel))) (by decide +kernel)
theorem kw_430 : (Jvm.Cond.selects "OpenDeal" ({ cls := "OpenDeal", name := "sealOf", desc := "(I)J" } : Jvm.MethodName) ({ cls := "OpenDeal", name := "sealOf", desc := "(I)J" } : Jvm.MethodName)) ∈ kw := kw_of (List.mem_append_right _ (List.mem_of_getElem? (i := 430) (by decide +kernel))) (by decide +kernel)
set_option maxRecDepth 100000 in
theorem kw_431 : (Jvm.Cond.code ({ cls := "OpenDeal", name := "sealOf", desc := "(I)J" } : Jvm.MethodName) prog_1_method_7_code (2 : Nat) (Option.some Jvm.ClassFile.FieldType.long)) ∈ kw := kw_of (List.mem_append_right _ (List.mem_of_getElem? (i := 431) rfl)) (by decide +kernel)
theorem kw_432 : (Jvm.Cond.classLink "OpenDeal" (115 : Nat) "java/lang/IndexOutOfBoundsException") ∈ kw := kw_of (List.mem_append_right _ (List.mem_of_getElem? (i := 432) (by decide +kernel))) (by decide +kernel)
theorem kw_433 : (Jvm.Cond.instantiable "java/lang/IndexOutOfBoundsException" (6 : Nat)) ∈ kw := kw_of (List.mem_append_right _ (List.mem_of_getElem? (i := 433) (by decide +kernel))) (by decide +kernel)
theorem kw_441 : (Jvm.Cond.selects "java/lang/IndexOutOfBoundsException" ({ cls := "java/lang/Throwable", name := "fillInStackTrace", desc := "(I)Ljava/lang/Throwable;" } : Jvm.MethodName) ({ cls := "java/lang/Throwable", name := "fillInStackTrace", desc := "(I)Ljava/lang/Throwable;" } : Jvm.MethodName)) ∈ kw := kw_of (List.mem_append_right _ (List.mem_of_getElem? (i := 441) (by decide +kernel))) (by decide +kernel)
theorem kw_442 : (Jvm.Cond.selects "java/lang/IndexOutOfBoundsException" ({ cls := "java/lang/Throwable", name := "fillInStackTrace", desc := "()Ljava/lang/Throwable;" } : Jvm.MethodName) ({ cls := "java/lang/Throwable", name := "fillInStackTrace", desc := "()Ljava/lang/Throwable;" } : Jvm.MethodName)) ∈ kw := kw_of (List.mem_append_right _ (List.mem_of_getElem? (i := 442) (by decide +kernel))) (by decide +kernel)
theorem kw_443 : (Jvm.Cond.lays "java/lang/IndexOutOfBoundsException" "java/lang/Throwable" "cause" "Ljava/lang/Throwable;") ∈ kw := kw_of (List.mem_append_right _ (List.mem_of_getElem? (i := 443) (by decide +kernel))) (by decide +kernel)
theorem kw_444 : (Jvm.Cond.lays "java/lang/Throwable" "java/lang/Throwable" "cause" "Ljava/lang/Throwable;") ∈ kw := kw_of (List.mem_append_right _ (List.mem_of_getElem? (i := 444) (by decide +kernel))) (by decide +kernel)
theorem kw_445 : (Jvm.Cond.lays "java/lang/IndexOutOfBoundsException" "java/lang/Throwable" "stackTrace" "[Ljava/lang/StackTraceElement;") ∈ kw := kw_of (List.mem_append_right _ (List.mem_of_getElem? (i := 445) (by decide +kernel))) (by decide +kernel)
theorem kw_446 : (Jvm.Cond.lays "java/lang/Throwable" "java/lang/Throwable" "stackTrace" "[Ljava/lang/StackTraceElement;") ∈ kw := kw_of (List.mem_append_right _ (List.mem_of_getElem? (i := 446) (by decide +kernel))) (by decide +kernel)
theorem kw_447 : (Jvm.Cond.lays "java/lang/IndexOutOfBoundsException" "java/lang/Throwable" "suppressedExceptions" "Ljava/util/List;") ∈ kw := kw_of (List.mem_append_right _ (List.mem_of_getElem? (i := 447) (by decide +kernel))) (by decide +kernel)
theorem kw_448 : (Jvm.Cond.lays "java/lang/Throwable" "java/lang/Throwable" "suppressedExceptions" "Ljava/util/List;") ∈ kw := kw_of (List.mem_append_right _ (List.mem_of_getElem? (i := 448) (by decide +kernel))) (by decide +kernel)
theorem kw_449 : (Jvm.Cond.lays "java/lang/IndexOutOfBoundsException" "java/lang/Throwable" "detailMessage" "Ljava/lang/String;") ∈ kw := kw_of (List.mem_append_right _ (List.mem_of_getElem? (i := 449) (by decide +kernel))) (by decide +kernel)
theorem kw_450 : (Jvm.Cond.lays "java/lang/Throwable" "java/lang/Throwable" "detailMessage" "Ljava/lang/String;") ∈ kw := kw_of (List.mem_append_right _ (List.mem_of_getElem? (i := 450) (by decide +kernel))) (by decide +kernel)
theorem kw_451 : (Jvm.Cond.lays "java/lang/IndexOutOfBoundsException" "java/lang/Throwable" "backtrace" "Ljava/lang/Object;") ∈ kw := kw_of (List.mem_append_right _ (List.mem_of_getElem? (i := 451) (by decide +kernel))) (by decide +kernel)
theorem kw_452 : (Jvm.Cond.lays "java/lang/Throwable" "java/lang/Throwable" "backtrace" "Ljava/lang/Object;") ∈ kw := kw_of (List.mem_append_right _ (List.mem_of_getElem? (i := 452) (by decide +kernel))) (by decide +kernel)
theorem kw_453 : (Jvm.Cond.fieldLink "java/lang/Throwable" (198 : Nat) "java/lang/Throwable" "backtrace" "Ljava/lang/Object;") ∈ kw := kw_of (List.mem_append_right _ (List.mem_of_getElem? (i := 453) (by decide +kernel))) (by decide +kernel)
theorem kw_454 : (Jvm.Cond.superclass "java/lang/Throwable" "java/lang/Object") ∈ kw := kw_of (List.mem_append_right _ (List.mem_of_getElem? (i := 454) (by decide +kernel))) (by decide +kernel)
theorem kw_455 : (Jvm.Cond.instanceMethod ({ cls := "java/lang/Throwable", name := "<init>", desc := "()V" } : Jvm.MethodName)) ∈ kw := kw_of (List.mem_append_right _ (List.mem_of_getElem? (i := 455) (by decide +kernel))) (by decide +kernel)
set_option maxRecDepth 100000 in
theorem kw_456 : (Jvm.Cond.code ({ cls := "java/lang/Throwable", name := "<init>", desc := "()V" } : Jvm.MethodName) prog_14_method_1_code (1 : Nat) (Option.none : Option Jvm.ClassFile.FieldType)) ∈ kw := kw_of (List.mem_append_right _ (List.mem_of_getElem? (i := 456) rfl)) (by decide +kernel)
theorem kw_457 : (Jvm.Cond.methodLink "java/lang/Throwable" (1 : Nat) ({ cls := "java/lang/Object", name := "<init>", desc := "()V" } : Jvm.MethodName)) ∈ kw := kw_of (List.mem_append_right _ (List.mem_of_getElem? (i := 457) (by decide +kernel))) (by decide +kernel)
theorem kw_458 : (Jvm.Cond.fieldLink "java/lang/Throwable" (13 : Nat) "java/lang/Throwable" "UNASSIGNED_STACK" "[Ljava/lang/StackTraceElement;") ∈ kw := kw_of (List.mem_append_right _ (List.mem_of_getElem? (i := 458) (by decide +kernel))) (by decide +kernel)
theorem kw_460 : (Jvm.Cond.fieldLink "java/lang/Throwable" (20 : Nat) "java/lang/Throwable" "SUPPRESSED_SENTINEL" "Ljava/util/List;") ∈ kw := kw_of (List.mem_append_right _ (List.mem_of_getElem? (i := 460) (by decide +kernel))) (by decide +kernel)
theorem kw_462 : (Jvm.Cond.methodLink "java/lang/Throwable" (27 : Nat) ({ cls := "java/lang/Throwable", name := "fillInStackTrace", desc := "()Ljava/lang/Throwable;" } : Jvm.MethodName)) ∈ kw := kw_of (List.mem_append_right _ (List.mem_of_getElem? (i := 462) (by decide +kernel))) (by decide +kernel)
theorem kw_463 : (Jvm.Cond.instanceMethod ({ cls := "java/lang/Throwable", name := "fillInStackTrace", desc := "()Ljava/lang/Throwable;" } : Jvm.MethodName)) ∈ kw := kw_of (List.mem_append_right _ (List.mem_of_getElem? (i := 463) (by decide +kernel))) (by decide +kernel)
theorem kw_465 : (Jvm.Cond.selects "java/lang/IllegalStateException" ({ cls := "java/lang/Throwable", name := "fillInStackTrace", desc := "()Ljava/lang/Throwable;" } : Jvm.MethodName) ({ cls := "java/lang/Throwable", name := "fillInStackTrace", desc := "()Ljava/lang/Throwable;" } : Jvm.MethodName)) ∈ kw := kw_of (List.mem_append_right _ (List.mem_of_getElem? (i := 465) (by decide +kernel))) (by decide +kernel)
theorem kw_467 : (Jvm.Cond.methodLink "java/lang/Throwable" (202 : Nat) ({ cls := "java/lang/Throwable", name := "fillInStackTrace", desc := "(I)Ljava/lang/Throwable;" } : Jvm.MethodName)) ∈ kw := kw_of (List.mem_append_right _ (List.mem_of_getElem? (i := 467) (by decide +kernel))) (by decide +kernel)
theorem kw_469 : (Jvm.Cond.instanceMethod ({ cls := "java/lang/Throwable", name := "fillInStackTrace", desc := "(I)Ljava/lang/Throwable;" } : Jvm.MethodName)) ∈ kw := kw_of (List.mem_append_right _ (List.mem_of_getElem? (i := 469) (by decide +kernel))) (by decide +kernel)
theorem kw_470 : (Jvm.Cond.instantiable "java/lang/Throwable" (6 : Nat)) ∈ kw := kw_of (List.mem_append_right _ (List.mem_of_getElem? (i := 470) (by decide +kernel))) (by decide +kernel)
theorem kw_473 : (Jvm.Cond.methodLink "OpenDeal" (119 : Nat) ({ cls := "java/lang/IndexOutOfBoundsException", name := "<init>", desc := "(Ljava/lang/String;)V" } : Jvm.MethodName)) ∈ kw := kw_of (List.mem_append_right _ (List.mem_of_getElem? (i := 473) (by decide +kernel))) (by decide +kernel)
theorem kw_474 : (Jvm.Cond.instanceMethod ({ cls := "java/lang/IndexOutOfBoundsException", name := "<init>", desc := "(Ljava/lang/String;)V" } : Jvm.MethodName)) ∈ kw := kw_of (List.mem_append_right _ (List.mem_of_getElem? (i := 474) (by decide +kernel))) (by decide +kernel)
set_option maxRecDepth 100000 in
theorem kw_475 : (Jvm.Cond.code ({ cls := "java/lang/IndexOutOfBoundsException", name := "<init>", desc := "(Ljava/lang/String;)V" } : Jvm.MethodName) prog_10_method_2_code (2 : Nat) (Option.none : Option Jvm.ClassFile.FieldType)) ∈ kw := kw_of (List.mem_append_right _ (List.mem_of_getElem? (i := 475) rfl)) (by decide +kernel)
theorem kw_476 : (Jvm.Cond.methodLink "java/lang/IndexOutOfBoundsException" (7 : Nat) ({ cls := "java/lang/RuntimeException", name := "<init>", desc := "(Ljava/lang/String;)V" } : Jvm.MethodName)) ∈ kw := kw_of (List.mem_append_right _ (List.mem_of_getElem? (i := 476) (by decide +kernel))) (by decide +kernel)
theorem kw_477 : (Jvm.Cond.instanceMethod ({ cls := "java/lang/RuntimeException", name := "<init>", desc := "(Ljava/lang/String;)V" } : Jvm.MethodName)) ∈ kw := kw_of (List.mem_append_right _ (List.mem_of_getElem? (i := 477) (by decide +kernel))) (by decide +kernel)
set_option maxRecDepth 100000 in
theorem kw_478 : (Jvm.Cond.code ({ cls := "java/lang/RuntimeException", name := "<init>", desc := "(Ljava/lang/String;)V" } : Jvm.MethodName) prog_12_method_2_code (2 : Nat) (Option.none : Option Jvm.ClassFile.FieldType)) ∈ kw := kw_of (List.mem_append_right _ (List.mem_of_getElem? (i := 478) rfl)) (by decide +kernel)
theorem kw_479 : (Jvm.Cond.methodLink "java/lang/RuntimeException" (7 : Nat) ({ cls := "java/lang/Exception", name := "<init>", desc := "(Ljava/lang/String;)V" } : Jvm.MethodName)) ∈ kw := kw_of (List.mem_append_right _ (List.mem_of_getElem? (i := 479) (by decide +kernel))) (by decide +kernel)
theorem kw_480 : (Jvm.Cond.instanceMethod ({ cls := "java/lang/Exception", name := "<init>", desc := "(Ljava/lang/String;)V" } : Jvm.MethodName)) ∈ kw := kw_of (List.mem_append_right _ (List.mem_of_getElem? (i := 480) (by decide +kernel))) (by decide +kernel)
set_option maxRecDepth 100000 in
theorem kw_481 : (Jvm.Cond.code ({ cls := "java/lang/Exception", name := "<init>", desc := "(Ljava/lang/String;)V" } : Jvm.MethodName) prog_8_method_2_code (2 : Nat) (Option.none : Option Jvm.ClassFile.FieldType)) ∈ kw := kw_of (List.mem_append_right _ (List.mem_of_getElem? (i := 481) rfl)) (by decide +kernel)
theorem kw_482 : (Jvm.Cond.methodLink "java/lang/Exception" (7 : Nat) ({ cls := "java/lang/Throwable", name := "<init>", desc := "(Ljava/lang/String;)V" } : Jvm.MethodName)) ∈ kw := kw_of (List.mem_append_right _ (List.mem_of_getElem? (i := 482) (by decide +kernel))) (by decide +kernel)
theorem kw_483 : (Jvm.Cond.instanceMethod ({ cls := "java/lang/Throwable", name := "<init>", desc := "(Ljava/lang/String;)V" } : Jvm.MethodName)) ∈ kw := kw_of (List.mem_append_right _ (List.mem_of_getElem? (i := 483) (by decide +kernel))) (by decide +kernel)
set_option maxRecDepth 100000 in
theorem kw_484 : (Jvm.Cond.code ({ cls := "java/lang/Throwable", name := "<init>", desc := "(Ljava/lang/String;)V" } : Jvm.MethodName) prog_14_method_2_code (2 : Nat) (Option.none : Option Jvm.ClassFile.FieldType)) ∈ kw := kw_of (List.mem_append_right _ (List.mem_of_getElem? (i := 484) rfl)) (by decide +kernel)
theorem kw_486 : (Jvm.Cond.fieldLink "java/lang/Throwable" (31 : Nat) "java/lang/Throwable" "detailMessage" "Ljava/lang/String;") ∈ kw := kw_of (List.mem_append_right _ (List.mem_of_getElem? (i := 486) (by decide +kernel))) (by decide +kernel)
theorem kw_487 : (Jvm.Cond.fieldLink "java/lang/Throwable" (7 : Nat) "java/lang/Throwable" "cause" "Ljava/lang/Throwable;") ∈ kw := kw_of (List.mem_append_right _ (List.mem_of_getElem? (i := 487) (by decide +kernel))) (by decide +kernel)
theorem kw_488 : (Jvm.Cond.fieldLink "java/lang/Throwable" (17 : Nat) "java/lang/Throwable" "stackTrace" "[Ljava/lang/StackTraceElement;") ∈ kw := kw_of (List.mem_append_right _ (List.mem_of_getElem? (i := 488) (by decide +kernel))) (by decide +kernel)
theorem kw_489 : (Jvm.Cond.fieldLink "java/lang/Throwable" (24 : Nat) "java/lang/Throwable" "suppressedExceptions" "Ljava/util/List;") ∈ kw := kw_of (List.mem_append_right _ (List.mem_of_getElem? (i := 489) (by decide +kernel))) (by decide +kernel)
theorem kw_494 : (Jvm.Cond.lays "java/lang/IndexOutOfBoundsException" "java/lang/Throwable" "depth" "I") ∈ kw := kw_of (List.mem_append_right _ (List.mem_of_getElem? (i := 494) (by decide +kernel))) (by decide +kernel)
theorem kw_497 : (Jvm.Cond.superclass "java/lang/IndexOutOfBoundsException" "java/lang/RuntimeException") ∈ kw := kw_of (List.mem_append_right _ (List.mem_of_getElem? (i := 497) (by decide +kernel))) (by decide +kernel)
theorem kw_498 : (Jvm.Cond.arrayClass Jvm.ClassFile.FieldType.byte) ∈ kw := kw_of (List.mem_append_right _ (List.mem_of_getElem? (i := 498) (by decide +kernel))) (by decide +kernel)
theorem kw_499 : (Jvm.Cond.methodLink "OpenDealLaw" (67 : Nat) ({ cls := "OpenDealLaw", name := "laid", desc := "(LOpenDeal;I[J)I" } : Jvm.MethodName)) ∈ kw := kw_of (List.mem_append_right _ (List.mem_of_getElem? (i := 499) (by decide +kernel))) (by decide +kernel)
theorem kw_500 : (Jvm.Cond.static ({ cls := "OpenDealLaw", name := "laid", desc := "(LOpenDeal;I[J)I" } : Jvm.MethodName)) ∈ kw := kw_of (List.mem_append_right _ (List.mem_of_getElem? (i := 500) (by decide +kernel))) (by decide +kernel)
theorem kw_502 : (Jvm.Cond.methodLink "OpenDealLaw" (15 : Nat) ({ cls := "OpenDeal", name := "laid", desc := "(I)I" } : Jvm.MethodName)) ∈ kw := kw_of (List.mem_append_right _ (List.mem_of_getElem? (i := 502) (by decide +kernel))) (by decide +kernel)
theorem kw_503 : (Jvm.Cond.instanceMethod ({ cls := "OpenDeal", name := "laid", desc := "(I)I" } : Jvm.MethodName)) ∈ kw := kw_of (List.mem_append_right _ (List.mem_of_getElem? (i := 503) (by decide +kernel))) (by decide +kernel)
theorem kw_504 : (Jvm.Cond.selects "OpenDeal" ({ cls := "OpenDeal", name := "laid", desc := "(I)I" } : Jvm.MethodName) ({ cls := "OpenDeal", name := "laid", desc := "(I)I" } : Jvm.MethodName)) ∈ kw := kw_of (List.mem_append_right _ (List.mem_of_getElem? (i := 504) (by decide +kernel))) (by decide +kernel)
set_option maxRecDepth 100000 in
theorem kw_505 : (Jvm.Cond.code ({ cls := "OpenDeal", name := "laid", desc := "(I)I" } : Jvm.MethodName) prog_1_method_9_code (2 : Nat) (Option.some Jvm.ClassFile.FieldType.int)) ∈ kw := kw_of (List.mem_append_right _ (List.mem_of_getElem? (i := 505) rfl)) (by decide +kernel)
theorem kw_507 : (Jvm.Cond.methodLink "OpenDealLaw" (101 : Nat) ({ cls := "OpenDealLaw", name := "audit", desc := "(LOpenDeal;[J)I" } : Jvm.MethodName)) ∈ kw := kw_of (List.mem_append_right _ (List.mem_of_getElem? (i := 507) (by decide +kernel))) (by decide +kernel)
theorem kw_508 : (Jvm.Cond.static ({ cls := "OpenDealLaw", name := "audit", desc := "(LOpenDeal;[J)I" } : Jvm.MethodName)) ∈ kw := kw_of (List.mem_append_right _ (List.mem_of_getElem? (i := 508) (by decide +kernel))) (by decide +kernel)
theorem kw_510 : (Jvm.Cond.classLink "OpenDealLaw" (23 : Nat) "java/lang/IllegalStateException") ∈ kw := kw_of (List.mem_append_right _ (List.mem_of_getElem? (i := 510) (by decide +kernel))) (by decide +kernel)
theorem kw_511 : (Jvm.Cond.methodLink "OpenDealLaw" (19 : Nat) ({ cls := "OpenDeal", name := "audit", desc := "()I" } : Jvm.MethodName)) ∈ kw := kw_of (List.mem_append_right _ (List.mem_of_getElem? (i := 511) (by decide +kernel))) (by decide +kernel)
theorem kw_512 : (Jvm.Cond.instanceMethod ({ cls := "OpenDeal", name := "audit", desc := "()I" } : Jvm.MethodName)) ∈ kw := kw_of (List.mem_append_right _ (List.mem_of_getElem? (i := 512) (by decide +kernel))) (by decide +kernel)
theorem kw_513 : (Jvm.Cond.selects "OpenDeal" ({ cls := "OpenDeal", name := "audit", desc := "()I" } : Jvm.MethodName) ({ cls := "OpenDeal", name := "audit", desc := "()I" } : Jvm.MethodName)) ∈ kw := kw_of (List.mem_append_right _ (List.mem_of_getElem? (i := 513) (by decide +kernel))) (by decide +kernel)
set_option maxRecDepth 100000 in
theorem kw_514 : (Jvm.Cond.code ({ cls := "OpenDeal", name := "audit", desc := "()I" } : Jvm.MethodName) prog_1_method_17_code (1 : Nat) (Option.some Jvm.ClassFile.FieldType.int)) ∈ kw := kw_of (List.mem_append_right _ (List.mem_of_getElem? (i := 514) rfl)) (by decide +kernel)
theorem kw_515 : (Jvm.Cond.classLink "OpenDeal" (219 : Nat) "java/lang/IllegalStateException") ∈ kw := kw_of (List.mem_append_right _ (List.mem_of_getElem? (i := 515) (by decide +kernel))) (by decide +kernel)
theorem kw_516 : (Jvm.Cond.instantiable "java/lang/IllegalStateException" (6 : Nat)) ∈ kw := kw_of (List.mem_append_right _ (List.mem_of_getElem? (i := 516) (by decide +kernel))) (by decide +kernel)
theorem kw_518 : (Jvm.Cond.selects "java/lang/IllegalStateException" ({ cls := "java/lang/Throwable", name := "fillInStackTrace", desc := "(I)Ljava/lang/Throwable;" } : Jvm.MethodName) ({ cls := "java/lang/Throwable", name := "fillInStackTrace", desc := "(I)Ljava/lang/Throwable;" } : Jvm.MethodName)) ∈ kw := kw_of (List.mem_append_right _ (List.mem_of_getElem? (i := 518) (by decide +kernel))) (by decide +kernel)
theorem kw_519 : (Jvm.Cond.lays "java/lang/IllegalStateException" "java/lang/Throwable" "cause" "Ljava/lang/Throwable;") ∈ kw := kw_of (List.mem_append_right _ (List.mem_of_getElem? (i := 519) (by decide +kernel))) (by decide +kernel)
theorem kw_520 : (Jvm.Cond.lays "java/lang/IllegalStateException" "java/lang/Throwable" "stackTrace" "[Ljava/lang/StackTraceElement;") ∈ kw := kw_of (List.mem_append_right _ (List.mem_of_getElem? (i := 520) (by decide +kernel))) (by decide +kernel)
theorem kw_521 : (Jvm.Cond.lays "java/lang/IllegalStateException" "java/lang/Throwable" "suppressedExceptions" "Ljava/util/List;") ∈ kw := kw_of (List.mem_append_right _ (List.mem_of_getElem? (i := 521) (by decide +kernel))) (by decide +kernel)
theorem kw_522 : (Jvm.Cond.lays "java/lang/IllegalStateException" "java/lang/Throwable" "detailMessage" "Ljava/lang/String;") ∈ kw := kw_of (List.mem_append_right _ (List.mem_of_getElem? (i := 522) (by decide +kernel))) (by decide +kernel)
theorem kw_523 : (Jvm.Cond.lays "java/lang/IllegalStateException" "java/lang/Throwable" "backtrace" "Ljava/lang/Object;") ∈ kw := kw_of (List.mem_append_right _ (List.mem_of_getElem? (i := 523) (by decide +kernel))) (by decide +kernel)
theorem kw_525 : (Jvm.Cond.methodLink "OpenDeal" (223 : Nat) ({ cls := "java/lang/IllegalStateException", name := "<init>", desc := "(Ljava/lang/String;)V" } : Jvm.MethodName)) ∈ kw := kw_of (List.mem_append_right _ (List.mem_of_getElem? (i := 525) (by decide +kernel))) (by decide +kernel)
theorem kw_526 : (Jvm.Cond.instanceMethod ({ cls := "java/lang/IllegalStateException", name := "<init>", desc := "(Ljava/lang/String;)V" } : Jvm.MethodName)) ∈ kw := kw_of (List.mem_append_right _ (List.mem_of_getElem? (i := 526) (by decide +kernel))) (by decide +kernel)
set_option maxRecDepth 100000 in
theorem kw_527 : (Jvm.Cond.code ({ cls := "java/lang/IllegalStateException", name := "<init>", desc := "(Ljava/lang/String;)V" } : Jvm.MethodName) prog_9_method_2_code (2 : Nat) (Option.none : Option Jvm.ClassFile.FieldType)) ∈ kw := kw_of (List.mem_append_right _ (List.mem_of_getElem? (i := 527) rfl)) (by decide +kernel)
theorem kw_528 : (Jvm.Cond.methodLink "java/lang/IllegalStateException" (7 : Nat) ({ cls := "java/lang/RuntimeException", name := "<init>", desc := "(Ljava/lang/String;)V" } : Jvm.MethodName)) ∈ kw := kw_of (List.mem_append_right _ (List.mem_of_getElem? (i := 528) (by decide +kernel))) (by decide +kernel)
theorem kw_529 : (Jvm.Cond.lays "java/lang/IllegalStateException" "java/lang/Throwable" "depth" "I") ∈ kw := kw_of (List.mem_append_right _ (List.mem_of_getElem? (i := 529) (by decide +kernel))) (by decide +kernel)
theorem kw_530 : (Jvm.Cond.superclass "java/lang/IllegalStateException" "java/lang/RuntimeException") ∈ kw := kw_of (List.mem_append_right _ (List.mem_of_getElem? (i := 530) (by decide +kernel))) (by decide +kernel)
theorem kw_531 : (Jvm.Cond.classLink "OpenDealLaw" (26 : Nat) "OpenDealModel") ∈ kw := kw_of (List.mem_append_right _ (List.mem_of_getElem? (i := 531) (by decide +kernel))) (by decide +kernel)
theorem kw_532 : (Jvm.Cond.instantiable "OpenDealModel" (32 : Nat)) ∈ kw := kw_of (List.mem_append_right _ (List.mem_of_getElem? (i := 532) (by decide +kernel))) (by decide +kernel)
theorem kw_533 : (Jvm.Cond.methodLink "OpenDealLaw" (28 : Nat) ({ cls := "OpenDealModel", name := "<init>", desc := "()V" } : Jvm.MethodName)) ∈ kw := kw_of (List.mem_append_right _ (List.mem_of_getElem? (i := 533) (by decide +kernel))) (by decide +kernel)
theorem kw_534 : (Jvm.Cond.instanceMethod ({ cls := "OpenDealModel", name := "<init>", desc := "()V" } : Jvm.MethodName)) ∈ kw := kw_of (List.mem_append_right _ (List.mem_of_getElem? (i := 534) (by decide +kernel))) (by decide +kernel)
set_option maxRecDepth 100000 in
theorem kw_535 : (Jvm.Cond.code ({ cls := "OpenDealModel", name := "<init>", desc := "()V" } : Jvm.MethodName) prog_7_method_1_code (1 : Nat) (Option.none : Option Jvm.ClassFile.FieldType)) ∈ kw := kw_of (List.mem_append_right _ (List.mem_of_getElem? (i := 535) rfl)) (by decide +kernel)
theorem kw_536 : (Jvm.Cond.methodLink "OpenDealModel" (1 : Nat) ({ cls := "java/lang/Object", name := "<init>", desc := "()V" } : Jvm.MethodName)) ∈ kw := kw_of (List.mem_append_right _ (List.mem_of_getElem? (i := 536) (by decide +kernel))) (by decide +kernel)
theorem kw_537 : (Jvm.Cond.fieldLink "OpenDealModel" (85 : Nat) "OpenDealModel" "thrown" "I") ∈ kw := kw_of (List.mem_append_right _ (List.mem_of_getElem? (i := 537) (by decide +kernel))) (by decide +kernel)
theorem kw_538 : (Jvm.Cond.fieldLink "OpenDealModel" (88 : Nat) "OpenDealModel" "prime" "I") ∈ kw := kw_of (List.mem_append_right _ (List.mem_of_getElem? (i := 538) (by decide +kernel))) (by decide +kernel)
theorem kw_539 : (Jvm.Cond.fieldLink "OpenDealModel" (96 : Nat) "OpenDealModel" "half" "I") ∈ kw := kw_of (List.mem_append_right _ (List.mem_of_getElem? (i := 539) (by decide +kernel))) (by decide +kernel)
theorem kw_540 : (Jvm.Cond.fieldLink "OpenDealModel" (105 : Nat) "OpenDealModel" "players" "I") ∈ kw := kw_of (List.mem_append_right _ (List.mem_of_getElem? (i := 540) (by decide +kernel))) (by decide +kernel)
theorem kw_541 : (Jvm.Cond.fieldLink "OpenDealModel" (108 : Nat) "OpenDealModel" "phase" "I") ∈ kw := kw_of (List.mem_append_right _ (List.mem_of_getElem? (i := 541) (by decide +kernel))) (by decide +kernel)
theorem kw_542 : (Jvm.Cond.fieldLink "OpenDealModel" (7 : Nat) "OpenDealModel" "chips" "[I") ∈ kw := kw_of (List.mem_append_right _ (List.mem_of_getElem? (i := 542) (by decide +kernel))) (by decide +kernel)
theorem kw_543 : (Jvm.Cond.fieldLink "OpenDealModel" (13 : Nat) "OpenDealModel" "sealed" "[Z") ∈ kw := kw_of (List.mem_append_right _ (List.mem_of_getElem? (i := 543) (by decide +kernel))) (by decide +kernel)
theorem kw_544 : (Jvm.Cond.fieldLink "OpenDealModel" (17 : Nat) "OpenDealModel" "seal" "[J") ∈ kw := kw_of (List.mem_append_right _ (List.mem_of_getElem? (i := 544) (by decide +kernel))) (by decide +kernel)
theorem kw_545 : (Jvm.Cond.fieldLink "OpenDealModel" (21 : Nat) "OpenDealModel" "exponent" "[I") ∈ kw := kw_of (List.mem_append_right _ (List.mem_of_getElem? (i := 545) (by decide +kernel))) (by decide +kernel)
theorem kw_546 : (Jvm.Cond.fieldLink "OpenDealModel" (24 : Nat) "OpenDealModel" "orderKey" "[J") ∈ kw := kw_of (List.mem_append_right _ (List.mem_of_getElem? (i := 546) (by decide +kernel))) (by decide +kernel)
theorem kw_547 : (Jvm.Cond.fieldLink "OpenDealModel" (27 : Nat) "OpenDealModel" "lockKey" "[J") ∈ kw := kw_of (List.mem_append_right _ (List.mem_of_getElem? (i := 547) (by decide +kernel))) (by decide +kernel)
theorem kw_548 : (Jvm.Cond.fieldLink "OpenDealModel" (30 : Nat) "OpenDealModel" "shown" "[Z") ∈ kw := kw_of (List.mem_append_right _ (List.mem_of_getElem? (i := 548) (by decide +kernel))) (by decide +kernel)
theorem kw_549 : (Jvm.Cond.fieldLink "OpenDealModel" (33 : Nat) "OpenDealModel" "shownExponent" "[I") ∈ kw := kw_of (List.mem_append_right _ (List.mem_of_getElem? (i := 549) (by decide +kernel))) (by decide +kernel)
theorem kw_550 : (Jvm.Cond.fieldLink "OpenDealModel" (36 : Nat) "OpenDealModel" "shownOrder" "[J") ∈ kw := kw_of (List.mem_append_right _ (List.mem_of_getElem? (i := 550) (by decide +kernel))) (by decide +kernel)
theorem kw_551 : (Jvm.Cond.fieldLink "OpenDealModel" (39 : Nat) "OpenDealModel" "wrongLock" "[J") ∈ kw := kw_of (List.mem_append_right _ (List.mem_of_getElem? (i := 551) (by decide +kernel))) (by decide +kernel)
theorem kw_552 : (Jvm.Cond.fieldLink "OpenDealModel" (42 : Nat) "OpenDealModel" "wrongRelock" "[J") ∈ kw := kw_of (List.mem_append_right _ (List.mem_of_getElem? (i := 552) (by decide +kernel))) (by decide +kernel)
theorem kw_553 : (Jvm.Cond.fieldLink "OpenDealModel" (45 : Nat) "OpenDealModel" "wrongGive" "[J") ∈ kw := kw_of (List.mem_append_right _ (List.mem_of_getElem? (i := 553) (by decide +kernel))) (by decide +kernel)
theorem kw_554 : (Jvm.Cond.fieldLink "OpenDealModel" (48 : Nat) "OpenDealModel" "wrongExponent" "[Z") ∈ kw := kw_of (List.mem_append_right _ (List.mem_of_getElem? (i := 554) (by decide +kernel))) (by decide +kernel)
theorem kw_555 : (Jvm.Cond.fieldLink "OpenDealModel" (51 : Nat) "OpenDealModel" "wrongOrder" "[Z") ∈ kw := kw_of (List.mem_append_right _ (List.mem_of_getElem? (i := 555) (by decide +kernel))) (by decide +kernel)
theorem kw_556 : (Jvm.Cond.fieldLink "OpenDealModel" (54 : Nat) "OpenDealModel" "deck" "[I") ∈ kw := kw_of (List.mem_append_right _ (List.mem_of_getElem? (i := 556) (by decide +kernel))) (by decide +kernel)
theorem kw_557 : (Jvm.Cond.fieldLink "OpenDealModel" (102 : Nat) "OpenDealModel" "turns" "I") ∈ kw := kw_of (List.mem_append_right _ (List.mem_of_getElem? (i := 557) (by decide +kernel))) (by decide +kernel)
theorem kw_558 : (Jvm.Cond.fieldLink "OpenDealModel" (57 : Nat) "OpenDealModel" "order" "[I") ∈ kw := kw_of (List.mem_append_right _ (List.mem_of_getElem? (i := 558) (by decide +kernel))) (by decide +kernel)
theorem kw_559 : (Jvm.Cond.fieldLink "OpenDealModel" (60 : Nat) "OpenDealModel" "locks" "[I") ∈ kw := kw_of (List.mem_append_right _ (List.mem_of_getElem? (i := 559) (by decide +kernel))) (by decide +kernel)
theorem kw_560 : (Jvm.Cond.fieldLink "OpenDealModel" (63 : Nat) "OpenDealModel" "dealtTo" "[I") ∈ kw := kw_of (List.mem_append_right _ (List.mem_of_getElem? (i := 560) (by decide +kernel))) (by decide +kernel)
theorem kw_561 : (Jvm.Cond.fieldLink "OpenDealModel" (66 : Nat) "OpenDealModel" "given" "[I") ∈ kw := kw_of (List.mem_append_right _ (List.mem_of_getElem? (i := 561) (by decide +kernel))) (by decide +kernel)
theorem kw_562 : (Jvm.Cond.fieldLink "OpenDealModel" (123 : Nat) "OpenDealModel" "draw" "J") ∈ kw := kw_of (List.mem_append_right _ (List.mem_of_getElem? (i := 562) (by decide +kernel))) (by decide +kernel)
theorem kw_563 : (Jvm.Cond.fieldLink "OpenDealModel" (69 : Nat) "OpenDealModel" "in" "[Z") ∈ kw := kw_of (List.mem_append_right _ (List.mem_of_getElem? (i := 563) (by decide +kernel))) (by decide +kernel)
theorem kw_564 : (Jvm.Cond.fieldLink "OpenDealModel" (72 : Nat) "OpenDealModel" "put" "[I") ∈ kw := kw_of (List.mem_append_right _ (List.mem_of_getElem? (i := 564) (by decide +kernel))) (by decide +kernel)
theorem kw_565 : (Jvm.Cond.fieldLink "OpenDealModel" (75 : Nat) "OpenDealModel" "putNow" "[I") ∈ kw := kw_of (List.mem_append_right _ (List.mem_of_getElem? (i := 565) (by decide +kernel))) (by decide +kernel)
theorem kw_566 : (Jvm.Cond.fieldLink "OpenDealModel" (78 : Nat) "OpenDealModel" "acted" "[Z") ∈ kw := kw_of (List.mem_append_right _ (List.mem_of_getElem? (i := 566) (by decide +kernel))) (by decide +kernel)
theorem kw_567 : (Jvm.Cond.fieldLink "OpenDealModel" (111 : Nat) "OpenDealModel" "betting" "Z") ∈ kw := kw_of (List.mem_append_right _ (List.mem_of_getElem? (i := 567) (by decide +kernel))) (by decide +kernel)
theorem kw_568 : (Jvm.Cond.fieldLink "OpenDealModel" (81 : Nat) "OpenDealModel" "next" "I") ∈ kw := kw_of (List.mem_append_right _ (List.mem_of_getElem? (i := 568) (by decide +kernel))) (by decide +kernel)
theorem kw_569 : (Jvm.Cond.lays "OpenDealModel" "OpenDealModel" "thrown" "I") ∈ kw := kw_of (List.mem_append_right _ (List.mem_of_getElem? (i := 569) (by decide +kernel))) (by decide +kernel)
theorem kw_571 : (Jvm.Cond.lays "OpenDealModel" "OpenDealModel" "prime" "I") ∈ kw := kw_of (List.mem_append_right _ (List.mem_of_getElem? (i := 571) (by decide +kernel))) (by decide +kernel)
theorem kw_573 : (Jvm.Cond.lays "OpenDealModel" "OpenDealModel" "half" "I") ∈ kw := kw_of (List.mem_append_right _ (List.mem_of_getElem? (i := 573) (by decide +kernel))) (by decide +kernel)
theorem kw_575 : (Jvm.Cond.lays "OpenDealModel" "OpenDealModel" "players" "I") ∈ kw := kw_of (List.mem_append_right _ (List.mem_of_getElem? (i := 575) (by decide +kernel))) (by decide +kernel)
theorem kw_577 : (Jvm.Cond.lays "OpenDealModel" "OpenDealModel" "phase" "I") ∈ kw := kw_of (List.mem_append_right _ (List.mem_of_getElem? (i := 577) (by decide +kernel))) (by decide +kernel)
theorem kw_579 : (Jvm.Cond.laysFinal "OpenDealModel" "OpenDealModel" "chips" "[I") ∈ kw := kw_of (List.mem_append_right _ (List.mem_of_getElem? (i := 579) (by decide +kernel))) (by decide +kernel)
theorem kw_581 : (Jvm.Cond.laysFinal "OpenDealModel" "OpenDealModel" "sealed" "[Z") ∈ kw := kw_of (List.mem_append_right _ (List.mem_of_getElem? (i := 581) (by decide +kernel))) (by decide +kernel)
theorem kw_583 : (Jvm.Cond.laysFinal "OpenDealModel" "OpenDealModel" "seal" "[J") ∈ kw := kw_of (List.mem_append_right _ (List.mem_of_getElem? (i := 583) (by decide +kernel))) (by decide +kernel)
theorem kw_585 : (Jvm.Cond.laysFinal "OpenDealModel" "OpenDealModel" "exponent" "[I") ∈ kw := kw_of (List.mem_append_right _ (List.mem_of_getElem? (i := 585) (by decide +kernel))) (by decide +kernel)
theorem kw_587 : (Jvm.Cond.laysFinal "OpenDealModel" "OpenDealModel" "orderKey" "[J") ∈ kw := kw_of (List.mem_append_right _ (List.mem_of_getElem? (i := 587) (by decide +kernel))) (by decide +kernel)
theorem kw_589 : (Jvm.Cond.laysFinal "OpenDealModel" "OpenDealModel" "lockKey" "[J") ∈ kw := kw_of (List.mem_append_right _ (List.mem_of_getElem? (i := 589) (by decide +kernel))) (by decide +kernel)
theorem kw_591 : (Jvm.Cond.laysFinal "OpenDealModel" "OpenDealModel" "shown" "[Z") ∈ kw := kw_of (List.mem_append_right _ (List.mem_of_getElem? (i := 591) (by decide +kernel))) (by decide +kernel)
theorem kw_593 : (Jvm.Cond.laysFinal "OpenDealModel" "OpenDealModel" "shownExponent" "[I") ∈ kw := kw_of (List.mem_append_right _ (List.mem_of_getElem? (i := 593) (by decide +kernel))) (by decide +kernel)
theorem kw_595 : (Jvm.Cond.laysFinal "OpenDealModel" "OpenDealModel" "shownOrder" "[J") ∈ kw := kw_of (List.mem_append_right _ (List.mem_of_getElem? (i := 595) (by decide +kernel))) (by decide +kernel)
theorem kw_597 : (Jvm.Cond.laysFinal "OpenDealModel" "OpenDealModel" "wrongLock" "[J") ∈ kw := kw_of (List.mem_append_right _ (List.mem_of_getElem? (i := 597) (by decide +kernel))) (by decide +kernel)
theorem kw_599 : (Jvm.Cond.laysFinal "OpenDealModel" "OpenDealModel" "wrongRelock" "[J") ∈ kw := kw_of (List.mem_append_right _ (List.mem_of_getElem? (i := 599) (by decide +kernel))) (by decide +kernel)
theorem kw_601 : (Jvm.Cond.laysFinal "OpenDealModel" "OpenDealModel" "wrongGive" "[J") ∈ kw := kw_of (List.mem_append_right _ (List.mem_of_getElem? (i := 601) (by decide +kernel))) (by decide +kernel)
theorem kw_603 : (Jvm.Cond.laysFinal "OpenDealModel" "OpenDealModel" "wrongExponent" "[Z") ∈ kw := kw_of (List.mem_append_right _ (List.mem_of_getElem? (i := 603) (by decide +kernel))) (by decide +kernel)
theorem kw_605 : (Jvm.Cond.laysFinal "OpenDealModel" "OpenDealModel" "wrongOrder" "[Z") ∈ kw := kw_of (List.mem_append_right _ (List.mem_of_getElem? (i := 605) (by decide +kernel))) (by decide +kernel)
theorem kw_607 : (Jvm.Cond.laysFinal "OpenDealModel" "OpenDealModel" "deck" "[I") ∈ kw := kw_of (List.mem_append_right _ (List.mem_of_getElem? (i := 607) (by decide +kernel))) (by decide +kernel)
theorem kw_609 : (Jvm.Cond.lays "OpenDealModel" "OpenDealModel" "turns" "I") ∈ kw := kw_of (List.mem_append_right _ (List.mem_of_getElem? (i := 609) (by decide +kernel))) (by decide +kernel)
theorem kw_611 : (Jvm.Cond.laysFinal "OpenDealModel" "OpenDealModel" "order" "[I") ∈ kw := kw_of (List.mem_append_right _ (List.mem_of_getElem? (i := 611) (by decide +kernel))) (by decide +kernel)
theorem kw_613 : (Jvm.Cond.laysFinal "OpenDealModel" "OpenDealModel" "locks" "[I") ∈ kw := kw_of (List.mem_append_right _ (List.mem_of_getElem? (i := 613) (by decide +kernel))) (by decide +kernel)
theorem kw_615 : (Jvm.Cond.laysFinal "OpenDealModel" "OpenDealModel" "dealtTo" "[I") ∈ kw := kw_of (List.mem_append_right _ (List.mem_of_getElem? (i := 615) (by decide +kernel))) (by decide +kernel)
theorem kw_617 : (Jvm.Cond.laysFinal "OpenDealModel" "OpenDealModel" "given" "[I") ∈ kw := kw_of (List.mem_append_right _ (List.mem_of_getElem? (i := 617) (by decide +kernel))) (by decide +kernel)
theorem kw_619 : (Jvm.Cond.lays "OpenDealModel" "OpenDealModel" "draw" "J") ∈ kw := kw_of (List.mem_append_right _ (List.mem_of_getElem? (i := 619) (by decide +kernel))) (by decide +kernel)
theorem kw_621 : (Jvm.Cond.laysFinal "OpenDealModel" "OpenDealModel" "in" "[Z") ∈ kw := kw_of (List.mem_append_right _ (List.mem_of_getElem? (i := 621) (by decide +kernel))) (by decide +kernel)
theorem kw_623 : (Jvm.Cond.laysFinal "OpenDealModel" "OpenDealModel" "put" "[I") ∈ kw := kw_of (List.mem_append_right _ (List.mem_of_getElem? (i := 623) (by decide +kernel))) (by decide +kernel)
theorem kw_625 : (Jvm.Cond.laysFinal "OpenDealModel" "OpenDealModel" "putNow" "[I") ∈ kw := kw_of (List.mem_append_right _ (List.mem_of_getElem? (i := 625) (by decide +kernel))) (by decide +kernel)
theorem kw_627 : (Jvm.Cond.laysFinal "OpenDealModel" "OpenDealModel" "acted" "[Z") ∈ kw := kw_of (List.mem_append_right _ (List.mem_of_getElem? (i := 627) (by decide +kernel))) (by decide +kernel)
theorem kw_629 : (Jvm.Cond.lays "OpenDealModel" "OpenDealModel" "betting" "Z") ∈ kw := kw_of (List.mem_append_right _ (List.mem_of_getElem? (i := 629) (by decide +kernel))) (by decide +kernel)
theorem kw_631 : (Jvm.Cond.lays "OpenDealModel" "OpenDealModel" "next" "I") ∈ kw := kw_of (List.mem_append_right _ (List.mem_of_getElem? (i := 631) (by decide +kernel))) (by decide +kernel)
theorem kw_633 : (Jvm.Cond.superclass "OpenDealModel" "java/lang/Object") ∈ kw := kw_of (List.mem_append_right _ (List.mem_of_getElem? (i := 633) (by decide +kernel))) (by decide +kernel)
theorem kw_634 : (Jvm.Cond.arrayClass Jvm.ClassFile.FieldType.boolean) ∈ kw := kw_of (List.mem_append_right _ (List.mem_of_getElem? (i := 634) (by decide +kernel))) (by decide +kernel)
theorem kw_635 : (Jvm.Cond.methodLink "OpenDealLaw" (60 : Nat) ({ cls := "OpenDealModel", name := "thrown", desc := "()I" } : Jvm.MethodName)) ∈ kw := kw_of (List.mem_append_right _ (List.mem_of_getElem? (i := 635) (by decide +kernel))) (by decide +kernel)
theorem kw_636 : (Jvm.Cond.instanceMethod ({ cls := "OpenDealModel", name := "thrown", desc := "()I" } : Jvm.MethodName)) ∈ kw := kw_of (List.mem_append_right _ (List.mem_of_getElem? (i := 636) (by decide +kernel))) (by decide +kernel)
theorem kw_637 : (Jvm.Cond.selects "OpenDealModel" ({ cls := "OpenDealModel", name := "thrown", desc := "()I" } : Jvm.MethodName) ({ cls := "OpenDealModel", name := "thrown", desc := "()I" } : Jvm.MethodName)) ∈ kw := kw_of (List.mem_append_right _ (List.mem_of_getElem? (i := 637) (by decide +kernel))) (by decide +kernel)
set_option maxRecDepth 100000 in
theorem kw_638 : (Jvm.Cond.code ({ cls := "OpenDealModel", name := "thrown", desc := "()I" } : Jvm.MethodName) prog_7_method_2_code (1 : Nat) (Option.some Jvm.ClassFile.FieldType.int)) ∈ kw := kw_of (List.mem_append_right _ (List.mem_of_getElem? (i := 638) rfl)) (by decide +kernel)
theorem kw_639 : (Jvm.Cond.methodLink "OpenDealLaw" (33 : Nat) ({ cls := "OpenDealModel", name := "prime", desc := "(I)Z" } : Jvm.MethodName)) ∈ kw := kw_of (List.mem_append_right _ (List.mem_of_getElem? (i := 639) (by decide +kernel))) (by decide +kernel)
theorem kw_640 : (Jvm.Cond.instanceMethod ({ cls := "OpenDealModel", name := "prime", desc := "(I)Z" } : Jvm.MethodName)) ∈ kw := kw_of (List.mem_append_right _ (List.mem_of_getElem? (i := 640) (by decide +kernel))) (by decide +kernel)
theorem kw_641 : (Jvm.Cond.selects "OpenDealModel" ({ cls := "OpenDealModel", name := "prime", desc := "(I)Z" } : Jvm.MethodName) ({ cls := "OpenDealModel", name := "prime", desc := "(I)Z" } : Jvm.MethodName)) ∈ kw := kw_of (List.mem_append_right _ (List.mem_of_getElem? (i := 641) (by decide +kernel))) (by decide +kernel)
set_option maxRecDepth 100000 in
theorem kw_642 : (Jvm.Cond.code ({ cls := "OpenDealModel", name := "prime", desc := "(I)Z" } : Jvm.MethodName) prog_7_method_5_code (2 : Nat) (Option.some Jvm.ClassFile.FieldType.boolean)) ∈ kw := kw_of (List.mem_append_right _ (List.mem_of_getElem? (i := 642) rfl)) (by decide +kernel)
theorem kw_643 : (Jvm.Cond.constant "OpenDealModel" (91 : Nat) (65536 : Int32)) ∈ kw := kw_of (List.mem_append_right _ (List.mem_of_getElem? (i := 643) (by decide +kernel))) (by decide +kernel)
theorem kw_644 : (Jvm.Cond.methodLink "OpenDealModel" (92 : Nat) ({ cls := "OpenDealModel", name := "isPrime", desc := "(I)Z" } : Jvm.MethodName)) ∈ kw := kw_of (List.mem_append_right _ (List.mem_of_getElem? (i := 644) (by decide +kernel))) (by decide +kernel)
theorem kw_645 : (Jvm.Cond.static ({ cls := "OpenDealModel", name := "isPrime", desc := "(I)Z" } : Jvm.MethodName)) ∈ kw := kw_of (List.mem_append_right _ (List.mem_of_getElem? (i := 645) (by decide +kernel))) (by decide +kernel)
set_option maxRecDepth 100000 in
theorem kw_646 : (Jvm.Cond.code ({ cls := "OpenDealModel", name := "isPrime", desc := "(I)Z" } : Jvm.MethodName) prog_7_method_4_code (2 : Nat) (Option.some Jvm.ClassFile.FieldType.boolean)) ∈ kw := kw_of (List.mem_append_right _ (List.mem_of_getElem? (i := 646) rfl)) (by decide +kernel)
theorem kw_647 : (Jvm.Cond.methodLink "OpenDealModel" (99 : Nat) ({ cls := "OpenDealModel", name := "beginDeck", desc := "()V" } : Jvm.MethodName)) ∈ kw := kw_of (List.mem_append_right _ (List.mem_of_getElem? (i := 647) (by decide +kernel))) (by decide +kernel)
theorem kw_649 : (Jvm.Cond.instanceMethod ({ cls := "OpenDealModel", name := "beginDeck", desc := "()V" } : Jvm.MethodName)) ∈ kw := kw_of (List.mem_append_right _ (List.mem_of_getElem? (i := 649) (by decide +kernel))) (by decide +kernel)
set_option maxRecDepth 100000 in
theorem kw_650 : (Jvm.Cond.code ({ cls := "OpenDealModel", name := "beginDeck", desc := "()V" } : Jvm.MethodName) prog_7_method_6_code (2 : Nat) (Option.none : Option Jvm.ClassFile.FieldType)) ∈ kw := kw_of (List.mem_append_right _ (List.mem_of_getElem? (i := 650) rfl)) (by decide +kernel)
theorem kw_651 : (Jvm.Cond.methodLink "OpenDealLaw" (37 : Nat) ({ cls := "OpenDealModel", name := "clear", desc := "()V" } : Jvm.MethodName)) ∈ kw := kw_of (List.mem_append_right _ (List.mem_of_getElem? (i := 651) (by decide +kernel))) (by decide +kernel)
theorem kw_652 : (Jvm.Cond.instanceMethod ({ cls := "OpenDealModel", name := "clear", desc := "()V" } : Jvm.MethodName)) ∈ kw := kw_of (List.mem_append_right _ (List.mem_of_getElem? (i := 652) (by decide +kernel))) (by decide +kernel)
theorem kw_653 : (Jvm.Cond.selects "OpenDealModel" ({ cls := "OpenDealModel", name := "clear", desc := "()V" } : Jvm.MethodName) ({ cls := "OpenDealModel", name := "clear", desc := "()V" } : Jvm.MethodName)) ∈ kw := kw_of (List.mem_append_right _ (List.mem_of_getElem? (i := 653) (by decide +kernel))) (by decide +kernel)
set_option maxRecDepth 100000 in
theorem kw_654 : (Jvm.Cond.code ({ cls := "OpenDealModel", name := "clear", desc := "()V" } : Jvm.MethodName) prog_7_method_7_code (2 : Nat) (Option.none : Option Jvm.ClassFile.FieldType)) ∈ kw := kw_of (List.mem_append_right _ (List.mem_of_getElem? (i := 654) rfl)) (by decide +kernel)
theorem kw_655 : (Jvm.Cond.methodLink "OpenDealLaw" (41 : Nat) ({ cls := "OpenDealModel", name := "seat", desc := "(I)I" } : Jvm.MethodName)) ∈ kw := kw_of (List.mem_append_right _ (List.mem_of_getElem? (i := 655) (by decide +kernel))) (by decide +kernel)
theorem kw_656 : (Jvm.Cond.instanceMethod ({ cls := "OpenDealModel", name := "seat", desc := "(I)I" } : Jvm.MethodName)) ∈ kw := kw_of (List.mem_append_right _ (List.mem_of_getElem? (i := 656) (by decide +kernel))) (by decide +kernel)
theorem kw_657 : (Jvm.Cond.selects "OpenDealModel" ({ cls := "OpenDealModel", name := "seat", desc := "(I)I" } : Jvm.MethodName) ({ cls := "OpenDealModel", name := "seat", desc := "(I)I" } : Jvm.MethodName)) ∈ kw := kw_of (List.mem_append_right _ (List.mem_of_getElem? (i := 657) (by decide +kernel))) (by decide +kernel)
set_option maxRecDepth 100000 in
theorem kw_658 : (Jvm.Cond.code ({ cls := "OpenDealModel", name := "seat", desc := "(I)I" } : Jvm.MethodName) prog_7_method_8_code (2 : Nat) (Option.some Jvm.ClassFile.FieldType.int)) ∈ kw := kw_of (List.mem_append_right _ (List.mem_of_getElem? (i := 658) rfl)) (by decide +kernel)
theorem kw_659 : (Jvm.Cond.constant "OpenDealModel" (115 : Nat) (100000 : Int32)) ∈ kw := kw_of (List.mem_append_right _ (List.mem_of_getElem? (i := 659) (by decide +kernel))) (by decide +kernel)
theorem kw_660 : (Jvm.Cond.methodLink "OpenDealLaw" (46 : Nat) ({ cls := "OpenDealModel", name := "deal", desc := "()Z" } : Jvm.MethodName)) ∈ kw := kw_of (List.mem_append_right _ (List.mem_of_getElem? (i := 660) (by decide +kernel))) (by decide +kernel)
theorem kw_661 : (Jvm.Cond.instanceMethod ({ cls := "OpenDealModel", name := "deal", desc := "()Z" } : Jvm.MethodName)) ∈ kw := kw_of (List.mem_append_right _ (List.mem_of_getElem? (i := 661) (by decide +kernel))) (by decide +kernel)
theorem kw_662 : (Jvm.Cond.selects "OpenDealModel" ({ cls := "OpenDealModel", name := "deal", desc := "()Z" } : Jvm.MethodName) ({ cls := "OpenDealModel", name := "deal", desc := "()Z" } : Jvm.MethodName)) ∈ kw := kw_of (List.mem_append_right _ (List.mem_of_getElem? (i := 662) (by decide +kernel))) (by decide +kernel)
set_option maxRecDepth 100000 in
theorem kw_663 : (Jvm.Cond.code ({ cls := "OpenDealModel", name := "deal", desc := "()Z" } : Jvm.MethodName) prog_7_method_11_code (3 : Nat) (Option.some Jvm.ClassFile.FieldType.boolean)) ∈ kw := kw_of (List.mem_append_right _ (List.mem_of_getElem? (i := 663) rfl)) (by decide +kernel)
theorem kw_664 : (Jvm.Cond.methodLink "OpenDealLaw" (53 : Nat) ({ cls := "OpenDealModel", name := "seal", desc := "(IIJJ)Z" } : Jvm.MethodName)) ∈ kw := kw_of (List.mem_append_right _ (List.mem_of_getElem? (i := 664) (by decide +kernel))) (by decide +kernel)
theorem kw_665 : (Jvm.Cond.instanceMethod ({ cls := "OpenDealModel", name := "seal", desc := "(IIJJ)Z" } : Jvm.MethodName)) ∈ kw := kw_of (List.mem_append_right _ (List.mem_of_getElem? (i := 665) (by decide +kernel))) (by decide +kernel)
theorem kw_666 : (Jvm.Cond.selects "OpenDealModel" ({ cls := "OpenDealModel", name := "seal", desc := "(IIJJ)Z" } : Jvm.MethodName) ({ cls := "OpenDealModel", name := "seal", desc := "(IIJJ)Z" } : Jvm.MethodName)) ∈ kw := kw_of (List.mem_append_right _ (List.mem_of_getElem? (i := 666) (by decide +kernel))) (by decide +kernel)
set_option maxRecDepth 100000 in
theorem kw_667 : (Jvm.Cond.code ({ cls := "OpenDealModel", name := "seal", desc := "(IIJJ)Z" } : Jvm.MethodName) prog_7_method_20_code (9 : Nat) (Option.some Jvm.ClassFile.FieldType.boolean)) ∈ kw := kw_of (List.mem_append_right _ (List.mem_of_getElem? (i := 667) rfl)) (by decide +kernel)
theorem kw_668 : (Jvm.Cond.methodLink "OpenDealModel" (139 : Nat) ({ cls := "OpenDealModel", name := "isPlayer", desc := "(I)Z" } : Jvm.MethodName)) ∈ kw := kw_of (List.mem_append_right _ (List.mem_of_getElem? (i := 668) (by decide +kernel))) (by decide +kernel)
theorem kw_670 : (Jvm.Cond.instanceMethod ({ cls := "OpenDealModel", name := "isPlayer", desc := "(I)Z" } : Jvm.MethodName)) ∈ kw := kw_of (List.mem_append_right _ (List.mem_of_getElem? (i := 670) (by decide +kernel))) (by decide +kernel)
set_option maxRecDepth 100000 in
theorem kw_671 : (Jvm.Cond.code ({ cls := "OpenDealModel", name := "isPlayer", desc := "(I)Z" } : Jvm.MethodName) prog_7_method_9_code (2 : Nat) (Option.some Jvm.ClassFile.FieldType.boolean)) ∈ kw := kw_of (List.mem_append_right _ (List.mem_of_getElem? (i := 671) rfl)) (by decide +kernel)
theorem kw_672 : (Jvm.Cond.methodLink "OpenDealModel" (120 : Nat) ({ cls := "OpenDealModel", name := "isExponent", desc := "(I)Z" } : Jvm.MethodName)) ∈ kw := kw_of (List.mem_append_right _ (List.mem_of_getElem? (i := 672) (by decide +kernel))) (by decide +kernel)
theorem kw_674 : (Jvm.Cond.instanceMethod ({ cls := "OpenDealModel", name := "isExponent", desc := "(I)Z" } : Jvm.MethodName)) ∈ kw := kw_of (List.mem_append_right _ (List.mem_of_getElem? (i := 674) (by decide +kernel))) (by decide +kernel)
set_option maxRecDepth 100000 in
theorem kw_675 : (Jvm.Cond.code ({ cls := "OpenDealModel", name := "isExponent", desc := "(I)Z" } : Jvm.MethodName) prog_7_method_13_code (2 : Nat) (Option.some Jvm.ClassFile.FieldType.boolean)) ∈ kw := kw_of (List.mem_append_right _ (List.mem_of_getElem? (i := 675) rfl)) (by decide +kernel)
theorem kw_676 : (Jvm.Cond.methodLink "OpenDealModel" (142 : Nat) ({ cls := "OpenDealModel", name := "sealOf", desc := "(IJJ)J" } : Jvm.MethodName)) ∈ kw := kw_of (List.mem_append_right _ (List.mem_of_getElem? (i := 676) (by decide +kernel))) (by decide +kernel)
theorem kw_677 : (Jvm.Cond.static ({ cls := "OpenDealModel", name := "sealOf", desc := "(IJJ)J" } : Jvm.MethodName)) ∈ kw := kw_of (List.mem_append_right _ (List.mem_of_getElem? (i := 677) (by decide +kernel))) (by decide +kernel)
set_option maxRecDepth 100000 in
theorem kw_678 : (Jvm.Cond.code ({ cls := "OpenDealModel", name := "sealOf", desc := "(IJJ)J" } : Jvm.MethodName) prog_7_method_19_code (7 : Nat) (Option.some Jvm.ClassFile.FieldType.long)) ∈ kw := kw_of (List.mem_append_right _ (List.mem_of_getElem? (i := 678) rfl)) (by decide +kernel)
theorem kw_679 : (Jvm.Cond.constantLong "OpenDealModel" (135 : Nat) (-4658895280553007687 : Int64)) ∈ kw := kw_of (List.mem_append_right _ (List.mem_of_getElem? (i := 679) (by decide +kernel))) (by decide +kernel)
theorem kw_680 : (Jvm.Cond.constantLong "OpenDealModel" (137 : Nat) (-7723592293110705685 : Int64)) ∈ kw := kw_of (List.mem_append_right _ (List.mem_of_getElem? (i := 680) (by decide +kernel))) (by decide +kernel)
theorem kw_681 : (Jvm.Cond.methodLink "OpenDealLaw" (59 : Nat) ({ cls := "OpenDealModel", name := "sealOf", desc := "(I)J" } : Jvm.MethodName)) ∈ kw := kw_of (List.mem_append_right _ (List.mem_of_getElem? (i := 681) (by decide +kernel))) (by decide +kernel)
theorem kw_682 : (Jvm.Cond.instanceMethod ({ cls := "OpenDealModel", name := "sealOf", desc := "(I)J" } : Jvm.MethodName)) ∈ kw := kw_of (List.mem_append_right _ (List.mem_of_getElem? (i := 682) (by decide +kernel))) (by decide +kernel)
theorem kw_683 : (Jvm.Cond.selects "OpenDealModel" ({ cls := "OpenDealModel", name := "sealOf", desc := "(I)J" } : Jvm.MethodName) ({ cls := "OpenDealModel", name := "sealOf", desc := "(I)J" } : Jvm.MethodName)) ∈ kw := kw_of (List.mem_append_right _ (List.mem_of_getElem? (i := 683) (by decide +kernel))) (by decide +kernel)
set_option maxRecDepth 100000 in
theorem kw_684 : (Jvm.Cond.code ({ cls := "OpenDealModel", name := "sealOf", desc := "(I)J" } : Jvm.MethodName) prog_7_method_21_code (2 : Nat) (Option.some Jvm.ClassFile.FieldType.long)) ∈ kw := kw_of (List.mem_append_right _ (List.mem_of_getElem? (i := 684) rfl)) (by decide +kernel)
theorem kw_685 : (Jvm.Cond.methodLink "OpenDealModel" (146 : Nat) ({ cls := "OpenDealModel", name := "raise", desc := "(I)I" } : Jvm.MethodName)) ∈ kw := kw_of (List.mem_append_right _ (List.mem_of_getElem? (i := 685) (by decide +kernel))) (by decide +kernel)
theorem kw_687 : (Jvm.Cond.instanceMethod ({ cls := "OpenDealModel", name := "raise", desc := "(I)I" } : Jvm.MethodName)) ∈ kw := kw_of (List.mem_append_right _ (List.mem_of_getElem? (i := 687) (by decide +kernel))) (by decide +kernel)
set_option maxRecDepth 100000 in
theorem kw_688 : (Jvm.Cond.code ({ cls := "OpenDealModel", name := "raise", desc := "(I)I" } : Jvm.MethodName) prog_7_method_3_code (2 : Nat) (Option.some Jvm.ClassFile.FieldType.int)) ∈ kw := kw_of (List.mem_append_right _ (List.mem_of_getElem? (i := 688) rfl)) (by decide +kernel)
theorem kw_689 : (Jvm.Cond.methodLink "OpenDealLaw" (66 : Nat) ({ cls := "OpenDealModel", name := "turn", desc := "(I)Z" } : Jvm.MethodName)) ∈ kw := kw_of (List.mem_append_right _ (List.mem_of_getElem? (i := 689) (by decide +kernel))) (by decide +kernel)
theorem kw_690 : (Jvm.Cond.instanceMethod ({ cls := "OpenDealModel", name := "turn", desc := "(I)Z" } : Jvm.MethodName)) ∈ kw := kw_of (List.mem_append_right _ (List.mem_of_getElem? (i := 690) (by decide +kernel))) (by decide +kernel)
theorem kw_691 : (Jvm.Cond.selects "OpenDealModel" ({ cls := "OpenDealModel", name := "turn", desc := "(I)Z" } : Jvm.MethodName) ({ cls := "OpenDealModel", name := "turn", desc := "(I)Z" } : Jvm.MethodName)) ∈ kw := kw_of (List.mem_append_right _ (List.mem_of_getElem? (i := 691) (by decide +kernel))) (by decide +kernel)
set_option maxRecDepth 100000 in
theorem kw_692 : (Jvm.Cond.code ({ cls := "OpenDealModel", name := "turn", desc := "(I)Z" } : Jvm.MethodName) prog_7_method_25_code (4 : Nat) (Option.some Jvm.ClassFile.FieldType.boolean)) ∈ kw := kw_of (List.mem_append_right _ (List.mem_of_getElem? (i := 692) rfl)) (by decide +kernel)
theorem kw_693 : (Jvm.Cond.methodLink "OpenDealModel" (153 : Nat) ({ cls := "OpenDealModel", name := "makeOrder", desc := "(J)V" } : Jvm.MethodName)) ∈ kw := kw_of (List.mem_append_right _ (List.mem_of_getElem? (i := 693) (by decide +kernel))) (by decide +kernel)
theorem kw_695 : (Jvm.Cond.instanceMethod ({ cls := "OpenDealModel", name := "makeOrder", desc := "(J)V" } : Jvm.MethodName)) ∈ kw := kw_of (List.mem_append_right _ (List.mem_of_getElem? (i := 695) (by decide +kernel))) (by decide +kernel)
set_option maxRecDepth 100000 in
theorem kw_696 : (Jvm.Cond.code ({ cls := "OpenDealModel", name := "makeOrder", desc := "(J)V" } : Jvm.MethodName) prog_7_method_17_code (6 : Nat) (Option.none : Option Jvm.ClassFile.FieldType)) ∈ kw := kw_of (List.mem_append_right _ (List.mem_of_getElem? (i := 696) rfl)) (by decide +kernel)
theorem kw_697 : (Jvm.Cond.methodLink "OpenDealModel" (131 : Nat) ({ cls := "OpenDealModel", name := "nextDraw", desc := "()I" } : Jvm.MethodName)) ∈ kw := kw_of (List.mem_append_right _ (List.mem_of_getElem? (i := 697) (by decide +kernel))) (by decide +kernel)
theorem kw_699 : (Jvm.Cond.instanceMethod ({ cls := "OpenDealModel", name := "nextDraw", desc := "()I" } : Jvm.MethodName)) ∈ kw := kw_of (List.mem_append_right _ (List.mem_of_getElem? (i := 699) (by decide +kernel))) (by decide +kernel)
set_option maxRecDepth 100000 in
theorem kw_700 : (Jvm.Cond.code ({ cls := "OpenDealModel", name := "nextDraw", desc := "()I" } : Jvm.MethodName) prog_7_method_16_code (1 : Nat) (Option.some Jvm.ClassFile.FieldType.int)) ∈ kw := kw_of (List.mem_append_right _ (List.mem_of_getElem? (i := 700) rfl)) (by decide +kernel)
theorem kw_701 : (Jvm.Cond.constantLong "OpenDealModel" (127 : Nat) (6364136223846793005 : Int64)) ∈ kw := kw_of (List.mem_append_right _ (List.mem_of_getElem? (i := 701) (by decide +kernel))) (by decide +kernel)
theorem kw_702 : (Jvm.Cond.constantLong "OpenDealModel" (129 : Nat) (1442695040888963407 : Int64)) ∈ kw := kw_of (List.mem_append_right _ (List.mem_of_getElem? (i := 702) (by decide +kernel))) (by decide +kernel)
theorem kw_703 : (Jvm.Cond.methodLink "OpenDealModel" (157 : Nat) ({ cls := "OpenDealModel", name := "makeLocks", desc := "(J)V" } : Jvm.MethodName)) ∈ kw := kw_of (List.mem_append_right _ (List.mem_of_getElem? (i := 703) (by decide +kernel))) (by decide +kernel)
theorem kw_705 : (Jvm.Cond.instanceMethod ({ cls := "OpenDealModel", name := "makeLocks", desc := "(J)V" } : Jvm.MethodName)) ∈ kw := kw_of (List.mem_append_right _ (List.mem_of_getElem? (i := 705) (by decide +kernel))) (by decide +kernel)
set_option maxRecDepth 100000 in
theorem kw_706 : (Jvm.Cond.code ({ cls := "OpenDealModel", name := "makeLocks", desc := "(J)V" } : Jvm.MethodName) prog_7_method_18_code (4 : Nat) (Option.none : Option Jvm.ClassFile.FieldType)) ∈ kw := kw_of (List.mem_append_right _ (List.mem_of_getElem? (i := 706) rfl)) (by decide +kernel)
theorem kw_707 : (Jvm.Cond.methodLink "OpenDealModel" (160 : Nat) ({ cls := "OpenDealModel", name := "lockedAt", desc := "(III)I" } : Jvm.MethodName)) ∈ kw := kw_of (List.mem_append_right _ (List.mem_of_getElem? (i := 707) (by decide +kernel))) (by decide +kernel)
theorem kw_709 : (Jvm.Cond.instanceMethod ({ cls := "OpenDealModel", name := "lockedAt", desc := "(III)I" } : Jvm.MethodName)) ∈ kw := kw_of (List.mem_append_right _ (List.mem_of_getElem? (i := 709) (by decide +kernel))) (by decide +kernel)
set_option maxRecDepth 100000 in
theorem kw_710 : (Jvm.Cond.code ({ cls := "OpenDealModel", name := "lockedAt", desc := "(III)I" } : Jvm.MethodName) prog_7_method_22_code (4 : Nat) (Option.some Jvm.ClassFile.FieldType.int)) ∈ kw := kw_of (List.mem_append_right _ (List.mem_of_getElem? (i := 710) rfl)) (by decide +kernel)
theorem kw_711 : (Jvm.Cond.methodLink "OpenDealModel" (116 : Nat) ({ cls := "OpenDealModel", name := "power", desc := "(III)I" } : Jvm.MethodName)) ∈ kw := kw_of (List.mem_append_right _ (List.mem_of_getElem? (i := 711) (by decide +kernel))) (by decide +kernel)
theorem kw_712 : (Jvm.Cond.static ({ cls := "OpenDealModel", name := "power", desc := "(III)I" } : Jvm.MethodName)) ∈ kw := kw_of (List.mem_append_right _ (List.mem_of_getElem? (i := 712) (by decide +kernel))) (by decide +kernel)
set_option maxRecDepth 100000 in
theorem kw_713 : (Jvm.Cond.code ({ cls := "OpenDealModel", name := "power", desc := "(III)I" } : Jvm.MethodName) prog_7_method_12_code (8 : Nat) (Option.some Jvm.ClassFile.FieldType.int)) ∈ kw := kw_of (List.mem_append_right _ (List.mem_of_getElem? (i := 713) rfl)) (by decide +kernel)
theorem kw_714 : (Jvm.Cond.methodLink "OpenDealModel" (163 : Nat) ({ cls := "OpenDealModel", name := "relockedAt", desc := "(III)I" } : Jvm.MethodName)) ∈ kw := kw_of (List.mem_append_right _ (List.mem_of_getElem? (i := 714) (by decide +kernel))) (by decide +kernel)
theorem kw_716 : (Jvm.Cond.instanceMethod ({ cls := "OpenDealModel", name := "relockedAt", desc := "(III)I" } : Jvm.MethodName)) ∈ kw := kw_of (List.mem_append_right _ (List.mem_of_getElem? (i := 716) (by decide +kernel))) (by decide +kernel)
set_option maxRecDepth 100000 in
theorem kw_717 : (Jvm.Cond.code ({ cls := "OpenDealModel", name := "relockedAt", desc := "(III)I" } : Jvm.MethodName) prog_7_method_23_code (4 : Nat) (Option.some Jvm.ClassFile.FieldType.int)) ∈ kw := kw_of (List.mem_append_right _ (List.mem_of_getElem? (i := 717) rfl)) (by decide +kernel)
theorem kw_718 : (Jvm.Cond.methodLink "OpenDealModel" (150 : Nat) ({ cls := "OpenDealModel", name := "inverse", desc := "(I)I" } : Jvm.MethodName)) ∈ kw := kw_of (List.mem_append_right _ (List.mem_of_getElem? (i := 718) (by decide +kernel))) (by decide +kernel)
theorem kw_720 : (Jvm.Cond.instanceMethod ({ cls := "OpenDealModel", name := "inverse", desc := "(I)I" } : Jvm.MethodName)) ∈ kw := kw_of (List.mem_append_right _ (List.mem_of_getElem? (i := 720) (by decide +kernel))) (by decide +kernel)
set_option maxRecDepth 100000 in
theorem kw_721 : (Jvm.Cond.code ({ cls := "OpenDealModel", name := "inverse", desc := "(I)I" } : Jvm.MethodName) prog_7_method_14_code (2 : Nat) (Option.some Jvm.ClassFile.FieldType.int)) ∈ kw := kw_of (List.mem_append_right _ (List.mem_of_getElem? (i := 721) rfl)) (by decide +kernel)
theorem kw_722 : (Jvm.Cond.methodLink "OpenDealModel" (166 : Nat) ({ cls := "OpenDealModel", name := "cheated", desc := "(JII)I" } : Jvm.MethodName)) ∈ kw := kw_of (List.mem_append_right _ (List.mem_of_getElem? (i := 722) (by decide +kernel))) (by decide +kernel)
theorem kw_724 : (Jvm.Cond.instanceMethod ({ cls := "OpenDealModel", name := "cheated", desc := "(JII)I" } : Jvm.MethodName)) ∈ kw := kw_of (List.mem_append_right _ (List.mem_of_getElem? (i := 724) (by decide +kernel))) (by decide +kernel)
set_option maxRecDepth 100000 in
theorem kw_725 : (Jvm.Cond.code ({ cls := "OpenDealModel", name := "cheated", desc := "(JII)I" } : Jvm.MethodName) prog_7_method_24_code (5 : Nat) (Option.some Jvm.ClassFile.FieldType.int)) ∈ kw := kw_of (List.mem_append_right _ (List.mem_of_getElem? (i := 725) rfl)) (by decide +kernel)
theorem kw_726 : (Jvm.Cond.methodLink "OpenDealLaw" (69 : Nat) ({ cls := "OpenDealModel", name := "laid", desc := "(I)I" } : Jvm.MethodName)) ∈ kw := kw_of (List.mem_append_right _ (List.mem_of_getElem? (i := 726) (by decide +kernel))) (by decide +kernel)
theorem kw_727 : (Jvm.Cond.instanceMethod ({ cls := "OpenDealModel", name := "laid", desc := "(I)I" } : Jvm.MethodName)) ∈ kw := kw_of (List.mem_append_right _ (List.mem_of_getElem? (i := 727) (by decide +kernel))) (by decide +kernel)
theorem kw_728 : (Jvm.Cond.selects "OpenDealModel" ({ cls := "OpenDealModel", name := "laid", desc := "(I)I" } : Jvm.MethodName) ({ cls := "OpenDealModel", name := "laid", desc := "(I)I" } : Jvm.MethodName)) ∈ kw := kw_of (List.mem_append_right _ (List.mem_of_getElem? (i := 728) (by decide +kernel))) (by decide +kernel)
set_option maxRecDepth 100000 in
theorem kw_729 : (Jvm.Cond.code ({ cls := "OpenDealModel", name := "laid", desc := "(I)I" } : Jvm.MethodName) prog_7_method_26_code (2 : Nat) (Option.some Jvm.ClassFile.FieldType.int)) ∈ kw := kw_of (List.mem_append_right _ (List.mem_of_getElem? (i := 729) rfl)) (by decide +kernel)
theorem kw_730 : (Jvm.Cond.methodLink "OpenDealModel" (170 : Nat) ({ cls := "OpenDealModel", name := "isPlace", desc := "(I)Z" } : Jvm.MethodName)) ∈ kw := kw_of (List.mem_append_right _ (List.mem_of_getElem? (i := 730) (by decide +kernel))) (by decide +kernel)
theorem kw_731 : (Jvm.Cond.static ({ cls := "OpenDealModel", name := "isPlace", desc := "(I)Z" } : Jvm.MethodName)) ∈ kw := kw_of (List.mem_append_right _ (List.mem_of_getElem? (i := 731) (by decide +kernel))) (by decide +kernel)
set_option maxRecDepth 100000 in
theorem kw_732 : (Jvm.Cond.code ({ cls := "OpenDealModel", name := "isPlace", desc := "(I)Z" } : Jvm.MethodName) prog_7_method_10_code (1 : Nat) (Option.some Jvm.ClassFile.FieldType.boolean)) ∈ kw := kw_of (List.mem_append_right _ (List.mem_of_getElem? (i := 732) rfl)) (by decide +kernel)
theorem kw_733 : (Jvm.Cond.methodLink "OpenDealLaw" (74 : Nat) ({ cls := "OpenDealModel", name := "assign", desc := "(II)Z" } : Jvm.MethodName)) ∈ kw := kw_of (List.mem_append_right _ (List.mem_of_getElem? (i := 733) (by decide +kernel))) (by decide +kernel)
theorem kw_734 : (Jvm.Cond.instanceMethod ({ cls := "OpenDealModel", name := "assign", desc := "(II)Z" } : Jvm.MethodName)) ∈ kw := kw_of (List.mem_append_right _ (List.mem_of_getElem? (i := 734) (by decide +kernel))) (by decide +kernel)
theorem kw_735 : (Jvm.Cond.selects "OpenDealModel" ({ cls := "OpenDealModel", name := "assign", desc := "(II)Z" } : Jvm.MethodName) ({ cls := "OpenDealModel", name := "assign", desc := "(II)Z" } : Jvm.MethodName)) ∈ kw := kw_of (List.mem_append_right _ (List.mem_of_getElem? (i := 735) (by decide +kernel))) (by decide +kernel)
set_option maxRecDepth 100000 in
theorem kw_736 : (Jvm.Cond.code ({ cls := "OpenDealModel", name := "assign", desc := "(II)Z" } : Jvm.MethodName) prog_7_method_27_code (3 : Nat) (Option.some Jvm.ClassFile.FieldType.boolean)) ∈ kw := kw_of (List.mem_append_right _ (List.mem_of_getElem? (i := 736) rfl)) (by decide +kernel)
theorem kw_737 : (Jvm.Cond.methodLink "OpenDealLaw" (78 : Nat) ({ cls := "OpenDealModel", name := "give", desc := "(II)Z" } : Jvm.MethodName)) ∈ kw := kw_of (List.mem_append_right _ (List.mem_of_getElem? (i := 737) (by decide +kernel))) (by decide +kernel)
theorem kw_738 : (Jvm.Cond.instanceMethod ({ cls := "OpenDealModel", name := "give", desc := "(II)Z" } : Jvm.MethodName)) ∈ kw := kw_of (List.mem_append_right _ (List.mem_of_getElem? (i := 738) (by decide +kernel))) (by decide +kernel)
theorem kw_739 : (Jvm.Cond.selects "OpenDealModel" ({ cls := "OpenDealModel", name := "give", desc := "(II)Z" } : Jvm.MethodName) ({ cls := "OpenDealModel", name := "give", desc := "(II)Z" } : Jvm.MethodName)) ∈ kw := kw_of (List.mem_append_right _ (List.mem_of_getElem? (i := 739) (by decide +kernel))) (by decide +kernel)
set_option maxRecDepth 100000 in
theorem kw_740 : (Jvm.Cond.code ({ cls := "OpenDealModel", name := "give", desc := "(II)Z" } : Jvm.MethodName) prog_7_method_29_code (4 : Nat) (Option.some Jvm.ClassFile.FieldType.boolean)) ∈ kw := kw_of (List.mem_append_right _ (List.mem_of_getElem? (i := 740) rfl)) (by decide +kernel)
theorem kw_741 : (Jvm.Cond.methodLink "OpenDealModel" (173 : Nat) ({ cls := "OpenDealModel", name := "lockOf", desc := "(II)I" } : Jvm.MethodName)) ∈ kw := kw_of (List.mem_append_right _ (List.mem_of_getElem? (i := 741) (by decide +kernel))) (by decide +kernel)
theorem kw_743 : (Jvm.Cond.instanceMethod ({ cls := "OpenDealModel", name := "lockOf", desc := "(II)I" } : Jvm.MethodName)) ∈ kw := kw_of (List.mem_append_right _ (List.mem_of_getElem? (i := 743) (by decide +kernel))) (by decide +kernel)
set_option maxRecDepth 100000 in
theorem kw_744 : (Jvm.Cond.code ({ cls := "OpenDealModel", name := "lockOf", desc := "(II)I" } : Jvm.MethodName) prog_7_method_28_code (3 : Nat) (Option.some Jvm.ClassFile.FieldType.int)) ∈ kw := kw_of (List.mem_append_right _ (List.mem_of_getElem? (i := 744) rfl)) (by decide +kernel)
theorem kw_745 : (Jvm.Cond.methodLink "OpenDealModel" (177 : Nat) ({ cls := "OpenDealModel", name := "leastAbove", desc := "(I)I" } : Jvm.MethodName)) ∈ kw := kw_of (List.mem_append_right _ (List.mem_of_getElem? (i := 745) (by decide +kernel))) (by decide +kernel)
theorem kw_747 : (Jvm.Cond.instanceMethod ({ cls := "OpenDealModel", name := "leastAbove", desc := "(I)I" } : Jvm.MethodName)) ∈ kw := kw_of (List.mem_append_right _ (List.mem_of_getElem? (i := 747) (by decide +kernel))) (by decide +kernel)
set_option maxRecDepth 100000 in
theorem kw_748 : (Jvm.Cond.code ({ cls := "OpenDealModel", name := "leastAbove", desc := "(I)I" } : Jvm.MethodName) prog_7_method_15_code (3 : Nat) (Option.some Jvm.ClassFile.FieldType.int)) ∈ kw := kw_of (List.mem_append_right _ (List.mem_of_getElem? (i := 748) rfl)) (by decide +kernel)
theorem kw_749 : (Jvm.Cond.methodLink "OpenDealLaw" (83 : Nat) ({ cls := "OpenDealModel", name := "open", desc := "(II)I" } : Jvm.MethodName)) ∈ kw := kw_of (List.mem_append_right _ (List.mem_of_getElem? (i := 749) (by decide +kernel))) (by decide +kernel)
theorem kw_750 : (Jvm.Cond.instanceMethod ({ cls := "OpenDealModel", name := "open", desc := "(II)I" } : Jvm.MethodName)) ∈ kw := kw_of (List.mem_append_right _ (List.mem_of_getElem? (i := 750) (by decide +kernel))) (by decide +kernel)
theorem kw_751 : (Jvm.Cond.selects "OpenDealModel" ({ cls := "OpenDealModel", name := "open", desc := "(II)I" } : Jvm.MethodName) ({ cls := "OpenDealModel", name := "open", desc := "(II)I" } : Jvm.MethodName)) ∈ kw := kw_of (List.mem_append_right _ (List.mem_of_getElem? (i := 751) (by decide +kernel))) (by decide +kernel)
set_option maxRecDepth 100000 in
theorem kw_752 : (Jvm.Cond.code ({ cls := "OpenDealModel", name := "open", desc := "(II)I" } : Jvm.MethodName) prog_7_method_30_code (6 : Nat) (Option.some Jvm.ClassFile.FieldType.int)) ∈ kw := kw_of (List.mem_append_right _ (List.mem_of_getElem? (i := 752) rfl)) (by decide +kernel)
theorem kw_753 : (Jvm.Cond.methodLink "OpenDealLaw" (87 : Nat) ({ cls := "OpenDealModel", name := "round", desc := "()Z" } : Jvm.MethodName)) ∈ kw := kw_of (List.mem_append_right _ (List.mem_of_getElem? (i := 753) (by decide +kernel))) (by decide +kernel)
theorem kw_754 : (Jvm.Cond.instanceMethod ({ cls := "OpenDealModel", name := "round", desc := "()Z" } : Jvm.MethodName)) ∈ kw := kw_of (List.mem_append_right _ (List.mem_of_getElem? (i := 754) (by decide +kernel))) (by decide +kernel)
theorem kw_755 : (Jvm.Cond.selects "OpenDealModel" ({ cls := "OpenDealModel", name := "round", desc := "()Z" } : Jvm.MethodName) ({ cls := "OpenDealModel", name := "round", desc := "()Z" } : Jvm.MethodName)) ∈ kw := kw_of (List.mem_append_right _ (List.mem_of_getElem? (i := 755) (by decide +kernel))) (by decide +kernel)
set_option maxRecDepth 100000 in
theorem kw_756 : (Jvm.Cond.code ({ cls := "OpenDealModel", name := "round", desc := "()Z" } : Jvm.MethodName) prog_7_method_36_code (3 : Nat) (Option.some Jvm.ClassFile.FieldType.boolean)) ∈ kw := kw_of (List.mem_append_right _ (List.mem_of_getElem? (i := 756) rfl)) (by decide +kernel)
theorem kw_757 : (Jvm.Cond.methodLink "OpenDealModel" (180 : Nat) ({ cls := "OpenDealModel", name := "canAct", desc := "(I)Z" } : Jvm.MethodName)) ∈ kw := kw_of (List.mem_append_right _ (List.mem_of_getElem? (i := 757) (by decide +kernel))) (by decide +kernel)
theorem kw_759 : (Jvm.Cond.instanceMethod ({ cls := "OpenDealModel", name := "canAct", desc := "(I)Z" } : Jvm.MethodName)) ∈ kw := kw_of (List.mem_append_right _ (List.mem_of_getElem? (i := 759) (by decide +kernel))) (by decide +kernel)
set_option maxRecDepth 100000 in
theorem kw_760 : (Jvm.Cond.code ({ cls := "OpenDealModel", name := "canAct", desc := "(I)Z" } : Jvm.MethodName) prog_7_method_31_code (2 : Nat) (Option.some Jvm.ClassFile.FieldType.boolean)) ∈ kw := kw_of (List.mem_append_right _ (List.mem_of_getElem? (i := 760) rfl)) (by decide +kernel)
theorem kw_761 : (Jvm.Cond.methodLink "OpenDealModel" (189 : Nat) ({ cls := "OpenDealModel", name := "findNext", desc := "(I)V" } : Jvm.MethodName)) ∈ kw := kw_of (List.mem_append_right _ (List.mem_of_getElem? (i := 761) (by decide +kernel))) (by decide +kernel)
theorem kw_763 : (Jvm.Cond.instanceMethod ({ cls := "OpenDealModel", name := "findNext", desc := "(I)V" } : Jvm.MethodName)) ∈ kw := kw_of (List.mem_append_right _ (List.mem_of_getElem? (i := 763) (by decide +kernel))) (by decide +kernel)
set_option maxRecDepth 100000 in
theorem kw_764 : (Jvm.Cond.code ({ cls := "OpenDealModel", name := "findNext", desc := "(I)V" } : Jvm.MethodName) prog_7_method_34_code (4 : Nat) (Option.none : Option Jvm.ClassFile.FieldType)) ∈ kw := kw_of (List.mem_append_right _ (List.mem_of_getElem? (i := 764) rfl)) (by decide +kernel)
theorem kw_765 : (Jvm.Cond.methodLink "OpenDealModel" (183 : Nat) ({ cls := "OpenDealModel", name := "many", desc := "()I" } : Jvm.MethodName)) ∈ kw := kw_of (List.mem_append_right _ (List.mem_of_getElem? (i := 765) (by decide +kernel))) (by decide +kernel)
theorem kw_767 : (Jvm.Cond.instanceMethod ({ cls := "OpenDealModel", name := "many", desc := "()I" } : Jvm.MethodName)) ∈ kw := kw_of (List.mem_append_right _ (List.mem_of_getElem? (i := 767) (by decide +kernel))) (by decide +kernel)
set_option maxRecDepth 100000 in
theorem kw_768 : (Jvm.Cond.code ({ cls := "OpenDealModel", name := "many", desc := "()I" } : Jvm.MethodName) prog_7_method_32_code (3 : Nat) (Option.some Jvm.ClassFile.FieldType.int)) ∈ kw := kw_of (List.mem_append_right _ (List.mem_of_getElem? (i := 768) rfl)) (by decide +kernel)
theorem kw_769 : (Jvm.Cond.methodLink "OpenDealModel" (186 : Nat) ({ cls := "OpenDealModel", name := "endRound", desc := "()V" } : Jvm.MethodName)) ∈ kw := kw_of (List.mem_append_right _ (List.mem_of_getElem? (i := 769) (by decide +kernel))) (by decide +kernel)
theorem kw_771 : (Jvm.Cond.instanceMethod ({ cls := "OpenDealModel", name := "endRound", desc := "()V" } : Jvm.MethodName)) ∈ kw := kw_of (List.mem_append_right _ (List.mem_of_getElem? (i := 771) (by decide +kernel))) (by decide +kernel)
set_option maxRecDepth 100000 in
theorem kw_772 : (Jvm.Cond.code ({ cls := "OpenDealModel", name := "endRound", desc := "()V" } : Jvm.MethodName) prog_7_method_35_code (2 : Nat) (Option.none : Option Jvm.ClassFile.FieldType)) ∈ kw := kw_of (List.mem_append_right _ (List.mem_of_getElem? (i := 772) rfl)) (by decide +kernel)
theorem kw_773 : (Jvm.Cond.methodLink "OpenDealLaw" (92 : Nat) ({ cls := "OpenDealModel", name := "bet", desc := "(III)Z" } : Jvm.MethodName)) ∈ kw := kw_of (List.mem_append_right _ (List.mem_of_getElem? (i := 773) (by decide +kernel))) (by decide +kernel)
theorem kw_774 : (Jvm.Cond.instanceMethod ({ cls := "OpenDealModel", name := "bet", desc := "(III)Z" } : Jvm.MethodName)) ∈ kw := kw_of (List.mem_append_right _ (List.mem_of_getElem? (i := 774) (by decide +kernel))) (by decide +kernel)
theorem kw_775 : (Jvm.Cond.selects "OpenDealModel" ({ cls := "OpenDealModel", name := "bet", desc := "(III)Z" } : Jvm.MethodName) ({ cls := "OpenDealModel", name := "bet", desc := "(III)Z" } : Jvm.MethodName)) ∈ kw := kw_of (List.mem_append_right _ (List.mem_of_getElem? (i := 775) (by decide +kernel))) (by decide +kernel)
set_option maxRecDepth 100000 in
theorem kw_776 : (Jvm.Cond.code ({ cls := "OpenDealModel", name := "bet", desc := "(III)Z" } : Jvm.MethodName) prog_7_method_38_code (6 : Nat) (Option.some Jvm.ClassFile.FieldType.boolean)) ∈ kw := kw_of (List.mem_append_right _ (List.mem_of_getElem? (i := 776) rfl)) (by decide +kernel)
theorem kw_777 : (Jvm.Cond.methodLink "OpenDealModel" (193 : Nat) ({ cls := "OpenDealModel", name := "most", desc := "()I" } : Jvm.MethodName)) ∈ kw := kw_of (List.mem_append_right _ (List.mem_of_getElem? (i := 777) (by decide +kernel))) (by decide +kernel)
theorem kw_779 : (Jvm.Cond.instanceMethod ({ cls := "OpenDealModel", name := "most", desc := "()I" } : Jvm.MethodName)) ∈ kw := kw_of (List.mem_append_right _ (List.mem_of_getElem? (i := 779) (by decide +kernel))) (by decide +kernel)
set_option maxRecDepth 100000 in
theorem kw_780 : (Jvm.Cond.code ({ cls := "OpenDealModel", name := "most", desc := "()I" } : Jvm.MethodName) prog_7_method_33_code (3 : Nat) (Option.some Jvm.ClassFile.FieldType.int)) ∈ kw := kw_of (List.mem_append_right _ (List.mem_of_getElem? (i := 780) rfl)) (by decide +kernel)
theorem kw_781 : (Jvm.Cond.methodLink "OpenDealModel" (196 : Nat) ({ cls := "OpenDealModel", name := "pay", desc := "(II)V" } : Jvm.MethodName)) ∈ kw := kw_of (List.mem_append_right _ (List.mem_of_getElem? (i := 781) (by decide +kernel))) (by decide +kernel)
theorem kw_783 : (Jvm.Cond.instanceMethod ({ cls := "OpenDealModel", name := "pay", desc := "(II)V" } : Jvm.MethodName)) ∈ kw := kw_of (List.mem_append_right _ (List.mem_of_getElem? (i := 783) (by decide +kernel))) (by decide +kernel)
set_option maxRecDepth 100000 in
theorem kw_784 : (Jvm.Cond.code ({ cls := "OpenDealModel", name := "pay", desc := "(II)V" } : Jvm.MethodName) prog_7_method_37_code (3 : Nat) (Option.none : Option Jvm.ClassFile.FieldType)) ∈ kw := kw_of (List.mem_append_right _ (List.mem_of_getElem? (i := 784) rfl)) (by decide +kernel)
theorem kw_785 : (Jvm.Cond.methodLink "OpenDealLaw" (96 : Nat) ({ cls := "OpenDealModel", name := "settle", desc := "(I)Z" } : Jvm.MethodName)) ∈ kw := kw_of (List.mem_append_right _ (List.mem_of_getElem? (i := 785) (by decide +kernel))) (by decide +kernel)
theorem kw_786 : (Jvm.Cond.instanceMethod ({ cls := "OpenDealModel", name := "settle", desc := "(I)Z" } : Jvm.MethodName)) ∈ kw := kw_of (List.mem_append_right _ (List.mem_of_getElem? (i := 786) (by decide +kernel))) (by decide +kernel)
theorem kw_787 : (Jvm.Cond.selects "OpenDealModel" ({ cls := "OpenDealModel", name := "settle", desc := "(I)Z" } : Jvm.MethodName) ({ cls := "OpenDealModel", name := "settle", desc := "(I)Z" } : Jvm.MethodName)) ∈ kw := kw_of (List.mem_append_right _ (List.mem_of_getElem? (i := 787) (by decide +kernel))) (by decide +kernel)
set_option maxRecDepth 100000 in
theorem kw_788 : (Jvm.Cond.code ({ cls := "OpenDealModel", name := "settle", desc := "(I)Z" } : Jvm.MethodName) prog_7_method_40_code (3 : Nat) (Option.some Jvm.ClassFile.FieldType.boolean)) ∈ kw := kw_of (List.mem_append_right _ (List.mem_of_getElem? (i := 788) rfl)) (by decide +kernel)
theorem kw_789 : (Jvm.Cond.methodLink "OpenDealModel" (200 : Nat) ({ cls := "OpenDealModel", name := "payLayer", desc := "(I)Z" } : Jvm.MethodName)) ∈ kw := kw_of (List.mem_append_right _ (List.mem_of_getElem? (i := 789) (by decide +kernel))) (by decide +kernel)
theorem kw_791 : (Jvm.Cond.instanceMethod ({ cls := "OpenDealModel", name := "payLayer", desc := "(I)Z" } : Jvm.MethodName)) ∈ kw := kw_of (List.mem_append_right _ (List.mem_of_getElem? (i := 791) (by decide +kernel))) (by decide +kernel)
set_option maxRecDepth 100000 in
theorem kw_792 : (Jvm.Cond.code ({ cls := "OpenDealModel", name := "payLayer", desc := "(I)Z" } : Jvm.MethodName) prog_7_method_39_code (8 : Nat) (Option.some Jvm.ClassFile.FieldType.boolean)) ∈ kw := kw_of (List.mem_append_right _ (List.mem_of_getElem? (i := 792) rfl)) (by decide +kernel)
theorem kw_793 : (Jvm.Cond.methodLink "OpenDealLaw" (100 : Nat) ({ cls := "OpenDealModel", name := "show", desc := "(I)Z" } : Jvm.MethodName)) ∈ kw := kw_of (List.mem_append_right _ (List.mem_of_getElem? (i := 793) (by decide +kernel))) (by decide +kernel)
theorem kw_794 : (Jvm.Cond.instanceMethod ({ cls := "OpenDealModel", name := "show", desc := "(I)Z" } : Jvm.MethodName)) ∈ kw := kw_of (List.mem_append_right _ (List.mem_of_getElem? (i := 794) (by decide +kernel))) (by decide +kernel)
theorem kw_795 : (Jvm.Cond.selects "OpenDealModel" ({ cls := "OpenDealModel", name := "show", desc := "(I)Z" } : Jvm.MethodName) ({ cls := "OpenDealModel", name := "show", desc := "(I)Z" } : Jvm.MethodName)) ∈ kw := kw_of (List.mem_append_right _ (List.mem_of_getElem? (i := 795) (by decide +kernel))) (by decide +kernel)
set_option maxRecDepth 100000 in
theorem kw_796 : (Jvm.Cond.code ({ cls := "OpenDealModel", name := "show", desc := "(I)Z" } : Jvm.MethodName) prog_7_method_41_code (4 : Nat) (Option.some Jvm.ClassFile.FieldType.boolean)) ∈ kw := kw_of (List.mem_append_right _ (List.mem_of_getElem? (i := 796) rfl)) (by decide +kernel)
theorem kw_797 : (Jvm.Cond.methodLink "OpenDealLaw" (104 : Nat) ({ cls := "OpenDealModel", name := "audit", desc := "()I" } : Jvm.MethodName)) ∈ kw := kw_of (List.mem_append_right _ (List.mem_of_getElem? (i := 797) (by decide +kernel))) (by decide +kernel)
theorem kw_798 : (Jvm.Cond.instanceMethod ({ cls := "OpenDealModel", name := "audit", desc := "()I" } : Jvm.MethodName)) ∈ kw := kw_of (List.mem_append_right _ (List.mem_of_getElem? (i := 798) (by decide +kernel))) (by decide +kernel)
theorem kw_799 : (Jvm.Cond.selects "OpenDealModel" ({ cls := "OpenDealModel", name := "audit", desc := "()I" } : Jvm.MethodName) ({ cls := "OpenDealModel", name := "audit", desc := "()I" } : Jvm.MethodName)) ∈ kw := kw_of (List.mem_append_right _ (List.mem_of_getElem? (i := 799) (by decide +kernel))) (by decide +kernel)
set_option maxRecDepth 100000 in
theorem kw_800 : (Jvm.Cond.code ({ cls := "OpenDealModel", name := "audit", desc := "()I" } : Jvm.MethodName) prog_7_method_44_code (4 : Nat) (Option.some Jvm.ClassFile.FieldType.int)) ∈ kw := kw_of (List.mem_append_right _ (List.mem_of_getElem? (i := 800) rfl)) (by decide +kernel)
theorem kw_801 : (Jvm.Cond.methodLink "OpenDealModel" (203 : Nat) ({ cls := "OpenDealModel", name := "fitsLocked", desc := "(I)Z" } : Jvm.MethodName)) ∈ kw := kw_of (List.mem_append_right _ (List.mem_of_getElem? (i := 801) (by decide +kernel))) (by decide +kernel)
theorem kw_803 : (Jvm.Cond.instanceMethod ({ cls := "OpenDealModel", name := "fitsLocked", desc := "(I)Z" } : Jvm.MethodName)) ∈ kw := kw_of (List.mem_append_right _ (List.mem_of_getElem? (i := 803) (by decide +kernel))) (by decide +kernel)
set_option maxRecDepth 100000 in
theorem kw_804 : (Jvm.Cond.code ({ cls := "OpenDealModel", name := "fitsLocked", desc := "(I)Z" } : Jvm.MethodName) prog_7_method_42_code (3 : Nat) (Option.some Jvm.ClassFile.FieldType.boolean)) ∈ kw := kw_of (List.mem_append_right _ (List.mem_of_getElem? (i := 804) rfl)) (by decide +kernel)
theorem kw_805 : (Jvm.Cond.methodLink "OpenDealModel" (206 : Nat) ({ cls := "OpenDealModel", name := "fitsRelocked", desc := "(I)Z" } : Jvm.MethodName)) ∈ kw := kw_of (List.mem_append_right _ (List.mem_of_getElem? (i := 805) (by decide +kernel))) (by decide +kernel)
theorem kw_807 : (Jvm.Cond.instanceMethod ({ cls := "OpenDealModel", name := "fitsRelocked", desc := "(I)Z" } : Jvm.MethodName)) ∈ kw := kw_of (List.mem_append_right _ (List.mem_of_getElem? (i := 807) (by decide +kernel))) (by decide +kernel)
set_option maxRecDepth 100000 in
theorem kw_808 : (Jvm.Cond.code ({ cls := "OpenDealModel", name := "fitsRelocked", desc := "(I)Z" } : Jvm.MethodName) prog_7_method_43_code (3 : Nat) (Option.some Jvm.ClassFile.FieldType.boolean)) ∈ kw := kw_of (List.mem_append_right _ (List.mem_of_getElem? (i := 808) rfl)) (by decide +kernel)
theorem kw_809 : (Jvm.Cond.methodLink "OpenDealLaw" (108 : Nat) ({ cls := "OpenDealModel", name := "cheat", desc := "(III)Z" } : Jvm.MethodName)) ∈ kw := kw_of (List.mem_append_right _ (List.mem_of_getElem? (i := 809) (by decide +kernel))) (by decide +kernel)
theorem kw_810 : (Jvm.Cond.instanceMethod ({ cls := "OpenDealModel", name := "cheat", desc := "(III)Z" } : Jvm.MethodName)) ∈ kw := kw_of (List.mem_append_right _ (List.mem_of_getElem? (i := 810) (by decide +kernel))) (by decide +kernel)
theorem kw_811 : (Jvm.Cond.selects "OpenDealModel" ({ cls := "OpenDealModel", name := "cheat", desc := "(III)Z" } : Jvm.MethodName) ({ cls := "OpenDealModel", name := "cheat", desc := "(III)Z" } : Jvm.MethodName)) ∈ kw := kw_of (List.mem_append_right _ (List.mem_of_getElem? (i := 811) (by decide +kernel))) (by decide +kernel)
set_option maxRecDepth 100000 in
theorem kw_812 : (Jvm.Cond.code ({ cls := "OpenDealModel", name := "cheat", desc := "(III)Z" } : Jvm.MethodName) prog_7_method_45_code (6 : Nat) (Option.some Jvm.ClassFile.FieldType.boolean)) ∈ kw := kw_of (List.mem_append_right _ (List.mem_of_getElem? (i := 812) rfl)) (by decide +kernel)
theorem kw_813 : (Jvm.Cond.methodLink "OpenDealLaw" (112 : Nat) ({ cls := "OpenDealModel", name := "state", desc := "(I)I" } : Jvm.MethodName)) ∈ kw := kw_of (List.mem_append_right _ (List.mem_of_getElem? (i := 813) (by decide +kernel))) (by decide +kernel)
theorem kw_814 : (Jvm.Cond.instanceMethod ({ cls := "OpenDealModel", name := "state", desc := "(I)I" } : Jvm.MethodName)) ∈ kw := kw_of (List.mem_append_right _ (List.mem_of_getElem? (i := 814) (by decide +kernel))) (by decide +kernel)
theorem kw_815 : (Jvm.Cond.selects "OpenDealModel" ({ cls := "OpenDealModel", name := "state", desc := "(I)I" } : Jvm.MethodName) ({ cls := "OpenDealModel", name := "state", desc := "(I)I" } : Jvm.MethodName)) ∈ kw := kw_of (List.mem_append_right _ (List.mem_of_getElem? (i := 815) (by decide +kernel))) (by decide +kernel)
set_option maxRecDepth 100000 in
theorem kw_816 : (Jvm.Cond.code ({ cls := "OpenDealModel", name := "state", desc := "(I)I" } : Jvm.MethodName) prog_7_method_46_code (4 : Nat) (Option.some Jvm.ClassFile.FieldType.int)) ∈ kw := kw_of (List.mem_append_right _ (List.mem_of_getElem? (i := 816) rfl)) (by decide +kernel)
theorem kw_817 : (Jvm.Cond.methodLink "OpenDealLaw" (116 : Nat) ({ cls := "OpenDealModel", name := "player", desc := "(II)I" } : Jvm.MethodName)) ∈ kw := kw_of (List.mem_append_right _ (List.mem_of_getElem? (i := 817) (by decide +kernel))) (by decide +kernel)
theorem kw_818 : (Jvm.Cond.instanceMethod ({ cls := "OpenDealModel", name := "player", desc := "(II)I" } : Jvm.MethodName)) ∈ kw := kw_of (List.mem_append_right _ (List.mem_of_getElem? (i := 818) (by decide +kernel))) (by decide +kernel)
theorem kw_819 : (Jvm.Cond.selects "OpenDealModel" ({ cls := "OpenDealModel", name := "player", desc := "(II)I" } : Jvm.MethodName) ({ cls := "OpenDealModel", name := "player", desc := "(II)I" } : Jvm.MethodName)) ∈ kw := kw_of (List.mem_append_right _ (List.mem_of_getElem? (i := 819) (by decide +kernel))) (by decide +kernel)
set_option maxRecDepth 100000 in
theorem kw_820 : (Jvm.Cond.code ({ cls := "OpenDealModel", name := "player", desc := "(II)I" } : Jvm.MethodName) prog_7_method_47_code (5 : Nat) (Option.some Jvm.ClassFile.FieldType.int)) ∈ kw := kw_of (List.mem_append_right _ (List.mem_of_getElem? (i := 820) rfl)) (by decide +kernel)
theorem kw_821 : (Jvm.Cond.constantLong "OpenDealLaw" (47 : Nat) (4294967295 : Int64)) ∈ kw := kw_of (List.mem_append_right _ (List.mem_of_getElem? (i := 821) (by decide +kernel))) (by decide +kernel)
theorem sel_O_countWithChips : Cond.selects "OpenDeal" ⟨"OpenDeal", "countWithChips", "()I"⟩ ⟨"OpenDeal", "countWithChips", "()I"⟩ ∈ kw := kw_of (List.mem_append_left _ (List.mem_of_getElem? (i := 0) (by decide +kernel))) (by decide +kernel)
theorem sel_O_isSeated : Cond.selects "OpenDeal" ⟨"OpenDeal", "isSeated", "(I)Z"⟩ ⟨"OpenDeal", "isSeated", "(I)Z"⟩ ∈ kw := kw_of (List.mem_append_left _ (List.mem_of_getElem? (i := 1) (by decide +kernel))) (by decide +kernel)
theorem sel_D_nextExponent : Cond.selects "OpenDeal$Draws" ⟨"OpenDeal$Draws", "nextExponent", "(I)I"⟩ ⟨"OpenDeal$Draws", "nextExponent", "(I)I"⟩ ∈ kw := kw_of (List.mem_append_left _ (List.mem_of_getElem? (i := 2) (by decide +kernel))) (by decide +kernel)
theorem sel_D_next : Cond.selects "OpenDeal$Draws" ⟨"OpenDeal$Draws", "next", "()I"⟩ ⟨"OpenDeal$Draws", "next", "()I"⟩ ∈ kw := kw_of (List.mem_append_left _ (List.mem_of_getElem? (i := 3) (by decide +kernel))) (by decide +kernel)
theorem sel_O_allSealed : Cond.selects "OpenDeal" ⟨"OpenDeal", "allSealed", "()Z"⟩ ⟨"OpenDeal", "allSealed", "()Z"⟩ ∈ kw := kw_of (List.mem_append_left _ (List.mem_of_getElem? (i := 4) (by decide +kernel))) (by decide +kernel)
theorem sel_O_nextToTurn : Cond.selects "OpenDeal" ⟨"OpenDeal", "nextToTurn", "()I"⟩ ⟨"OpenDeal", "nextToTurn", "()I"⟩ ∈ kw := kw_of (List.mem_append_left _ (List.mem_of_getElem? (i := 5) (by decide +kernel))) (by decide +kernel)
theorem sel_O_playerOfTurn : Cond.selects "OpenDeal" ⟨"OpenDeal", "playerOfTurn", "(I)I"⟩ ⟨"OpenDeal", "playerOfTurn", "(I)I"⟩ ∈ kw := kw_of (List.mem_append_left _ (List.mem_of_getElem? (i := 6) (by decide +kernel))) (by decide +kernel)
theorem sel_O_reckonTurn : Cond.selects "OpenDeal" ⟨"OpenDeal", "reckonTurn", "(ILOpenDeal$Secrets;[I)V"⟩ ⟨"OpenDeal", "reckonTurn", "(ILOpenDeal$Secrets;[I)V"⟩ ∈ kw := kw_of (List.mem_append_left _ (List.mem_of_getElem? (i := 7) (by decide +kernel))) (by decide +kernel)
theorem sel_O_spoil : Cond.selects "OpenDeal" ⟨"OpenDeal", "spoil", "([ILOpenDeal$Player;I)V"⟩ ⟨"OpenDeal", "spoil", "([ILOpenDeal$Player;I)V"⟩ ∈ kw := kw_of (List.mem_append_left _ (List.mem_of_getElem? (i := 8) (by decide +kernel))) (by decide +kernel)
theorem sel_O_mayOpen : Cond.selects "OpenDeal" ⟨"OpenDeal", "mayOpen", "(II)Z"⟩ ⟨"OpenDeal", "mayOpen", "(II)Z"⟩ ∈ kw := kw_of (List.mem_append_left _ (List.mem_of_getElem? (i := 9) (by decide +kernel))) (by decide +kernel)
theorem sel_O_cardOf : Cond.selects "OpenDeal" ⟨"OpenDeal", "cardOf", "(I)I"⟩ ⟨"OpenDeal", "cardOf", "(I)I"⟩ ∈ kw := kw_of (List.mem_append_left _ (List.mem_of_getElem? (i := 10) (by decide +kernel))) (by decide +kernel)
theorem sel_O_awaitAll : Cond.selects "OpenDeal" ⟨"OpenDeal", "awaitAll", "()V"⟩ ⟨"OpenDeal", "awaitAll", "()V"⟩ ∈ kw := kw_of (List.mem_append_left _ (List.mem_of_getElem? (i := 11) (by decide +kernel))) (by decide +kernel)
theorem sel_O_countAbleToAct : Cond.selects "OpenDeal" ⟨"OpenDeal", "countAbleToAct", "()I"⟩ ⟨"OpenDeal", "countAbleToAct", "()I"⟩ ∈ kw := kw_of (List.mem_append_left _ (List.mem_of_getElem? (i := 12) (by decide +kernel))) (by decide +kernel)
theorem sel_O_nextToAct : Cond.selects "OpenDeal" ⟨"OpenDeal", "nextToAct", "(I)I"⟩ ⟨"OpenDeal", "nextToAct", "(I)I"⟩ ∈ kw := kw_of (List.mem_append_left _ (List.mem_of_getElem? (i := 13) (by decide +kernel))) (by decide +kernel)
theorem sel_O_mostInRound : Cond.selects "OpenDeal" ⟨"OpenDeal", "mostInRound", "()I"⟩ ⟨"OpenDeal", "mostInRound", "()I"⟩ ∈ kw := kw_of (List.mem_append_left _ (List.mem_of_getElem? (i := 14) (by decide +kernel))) (by decide +kernel)
theorem sel_O_goOnWithRound : Cond.selects "OpenDeal" ⟨"OpenDeal", "goOnWithRound", "()V"⟩ ⟨"OpenDeal", "goOnWithRound", "()V"⟩ ∈ kw := kw_of (List.mem_append_left _ (List.mem_of_getElem? (i := 15) (by decide +kernel))) (by decide +kernel)
theorem sel_O_countIn : Cond.selects "OpenDeal" ⟨"OpenDeal", "countIn", "()I"⟩ ⟨"OpenDeal", "countIn", "()I"⟩ ∈ kw := kw_of (List.mem_append_left _ (List.mem_of_getElem? (i := 16) (by decide +kernel))) (by decide +kernel)
theorem sel_O_leastInHand : Cond.selects "OpenDeal" ⟨"OpenDeal", "leastInHand", "()I"⟩ ⟨"OpenDeal", "leastInHand", "()I"⟩ ∈ kw := kw_of (List.mem_append_left _ (List.mem_of_getElem? (i := 17) (by decide +kernel))) (by decide +kernel)
theorem sel_O_payLayer : Cond.selects "OpenDeal" ⟨"OpenDeal", "payLayer", "(II)V"⟩ ⟨"OpenDeal", "payLayer", "(II)V"⟩ ∈ kw := kw_of (List.mem_append_left _ (List.mem_of_getElem? (i := 18) (by decide +kernel))) (by decide +kernel)
theorem sel_O_bestRank : Cond.selects "OpenDeal" ⟨"OpenDeal", "bestRank", "(I)I"⟩ ⟨"OpenDeal", "bestRank", "(I)I"⟩ ∈ kw := kw_of (List.mem_append_left _ (List.mem_of_getElem? (i := 19) (by decide +kernel))) (by decide +kernel)
theorem sel_O_winsLayer : Cond.selects "OpenDeal" ⟨"OpenDeal", "winsLayer", "(III)Z"⟩ ⟨"OpenDeal", "winsLayer", "(III)Z"⟩ ∈ kw := kw_of (List.mem_append_left _ (List.mem_of_getElem? (i := 20) (by decide +kernel))) (by decide +kernel)
theorem sel_O_allShown : Cond.selects "OpenDeal" ⟨"OpenDeal", "allShown", "()Z"⟩ ⟨"OpenDeal", "allShown", "()Z"⟩ ∈ kw := kw_of (List.mem_append_left _ (List.mem_of_getElem? (i := 21) (by decide +kernel))) (by decide +kernel)
theorem sel_O_reckonAudit : Cond.selects "OpenDeal" ⟨"OpenDeal", "reckonAudit", "()I"⟩ ⟨"OpenDeal", "reckonAudit", "()I"⟩ ∈ kw := kw_of (List.mem_append_left _ (List.mem_of_getElem? (i := 22) (by decide +kernel))) (by decide +kernel)
theorem sel_O_sumInHand : Cond.selects "OpenDeal" ⟨"OpenDeal", "sumInHand", "()I"⟩ ⟨"OpenDeal", "sumInHand", "()I"⟩ ∈ kw := kw_of (List.mem_append_left _ (List.mem_of_getElem? (i := 23) (by decide +kernel))) (by decide +kernel)
theorem sel_M_beginDeck : Cond.selects "OpenDealModel" ⟨"OpenDealModel", "beginDeck", "()V"⟩ ⟨"OpenDealModel", "beginDeck", "()V"⟩ ∈ kw := kw_of (List.mem_append_left _ (List.mem_of_getElem? (i := 25) (by decide +kernel))) (by decide +kernel)
theorem sel_M_isPlayer : Cond.selects "OpenDealModel" ⟨"OpenDealModel", "isPlayer", "(I)Z"⟩ ⟨"OpenDealModel", "isPlayer", "(I)Z"⟩ ∈ kw := kw_of (List.mem_append_left _ (List.mem_of_getElem? (i := 26) (by decide +kernel))) (by decide +kernel)
theorem sel_M_isExponent : Cond.selects "OpenDealModel" ⟨"OpenDealModel", "isExponent", "(I)Z"⟩ ⟨"OpenDealModel", "isExponent", "(I)Z"⟩ ∈ kw := kw_of (List.mem_append_left _ (List.mem_of_getElem? (i := 27) (by decide +kernel))) (by decide +kernel)
theorem sel_M_raise : Cond.selects "OpenDealModel" ⟨"OpenDealModel", "raise", "(I)I"⟩ ⟨"OpenDealModel", "raise", "(I)I"⟩ ∈ kw := kw_of (List.mem_append_left _ (List.mem_of_getElem? (i := 28) (by decide +kernel))) (by decide +kernel)
theorem sel_M_makeOrder : Cond.selects "OpenDealModel" ⟨"OpenDealModel", "makeOrder", "(J)V"⟩ ⟨"OpenDealModel", "makeOrder", "(J)V"⟩ ∈ kw := kw_of (List.mem_append_left _ (List.mem_of_getElem? (i := 29) (by decide +kernel))) (by decide +kernel)
theorem sel_M_nextDraw : Cond.selects "OpenDealModel" ⟨"OpenDealModel", "nextDraw", "()I"⟩ ⟨"OpenDealModel", "nextDraw", "()I"⟩ ∈ kw := kw_of (List.mem_append_left _ (List.mem_of_getElem? (i := 30) (by decide +kernel))) (by decide +kernel)
theorem sel_M_makeLocks : Cond.selects "OpenDealModel" ⟨"OpenDealModel", "makeLocks", "(J)V"⟩ ⟨"OpenDealModel", "makeLocks", "(J)V"⟩ ∈ kw := kw_of (List.mem_append_left _ (List.mem_of_getElem? (i := 31) (by decide +kernel))) (by decide +kernel)
theorem sel_M_lockedAt : Cond.selects "OpenDealModel" ⟨"OpenDealModel", "lockedAt", "(III)I"⟩ ⟨"OpenDealModel", "lockedAt", "(III)I"⟩ ∈ kw := kw_of (List.mem_append_left _ (List.mem_of_getElem? (i := 32) (by decide +kernel))) (by decide +kernel)
theorem sel_M_relockedAt : Cond.selects "OpenDealModel" ⟨"OpenDealModel", "relockedAt", "(III)I"⟩ ⟨"OpenDealModel", "relockedAt", "(III)I"⟩ ∈ kw := kw_of (List.mem_append_left _ (List.mem_of_getElem? (i := 33) (by decide +kernel))) (by decide +kernel)
theorem sel_M_inverse : Cond.selects "OpenDealModel" ⟨"OpenDealModel", "inverse", "(I)I"⟩ ⟨"OpenDealModel", "inverse", "(I)I"⟩ ∈ kw := kw_of (List.mem_append_left _ (List.mem_of_getElem? (i := 34) (by decide +kernel))) (by decide +kernel)
theorem sel_M_cheated : Cond.selects "OpenDealModel" ⟨"OpenDealModel", "cheated", "(JII)I"⟩ ⟨"OpenDealModel", "cheated", "(JII)I"⟩ ∈ kw := kw_of (List.mem_append_left _ (List.mem_of_getElem? (i := 35) (by decide +kernel))) (by decide +kernel)
theorem sel_M_lockOf : Cond.selects "OpenDealModel" ⟨"OpenDealModel", "lockOf", "(II)I"⟩ ⟨"OpenDealModel", "lockOf", "(II)I"⟩ ∈ kw := kw_of (List.mem_append_left _ (List.mem_of_getElem? (i := 36) (by decide +kernel))) (by decide +kernel)
theorem sel_M_leastAbove : Cond.selects "OpenDealModel" ⟨"OpenDealModel", "leastAbove", "(I)I"⟩ ⟨"OpenDealModel", "leastAbove", "(I)I"⟩ ∈ kw := kw_of (List.mem_append_left _ (List.mem_of_getElem? (i := 37) (by decide +kernel))) (by decide +kernel)
theorem sel_M_canAct : Cond.selects "OpenDealModel" ⟨"OpenDealModel", "canAct", "(I)Z"⟩ ⟨"OpenDealModel", "canAct", "(I)Z"⟩ ∈ kw := kw_of (List.mem_append_left _ (List.mem_of_getElem? (i := 38) (by decide +kernel))) (by decide +kernel)
theorem sel_M_findNext : Cond.selects "OpenDealModel" ⟨"OpenDealModel", "findNext", "(I)V"⟩ ⟨"OpenDealModel", "findNext", "(I)V"⟩ ∈ kw := kw_of (List.mem_append_left _ (List.mem_of_getElem? (i := 39) (by decide +kernel))) (by decide +kernel)
theorem sel_M_many : Cond.selects "OpenDealModel" ⟨"OpenDealModel", "many", "()I"⟩ ⟨"OpenDealModel", "many", "()I"⟩ ∈ kw := kw_of (List.mem_append_left _ (List.mem_of_getElem? (i := 40) (by decide +kernel))) (by decide +kernel)
theorem sel_M_endRound : Cond.selects "OpenDealModel" ⟨"OpenDealModel", "endRound", "()V"⟩ ⟨"OpenDealModel", "endRound", "()V"⟩ ∈ kw := kw_of (List.mem_append_left _ (List.mem_of_getElem? (i := 41) (by decide +kernel))) (by decide +kernel)
theorem sel_M_most : Cond.selects "OpenDealModel" ⟨"OpenDealModel", "most", "()I"⟩ ⟨"OpenDealModel", "most", "()I"⟩ ∈ kw := kw_of (List.mem_append_left _ (List.mem_of_getElem? (i := 42) (by decide +kernel))) (by decide +kernel)
theorem sel_M_pay : Cond.selects "OpenDealModel" ⟨"OpenDealModel", "pay", "(II)V"⟩ ⟨"OpenDealModel", "pay", "(II)V"⟩ ∈ kw := kw_of (List.mem_append_left _ (List.mem_of_getElem? (i := 43) (by decide +kernel))) (by decide +kernel)
theorem sel_M_payLayer : Cond.selects "OpenDealModel" ⟨"OpenDealModel", "payLayer", "(I)Z"⟩ ⟨"OpenDealModel", "payLayer", "(I)Z"⟩ ∈ kw := kw_of (List.mem_append_left _ (List.mem_of_getElem? (i := 44) (by decide +kernel))) (by decide +kernel)
theorem sel_M_fitsLocked : Cond.selects "OpenDealModel" ⟨"OpenDealModel", "fitsLocked", "(I)Z"⟩ ⟨"OpenDealModel", "fitsLocked", "(I)Z"⟩ ∈ kw := kw_of (List.mem_append_left _ (List.mem_of_getElem? (i := 45) (by decide +kernel))) (by decide +kernel)
theorem sel_M_fitsRelocked : Cond.selects "OpenDealModel" ⟨"OpenDealModel", "fitsRelocked", "(I)Z"⟩ ⟨"OpenDealModel", "fitsRelocked", "(I)Z"⟩ ∈ kw := kw_of (List.mem_append_left _ (List.mem_of_getElem? (i := 46) (by decide +kernel))) (by decide +kernel)
end
section
/-! names, laid by program -/
abbrev cc_O_init : ByteArray := prog_1_method_1_code
abbrev yy_O_init : MethodName := ⟨"OpenDeal", "<init>", "()V"⟩
abbrev cc_O_prime : ByteArray := prog_1_method_2_code
abbrev yy_O_prime : MethodName := ⟨"OpenDeal", "prime", "(I)Z"⟩
abbrev cc_O_clear : ByteArray := prog_1_method_3_code
abbrev yy_O_clear : MethodName := ⟨"OpenDeal", "clear", "()V"⟩
abbrev cc_O_seat : ByteArray := prog_1_method_4_code
abbrev yy_O_seat : MethodName := ⟨"OpenDeal", "seat", "(I)I"⟩
abbrev cc_O_deal : ByteArray := prog_1_method_5_code
abbrev yy_O_deal : MethodName := ⟨"OpenDeal", "deal", "()Z"⟩
abbrev cc_O_seal : ByteArray := prog_1_method_6_code
abbrev yy_O_seal : MethodName := ⟨"OpenDeal", "seal", "(IIJJ)Z"⟩
abbrev cc_O_sealOf : ByteArray := prog_1_method_7_code
abbrev yy_O_sealOf : MethodName := ⟨"OpenDeal", "sealOf", "(I)J"⟩
abbrev cc_O_turn : ByteArray := prog_1_method_8_code
abbrev yy_O_turn : MethodName := ⟨"OpenDeal", "turn", "(I)Z"⟩
abbrev cc_O_laid : ByteArray := prog_1_method_9_code
abbrev yy_O_laid : MethodName := ⟨"OpenDeal", "laid", "(I)I"⟩
abbrev cc_O_assign : ByteArray := prog_1_method_10_code
abbrev yy_O_assign : MethodName := ⟨"OpenDeal", "assign", "(II)Z"⟩
abbrev cc_O_give : ByteArray := prog_1_method_11_code
abbrev yy_O_give : MethodName := ⟨"OpenDeal", "give", "(II)Z"⟩
abbrev cc_O_open : ByteArray := prog_1_method_12_code
abbrev yy_O_open : MethodName := ⟨"OpenDeal", "open", "(II)I"⟩
abbrev cc_O_round : ByteArray := prog_1_method_13_code
abbrev yy_O_round : MethodName := ⟨"OpenDeal", "round", "()Z"⟩
abbrev cc_O_bet : ByteArray := prog_1_method_14_code
abbrev yy_O_bet : MethodName := ⟨"OpenDeal", "bet", "(III)Z"⟩
abbrev cc_O_settle : ByteArray := prog_1_method_15_code
abbrev yy_O_settle : MethodName := ⟨"OpenDeal", "settle", "(I)Z"⟩
abbrev cc_O_show : ByteArray := prog_1_method_16_code
abbrev yy_O_show : MethodName := ⟨"OpenDeal", "show", "(I)Z"⟩
abbrev cc_O_audit : ByteArray := prog_1_method_17_code
abbrev yy_O_audit : MethodName := ⟨"OpenDeal", "audit", "()I"⟩
abbrev cc_O_cheat : ByteArray := prog_1_method_18_code
abbrev yy_O_cheat : MethodName := ⟨"OpenDeal", "cheat", "(III)Z"⟩
abbrev cc_O_state : ByteArray := prog_1_method_19_code
abbrev yy_O_state : MethodName := ⟨"OpenDeal", "state", "(I)I"⟩
abbrev cc_O_player : ByteArray := prog_1_method_20_code
abbrev yy_O_player : MethodName := ⟨"OpenDeal", "player", "(II)I"⟩
abbrev cc_O_isSeated : ByteArray := prog_1_method_21_code
abbrev yy_O_isSeated : MethodName := ⟨"OpenDeal", "isSeated", "(I)Z"⟩
abbrev cc_O_isPlace : ByteArray := prog_1_method_22_code
abbrev yy_O_isPlace : MethodName := ⟨"OpenDeal", "isPlace", "(I)Z"⟩
abbrev cc_O_countWithChips : ByteArray := prog_1_method_23_code
abbrev yy_O_countWithChips : MethodName := ⟨"OpenDeal", "countWithChips", "()I"⟩
abbrev cc_O_allSealed : ByteArray := prog_1_method_24_code
abbrev yy_O_allSealed : MethodName := ⟨"OpenDeal", "allSealed", "()Z"⟩
abbrev cc_O_allShown : ByteArray := prog_1_method_25_code
abbrev yy_O_allShown : MethodName := ⟨"OpenDeal", "allShown", "()Z"⟩
abbrev cc_O_nextToTurn : ByteArray := prog_1_method_26_code
abbrev yy_O_nextToTurn : MethodName := ⟨"OpenDeal", "nextToTurn", "()I"⟩
abbrev cc_O_playerOfTurn : ByteArray := prog_1_method_27_code
abbrev yy_O_playerOfTurn : MethodName := ⟨"OpenDeal", "playerOfTurn", "(I)I"⟩
abbrev cc_O_reckonTurn : ByteArray := prog_1_method_28_code
abbrev yy_O_reckonTurn : MethodName := ⟨"OpenDeal", "reckonTurn", "(ILOpenDeal$Secrets;[I)V"⟩
abbrev cc_O_spoil : ByteArray := prog_1_method_29_code
abbrev yy_O_spoil : MethodName := ⟨"OpenDeal", "spoil", "([ILOpenDeal$Player;I)V"⟩
abbrev cc_O_mayOpen : ByteArray := prog_1_method_30_code
abbrev yy_O_mayOpen : MethodName := ⟨"OpenDeal", "mayOpen", "(II)Z"⟩
abbrev cc_O_cardOf : ByteArray := prog_1_method_31_code
abbrev yy_O_cardOf : MethodName := ⟨"OpenDeal", "cardOf", "(I)I"⟩
abbrev cc_O_awaitAll : ByteArray := prog_1_method_32_code
abbrev yy_O_awaitAll : MethodName := ⟨"OpenDeal", "awaitAll", "()V"⟩
abbrev cc_O_goOnWithRound : ByteArray := prog_1_method_33_code
abbrev yy_O_goOnWithRound : MethodName := ⟨"OpenDeal", "goOnWithRound", "()V"⟩
abbrev cc_O_nextToAct : ByteArray := prog_1_method_34_code
abbrev yy_O_nextToAct : MethodName := ⟨"OpenDeal", "nextToAct", "(I)I"⟩
abbrev cc_O_countIn : ByteArray := prog_1_method_35_code
abbrev yy_O_countIn : MethodName := ⟨"OpenDeal", "countIn", "()I"⟩
abbrev cc_O_countAbleToAct : ByteArray := prog_1_method_36_code
abbrev yy_O_countAbleToAct : MethodName := ⟨"OpenDeal", "countAbleToAct", "()I"⟩
abbrev cc_O_mostInRound : ByteArray := prog_1_method_37_code
abbrev yy_O_mostInRound : MethodName := ⟨"OpenDeal", "mostInRound", "()I"⟩
abbrev cc_O_sumInHand : ByteArray := prog_1_method_38_code
abbrev yy_O_sumInHand : MethodName := ⟨"OpenDeal", "sumInHand", "()I"⟩
abbrev cc_O_leastInHand : ByteArray := prog_1_method_39_code
abbrev yy_O_leastInHand : MethodName := ⟨"OpenDeal", "leastInHand", "()I"⟩
abbrev cc_O_payLayer : ByteArray := prog_1_method_40_code
abbrev yy_O_payLayer : MethodName := ⟨"OpenDeal", "payLayer", "(II)V"⟩
abbrev cc_O_winsLayer : ByteArray := prog_1_method_41_code
abbrev yy_O_winsLayer : MethodName := ⟨"OpenDeal", "winsLayer", "(III)Z"⟩
abbrev cc_O_bestRank : ByteArray := prog_1_method_42_code
abbrev yy_O_bestRank : MethodName := ⟨"OpenDeal", "bestRank", "(I)I"⟩
abbrev cc_O_rankOf : ByteArray := prog_1_method_43_code
abbrev yy_O_rankOf : MethodName := ⟨"OpenDeal", "rankOf", "(II)I"⟩
abbrev cc_O_reckonAudit : ByteArray := prog_1_method_44_code
abbrev yy_O_reckonAudit : MethodName := ⟨"OpenDeal", "reckonAudit", "()I"⟩
abbrev cc_O_isSameDeck : ByteArray := prog_1_method_45_code
abbrev yy_O_isSameDeck : MethodName := ⟨"OpenDeal", "isSameDeck", "([I[I)Z"⟩
abbrev cc_M_init : ByteArray := prog_7_method_1_code
abbrev yy_M_init : MethodName := ⟨"OpenDealModel", "<init>", "()V"⟩
abbrev cc_M_thrown : ByteArray := prog_7_method_2_code
abbrev yy_M_thrown : MethodName := ⟨"OpenDealModel", "thrown", "()I"⟩
abbrev cc_M_raise : ByteArray := prog_7_method_3_code
abbrev yy_M_raise : MethodName := ⟨"OpenDealModel", "raise", "(I)I"⟩
abbrev cc_M_isPrime : ByteArray := prog_7_method_4_code
abbrev yy_M_isPrime : MethodName := ⟨"OpenDealModel", "isPrime", "(I)Z"⟩
abbrev cc_M_prime : ByteArray := prog_7_method_5_code
abbrev yy_M_prime : MethodName := ⟨"OpenDealModel", "prime", "(I)Z"⟩
abbrev cc_M_beginDeck : ByteArray := prog_7_method_6_code
abbrev yy_M_beginDeck : MethodName := ⟨"OpenDealModel", "beginDeck", "()V"⟩
abbrev cc_M_clear : ByteArray := prog_7_method_7_code
abbrev yy_M_clear : MethodName := ⟨"OpenDealModel", "clear", "()V"⟩
abbrev cc_M_seat : ByteArray := prog_7_method_8_code
abbrev yy_M_seat : MethodName := ⟨"OpenDealModel", "seat", "(I)I"⟩
abbrev cc_M_isPlayer : ByteArray := prog_7_method_9_code
abbrev yy_M_isPlayer : MethodName := ⟨"OpenDealModel", "isPlayer", "(I)Z"⟩
abbrev cc_M_isPlace : ByteArray := prog_7_method_10_code
abbrev yy_M_isPlace : MethodName := ⟨"OpenDealModel", "isPlace", "(I)Z"⟩
abbrev cc_M_deal : ByteArray := prog_7_method_11_code
abbrev yy_M_deal : MethodName := ⟨"OpenDealModel", "deal", "()Z"⟩
abbrev cc_M_power : ByteArray := prog_7_method_12_code
abbrev yy_M_power : MethodName := ⟨"OpenDealModel", "power", "(III)I"⟩
abbrev cc_M_isExponent : ByteArray := prog_7_method_13_code
abbrev yy_M_isExponent : MethodName := ⟨"OpenDealModel", "isExponent", "(I)Z"⟩
abbrev cc_M_inverse : ByteArray := prog_7_method_14_code
abbrev yy_M_inverse : MethodName := ⟨"OpenDealModel", "inverse", "(I)I"⟩
abbrev cc_M_leastAbove : ByteArray := prog_7_method_15_code
abbrev yy_M_leastAbove : MethodName := ⟨"OpenDealModel", "leastAbove", "(I)I"⟩
abbrev cc_M_nextDraw : ByteArray := prog_7_method_16_code
abbrev yy_M_nextDraw : MethodName := ⟨"OpenDealModel", "nextDraw", "()I"⟩
abbrev cc_M_makeOrder : ByteArray := prog_7_method_17_code
abbrev yy_M_makeOrder : MethodName := ⟨"OpenDealModel", "makeOrder", "(J)V"⟩
abbrev cc_M_makeLocks : ByteArray := prog_7_method_18_code
abbrev yy_M_makeLocks : MethodName := ⟨"OpenDealModel", "makeLocks", "(J)V"⟩
abbrev cc_M_sealOf : ByteArray := prog_7_method_19_code
abbrev yy_M_sealOf : MethodName := ⟨"OpenDealModel", "sealOf", "(IJJ)J"⟩
abbrev cc_M_sealOf2 : ByteArray := prog_7_method_21_code
abbrev yy_M_sealOf2 : MethodName := ⟨"OpenDealModel", "sealOf", "(I)J"⟩
abbrev cc_M_seal : ByteArray := prog_7_method_20_code
abbrev yy_M_seal : MethodName := ⟨"OpenDealModel", "seal", "(IIJJ)Z"⟩
abbrev cc_M_lockedAt : ByteArray := prog_7_method_22_code
abbrev yy_M_lockedAt : MethodName := ⟨"OpenDealModel", "lockedAt", "(III)I"⟩
abbrev cc_M_relockedAt : ByteArray := prog_7_method_23_code
abbrev yy_M_relockedAt : MethodName := ⟨"OpenDealModel", "relockedAt", "(III)I"⟩
abbrev cc_M_cheated : ByteArray := prog_7_method_24_code
abbrev yy_M_cheated : MethodName := ⟨"OpenDealModel", "cheated", "(JII)I"⟩
abbrev cc_M_turn : ByteArray := prog_7_method_25_code
abbrev yy_M_turn : MethodName := ⟨"OpenDealModel", "turn", "(I)Z"⟩
abbrev cc_M_laid : ByteArray := prog_7_method_26_code
abbrev yy_M_laid : MethodName := ⟨"OpenDealModel", "laid", "(I)I"⟩
abbrev cc_M_assign : ByteArray := prog_7_method_27_code
abbrev yy_M_assign : MethodName := ⟨"OpenDealModel", "assign", "(II)Z"⟩
abbrev cc_M_lockOf : ByteArray := prog_7_method_28_code
abbrev yy_M_lockOf : MethodName := ⟨"OpenDealModel", "lockOf", "(II)I"⟩
abbrev cc_M_give : ByteArray := prog_7_method_29_code
abbrev yy_M_give : MethodName := ⟨"OpenDealModel", "give", "(II)Z"⟩
abbrev cc_M_open : ByteArray := prog_7_method_30_code
abbrev yy_M_open : MethodName := ⟨"OpenDealModel", "open", "(II)I"⟩
abbrev cc_M_canAct : ByteArray := prog_7_method_31_code
abbrev yy_M_canAct : MethodName := ⟨"OpenDealModel", "canAct", "(I)Z"⟩
abbrev cc_M_many : ByteArray := prog_7_method_32_code
abbrev yy_M_many : MethodName := ⟨"OpenDealModel", "many", "()I"⟩
abbrev cc_M_most : ByteArray := prog_7_method_33_code
abbrev yy_M_most : MethodName := ⟨"OpenDealModel", "most", "()I"⟩
abbrev cc_M_findNext : ByteArray := prog_7_method_34_code
abbrev yy_M_findNext : MethodName := ⟨"OpenDealModel", "findNext", "(I)V"⟩
abbrev cc_M_endRound : ByteArray := prog_7_method_35_code
abbrev yy_M_endRound : MethodName := ⟨"OpenDealModel", "endRound", "()V"⟩
abbrev cc_M_round : ByteArray := prog_7_method_36_code
abbrev yy_M_round : MethodName := ⟨"OpenDealModel", "round", "()Z"⟩
abbrev cc_M_pay : ByteArray := prog_7_method_37_code
abbrev yy_M_pay : MethodName := ⟨"OpenDealModel", "pay", "(II)V"⟩
abbrev cc_M_bet : ByteArray := prog_7_method_38_code
abbrev yy_M_bet : MethodName := ⟨"OpenDealModel", "bet", "(III)Z"⟩
abbrev cc_M_payLayer : ByteArray := prog_7_method_39_code
abbrev yy_M_payLayer : MethodName := ⟨"OpenDealModel", "payLayer", "(I)Z"⟩
abbrev cc_M_settle : ByteArray := prog_7_method_40_code
abbrev yy_M_settle : MethodName := ⟨"OpenDealModel", "settle", "(I)Z"⟩
abbrev cc_M_show : ByteArray := prog_7_method_41_code
abbrev yy_M_show : MethodName := ⟨"OpenDealModel", "show", "(I)Z"⟩
abbrev cc_M_fitsLocked : ByteArray := prog_7_method_42_code
abbrev yy_M_fitsLocked : MethodName := ⟨"OpenDealModel", "fitsLocked", "(I)Z"⟩
abbrev cc_M_fitsRelocked : ByteArray := prog_7_method_43_code
abbrev yy_M_fitsRelocked : MethodName := ⟨"OpenDealModel", "fitsRelocked", "(I)Z"⟩
abbrev cc_M_audit : ByteArray := prog_7_method_44_code
abbrev yy_M_audit : MethodName := ⟨"OpenDealModel", "audit", "()I"⟩
abbrev cc_M_cheat : ByteArray := prog_7_method_45_code
abbrev yy_M_cheat : MethodName := ⟨"OpenDealModel", "cheat", "(III)Z"⟩
abbrev cc_M_state : ByteArray := prog_7_method_46_code
abbrev yy_M_state : MethodName := ⟨"OpenDealModel", "state", "(I)I"⟩
abbrev cc_M_player : ByteArray := prog_7_method_47_code
abbrev yy_M_player : MethodName := ⟨"OpenDealModel", "player", "(II)I"⟩
abbrev cc_D_init : ByteArray := prog_2_method_1_code
abbrev yy_D_init : MethodName := ⟨"OpenDeal$Draws", "<init>", "(J)V"⟩
abbrev cc_D_fillOrder : ByteArray := prog_2_method_2_code
abbrev yy_D_fillOrder : MethodName := ⟨"OpenDeal$Draws", "fillOrder", "(J[I)V"⟩
abbrev cc_D_fillLocks : ByteArray := prog_2_method_3_code
abbrev yy_D_fillLocks : MethodName := ⟨"OpenDeal$Draws", "fillLocks", "(JI[I)V"⟩
abbrev cc_D_next : ByteArray := prog_2_method_4_code
abbrev yy_D_next : MethodName := ⟨"OpenDeal$Draws", "next", "()I"⟩
abbrev cc_D_nextExponent : ByteArray := prog_2_method_5_code
abbrev yy_D_nextExponent : MethodName := ⟨"OpenDeal$Draws", "nextExponent", "(I)I"⟩
abbrev cc_N_isTablePrime : ByteArray := prog_3_method_2_code
abbrev yy_N_isTablePrime : MethodName := ⟨"OpenDeal$Numbers", "isTablePrime", "(I)Z"⟩
abbrev cc_N_isPrime : ByteArray := prog_3_method_3_code
abbrev yy_N_isPrime : MethodName := ⟨"OpenDeal$Numbers", "isPrime", "(I)Z"⟩
abbrev cc_N_looksPrime : ByteArray := prog_3_method_4_code
abbrev yy_N_looksPrime : MethodName := ⟨"OpenDeal$Numbers", "looksPrime", "(II)Z"⟩
abbrev cc_N_ofCard : ByteArray := prog_3_method_5_code
abbrev yy_N_ofCard : MethodName := ⟨"OpenDeal$Numbers", "ofCard", "(II)I"⟩
abbrev cc_N_isExponent : ByteArray := prog_3_method_6_code
abbrev yy_N_isExponent : MethodName := ⟨"OpenDeal$Numbers", "isExponent", "(II)Z"⟩
abbrev cc_N_exponentAbove : ByteArray := prog_3_method_7_code
abbrev yy_N_exponentAbove : MethodName := ⟨"OpenDeal$Numbers", "exponentAbove", "(II)I"⟩
abbrev cc_N_inverse : ByteArray := prog_3_method_8_code
abbrev yy_N_inverse : MethodName := ⟨"OpenDeal$Numbers", "inverse", "(II)I"⟩
abbrev cc_N_times : ByteArray := prog_3_method_9_code
abbrev yy_N_times : MethodName := ⟨"OpenDeal$Numbers", "times", "(III)I"⟩
abbrev cc_N_power : ByteArray := prog_3_method_10_code
abbrev yy_N_power : MethodName := ⟨"OpenDeal$Numbers", "power", "(III)I"⟩
abbrev cc_P_init : ByteArray := prog_4_method_1_code
abbrev yy_P_init : MethodName := ⟨"OpenDeal$Player", "<init>", "()V"⟩
abbrev cc_P_beginHand : ByteArray := prog_4_method_2_code
abbrev yy_P_beginHand : MethodName := ⟨"OpenDeal$Player", "beginHand", "()V"⟩
abbrev cc_P_canAct : ByteArray := prog_4_method_3_code
abbrev yy_P_canAct : MethodName := ⟨"OpenDeal$Player", "canAct", "()Z"⟩
abbrev cc_P_isInFor : ByteArray := prog_4_method_4_code
abbrev yy_P_isInFor : MethodName := ⟨"OpenDeal$Player", "isInFor", "()Z"⟩
abbrev cc_P_putIn : ByteArray := prog_4_method_5_code
abbrev yy_P_putIn : MethodName := ⟨"OpenDeal$Player", "putIn", "(I)V"⟩
abbrev cc_P_hasGiven : ByteArray := prog_4_method_6_code
abbrev yy_P_hasGiven : MethodName := ⟨"OpenDeal$Player", "hasGiven", "(I)Z"⟩
abbrev cc_P_gaveWrong : ByteArray := prog_4_method_7_code
abbrev yy_P_gaveWrong : MethodName := ⟨"OpenDeal$Player", "gaveWrong", "(I)Z"⟩
abbrev cc_P_countGiven : ByteArray := prog_4_method_8_code
abbrev yy_P_countGiven : MethodName := ⟨"OpenDeal$Player", "countGiven", "()I"⟩
abbrev cc_P_cheatsAt : ByteArray := prog_4_method_9_code
abbrev yy_P_cheatsAt : MethodName := ⟨"OpenDeal$Player", "cheatsAt", "(II)Z"⟩
abbrev cc_P_showSecrets : ByteArray := prog_4_method_10_code
abbrev yy_P_showSecrets : MethodName := ⟨"OpenDeal$Player", "showSecrets", "(I)V"⟩
abbrev cc_S_init : ByteArray := prog_5_method_1_code
abbrev yy_S_init : MethodName := ⟨"OpenDeal$Secrets", "<init>", "()V"⟩
abbrev cc_S_keep : ByteArray := prog_5_method_2_code
abbrev yy_S_keep : MethodName := ⟨"OpenDeal$Secrets", "keep", "(IJJ)V"⟩
abbrev cc_S_mark : ByteArray := prog_5_method_3_code
abbrev yy_S_mark : MethodName := ⟨"OpenDeal$Secrets", "mark", "()J"⟩
abbrev cc_Z_max : ByteArray := prog_11_method_65_code
abbrev yy_Z_max : MethodName := ⟨"java/lang/Math", "max", "(II)I"⟩
abbrev cc_Z_min : ByteArray := prog_11_method_69_code
abbrev yy_Z_min : MethodName := ⟨"java/lang/Math", "min", "(II)I"⟩
abbrev cc_A_fill : ByteArray := prog_15_method_103_code
abbrev yy_A_fill : MethodName := ⟨"java/util/Arrays", "fill", "([II)V"⟩
abbrev cc_A_fill2 : ByteArray := prog_15_method_101_code
abbrev yy_A_fill2 : MethodName := ⟨"java/util/Arrays", "fill", "([JJ)V"⟩
end
section
/-! decode rows, laid by program -/
theorem dd_M_init_0 : decode cc_M_init 0 = .ok (.aload_n 0, 1) := by decide +kernel
theorem dd_M_init_1 : decode cc_M_init 1 = .ok (.invokespecial 1, 3) := by decide +kernel
theorem dd_M_init_4 : decode cc_M_init 4 = .ok (.aload_n 0, 1) := by decide +kernel
theorem dd_M_init_5 : decode cc_M_init 5 = .ok (.iconst 4, 1) := by decide +kernel
theorem dd_M_init_6 : decode cc_M_init 6 = .ok (.newarray .int, 2) := by decide +kernel
theorem dd_M_init_8 : decode cc_M_init 8 = .ok (.putfield 7, 3) := by decide +kernel
theorem dd_M_init_11 : decode cc_M_init 11 = .ok (.aload_n 0, 1) := by decide +kernel
theorem dd_M_init_12 : decode cc_M_init 12 = .ok (.iconst 4, 1) := by decide +kernel
theorem dd_M_init_13 : decode cc_M_init 13 = .ok (.newarray .boolean, 2) := by decide +kernel
theorem dd_M_init_15 : decode cc_M_init 15 = .ok (.putfield 13, 3) := by decide +kernel
theorem dd_M_init_18 : decode cc_M_init 18 = .ok (.aload_n 0, 1) := by decide +kernel
theorem dd_M_init_19 : decode cc_M_init 19 = .ok (.iconst 4, 1) := by decide +kernel
theorem dd_M_init_20 : decode cc_M_init 20 = .ok (.newarray .long, 2) := by decide +kernel
theorem dd_M_init_22 : decode cc_M_init 22 = .ok (.putfield 17, 3) := by decide +kernel
theorem dd_M_init_25 : decode cc_M_init 25 = .ok (.aload_n 0, 1) := by decide +kernel
theorem dd_M_init_26 : decode cc_M_init 26 = .ok (.iconst 4, 1) := by decide +kernel
theorem dd_M_init_27 : decode cc_M_init 27 = .ok (.newarray .int, 2) := by decide +kernel
theorem dd_M_init_29 : decode cc_M_init 29 = .ok (.putfield 21, 3) := by decide +kernel
theorem dd_M_init_32 : decode cc_M_init 32 = .ok (.aload_n 0, 1) := by decide +kernel
theorem dd_M_init_33 : decode cc_M_init 33 = .ok (.iconst 4, 1) := by decide +kernel
theorem dd_M_init_34 : decode cc_M_init 34 = .ok (.newarray .long, 2) := by decide +kernel
theorem dd_M_init_36 : decode cc_M_init 36 = .ok (.putfield 24, 3) := by decide +kernel
theorem dd_M_init_39 : decode cc_M_init 39 = .ok (.aload_n 0, 1) := by decide +kernel
theorem dd_M_init_40 : decode cc_M_init 40 = .ok (.iconst 4, 1) := by decide +kernel
theorem dd_M_init_41 : decode cc_M_init 41 = .ok (.newarray .long, 2) := by decide +kernel
theorem dd_M_init_43 : decode cc_M_init 43 = .ok (.putfield 27, 3) := by decide +kernel
theorem dd_M_init_46 : decode cc_M_init 46 = .ok (.aload_n 0, 1) := by decide +kernel
theorem dd_M_init_47 : decode cc_M_init 47 = .ok (.iconst 4, 1) := by decide +kernel
theorem dd_M_init_48 : decode cc_M_init 48 = .ok (.newarray .boolean, 2) := by decide +kernel
theorem dd_M_init_50 : decode cc_M_init 50 = .ok (.putfield 30, 3) := by decide +kernel
theorem dd_M_init_53 : decode cc_M_init 53 = .ok (.aload_n 0, 1) := by decide +kernel
theorem dd_M_init_54 : decode cc_M_init 54 = .ok (.iconst 4, 1) := by decide +kernel
theorem dd_M_init_55 : decode cc_M_init 55 = .ok (.newarray .int, 2) := by decide +kernel
theorem dd_M_init_57 : decode cc_M_init 57 = .ok (.putfield 33, 3) := by decide +kernel
theorem dd_M_init_60 : decode cc_M_init 60 = .ok (.aload_n 0, 1) := by decide +kernel
theorem dd_M_init_61 : decode cc_M_init 61 = .ok (.iconst 4, 1) := by decide +kernel
theorem dd_M_init_62 : decode cc_M_init 62 = .ok (.newarray .long, 2) := by decide +kernel
theorem dd_M_init_64 : decode cc_M_init 64 = .ok (.putfield 36, 3) := by decide +kernel
theorem dd_M_init_67 : decode cc_M_init 67 = .ok (.aload_n 0, 1) := by decide +kernel
theorem dd_M_init_68 : decode cc_M_init 68 = .ok (.iconst 4, 1) := by decide +kernel
theorem dd_M_init_69 : decode cc_M_init 69 = .ok (.newarray .long, 2) := by decide +kernel
theorem dd_M_init_71 : decode cc_M_init 71 = .ok (.putfield 39, 3) := by decide +kernel
theorem dd_M_init_74 : decode cc_M_init 74 = .ok (.aload_n 0, 1) := by decide +kernel
theorem dd_M_init_75 : decode cc_M_init 75 = .ok (.iconst 4, 1) := by decide +kernel
theorem dd_M_init_76 : decode cc_M_init 76 = .ok (.newarray .long, 2) := by decide +kernel
theorem dd_M_init_78 : decode cc_M_init 78 = .ok (.putfield 42, 3) := by decide +kernel
theorem dd_M_init_81 : decode cc_M_init 81 = .ok (.aload_n 0, 1) := by decide +kernel
theorem dd_M_init_82 : decode cc_M_init 82 = .ok (.iconst 4, 1) := by decide +kernel
theorem dd_M_init_83 : decode cc_M_init 83 = .ok (.newarray .long, 2) := by decide +kernel
theorem dd_M_init_85 : decode cc_M_init 85 = .ok (.putfield 45, 3) := by decide +kernel
theorem dd_M_init_88 : decode cc_M_init 88 = .ok (.aload_n 0, 1) := by decide +kernel
theorem dd_M_init_89 : decode cc_M_init 89 = .ok (.iconst 4, 1) := by decide +kernel
theorem dd_M_init_90 : decode cc_M_init 90 = .ok (.newarray .boolean, 2) := by decide +kernel
theorem dd_M_init_92 : decode cc_M_init 92 = .ok (.putfield 48, 3) := by decide +kernel
theorem dd_M_init_95 : decode cc_M_init 95 = .ok (.aload_n 0, 1) := by decide +kernel
theorem dd_M_init_96 : decode cc_M_init 96 = .ok (.iconst 4, 1) := by decide +kernel
theorem dd_M_init_97 : decode cc_M_init 97 = .ok (.newarray .boolean, 2) := by decide +kernel
theorem dd_M_init_99 : decode cc_M_init 99 = .ok (.putfield 51, 3) := by decide +kernel
theorem dd_M_init_102 : decode cc_M_init 102 = .ok (.aload_n 0, 1) := by decide +kernel
theorem dd_M_init_103 : decode cc_M_init 103 = .ok (.sipush (468), 3) := by decide +kernel
theorem dd_M_init_106 : decode cc_M_init 106 = .ok (.newarray .int, 2) := by decide +kernel
theorem dd_M_init_108 : decode cc_M_init 108 = .ok (.putfield 54, 3) := by decide +kernel
theorem dd_M_init_111 : decode cc_M_init 111 = .ok (.aload_n 0, 1) := by decide +kernel
theorem dd_M_init_112 : decode cc_M_init 112 = .ok (.bipush (52), 2) := by decide +kernel
theorem dd_M_init_114 : decode cc_M_init 114 = .ok (.newarray .int, 2) := by decide +kernel
theorem dd_M_init_116 : decode cc_M_init 116 = .ok (.putfield 57, 3) := by decide +kernel
theorem dd_M_init_119 : decode cc_M_init 119 = .ok (.aload_n 0, 1) := by decide +kernel
theorem dd_M_init_120 : decode cc_M_init 120 = .ok (.bipush (52), 2) := by decide +kernel
theorem dd_M_init_122 : decode cc_M_init 122 = .ok (.newarray .int, 2) := by decide +kernel
theorem dd_M_init_124 : decode cc_M_init 124 = .ok (.putfield 60, 3) := by decide +kernel
theorem dd_M_init_127 : decode cc_M_init 127 = .ok (.aload_n 0, 1) := by decide +kernel
theorem dd_M_init_128 : decode cc_M_init 128 = .ok (.bipush (52), 2) := by decide +kernel
theorem dd_M_init_130 : decode cc_M_init 130 = .ok (.newarray .int, 2) := by decide +kernel
theorem dd_M_init_132 : decode cc_M_init 132 = .ok (.putfield 63, 3) := by decide +kernel
theorem dd_M_init_135 : decode cc_M_init 135 = .ok (.aload_n 0, 1) := by decide +kernel
theorem dd_M_init_136 : decode cc_M_init 136 = .ok (.sipush (208), 3) := by decide +kernel
theorem dd_M_init_139 : decode cc_M_init 139 = .ok (.newarray .int, 2) := by decide +kernel
theorem dd_M_init_141 : decode cc_M_init 141 = .ok (.putfield 66, 3) := by decide +kernel
theorem dd_M_init_144 : decode cc_M_init 144 = .ok (.aload_n 0, 1) := by decide +kernel
theorem dd_M_init_145 : decode cc_M_init 145 = .ok (.iconst 4, 1) := by decide +kernel
theorem dd_M_init_146 : decode cc_M_init 146 = .ok (.newarray .boolean, 2) := by decide +kernel
theorem dd_M_init_148 : decode cc_M_init 148 = .ok (.putfield 69, 3) := by decide +kernel
theorem dd_M_init_151 : decode cc_M_init 151 = .ok (.aload_n 0, 1) := by decide +kernel
theorem dd_M_init_152 : decode cc_M_init 152 = .ok (.iconst 4, 1) := by decide +kernel
theorem dd_M_init_153 : decode cc_M_init 153 = .ok (.newarray .int, 2) := by decide +kernel
theorem dd_M_init_155 : decode cc_M_init 155 = .ok (.putfield 72, 3) := by decide +kernel
theorem dd_M_init_158 : decode cc_M_init 158 = .ok (.aload_n 0, 1) := by decide +kernel
theorem dd_M_init_159 : decode cc_M_init 159 = .ok (.iconst 4, 1) := by decide +kernel
theorem dd_M_init_160 : decode cc_M_init 160 = .ok (.newarray .int, 2) := by decide +kernel
theorem dd_M_init_162 : decode cc_M_init 162 = .ok (.putfield 75, 3) := by decide +kernel
theorem dd_M_init_165 : decode cc_M_init 165 = .ok (.aload_n 0, 1) := by decide +kernel
theorem dd_M_init_166 : decode cc_M_init 166 = .ok (.iconst 4, 1) := by decide +kernel
theorem dd_M_init_167 : decode cc_M_init 167 = .ok (.newarray .boolean, 2) := by decide +kernel
theorem dd_M_init_169 : decode cc_M_init 169 = .ok (.putfield 78, 3) := by decide +kernel
theorem dd_M_init_172 : decode cc_M_init 172 = .ok (.aload_n 0, 1) := by decide +kernel
theorem dd_M_init_173 : decode cc_M_init 173 = .ok (.iconst (-1), 1) := by decide +kernel
theorem dd_M_init_174 : decode cc_M_init 174 = .ok (.putfield 81, 3) := by decide +kernel
theorem dd_M_init_177 : decode cc_M_init 177 = .ok (.return_, 1) := by decide +kernel
theorem dd_M_thrown_0 : decode cc_M_thrown 0 = .ok (.aload_n 0, 1) := by decide +kernel
theorem dd_M_thrown_1 : decode cc_M_thrown 1 = .ok (.getfield 85, 3) := by decide +kernel
theorem dd_M_thrown_4 : decode cc_M_thrown 4 = .ok (.ireturn, 1) := by decide +kernel
theorem dd_M_raise_0 : decode cc_M_raise 0 = .ok (.aload_n 0, 1) := by decide +kernel
theorem dd_M_raise_1 : decode cc_M_raise 1 = .ok (.iload_n 1, 1) := by decide +kernel
theorem dd_M_raise_2 : decode cc_M_raise 2 = .ok (.putfield 85, 3) := by decide +kernel
theorem dd_M_raise_5 : decode cc_M_raise 5 = .ok (.iconst 0, 1) := by decide +kernel
theorem dd_M_raise_6 : decode cc_M_raise 6 = .ok (.ireturn, 1) := by decide +kernel
theorem dd_M_isPrime_0 : decode cc_M_isPrime 0 = .ok (.iconst 2, 1) := by decide +kernel
theorem dd_M_isPrime_1 : decode cc_M_isPrime 1 = .ok (.istore_n 1, 1) := by decide +kernel
theorem dd_M_isPrime_2 : decode cc_M_isPrime 2 = .ok (.iload_n 1, 1) := by decide +kernel
theorem dd_M_isPrime_3 : decode cc_M_isPrime 3 = .ok (.i2l, 1) := by decide +kernel
theorem dd_M_isPrime_4 : decode cc_M_isPrime 4 = .ok (.iload_n 1, 1) := by decide +kernel
theorem dd_M_isPrime_5 : decode cc_M_isPrime 5 = .ok (.i2l, 1) := by decide +kernel
theorem dd_M_isPrime_6 : decode cc_M_isPrime 6 = .ok (.lmul, 1) := by decide +kernel
theorem dd_M_isPrime_7 : decode cc_M_isPrime 7 = .ok (.iload_n 0, 1) := by decide +kernel
theorem dd_M_isPrime_8 : decode cc_M_isPrime 8 = .ok (.i2l, 1) := by decide +kernel
theorem dd_M_isPrime_9 : decode cc_M_isPrime 9 = .ok (.lcmp, 1) := by decide +kernel
theorem dd_M_isPrime_10 : decode cc_M_isPrime 10 = .ok (.ifCond .gt (17), 3) := by decide +kernel
theorem dd_M_isPrime_13 : decode cc_M_isPrime 13 = .ok (.iload_n 0, 1) := by decide +kernel
theorem dd_M_isPrime_14 : decode cc_M_isPrime 14 = .ok (.iload_n 1, 1) := by decide +kernel
theorem dd_M_isPrime_15 : decode cc_M_isPrime 15 = .ok (.irem, 1) := by decide +kernel
theorem dd_M_isPrime_16 : decode cc_M_isPrime 16 = .ok (.ifCond .ne (5), 3) := by decide +kernel
theorem dd_M_isPrime_19 : decode cc_M_isPrime 19 = .ok (.iconst 0, 1) := by decide +kernel
theorem dd_M_isPrime_20 : decode cc_M_isPrime 20 = .ok (.ireturn, 1) := by decide +kernel
theorem dd_M_isPrime_21 : decode cc_M_isPrime 21 = .ok (.iinc 1 (1), 3) := by decide +kernel
theorem dd_M_isPrime_24 : decode cc_M_isPrime 24 = .ok (.goto (-22), 3) := by decide +kernel
theorem dd_M_isPrime_27 : decode cc_M_isPrime 27 = .ok (.iload_n 0, 1) := by decide +kernel
theorem dd_M_isPrime_28 : decode cc_M_isPrime 28 = .ok (.iconst 1, 1) := by decide +kernel
theorem dd_M_isPrime_29 : decode cc_M_isPrime 29 = .ok (.if_icmp .le (7), 3) := by decide +kernel
theorem dd_M_isPrime_32 : decode cc_M_isPrime 32 = .ok (.iconst 1, 1) := by decide +kernel
theorem dd_M_isPrime_33 : decode cc_M_isPrime 33 = .ok (.goto (4), 3) := by decide +kernel
theorem dd_M_isPrime_36 : decode cc_M_isPrime 36 = .ok (.iconst 0, 1) := by decide +kernel
theorem dd_M_isPrime_37 : decode cc_M_isPrime 37 = .ok (.ireturn, 1) := by decide +kernel
theorem dd_M_prime_0 : decode cc_M_prime 0 = .ok (.aload_n 0, 1) := by decide +kernel
theorem dd_M_prime_1 : decode cc_M_prime 1 = .ok (.iconst 0, 1) := by decide +kernel
theorem dd_M_prime_2 : decode cc_M_prime 2 = .ok (.putfield 85, 3) := by decide +kernel
theorem dd_M_prime_5 : decode cc_M_prime 5 = .ok (.aload_n 0, 1) := by decide +kernel
theorem dd_M_prime_6 : decode cc_M_prime 6 = .ok (.getfield 88, 3) := by decide +kernel
theorem dd_M_prime_9 : decode cc_M_prime 9 = .ok (.ifCond .ne (33), 3) := by decide +kernel
theorem dd_M_prime_12 : decode cc_M_prime 12 = .ok (.iload_n 1, 1) := by decide +kernel
theorem dd_M_prime_13 : decode cc_M_prime 13 = .ok (.ldc 91, 2) := by decide +kernel
theorem dd_M_prime_15 : decode cc_M_prime 15 = .ok (.if_icmp .le (27), 3) := by decide +kernel
theorem dd_M_prime_18 : decode cc_M_prime 18 = .ok (.iload_n 1, 1) := by decide +kernel
theorem dd_M_prime_19 : decode cc_M_prime 19 = .ok (.iconst 2, 1) := by decide +kernel
theorem dd_M_prime_20 : decode cc_M_prime 20 = .ok (.irem, 1) := by decide +kernel
theorem dd_M_prime_21 : decode cc_M_prime 21 = .ok (.ifCond .eq (21), 3) := by decide +kernel
theorem dd_M_prime_24 : decode cc_M_prime 24 = .ok (.iload_n 1, 1) := by decide +kernel
theorem dd_M_prime_25 : decode cc_M_prime 25 = .ok (.invokestatic 92, 3) := by decide +kernel
theorem dd_M_prime_28 : decode cc_M_prime 28 = .ok (.ifCond .eq (14), 3) := by decide +kernel
theorem dd_M_prime_31 : decode cc_M_prime 31 = .ok (.iload_n 1, 1) := by decide +kernel
theorem dd_M_prime_32 : decode cc_M_prime 32 = .ok (.iconst 1, 1) := by decide +kernel
theorem dd_M_prime_33 : decode cc_M_prime 33 = .ok (.isub, 1) := by decide +kernel
theorem dd_M_prime_34 : decode cc_M_prime 34 = .ok (.iconst 2, 1) := by decide +kernel
theorem dd_M_prime_35 : decode cc_M_prime 35 = .ok (.idiv, 1) := by decide +kernel
theorem dd_M_prime_36 : decode cc_M_prime 36 = .ok (.invokestatic 92, 3) := by decide +kernel
theorem dd_M_prime_39 : decode cc_M_prime 39 = .ok (.ifCond .ne (5), 3) := by decide +kernel
theorem dd_M_prime_42 : decode cc_M_prime 42 = .ok (.iconst 0, 1) := by decide +kernel
theorem dd_M_prime_43 : decode cc_M_prime 43 = .ok (.ireturn, 1) := by decide +kernel
theorem dd_M_prime_44 : decode cc_M_prime 44 = .ok (.aload_n 0, 1) := by decide +kernel
theorem dd_M_prime_45 : decode cc_M_prime 45 = .ok (.iload_n 1, 1) := by decide +kernel
theorem dd_M_prime_46 : decode cc_M_prime 46 = .ok (.putfield 88, 3) := by decide +kernel
theorem dd_M_prime_49 : decode cc_M_prime 49 = .ok (.aload_n 0, 1) := by decide +kernel
theorem dd_M_prime_50 : decode cc_M_prime 50 = .ok (.iload_n 1, 1) := by decide +kernel
theorem dd_M_prime_51 : decode cc_M_prime 51 = .ok (.iconst 1, 1) := by decide +kernel
theorem dd_M_prime_52 : decode cc_M_prime 52 = .ok (.isub, 1) := by decide +kernel
theorem dd_M_prime_53 : decode cc_M_prime 53 = .ok (.iconst 2, 1) := by decide +kernel
theorem dd_M_prime_54 : decode cc_M_prime 54 = .ok (.idiv, 1) := by decide +kernel
theorem dd_M_prime_55 : decode cc_M_prime 55 = .ok (.putfield 96, 3) := by decide +kernel
theorem dd_M_prime_58 : decode cc_M_prime 58 = .ok (.aload_n 0, 1) := by decide +kernel
theorem dd_M_prime_59 : decode cc_M_prime 59 = .ok (.invokevirtual 99, 3) := by decide +kernel
theorem dd_M_prime_62 : decode cc_M_prime 62 = .ok (.iconst 1, 1) := by decide +kernel
theorem dd_M_prime_63 : decode cc_M_prime 63 = .ok (.ireturn, 1) := by decide +kernel
theorem dd_M_beginDeck_0 : decode cc_M_beginDeck 0 = .ok (.iconst 0, 1) := by decide +kernel
theorem dd_M_beginDeck_1 : decode cc_M_beginDeck 1 = .ok (.istore_n 1, 1) := by decide +kernel
theorem dd_M_beginDeck_2 : decode cc_M_beginDeck 2 = .ok (.iload_n 1, 1) := by decide +kernel
theorem dd_M_beginDeck_3 : decode cc_M_beginDeck 3 = .ok (.bipush (52), 2) := by decide +kernel
theorem dd_M_beginDeck_5 : decode cc_M_beginDeck 5 = .ok (.if_icmp .ge (27), 3) := by decide +kernel
theorem dd_M_beginDeck_8 : decode cc_M_beginDeck 8 = .ok (.aload_n 0, 1) := by decide +kernel
theorem dd_M_beginDeck_9 : decode cc_M_beginDeck 9 = .ok (.getfield 54, 3) := by decide +kernel
theorem dd_M_beginDeck_12 : decode cc_M_beginDeck 12 = .ok (.iload_n 1, 1) := by decide +kernel
theorem dd_M_beginDeck_13 : decode cc_M_beginDeck 13 = .ok (.iload_n 1, 1) := by decide +kernel
theorem dd_M_beginDeck_14 : decode cc_M_beginDeck 14 = .ok (.iconst 2, 1) := by decide +kernel
theorem dd_M_beginDeck_15 : decode cc_M_beginDeck 15 = .ok (.iadd, 1) := by decide +kernel
theorem dd_M_beginDeck_16 : decode cc_M_beginDeck 16 = .ok (.iload_n 1, 1) := by decide +kernel
theorem dd_M_beginDeck_17 : decode cc_M_beginDeck 17 = .ok (.iconst 2, 1) := by decide +kernel
theorem dd_M_beginDeck_18 : decode cc_M_beginDeck 18 = .ok (.iadd, 1) := by decide +kernel
theorem dd_M_beginDeck_19 : decode cc_M_beginDeck 19 = .ok (.imul, 1) := by decide +kernel
theorem dd_M_beginDeck_20 : decode cc_M_beginDeck 20 = .ok (.aload_n 0, 1) := by decide +kernel
theorem dd_M_beginDeck_21 : decode cc_M_beginDeck 21 = .ok (.getfield 88, 3) := by decide +kernel
theorem dd_M_beginDeck_24 : decode cc_M_beginDeck 24 = .ok (.irem, 1) := by decide +kernel
theorem dd_M_beginDeck_25 : decode cc_M_beginDeck 25 = .ok (.iastore, 1) := by decide +kernel
theorem dd_M_beginDeck_26 : decode cc_M_beginDeck 26 = .ok (.iinc 1 (1), 3) := by decide +kernel
theorem dd_M_beginDeck_29 : decode cc_M_beginDeck 29 = .ok (.goto (-27), 3) := by decide +kernel
theorem dd_M_beginDeck_32 : decode cc_M_beginDeck 32 = .ok (.aload_n 0, 1) := by decide +kernel
theorem dd_M_beginDeck_33 : decode cc_M_beginDeck 33 = .ok (.iconst 0, 1) := by decide +kernel
theorem dd_M_beginDeck_34 : decode cc_M_beginDeck 34 = .ok (.putfield 102, 3) := by decide +kernel
theorem dd_M_beginDeck_37 : decode cc_M_beginDeck 37 = .ok (.return_, 1) := by decide +kernel
theorem dd_M_clear_0 : decode cc_M_clear 0 = .ok (.aload_n 0, 1) := by decide +kernel
theorem dd_M_clear_1 : decode cc_M_clear 1 = .ok (.iconst 0, 1) := by decide +kernel
theorem dd_M_clear_2 : decode cc_M_clear 2 = .ok (.putfield 85, 3) := by decide +kernel
theorem dd_M_clear_5 : decode cc_M_clear 5 = .ok (.aload_n 0, 1) := by decide +kernel
theorem dd_M_clear_6 : decode cc_M_clear 6 = .ok (.iconst 0, 1) := by decide +kernel
theorem dd_M_clear_7 : decode cc_M_clear 7 = .ok (.putfield 88, 3) := by decide +kernel
theorem dd_M_clear_10 : decode cc_M_clear 10 = .ok (.aload_n 0, 1) := by decide +kernel
theorem dd_M_clear_11 : decode cc_M_clear 11 = .ok (.iconst 0, 1) := by decide +kernel
theorem dd_M_clear_12 : decode cc_M_clear 12 = .ok (.putfield 105, 3) := by decide +kernel
theorem dd_M_clear_15 : decode cc_M_clear 15 = .ok (.aload_n 0, 1) := by decide +kernel
theorem dd_M_clear_16 : decode cc_M_clear 16 = .ok (.iconst 0, 1) := by decide +kernel
theorem dd_M_clear_17 : decode cc_M_clear 17 = .ok (.putfield 108, 3) := by decide +kernel
theorem dd_M_clear_20 : decode cc_M_clear 20 = .ok (.aload_n 0, 1) := by decide +kernel
theorem dd_M_clear_21 : decode cc_M_clear 21 = .ok (.iconst 0, 1) := by decide +kernel
theorem dd_M_clear_22 : decode cc_M_clear 22 = .ok (.putfield 111, 3) := by decide +kernel
theorem dd_M_clear_25 : decode cc_M_clear 25 = .ok (.aload_n 0, 1) := by decide +kernel
theorem dd_M_clear_26 : decode cc_M_clear 26 = .ok (.iconst (-1), 1) := by decide +kernel
theorem dd_M_clear_27 : decode cc_M_clear 27 = .ok (.putfield 81, 3) := by decide +kernel
theorem dd_M_clear_30 : decode cc_M_clear 30 = .ok (.iconst 0, 1) := by decide +kernel
theorem dd_M_clear_31 : decode cc_M_clear 31 = .ok (.istore_n 1, 1) := by decide +kernel
theorem dd_M_clear_32 : decode cc_M_clear 32 = .ok (.iload_n 1, 1) := by decide +kernel
theorem dd_M_clear_33 : decode cc_M_clear 33 = .ok (.iconst 4, 1) := by decide +kernel
theorem dd_M_clear_34 : decode cc_M_clear 34 = .ok (.if_icmp .ge (37), 3) := by decide +kernel
theorem dd_M_clear_37 : decode cc_M_clear 37 = .ok (.aload_n 0, 1) := by decide +kernel
theorem dd_M_clear_38 : decode cc_M_clear 38 = .ok (.getfield 13, 3) := by decide +kernel
theorem dd_M_clear_41 : decode cc_M_clear 41 = .ok (.iload_n 1, 1) := by decide +kernel
theorem dd_M_clear_42 : decode cc_M_clear 42 = .ok (.iconst 0, 1) := by decide +kernel
theorem dd_M_clear_43 : decode cc_M_clear 43 = .ok (.bastore, 1) := by decide +kernel
theorem dd_M_clear_44 : decode cc_M_clear 44 = .ok (.aload_n 0, 1) := by decide +kernel
theorem dd_M_clear_45 : decode cc_M_clear 45 = .ok (.getfield 72, 3) := by decide +kernel
theorem dd_M_clear_48 : decode cc_M_clear 48 = .ok (.iload_n 1, 1) := by decide +kernel
theorem dd_M_clear_49 : decode cc_M_clear 49 = .ok (.iconst 0, 1) := by decide +kernel
theorem dd_M_clear_50 : decode cc_M_clear 50 = .ok (.iastore, 1) := by decide +kernel
theorem dd_M_clear_51 : decode cc_M_clear 51 = .ok (.aload_n 0, 1) := by decide +kernel
theorem dd_M_clear_52 : decode cc_M_clear 52 = .ok (.getfield 75, 3) := by decide +kernel
theorem dd_M_clear_55 : decode cc_M_clear 55 = .ok (.iload_n 1, 1) := by decide +kernel
theorem dd_M_clear_56 : decode cc_M_clear 56 = .ok (.iconst 0, 1) := by decide +kernel
theorem dd_M_clear_57 : decode cc_M_clear 57 = .ok (.iastore, 1) := by decide +kernel
theorem dd_M_clear_58 : decode cc_M_clear 58 = .ok (.aload_n 0, 1) := by decide +kernel
theorem dd_M_clear_59 : decode cc_M_clear 59 = .ok (.getfield 69, 3) := by decide +kernel
theorem dd_M_clear_62 : decode cc_M_clear 62 = .ok (.iload_n 1, 1) := by decide +kernel
theorem dd_M_clear_63 : decode cc_M_clear 63 = .ok (.iconst 0, 1) := by decide +kernel
theorem dd_M_clear_64 : decode cc_M_clear 64 = .ok (.bastore, 1) := by decide +kernel
theorem dd_M_clear_65 : decode cc_M_clear 65 = .ok (.iinc 1 (1), 3) := by decide +kernel
theorem dd_M_clear_68 : decode cc_M_clear 68 = .ok (.goto (-36), 3) := by decide +kernel
theorem dd_M_clear_71 : decode cc_M_clear 71 = .ok (.iconst 0, 1) := by decide +kernel
theorem dd_M_clear_72 : decode cc_M_clear 72 = .ok (.istore_n 1, 1) := by decide +kernel
theorem dd_M_clear_73 : decode cc_M_clear 73 = .ok (.iload_n 1, 1) := by decide +kernel
theorem dd_M_clear_74 : decode cc_M_clear 74 = .ok (.sipush (208), 3) := by decide +kernel
theorem dd_M_clear_77 : decode cc_M_clear 77 = .ok (.if_icmp .ge (16), 3) := by decide +kernel
theorem dd_M_clear_80 : decode cc_M_clear 80 = .ok (.aload_n 0, 1) := by decide +kernel
theorem dd_M_clear_81 : decode cc_M_clear 81 = .ok (.getfield 66, 3) := by decide +kernel
theorem dd_M_clear_84 : decode cc_M_clear 84 = .ok (.iload_n 1, 1) := by decide +kernel
theorem dd_M_clear_85 : decode cc_M_clear 85 = .ok (.iconst 0, 1) := by decide +kernel
theorem dd_M_clear_86 : decode cc_M_clear 86 = .ok (.iastore, 1) := by decide +kernel
theorem dd_M_clear_87 : decode cc_M_clear 87 = .ok (.iinc 1 (1), 3) := by decide +kernel
theorem dd_M_clear_90 : decode cc_M_clear 90 = .ok (.goto (-17), 3) := by decide +kernel
theorem dd_M_clear_93 : decode cc_M_clear 93 = .ok (.return_, 1) := by decide +kernel
theorem dd_M_seat_0 : decode cc_M_seat 0 = .ok (.aload_n 0, 1) := by decide +kernel
theorem dd_M_seat_1 : decode cc_M_seat 1 = .ok (.iconst 0, 1) := by decide +kernel
theorem dd_M_seat_2 : decode cc_M_seat 2 = .ok (.putfield 85, 3) := by decide +kernel
theorem dd_M_seat_5 : decode cc_M_seat 5 = .ok (.aload_n 0, 1) := by decide +kernel
theorem dd_M_seat_6 : decode cc_M_seat 6 = .ok (.getfield 105, 3) := by decide +kernel
theorem dd_M_seat_9 : decode cc_M_seat 9 = .ok (.iconst 4, 1) := by decide +kernel
theorem dd_M_seat_10 : decode cc_M_seat 10 = .ok (.if_icmp .eq (21), 3) := by decide +kernel
theorem dd_M_seat_13 : decode cc_M_seat 13 = .ok (.aload_n 0, 1) := by decide +kernel
theorem dd_M_seat_14 : decode cc_M_seat 14 = .ok (.getfield 108, 3) := by decide +kernel
theorem dd_M_seat_17 : decode cc_M_seat 17 = .ok (.ifCond .ne (14), 3) := by decide +kernel
theorem dd_M_seat_20 : decode cc_M_seat 20 = .ok (.iload_n 1, 1) := by decide +kernel
theorem dd_M_seat_21 : decode cc_M_seat 21 = .ok (.iconst 1, 1) := by decide +kernel
theorem dd_M_seat_22 : decode cc_M_seat 22 = .ok (.if_icmp .lt (9), 3) := by decide +kernel
theorem dd_M_seat_25 : decode cc_M_seat 25 = .ok (.iload_n 1, 1) := by decide +kernel
theorem dd_M_seat_26 : decode cc_M_seat 26 = .ok (.ldc 115, 2) := by decide +kernel
theorem dd_M_seat_28 : decode cc_M_seat 28 = .ok (.if_icmp .le (5), 3) := by decide +kernel
theorem dd_M_seat_31 : decode cc_M_seat 31 = .ok (.iconst (-1), 1) := by decide +kernel
theorem dd_M_seat_32 : decode cc_M_seat 32 = .ok (.ireturn, 1) := by decide +kernel
theorem dd_M_seat_33 : decode cc_M_seat 33 = .ok (.aload_n 0, 1) := by decide +kernel
theorem dd_M_seat_34 : decode cc_M_seat 34 = .ok (.getfield 7, 3) := by decide +kernel
theorem dd_M_seat_37 : decode cc_M_seat 37 = .ok (.aload_n 0, 1) := by decide +kernel
theorem dd_M_seat_38 : decode cc_M_seat 38 = .ok (.getfield 105, 3) := by decide +kernel
theorem dd_M_seat_41 : decode cc_M_seat 41 = .ok (.iload_n 1, 1) := by decide +kernel
theorem dd_M_seat_42 : decode cc_M_seat 42 = .ok (.iastore, 1) := by decide +kernel
theorem dd_M_seat_43 : decode cc_M_seat 43 = .ok (.aload_n 0, 1) := by decide +kernel
theorem dd_M_seat_44 : decode cc_M_seat 44 = .ok (.getfield 72, 3) := by decide +kernel
theorem dd_M_seat_47 : decode cc_M_seat 47 = .ok (.aload_n 0, 1) := by decide +kernel
theorem dd_M_seat_48 : decode cc_M_seat 48 = .ok (.getfield 105, 3) := by decide +kernel
theorem dd_M_seat_51 : decode cc_M_seat 51 = .ok (.iconst 0, 1) := by decide +kernel
theorem dd_M_seat_52 : decode cc_M_seat 52 = .ok (.iastore, 1) := by decide +kernel
theorem dd_M_seat_53 : decode cc_M_seat 53 = .ok (.aload_n 0, 1) := by decide +kernel
theorem dd_M_seat_54 : decode cc_M_seat 54 = .ok (.dup, 1) := by decide +kernel
theorem dd_M_seat_55 : decode cc_M_seat 55 = .ok (.getfield 105, 3) := by decide +kernel
theorem dd_M_seat_58 : decode cc_M_seat 58 = .ok (.iconst 1, 1) := by decide +kernel
theorem dd_M_seat_59 : decode cc_M_seat 59 = .ok (.iadd, 1) := by decide +kernel
theorem dd_M_seat_60 : decode cc_M_seat 60 = .ok (.putfield 105, 3) := by decide +kernel
theorem dd_M_seat_63 : decode cc_M_seat 63 = .ok (.aload_n 0, 1) := by decide +kernel
theorem dd_M_seat_64 : decode cc_M_seat 64 = .ok (.getfield 105, 3) := by decide +kernel
theorem dd_M_seat_67 : decode cc_M_seat 67 = .ok (.iconst 1, 1) := by decide +kernel
theorem dd_M_seat_68 : decode cc_M_seat 68 = .ok (.isub, 1) := by decide +kernel
theorem dd_M_seat_69 : decode cc_M_seat 69 = .ok (.ireturn, 1) := by decide +kernel
theorem dd_M_isPlayer_0 : decode cc_M_isPlayer 0 = .ok (.iload_n 1, 1) := by decide +kernel
theorem dd_M_isPlayer_1 : decode cc_M_isPlayer 1 = .ok (.ifCond .lt (15), 3) := by decide +kernel
theorem dd_M_isPlayer_4 : decode cc_M_isPlayer 4 = .ok (.iload_n 1, 1) := by decide +kernel
theorem dd_M_isPlayer_5 : decode cc_M_isPlayer 5 = .ok (.aload_n 0, 1) := by decide +kernel
theorem dd_M_isPlayer_6 : decode cc_M_isPlayer 6 = .ok (.getfield 105, 3) := by decide +kernel
theorem dd_M_isPlayer_9 : decode cc_M_isPlayer 9 = .ok (.if_icmp .ge (7), 3) := by decide +kernel
theorem dd_M_isPlayer_12 : decode cc_M_isPlayer 12 = .ok (.iconst 1, 1) := by decide +kernel
theorem dd_M_isPlayer_13 : decode cc_M_isPlayer 13 = .ok (.goto (4), 3) := by decide +kernel
theorem dd_M_isPlayer_16 : decode cc_M_isPlayer 16 = .ok (.iconst 0, 1) := by decide +kernel
theorem dd_M_isPlayer_17 : decode cc_M_isPlayer 17 = .ok (.ireturn, 1) := by decide +kernel
theorem dd_M_isPlace_0 : decode cc_M_isPlace 0 = .ok (.iload_n 0, 1) := by decide +kernel
theorem dd_M_isPlace_1 : decode cc_M_isPlace 1 = .ok (.ifCond .lt (13), 3) := by decide +kernel
theorem dd_M_isPlace_4 : decode cc_M_isPlace 4 = .ok (.iload_n 0, 1) := by decide +kernel
theorem dd_M_isPlace_5 : decode cc_M_isPlace 5 = .ok (.bipush (52), 2) := by decide +kernel
theorem dd_M_isPlace_7 : decode cc_M_isPlace 7 = .ok (.if_icmp .ge (7), 3) := by decide +kernel
theorem dd_M_isPlace_10 : decode cc_M_isPlace 10 = .ok (.iconst 1, 1) := by decide +kernel
theorem dd_M_isPlace_11 : decode cc_M_isPlace 11 = .ok (.goto (4), 3) := by decide +kernel
theorem dd_M_isPlace_14 : decode cc_M_isPlace 14 = .ok (.iconst 0, 1) := by decide +kernel
theorem dd_M_isPlace_15 : decode cc_M_isPlace 15 = .ok (.ireturn, 1) := by decide +kernel
theorem dd_M_deal_0 : decode cc_M_deal 0 = .ok (.aload_n 0, 1) := by decide +kernel
theorem dd_M_deal_1 : decode cc_M_deal 1 = .ok (.iconst 0, 1) := by decide +kernel
theorem dd_M_deal_2 : decode cc_M_deal 2 = .ok (.putfield 85, 3) := by decide +kernel
theorem dd_M_deal_5 : decode cc_M_deal 5 = .ok (.aload_n 0, 1) := by decide +kernel
theorem dd_M_deal_6 : decode cc_M_deal 6 = .ok (.getfield 88, 3) := by decide +kernel
theorem dd_M_deal_9 : decode cc_M_deal 9 = .ok (.ifCond .eq (31), 3) := by decide +kernel
theorem dd_M_deal_12 : decode cc_M_deal 12 = .ok (.aload_n 0, 1) := by decide +kernel
theorem dd_M_deal_13 : decode cc_M_deal 13 = .ok (.getfield 105, 3) := by decide +kernel
theorem dd_M_deal_16 : decode cc_M_deal 16 = .ok (.iconst 1, 1) := by decide +kernel
theorem dd_M_deal_17 : decode cc_M_deal 17 = .ok (.if_icmp .le (23), 3) := by decide +kernel
theorem dd_M_deal_20 : decode cc_M_deal 20 = .ok (.aload_n 0, 1) := by decide +kernel
theorem dd_M_deal_21 : decode cc_M_deal 21 = .ok (.getfield 108, 3) := by decide +kernel
theorem dd_M_deal_24 : decode cc_M_deal 24 = .ok (.ifCond .eq (12), 3) := by decide +kernel
theorem dd_M_deal_27 : decode cc_M_deal 27 = .ok (.aload_n 0, 1) := by decide +kernel
theorem dd_M_deal_28 : decode cc_M_deal 28 = .ok (.getfield 108, 3) := by decide +kernel
theorem dd_M_deal_31 : decode cc_M_deal 31 = .ok (.bipush (6), 2) := by decide +kernel
theorem dd_M_deal_33 : decode cc_M_deal 33 = .ok (.if_icmp .ne (7), 3) := by decide +kernel
theorem dd_M_deal_36 : decode cc_M_deal 36 = .ok (.iconst 1, 1) := by decide +kernel
theorem dd_M_deal_37 : decode cc_M_deal 37 = .ok (.goto (4), 3) := by decide +kernel
theorem dd_M_deal_40 : decode cc_M_deal 40 = .ok (.iconst 0, 1) := by decide +kernel
theorem dd_M_deal_41 : decode cc_M_deal 41 = .ok (.istore_n 1, 1) := by decide +kernel
theorem dd_M_deal_42 : decode cc_M_deal 42 = .ok (.iconst 0, 1) := by decide +kernel
theorem dd_M_deal_43 : decode cc_M_deal 43 = .ok (.istore_n 2, 1) := by decide +kernel
theorem dd_M_deal_44 : decode cc_M_deal 44 = .ok (.iload_n 2, 1) := by decide +kernel
theorem dd_M_deal_45 : decode cc_M_deal 45 = .ok (.aload_n 0, 1) := by decide +kernel
theorem dd_M_deal_46 : decode cc_M_deal 46 = .ok (.getfield 105, 3) := by decide +kernel
theorem dd_M_deal_49 : decode cc_M_deal 49 = .ok (.if_icmp .ge (28), 3) := by decide +kernel
theorem dd_M_deal_52 : decode cc_M_deal 52 = .ok (.iload_n 1, 1) := by decide +kernel
theorem dd_M_deal_53 : decode cc_M_deal 53 = .ok (.ifCond .eq (16), 3) := by decide +kernel
theorem dd_M_deal_56 : decode cc_M_deal 56 = .ok (.aload_n 0, 1) := by decide +kernel
theorem dd_M_deal_57 : decode cc_M_deal 57 = .ok (.getfield 7, 3) := by decide +kernel
theorem dd_M_deal_60 : decode cc_M_deal 60 = .ok (.iload_n 2, 1) := by decide +kernel
theorem dd_M_deal_61 : decode cc_M_deal 61 = .ok (.iaload, 1) := by decide +kernel
theorem dd_M_deal_62 : decode cc_M_deal 62 = .ok (.ifCond .le (7), 3) := by decide +kernel
theorem dd_M_deal_65 : decode cc_M_deal 65 = .ok (.iconst 1, 1) := by decide +kernel
theorem dd_M_deal_66 : decode cc_M_deal 66 = .ok (.goto (4), 3) := by decide +kernel
theorem dd_M_deal_69 : decode cc_M_deal 69 = .ok (.iconst 0, 1) := by decide +kernel
theorem dd_M_deal_70 : decode cc_M_deal 70 = .ok (.istore_n 1, 1) := by decide +kernel
theorem dd_M_deal_71 : decode cc_M_deal 71 = .ok (.iinc 2 (1), 3) := by decide +kernel
theorem dd_M_deal_74 : decode cc_M_deal 74 = .ok (.goto (-30), 3) := by decide +kernel
theorem dd_M_deal_77 : decode cc_M_deal 77 = .ok (.iload_n 1, 1) := by decide +kernel
theorem dd_M_deal_78 : decode cc_M_deal 78 = .ok (.ifCond .ne (5), 3) := by decide +kernel
theorem dd_M_deal_81 : decode cc_M_deal 81 = .ok (.iconst 0, 1) := by decide +kernel
theorem dd_M_deal_82 : decode cc_M_deal 82 = .ok (.ireturn, 1) := by decide +kernel
theorem dd_M_deal_83 : decode cc_M_deal 83 = .ok (.aload_n 0, 1) := by decide +kernel
theorem dd_M_deal_84 : decode cc_M_deal 84 = .ok (.iconst 1, 1) := by decide +kernel
theorem dd_M_deal_85 : decode cc_M_deal 85 = .ok (.putfield 108, 3) := by decide +kernel
theorem dd_M_deal_88 : decode cc_M_deal 88 = .ok (.aload_n 0, 1) := by decide +kernel
theorem dd_M_deal_89 : decode cc_M_deal 89 = .ok (.invokevirtual 99, 3) := by decide +kernel
theorem dd_M_deal_92 : decode cc_M_deal 92 = .ok (.aload_n 0, 1) := by decide +kernel
theorem dd_M_deal_93 : decode cc_M_deal 93 = .ok (.iconst 0, 1) := by decide +kernel
theorem dd_M_deal_94 : decode cc_M_deal 94 = .ok (.putfield 111, 3) := by decide +kernel
theorem dd_M_deal_97 : decode cc_M_deal 97 = .ok (.aload_n 0, 1) := by decide +kernel
theorem dd_M_deal_98 : decode cc_M_deal 98 = .ok (.iconst (-1), 1) := by decide +kernel
theorem dd_M_deal_99 : decode cc_M_deal 99 = .ok (.putfield 81, 3) := by decide +kernel
theorem dd_M_deal_102 : decode cc_M_deal 102 = .ok (.iconst 0, 1) := by decide +kernel
theorem dd_M_deal_103 : decode cc_M_deal 103 = .ok (.istore_n 2, 1) := by decide +kernel
theorem dd_M_deal_104 : decode cc_M_deal 104 = .ok (.iload_n 2, 1) := by decide +kernel
theorem dd_M_deal_105 : decode cc_M_deal 105 = .ok (.iconst 4, 1) := by decide +kernel
theorem dd_M_deal_106 : decode cc_M_deal 106 = .ok (.if_icmp .ge (79), 3) := by decide +kernel
theorem dd_M_deal_109 : decode cc_M_deal 109 = .ok (.aload_n 0, 1) := by decide +kernel
theorem dd_M_deal_110 : decode cc_M_deal 110 = .ok (.getfield 13, 3) := by decide +kernel
theorem dd_M_deal_113 : decode cc_M_deal 113 = .ok (.iload_n 2, 1) := by decide +kernel
theorem dd_M_deal_114 : decode cc_M_deal 114 = .ok (.iconst 0, 1) := by decide +kernel
theorem dd_M_deal_115 : decode cc_M_deal 115 = .ok (.bastore, 1) := by decide +kernel
theorem dd_M_deal_116 : decode cc_M_deal 116 = .ok (.aload_n 0, 1) := by decide +kernel
theorem dd_M_deal_117 : decode cc_M_deal 117 = .ok (.getfield 30, 3) := by decide +kernel
theorem dd_M_deal_120 : decode cc_M_deal 120 = .ok (.iload_n 2, 1) := by decide +kernel
theorem dd_M_deal_121 : decode cc_M_deal 121 = .ok (.iconst 0, 1) := by decide +kernel
theorem dd_M_deal_122 : decode cc_M_deal 122 = .ok (.bastore, 1) := by decide +kernel
theorem dd_M_deal_123 : decode cc_M_deal 123 = .ok (.aload_n 0, 1) := by decide +kernel
theorem dd_M_deal_124 : decode cc_M_deal 124 = .ok (.getfield 39, 3) := by decide +kernel
theorem dd_M_deal_127 : decode cc_M_deal 127 = .ok (.iload_n 2, 1) := by decide +kernel
theorem dd_M_deal_128 : decode cc_M_deal 128 = .ok (.lconst 0, 1) := by decide +kernel
theorem dd_M_deal_129 : decode cc_M_deal 129 = .ok (.lastore, 1) := by decide +kernel
theorem dd_M_deal_130 : decode cc_M_deal 130 = .ok (.aload_n 0, 1) := by decide +kernel
theorem dd_M_deal_131 : decode cc_M_deal 131 = .ok (.getfield 42, 3) := by decide +kernel
theorem dd_M_deal_134 : decode cc_M_deal 134 = .ok (.iload_n 2, 1) := by decide +kernel
theorem dd_M_deal_135 : decode cc_M_deal 135 = .ok (.lconst 0, 1) := by decide +kernel
theorem dd_M_deal_136 : decode cc_M_deal 136 = .ok (.lastore, 1) := by decide +kernel
theorem dd_M_deal_137 : decode cc_M_deal 137 = .ok (.aload_n 0, 1) := by decide +kernel
theorem dd_M_deal_138 : decode cc_M_deal 138 = .ok (.getfield 45, 3) := by decide +kernel
theorem dd_M_deal_141 : decode cc_M_deal 141 = .ok (.iload_n 2, 1) := by decide +kernel
theorem dd_M_deal_142 : decode cc_M_deal 142 = .ok (.lconst 0, 1) := by decide +kernel
theorem dd_M_deal_143 : decode cc_M_deal 143 = .ok (.lastore, 1) := by decide +kernel
theorem dd_M_deal_144 : decode cc_M_deal 144 = .ok (.aload_n 0, 1) := by decide +kernel
theorem dd_M_deal_145 : decode cc_M_deal 145 = .ok (.getfield 48, 3) := by decide +kernel
theorem dd_M_deal_148 : decode cc_M_deal 148 = .ok (.iload_n 2, 1) := by decide +kernel
theorem dd_M_deal_149 : decode cc_M_deal 149 = .ok (.iconst 0, 1) := by decide +kernel
theorem dd_M_deal_150 : decode cc_M_deal 150 = .ok (.bastore, 1) := by decide +kernel
theorem dd_M_deal_151 : decode cc_M_deal 151 = .ok (.aload_n 0, 1) := by decide +kernel
theorem dd_M_deal_152 : decode cc_M_deal 152 = .ok (.getfield 51, 3) := by decide +kernel
theorem dd_M_deal_155 : decode cc_M_deal 155 = .ok (.iload_n 2, 1) := by decide +kernel
theorem dd_M_deal_156 : decode cc_M_deal 156 = .ok (.iconst 0, 1) := by decide +kernel
theorem dd_M_deal_157 : decode cc_M_deal 157 = .ok (.bastore, 1) := by decide +kernel
theorem dd_M_deal_158 : decode cc_M_deal 158 = .ok (.aload_n 0, 1) := by decide +kernel
theorem dd_M_deal_159 : decode cc_M_deal 159 = .ok (.getfield 69, 3) := by decide +kernel
theorem dd_M_deal_162 : decode cc_M_deal 162 = .ok (.iload_n 2, 1) := by decide +kernel
theorem dd_M_deal_163 : decode cc_M_deal 163 = .ok (.iconst 1, 1) := by decide +kernel
theorem dd_M_deal_164 : decode cc_M_deal 164 = .ok (.bastore, 1) := by decide +kernel
theorem dd_M_deal_165 : decode cc_M_deal 165 = .ok (.aload_n 0, 1) := by decide +kernel
theorem dd_M_deal_166 : decode cc_M_deal 166 = .ok (.getfield 72, 3) := by decide +kernel
theorem dd_M_deal_169 : decode cc_M_deal 169 = .ok (.iload_n 2, 1) := by decide +kernel
theorem dd_M_deal_170 : decode cc_M_deal 170 = .ok (.iconst 0, 1) := by decide +kernel
theorem dd_M_deal_171 : decode cc_M_deal 171 = .ok (.iastore, 1) := by decide +kernel
theorem dd_M_deal_172 : decode cc_M_deal 172 = .ok (.aload_n 0, 1) := by decide +kernel
theorem dd_M_deal_173 : decode cc_M_deal 173 = .ok (.getfield 75, 3) := by decide +kernel
theorem dd_M_deal_176 : decode cc_M_deal 176 = .ok (.iload_n 2, 1) := by decide +kernel
theorem dd_M_deal_177 : decode cc_M_deal 177 = .ok (.iconst 0, 1) := by decide +kernel
theorem dd_M_deal_178 : decode cc_M_deal 178 = .ok (.iastore, 1) := by decide +kernel
theorem dd_M_deal_179 : decode cc_M_deal 179 = .ok (.iinc 2 (1), 3) := by decide +kernel
theorem dd_M_deal_182 : decode cc_M_deal 182 = .ok (.goto (-78), 3) := by decide +kernel
theorem dd_M_deal_185 : decode cc_M_deal 185 = .ok (.iconst 0, 1) := by decide +kernel
theorem dd_M_deal_186 : decode cc_M_deal 186 = .ok (.istore_n 2, 1) := by decide +kernel
theorem dd_M_deal_187 : decode cc_M_deal 187 = .ok (.iload_n 2, 1) := by decide +kernel
theorem dd_M_deal_188 : decode cc_M_deal 188 = .ok (.bipush (52), 2) := by decide +kernel
theorem dd_M_deal_190 : decode cc_M_deal 190 = .ok (.if_icmp .ge (17), 3) := by decide +kernel
theorem dd_M_deal_193 : decode cc_M_deal 193 = .ok (.aload_n 0, 1) := by decide +kernel
theorem dd_M_deal_194 : decode cc_M_deal 194 = .ok (.getfield 63, 3) := by decide +kernel
theorem dd_M_deal_197 : decode cc_M_deal 197 = .ok (.iload_n 2, 1) := by decide +kernel
theorem dd_M_deal_198 : decode cc_M_deal 198 = .ok (.bipush (-2), 2) := by decide +kernel
theorem dd_M_deal_200 : decode cc_M_deal 200 = .ok (.iastore, 1) := by decide +kernel
theorem dd_M_deal_201 : decode cc_M_deal 201 = .ok (.iinc 2 (1), 3) := by decide +kernel
theorem dd_M_deal_204 : decode cc_M_deal 204 = .ok (.goto (-17), 3) := by decide +kernel
theorem dd_M_deal_207 : decode cc_M_deal 207 = .ok (.iconst 0, 1) := by decide +kernel
theorem dd_M_deal_208 : decode cc_M_deal 208 = .ok (.istore_n 2, 1) := by decide +kernel
theorem dd_M_deal_209 : decode cc_M_deal 209 = .ok (.iload_n 2, 1) := by decide +kernel
theorem dd_M_deal_210 : decode cc_M_deal 210 = .ok (.sipush (208), 3) := by decide +kernel
theorem dd_M_deal_213 : decode cc_M_deal 213 = .ok (.if_icmp .ge (16), 3) := by decide +kernel
theorem dd_M_deal_216 : decode cc_M_deal 216 = .ok (.aload_n 0, 1) := by decide +kernel
theorem dd_M_deal_217 : decode cc_M_deal 217 = .ok (.getfield 66, 3) := by decide +kernel
theorem dd_M_deal_220 : decode cc_M_deal 220 = .ok (.iload_n 2, 1) := by decide +kernel
theorem dd_M_deal_221 : decode cc_M_deal 221 = .ok (.iconst 0, 1) := by decide +kernel
theorem dd_M_deal_222 : decode cc_M_deal 222 = .ok (.iastore, 1) := by decide +kernel
theorem dd_M_deal_223 : decode cc_M_deal 223 = .ok (.iinc 2 (1), 3) := by decide +kernel
theorem dd_M_deal_226 : decode cc_M_deal 226 = .ok (.goto (-17), 3) := by decide +kernel
theorem dd_M_deal_229 : decode cc_M_deal 229 = .ok (.iconst 1, 1) := by decide +kernel
theorem dd_M_deal_230 : decode cc_M_deal 230 = .ok (.ireturn, 1) := by decide +kernel
theorem dd_M_power_0 : decode cc_M_power 0 = .ok (.lconst 1, 1) := by decide +kernel
theorem dd_M_power_1 : decode cc_M_power 1 = .ok (.lstore_n 3, 1) := by decide +kernel
theorem dd_M_power_2 : decode cc_M_power 2 = .ok (.iload_n 0, 1) := by decide +kernel
theorem dd_M_power_3 : decode cc_M_power 3 = .ok (.iload_n 2, 1) := by decide +kernel
theorem dd_M_power_4 : decode cc_M_power 4 = .ok (.irem, 1) := by decide +kernel
theorem dd_M_power_5 : decode cc_M_power 5 = .ok (.i2l, 1) := by decide +kernel
theorem dd_M_power_6 : decode cc_M_power 6 = .ok (.lstore 5, 2) := by decide +kernel
theorem dd_M_power_8 : decode cc_M_power 8 = .ok (.iload_n 1, 1) := by decide +kernel
theorem dd_M_power_9 : decode cc_M_power 9 = .ok (.istore 7, 2) := by decide +kernel
theorem dd_M_power_11 : decode cc_M_power 11 = .ok (.iload 7, 2) := by decide +kernel
theorem dd_M_power_13 : decode cc_M_power 13 = .ok (.ifCond .le (38), 3) := by decide +kernel
theorem dd_M_power_16 : decode cc_M_power 16 = .ok (.iload 7, 2) := by decide +kernel
theorem dd_M_power_18 : decode cc_M_power 18 = .ok (.iconst 2, 1) := by decide +kernel
theorem dd_M_power_19 : decode cc_M_power 19 = .ok (.irem, 1) := by decide +kernel
theorem dd_M_power_20 : decode cc_M_power 20 = .ok (.iconst 1, 1) := by decide +kernel
theorem dd_M_power_21 : decode cc_M_power 21 = .ok (.if_icmp .ne (11), 3) := by decide +kernel
theorem dd_M_power_24 : decode cc_M_power 24 = .ok (.lload_n 3, 1) := by decide +kernel
theorem dd_M_power_25 : decode cc_M_power 25 = .ok (.lload 5, 2) := by decide +kernel
theorem dd_M_power_27 : decode cc_M_power 27 = .ok (.lmul, 1) := by decide +kernel
theorem dd_M_power_28 : decode cc_M_power 28 = .ok (.iload_n 2, 1) := by decide +kernel
theorem dd_M_power_29 : decode cc_M_power 29 = .ok (.i2l, 1) := by decide +kernel
theorem dd_M_power_30 : decode cc_M_power 30 = .ok (.lrem, 1) := by decide +kernel
theorem dd_M_power_31 : decode cc_M_power 31 = .ok (.lstore_n 3, 1) := by decide +kernel
theorem dd_M_power_32 : decode cc_M_power 32 = .ok (.lload 5, 2) := by decide +kernel
theorem dd_M_power_34 : decode cc_M_power 34 = .ok (.lload 5, 2) := by decide +kernel
theorem dd_M_power_36 : decode cc_M_power 36 = .ok (.lmul, 1) := by decide +kernel
theorem dd_M_power_37 : decode cc_M_power 37 = .ok (.iload_n 2, 1) := by decide +kernel
theorem dd_M_power_38 : decode cc_M_power 38 = .ok (.i2l, 1) := by decide +kernel
theorem dd_M_power_39 : decode cc_M_power 39 = .ok (.lrem, 1) := by decide +kernel
theorem dd_M_power_40 : decode cc_M_power 40 = .ok (.lstore 5, 2) := by decide +kernel
theorem dd_M_power_42 : decode cc_M_power 42 = .ok (.iload 7, 2) := by decide +kernel
theorem dd_M_power_44 : decode cc_M_power 44 = .ok (.iconst 2, 1) := by decide +kernel
theorem dd_M_power_45 : decode cc_M_power 45 = .ok (.idiv, 1) := by decide +kernel
theorem dd_M_power_46 : decode cc_M_power 46 = .ok (.istore 7, 2) := by decide +kernel
theorem dd_M_power_48 : decode cc_M_power 48 = .ok (.goto (-37), 3) := by decide +kernel
theorem dd_M_power_51 : decode cc_M_power 51 = .ok (.lload_n 3, 1) := by decide +kernel
theorem dd_M_power_52 : decode cc_M_power 52 = .ok (.l2i, 1) := by decide +kernel
theorem dd_M_power_53 : decode cc_M_power 53 = .ok (.ireturn, 1) := by decide +kernel
theorem dd_M_isExponent_0 : decode cc_M_isExponent 0 = .ok (.iload_n 1, 1) := by decide +kernel
theorem dd_M_isExponent_1 : decode cc_M_isExponent 1 = .ok (.iconst 3, 1) := by decide +kernel
theorem dd_M_isExponent_2 : decode cc_M_isExponent 2 = .ok (.if_icmp .lt (32), 3) := by decide +kernel
theorem dd_M_isExponent_5 : decode cc_M_isExponent 5 = .ok (.iload_n 1, 1) := by decide +kernel
theorem dd_M_isExponent_6 : decode cc_M_isExponent 6 = .ok (.aload_n 0, 1) := by decide +kernel
theorem dd_M_isExponent_7 : decode cc_M_isExponent 7 = .ok (.getfield 88, 3) := by decide +kernel
theorem dd_M_isExponent_10 : decode cc_M_isExponent 10 = .ok (.iconst 2, 1) := by decide +kernel
theorem dd_M_isExponent_11 : decode cc_M_isExponent 11 = .ok (.isub, 1) := by decide +kernel
theorem dd_M_isExponent_12 : decode cc_M_isExponent 12 = .ok (.if_icmp .gt (22), 3) := by decide +kernel
theorem dd_M_isExponent_15 : decode cc_M_isExponent 15 = .ok (.iload_n 1, 1) := by decide +kernel
theorem dd_M_isExponent_16 : decode cc_M_isExponent 16 = .ok (.iconst 2, 1) := by decide +kernel
theorem dd_M_isExponent_17 : decode cc_M_isExponent 17 = .ok (.irem, 1) := by decide +kernel
theorem dd_M_isExponent_18 : decode cc_M_isExponent 18 = .ok (.iconst 1, 1) := by decide +kernel
theorem dd_M_isExponent_19 : decode cc_M_isExponent 19 = .ok (.if_icmp .ne (15), 3) := by decide +kernel
theorem dd_M_isExponent_22 : decode cc_M_isExponent 22 = .ok (.iload_n 1, 1) := by decide +kernel
theorem dd_M_isExponent_23 : decode cc_M_isExponent 23 = .ok (.aload_n 0, 1) := by decide +kernel
theorem dd_M_isExponent_24 : decode cc_M_isExponent 24 = .ok (.getfield 96, 3) := by decide +kernel
theorem dd_M_isExponent_27 : decode cc_M_isExponent 27 = .ok (.if_icmp .eq (7), 3) := by decide +kernel
theorem dd_M_isExponent_30 : decode cc_M_isExponent 30 = .ok (.iconst 1, 1) := by decide +kernel
theorem dd_M_isExponent_31 : decode cc_M_isExponent 31 = .ok (.goto (4), 3) := by decide +kernel
theorem dd_M_isExponent_34 : decode cc_M_isExponent 34 = .ok (.iconst 0, 1) := by decide +kernel
theorem dd_M_isExponent_35 : decode cc_M_isExponent 35 = .ok (.ireturn, 1) := by decide +kernel
theorem dd_M_inverse_0 : decode cc_M_inverse 0 = .ok (.iload_n 1, 1) := by decide +kernel
theorem dd_M_inverse_1 : decode cc_M_inverse 1 = .ok (.aload_n 0, 1) := by decide +kernel
theorem dd_M_inverse_2 : decode cc_M_inverse 2 = .ok (.getfield 96, 3) := by decide +kernel
theorem dd_M_inverse_5 : decode cc_M_inverse 5 = .ok (.iconst 2, 1) := by decide +kernel
theorem dd_M_inverse_6 : decode cc_M_inverse 6 = .ok (.isub, 1) := by decide +kernel
theorem dd_M_inverse_7 : decode cc_M_inverse 7 = .ok (.aload_n 0, 1) := by decide +kernel
theorem dd_M_inverse_8 : decode cc_M_inverse 8 = .ok (.getfield 88, 3) := by decide +kernel
theorem dd_M_inverse_11 : decode cc_M_inverse 11 = .ok (.iconst 1, 1) := by decide +kernel
theorem dd_M_inverse_12 : decode cc_M_inverse 12 = .ok (.isub, 1) := by decide +kernel
theorem dd_M_inverse_13 : decode cc_M_inverse 13 = .ok (.invokestatic 116, 3) := by decide +kernel
theorem dd_M_inverse_16 : decode cc_M_inverse 16 = .ok (.ireturn, 1) := by decide +kernel
theorem dd_M_leastAbove_0 : decode cc_M_leastAbove 0 = .ok (.iload_n 1, 1) := by decide +kernel
theorem dd_M_leastAbove_1 : decode cc_M_leastAbove 1 = .ok (.iconst 1, 1) := by decide +kernel
theorem dd_M_leastAbove_2 : decode cc_M_leastAbove 2 = .ok (.iadd, 1) := by decide +kernel
theorem dd_M_leastAbove_3 : decode cc_M_leastAbove 3 = .ok (.istore_n 2, 1) := by decide +kernel
theorem dd_M_leastAbove_4 : decode cc_M_leastAbove 4 = .ok (.iload_n 2, 1) := by decide +kernel
theorem dd_M_leastAbove_5 : decode cc_M_leastAbove 5 = .ok (.aload_n 0, 1) := by decide +kernel
theorem dd_M_leastAbove_6 : decode cc_M_leastAbove 6 = .ok (.getfield 88, 3) := by decide +kernel
theorem dd_M_leastAbove_9 : decode cc_M_leastAbove 9 = .ok (.iconst 2, 1) := by decide +kernel
theorem dd_M_leastAbove_10 : decode cc_M_leastAbove 10 = .ok (.isub, 1) := by decide +kernel
theorem dd_M_leastAbove_11 : decode cc_M_leastAbove 11 = .ok (.if_icmp .gt (17), 3) := by decide +kernel
theorem dd_M_leastAbove_14 : decode cc_M_leastAbove 14 = .ok (.aload_n 0, 1) := by decide +kernel
theorem dd_M_leastAbove_15 : decode cc_M_leastAbove 15 = .ok (.iload_n 2, 1) := by decide +kernel
theorem dd_M_leastAbove_16 : decode cc_M_leastAbove 16 = .ok (.invokevirtual 120, 3) := by decide +kernel
theorem dd_M_leastAbove_19 : decode cc_M_leastAbove 19 = .ok (.ifCond .ne (9), 3) := by decide +kernel
theorem dd_M_leastAbove_22 : decode cc_M_leastAbove 22 = .ok (.iinc 2 (1), 3) := by decide +kernel
theorem dd_M_leastAbove_25 : decode cc_M_leastAbove 25 = .ok (.goto (-21), 3) := by decide +kernel
theorem dd_M_leastAbove_28 : decode cc_M_leastAbove 28 = .ok (.iload_n 2, 1) := by decide +kernel
theorem dd_M_leastAbove_29 : decode cc_M_leastAbove 29 = .ok (.aload_n 0, 1) := by decide +kernel
theorem dd_M_leastAbove_30 : decode cc_M_leastAbove 30 = .ok (.getfield 88, 3) := by decide +kernel
theorem dd_M_leastAbove_33 : decode cc_M_leastAbove 33 = .ok (.iconst 2, 1) := by decide +kernel
theorem dd_M_leastAbove_34 : decode cc_M_leastAbove 34 = .ok (.isub, 1) := by decide +kernel
theorem dd_M_leastAbove_35 : decode cc_M_leastAbove 35 = .ok (.if_icmp .gt (7), 3) := by decide +kernel
theorem dd_M_leastAbove_38 : decode cc_M_leastAbove 38 = .ok (.iload_n 2, 1) := by decide +kernel
theorem dd_M_leastAbove_39 : decode cc_M_leastAbove 39 = .ok (.goto (4), 3) := by decide +kernel
theorem dd_M_leastAbove_42 : decode cc_M_leastAbove 42 = .ok (.iconst 3, 1) := by decide +kernel
theorem dd_M_leastAbove_43 : decode cc_M_leastAbove 43 = .ok (.ireturn, 1) := by decide +kernel
theorem dd_M_nextDraw_0 : decode cc_M_nextDraw 0 = .ok (.aload_n 0, 1) := by decide +kernel
theorem dd_M_nextDraw_1 : decode cc_M_nextDraw 1 = .ok (.aload_n 0, 1) := by decide +kernel
theorem dd_M_nextDraw_2 : decode cc_M_nextDraw 2 = .ok (.getfield 123, 3) := by decide +kernel
theorem dd_M_nextDraw_5 : decode cc_M_nextDraw 5 = .ok (.ldc2_w 127, 3) := by decide +kernel
theorem dd_M_nextDraw_8 : decode cc_M_nextDraw 8 = .ok (.lmul, 1) := by decide +kernel
theorem dd_M_nextDraw_9 : decode cc_M_nextDraw 9 = .ok (.ldc2_w 129, 3) := by decide +kernel
theorem dd_M_nextDraw_12 : decode cc_M_nextDraw 12 = .ok (.ladd, 1) := by decide +kernel
theorem dd_M_nextDraw_13 : decode cc_M_nextDraw 13 = .ok (.putfield 123, 3) := by decide +kernel
theorem dd_M_nextDraw_16 : decode cc_M_nextDraw 16 = .ok (.aload_n 0, 1) := by decide +kernel
theorem dd_M_nextDraw_17 : decode cc_M_nextDraw 17 = .ok (.getfield 123, 3) := by decide +kernel
theorem dd_M_nextDraw_20 : decode cc_M_nextDraw 20 = .ok (.bipush (33), 2) := by decide +kernel
theorem dd_M_nextDraw_22 : decode cc_M_nextDraw 22 = .ok (.lushr, 1) := by decide +kernel
theorem dd_M_nextDraw_23 : decode cc_M_nextDraw 23 = .ok (.l2i, 1) := by decide +kernel
theorem dd_M_nextDraw_24 : decode cc_M_nextDraw 24 = .ok (.ireturn, 1) := by decide +kernel
theorem dd_M_makeOrder_0 : decode cc_M_makeOrder 0 = .ok (.aload_n 0, 1) := by decide +kernel
theorem dd_M_makeOrder_1 : decode cc_M_makeOrder 1 = .ok (.lload_n 1, 1) := by decide +kernel
theorem dd_M_makeOrder_2 : decode cc_M_makeOrder 2 = .ok (.putfield 123, 3) := by decide +kernel
theorem dd_M_makeOrder_5 : decode cc_M_makeOrder 5 = .ok (.iconst 0, 1) := by decide +kernel
theorem dd_M_makeOrder_6 : decode cc_M_makeOrder 6 = .ok (.istore_n 3, 1) := by decide +kernel
theorem dd_M_makeOrder_7 : decode cc_M_makeOrder 7 = .ok (.iload_n 3, 1) := by decide +kernel
theorem dd_M_makeOrder_8 : decode cc_M_makeOrder 8 = .ok (.bipush (52), 2) := by decide +kernel
theorem dd_M_makeOrder_10 : decode cc_M_makeOrder 10 = .ok (.if_icmp .ge (16), 3) := by decide +kernel
theorem dd_M_makeOrder_13 : decode cc_M_makeOrder 13 = .ok (.aload_n 0, 1) := by decide +kernel
theorem dd_M_makeOrder_14 : decode cc_M_makeOrder 14 = .ok (.getfield 57, 3) := by decide +kernel
theorem dd_M_makeOrder_17 : decode cc_M_makeOrder 17 = .ok (.iload_n 3, 1) := by decide +kernel
theorem dd_M_makeOrder_18 : decode cc_M_makeOrder 18 = .ok (.iload_n 3, 1) := by decide +kernel
theorem dd_M_makeOrder_19 : decode cc_M_makeOrder 19 = .ok (.iastore, 1) := by decide +kernel
theorem dd_M_makeOrder_20 : decode cc_M_makeOrder 20 = .ok (.iinc 3 (1), 3) := by decide +kernel
theorem dd_M_makeOrder_23 : decode cc_M_makeOrder 23 = .ok (.goto (-16), 3) := by decide +kernel
theorem dd_M_makeOrder_26 : decode cc_M_makeOrder 26 = .ok (.bipush (51), 2) := by decide +kernel
theorem dd_M_makeOrder_28 : decode cc_M_makeOrder 28 = .ok (.istore_n 3, 1) := by decide +kernel
theorem dd_M_makeOrder_29 : decode cc_M_makeOrder 29 = .ok (.iload_n 3, 1) := by decide +kernel
theorem dd_M_makeOrder_30 : decode cc_M_makeOrder 30 = .ok (.ifCond .le (49), 3) := by decide +kernel
theorem dd_M_makeOrder_33 : decode cc_M_makeOrder 33 = .ok (.aload_n 0, 1) := by decide +kernel
theorem dd_M_makeOrder_34 : decode cc_M_makeOrder 34 = .ok (.invokevirtual 131, 3) := by decide +kernel
theorem dd_M_makeOrder_37 : decode cc_M_makeOrder 37 = .ok (.iload_n 3, 1) := by decide +kernel
theorem dd_M_makeOrder_38 : decode cc_M_makeOrder 38 = .ok (.iconst 1, 1) := by decide +kernel
theorem dd_M_makeOrder_39 : decode cc_M_makeOrder 39 = .ok (.iadd, 1) := by decide +kernel
theorem dd_M_makeOrder_40 : decode cc_M_makeOrder 40 = .ok (.irem, 1) := by decide +kernel
theorem dd_M_makeOrder_41 : decode cc_M_makeOrder 41 = .ok (.istore 4, 2) := by decide +kernel
theorem dd_M_makeOrder_43 : decode cc_M_makeOrder 43 = .ok (.aload_n 0, 1) := by decide +kernel
theorem dd_M_makeOrder_44 : decode cc_M_makeOrder 44 = .ok (.getfield 57, 3) := by decide +kernel
theorem dd_M_makeOrder_47 : decode cc_M_makeOrder 47 = .ok (.iload_n 3, 1) := by decide +kernel
theorem dd_M_makeOrder_48 : decode cc_M_makeOrder 48 = .ok (.iaload, 1) := by decide +kernel
theorem dd_M_makeOrder_49 : decode cc_M_makeOrder 49 = .ok (.istore 5, 2) := by decide +kernel
theorem dd_M_makeOrder_51 : decode cc_M_makeOrder 51 = .ok (.aload_n 0, 1) := by decide +kernel
theorem dd_M_makeOrder_52 : decode cc_M_makeOrder 52 = .ok (.getfield 57, 3) := by decide +kernel
theorem dd_M_makeOrder_55 : decode cc_M_makeOrder 55 = .ok (.iload_n 3, 1) := by decide +kernel
theorem dd_M_makeOrder_56 : decode cc_M_makeOrder 56 = .ok (.aload_n 0, 1) := by decide +kernel
theorem dd_M_makeOrder_57 : decode cc_M_makeOrder 57 = .ok (.getfield 57, 3) := by decide +kernel
theorem dd_M_makeOrder_60 : decode cc_M_makeOrder 60 = .ok (.iload 4, 2) := by decide +kernel
theorem dd_M_makeOrder_62 : decode cc_M_makeOrder 62 = .ok (.iaload, 1) := by decide +kernel
theorem dd_M_makeOrder_63 : decode cc_M_makeOrder 63 = .ok (.iastore, 1) := by decide +kernel
theorem dd_M_makeOrder_64 : decode cc_M_makeOrder 64 = .ok (.aload_n 0, 1) := by decide +kernel
theorem dd_M_makeOrder_65 : decode cc_M_makeOrder 65 = .ok (.getfield 57, 3) := by decide +kernel
theorem dd_M_makeOrder_68 : decode cc_M_makeOrder 68 = .ok (.iload 4, 2) := by decide +kernel
theorem dd_M_makeOrder_70 : decode cc_M_makeOrder 70 = .ok (.iload 5, 2) := by decide +kernel
theorem dd_M_makeOrder_72 : decode cc_M_makeOrder 72 = .ok (.iastore, 1) := by decide +kernel
theorem dd_M_makeOrder_73 : decode cc_M_makeOrder 73 = .ok (.iinc 3 (-1), 3) := by decide +kernel
theorem dd_M_makeOrder_76 : decode cc_M_makeOrder 76 = .ok (.goto (-47), 3) := by decide +kernel
theorem dd_M_makeOrder_79 : decode cc_M_makeOrder 79 = .ok (.return_, 1) := by decide +kernel
theorem dd_M_makeLocks_0 : decode cc_M_makeLocks 0 = .ok (.aload_n 0, 1) := by decide +kernel
theorem dd_M_makeLocks_1 : decode cc_M_makeLocks 1 = .ok (.lload_n 1, 1) := by decide +kernel
theorem dd_M_makeLocks_2 : decode cc_M_makeLocks 2 = .ok (.putfield 123, 3) := by decide +kernel
theorem dd_M_makeLocks_5 : decode cc_M_makeLocks 5 = .ok (.iconst 0, 1) := by decide +kernel
theorem dd_M_makeLocks_6 : decode cc_M_makeLocks 6 = .ok (.istore_n 3, 1) := by decide +kernel
theorem dd_M_makeLocks_7 : decode cc_M_makeLocks 7 = .ok (.iload_n 3, 1) := by decide +kernel
theorem dd_M_makeLocks_8 : decode cc_M_makeLocks 8 = .ok (.bipush (52), 2) := by decide +kernel
theorem dd_M_makeLocks_10 : decode cc_M_makeLocks 10 = .ok (.if_icmp .ge (51), 3) := by decide +kernel
theorem dd_M_makeLocks_13 : decode cc_M_makeLocks 13 = .ok (.aload_n 0, 1) := by decide +kernel
theorem dd_M_makeLocks_14 : decode cc_M_makeLocks 14 = .ok (.getfield 60, 3) := by decide +kernel
theorem dd_M_makeLocks_17 : decode cc_M_makeLocks 17 = .ok (.iload_n 3, 1) := by decide +kernel
theorem dd_M_makeLocks_18 : decode cc_M_makeLocks 18 = .ok (.iconst 0, 1) := by decide +kernel
theorem dd_M_makeLocks_19 : decode cc_M_makeLocks 19 = .ok (.iastore, 1) := by decide +kernel
theorem dd_M_makeLocks_20 : decode cc_M_makeLocks 20 = .ok (.aload_n 0, 1) := by decide +kernel
theorem dd_M_makeLocks_21 : decode cc_M_makeLocks 21 = .ok (.aload_n 0, 1) := by decide +kernel
theorem dd_M_makeLocks_22 : decode cc_M_makeLocks 22 = .ok (.getfield 60, 3) := by decide +kernel
theorem dd_M_makeLocks_25 : decode cc_M_makeLocks 25 = .ok (.iload_n 3, 1) := by decide +kernel
theorem dd_M_makeLocks_26 : decode cc_M_makeLocks 26 = .ok (.iaload, 1) := by decide +kernel
theorem dd_M_makeLocks_27 : decode cc_M_makeLocks 27 = .ok (.invokevirtual 120, 3) := by decide +kernel
theorem dd_M_makeLocks_30 : decode cc_M_makeLocks 30 = .ok (.ifCond .ne (25), 3) := by decide +kernel
theorem dd_M_makeLocks_33 : decode cc_M_makeLocks 33 = .ok (.aload_n 0, 1) := by decide +kernel
theorem dd_M_makeLocks_34 : decode cc_M_makeLocks 34 = .ok (.getfield 60, 3) := by decide +kernel
theorem dd_M_makeLocks_37 : decode cc_M_makeLocks 37 = .ok (.iload_n 3, 1) := by decide +kernel
theorem dd_M_makeLocks_38 : decode cc_M_makeLocks 38 = .ok (.iconst 3, 1) := by decide +kernel
theorem dd_M_makeLocks_39 : decode cc_M_makeLocks 39 = .ok (.aload_n 0, 1) := by decide +kernel
theorem dd_M_makeLocks_40 : decode cc_M_makeLocks 40 = .ok (.invokevirtual 131, 3) := by decide +kernel
theorem dd_M_makeLocks_43 : decode cc_M_makeLocks 43 = .ok (.aload_n 0, 1) := by decide +kernel
theorem dd_M_makeLocks_44 : decode cc_M_makeLocks 44 = .ok (.getfield 88, 3) := by decide +kernel
theorem dd_M_makeLocks_47 : decode cc_M_makeLocks 47 = .ok (.iconst 4, 1) := by decide +kernel
theorem dd_M_makeLocks_48 : decode cc_M_makeLocks 48 = .ok (.isub, 1) := by decide +kernel
theorem dd_M_makeLocks_49 : decode cc_M_makeLocks 49 = .ok (.irem, 1) := by decide +kernel
theorem dd_M_makeLocks_50 : decode cc_M_makeLocks 50 = .ok (.iadd, 1) := by decide +kernel
theorem dd_M_makeLocks_51 : decode cc_M_makeLocks 51 = .ok (.iastore, 1) := by decide +kernel
theorem dd_M_makeLocks_52 : decode cc_M_makeLocks 52 = .ok (.goto (-32), 3) := by decide +kernel
theorem dd_M_makeLocks_55 : decode cc_M_makeLocks 55 = .ok (.iinc 3 (1), 3) := by decide +kernel
theorem dd_M_makeLocks_58 : decode cc_M_makeLocks 58 = .ok (.goto (-51), 3) := by decide +kernel
theorem dd_M_makeLocks_61 : decode cc_M_makeLocks 61 = .ok (.return_, 1) := by decide +kernel
theorem dd_M_sealOf_0 : decode cc_M_sealOf 0 = .ok (.iload_n 0, 1) := by decide +kernel
theorem dd_M_sealOf_1 : decode cc_M_sealOf 1 = .ok (.i2l, 1) := by decide +kernel
theorem dd_M_sealOf_2 : decode cc_M_sealOf 2 = .ok (.lstore 5, 2) := by decide +kernel
theorem dd_M_sealOf_4 : decode cc_M_sealOf 4 = .ok (.lload 5, 2) := by decide +kernel
theorem dd_M_sealOf_6 : decode cc_M_sealOf 6 = .ok (.lload 5, 2) := by decide +kernel
theorem dd_M_sealOf_8 : decode cc_M_sealOf 8 = .ok (.bipush (29), 2) := by decide +kernel
theorem dd_M_sealOf_10 : decode cc_M_sealOf 10 = .ok (.lushr, 1) := by decide +kernel
theorem dd_M_sealOf_11 : decode cc_M_sealOf 11 = .ok (.lxor, 1) := by decide +kernel
theorem dd_M_sealOf_12 : decode cc_M_sealOf 12 = .ok (.ldc2_w 135, 3) := by decide +kernel
theorem dd_M_sealOf_15 : decode cc_M_sealOf 15 = .ok (.lmul, 1) := by decide +kernel
theorem dd_M_sealOf_16 : decode cc_M_sealOf 16 = .ok (.lload_n 1, 1) := by decide +kernel
theorem dd_M_sealOf_17 : decode cc_M_sealOf 17 = .ok (.ladd, 1) := by decide +kernel
theorem dd_M_sealOf_18 : decode cc_M_sealOf 18 = .ok (.lstore 5, 2) := by decide +kernel
theorem dd_M_sealOf_20 : decode cc_M_sealOf 20 = .ok (.lload 5, 2) := by decide +kernel
theorem dd_M_sealOf_22 : decode cc_M_sealOf 22 = .ok (.lload 5, 2) := by decide +kernel
theorem dd_M_sealOf_24 : decode cc_M_sealOf 24 = .ok (.bipush (32), 2) := by decide +kernel
theorem dd_M_sealOf_26 : decode cc_M_sealOf 26 = .ok (.lushr, 1) := by decide +kernel
theorem dd_M_sealOf_27 : decode cc_M_sealOf 27 = .ok (.lxor, 1) := by decide +kernel
theorem dd_M_sealOf_28 : decode cc_M_sealOf 28 = .ok (.ldc2_w 137, 3) := by decide +kernel
theorem dd_M_sealOf_31 : decode cc_M_sealOf 31 = .ok (.lmul, 1) := by decide +kernel
theorem dd_M_sealOf_32 : decode cc_M_sealOf 32 = .ok (.lload_n 3, 1) := by decide +kernel
theorem dd_M_sealOf_33 : decode cc_M_sealOf 33 = .ok (.ladd, 1) := by decide +kernel
theorem dd_M_sealOf_34 : decode cc_M_sealOf 34 = .ok (.lstore 5, 2) := by decide +kernel
theorem dd_M_sealOf_36 : decode cc_M_sealOf 36 = .ok (.lload 5, 2) := by decide +kernel
theorem dd_M_sealOf_38 : decode cc_M_sealOf 38 = .ok (.lload 5, 2) := by decide +kernel
theorem dd_M_sealOf_40 : decode cc_M_sealOf 40 = .ok (.bipush (29), 2) := by decide +kernel
theorem dd_M_sealOf_42 : decode cc_M_sealOf 42 = .ok (.lushr, 1) := by decide +kernel
theorem dd_M_sealOf_43 : decode cc_M_sealOf 43 = .ok (.lxor, 1) := by decide +kernel
theorem dd_M_sealOf_44 : decode cc_M_sealOf 44 = .ok (.ldc2_w 135, 3) := by decide +kernel
theorem dd_M_sealOf_47 : decode cc_M_sealOf 47 = .ok (.lmul, 1) := by decide +kernel
theorem dd_M_sealOf_48 : decode cc_M_sealOf 48 = .ok (.lstore 5, 2) := by decide +kernel
theorem dd_M_sealOf_50 : decode cc_M_sealOf 50 = .ok (.lload 5, 2) := by decide +kernel
theorem dd_M_sealOf_52 : decode cc_M_sealOf 52 = .ok (.lload 5, 2) := by decide +kernel
theorem dd_M_sealOf_54 : decode cc_M_sealOf 54 = .ok (.bipush (32), 2) := by decide +kernel
theorem dd_M_sealOf_56 : decode cc_M_sealOf 56 = .ok (.lushr, 1) := by decide +kernel
theorem dd_M_sealOf_57 : decode cc_M_sealOf 57 = .ok (.lxor, 1) := by decide +kernel
theorem dd_M_sealOf_58 : decode cc_M_sealOf 58 = .ok (.lreturn, 1) := by decide +kernel
theorem dd_M_sealOf2_0 : decode cc_M_sealOf2 0 = .ok (.aload_n 0, 1) := by decide +kernel
theorem dd_M_sealOf2_1 : decode cc_M_sealOf2 1 = .ok (.iload_n 1, 1) := by decide +kernel
theorem dd_M_sealOf2_2 : decode cc_M_sealOf2 2 = .ok (.invokevirtual 139, 3) := by decide +kernel
theorem dd_M_sealOf2_5 : decode cc_M_sealOf2 5 = .ok (.ifCond .eq (12), 3) := by decide +kernel
theorem dd_M_sealOf2_8 : decode cc_M_sealOf2 8 = .ok (.aload_n 0, 1) := by decide +kernel
theorem dd_M_sealOf2_9 : decode cc_M_sealOf2 9 = .ok (.getfield 13, 3) := by decide +kernel
theorem dd_M_sealOf2_12 : decode cc_M_sealOf2 12 = .ok (.iload_n 1, 1) := by decide +kernel
theorem dd_M_sealOf2_13 : decode cc_M_sealOf2 13 = .ok (.baload, 1) := by decide +kernel
theorem dd_M_sealOf2_14 : decode cc_M_sealOf2 14 = .ok (.ifCond .ne (10), 3) := by decide +kernel
theorem dd_M_sealOf2_17 : decode cc_M_sealOf2 17 = .ok (.aload_n 0, 1) := by decide +kernel
theorem dd_M_sealOf2_18 : decode cc_M_sealOf2 18 = .ok (.iconst 1, 1) := by decide +kernel
theorem dd_M_sealOf2_19 : decode cc_M_sealOf2 19 = .ok (.invokevirtual 146, 3) := by decide +kernel
theorem dd_M_sealOf2_22 : decode cc_M_sealOf2 22 = .ok (.i2l, 1) := by decide +kernel
theorem dd_M_sealOf2_23 : decode cc_M_sealOf2 23 = .ok (.lreturn, 1) := by decide +kernel
theorem dd_M_sealOf2_24 : decode cc_M_sealOf2 24 = .ok (.aload_n 0, 1) := by decide +kernel
theorem dd_M_sealOf2_25 : decode cc_M_sealOf2 25 = .ok (.iconst 0, 1) := by decide +kernel
theorem dd_M_sealOf2_26 : decode cc_M_sealOf2 26 = .ok (.putfield 85, 3) := by decide +kernel
theorem dd_M_sealOf2_29 : decode cc_M_sealOf2 29 = .ok (.aload_n 0, 1) := by decide +kernel
theorem dd_M_sealOf2_30 : decode cc_M_sealOf2 30 = .ok (.getfield 17, 3) := by decide +kernel
theorem dd_M_sealOf2_33 : decode cc_M_sealOf2 33 = .ok (.iload_n 1, 1) := by decide +kernel
theorem dd_M_sealOf2_34 : decode cc_M_sealOf2 34 = .ok (.laload, 1) := by decide +kernel
theorem dd_M_sealOf2_35 : decode cc_M_sealOf2 35 = .ok (.lreturn, 1) := by decide +kernel
theorem dd_M_seal_0 : decode cc_M_seal 0 = .ok (.aload_n 0, 1) := by decide +kernel
theorem dd_M_seal_1 : decode cc_M_seal 1 = .ok (.iconst 0, 1) := by decide +kernel
theorem dd_M_seal_2 : decode cc_M_seal 2 = .ok (.putfield 85, 3) := by decide +kernel
theorem dd_M_seal_5 : decode cc_M_seal 5 = .ok (.aload_n 0, 1) := by decide +kernel
theorem dd_M_seal_6 : decode cc_M_seal 6 = .ok (.iload_n 1, 1) := by decide +kernel
theorem dd_M_seal_7 : decode cc_M_seal 7 = .ok (.invokevirtual 139, 3) := by decide +kernel
theorem dd_M_seal_10 : decode cc_M_seal 10 = .ok (.ifCond .eq (28), 3) := by decide +kernel
theorem dd_M_seal_13 : decode cc_M_seal 13 = .ok (.aload_n 0, 1) := by decide +kernel
theorem dd_M_seal_14 : decode cc_M_seal 14 = .ok (.getfield 108, 3) := by decide +kernel
theorem dd_M_seal_17 : decode cc_M_seal 17 = .ok (.iconst 1, 1) := by decide +kernel
theorem dd_M_seal_18 : decode cc_M_seal 18 = .ok (.if_icmp .ne (20), 3) := by decide +kernel
theorem dd_M_seal_21 : decode cc_M_seal 21 = .ok (.aload_n 0, 1) := by decide +kernel
theorem dd_M_seal_22 : decode cc_M_seal 22 = .ok (.getfield 13, 3) := by decide +kernel
theorem dd_M_seal_25 : decode cc_M_seal 25 = .ok (.iload_n 1, 1) := by decide +kernel
theorem dd_M_seal_26 : decode cc_M_seal 26 = .ok (.baload, 1) := by decide +kernel
theorem dd_M_seal_27 : decode cc_M_seal 27 = .ok (.ifCond .ne (11), 3) := by decide +kernel
theorem dd_M_seal_30 : decode cc_M_seal 30 = .ok (.aload_n 0, 1) := by decide +kernel
theorem dd_M_seal_31 : decode cc_M_seal 31 = .ok (.iload_n 2, 1) := by decide +kernel
theorem dd_M_seal_32 : decode cc_M_seal 32 = .ok (.invokevirtual 120, 3) := by decide +kernel
theorem dd_M_seal_35 : decode cc_M_seal 35 = .ok (.ifCond .ne (5), 3) := by decide +kernel
theorem dd_M_seal_38 : decode cc_M_seal 38 = .ok (.iconst 0, 1) := by decide +kernel
theorem dd_M_seal_39 : decode cc_M_seal 39 = .ok (.ireturn, 1) := by decide +kernel
theorem dd_M_seal_40 : decode cc_M_seal 40 = .ok (.aload_n 0, 1) := by decide +kernel
theorem dd_M_seal_41 : decode cc_M_seal 41 = .ok (.getfield 13, 3) := by decide +kernel
theorem dd_M_seal_44 : decode cc_M_seal 44 = .ok (.iload_n 1, 1) := by decide +kernel
theorem dd_M_seal_45 : decode cc_M_seal 45 = .ok (.iconst 1, 1) := by decide +kernel
theorem dd_M_seal_46 : decode cc_M_seal 46 = .ok (.bastore, 1) := by decide +kernel
theorem dd_M_seal_47 : decode cc_M_seal 47 = .ok (.aload_n 0, 1) := by decide +kernel
theorem dd_M_seal_48 : decode cc_M_seal 48 = .ok (.getfield 21, 3) := by decide +kernel
theorem dd_M_seal_51 : decode cc_M_seal 51 = .ok (.iload_n 1, 1) := by decide +kernel
theorem dd_M_seal_52 : decode cc_M_seal 52 = .ok (.iload_n 2, 1) := by decide +kernel
theorem dd_M_seal_53 : decode cc_M_seal 53 = .ok (.iastore, 1) := by decide +kernel
theorem dd_M_seal_54 : decode cc_M_seal 54 = .ok (.aload_n 0, 1) := by decide +kernel
theorem dd_M_seal_55 : decode cc_M_seal 55 = .ok (.getfield 24, 3) := by decide +kernel
theorem dd_M_seal_58 : decode cc_M_seal 58 = .ok (.iload_n 1, 1) := by decide +kernel
theorem dd_M_seal_59 : decode cc_M_seal 59 = .ok (.lload_n 3, 1) := by decide +kernel
theorem dd_M_seal_60 : decode cc_M_seal 60 = .ok (.lastore, 1) := by decide +kernel
theorem dd_M_seal_61 : decode cc_M_seal 61 = .ok (.aload_n 0, 1) := by decide +kernel
theorem dd_M_seal_62 : decode cc_M_seal 62 = .ok (.getfield 27, 3) := by decide +kernel
theorem dd_M_seal_65 : decode cc_M_seal 65 = .ok (.iload_n 1, 1) := by decide +kernel
theorem dd_M_seal_66 : decode cc_M_seal 66 = .ok (.lload 5, 2) := by decide +kernel
theorem dd_M_seal_68 : decode cc_M_seal 68 = .ok (.lastore, 1) := by decide +kernel
theorem dd_M_seal_69 : decode cc_M_seal 69 = .ok (.aload_n 0, 1) := by decide +kernel
theorem dd_M_seal_70 : decode cc_M_seal 70 = .ok (.getfield 17, 3) := by decide +kernel
theorem dd_M_seal_73 : decode cc_M_seal 73 = .ok (.iload_n 1, 1) := by decide +kernel
theorem dd_M_seal_74 : decode cc_M_seal 74 = .ok (.iload_n 2, 1) := by decide +kernel
theorem dd_M_seal_75 : decode cc_M_seal 75 = .ok (.lload_n 3, 1) := by decide +kernel
theorem dd_M_seal_76 : decode cc_M_seal 76 = .ok (.lload 5, 2) := by decide +kernel
theorem dd_M_seal_78 : decode cc_M_seal 78 = .ok (.invokestatic 142, 3) := by decide +kernel
theorem dd_M_seal_81 : decode cc_M_seal 81 = .ok (.lastore, 1) := by decide +kernel
theorem dd_M_seal_82 : decode cc_M_seal 82 = .ok (.iconst 1, 1) := by decide +kernel
theorem dd_M_seal_83 : decode cc_M_seal 83 = .ok (.istore 7, 2) := by decide +kernel
theorem dd_M_seal_85 : decode cc_M_seal 85 = .ok (.iconst 0, 1) := by decide +kernel
theorem dd_M_seal_86 : decode cc_M_seal 86 = .ok (.istore 8, 2) := by decide +kernel
theorem dd_M_seal_88 : decode cc_M_seal 88 = .ok (.iload 8, 2) := by decide +kernel
theorem dd_M_seal_90 : decode cc_M_seal 90 = .ok (.aload_n 0, 1) := by decide +kernel
theorem dd_M_seal_91 : decode cc_M_seal 91 = .ok (.getfield 105, 3) := by decide +kernel
theorem dd_M_seal_94 : decode cc_M_seal 94 = .ok (.if_icmp .ge (31), 3) := by decide +kernel
theorem dd_M_seal_97 : decode cc_M_seal 97 = .ok (.iload 7, 2) := by decide +kernel
theorem dd_M_seal_99 : decode cc_M_seal 99 = .ok (.ifCond .eq (17), 3) := by decide +kernel
theorem dd_M_seal_102 : decode cc_M_seal 102 = .ok (.aload_n 0, 1) := by decide +kernel
theorem dd_M_seal_103 : decode cc_M_seal 103 = .ok (.getfield 13, 3) := by decide +kernel
theorem dd_M_seal_106 : decode cc_M_seal 106 = .ok (.iload 8, 2) := by decide +kernel
theorem dd_M_seal_108 : decode cc_M_seal 108 = .ok (.baload, 1) := by decide +kernel
theorem dd_M_seal_109 : decode cc_M_seal 109 = .ok (.ifCond .eq (7), 3) := by decide +kernel
theorem dd_M_seal_112 : decode cc_M_seal 112 = .ok (.iconst 1, 1) := by decide +kernel
theorem dd_M_seal_113 : decode cc_M_seal 113 = .ok (.goto (4), 3) := by decide +kernel
theorem dd_M_seal_116 : decode cc_M_seal 116 = .ok (.iconst 0, 1) := by decide +kernel
theorem dd_M_seal_117 : decode cc_M_seal 117 = .ok (.istore 7, 2) := by decide +kernel
theorem dd_M_seal_119 : decode cc_M_seal 119 = .ok (.iinc 8 (1), 3) := by decide +kernel
theorem dd_M_seal_122 : decode cc_M_seal 122 = .ok (.goto (-34), 3) := by decide +kernel
theorem dd_M_seal_125 : decode cc_M_seal 125 = .ok (.iload 7, 2) := by decide +kernel
theorem dd_M_seal_127 : decode cc_M_seal 127 = .ok (.ifCond .eq (8), 3) := by decide +kernel
theorem dd_M_seal_130 : decode cc_M_seal 130 = .ok (.aload_n 0, 1) := by decide +kernel
theorem dd_M_seal_131 : decode cc_M_seal 131 = .ok (.iconst 2, 1) := by decide +kernel
theorem dd_M_seal_132 : decode cc_M_seal 132 = .ok (.putfield 108, 3) := by decide +kernel
theorem dd_M_seal_135 : decode cc_M_seal 135 = .ok (.iconst 1, 1) := by decide +kernel
theorem dd_M_seal_136 : decode cc_M_seal 136 = .ok (.ireturn, 1) := by decide +kernel
theorem dd_M_lockedAt_0 : decode cc_M_lockedAt 0 = .ok (.aload_n 0, 1) := by decide +kernel
theorem dd_M_lockedAt_1 : decode cc_M_lockedAt 1 = .ok (.getfield 54, 3) := by decide +kernel
theorem dd_M_lockedAt_4 : decode cc_M_lockedAt 4 = .ok (.bipush (52), 2) := by decide +kernel
theorem dd_M_lockedAt_6 : decode cc_M_lockedAt 6 = .ok (.iload_n 1, 1) := by decide +kernel
theorem dd_M_lockedAt_7 : decode cc_M_lockedAt 7 = .ok (.imul, 1) := by decide +kernel
theorem dd_M_lockedAt_8 : decode cc_M_lockedAt 8 = .ok (.aload_n 0, 1) := by decide +kernel
theorem dd_M_lockedAt_9 : decode cc_M_lockedAt 9 = .ok (.getfield 57, 3) := by decide +kernel
theorem dd_M_lockedAt_12 : decode cc_M_lockedAt 12 = .ok (.iload_n 2, 1) := by decide +kernel
theorem dd_M_lockedAt_13 : decode cc_M_lockedAt 13 = .ok (.iaload, 1) := by decide +kernel
theorem dd_M_lockedAt_14 : decode cc_M_lockedAt 14 = .ok (.iadd, 1) := by decide +kernel
theorem dd_M_lockedAt_15 : decode cc_M_lockedAt 15 = .ok (.iaload, 1) := by decide +kernel
theorem dd_M_lockedAt_16 : decode cc_M_lockedAt 16 = .ok (.iload_n 3, 1) := by decide +kernel
theorem dd_M_lockedAt_17 : decode cc_M_lockedAt 17 = .ok (.aload_n 0, 1) := by decide +kernel
theorem dd_M_lockedAt_18 : decode cc_M_lockedAt 18 = .ok (.getfield 88, 3) := by decide +kernel
theorem dd_M_lockedAt_21 : decode cc_M_lockedAt 21 = .ok (.invokestatic 116, 3) := by decide +kernel
theorem dd_M_lockedAt_24 : decode cc_M_lockedAt 24 = .ok (.ireturn, 1) := by decide +kernel
theorem dd_M_relockedAt_0 : decode cc_M_relockedAt 0 = .ok (.aload_n 0, 1) := by decide +kernel
theorem dd_M_relockedAt_1 : decode cc_M_relockedAt 1 = .ok (.getfield 54, 3) := by decide +kernel
theorem dd_M_relockedAt_4 : decode cc_M_relockedAt 4 = .ok (.bipush (52), 2) := by decide +kernel
theorem dd_M_relockedAt_6 : decode cc_M_relockedAt 6 = .ok (.iload_n 1, 1) := by decide +kernel
theorem dd_M_relockedAt_7 : decode cc_M_relockedAt 7 = .ok (.imul, 1) := by decide +kernel
theorem dd_M_relockedAt_8 : decode cc_M_relockedAt 8 = .ok (.iload_n 2, 1) := by decide +kernel
theorem dd_M_relockedAt_9 : decode cc_M_relockedAt 9 = .ok (.iadd, 1) := by decide +kernel
theorem dd_M_relockedAt_10 : decode cc_M_relockedAt 10 = .ok (.iaload, 1) := by decide +kernel
theorem dd_M_relockedAt_11 : decode cc_M_relockedAt 11 = .ok (.aload_n 0, 1) := by decide +kernel
theorem dd_M_relockedAt_12 : decode cc_M_relockedAt 12 = .ok (.iload_n 3, 1) := by decide +kernel
theorem dd_M_relockedAt_13 : decode cc_M_relockedAt 13 = .ok (.invokevirtual 150, 3) := by decide +kernel
theorem dd_M_relockedAt_16 : decode cc_M_relockedAt 16 = .ok (.aload_n 0, 1) := by decide +kernel
theorem dd_M_relockedAt_17 : decode cc_M_relockedAt 17 = .ok (.getfield 88, 3) := by decide +kernel
theorem dd_M_relockedAt_20 : decode cc_M_relockedAt 20 = .ok (.invokestatic 116, 3) := by decide +kernel
theorem dd_M_relockedAt_23 : decode cc_M_relockedAt 23 = .ok (.aload_n 0, 1) := by decide +kernel
theorem dd_M_relockedAt_24 : decode cc_M_relockedAt 24 = .ok (.getfield 60, 3) := by decide +kernel
theorem dd_M_relockedAt_27 : decode cc_M_relockedAt 27 = .ok (.iload_n 2, 1) := by decide +kernel
theorem dd_M_relockedAt_28 : decode cc_M_relockedAt 28 = .ok (.iaload, 1) := by decide +kernel
theorem dd_M_relockedAt_29 : decode cc_M_relockedAt 29 = .ok (.aload_n 0, 1) := by decide +kernel
theorem dd_M_relockedAt_30 : decode cc_M_relockedAt 30 = .ok (.getfield 88, 3) := by decide +kernel
theorem dd_M_relockedAt_33 : decode cc_M_relockedAt 33 = .ok (.invokestatic 116, 3) := by decide +kernel
theorem dd_M_relockedAt_36 : decode cc_M_relockedAt 36 = .ok (.ireturn, 1) := by decide +kernel
theorem dd_M_cheated_0 : decode cc_M_cheated 0 = .ok (.lload_n 1, 1) := by decide +kernel
theorem dd_M_cheated_1 : decode cc_M_cheated 1 = .ok (.iload_n 3, 1) := by decide +kernel
theorem dd_M_cheated_2 : decode cc_M_cheated 2 = .ok (.lshr, 1) := by decide +kernel
theorem dd_M_cheated_3 : decode cc_M_cheated 3 = .ok (.lconst 1, 1) := by decide +kernel
theorem dd_M_cheated_4 : decode cc_M_cheated 4 = .ok (.land, 1) := by decide +kernel
theorem dd_M_cheated_5 : decode cc_M_cheated 5 = .ok (.lconst 0, 1) := by decide +kernel
theorem dd_M_cheated_6 : decode cc_M_cheated 6 = .ok (.lcmp, 1) := by decide +kernel
theorem dd_M_cheated_7 : decode cc_M_cheated 7 = .ok (.ifCond .ne (8), 3) := by decide +kernel
theorem dd_M_cheated_10 : decode cc_M_cheated 10 = .ok (.iload 4, 2) := by decide +kernel
theorem dd_M_cheated_12 : decode cc_M_cheated 12 = .ok (.goto (22), 3) := by decide +kernel
theorem dd_M_cheated_15 : decode cc_M_cheated 15 = .ok (.iload 4, 2) := by decide +kernel
theorem dd_M_cheated_17 : decode cc_M_cheated 17 = .ok (.aload_n 0, 1) := by decide +kernel
theorem dd_M_cheated_18 : decode cc_M_cheated 18 = .ok (.getfield 88, 3) := by decide +kernel
theorem dd_M_cheated_21 : decode cc_M_cheated 21 = .ok (.iconst 1, 1) := by decide +kernel
theorem dd_M_cheated_22 : decode cc_M_cheated 22 = .ok (.isub, 1) := by decide +kernel
theorem dd_M_cheated_23 : decode cc_M_cheated 23 = .ok (.if_icmp .ne (7), 3) := by decide +kernel
theorem dd_M_cheated_26 : decode cc_M_cheated 26 = .ok (.iconst 1, 1) := by decide +kernel
theorem dd_M_cheated_27 : decode cc_M_cheated 27 = .ok (.goto (7), 3) := by decide +kernel
theorem dd_M_cheated_30 : decode cc_M_cheated 30 = .ok (.iload 4, 2) := by decide +kernel
theorem dd_M_cheated_32 : decode cc_M_cheated 32 = .ok (.iconst 1, 1) := by decide +kernel
theorem dd_M_cheated_33 : decode cc_M_cheated 33 = .ok (.iadd, 1) := by decide +kernel
theorem dd_M_cheated_34 : decode cc_M_cheated 34 = .ok (.ireturn, 1) := by decide +kernel
theorem dd_M_turn_0 : decode cc_M_turn 0 = .ok (.aload_n 0, 1) := by decide +kernel
theorem dd_M_turn_1 : decode cc_M_turn 1 = .ok (.iconst 0, 1) := by decide +kernel
theorem dd_M_turn_2 : decode cc_M_turn 2 = .ok (.putfield 85, 3) := by decide +kernel
theorem dd_M_turn_5 : decode cc_M_turn 5 = .ok (.aload_n 0, 1) := by decide +kernel
theorem dd_M_turn_6 : decode cc_M_turn 6 = .ok (.getfield 108, 3) := by decide +kernel
theorem dd_M_turn_9 : decode cc_M_turn 9 = .ok (.iconst 2, 1) := by decide +kernel
theorem dd_M_turn_10 : decode cc_M_turn 10 = .ok (.if_icmp .eq (11), 3) := by decide +kernel
theorem dd_M_turn_13 : decode cc_M_turn 13 = .ok (.aload_n 0, 1) := by decide +kernel
theorem dd_M_turn_14 : decode cc_M_turn 14 = .ok (.getfield 108, 3) := by decide +kernel
theorem dd_M_turn_17 : decode cc_M_turn 17 = .ok (.iconst 3, 1) := by decide +kernel
theorem dd_M_turn_18 : decode cc_M_turn 18 = .ok (.if_icmp .ne (24), 3) := by decide +kernel
theorem dd_M_turn_21 : decode cc_M_turn 21 = .ok (.aload_n 0, 1) := by decide +kernel
theorem dd_M_turn_22 : decode cc_M_turn 22 = .ok (.iload_n 1, 1) := by decide +kernel
theorem dd_M_turn_23 : decode cc_M_turn 23 = .ok (.invokevirtual 139, 3) := by decide +kernel
theorem dd_M_turn_26 : decode cc_M_turn 26 = .ok (.ifCond .eq (16), 3) := by decide +kernel
theorem dd_M_turn_29 : decode cc_M_turn 29 = .ok (.aload_n 0, 1) := by decide +kernel
theorem dd_M_turn_30 : decode cc_M_turn 30 = .ok (.getfield 102, 3) := by decide +kernel
theorem dd_M_turn_33 : decode cc_M_turn 33 = .ok (.aload_n 0, 1) := by decide +kernel
theorem dd_M_turn_34 : decode cc_M_turn 34 = .ok (.getfield 105, 3) := by decide +kernel
theorem dd_M_turn_37 : decode cc_M_turn 37 = .ok (.irem, 1) := by decide +kernel
theorem dd_M_turn_38 : decode cc_M_turn 38 = .ok (.iload_n 1, 1) := by decide +kernel
theorem dd_M_turn_39 : decode cc_M_turn 39 = .ok (.if_icmp .eq (5), 3) := by decide +kernel
theorem dd_M_turn_42 : decode cc_M_turn 42 = .ok (.iconst 0, 1) := by decide +kernel
theorem dd_M_turn_43 : decode cc_M_turn 43 = .ok (.ireturn, 1) := by decide +kernel
theorem dd_M_turn_44 : decode cc_M_turn 44 = .ok (.aload_n 0, 1) := by decide +kernel
theorem dd_M_turn_45 : decode cc_M_turn 45 = .ok (.getfield 108, 3) := by decide +kernel
theorem dd_M_turn_48 : decode cc_M_turn 48 = .ok (.iconst 2, 1) := by decide +kernel
theorem dd_M_turn_49 : decode cc_M_turn 49 = .ok (.if_icmp .ne (16), 3) := by decide +kernel
theorem dd_M_turn_52 : decode cc_M_turn 52 = .ok (.aload_n 0, 1) := by decide +kernel
theorem dd_M_turn_53 : decode cc_M_turn 53 = .ok (.aload_n 0, 1) := by decide +kernel
theorem dd_M_turn_54 : decode cc_M_turn 54 = .ok (.getfield 24, 3) := by decide +kernel
theorem dd_M_turn_57 : decode cc_M_turn 57 = .ok (.iload_n 1, 1) := by decide +kernel
theorem dd_M_turn_58 : decode cc_M_turn 58 = .ok (.laload, 1) := by decide +kernel
theorem dd_M_turn_59 : decode cc_M_turn 59 = .ok (.invokevirtual 153, 3) := by decide +kernel
theorem dd_M_turn_62 : decode cc_M_turn 62 = .ok (.goto (13), 3) := by decide +kernel
theorem dd_M_turn_65 : decode cc_M_turn 65 = .ok (.aload_n 0, 1) := by decide +kernel
theorem dd_M_turn_66 : decode cc_M_turn 66 = .ok (.aload_n 0, 1) := by decide +kernel
theorem dd_M_turn_67 : decode cc_M_turn 67 = .ok (.getfield 27, 3) := by decide +kernel
theorem dd_M_turn_70 : decode cc_M_turn 70 = .ok (.iload_n 1, 1) := by decide +kernel
theorem dd_M_turn_71 : decode cc_M_turn 71 = .ok (.laload, 1) := by decide +kernel
theorem dd_M_turn_72 : decode cc_M_turn 72 = .ok (.invokevirtual 157, 3) := by decide +kernel
theorem dd_M_turn_75 : decode cc_M_turn 75 = .ok (.iconst 0, 1) := by decide +kernel
theorem dd_M_turn_76 : decode cc_M_turn 76 = .ok (.istore_n 2, 1) := by decide +kernel
theorem dd_M_turn_77 : decode cc_M_turn 77 = .ok (.iload_n 2, 1) := by decide +kernel
theorem dd_M_turn_78 : decode cc_M_turn 78 = .ok (.bipush (52), 2) := by decide +kernel
theorem dd_M_turn_80 : decode cc_M_turn 80 = .ok (.if_icmp .ge (96), 3) := by decide +kernel
theorem dd_M_turn_83 : decode cc_M_turn 83 = .ok (.aload_n 0, 1) := by decide +kernel
theorem dd_M_turn_84 : decode cc_M_turn 84 = .ok (.getfield 108, 3) := by decide +kernel
theorem dd_M_turn_87 : decode cc_M_turn 87 = .ok (.iconst 2, 1) := by decide +kernel
theorem dd_M_turn_88 : decode cc_M_turn 88 = .ok (.if_icmp .ne (21), 3) := by decide +kernel
theorem dd_M_turn_91 : decode cc_M_turn 91 = .ok (.aload_n 0, 1) := by decide +kernel
theorem dd_M_turn_92 : decode cc_M_turn 92 = .ok (.aload_n 0, 1) := by decide +kernel
theorem dd_M_turn_93 : decode cc_M_turn 93 = .ok (.getfield 102, 3) := by decide +kernel
theorem dd_M_turn_96 : decode cc_M_turn 96 = .ok (.iload_n 2, 1) := by decide +kernel
theorem dd_M_turn_97 : decode cc_M_turn 97 = .ok (.aload_n 0, 1) := by decide +kernel
theorem dd_M_turn_98 : decode cc_M_turn 98 = .ok (.getfield 21, 3) := by decide +kernel
theorem dd_M_turn_101 : decode cc_M_turn 101 = .ok (.iload_n 1, 1) := by decide +kernel
theorem dd_M_turn_102 : decode cc_M_turn 102 = .ok (.iaload, 1) := by decide +kernel
theorem dd_M_turn_103 : decode cc_M_turn 103 = .ok (.invokevirtual 160, 3) := by decide +kernel
theorem dd_M_turn_106 : decode cc_M_turn 106 = .ok (.goto (18), 3) := by decide +kernel
theorem dd_M_turn_109 : decode cc_M_turn 109 = .ok (.aload_n 0, 1) := by decide +kernel
theorem dd_M_turn_110 : decode cc_M_turn 110 = .ok (.aload_n 0, 1) := by decide +kernel
theorem dd_M_turn_111 : decode cc_M_turn 111 = .ok (.getfield 102, 3) := by decide +kernel
theorem dd_M_turn_114 : decode cc_M_turn 114 = .ok (.iload_n 2, 1) := by decide +kernel
theorem dd_M_turn_115 : decode cc_M_turn 115 = .ok (.aload_n 0, 1) := by decide +kernel
theorem dd_M_turn_116 : decode cc_M_turn 116 = .ok (.getfield 21, 3) := by decide +kernel
theorem dd_M_turn_119 : decode cc_M_turn 119 = .ok (.iload_n 1, 1) := by decide +kernel
theorem dd_M_turn_120 : decode cc_M_turn 120 = .ok (.iaload, 1) := by decide +kernel
theorem dd_M_turn_121 : decode cc_M_turn 121 = .ok (.invokevirtual 163, 3) := by decide +kernel
theorem dd_M_turn_124 : decode cc_M_turn 124 = .ok (.istore_n 3, 1) := by decide +kernel
theorem dd_M_turn_125 : decode cc_M_turn 125 = .ok (.aload_n 0, 1) := by decide +kernel
theorem dd_M_turn_126 : decode cc_M_turn 126 = .ok (.getfield 54, 3) := by decide +kernel
theorem dd_M_turn_129 : decode cc_M_turn 129 = .ok (.bipush (52), 2) := by decide +kernel
theorem dd_M_turn_131 : decode cc_M_turn 131 = .ok (.aload_n 0, 1) := by decide +kernel
theorem dd_M_turn_132 : decode cc_M_turn 132 = .ok (.getfield 102, 3) := by decide +kernel
theorem dd_M_turn_135 : decode cc_M_turn 135 = .ok (.iconst 1, 1) := by decide +kernel
theorem dd_M_turn_136 : decode cc_M_turn 136 = .ok (.iadd, 1) := by decide +kernel
theorem dd_M_turn_137 : decode cc_M_turn 137 = .ok (.imul, 1) := by decide +kernel
theorem dd_M_turn_138 : decode cc_M_turn 138 = .ok (.iload_n 2, 1) := by decide +kernel
theorem dd_M_turn_139 : decode cc_M_turn 139 = .ok (.iadd, 1) := by decide +kernel
theorem dd_M_turn_140 : decode cc_M_turn 140 = .ok (.aload_n 0, 1) := by decide +kernel
theorem dd_M_turn_141 : decode cc_M_turn 141 = .ok (.aload_n 0, 1) := by decide +kernel
theorem dd_M_turn_142 : decode cc_M_turn 142 = .ok (.getfield 108, 3) := by decide +kernel
theorem dd_M_turn_145 : decode cc_M_turn 145 = .ok (.iconst 2, 1) := by decide +kernel
theorem dd_M_turn_146 : decode cc_M_turn 146 = .ok (.if_icmp .ne (12), 3) := by decide +kernel
theorem dd_M_turn_149 : decode cc_M_turn 149 = .ok (.aload_n 0, 1) := by decide +kernel
theorem dd_M_turn_150 : decode cc_M_turn 150 = .ok (.getfield 39, 3) := by decide +kernel
theorem dd_M_turn_153 : decode cc_M_turn 153 = .ok (.iload_n 1, 1) := by decide +kernel
theorem dd_M_turn_154 : decode cc_M_turn 154 = .ok (.laload, 1) := by decide +kernel
theorem dd_M_turn_155 : decode cc_M_turn 155 = .ok (.goto (9), 3) := by decide +kernel
theorem dd_M_turn_158 : decode cc_M_turn 158 = .ok (.aload_n 0, 1) := by decide +kernel
theorem dd_M_turn_159 : decode cc_M_turn 159 = .ok (.getfield 42, 3) := by decide +kernel
theorem dd_M_turn_162 : decode cc_M_turn 162 = .ok (.iload_n 1, 1) := by decide +kernel
theorem dd_M_turn_163 : decode cc_M_turn 163 = .ok (.laload, 1) := by decide +kernel
theorem dd_M_turn_164 : decode cc_M_turn 164 = .ok (.iload_n 2, 1) := by decide +kernel
theorem dd_M_turn_165 : decode cc_M_turn 165 = .ok (.iload_n 3, 1) := by decide +kernel
theorem dd_M_turn_166 : decode cc_M_turn 166 = .ok (.invokevirtual 166, 3) := by decide +kernel
theorem dd_M_turn_169 : decode cc_M_turn 169 = .ok (.iastore, 1) := by decide +kernel
theorem dd_M_turn_170 : decode cc_M_turn 170 = .ok (.iinc 2 (1), 3) := by decide +kernel
theorem dd_M_turn_173 : decode cc_M_turn 173 = .ok (.goto (-96), 3) := by decide +kernel
theorem dd_M_turn_176 : decode cc_M_turn 176 = .ok (.aload_n 0, 1) := by decide +kernel
theorem dd_M_turn_177 : decode cc_M_turn 177 = .ok (.dup, 1) := by decide +kernel
theorem dd_M_turn_178 : decode cc_M_turn 178 = .ok (.getfield 102, 3) := by decide +kernel
theorem dd_M_turn_181 : decode cc_M_turn 181 = .ok (.iconst 1, 1) := by decide +kernel
theorem dd_M_turn_182 : decode cc_M_turn 182 = .ok (.iadd, 1) := by decide +kernel
theorem dd_M_turn_183 : decode cc_M_turn 183 = .ok (.putfield 102, 3) := by decide +kernel
theorem dd_M_turn_186 : decode cc_M_turn 186 = .ok (.aload_n 0, 1) := by decide +kernel
theorem dd_M_turn_187 : decode cc_M_turn 187 = .ok (.getfield 102, 3) := by decide +kernel
theorem dd_M_turn_190 : decode cc_M_turn 190 = .ok (.aload_n 0, 1) := by decide +kernel
theorem dd_M_turn_191 : decode cc_M_turn 191 = .ok (.getfield 105, 3) := by decide +kernel
theorem dd_M_turn_194 : decode cc_M_turn 194 = .ok (.irem, 1) := by decide +kernel
theorem dd_M_turn_195 : decode cc_M_turn 195 = .ok (.ifCond .ne (13), 3) := by decide +kernel
theorem dd_M_turn_198 : decode cc_M_turn 198 = .ok (.aload_n 0, 1) := by decide +kernel
theorem dd_M_turn_199 : decode cc_M_turn 199 = .ok (.dup, 1) := by decide +kernel
theorem dd_M_turn_200 : decode cc_M_turn 200 = .ok (.getfield 108, 3) := by decide +kernel
theorem dd_M_turn_203 : decode cc_M_turn 203 = .ok (.iconst 1, 1) := by decide +kernel
theorem dd_M_turn_204 : decode cc_M_turn 204 = .ok (.iadd, 1) := by decide +kernel
theorem dd_M_turn_205 : decode cc_M_turn 205 = .ok (.putfield 108, 3) := by decide +kernel
theorem dd_M_turn_208 : decode cc_M_turn 208 = .ok (.iconst 1, 1) := by decide +kernel
theorem dd_M_turn_209 : decode cc_M_turn 209 = .ok (.ireturn, 1) := by decide +kernel
theorem dd_M_laid_0 : decode cc_M_laid 0 = .ok (.iload_n 1, 1) := by decide +kernel
theorem dd_M_laid_1 : decode cc_M_laid 1 = .ok (.invokestatic 170, 3) := by decide +kernel
theorem dd_M_laid_4 : decode cc_M_laid 4 = .ok (.ifCond .eq (10), 3) := by decide +kernel
theorem dd_M_laid_7 : decode cc_M_laid 7 = .ok (.aload_n 0, 1) := by decide +kernel
theorem dd_M_laid_8 : decode cc_M_laid 8 = .ok (.getfield 88, 3) := by decide +kernel
theorem dd_M_laid_11 : decode cc_M_laid 11 = .ok (.ifCond .ne (9), 3) := by decide +kernel
theorem dd_M_laid_14 : decode cc_M_laid 14 = .ok (.aload_n 0, 1) := by decide +kernel
theorem dd_M_laid_15 : decode cc_M_laid 15 = .ok (.iconst 1, 1) := by decide +kernel
theorem dd_M_laid_16 : decode cc_M_laid 16 = .ok (.invokevirtual 146, 3) := by decide +kernel
theorem dd_M_laid_19 : decode cc_M_laid 19 = .ok (.ireturn, 1) := by decide +kernel
theorem dd_M_laid_20 : decode cc_M_laid 20 = .ok (.aload_n 0, 1) := by decide +kernel
theorem dd_M_laid_21 : decode cc_M_laid 21 = .ok (.iconst 0, 1) := by decide +kernel
theorem dd_M_laid_22 : decode cc_M_laid 22 = .ok (.putfield 85, 3) := by decide +kernel
theorem dd_M_laid_25 : decode cc_M_laid 25 = .ok (.aload_n 0, 1) := by decide +kernel
theorem dd_M_laid_26 : decode cc_M_laid 26 = .ok (.getfield 54, 3) := by decide +kernel
theorem dd_M_laid_29 : decode cc_M_laid 29 = .ok (.bipush (52), 2) := by decide +kernel
theorem dd_M_laid_31 : decode cc_M_laid 31 = .ok (.aload_n 0, 1) := by decide +kernel
theorem dd_M_laid_32 : decode cc_M_laid 32 = .ok (.getfield 102, 3) := by decide +kernel
theorem dd_M_laid_35 : decode cc_M_laid 35 = .ok (.imul, 1) := by decide +kernel
theorem dd_M_laid_36 : decode cc_M_laid 36 = .ok (.iload_n 1, 1) := by decide +kernel
theorem dd_M_laid_37 : decode cc_M_laid 37 = .ok (.iadd, 1) := by decide +kernel
theorem dd_M_laid_38 : decode cc_M_laid 38 = .ok (.iaload, 1) := by decide +kernel
theorem dd_M_laid_39 : decode cc_M_laid 39 = .ok (.ireturn, 1) := by decide +kernel
theorem dd_M_assign_0 : decode cc_M_assign 0 = .ok (.aload_n 0, 1) := by decide +kernel
theorem dd_M_assign_1 : decode cc_M_assign 1 = .ok (.iconst 0, 1) := by decide +kernel
theorem dd_M_assign_2 : decode cc_M_assign 2 = .ok (.putfield 85, 3) := by decide +kernel
theorem dd_M_assign_5 : decode cc_M_assign 5 = .ok (.iload_n 1, 1) := by decide +kernel
theorem dd_M_assign_6 : decode cc_M_assign 6 = .ok (.invokestatic 170, 3) := by decide +kernel
theorem dd_M_assign_9 : decode cc_M_assign 9 = .ok (.ifCond .eq (35), 3) := by decide +kernel
theorem dd_M_assign_12 : decode cc_M_assign 12 = .ok (.aload_n 0, 1) := by decide +kernel
theorem dd_M_assign_13 : decode cc_M_assign 13 = .ok (.getfield 108, 3) := by decide +kernel
theorem dd_M_assign_16 : decode cc_M_assign 16 = .ok (.iconst 4, 1) := by decide +kernel
theorem dd_M_assign_17 : decode cc_M_assign 17 = .ok (.if_icmp .ne (27), 3) := by decide +kernel
theorem dd_M_assign_20 : decode cc_M_assign 20 = .ok (.aload_n 0, 1) := by decide +kernel
theorem dd_M_assign_21 : decode cc_M_assign 21 = .ok (.getfield 63, 3) := by decide +kernel
theorem dd_M_assign_24 : decode cc_M_assign 24 = .ok (.iload_n 1, 1) := by decide +kernel
theorem dd_M_assign_25 : decode cc_M_assign 25 = .ok (.iaload, 1) := by decide +kernel
theorem dd_M_assign_26 : decode cc_M_assign 26 = .ok (.bipush (-2), 2) := by decide +kernel
theorem dd_M_assign_28 : decode cc_M_assign 28 = .ok (.if_icmp .ne (16), 3) := by decide +kernel
theorem dd_M_assign_31 : decode cc_M_assign 31 = .ok (.iload_n 2, 1) := by decide +kernel
theorem dd_M_assign_32 : decode cc_M_assign 32 = .ok (.iconst (-1), 1) := by decide +kernel
theorem dd_M_assign_33 : decode cc_M_assign 33 = .ok (.if_icmp .eq (13), 3) := by decide +kernel
theorem dd_M_assign_36 : decode cc_M_assign 36 = .ok (.aload_n 0, 1) := by decide +kernel
theorem dd_M_assign_37 : decode cc_M_assign 37 = .ok (.iload_n 2, 1) := by decide +kernel
theorem dd_M_assign_38 : decode cc_M_assign 38 = .ok (.invokevirtual 139, 3) := by decide +kernel
theorem dd_M_assign_41 : decode cc_M_assign 41 = .ok (.ifCond .ne (5), 3) := by decide +kernel
theorem dd_M_assign_44 : decode cc_M_assign 44 = .ok (.iconst 0, 1) := by decide +kernel
theorem dd_M_assign_45 : decode cc_M_assign 45 = .ok (.ireturn, 1) := by decide +kernel
theorem dd_M_assign_46 : decode cc_M_assign 46 = .ok (.aload_n 0, 1) := by decide +kernel
theorem dd_M_assign_47 : decode cc_M_assign 47 = .ok (.getfield 63, 3) := by decide +kernel
theorem dd_M_assign_50 : decode cc_M_assign 50 = .ok (.iload_n 1, 1) := by decide +kernel
theorem dd_M_assign_51 : decode cc_M_assign 51 = .ok (.iload_n 2, 1) := by decide +kernel
theorem dd_M_assign_52 : decode cc_M_assign 52 = .ok (.iastore, 1) := by decide +kernel
theorem dd_M_assign_53 : decode cc_M_assign 53 = .ok (.iconst 1, 1) := by decide +kernel
theorem dd_M_assign_54 : decode cc_M_assign 54 = .ok (.ireturn, 1) := by decide +kernel
theorem dd_M_lockOf_0 : decode cc_M_lockOf 0 = .ok (.aload_n 0, 1) := by decide +kernel
theorem dd_M_lockOf_1 : decode cc_M_lockOf 1 = .ok (.aload_n 0, 1) := by decide +kernel
theorem dd_M_lockOf_2 : decode cc_M_lockOf 2 = .ok (.getfield 27, 3) := by decide +kernel
theorem dd_M_lockOf_5 : decode cc_M_lockOf 5 = .ok (.iload_n 1, 1) := by decide +kernel
theorem dd_M_lockOf_6 : decode cc_M_lockOf 6 = .ok (.laload, 1) := by decide +kernel
theorem dd_M_lockOf_7 : decode cc_M_lockOf 7 = .ok (.invokevirtual 157, 3) := by decide +kernel
theorem dd_M_lockOf_10 : decode cc_M_lockOf 10 = .ok (.aload_n 0, 1) := by decide +kernel
theorem dd_M_lockOf_11 : decode cc_M_lockOf 11 = .ok (.getfield 60, 3) := by decide +kernel
theorem dd_M_lockOf_14 : decode cc_M_lockOf 14 = .ok (.iload_n 2, 1) := by decide +kernel
theorem dd_M_lockOf_15 : decode cc_M_lockOf 15 = .ok (.iaload, 1) := by decide +kernel
theorem dd_M_lockOf_16 : decode cc_M_lockOf 16 = .ok (.ireturn, 1) := by decide +kernel
theorem dd_M_give_0 : decode cc_M_give 0 = .ok (.aload_n 0, 1) := by decide +kernel
theorem dd_M_give_1 : decode cc_M_give 1 = .ok (.iconst 0, 1) := by decide +kernel
theorem dd_M_give_2 : decode cc_M_give 2 = .ok (.putfield 85, 3) := by decide +kernel
theorem dd_M_give_5 : decode cc_M_give 5 = .ok (.aload_n 0, 1) := by decide +kernel
theorem dd_M_give_6 : decode cc_M_give 6 = .ok (.iload_n 1, 1) := by decide +kernel
theorem dd_M_give_7 : decode cc_M_give 7 = .ok (.invokevirtual 139, 3) := by decide +kernel
theorem dd_M_give_10 : decode cc_M_give 10 = .ok (.ifCond .eq (53), 3) := by decide +kernel
theorem dd_M_give_13 : decode cc_M_give 13 = .ok (.iload_n 2, 1) := by decide +kernel
theorem dd_M_give_14 : decode cc_M_give 14 = .ok (.invokestatic 170, 3) := by decide +kernel
theorem dd_M_give_17 : decode cc_M_give 17 = .ok (.ifCond .eq (46), 3) := by decide +kernel
theorem dd_M_give_20 : decode cc_M_give 20 = .ok (.aload_n 0, 1) := by decide +kernel
theorem dd_M_give_21 : decode cc_M_give 21 = .ok (.getfield 108, 3) := by decide +kernel
theorem dd_M_give_24 : decode cc_M_give 24 = .ok (.iconst 4, 1) := by decide +kernel
theorem dd_M_give_25 : decode cc_M_give 25 = .ok (.if_icmp .ne (38), 3) := by decide +kernel
theorem dd_M_give_28 : decode cc_M_give 28 = .ok (.aload_n 0, 1) := by decide +kernel
theorem dd_M_give_29 : decode cc_M_give 29 = .ok (.getfield 63, 3) := by decide +kernel
theorem dd_M_give_32 : decode cc_M_give 32 = .ok (.iload_n 2, 1) := by decide +kernel
theorem dd_M_give_33 : decode cc_M_give 33 = .ok (.iaload, 1) := by decide +kernel
theorem dd_M_give_34 : decode cc_M_give 34 = .ok (.bipush (-2), 2) := by decide +kernel
theorem dd_M_give_36 : decode cc_M_give 36 = .ok (.if_icmp .eq (27), 3) := by decide +kernel
theorem dd_M_give_39 : decode cc_M_give 39 = .ok (.aload_n 0, 1) := by decide +kernel
theorem dd_M_give_40 : decode cc_M_give 40 = .ok (.getfield 63, 3) := by decide +kernel
theorem dd_M_give_43 : decode cc_M_give 43 = .ok (.iload_n 2, 1) := by decide +kernel
theorem dd_M_give_44 : decode cc_M_give 44 = .ok (.iaload, 1) := by decide +kernel
theorem dd_M_give_45 : decode cc_M_give 45 = .ok (.iload_n 1, 1) := by decide +kernel
theorem dd_M_give_46 : decode cc_M_give 46 = .ok (.if_icmp .eq (17), 3) := by decide +kernel
theorem dd_M_give_49 : decode cc_M_give 49 = .ok (.aload_n 0, 1) := by decide +kernel
theorem dd_M_give_50 : decode cc_M_give 50 = .ok (.getfield 66, 3) := by decide +kernel
theorem dd_M_give_53 : decode cc_M_give 53 = .ok (.bipush (52), 2) := by decide +kernel
theorem dd_M_give_55 : decode cc_M_give 55 = .ok (.iload_n 1, 1) := by decide +kernel
theorem dd_M_give_56 : decode cc_M_give 56 = .ok (.imul, 1) := by decide +kernel
theorem dd_M_give_57 : decode cc_M_give 57 = .ok (.iload_n 2, 1) := by decide +kernel
theorem dd_M_give_58 : decode cc_M_give 58 = .ok (.iadd, 1) := by decide +kernel
theorem dd_M_give_59 : decode cc_M_give 59 = .ok (.iaload, 1) := by decide +kernel
theorem dd_M_give_60 : decode cc_M_give 60 = .ok (.ifCond .eq (5), 3) := by decide +kernel
theorem dd_M_give_63 : decode cc_M_give 63 = .ok (.iconst 0, 1) := by decide +kernel
theorem dd_M_give_64 : decode cc_M_give 64 = .ok (.ireturn, 1) := by decide +kernel
theorem dd_M_give_65 : decode cc_M_give 65 = .ok (.aload_n 0, 1) := by decide +kernel
theorem dd_M_give_66 : decode cc_M_give 66 = .ok (.iload_n 1, 1) := by decide +kernel
theorem dd_M_give_67 : decode cc_M_give 67 = .ok (.iload_n 2, 1) := by decide +kernel
theorem dd_M_give_68 : decode cc_M_give 68 = .ok (.invokevirtual 173, 3) := by decide +kernel
theorem dd_M_give_71 : decode cc_M_give 71 = .ok (.istore_n 3, 1) := by decide +kernel
theorem dd_M_give_72 : decode cc_M_give 72 = .ok (.aload_n 0, 1) := by decide +kernel
theorem dd_M_give_73 : decode cc_M_give 73 = .ok (.getfield 66, 3) := by decide +kernel
theorem dd_M_give_76 : decode cc_M_give 76 = .ok (.bipush (52), 2) := by decide +kernel
theorem dd_M_give_78 : decode cc_M_give 78 = .ok (.iload_n 1, 1) := by decide +kernel
theorem dd_M_give_79 : decode cc_M_give 79 = .ok (.imul, 1) := by decide +kernel
theorem dd_M_give_80 : decode cc_M_give 80 = .ok (.iload_n 2, 1) := by decide +kernel
theorem dd_M_give_81 : decode cc_M_give 81 = .ok (.iadd, 1) := by decide +kernel
theorem dd_M_give_82 : decode cc_M_give 82 = .ok (.aload_n 0, 1) := by decide +kernel
theorem dd_M_give_83 : decode cc_M_give 83 = .ok (.getfield 45, 3) := by decide +kernel
theorem dd_M_give_86 : decode cc_M_give 86 = .ok (.iload_n 1, 1) := by decide +kernel
theorem dd_M_give_87 : decode cc_M_give 87 = .ok (.laload, 1) := by decide +kernel
theorem dd_M_give_88 : decode cc_M_give 88 = .ok (.iload_n 2, 1) := by decide +kernel
theorem dd_M_give_89 : decode cc_M_give 89 = .ok (.lshr, 1) := by decide +kernel
theorem dd_M_give_90 : decode cc_M_give 90 = .ok (.lconst 1, 1) := by decide +kernel
theorem dd_M_give_91 : decode cc_M_give 91 = .ok (.land, 1) := by decide +kernel
theorem dd_M_give_92 : decode cc_M_give 92 = .ok (.lconst 1, 1) := by decide +kernel
theorem dd_M_give_93 : decode cc_M_give 93 = .ok (.lcmp, 1) := by decide +kernel
theorem dd_M_give_94 : decode cc_M_give 94 = .ok (.ifCond .ne (11), 3) := by decide +kernel
theorem dd_M_give_97 : decode cc_M_give 97 = .ok (.aload_n 0, 1) := by decide +kernel
theorem dd_M_give_98 : decode cc_M_give 98 = .ok (.iload_n 3, 1) := by decide +kernel
theorem dd_M_give_99 : decode cc_M_give 99 = .ok (.invokevirtual 177, 3) := by decide +kernel
theorem dd_M_give_102 : decode cc_M_give 102 = .ok (.goto (4), 3) := by decide +kernel
theorem dd_M_give_105 : decode cc_M_give 105 = .ok (.iload_n 3, 1) := by decide +kernel
theorem dd_M_give_106 : decode cc_M_give 106 = .ok (.iastore, 1) := by decide +kernel
theorem dd_M_give_107 : decode cc_M_give 107 = .ok (.iconst 1, 1) := by decide +kernel
theorem dd_M_give_108 : decode cc_M_give 108 = .ok (.ireturn, 1) := by decide +kernel
theorem dd_M_open_0 : decode cc_M_open 0 = .ok (.aload_n 0, 1) := by decide +kernel
theorem dd_M_open_1 : decode cc_M_open 1 = .ok (.iconst 0, 1) := by decide +kernel
theorem dd_M_open_2 : decode cc_M_open 2 = .ok (.putfield 85, 3) := by decide +kernel
theorem dd_M_open_5 : decode cc_M_open 5 = .ok (.aload_n 0, 1) := by decide +kernel
theorem dd_M_open_6 : decode cc_M_open 6 = .ok (.iload_n 1, 1) := by decide +kernel
theorem dd_M_open_7 : decode cc_M_open 7 = .ok (.invokevirtual 139, 3) := by decide +kernel
theorem dd_M_open_10 : decode cc_M_open 10 = .ok (.ifCond .eq (49), 3) := by decide +kernel
theorem dd_M_open_13 : decode cc_M_open 13 = .ok (.iload_n 2, 1) := by decide +kernel
theorem dd_M_open_14 : decode cc_M_open 14 = .ok (.invokestatic 170, 3) := by decide +kernel
theorem dd_M_open_17 : decode cc_M_open 17 = .ok (.ifCond .eq (42), 3) := by decide +kernel
theorem dd_M_open_20 : decode cc_M_open 20 = .ok (.aload_n 0, 1) := by decide +kernel
theorem dd_M_open_21 : decode cc_M_open 21 = .ok (.getfield 108, 3) := by decide +kernel
theorem dd_M_open_24 : decode cc_M_open 24 = .ok (.iconst 4, 1) := by decide +kernel
theorem dd_M_open_25 : decode cc_M_open 25 = .ok (.if_icmp .lt (34), 3) := by decide +kernel
theorem dd_M_open_28 : decode cc_M_open 28 = .ok (.aload_n 0, 1) := by decide +kernel
theorem dd_M_open_29 : decode cc_M_open 29 = .ok (.getfield 63, 3) := by decide +kernel
theorem dd_M_open_32 : decode cc_M_open 32 = .ok (.iload_n 2, 1) := by decide +kernel
theorem dd_M_open_33 : decode cc_M_open 33 = .ok (.iaload, 1) := by decide +kernel
theorem dd_M_open_34 : decode cc_M_open 34 = .ok (.bipush (-2), 2) := by decide +kernel
theorem dd_M_open_36 : decode cc_M_open 36 = .ok (.if_icmp .eq (23), 3) := by decide +kernel
theorem dd_M_open_39 : decode cc_M_open 39 = .ok (.aload_n 0, 1) := by decide +kernel
theorem dd_M_open_40 : decode cc_M_open 40 = .ok (.getfield 63, 3) := by decide +kernel
theorem dd_M_open_43 : decode cc_M_open 43 = .ok (.iload_n 2, 1) := by decide +kernel
theorem dd_M_open_44 : decode cc_M_open 44 = .ok (.iaload, 1) := by decide +kernel
theorem dd_M_open_45 : decode cc_M_open 45 = .ok (.iconst (-1), 1) := by decide +kernel
theorem dd_M_open_46 : decode cc_M_open 46 = .ok (.if_icmp .eq (15), 3) := by decide +kernel
theorem dd_M_open_49 : decode cc_M_open 49 = .ok (.aload_n 0, 1) := by decide +kernel
theorem dd_M_open_50 : decode cc_M_open 50 = .ok (.getfield 63, 3) := by decide +kernel
theorem dd_M_open_53 : decode cc_M_open 53 = .ok (.iload_n 2, 1) := by decide +kernel
theorem dd_M_open_54 : decode cc_M_open 54 = .ok (.iaload, 1) := by decide +kernel
theorem dd_M_open_55 : decode cc_M_open 55 = .ok (.iload_n 1, 1) := by decide +kernel
theorem dd_M_open_56 : decode cc_M_open 56 = .ok (.if_icmp .eq (5), 3) := by decide +kernel
theorem dd_M_open_59 : decode cc_M_open 59 = .ok (.iconst (-1), 1) := by decide +kernel
theorem dd_M_open_60 : decode cc_M_open 60 = .ok (.ireturn, 1) := by decide +kernel
theorem dd_M_open_61 : decode cc_M_open 61 = .ok (.aload_n 0, 1) := by decide +kernel
theorem dd_M_open_62 : decode cc_M_open 62 = .ok (.getfield 54, 3) := by decide +kernel
theorem dd_M_open_65 : decode cc_M_open 65 = .ok (.bipush (52), 2) := by decide +kernel
theorem dd_M_open_67 : decode cc_M_open 67 = .ok (.aload_n 0, 1) := by decide +kernel
theorem dd_M_open_68 : decode cc_M_open 68 = .ok (.getfield 102, 3) := by decide +kernel
theorem dd_M_open_71 : decode cc_M_open 71 = .ok (.imul, 1) := by decide +kernel
theorem dd_M_open_72 : decode cc_M_open 72 = .ok (.iload_n 2, 1) := by decide +kernel
theorem dd_M_open_73 : decode cc_M_open 73 = .ok (.iadd, 1) := by decide +kernel
theorem dd_M_open_74 : decode cc_M_open 74 = .ok (.iaload, 1) := by decide +kernel
theorem dd_M_open_75 : decode cc_M_open 75 = .ok (.istore_n 3, 1) := by decide +kernel
theorem dd_M_open_76 : decode cc_M_open 76 = .ok (.iconst 0, 1) := by decide +kernel
theorem dd_M_open_77 : decode cc_M_open 77 = .ok (.istore 4, 2) := by decide +kernel
theorem dd_M_open_79 : decode cc_M_open 79 = .ok (.iload 4, 2) := by decide +kernel
theorem dd_M_open_81 : decode cc_M_open 81 = .ok (.aload_n 0, 1) := by decide +kernel
theorem dd_M_open_82 : decode cc_M_open 82 = .ok (.getfield 105, 3) := by decide +kernel
theorem dd_M_open_85 : decode cc_M_open 85 = .ok (.if_icmp .ge (71), 3) := by decide +kernel
theorem dd_M_open_88 : decode cc_M_open 88 = .ok (.aload_n 0, 1) := by decide +kernel
theorem dd_M_open_89 : decode cc_M_open 89 = .ok (.getfield 66, 3) := by decide +kernel
theorem dd_M_open_92 : decode cc_M_open 92 = .ok (.bipush (52), 2) := by decide +kernel
theorem dd_M_open_94 : decode cc_M_open 94 = .ok (.iload 4, 2) := by decide +kernel
theorem dd_M_open_96 : decode cc_M_open 96 = .ok (.imul, 1) := by decide +kernel
theorem dd_M_open_97 : decode cc_M_open 97 = .ok (.iload_n 2, 1) := by decide +kernel
theorem dd_M_open_98 : decode cc_M_open 98 = .ok (.iadd, 1) := by decide +kernel
theorem dd_M_open_99 : decode cc_M_open 99 = .ok (.iaload, 1) := by decide +kernel
theorem dd_M_open_100 : decode cc_M_open 100 = .ok (.istore 5, 2) := by decide +kernel
theorem dd_M_open_102 : decode cc_M_open 102 = .ok (.iload 5, 2) := by decide +kernel
theorem dd_M_open_104 : decode cc_M_open 104 = .ok (.ifCond .ne (16), 3) := by decide +kernel
theorem dd_M_open_107 : decode cc_M_open 107 = .ok (.aload_n 0, 1) := by decide +kernel
theorem dd_M_open_108 : decode cc_M_open 108 = .ok (.getfield 63, 3) := by decide +kernel
theorem dd_M_open_111 : decode cc_M_open 111 = .ok (.iload_n 2, 1) := by decide +kernel
theorem dd_M_open_112 : decode cc_M_open 112 = .ok (.iaload, 1) := by decide +kernel
theorem dd_M_open_113 : decode cc_M_open 113 = .ok (.iload 4, 2) := by decide +kernel
theorem dd_M_open_115 : decode cc_M_open 115 = .ok (.if_icmp .eq (5), 3) := by decide +kernel
theorem dd_M_open_118 : decode cc_M_open 118 = .ok (.iconst (-1), 1) := by decide +kernel
theorem dd_M_open_119 : decode cc_M_open 119 = .ok (.ireturn, 1) := by decide +kernel
theorem dd_M_open_120 : decode cc_M_open 120 = .ok (.iload_n 3, 1) := by decide +kernel
theorem dd_M_open_121 : decode cc_M_open 121 = .ok (.aload_n 0, 1) := by decide +kernel
theorem dd_M_open_122 : decode cc_M_open 122 = .ok (.iload 5, 2) := by decide +kernel
theorem dd_M_open_124 : decode cc_M_open 124 = .ok (.ifCond .ne (13), 3) := by decide +kernel
theorem dd_M_open_127 : decode cc_M_open 127 = .ok (.aload_n 0, 1) := by decide +kernel
theorem dd_M_open_128 : decode cc_M_open 128 = .ok (.iload 4, 2) := by decide +kernel
theorem dd_M_open_130 : decode cc_M_open 130 = .ok (.iload_n 2, 1) := by decide +kernel
theorem dd_M_open_131 : decode cc_M_open 131 = .ok (.invokevirtual 173, 3) := by decide +kernel
theorem dd_M_open_134 : decode cc_M_open 134 = .ok (.goto (5), 3) := by decide +kernel
theorem dd_M_open_137 : decode cc_M_open 137 = .ok (.iload 5, 2) := by decide +kernel
theorem dd_M_open_139 : decode cc_M_open 139 = .ok (.invokevirtual 150, 3) := by decide +kernel
theorem dd_M_open_142 : decode cc_M_open 142 = .ok (.aload_n 0, 1) := by decide +kernel
theorem dd_M_open_143 : decode cc_M_open 143 = .ok (.getfield 88, 3) := by decide +kernel
theorem dd_M_open_146 : decode cc_M_open 146 = .ok (.invokestatic 116, 3) := by decide +kernel
theorem dd_M_open_149 : decode cc_M_open 149 = .ok (.istore_n 3, 1) := by decide +kernel
theorem dd_M_open_150 : decode cc_M_open 150 = .ok (.iinc 4 (1), 3) := by decide +kernel
theorem dd_M_open_153 : decode cc_M_open 153 = .ok (.goto (-74), 3) := by decide +kernel
theorem dd_M_open_156 : decode cc_M_open 156 = .ok (.iconst 0, 1) := by decide +kernel
theorem dd_M_open_157 : decode cc_M_open 157 = .ok (.istore 4, 2) := by decide +kernel
theorem dd_M_open_159 : decode cc_M_open 159 = .ok (.iload 4, 2) := by decide +kernel
theorem dd_M_open_161 : decode cc_M_open 161 = .ok (.bipush (52), 2) := by decide +kernel
theorem dd_M_open_163 : decode cc_M_open 163 = .ok (.if_icmp .ge (23), 3) := by decide +kernel
theorem dd_M_open_166 : decode cc_M_open 166 = .ok (.aload_n 0, 1) := by decide +kernel
theorem dd_M_open_167 : decode cc_M_open 167 = .ok (.getfield 54, 3) := by decide +kernel
theorem dd_M_open_170 : decode cc_M_open 170 = .ok (.iload 4, 2) := by decide +kernel
theorem dd_M_open_172 : decode cc_M_open 172 = .ok (.iaload, 1) := by decide +kernel
theorem dd_M_open_173 : decode cc_M_open 173 = .ok (.iload_n 3, 1) := by decide +kernel
theorem dd_M_open_174 : decode cc_M_open 174 = .ok (.if_icmp .ne (6), 3) := by decide +kernel
theorem dd_M_open_177 : decode cc_M_open 177 = .ok (.iload 4, 2) := by decide +kernel
theorem dd_M_open_179 : decode cc_M_open 179 = .ok (.ireturn, 1) := by decide +kernel
theorem dd_M_open_180 : decode cc_M_open 180 = .ok (.iinc 4 (1), 3) := by decide +kernel
theorem dd_M_open_183 : decode cc_M_open 183 = .ok (.goto (-24), 3) := by decide +kernel
theorem dd_M_open_186 : decode cc_M_open 186 = .ok (.bipush (52), 2) := by decide +kernel
theorem dd_M_open_188 : decode cc_M_open 188 = .ok (.ireturn, 1) := by decide +kernel
theorem dd_M_canAct_0 : decode cc_M_canAct 0 = .ok (.aload_n 0, 1) := by decide +kernel
theorem dd_M_canAct_1 : decode cc_M_canAct 1 = .ok (.getfield 69, 3) := by decide +kernel
theorem dd_M_canAct_4 : decode cc_M_canAct 4 = .ok (.iload_n 1, 1) := by decide +kernel
theorem dd_M_canAct_5 : decode cc_M_canAct 5 = .ok (.baload, 1) := by decide +kernel
theorem dd_M_canAct_6 : decode cc_M_canAct 6 = .ok (.ifCond .eq (16), 3) := by decide +kernel
theorem dd_M_canAct_9 : decode cc_M_canAct 9 = .ok (.aload_n 0, 1) := by decide +kernel
theorem dd_M_canAct_10 : decode cc_M_canAct 10 = .ok (.getfield 7, 3) := by decide +kernel
theorem dd_M_canAct_13 : decode cc_M_canAct 13 = .ok (.iload_n 1, 1) := by decide +kernel
theorem dd_M_canAct_14 : decode cc_M_canAct 14 = .ok (.iaload, 1) := by decide +kernel
theorem dd_M_canAct_15 : decode cc_M_canAct 15 = .ok (.ifCond .le (7), 3) := by decide +kernel
theorem dd_M_canAct_18 : decode cc_M_canAct 18 = .ok (.iconst 1, 1) := by decide +kernel
theorem dd_M_canAct_19 : decode cc_M_canAct 19 = .ok (.goto (4), 3) := by decide +kernel
theorem dd_M_canAct_22 : decode cc_M_canAct 22 = .ok (.iconst 0, 1) := by decide +kernel
theorem dd_M_canAct_23 : decode cc_M_canAct 23 = .ok (.ireturn, 1) := by decide +kernel
theorem dd_M_many_0 : decode cc_M_many 0 = .ok (.iconst 0, 1) := by decide +kernel
theorem dd_M_many_1 : decode cc_M_many 1 = .ok (.istore_n 1, 1) := by decide +kernel
theorem dd_M_many_2 : decode cc_M_many 2 = .ok (.iconst 0, 1) := by decide +kernel
theorem dd_M_many_3 : decode cc_M_many 3 = .ok (.istore_n 2, 1) := by decide +kernel
theorem dd_M_many_4 : decode cc_M_many 4 = .ok (.iload_n 2, 1) := by decide +kernel
theorem dd_M_many_5 : decode cc_M_many 5 = .ok (.aload_n 0, 1) := by decide +kernel
theorem dd_M_many_6 : decode cc_M_many 6 = .ok (.getfield 105, 3) := by decide +kernel
theorem dd_M_many_9 : decode cc_M_many 9 = .ok (.if_icmp .ge (26), 3) := by decide +kernel
theorem dd_M_many_12 : decode cc_M_many 12 = .ok (.iload_n 1, 1) := by decide +kernel
theorem dd_M_many_13 : decode cc_M_many 13 = .ok (.aload_n 0, 1) := by decide +kernel
theorem dd_M_many_14 : decode cc_M_many 14 = .ok (.getfield 69, 3) := by decide +kernel
theorem dd_M_many_17 : decode cc_M_many 17 = .ok (.iload_n 2, 1) := by decide +kernel
theorem dd_M_many_18 : decode cc_M_many 18 = .ok (.baload, 1) := by decide +kernel
theorem dd_M_many_19 : decode cc_M_many 19 = .ok (.ifCond .eq (7), 3) := by decide +kernel
theorem dd_M_many_22 : decode cc_M_many 22 = .ok (.iconst 1, 1) := by decide +kernel
theorem dd_M_many_23 : decode cc_M_many 23 = .ok (.goto (4), 3) := by decide +kernel
theorem dd_M_many_26 : decode cc_M_many 26 = .ok (.iconst 0, 1) := by decide +kernel
theorem dd_M_many_27 : decode cc_M_many 27 = .ok (.iadd, 1) := by decide +kernel
theorem dd_M_many_28 : decode cc_M_many 28 = .ok (.istore_n 1, 1) := by decide +kernel
theorem dd_M_many_29 : decode cc_M_many 29 = .ok (.iinc 2 (1), 3) := by decide +kernel
theorem dd_M_many_32 : decode cc_M_many 32 = .ok (.goto (-28), 3) := by decide +kernel
theorem dd_M_many_35 : decode cc_M_many 35 = .ok (.iload_n 1, 1) := by decide +kernel
theorem dd_M_many_36 : decode cc_M_many 36 = .ok (.ireturn, 1) := by decide +kernel
theorem dd_M_most_0 : decode cc_M_most 0 = .ok (.iconst 0, 1) := by decide +kernel
theorem dd_M_most_1 : decode cc_M_most 1 = .ok (.istore_n 1, 1) := by decide +kernel
theorem dd_M_most_2 : decode cc_M_most 2 = .ok (.iconst 0, 1) := by decide +kernel
theorem dd_M_most_3 : decode cc_M_most 3 = .ok (.istore_n 2, 1) := by decide +kernel
theorem dd_M_most_4 : decode cc_M_most 4 = .ok (.iload_n 2, 1) := by decide +kernel
theorem dd_M_most_5 : decode cc_M_most 5 = .ok (.aload_n 0, 1) := by decide +kernel
theorem dd_M_most_6 : decode cc_M_most 6 = .ok (.getfield 105, 3) := by decide +kernel
theorem dd_M_most_9 : decode cc_M_most 9 = .ok (.if_icmp .ge (30), 3) := by decide +kernel
theorem dd_M_most_12 : decode cc_M_most 12 = .ok (.aload_n 0, 1) := by decide +kernel
theorem dd_M_most_13 : decode cc_M_most 13 = .ok (.getfield 75, 3) := by decide +kernel
theorem dd_M_most_16 : decode cc_M_most 16 = .ok (.iload_n 2, 1) := by decide +kernel
theorem dd_M_most_17 : decode cc_M_most 17 = .ok (.iaload, 1) := by decide +kernel
theorem dd_M_most_18 : decode cc_M_most 18 = .ok (.iload_n 1, 1) := by decide +kernel
theorem dd_M_most_19 : decode cc_M_most 19 = .ok (.if_icmp .le (12), 3) := by decide +kernel
theorem dd_M_most_22 : decode cc_M_most 22 = .ok (.aload_n 0, 1) := by decide +kernel
theorem dd_M_most_23 : decode cc_M_most 23 = .ok (.getfield 75, 3) := by decide +kernel
theorem dd_M_most_26 : decode cc_M_most 26 = .ok (.iload_n 2, 1) := by decide +kernel
theorem dd_M_most_27 : decode cc_M_most 27 = .ok (.iaload, 1) := by decide +kernel
theorem dd_M_most_28 : decode cc_M_most 28 = .ok (.goto (4), 3) := by decide +kernel
theorem dd_M_most_31 : decode cc_M_most 31 = .ok (.iload_n 1, 1) := by decide +kernel
theorem dd_M_most_32 : decode cc_M_most 32 = .ok (.istore_n 1, 1) := by decide +kernel
theorem dd_M_most_33 : decode cc_M_most 33 = .ok (.iinc 2 (1), 3) := by decide +kernel
theorem dd_M_most_36 : decode cc_M_most 36 = .ok (.goto (-32), 3) := by decide +kernel
theorem dd_M_most_39 : decode cc_M_most 39 = .ok (.iload_n 1, 1) := by decide +kernel
theorem dd_M_most_40 : decode cc_M_most 40 = .ok (.ireturn, 1) := by decide +kernel
theorem dd_M_findNext_0 : decode cc_M_findNext 0 = .ok (.aload_n 0, 1) := by decide +kernel
theorem dd_M_findNext_1 : decode cc_M_findNext 1 = .ok (.iconst (-1), 1) := by decide +kernel
theorem dd_M_findNext_2 : decode cc_M_findNext 2 = .ok (.putfield 81, 3) := by decide +kernel
theorem dd_M_findNext_5 : decode cc_M_findNext 5 = .ok (.iconst 0, 1) := by decide +kernel
theorem dd_M_findNext_6 : decode cc_M_findNext 6 = .ok (.istore_n 2, 1) := by decide +kernel
theorem dd_M_findNext_7 : decode cc_M_findNext 7 = .ok (.iload_n 2, 1) := by decide +kernel
theorem dd_M_findNext_8 : decode cc_M_findNext 8 = .ok (.aload_n 0, 1) := by decide +kernel
theorem dd_M_findNext_9 : decode cc_M_findNext 9 = .ok (.getfield 105, 3) := by decide +kernel
theorem dd_M_findNext_12 : decode cc_M_findNext 12 = .ok (.if_icmp .ge (48), 3) := by decide +kernel
theorem dd_M_findNext_15 : decode cc_M_findNext 15 = .ok (.aload_n 0, 1) := by decide +kernel
theorem dd_M_findNext_16 : decode cc_M_findNext 16 = .ok (.getfield 81, 3) := by decide +kernel
theorem dd_M_findNext_19 : decode cc_M_findNext 19 = .ok (.iconst (-1), 1) := by decide +kernel
theorem dd_M_findNext_20 : decode cc_M_findNext 20 = .ok (.if_icmp .ne (40), 3) := by decide +kernel
theorem dd_M_findNext_23 : decode cc_M_findNext 23 = .ok (.iload_n 1, 1) := by decide +kernel
theorem dd_M_findNext_24 : decode cc_M_findNext 24 = .ok (.iload_n 2, 1) := by decide +kernel
theorem dd_M_findNext_25 : decode cc_M_findNext 25 = .ok (.iadd, 1) := by decide +kernel
theorem dd_M_findNext_26 : decode cc_M_findNext 26 = .ok (.aload_n 0, 1) := by decide +kernel
theorem dd_M_findNext_27 : decode cc_M_findNext 27 = .ok (.getfield 105, 3) := by decide +kernel
theorem dd_M_findNext_30 : decode cc_M_findNext 30 = .ok (.irem, 1) := by decide +kernel
theorem dd_M_findNext_31 : decode cc_M_findNext 31 = .ok (.istore_n 3, 1) := by decide +kernel
theorem dd_M_findNext_32 : decode cc_M_findNext 32 = .ok (.aload_n 0, 1) := by decide +kernel
theorem dd_M_findNext_33 : decode cc_M_findNext 33 = .ok (.iload_n 3, 1) := by decide +kernel
theorem dd_M_findNext_34 : decode cc_M_findNext 34 = .ok (.invokevirtual 180, 3) := by decide +kernel
theorem dd_M_findNext_37 : decode cc_M_findNext 37 = .ok (.ifCond .eq (17), 3) := by decide +kernel
theorem dd_M_findNext_40 : decode cc_M_findNext 40 = .ok (.aload_n 0, 1) := by decide +kernel
theorem dd_M_findNext_41 : decode cc_M_findNext 41 = .ok (.getfield 78, 3) := by decide +kernel
theorem dd_M_findNext_44 : decode cc_M_findNext 44 = .ok (.iload_n 3, 1) := by decide +kernel
theorem dd_M_findNext_45 : decode cc_M_findNext 45 = .ok (.baload, 1) := by decide +kernel
theorem dd_M_findNext_46 : decode cc_M_findNext 46 = .ok (.ifCond .ne (8), 3) := by decide +kernel
theorem dd_M_findNext_49 : decode cc_M_findNext 49 = .ok (.aload_n 0, 1) := by decide +kernel
theorem dd_M_findNext_50 : decode cc_M_findNext 50 = .ok (.iload_n 3, 1) := by decide +kernel
theorem dd_M_findNext_51 : decode cc_M_findNext 51 = .ok (.putfield 81, 3) := by decide +kernel
theorem dd_M_findNext_54 : decode cc_M_findNext 54 = .ok (.iinc 2 (1), 3) := by decide +kernel
theorem dd_M_findNext_57 : decode cc_M_findNext 57 = .ok (.goto (-50), 3) := by decide +kernel
theorem dd_M_findNext_60 : decode cc_M_findNext 60 = .ok (.aload_n 0, 1) := by decide +kernel
theorem dd_M_findNext_61 : decode cc_M_findNext 61 = .ok (.getfield 81, 3) := by decide +kernel
theorem dd_M_findNext_64 : decode cc_M_findNext 64 = .ok (.iconst (-1), 1) := by decide +kernel
theorem dd_M_findNext_65 : decode cc_M_findNext 65 = .ok (.if_icmp .eq (11), 3) := by decide +kernel
theorem dd_M_findNext_68 : decode cc_M_findNext 68 = .ok (.aload_n 0, 1) := by decide +kernel
theorem dd_M_findNext_69 : decode cc_M_findNext 69 = .ok (.invokevirtual 183, 3) := by decide +kernel
theorem dd_M_findNext_72 : decode cc_M_findNext 72 = .ok (.iconst 2, 1) := by decide +kernel
theorem dd_M_findNext_73 : decode cc_M_findNext 73 = .ok (.if_icmp .ge (7), 3) := by decide +kernel
theorem dd_M_findNext_76 : decode cc_M_findNext 76 = .ok (.aload_n 0, 1) := by decide +kernel
theorem dd_M_findNext_77 : decode cc_M_findNext 77 = .ok (.invokevirtual 186, 3) := by decide +kernel
theorem dd_M_findNext_80 : decode cc_M_findNext 80 = .ok (.return_, 1) := by decide +kernel
theorem dd_M_endRound_0 : decode cc_M_endRound 0 = .ok (.aload_n 0, 1) := by decide +kernel
theorem dd_M_endRound_1 : decode cc_M_endRound 1 = .ok (.iconst 0, 1) := by decide +kernel
theorem dd_M_endRound_2 : decode cc_M_endRound 2 = .ok (.putfield 111, 3) := by decide +kernel
theorem dd_M_endRound_5 : decode cc_M_endRound 5 = .ok (.aload_n 0, 1) := by decide +kernel
theorem dd_M_endRound_6 : decode cc_M_endRound 6 = .ok (.iconst (-1), 1) := by decide +kernel
theorem dd_M_endRound_7 : decode cc_M_endRound 7 = .ok (.putfield 81, 3) := by decide +kernel
theorem dd_M_endRound_10 : decode cc_M_endRound 10 = .ok (.iconst 0, 1) := by decide +kernel
theorem dd_M_endRound_11 : decode cc_M_endRound 11 = .ok (.istore_n 1, 1) := by decide +kernel
theorem dd_M_endRound_12 : decode cc_M_endRound 12 = .ok (.iload_n 1, 1) := by decide +kernel
theorem dd_M_endRound_13 : decode cc_M_endRound 13 = .ok (.iconst 4, 1) := by decide +kernel
theorem dd_M_endRound_14 : decode cc_M_endRound 14 = .ok (.if_icmp .ge (16), 3) := by decide +kernel
theorem dd_M_endRound_17 : decode cc_M_endRound 17 = .ok (.aload_n 0, 1) := by decide +kernel
theorem dd_M_endRound_18 : decode cc_M_endRound 18 = .ok (.getfield 75, 3) := by decide +kernel
theorem dd_M_endRound_21 : decode cc_M_endRound 21 = .ok (.iload_n 1, 1) := by decide +kernel
theorem dd_M_endRound_22 : decode cc_M_endRound 22 = .ok (.iconst 0, 1) := by decide +kernel
theorem dd_M_endRound_23 : decode cc_M_endRound 23 = .ok (.iastore, 1) := by decide +kernel
theorem dd_M_endRound_24 : decode cc_M_endRound 24 = .ok (.iinc 1 (1), 3) := by decide +kernel
theorem dd_M_endRound_27 : decode cc_M_endRound 27 = .ok (.goto (-15), 3) := by decide +kernel
theorem dd_M_endRound_30 : decode cc_M_endRound 30 = .ok (.return_, 1) := by decide +kernel
theorem dd_M_round_0 : decode cc_M_round 0 = .ok (.aload_n 0, 1) := by decide +kernel
theorem dd_M_round_1 : decode cc_M_round 1 = .ok (.iconst 0, 1) := by decide +kernel
theorem dd_M_round_2 : decode cc_M_round 2 = .ok (.putfield 85, 3) := by decide +kernel
theorem dd_M_round_5 : decode cc_M_round 5 = .ok (.aload_n 0, 1) := by decide +kernel
theorem dd_M_round_6 : decode cc_M_round 6 = .ok (.getfield 108, 3) := by decide +kernel
theorem dd_M_round_9 : decode cc_M_round 9 = .ok (.iconst 4, 1) := by decide +kernel
theorem dd_M_round_10 : decode cc_M_round 10 = .ok (.if_icmp .ne (10), 3) := by decide +kernel
theorem dd_M_round_13 : decode cc_M_round 13 = .ok (.aload_n 0, 1) := by decide +kernel
theorem dd_M_round_14 : decode cc_M_round 14 = .ok (.getfield 111, 3) := by decide +kernel
theorem dd_M_round_17 : decode cc_M_round 17 = .ok (.ifCond .eq (5), 3) := by decide +kernel
theorem dd_M_round_20 : decode cc_M_round 20 = .ok (.iconst 0, 1) := by decide +kernel
theorem dd_M_round_21 : decode cc_M_round 21 = .ok (.ireturn, 1) := by decide +kernel
theorem dd_M_round_22 : decode cc_M_round 22 = .ok (.iconst 0, 1) := by decide +kernel
theorem dd_M_round_23 : decode cc_M_round 23 = .ok (.istore_n 1, 1) := by decide +kernel
theorem dd_M_round_24 : decode cc_M_round 24 = .ok (.iconst 0, 1) := by decide +kernel
theorem dd_M_round_25 : decode cc_M_round 25 = .ok (.istore_n 2, 1) := by decide +kernel
theorem dd_M_round_26 : decode cc_M_round 26 = .ok (.iload_n 2, 1) := by decide +kernel
theorem dd_M_round_27 : decode cc_M_round 27 = .ok (.aload_n 0, 1) := by decide +kernel
theorem dd_M_round_28 : decode cc_M_round 28 = .ok (.getfield 105, 3) := by decide +kernel
theorem dd_M_round_31 : decode cc_M_round 31 = .ok (.if_icmp .ge (39), 3) := by decide +kernel
theorem dd_M_round_34 : decode cc_M_round 34 = .ok (.aload_n 0, 1) := by decide +kernel
theorem dd_M_round_35 : decode cc_M_round 35 = .ok (.getfield 78, 3) := by decide +kernel
theorem dd_M_round_38 : decode cc_M_round 38 = .ok (.iload_n 2, 1) := by decide +kernel
theorem dd_M_round_39 : decode cc_M_round 39 = .ok (.iconst 0, 1) := by decide +kernel
theorem dd_M_round_40 : decode cc_M_round 40 = .ok (.bastore, 1) := by decide +kernel
theorem dd_M_round_41 : decode cc_M_round 41 = .ok (.aload_n 0, 1) := by decide +kernel
theorem dd_M_round_42 : decode cc_M_round 42 = .ok (.getfield 75, 3) := by decide +kernel
theorem dd_M_round_45 : decode cc_M_round 45 = .ok (.iload_n 2, 1) := by decide +kernel
theorem dd_M_round_46 : decode cc_M_round 46 = .ok (.iconst 0, 1) := by decide +kernel
theorem dd_M_round_47 : decode cc_M_round 47 = .ok (.iastore, 1) := by decide +kernel
theorem dd_M_round_48 : decode cc_M_round 48 = .ok (.iload_n 1, 1) := by decide +kernel
theorem dd_M_round_49 : decode cc_M_round 49 = .ok (.aload_n 0, 1) := by decide +kernel
theorem dd_M_round_50 : decode cc_M_round 50 = .ok (.iload_n 2, 1) := by decide +kernel
theorem dd_M_round_51 : decode cc_M_round 51 = .ok (.invokevirtual 180, 3) := by decide +kernel
theorem dd_M_round_54 : decode cc_M_round 54 = .ok (.ifCond .eq (7), 3) := by decide +kernel
theorem dd_M_round_57 : decode cc_M_round 57 = .ok (.iconst 1, 1) := by decide +kernel
theorem dd_M_round_58 : decode cc_M_round 58 = .ok (.goto (4), 3) := by decide +kernel
theorem dd_M_round_61 : decode cc_M_round 61 = .ok (.iconst 0, 1) := by decide +kernel
theorem dd_M_round_62 : decode cc_M_round 62 = .ok (.iadd, 1) := by decide +kernel
theorem dd_M_round_63 : decode cc_M_round 63 = .ok (.istore_n 1, 1) := by decide +kernel
theorem dd_M_round_64 : decode cc_M_round 64 = .ok (.iinc 2 (1), 3) := by decide +kernel
theorem dd_M_round_67 : decode cc_M_round 67 = .ok (.goto (-41), 3) := by decide +kernel
theorem dd_M_round_70 : decode cc_M_round 70 = .ok (.aload_n 0, 1) := by decide +kernel
theorem dd_M_round_71 : decode cc_M_round 71 = .ok (.iload_n 1, 1) := by decide +kernel
theorem dd_M_round_72 : decode cc_M_round 72 = .ok (.iconst 1, 1) := by decide +kernel
theorem dd_M_round_73 : decode cc_M_round 73 = .ok (.if_icmp .le (7), 3) := by decide +kernel
theorem dd_M_round_76 : decode cc_M_round 76 = .ok (.iconst 1, 1) := by decide +kernel
theorem dd_M_round_77 : decode cc_M_round 77 = .ok (.goto (4), 3) := by decide +kernel
theorem dd_M_round_80 : decode cc_M_round 80 = .ok (.iconst 0, 1) := by decide +kernel
theorem dd_M_round_81 : decode cc_M_round 81 = .ok (.putfield 111, 3) := by decide +kernel
theorem dd_M_round_84 : decode cc_M_round 84 = .ok (.aload_n 0, 1) := by decide +kernel
theorem dd_M_round_85 : decode cc_M_round 85 = .ok (.getfield 111, 3) := by decide +kernel
theorem dd_M_round_88 : decode cc_M_round 88 = .ok (.ifCond .eq (8), 3) := by decide +kernel
theorem dd_M_round_91 : decode cc_M_round 91 = .ok (.aload_n 0, 1) := by decide +kernel
theorem dd_M_round_92 : decode cc_M_round 92 = .ok (.iconst 0, 1) := by decide +kernel
theorem dd_M_round_93 : decode cc_M_round 93 = .ok (.invokevirtual 189, 3) := by decide +kernel
theorem dd_M_round_96 : decode cc_M_round 96 = .ok (.iconst 1, 1) := by decide +kernel
theorem dd_M_round_97 : decode cc_M_round 97 = .ok (.ireturn, 1) := by decide +kernel
theorem dd_M_pay_0 : decode cc_M_pay 0 = .ok (.aload_n 0, 1) := by decide +kernel
theorem dd_M_pay_1 : decode cc_M_pay 1 = .ok (.getfield 7, 3) := by decide +kernel
theorem dd_M_pay_4 : decode cc_M_pay 4 = .ok (.iload_n 1, 1) := by decide +kernel
theorem dd_M_pay_5 : decode cc_M_pay 5 = .ok (.dup2, 1) := by decide +kernel
theorem dd_M_pay_6 : decode cc_M_pay 6 = .ok (.iaload, 1) := by decide +kernel
theorem dd_M_pay_7 : decode cc_M_pay 7 = .ok (.iload_n 2, 1) := by decide +kernel
theorem dd_M_pay_8 : decode cc_M_pay 8 = .ok (.isub, 1) := by decide +kernel
theorem dd_M_pay_9 : decode cc_M_pay 9 = .ok (.iastore, 1) := by decide +kernel
theorem dd_M_pay_10 : decode cc_M_pay 10 = .ok (.aload_n 0, 1) := by decide +kernel
theorem dd_M_pay_11 : decode cc_M_pay 11 = .ok (.getfield 72, 3) := by decide +kernel
theorem dd_M_pay_14 : decode cc_M_pay 14 = .ok (.iload_n 1, 1) := by decide +kernel
theorem dd_M_pay_15 : decode cc_M_pay 15 = .ok (.dup2, 1) := by decide +kernel
theorem dd_M_pay_16 : decode cc_M_pay 16 = .ok (.iaload, 1) := by decide +kernel
theorem dd_M_pay_17 : decode cc_M_pay 17 = .ok (.iload_n 2, 1) := by decide +kernel
theorem dd_M_pay_18 : decode cc_M_pay 18 = .ok (.iadd, 1) := by decide +kernel
theorem dd_M_pay_19 : decode cc_M_pay 19 = .ok (.iastore, 1) := by decide +kernel
theorem dd_M_pay_20 : decode cc_M_pay 20 = .ok (.aload_n 0, 1) := by decide +kernel
theorem dd_M_pay_21 : decode cc_M_pay 21 = .ok (.getfield 75, 3) := by decide +kernel
theorem dd_M_pay_24 : decode cc_M_pay 24 = .ok (.iload_n 1, 1) := by decide +kernel
theorem dd_M_pay_25 : decode cc_M_pay 25 = .ok (.dup2, 1) := by decide +kernel
theorem dd_M_pay_26 : decode cc_M_pay 26 = .ok (.iaload, 1) := by decide +kernel
theorem dd_M_pay_27 : decode cc_M_pay 27 = .ok (.iload_n 2, 1) := by decide +kernel
theorem dd_M_pay_28 : decode cc_M_pay 28 = .ok (.iadd, 1) := by decide +kernel
theorem dd_M_pay_29 : decode cc_M_pay 29 = .ok (.iastore, 1) := by decide +kernel
theorem dd_M_pay_30 : decode cc_M_pay 30 = .ok (.return_, 1) := by decide +kernel
theorem dd_M_bet_0 : decode cc_M_bet 0 = .ok (.aload_n 0, 1) := by decide +kernel
theorem dd_M_bet_1 : decode cc_M_bet 1 = .ok (.iconst 0, 1) := by decide +kernel
theorem dd_M_bet_2 : decode cc_M_bet 2 = .ok (.putfield 85, 3) := by decide +kernel
theorem dd_M_bet_5 : decode cc_M_bet 5 = .ok (.aload_n 0, 1) := by decide +kernel
theorem dd_M_bet_6 : decode cc_M_bet 6 = .ok (.getfield 111, 3) := by decide +kernel
theorem dd_M_bet_9 : decode cc_M_bet 9 = .ok (.ifCond .eq (20), 3) := by decide +kernel
theorem dd_M_bet_12 : decode cc_M_bet 12 = .ok (.iload_n 1, 1) := by decide +kernel
theorem dd_M_bet_13 : decode cc_M_bet 13 = .ok (.aload_n 0, 1) := by decide +kernel
theorem dd_M_bet_14 : decode cc_M_bet 14 = .ok (.getfield 81, 3) := by decide +kernel
theorem dd_M_bet_17 : decode cc_M_bet 17 = .ok (.if_icmp .ne (12), 3) := by decide +kernel
theorem dd_M_bet_20 : decode cc_M_bet 20 = .ok (.iload_n 2, 1) := by decide +kernel
theorem dd_M_bet_21 : decode cc_M_bet 21 = .ok (.ifCond .lt (8), 3) := by decide +kernel
theorem dd_M_bet_24 : decode cc_M_bet 24 = .ok (.iload_n 2, 1) := by decide +kernel
theorem dd_M_bet_25 : decode cc_M_bet 25 = .ok (.iconst 2, 1) := by decide +kernel
theorem dd_M_bet_26 : decode cc_M_bet 26 = .ok (.if_icmp .le (5), 3) := by decide +kernel
theorem dd_M_bet_29 : decode cc_M_bet 29 = .ok (.iconst 0, 1) := by decide +kernel
theorem dd_M_bet_30 : decode cc_M_bet 30 = .ok (.ireturn, 1) := by decide +kernel
theorem dd_M_bet_31 : decode cc_M_bet 31 = .ok (.aload_n 0, 1) := by decide +kernel
theorem dd_M_bet_32 : decode cc_M_bet 32 = .ok (.invokevirtual 193, 3) := by decide +kernel
theorem dd_M_bet_35 : decode cc_M_bet 35 = .ok (.aload_n 0, 1) := by decide +kernel
theorem dd_M_bet_36 : decode cc_M_bet 36 = .ok (.getfield 75, 3) := by decide +kernel
theorem dd_M_bet_39 : decode cc_M_bet 39 = .ok (.iload_n 1, 1) := by decide +kernel
theorem dd_M_bet_40 : decode cc_M_bet 40 = .ok (.iaload, 1) := by decide +kernel
theorem dd_M_bet_41 : decode cc_M_bet 41 = .ok (.isub, 1) := by decide +kernel
theorem dd_M_bet_42 : decode cc_M_bet 42 = .ok (.istore 4, 2) := by decide +kernel
theorem dd_M_bet_44 : decode cc_M_bet 44 = .ok (.iload_n 2, 1) := by decide +kernel
theorem dd_M_bet_45 : decode cc_M_bet 45 = .ok (.iconst 2, 1) := by decide +kernel
theorem dd_M_bet_46 : decode cc_M_bet 46 = .ok (.if_icmp .ne (23), 3) := by decide +kernel
theorem dd_M_bet_49 : decode cc_M_bet 49 = .ok (.iload_n 3, 1) := by decide +kernel
theorem dd_M_bet_50 : decode cc_M_bet 50 = .ok (.iconst 1, 1) := by decide +kernel
theorem dd_M_bet_51 : decode cc_M_bet 51 = .ok (.if_icmp .lt (16), 3) := by decide +kernel
theorem dd_M_bet_54 : decode cc_M_bet 54 = .ok (.iload_n 3, 1) := by decide +kernel
theorem dd_M_bet_55 : decode cc_M_bet 55 = .ok (.aload_n 0, 1) := by decide +kernel
theorem dd_M_bet_56 : decode cc_M_bet 56 = .ok (.getfield 7, 3) := by decide +kernel
theorem dd_M_bet_59 : decode cc_M_bet 59 = .ok (.iload_n 1, 1) := by decide +kernel
theorem dd_M_bet_60 : decode cc_M_bet 60 = .ok (.iaload, 1) := by decide +kernel
theorem dd_M_bet_61 : decode cc_M_bet 61 = .ok (.iload 4, 2) := by decide +kernel
theorem dd_M_bet_63 : decode cc_M_bet 63 = .ok (.isub, 1) := by decide +kernel
theorem dd_M_bet_64 : decode cc_M_bet 64 = .ok (.if_icmp .le (5), 3) := by decide +kernel
theorem dd_M_bet_67 : decode cc_M_bet 67 = .ok (.iconst 0, 1) := by decide +kernel
theorem dd_M_bet_68 : decode cc_M_bet 68 = .ok (.ireturn, 1) := by decide +kernel
theorem dd_M_bet_69 : decode cc_M_bet 69 = .ok (.iload_n 2, 1) := by decide +kernel
theorem dd_M_bet_70 : decode cc_M_bet 70 = .ok (.ifCond .ne (10), 3) := by decide +kernel
theorem dd_M_bet_73 : decode cc_M_bet 73 = .ok (.aload_n 0, 1) := by decide +kernel
theorem dd_M_bet_74 : decode cc_M_bet 74 = .ok (.getfield 69, 3) := by decide +kernel
theorem dd_M_bet_77 : decode cc_M_bet 77 = .ok (.iload_n 1, 1) := by decide +kernel
theorem dd_M_bet_78 : decode cc_M_bet 78 = .ok (.iconst 0, 1) := by decide +kernel
theorem dd_M_bet_79 : decode cc_M_bet 79 = .ok (.bastore, 1) := by decide +kernel
theorem dd_M_bet_80 : decode cc_M_bet 80 = .ok (.iload_n 2, 1) := by decide +kernel
theorem dd_M_bet_81 : decode cc_M_bet 81 = .ok (.iconst 1, 1) := by decide +kernel
theorem dd_M_bet_82 : decode cc_M_bet 82 = .ok (.if_icmp .ne (30), 3) := by decide +kernel
theorem dd_M_bet_85 : decode cc_M_bet 85 = .ok (.aload_n 0, 1) := by decide +kernel
theorem dd_M_bet_86 : decode cc_M_bet 86 = .ok (.iload_n 1, 1) := by decide +kernel
theorem dd_M_bet_87 : decode cc_M_bet 87 = .ok (.iload 4, 2) := by decide +kernel
theorem dd_M_bet_89 : decode cc_M_bet 89 = .ok (.aload_n 0, 1) := by decide +kernel
theorem dd_M_bet_90 : decode cc_M_bet 90 = .ok (.getfield 7, 3) := by decide +kernel
theorem dd_M_bet_93 : decode cc_M_bet 93 = .ok (.iload_n 1, 1) := by decide +kernel
theorem dd_M_bet_94 : decode cc_M_bet 94 = .ok (.iaload, 1) := by decide +kernel
theorem dd_M_bet_95 : decode cc_M_bet 95 = .ok (.if_icmp .ge (8), 3) := by decide +kernel
theorem dd_M_bet_98 : decode cc_M_bet 98 = .ok (.iload 4, 2) := by decide +kernel
theorem dd_M_bet_100 : decode cc_M_bet 100 = .ok (.goto (9), 3) := by decide +kernel
theorem dd_M_bet_103 : decode cc_M_bet 103 = .ok (.aload_n 0, 1) := by decide +kernel
theorem dd_M_bet_104 : decode cc_M_bet 104 = .ok (.getfield 7, 3) := by decide +kernel
theorem dd_M_bet_107 : decode cc_M_bet 107 = .ok (.iload_n 1, 1) := by decide +kernel
theorem dd_M_bet_108 : decode cc_M_bet 108 = .ok (.iaload, 1) := by decide +kernel
theorem dd_M_bet_109 : decode cc_M_bet 109 = .ok (.invokevirtual 196, 3) := by decide +kernel
theorem dd_M_bet_112 : decode cc_M_bet 112 = .ok (.iload_n 2, 1) := by decide +kernel
theorem dd_M_bet_113 : decode cc_M_bet 113 = .ok (.iconst 2, 1) := by decide +kernel
theorem dd_M_bet_114 : decode cc_M_bet 114 = .ok (.if_icmp .ne (38), 3) := by decide +kernel
theorem dd_M_bet_117 : decode cc_M_bet 117 = .ok (.aload_n 0, 1) := by decide +kernel
theorem dd_M_bet_118 : decode cc_M_bet 118 = .ok (.iload_n 1, 1) := by decide +kernel
theorem dd_M_bet_119 : decode cc_M_bet 119 = .ok (.iload 4, 2) := by decide +kernel
theorem dd_M_bet_121 : decode cc_M_bet 121 = .ok (.iload_n 3, 1) := by decide +kernel
theorem dd_M_bet_122 : decode cc_M_bet 122 = .ok (.iadd, 1) := by decide +kernel
theorem dd_M_bet_123 : decode cc_M_bet 123 = .ok (.invokevirtual 196, 3) := by decide +kernel
theorem dd_M_bet_126 : decode cc_M_bet 126 = .ok (.iconst 0, 1) := by decide +kernel
theorem dd_M_bet_127 : decode cc_M_bet 127 = .ok (.istore 5, 2) := by decide +kernel
theorem dd_M_bet_129 : decode cc_M_bet 129 = .ok (.iload 5, 2) := by decide +kernel
theorem dd_M_bet_131 : decode cc_M_bet 131 = .ok (.aload_n 0, 1) := by decide +kernel
theorem dd_M_bet_132 : decode cc_M_bet 132 = .ok (.getfield 105, 3) := by decide +kernel
theorem dd_M_bet_135 : decode cc_M_bet 135 = .ok (.if_icmp .ge (17), 3) := by decide +kernel
theorem dd_M_bet_138 : decode cc_M_bet 138 = .ok (.aload_n 0, 1) := by decide +kernel
theorem dd_M_bet_139 : decode cc_M_bet 139 = .ok (.getfield 78, 3) := by decide +kernel
theorem dd_M_bet_142 : decode cc_M_bet 142 = .ok (.iload 5, 2) := by decide +kernel
theorem dd_M_bet_144 : decode cc_M_bet 144 = .ok (.iconst 0, 1) := by decide +kernel
theorem dd_M_bet_145 : decode cc_M_bet 145 = .ok (.bastore, 1) := by decide +kernel
theorem dd_M_bet_146 : decode cc_M_bet 146 = .ok (.iinc 5 (1), 3) := by decide +kernel
theorem dd_M_bet_149 : decode cc_M_bet 149 = .ok (.goto (-20), 3) := by decide +kernel
theorem dd_M_bet_152 : decode cc_M_bet 152 = .ok (.aload_n 0, 1) := by decide +kernel
theorem dd_M_bet_153 : decode cc_M_bet 153 = .ok (.getfield 78, 3) := by decide +kernel
theorem dd_M_bet_156 : decode cc_M_bet 156 = .ok (.iload_n 1, 1) := by decide +kernel
theorem dd_M_bet_157 : decode cc_M_bet 157 = .ok (.iconst 1, 1) := by decide +kernel
theorem dd_M_bet_158 : decode cc_M_bet 158 = .ok (.bastore, 1) := by decide +kernel
theorem dd_M_bet_159 : decode cc_M_bet 159 = .ok (.aload_n 0, 1) := by decide +kernel
theorem dd_M_bet_160 : decode cc_M_bet 160 = .ok (.iload_n 1, 1) := by decide +kernel
theorem dd_M_bet_161 : decode cc_M_bet 161 = .ok (.iconst 1, 1) := by decide +kernel
theorem dd_M_bet_162 : decode cc_M_bet 162 = .ok (.iadd, 1) := by decide +kernel
theorem dd_M_bet_163 : decode cc_M_bet 163 = .ok (.invokevirtual 189, 3) := by decide +kernel
theorem dd_M_bet_166 : decode cc_M_bet 166 = .ok (.iconst 1, 1) := by decide +kernel
theorem dd_M_bet_167 : decode cc_M_bet 167 = .ok (.ireturn, 1) := by decide +kernel
theorem dd_M_payLayer_0 : decode cc_M_payLayer 0 = .ok (.iconst 0, 1) := by decide +kernel
theorem dd_M_payLayer_1 : decode cc_M_payLayer 1 = .ok (.istore_n 2, 1) := by decide +kernel
theorem dd_M_payLayer_2 : decode cc_M_payLayer 2 = .ok (.iconst 0, 1) := by decide +kernel
theorem dd_M_payLayer_3 : decode cc_M_payLayer 3 = .ok (.istore_n 3, 1) := by decide +kernel
theorem dd_M_payLayer_4 : decode cc_M_payLayer 4 = .ok (.iload_n 3, 1) := by decide +kernel
theorem dd_M_payLayer_5 : decode cc_M_payLayer 5 = .ok (.aload_n 0, 1) := by decide +kernel
theorem dd_M_payLayer_6 : decode cc_M_payLayer 6 = .ok (.getfield 105, 3) := by decide +kernel
theorem dd_M_payLayer_9 : decode cc_M_payLayer 9 = .ok (.if_icmp .ge (43), 3) := by decide +kernel
theorem dd_M_payLayer_12 : decode cc_M_payLayer 12 = .ok (.aload_n 0, 1) := by decide +kernel
theorem dd_M_payLayer_13 : decode cc_M_payLayer 13 = .ok (.getfield 72, 3) := by decide +kernel
theorem dd_M_payLayer_16 : decode cc_M_payLayer 16 = .ok (.iload_n 3, 1) := by decide +kernel
theorem dd_M_payLayer_17 : decode cc_M_payLayer 17 = .ok (.iaload, 1) := by decide +kernel
theorem dd_M_payLayer_18 : decode cc_M_payLayer 18 = .ok (.ifCond .le (26), 3) := by decide +kernel
theorem dd_M_payLayer_21 : decode cc_M_payLayer 21 = .ok (.iload_n 2, 1) := by decide +kernel
theorem dd_M_payLayer_22 : decode cc_M_payLayer 22 = .ok (.ifCond .eq (13), 3) := by decide +kernel
theorem dd_M_payLayer_25 : decode cc_M_payLayer 25 = .ok (.aload_n 0, 1) := by decide +kernel
theorem dd_M_payLayer_26 : decode cc_M_payLayer 26 = .ok (.getfield 72, 3) := by decide +kernel
theorem dd_M_payLayer_29 : decode cc_M_payLayer 29 = .ok (.iload_n 3, 1) := by decide +kernel
theorem dd_M_payLayer_30 : decode cc_M_payLayer 30 = .ok (.iaload, 1) := by decide +kernel
theorem dd_M_payLayer_31 : decode cc_M_payLayer 31 = .ok (.iload_n 2, 1) := by decide +kernel
theorem dd_M_payLayer_32 : decode cc_M_payLayer 32 = .ok (.if_icmp .ge (12), 3) := by decide +kernel
theorem dd_M_payLayer_35 : decode cc_M_payLayer 35 = .ok (.aload_n 0, 1) := by decide +kernel
theorem dd_M_payLayer_36 : decode cc_M_payLayer 36 = .ok (.getfield 72, 3) := by decide +kernel
theorem dd_M_payLayer_39 : decode cc_M_payLayer 39 = .ok (.iload_n 3, 1) := by decide +kernel
theorem dd_M_payLayer_40 : decode cc_M_payLayer 40 = .ok (.iaload, 1) := by decide +kernel
theorem dd_M_payLayer_41 : decode cc_M_payLayer 41 = .ok (.goto (4), 3) := by decide +kernel
theorem dd_M_payLayer_44 : decode cc_M_payLayer 44 = .ok (.iload_n 2, 1) := by decide +kernel
theorem dd_M_payLayer_45 : decode cc_M_payLayer 45 = .ok (.istore_n 2, 1) := by decide +kernel
theorem dd_M_payLayer_46 : decode cc_M_payLayer 46 = .ok (.iinc 3 (1), 3) := by decide +kernel
theorem dd_M_payLayer_49 : decode cc_M_payLayer 49 = .ok (.goto (-45), 3) := by decide +kernel
theorem dd_M_payLayer_52 : decode cc_M_payLayer 52 = .ok (.iload_n 2, 1) := by decide +kernel
theorem dd_M_payLayer_53 : decode cc_M_payLayer 53 = .ok (.ifCond .ne (5), 3) := by decide +kernel
theorem dd_M_payLayer_56 : decode cc_M_payLayer 56 = .ok (.iconst 0, 1) := by decide +kernel
theorem dd_M_payLayer_57 : decode cc_M_payLayer 57 = .ok (.ireturn, 1) := by decide +kernel
theorem dd_M_payLayer_58 : decode cc_M_payLayer 58 = .ok (.iconst 0, 1) := by decide +kernel
theorem dd_M_payLayer_59 : decode cc_M_payLayer 59 = .ok (.istore_n 3, 1) := by decide +kernel
theorem dd_M_payLayer_60 : decode cc_M_payLayer 60 = .ok (.iconst (-1), 1) := by decide +kernel
theorem dd_M_payLayer_61 : decode cc_M_payLayer 61 = .ok (.istore 4, 2) := by decide +kernel
theorem dd_M_payLayer_63 : decode cc_M_payLayer 63 = .ok (.iconst 0, 1) := by decide +kernel
theorem dd_M_payLayer_64 : decode cc_M_payLayer 64 = .ok (.istore 5, 2) := by decide +kernel
theorem dd_M_payLayer_66 : decode cc_M_payLayer 66 = .ok (.iload 5, 2) := by decide +kernel
theorem dd_M_payLayer_68 : decode cc_M_payLayer 68 = .ok (.aload_n 0, 1) := by decide +kernel
theorem dd_M_payLayer_69 : decode cc_M_payLayer 69 = .ok (.getfield 105, 3) := by decide +kernel
theorem dd_M_payLayer_72 : decode cc_M_payLayer 72 = .ok (.if_icmp .ge (63), 3) := by decide +kernel
theorem dd_M_payLayer_75 : decode cc_M_payLayer 75 = .ok (.aload_n 0, 1) := by decide +kernel
theorem dd_M_payLayer_76 : decode cc_M_payLayer 76 = .ok (.getfield 72, 3) := by decide +kernel
theorem dd_M_payLayer_79 : decode cc_M_payLayer 79 = .ok (.iload 5, 2) := by decide +kernel
theorem dd_M_payLayer_81 : decode cc_M_payLayer 81 = .ok (.iaload, 1) := by decide +kernel
theorem dd_M_payLayer_82 : decode cc_M_payLayer 82 = .ok (.ifCond .ne (6), 3) := by decide +kernel
theorem dd_M_payLayer_85 : decode cc_M_payLayer 85 = .ok (.goto (44), 3) := by decide +kernel
theorem dd_M_payLayer_88 : decode cc_M_payLayer 88 = .ok (.iload_n 3, 1) := by decide +kernel
theorem dd_M_payLayer_89 : decode cc_M_payLayer 89 = .ok (.iload_n 2, 1) := by decide +kernel
theorem dd_M_payLayer_90 : decode cc_M_payLayer 90 = .ok (.iadd, 1) := by decide +kernel
theorem dd_M_payLayer_91 : decode cc_M_payLayer 91 = .ok (.istore_n 3, 1) := by decide +kernel
theorem dd_M_payLayer_92 : decode cc_M_payLayer 92 = .ok (.iload_n 1, 1) := by decide +kernel
theorem dd_M_payLayer_93 : decode cc_M_payLayer 93 = .ok (.iconst 4, 1) := by decide +kernel
theorem dd_M_payLayer_94 : decode cc_M_payLayer 94 = .ok (.iload 5, 2) := by decide +kernel
theorem dd_M_payLayer_96 : decode cc_M_payLayer 96 = .ok (.imul, 1) := by decide +kernel
theorem dd_M_payLayer_97 : decode cc_M_payLayer 97 = .ok (.ishr, 1) := by decide +kernel
theorem dd_M_payLayer_98 : decode cc_M_payLayer 98 = .ok (.bipush (15), 2) := by decide +kernel
theorem dd_M_payLayer_100 : decode cc_M_payLayer 100 = .ok (.iand, 1) := by decide +kernel
theorem dd_M_payLayer_101 : decode cc_M_payLayer 101 = .ok (.istore 6, 2) := by decide +kernel
theorem dd_M_payLayer_103 : decode cc_M_payLayer 103 = .ok (.aload_n 0, 1) := by decide +kernel
theorem dd_M_payLayer_104 : decode cc_M_payLayer 104 = .ok (.getfield 69, 3) := by decide +kernel
theorem dd_M_payLayer_107 : decode cc_M_payLayer 107 = .ok (.iload 5, 2) := by decide +kernel
theorem dd_M_payLayer_109 : decode cc_M_payLayer 109 = .ok (.baload, 1) := by decide +kernel
theorem dd_M_payLayer_110 : decode cc_M_payLayer 110 = .ok (.ifCond .eq (15), 3) := by decide +kernel
theorem dd_M_payLayer_113 : decode cc_M_payLayer 113 = .ok (.iload 6, 2) := by decide +kernel
theorem dd_M_payLayer_115 : decode cc_M_payLayer 115 = .ok (.iload 4, 2) := by decide +kernel
theorem dd_M_payLayer_117 : decode cc_M_payLayer 117 = .ok (.if_icmp .le (8), 3) := by decide +kernel
theorem dd_M_payLayer_120 : decode cc_M_payLayer 120 = .ok (.iload 6, 2) := by decide +kernel
theorem dd_M_payLayer_122 : decode cc_M_payLayer 122 = .ok (.goto (5), 3) := by decide +kernel
theorem dd_M_payLayer_125 : decode cc_M_payLayer 125 = .ok (.iload 4, 2) := by decide +kernel
theorem dd_M_payLayer_127 : decode cc_M_payLayer 127 = .ok (.istore 4, 2) := by decide +kernel
theorem dd_M_payLayer_129 : decode cc_M_payLayer 129 = .ok (.iinc 5 (1), 3) := by decide +kernel
theorem dd_M_payLayer_132 : decode cc_M_payLayer 132 = .ok (.goto (-66), 3) := by decide +kernel
theorem dd_M_payLayer_135 : decode cc_M_payLayer 135 = .ok (.iconst 0, 1) := by decide +kernel
theorem dd_M_payLayer_136 : decode cc_M_payLayer 136 = .ok (.istore 5, 2) := by decide +kernel
theorem dd_M_payLayer_138 : decode cc_M_payLayer 138 = .ok (.iconst 0, 1) := by decide +kernel
theorem dd_M_payLayer_139 : decode cc_M_payLayer 139 = .ok (.istore 6, 2) := by decide +kernel
theorem dd_M_payLayer_141 : decode cc_M_payLayer 141 = .ok (.iload 6, 2) := by decide +kernel
theorem dd_M_payLayer_143 : decode cc_M_payLayer 143 = .ok (.aload_n 0, 1) := by decide +kernel
theorem dd_M_payLayer_144 : decode cc_M_payLayer 144 = .ok (.getfield 105, 3) := by decide +kernel
theorem dd_M_payLayer_147 : decode cc_M_payLayer 147 = .ok (.if_icmp .ge (53), 3) := by decide +kernel
theorem dd_M_payLayer_150 : decode cc_M_payLayer 150 = .ok (.iload 5, 2) := by decide +kernel
theorem dd_M_payLayer_152 : decode cc_M_payLayer 152 = .ok (.aload_n 0, 1) := by decide +kernel
theorem dd_M_payLayer_153 : decode cc_M_payLayer 153 = .ok (.getfield 72, 3) := by decide +kernel
theorem dd_M_payLayer_156 : decode cc_M_payLayer 156 = .ok (.iload 6, 2) := by decide +kernel
theorem dd_M_payLayer_158 : decode cc_M_payLayer 158 = .ok (.iaload, 1) := by decide +kernel
theorem dd_M_payLayer_159 : decode cc_M_payLayer 159 = .ok (.ifCond .le (31), 3) := by decide +kernel
theorem dd_M_payLayer_162 : decode cc_M_payLayer 162 = .ok (.aload_n 0, 1) := by decide +kernel
theorem dd_M_payLayer_163 : decode cc_M_payLayer 163 = .ok (.getfield 69, 3) := by decide +kernel
theorem dd_M_payLayer_166 : decode cc_M_payLayer 166 = .ok (.iload 6, 2) := by decide +kernel
theorem dd_M_payLayer_168 : decode cc_M_payLayer 168 = .ok (.baload, 1) := by decide +kernel
theorem dd_M_payLayer_169 : decode cc_M_payLayer 169 = .ok (.ifCond .eq (21), 3) := by decide +kernel
theorem dd_M_payLayer_172 : decode cc_M_payLayer 172 = .ok (.iload_n 1, 1) := by decide +kernel
theorem dd_M_payLayer_173 : decode cc_M_payLayer 173 = .ok (.iconst 4, 1) := by decide +kernel
theorem dd_M_payLayer_174 : decode cc_M_payLayer 174 = .ok (.iload 6, 2) := by decide +kernel
theorem dd_M_payLayer_176 : decode cc_M_payLayer 176 = .ok (.imul, 1) := by decide +kernel
theorem dd_M_payLayer_177 : decode cc_M_payLayer 177 = .ok (.ishr, 1) := by decide +kernel
theorem dd_M_payLayer_178 : decode cc_M_payLayer 178 = .ok (.bipush (15), 2) := by decide +kernel
theorem dd_M_payLayer_180 : decode cc_M_payLayer 180 = .ok (.iand, 1) := by decide +kernel
theorem dd_M_payLayer_181 : decode cc_M_payLayer 181 = .ok (.iload 4, 2) := by decide +kernel
theorem dd_M_payLayer_183 : decode cc_M_payLayer 183 = .ok (.if_icmp .ne (7), 3) := by decide +kernel
theorem dd_M_payLayer_186 : decode cc_M_payLayer 186 = .ok (.iconst 1, 1) := by decide +kernel
theorem dd_M_payLayer_187 : decode cc_M_payLayer 187 = .ok (.goto (4), 3) := by decide +kernel
theorem dd_M_payLayer_190 : decode cc_M_payLayer 190 = .ok (.iconst 0, 1) := by decide +kernel
theorem dd_M_payLayer_191 : decode cc_M_payLayer 191 = .ok (.iadd, 1) := by decide +kernel
theorem dd_M_payLayer_192 : decode cc_M_payLayer 192 = .ok (.istore 5, 2) := by decide +kernel
theorem dd_M_payLayer_194 : decode cc_M_payLayer 194 = .ok (.iinc 6 (1), 3) := by decide +kernel
theorem dd_M_payLayer_197 : decode cc_M_payLayer 197 = .ok (.goto (-56), 3) := by decide +kernel
theorem dd_M_payLayer_200 : decode cc_M_payLayer 200 = .ok (.iconst 1, 1) := by decide +kernel
theorem dd_M_payLayer_201 : decode cc_M_payLayer 201 = .ok (.istore 6, 2) := by decide +kernel
theorem dd_M_payLayer_203 : decode cc_M_payLayer 203 = .ok (.iconst 0, 1) := by decide +kernel
theorem dd_M_payLayer_204 : decode cc_M_payLayer 204 = .ok (.istore 7, 2) := by decide +kernel
theorem dd_M_payLayer_206 : decode cc_M_payLayer 206 = .ok (.iload 7, 2) := by decide +kernel
theorem dd_M_payLayer_208 : decode cc_M_payLayer 208 = .ok (.aload_n 0, 1) := by decide +kernel
theorem dd_M_payLayer_209 : decode cc_M_payLayer 209 = .ok (.getfield 105, 3) := by decide +kernel
theorem dd_M_payLayer_212 : decode cc_M_payLayer 212 = .ok (.if_icmp .ge (96), 3) := by decide +kernel
theorem dd_M_payLayer_215 : decode cc_M_payLayer 215 = .ok (.aload_n 0, 1) := by decide +kernel
theorem dd_M_payLayer_216 : decode cc_M_payLayer 216 = .ok (.getfield 72, 3) := by decide +kernel
theorem dd_M_payLayer_219 : decode cc_M_payLayer 219 = .ok (.iload 7, 2) := by decide +kernel
theorem dd_M_payLayer_221 : decode cc_M_payLayer 221 = .ok (.iaload, 1) := by decide +kernel
theorem dd_M_payLayer_222 : decode cc_M_payLayer 222 = .ok (.ifCond .ne (6), 3) := by decide +kernel
theorem dd_M_payLayer_225 : decode cc_M_payLayer 225 = .ok (.goto (77), 3) := by decide +kernel
theorem dd_M_payLayer_228 : decode cc_M_payLayer 228 = .ok (.iload 5, 2) := by decide +kernel
theorem dd_M_payLayer_230 : decode cc_M_payLayer 230 = .ok (.ifCond .ne (17), 3) := by decide +kernel
theorem dd_M_payLayer_233 : decode cc_M_payLayer 233 = .ok (.aload_n 0, 1) := by decide +kernel
theorem dd_M_payLayer_234 : decode cc_M_payLayer 234 = .ok (.getfield 7, 3) := by decide +kernel
theorem dd_M_payLayer_237 : decode cc_M_payLayer 237 = .ok (.iload 7, 2) := by decide +kernel
theorem dd_M_payLayer_239 : decode cc_M_payLayer 239 = .ok (.dup2, 1) := by decide +kernel
theorem dd_M_payLayer_240 : decode cc_M_payLayer 240 = .ok (.iaload, 1) := by decide +kernel
theorem dd_M_payLayer_241 : decode cc_M_payLayer 241 = .ok (.iload_n 2, 1) := by decide +kernel
theorem dd_M_payLayer_242 : decode cc_M_payLayer 242 = .ok (.iadd, 1) := by decide +kernel
theorem dd_M_payLayer_243 : decode cc_M_payLayer 243 = .ok (.iastore, 1) := by decide +kernel
theorem dd_M_payLayer_244 : decode cc_M_payLayer 244 = .ok (.goto (58), 3) := by decide +kernel
theorem dd_M_payLayer_247 : decode cc_M_payLayer 247 = .ok (.aload_n 0, 1) := by decide +kernel
theorem dd_M_payLayer_248 : decode cc_M_payLayer 248 = .ok (.getfield 69, 3) := by decide +kernel
theorem dd_M_payLayer_251 : decode cc_M_payLayer 251 = .ok (.iload 7, 2) := by decide +kernel
theorem dd_M_payLayer_253 : decode cc_M_payLayer 253 = .ok (.baload, 1) := by decide +kernel
theorem dd_M_payLayer_254 : decode cc_M_payLayer 254 = .ok (.ifCond .eq (48), 3) := by decide +kernel
theorem dd_M_payLayer_257 : decode cc_M_payLayer 257 = .ok (.iload_n 1, 1) := by decide +kernel
theorem dd_M_payLayer_258 : decode cc_M_payLayer 258 = .ok (.iconst 4, 1) := by decide +kernel
theorem dd_M_payLayer_259 : decode cc_M_payLayer 259 = .ok (.iload 7, 2) := by decide +kernel
theorem dd_M_payLayer_261 : decode cc_M_payLayer 261 = .ok (.imul, 1) := by decide +kernel
theorem dd_M_payLayer_262 : decode cc_M_payLayer 262 = .ok (.ishr, 1) := by decide +kernel
theorem dd_M_payLayer_263 : decode cc_M_payLayer 263 = .ok (.bipush (15), 2) := by decide +kernel
theorem dd_M_payLayer_265 : decode cc_M_payLayer 265 = .ok (.iand, 1) := by decide +kernel
theorem dd_M_payLayer_266 : decode cc_M_payLayer 266 = .ok (.iload 4, 2) := by decide +kernel
theorem dd_M_payLayer_268 : decode cc_M_payLayer 268 = .ok (.if_icmp .ne (34), 3) := by decide +kernel
theorem dd_M_payLayer_271 : decode cc_M_payLayer 271 = .ok (.aload_n 0, 1) := by decide +kernel
theorem dd_M_payLayer_272 : decode cc_M_payLayer 272 = .ok (.getfield 7, 3) := by decide +kernel
theorem dd_M_payLayer_275 : decode cc_M_payLayer 275 = .ok (.iload 7, 2) := by decide +kernel
theorem dd_M_payLayer_277 : decode cc_M_payLayer 277 = .ok (.dup2, 1) := by decide +kernel
theorem dd_M_payLayer_278 : decode cc_M_payLayer 278 = .ok (.iaload, 1) := by decide +kernel
theorem dd_M_payLayer_279 : decode cc_M_payLayer 279 = .ok (.iload_n 3, 1) := by decide +kernel
theorem dd_M_payLayer_280 : decode cc_M_payLayer 280 = .ok (.iload 5, 2) := by decide +kernel
theorem dd_M_payLayer_282 : decode cc_M_payLayer 282 = .ok (.idiv, 1) := by decide +kernel
theorem dd_M_payLayer_283 : decode cc_M_payLayer 283 = .ok (.iload 6, 2) := by decide +kernel
theorem dd_M_payLayer_285 : decode cc_M_payLayer 285 = .ok (.ifCond .eq (10), 3) := by decide +kernel
theorem dd_M_payLayer_288 : decode cc_M_payLayer 288 = .ok (.iload_n 3, 1) := by decide +kernel
theorem dd_M_payLayer_289 : decode cc_M_payLayer 289 = .ok (.iload 5, 2) := by decide +kernel
theorem dd_M_payLayer_291 : decode cc_M_payLayer 291 = .ok (.irem, 1) := by decide +kernel
theorem dd_M_payLayer_292 : decode cc_M_payLayer 292 = .ok (.goto (4), 3) := by decide +kernel
theorem dd_M_payLayer_295 : decode cc_M_payLayer 295 = .ok (.iconst 0, 1) := by decide +kernel
theorem dd_M_payLayer_296 : decode cc_M_payLayer 296 = .ok (.iadd, 1) := by decide +kernel
theorem dd_M_payLayer_297 : decode cc_M_payLayer 297 = .ok (.iadd, 1) := by decide +kernel
theorem dd_M_payLayer_298 : decode cc_M_payLayer 298 = .ok (.iastore, 1) := by decide +kernel
theorem dd_M_payLayer_299 : decode cc_M_payLayer 299 = .ok (.iconst 0, 1) := by decide +kernel
theorem dd_M_payLayer_300 : decode cc_M_payLayer 300 = .ok (.istore 6, 2) := by decide +kernel
theorem dd_M_payLayer_302 : decode cc_M_payLayer 302 = .ok (.iinc 7 (1), 3) := by decide +kernel
theorem dd_M_payLayer_305 : decode cc_M_payLayer 305 = .ok (.goto (-99), 3) := by decide +kernel
theorem dd_M_payLayer_308 : decode cc_M_payLayer 308 = .ok (.iconst 0, 1) := by decide +kernel
theorem dd_M_payLayer_309 : decode cc_M_payLayer 309 = .ok (.istore 7, 2) := by decide +kernel
theorem dd_M_payLayer_311 : decode cc_M_payLayer 311 = .ok (.iload 7, 2) := by decide +kernel
theorem dd_M_payLayer_313 : decode cc_M_payLayer 313 = .ok (.aload_n 0, 1) := by decide +kernel
theorem dd_M_payLayer_314 : decode cc_M_payLayer 314 = .ok (.getfield 105, 3) := by decide +kernel
theorem dd_M_payLayer_317 : decode cc_M_payLayer 317 = .ok (.if_icmp .ge (34), 3) := by decide +kernel
theorem dd_M_payLayer_320 : decode cc_M_payLayer 320 = .ok (.aload_n 0, 1) := by decide +kernel
theorem dd_M_payLayer_321 : decode cc_M_payLayer 321 = .ok (.getfield 72, 3) := by decide +kernel
theorem dd_M_payLayer_324 : decode cc_M_payLayer 324 = .ok (.iload 7, 2) := by decide +kernel
theorem dd_M_payLayer_326 : decode cc_M_payLayer 326 = .ok (.dup2, 1) := by decide +kernel
theorem dd_M_payLayer_327 : decode cc_M_payLayer 327 = .ok (.iaload, 1) := by decide +kernel
theorem dd_M_payLayer_328 : decode cc_M_payLayer 328 = .ok (.aload_n 0, 1) := by decide +kernel
theorem dd_M_payLayer_329 : decode cc_M_payLayer 329 = .ok (.getfield 72, 3) := by decide +kernel
theorem dd_M_payLayer_332 : decode cc_M_payLayer 332 = .ok (.iload 7, 2) := by decide +kernel
theorem dd_M_payLayer_334 : decode cc_M_payLayer 334 = .ok (.iaload, 1) := by decide +kernel
theorem dd_M_payLayer_335 : decode cc_M_payLayer 335 = .ok (.ifCond .le (7), 3) := by decide +kernel
theorem dd_M_payLayer_338 : decode cc_M_payLayer 338 = .ok (.iload_n 2, 1) := by decide +kernel
theorem dd_M_payLayer_339 : decode cc_M_payLayer 339 = .ok (.goto (4), 3) := by decide +kernel
theorem dd_M_payLayer_342 : decode cc_M_payLayer 342 = .ok (.iconst 0, 1) := by decide +kernel
theorem dd_M_payLayer_343 : decode cc_M_payLayer 343 = .ok (.isub, 1) := by decide +kernel
theorem dd_M_payLayer_344 : decode cc_M_payLayer 344 = .ok (.iastore, 1) := by decide +kernel
theorem dd_M_payLayer_345 : decode cc_M_payLayer 345 = .ok (.iinc 7 (1), 3) := by decide +kernel
theorem dd_M_payLayer_348 : decode cc_M_payLayer 348 = .ok (.goto (-37), 3) := by decide +kernel
theorem dd_M_payLayer_351 : decode cc_M_payLayer 351 = .ok (.iconst 1, 1) := by decide +kernel
theorem dd_M_payLayer_352 : decode cc_M_payLayer 352 = .ok (.ireturn, 1) := by decide +kernel
theorem dd_M_settle_0 : decode cc_M_settle 0 = .ok (.aload_n 0, 1) := by decide +kernel
theorem dd_M_settle_1 : decode cc_M_settle 1 = .ok (.iconst 0, 1) := by decide +kernel
theorem dd_M_settle_2 : decode cc_M_settle 2 = .ok (.putfield 85, 3) := by decide +kernel
theorem dd_M_settle_5 : decode cc_M_settle 5 = .ok (.aload_n 0, 1) := by decide +kernel
theorem dd_M_settle_6 : decode cc_M_settle 6 = .ok (.getfield 108, 3) := by decide +kernel
theorem dd_M_settle_9 : decode cc_M_settle 9 = .ok (.iconst 4, 1) := by decide +kernel
theorem dd_M_settle_10 : decode cc_M_settle 10 = .ok (.if_icmp .ne (10), 3) := by decide +kernel
theorem dd_M_settle_13 : decode cc_M_settle 13 = .ok (.aload_n 0, 1) := by decide +kernel
theorem dd_M_settle_14 : decode cc_M_settle 14 = .ok (.getfield 111, 3) := by decide +kernel
theorem dd_M_settle_17 : decode cc_M_settle 17 = .ok (.ifCond .eq (5), 3) := by decide +kernel
theorem dd_M_settle_20 : decode cc_M_settle 20 = .ok (.iconst 0, 1) := by decide +kernel
theorem dd_M_settle_21 : decode cc_M_settle 21 = .ok (.ireturn, 1) := by decide +kernel
theorem dd_M_settle_22 : decode cc_M_settle 22 = .ok (.iconst 1, 1) := by decide +kernel
theorem dd_M_settle_23 : decode cc_M_settle 23 = .ok (.istore_n 2, 1) := by decide +kernel
theorem dd_M_settle_24 : decode cc_M_settle 24 = .ok (.iload_n 2, 1) := by decide +kernel
theorem dd_M_settle_25 : decode cc_M_settle 25 = .ok (.ifCond .eq (12), 3) := by decide +kernel
theorem dd_M_settle_28 : decode cc_M_settle 28 = .ok (.aload_n 0, 1) := by decide +kernel
theorem dd_M_settle_29 : decode cc_M_settle 29 = .ok (.iload_n 1, 1) := by decide +kernel
theorem dd_M_settle_30 : decode cc_M_settle 30 = .ok (.invokevirtual 200, 3) := by decide +kernel
theorem dd_M_settle_33 : decode cc_M_settle 33 = .ok (.istore_n 2, 1) := by decide +kernel
theorem dd_M_settle_34 : decode cc_M_settle 34 = .ok (.goto (-10), 3) := by decide +kernel
theorem dd_M_settle_37 : decode cc_M_settle 37 = .ok (.aload_n 0, 1) := by decide +kernel
theorem dd_M_settle_38 : decode cc_M_settle 38 = .ok (.iconst 5, 1) := by decide +kernel
theorem dd_M_settle_39 : decode cc_M_settle 39 = .ok (.putfield 108, 3) := by decide +kernel
theorem dd_M_settle_42 : decode cc_M_settle 42 = .ok (.iconst 1, 1) := by decide +kernel
theorem dd_M_settle_43 : decode cc_M_settle 43 = .ok (.ireturn, 1) := by decide +kernel
theorem dd_M_show_0 : decode cc_M_show 0 = .ok (.aload_n 0, 1) := by decide +kernel
theorem dd_M_show_1 : decode cc_M_show 1 = .ok (.iconst 0, 1) := by decide +kernel
theorem dd_M_show_2 : decode cc_M_show 2 = .ok (.putfield 85, 3) := by decide +kernel
theorem dd_M_show_5 : decode cc_M_show 5 = .ok (.aload_n 0, 1) := by decide +kernel
theorem dd_M_show_6 : decode cc_M_show 6 = .ok (.iload_n 1, 1) := by decide +kernel
theorem dd_M_show_7 : decode cc_M_show 7 = .ok (.invokevirtual 139, 3) := by decide +kernel
theorem dd_M_show_10 : decode cc_M_show 10 = .ok (.ifCond .eq (20), 3) := by decide +kernel
theorem dd_M_show_13 : decode cc_M_show 13 = .ok (.aload_n 0, 1) := by decide +kernel
theorem dd_M_show_14 : decode cc_M_show 14 = .ok (.getfield 108, 3) := by decide +kernel
theorem dd_M_show_17 : decode cc_M_show 17 = .ok (.iconst 5, 1) := by decide +kernel
theorem dd_M_show_18 : decode cc_M_show 18 = .ok (.if_icmp .ne (12), 3) := by decide +kernel
theorem dd_M_show_21 : decode cc_M_show 21 = .ok (.aload_n 0, 1) := by decide +kernel
theorem dd_M_show_22 : decode cc_M_show 22 = .ok (.getfield 30, 3) := by decide +kernel
theorem dd_M_show_25 : decode cc_M_show 25 = .ok (.iload_n 1, 1) := by decide +kernel
theorem dd_M_show_26 : decode cc_M_show 26 = .ok (.baload, 1) := by decide +kernel
theorem dd_M_show_27 : decode cc_M_show 27 = .ok (.ifCond .eq (5), 3) := by decide +kernel
theorem dd_M_show_30 : decode cc_M_show 30 = .ok (.iconst 0, 1) := by decide +kernel
theorem dd_M_show_31 : decode cc_M_show 31 = .ok (.ireturn, 1) := by decide +kernel
theorem dd_M_show_32 : decode cc_M_show 32 = .ok (.aload_n 0, 1) := by decide +kernel
theorem dd_M_show_33 : decode cc_M_show 33 = .ok (.getfield 30, 3) := by decide +kernel
theorem dd_M_show_36 : decode cc_M_show 36 = .ok (.iload_n 1, 1) := by decide +kernel
theorem dd_M_show_37 : decode cc_M_show 37 = .ok (.iconst 1, 1) := by decide +kernel
theorem dd_M_show_38 : decode cc_M_show 38 = .ok (.bastore, 1) := by decide +kernel
theorem dd_M_show_39 : decode cc_M_show 39 = .ok (.aload_n 0, 1) := by decide +kernel
theorem dd_M_show_40 : decode cc_M_show 40 = .ok (.getfield 33, 3) := by decide +kernel
theorem dd_M_show_43 : decode cc_M_show 43 = .ok (.iload_n 1, 1) := by decide +kernel
theorem dd_M_show_44 : decode cc_M_show 44 = .ok (.aload_n 0, 1) := by decide +kernel
theorem dd_M_show_45 : decode cc_M_show 45 = .ok (.getfield 48, 3) := by decide +kernel
theorem dd_M_show_48 : decode cc_M_show 48 = .ok (.iload_n 1, 1) := by decide +kernel
theorem dd_M_show_49 : decode cc_M_show 49 = .ok (.baload, 1) := by decide +kernel
theorem dd_M_show_50 : decode cc_M_show 50 = .ok (.ifCond .eq (16), 3) := by decide +kernel
theorem dd_M_show_53 : decode cc_M_show 53 = .ok (.aload_n 0, 1) := by decide +kernel
theorem dd_M_show_54 : decode cc_M_show 54 = .ok (.aload_n 0, 1) := by decide +kernel
theorem dd_M_show_55 : decode cc_M_show 55 = .ok (.getfield 21, 3) := by decide +kernel
theorem dd_M_show_58 : decode cc_M_show 58 = .ok (.iload_n 1, 1) := by decide +kernel
theorem dd_M_show_59 : decode cc_M_show 59 = .ok (.iaload, 1) := by decide +kernel
theorem dd_M_show_60 : decode cc_M_show 60 = .ok (.invokevirtual 177, 3) := by decide +kernel
theorem dd_M_show_63 : decode cc_M_show 63 = .ok (.goto (9), 3) := by decide +kernel
theorem dd_M_show_66 : decode cc_M_show 66 = .ok (.aload_n 0, 1) := by decide +kernel
theorem dd_M_show_67 : decode cc_M_show 67 = .ok (.getfield 21, 3) := by decide +kernel
theorem dd_M_show_70 : decode cc_M_show 70 = .ok (.iload_n 1, 1) := by decide +kernel
theorem dd_M_show_71 : decode cc_M_show 71 = .ok (.iaload, 1) := by decide +kernel
theorem dd_M_show_72 : decode cc_M_show 72 = .ok (.iastore, 1) := by decide +kernel
theorem dd_M_show_73 : decode cc_M_show 73 = .ok (.aload_n 0, 1) := by decide +kernel
theorem dd_M_show_74 : decode cc_M_show 74 = .ok (.getfield 36, 3) := by decide +kernel
theorem dd_M_show_77 : decode cc_M_show 77 = .ok (.iload_n 1, 1) := by decide +kernel
theorem dd_M_show_78 : decode cc_M_show 78 = .ok (.aload_n 0, 1) := by decide +kernel
theorem dd_M_show_79 : decode cc_M_show 79 = .ok (.getfield 24, 3) := by decide +kernel
theorem dd_M_show_82 : decode cc_M_show 82 = .ok (.iload_n 1, 1) := by decide +kernel
theorem dd_M_show_83 : decode cc_M_show 83 = .ok (.laload, 1) := by decide +kernel
theorem dd_M_show_84 : decode cc_M_show 84 = .ok (.aload_n 0, 1) := by decide +kernel
theorem dd_M_show_85 : decode cc_M_show 85 = .ok (.getfield 51, 3) := by decide +kernel
theorem dd_M_show_88 : decode cc_M_show 88 = .ok (.iload_n 1, 1) := by decide +kernel
theorem dd_M_show_89 : decode cc_M_show 89 = .ok (.baload, 1) := by decide +kernel
theorem dd_M_show_90 : decode cc_M_show 90 = .ok (.ifCond .eq (7), 3) := by decide +kernel
theorem dd_M_show_93 : decode cc_M_show 93 = .ok (.lconst 1, 1) := by decide +kernel
theorem dd_M_show_94 : decode cc_M_show 94 = .ok (.goto (4), 3) := by decide +kernel
theorem dd_M_show_97 : decode cc_M_show 97 = .ok (.lconst 0, 1) := by decide +kernel
theorem dd_M_show_98 : decode cc_M_show 98 = .ok (.ladd, 1) := by decide +kernel
theorem dd_M_show_99 : decode cc_M_show 99 = .ok (.lastore, 1) := by decide +kernel
theorem dd_M_show_100 : decode cc_M_show 100 = .ok (.iconst 1, 1) := by decide +kernel
theorem dd_M_show_101 : decode cc_M_show 101 = .ok (.istore_n 2, 1) := by decide +kernel
theorem dd_M_show_102 : decode cc_M_show 102 = .ok (.iconst 0, 1) := by decide +kernel
theorem dd_M_show_103 : decode cc_M_show 103 = .ok (.istore_n 3, 1) := by decide +kernel
theorem dd_M_show_104 : decode cc_M_show 104 = .ok (.iload_n 3, 1) := by decide +kernel
theorem dd_M_show_105 : decode cc_M_show 105 = .ok (.aload_n 0, 1) := by decide +kernel
theorem dd_M_show_106 : decode cc_M_show 106 = .ok (.getfield 105, 3) := by decide +kernel
theorem dd_M_show_109 : decode cc_M_show 109 = .ok (.if_icmp .ge (28), 3) := by decide +kernel
theorem dd_M_show_112 : decode cc_M_show 112 = .ok (.iload_n 2, 1) := by decide +kernel
theorem dd_M_show_113 : decode cc_M_show 113 = .ok (.ifCond .eq (16), 3) := by decide +kernel
theorem dd_M_show_116 : decode cc_M_show 116 = .ok (.aload_n 0, 1) := by decide +kernel
theorem dd_M_show_117 : decode cc_M_show 117 = .ok (.getfield 30, 3) := by decide +kernel
theorem dd_M_show_120 : decode cc_M_show 120 = .ok (.iload_n 3, 1) := by decide +kernel
theorem dd_M_show_121 : decode cc_M_show 121 = .ok (.baload, 1) := by decide +kernel
theorem dd_M_show_122 : decode cc_M_show 122 = .ok (.ifCond .eq (7), 3) := by decide +kernel
theorem dd_M_show_125 : decode cc_M_show 125 = .ok (.iconst 1, 1) := by decide +kernel
theorem dd_M_show_126 : decode cc_M_show 126 = .ok (.goto (4), 3) := by decide +kernel
theorem dd_M_show_129 : decode cc_M_show 129 = .ok (.iconst 0, 1) := by decide +kernel
theorem dd_M_show_130 : decode cc_M_show 130 = .ok (.istore_n 2, 1) := by decide +kernel
theorem dd_M_show_131 : decode cc_M_show 131 = .ok (.iinc 3 (1), 3) := by decide +kernel
theorem dd_M_show_134 : decode cc_M_show 134 = .ok (.goto (-30), 3) := by decide +kernel
theorem dd_M_show_137 : decode cc_M_show 137 = .ok (.iload_n 2, 1) := by decide +kernel
theorem dd_M_show_138 : decode cc_M_show 138 = .ok (.ifCond .eq (9), 3) := by decide +kernel
theorem dd_M_show_141 : decode cc_M_show 141 = .ok (.aload_n 0, 1) := by decide +kernel
theorem dd_M_show_142 : decode cc_M_show 142 = .ok (.bipush (6), 2) := by decide +kernel
theorem dd_M_show_144 : decode cc_M_show 144 = .ok (.putfield 108, 3) := by decide +kernel
theorem dd_M_show_147 : decode cc_M_show 147 = .ok (.iconst 1, 1) := by decide +kernel
theorem dd_M_show_148 : decode cc_M_show 148 = .ok (.ireturn, 1) := by decide +kernel
theorem dd_M_fitsLocked_0 : decode cc_M_fitsLocked 0 = .ok (.aload_n 0, 1) := by decide +kernel
theorem dd_M_fitsLocked_1 : decode cc_M_fitsLocked 1 = .ok (.aload_n 0, 1) := by decide +kernel
theorem dd_M_fitsLocked_2 : decode cc_M_fitsLocked 2 = .ok (.getfield 36, 3) := by decide +kernel
theorem dd_M_fitsLocked_5 : decode cc_M_fitsLocked 5 = .ok (.iload_n 1, 1) := by decide +kernel
theorem dd_M_fitsLocked_6 : decode cc_M_fitsLocked 6 = .ok (.laload, 1) := by decide +kernel
theorem dd_M_fitsLocked_7 : decode cc_M_fitsLocked 7 = .ok (.invokevirtual 153, 3) := by decide +kernel
theorem dd_M_fitsLocked_10 : decode cc_M_fitsLocked 10 = .ok (.iconst 0, 1) := by decide +kernel
theorem dd_M_fitsLocked_11 : decode cc_M_fitsLocked 11 = .ok (.istore_n 2, 1) := by decide +kernel
theorem dd_M_fitsLocked_12 : decode cc_M_fitsLocked 12 = .ok (.iload_n 2, 1) := by decide +kernel
theorem dd_M_fitsLocked_13 : decode cc_M_fitsLocked 13 = .ok (.bipush (52), 2) := by decide +kernel
theorem dd_M_fitsLocked_15 : decode cc_M_fitsLocked 15 = .ok (.if_icmp .ge (39), 3) := by decide +kernel
theorem dd_M_fitsLocked_18 : decode cc_M_fitsLocked 18 = .ok (.aload_n 0, 1) := by decide +kernel
theorem dd_M_fitsLocked_19 : decode cc_M_fitsLocked 19 = .ok (.getfield 54, 3) := by decide +kernel
theorem dd_M_fitsLocked_22 : decode cc_M_fitsLocked 22 = .ok (.bipush (52), 2) := by decide +kernel
theorem dd_M_fitsLocked_24 : decode cc_M_fitsLocked 24 = .ok (.iload_n 1, 1) := by decide +kernel
theorem dd_M_fitsLocked_25 : decode cc_M_fitsLocked 25 = .ok (.iconst 1, 1) := by decide +kernel
theorem dd_M_fitsLocked_26 : decode cc_M_fitsLocked 26 = .ok (.iadd, 1) := by decide +kernel
theorem dd_M_fitsLocked_27 : decode cc_M_fitsLocked 27 = .ok (.imul, 1) := by decide +kernel
theorem dd_M_fitsLocked_28 : decode cc_M_fitsLocked 28 = .ok (.iload_n 2, 1) := by decide +kernel
theorem dd_M_fitsLocked_29 : decode cc_M_fitsLocked 29 = .ok (.iadd, 1) := by decide +kernel
theorem dd_M_fitsLocked_30 : decode cc_M_fitsLocked 30 = .ok (.iaload, 1) := by decide +kernel
theorem dd_M_fitsLocked_31 : decode cc_M_fitsLocked 31 = .ok (.aload_n 0, 1) := by decide +kernel
theorem dd_M_fitsLocked_32 : decode cc_M_fitsLocked 32 = .ok (.iload_n 1, 1) := by decide +kernel
theorem dd_M_fitsLocked_33 : decode cc_M_fitsLocked 33 = .ok (.iload_n 2, 1) := by decide +kernel
theorem dd_M_fitsLocked_34 : decode cc_M_fitsLocked 34 = .ok (.aload_n 0, 1) := by decide +kernel
theorem dd_M_fitsLocked_35 : decode cc_M_fitsLocked 35 = .ok (.getfield 33, 3) := by decide +kernel
theorem dd_M_fitsLocked_38 : decode cc_M_fitsLocked 38 = .ok (.iload_n 1, 1) := by decide +kernel
theorem dd_M_fitsLocked_39 : decode cc_M_fitsLocked 39 = .ok (.iaload, 1) := by decide +kernel
theorem dd_M_fitsLocked_40 : decode cc_M_fitsLocked 40 = .ok (.invokevirtual 160, 3) := by decide +kernel
theorem dd_M_fitsLocked_43 : decode cc_M_fitsLocked 43 = .ok (.if_icmp .eq (5), 3) := by decide +kernel
theorem dd_M_fitsLocked_46 : decode cc_M_fitsLocked 46 = .ok (.iconst 0, 1) := by decide +kernel
theorem dd_M_fitsLocked_47 : decode cc_M_fitsLocked 47 = .ok (.ireturn, 1) := by decide +kernel
theorem dd_M_fitsLocked_48 : decode cc_M_fitsLocked 48 = .ok (.iinc 2 (1), 3) := by decide +kernel
theorem dd_M_fitsLocked_51 : decode cc_M_fitsLocked 51 = .ok (.goto (-39), 3) := by decide +kernel
theorem dd_M_fitsLocked_54 : decode cc_M_fitsLocked 54 = .ok (.iconst 1, 1) := by decide +kernel
theorem dd_M_fitsLocked_55 : decode cc_M_fitsLocked 55 = .ok (.ireturn, 1) := by decide +kernel
theorem dd_M_fitsRelocked_0 : decode cc_M_fitsRelocked 0 = .ok (.aload_n 0, 1) := by decide +kernel
theorem dd_M_fitsRelocked_1 : decode cc_M_fitsRelocked 1 = .ok (.aload_n 0, 1) := by decide +kernel
theorem dd_M_fitsRelocked_2 : decode cc_M_fitsRelocked 2 = .ok (.getfield 27, 3) := by decide +kernel
theorem dd_M_fitsRelocked_5 : decode cc_M_fitsRelocked 5 = .ok (.iload_n 1, 1) := by decide +kernel
theorem dd_M_fitsRelocked_6 : decode cc_M_fitsRelocked 6 = .ok (.laload, 1) := by decide +kernel
theorem dd_M_fitsRelocked_7 : decode cc_M_fitsRelocked 7 = .ok (.invokevirtual 157, 3) := by decide +kernel
theorem dd_M_fitsRelocked_10 : decode cc_M_fitsRelocked 10 = .ok (.iconst 0, 1) := by decide +kernel
theorem dd_M_fitsRelocked_11 : decode cc_M_fitsRelocked 11 = .ok (.istore_n 2, 1) := by decide +kernel
theorem dd_M_fitsRelocked_12 : decode cc_M_fitsRelocked 12 = .ok (.iload_n 2, 1) := by decide +kernel
theorem dd_M_fitsRelocked_13 : decode cc_M_fitsRelocked 13 = .ok (.bipush (52), 2) := by decide +kernel
theorem dd_M_fitsRelocked_15 : decode cc_M_fitsRelocked 15 = .ok (.if_icmp .ge (49), 3) := by decide +kernel
theorem dd_M_fitsRelocked_18 : decode cc_M_fitsRelocked 18 = .ok (.aload_n 0, 1) := by decide +kernel
theorem dd_M_fitsRelocked_19 : decode cc_M_fitsRelocked 19 = .ok (.getfield 54, 3) := by decide +kernel
theorem dd_M_fitsRelocked_22 : decode cc_M_fitsRelocked 22 = .ok (.bipush (52), 2) := by decide +kernel
theorem dd_M_fitsRelocked_24 : decode cc_M_fitsRelocked 24 = .ok (.aload_n 0, 1) := by decide +kernel
theorem dd_M_fitsRelocked_25 : decode cc_M_fitsRelocked 25 = .ok (.getfield 105, 3) := by decide +kernel
theorem dd_M_fitsRelocked_28 : decode cc_M_fitsRelocked 28 = .ok (.iload_n 1, 1) := by decide +kernel
theorem dd_M_fitsRelocked_29 : decode cc_M_fitsRelocked 29 = .ok (.iadd, 1) := by decide +kernel
theorem dd_M_fitsRelocked_30 : decode cc_M_fitsRelocked 30 = .ok (.iconst 1, 1) := by decide +kernel
theorem dd_M_fitsRelocked_31 : decode cc_M_fitsRelocked 31 = .ok (.iadd, 1) := by decide +kernel
theorem dd_M_fitsRelocked_32 : decode cc_M_fitsRelocked 32 = .ok (.imul, 1) := by decide +kernel
theorem dd_M_fitsRelocked_33 : decode cc_M_fitsRelocked 33 = .ok (.iload_n 2, 1) := by decide +kernel
theorem dd_M_fitsRelocked_34 : decode cc_M_fitsRelocked 34 = .ok (.iadd, 1) := by decide +kernel
theorem dd_M_fitsRelocked_35 : decode cc_M_fitsRelocked 35 = .ok (.iaload, 1) := by decide +kernel
theorem dd_M_fitsRelocked_36 : decode cc_M_fitsRelocked 36 = .ok (.aload_n 0, 1) := by decide +kernel
theorem dd_M_fitsRelocked_37 : decode cc_M_fitsRelocked 37 = .ok (.aload_n 0, 1) := by decide +kernel
theorem dd_M_fitsRelocked_38 : decode cc_M_fitsRelocked 38 = .ok (.getfield 105, 3) := by decide +kernel
theorem dd_M_fitsRelocked_41 : decode cc_M_fitsRelocked 41 = .ok (.iload_n 1, 1) := by decide +kernel
theorem dd_M_fitsRelocked_42 : decode cc_M_fitsRelocked 42 = .ok (.iadd, 1) := by decide +kernel
theorem dd_M_fitsRelocked_43 : decode cc_M_fitsRelocked 43 = .ok (.iload_n 2, 1) := by decide +kernel
theorem dd_M_fitsRelocked_44 : decode cc_M_fitsRelocked 44 = .ok (.aload_n 0, 1) := by decide +kernel
theorem dd_M_fitsRelocked_45 : decode cc_M_fitsRelocked 45 = .ok (.getfield 33, 3) := by decide +kernel
theorem dd_M_fitsRelocked_48 : decode cc_M_fitsRelocked 48 = .ok (.iload_n 1, 1) := by decide +kernel
theorem dd_M_fitsRelocked_49 : decode cc_M_fitsRelocked 49 = .ok (.iaload, 1) := by decide +kernel
theorem dd_M_fitsRelocked_50 : decode cc_M_fitsRelocked 50 = .ok (.invokevirtual 163, 3) := by decide +kernel
theorem dd_M_fitsRelocked_53 : decode cc_M_fitsRelocked 53 = .ok (.if_icmp .eq (5), 3) := by decide +kernel
theorem dd_M_fitsRelocked_56 : decode cc_M_fitsRelocked 56 = .ok (.iconst 0, 1) := by decide +kernel
theorem dd_M_fitsRelocked_57 : decode cc_M_fitsRelocked 57 = .ok (.ireturn, 1) := by decide +kernel
theorem dd_M_fitsRelocked_58 : decode cc_M_fitsRelocked 58 = .ok (.iinc 2 (1), 3) := by decide +kernel
theorem dd_M_fitsRelocked_61 : decode cc_M_fitsRelocked 61 = .ok (.goto (-49), 3) := by decide +kernel
theorem dd_M_fitsRelocked_64 : decode cc_M_fitsRelocked 64 = .ok (.iconst 1, 1) := by decide +kernel
theorem dd_M_fitsRelocked_65 : decode cc_M_fitsRelocked 65 = .ok (.ireturn, 1) := by decide +kernel
theorem dd_M_audit_0 : decode cc_M_audit 0 = .ok (.aload_n 0, 1) := by decide +kernel
theorem dd_M_audit_1 : decode cc_M_audit 1 = .ok (.getfield 108, 3) := by decide +kernel
theorem dd_M_audit_4 : decode cc_M_audit 4 = .ok (.bipush (6), 2) := by decide +kernel
theorem dd_M_audit_6 : decode cc_M_audit 6 = .ok (.if_icmp .eq (9), 3) := by decide +kernel
theorem dd_M_audit_9 : decode cc_M_audit 9 = .ok (.aload_n 0, 1) := by decide +kernel
theorem dd_M_audit_10 : decode cc_M_audit 10 = .ok (.iconst 1, 1) := by decide +kernel
theorem dd_M_audit_11 : decode cc_M_audit 11 = .ok (.invokevirtual 146, 3) := by decide +kernel
theorem dd_M_audit_14 : decode cc_M_audit 14 = .ok (.ireturn, 1) := by decide +kernel
theorem dd_M_audit_15 : decode cc_M_audit 15 = .ok (.aload_n 0, 1) := by decide +kernel
theorem dd_M_audit_16 : decode cc_M_audit 16 = .ok (.iconst 0, 1) := by decide +kernel
theorem dd_M_audit_17 : decode cc_M_audit 17 = .ok (.putfield 85, 3) := by decide +kernel
theorem dd_M_audit_20 : decode cc_M_audit 20 = .ok (.iconst 0, 1) := by decide +kernel
theorem dd_M_audit_21 : decode cc_M_audit 21 = .ok (.istore_n 1, 1) := by decide +kernel
theorem dd_M_audit_22 : decode cc_M_audit 22 = .ok (.iload_n 1, 1) := by decide +kernel
theorem dd_M_audit_23 : decode cc_M_audit 23 = .ok (.aload_n 0, 1) := by decide +kernel
theorem dd_M_audit_24 : decode cc_M_audit 24 = .ok (.getfield 105, 3) := by decide +kernel
theorem dd_M_audit_27 : decode cc_M_audit 27 = .ok (.if_icmp .ge (47), 3) := by decide +kernel
theorem dd_M_audit_30 : decode cc_M_audit 30 = .ok (.aload_n 0, 1) := by decide +kernel
theorem dd_M_audit_31 : decode cc_M_audit 31 = .ok (.getfield 17, 3) := by decide +kernel
theorem dd_M_audit_34 : decode cc_M_audit 34 = .ok (.iload_n 1, 1) := by decide +kernel
theorem dd_M_audit_35 : decode cc_M_audit 35 = .ok (.laload, 1) := by decide +kernel
theorem dd_M_audit_36 : decode cc_M_audit 36 = .ok (.aload_n 0, 1) := by decide +kernel
theorem dd_M_audit_37 : decode cc_M_audit 37 = .ok (.getfield 33, 3) := by decide +kernel
theorem dd_M_audit_40 : decode cc_M_audit 40 = .ok (.iload_n 1, 1) := by decide +kernel
theorem dd_M_audit_41 : decode cc_M_audit 41 = .ok (.iaload, 1) := by decide +kernel
theorem dd_M_audit_42 : decode cc_M_audit 42 = .ok (.aload_n 0, 1) := by decide +kernel
theorem dd_M_audit_43 : decode cc_M_audit 43 = .ok (.getfield 36, 3) := by decide +kernel
theorem dd_M_audit_46 : decode cc_M_audit 46 = .ok (.iload_n 1, 1) := by decide +kernel
theorem dd_M_audit_47 : decode cc_M_audit 47 = .ok (.laload, 1) := by decide +kernel
theorem dd_M_audit_48 : decode cc_M_audit 48 = .ok (.aload_n 0, 1) := by decide +kernel
theorem dd_M_audit_49 : decode cc_M_audit 49 = .ok (.getfield 27, 3) := by decide +kernel
theorem dd_M_audit_52 : decode cc_M_audit 52 = .ok (.iload_n 1, 1) := by decide +kernel
theorem dd_M_audit_53 : decode cc_M_audit 53 = .ok (.laload, 1) := by decide +kernel
theorem dd_M_audit_54 : decode cc_M_audit 54 = .ok (.invokestatic 142, 3) := by decide +kernel
theorem dd_M_audit_57 : decode cc_M_audit 57 = .ok (.lcmp, 1) := by decide +kernel
theorem dd_M_audit_58 : decode cc_M_audit 58 = .ok (.ifCond .eq (10), 3) := by decide +kernel
theorem dd_M_audit_61 : decode cc_M_audit 61 = .ok (.bipush (16), 2) := by decide +kernel
theorem dd_M_audit_63 : decode cc_M_audit 63 = .ok (.iload_n 1, 1) := by decide +kernel
theorem dd_M_audit_64 : decode cc_M_audit 64 = .ok (.imul, 1) := by decide +kernel
theorem dd_M_audit_65 : decode cc_M_audit 65 = .ok (.iconst 1, 1) := by decide +kernel
theorem dd_M_audit_66 : decode cc_M_audit 66 = .ok (.iadd, 1) := by decide +kernel
theorem dd_M_audit_67 : decode cc_M_audit 67 = .ok (.ireturn, 1) := by decide +kernel
theorem dd_M_audit_68 : decode cc_M_audit 68 = .ok (.iinc 1 (1), 3) := by decide +kernel
theorem dd_M_audit_71 : decode cc_M_audit 71 = .ok (.goto (-49), 3) := by decide +kernel
theorem dd_M_audit_74 : decode cc_M_audit 74 = .ok (.iconst 0, 1) := by decide +kernel
theorem dd_M_audit_75 : decode cc_M_audit 75 = .ok (.istore_n 1, 1) := by decide +kernel
theorem dd_M_audit_76 : decode cc_M_audit 76 = .ok (.iload_n 1, 1) := by decide +kernel
theorem dd_M_audit_77 : decode cc_M_audit 77 = .ok (.aload_n 0, 1) := by decide +kernel
theorem dd_M_audit_78 : decode cc_M_audit 78 = .ok (.getfield 105, 3) := by decide +kernel
theorem dd_M_audit_81 : decode cc_M_audit 81 = .ok (.if_icmp .ge (24), 3) := by decide +kernel
theorem dd_M_audit_84 : decode cc_M_audit 84 = .ok (.aload_n 0, 1) := by decide +kernel
theorem dd_M_audit_85 : decode cc_M_audit 85 = .ok (.iload_n 1, 1) := by decide +kernel
theorem dd_M_audit_86 : decode cc_M_audit 86 = .ok (.invokevirtual 203, 3) := by decide +kernel
theorem dd_M_audit_89 : decode cc_M_audit 89 = .ok (.ifCond .ne (10), 3) := by decide +kernel
theorem dd_M_audit_92 : decode cc_M_audit 92 = .ok (.bipush (16), 2) := by decide +kernel
theorem dd_M_audit_94 : decode cc_M_audit 94 = .ok (.iload_n 1, 1) := by decide +kernel
theorem dd_M_audit_95 : decode cc_M_audit 95 = .ok (.imul, 1) := by decide +kernel
theorem dd_M_audit_96 : decode cc_M_audit 96 = .ok (.iconst 2, 1) := by decide +kernel
theorem dd_M_audit_97 : decode cc_M_audit 97 = .ok (.iadd, 1) := by decide +kernel
theorem dd_M_audit_98 : decode cc_M_audit 98 = .ok (.ireturn, 1) := by decide +kernel
theorem dd_M_audit_99 : decode cc_M_audit 99 = .ok (.iinc 1 (1), 3) := by decide +kernel
theorem dd_M_audit_102 : decode cc_M_audit 102 = .ok (.goto (-26), 3) := by decide +kernel
theorem dd_M_audit_105 : decode cc_M_audit 105 = .ok (.iconst 0, 1) := by decide +kernel
theorem dd_M_audit_106 : decode cc_M_audit 106 = .ok (.istore_n 1, 1) := by decide +kernel
theorem dd_M_audit_107 : decode cc_M_audit 107 = .ok (.iload_n 1, 1) := by decide +kernel
theorem dd_M_audit_108 : decode cc_M_audit 108 = .ok (.aload_n 0, 1) := by decide +kernel
theorem dd_M_audit_109 : decode cc_M_audit 109 = .ok (.getfield 105, 3) := by decide +kernel
theorem dd_M_audit_112 : decode cc_M_audit 112 = .ok (.if_icmp .ge (24), 3) := by decide +kernel
theorem dd_M_audit_115 : decode cc_M_audit 115 = .ok (.aload_n 0, 1) := by decide +kernel
theorem dd_M_audit_116 : decode cc_M_audit 116 = .ok (.iload_n 1, 1) := by decide +kernel
theorem dd_M_audit_117 : decode cc_M_audit 117 = .ok (.invokevirtual 206, 3) := by decide +kernel
theorem dd_M_audit_120 : decode cc_M_audit 120 = .ok (.ifCond .ne (10), 3) := by decide +kernel
theorem dd_M_audit_123 : decode cc_M_audit 123 = .ok (.bipush (16), 2) := by decide +kernel
theorem dd_M_audit_125 : decode cc_M_audit 125 = .ok (.iload_n 1, 1) := by decide +kernel
theorem dd_M_audit_126 : decode cc_M_audit 126 = .ok (.imul, 1) := by decide +kernel
theorem dd_M_audit_127 : decode cc_M_audit 127 = .ok (.iconst 3, 1) := by decide +kernel
theorem dd_M_audit_128 : decode cc_M_audit 128 = .ok (.iadd, 1) := by decide +kernel
theorem dd_M_audit_129 : decode cc_M_audit 129 = .ok (.ireturn, 1) := by decide +kernel
theorem dd_M_audit_130 : decode cc_M_audit 130 = .ok (.iinc 1 (1), 3) := by decide +kernel
theorem dd_M_audit_133 : decode cc_M_audit 133 = .ok (.goto (-26), 3) := by decide +kernel
theorem dd_M_audit_136 : decode cc_M_audit 136 = .ok (.iconst 0, 1) := by decide +kernel
theorem dd_M_audit_137 : decode cc_M_audit 137 = .ok (.istore_n 1, 1) := by decide +kernel
theorem dd_M_audit_138 : decode cc_M_audit 138 = .ok (.iload_n 1, 1) := by decide +kernel
theorem dd_M_audit_139 : decode cc_M_audit 139 = .ok (.bipush (52), 2) := by decide +kernel
theorem dd_M_audit_141 : decode cc_M_audit 141 = .ok (.if_icmp .ge (58), 3) := by decide +kernel
theorem dd_M_audit_144 : decode cc_M_audit 144 = .ok (.iconst 0, 1) := by decide +kernel
theorem dd_M_audit_145 : decode cc_M_audit 145 = .ok (.istore_n 2, 1) := by decide +kernel
theorem dd_M_audit_146 : decode cc_M_audit 146 = .ok (.iload_n 2, 1) := by decide +kernel
theorem dd_M_audit_147 : decode cc_M_audit 147 = .ok (.aload_n 0, 1) := by decide +kernel
theorem dd_M_audit_148 : decode cc_M_audit 148 = .ok (.getfield 105, 3) := by decide +kernel
theorem dd_M_audit_151 : decode cc_M_audit 151 = .ok (.if_icmp .ge (42), 3) := by decide +kernel
theorem dd_M_audit_154 : decode cc_M_audit 154 = .ok (.aload_n 0, 1) := by decide +kernel
theorem dd_M_audit_155 : decode cc_M_audit 155 = .ok (.getfield 66, 3) := by decide +kernel
theorem dd_M_audit_158 : decode cc_M_audit 158 = .ok (.bipush (52), 2) := by decide +kernel
theorem dd_M_audit_160 : decode cc_M_audit 160 = .ok (.iload_n 2, 1) := by decide +kernel
theorem dd_M_audit_161 : decode cc_M_audit 161 = .ok (.imul, 1) := by decide +kernel
theorem dd_M_audit_162 : decode cc_M_audit 162 = .ok (.iload_n 1, 1) := by decide +kernel
theorem dd_M_audit_163 : decode cc_M_audit 163 = .ok (.iadd, 1) := by decide +kernel
theorem dd_M_audit_164 : decode cc_M_audit 164 = .ok (.iaload, 1) := by decide +kernel
theorem dd_M_audit_165 : decode cc_M_audit 165 = .ok (.istore_n 3, 1) := by decide +kernel
theorem dd_M_audit_166 : decode cc_M_audit 166 = .ok (.iload_n 3, 1) := by decide +kernel
theorem dd_M_audit_167 : decode cc_M_audit 167 = .ok (.ifCond .eq (20), 3) := by decide +kernel
theorem dd_M_audit_170 : decode cc_M_audit 170 = .ok (.iload_n 3, 1) := by decide +kernel
theorem dd_M_audit_171 : decode cc_M_audit 171 = .ok (.aload_n 0, 1) := by decide +kernel
theorem dd_M_audit_172 : decode cc_M_audit 172 = .ok (.iload_n 2, 1) := by decide +kernel
theorem dd_M_audit_173 : decode cc_M_audit 173 = .ok (.iload_n 1, 1) := by decide +kernel
theorem dd_M_audit_174 : decode cc_M_audit 174 = .ok (.invokevirtual 173, 3) := by decide +kernel
theorem dd_M_audit_177 : decode cc_M_audit 177 = .ok (.if_icmp .eq (10), 3) := by decide +kernel
theorem dd_M_audit_180 : decode cc_M_audit 180 = .ok (.bipush (16), 2) := by decide +kernel
theorem dd_M_audit_182 : decode cc_M_audit 182 = .ok (.iload_n 2, 1) := by decide +kernel
theorem dd_M_audit_183 : decode cc_M_audit 183 = .ok (.imul, 1) := by decide +kernel
theorem dd_M_audit_184 : decode cc_M_audit 184 = .ok (.iconst 4, 1) := by decide +kernel
theorem dd_M_audit_185 : decode cc_M_audit 185 = .ok (.iadd, 1) := by decide +kernel
theorem dd_M_audit_186 : decode cc_M_audit 186 = .ok (.ireturn, 1) := by decide +kernel
theorem dd_M_audit_187 : decode cc_M_audit 187 = .ok (.iinc 2 (1), 3) := by decide +kernel
theorem dd_M_audit_190 : decode cc_M_audit 190 = .ok (.goto (-44), 3) := by decide +kernel
theorem dd_M_audit_193 : decode cc_M_audit 193 = .ok (.iinc 1 (1), 3) := by decide +kernel
theorem dd_M_audit_196 : decode cc_M_audit 196 = .ok (.goto (-58), 3) := by decide +kernel
theorem dd_M_audit_199 : decode cc_M_audit 199 = .ok (.iconst 0, 1) := by decide +kernel
theorem dd_M_audit_200 : decode cc_M_audit 200 = .ok (.ireturn, 1) := by decide +kernel
theorem dd_M_cheat_0 : decode cc_M_cheat 0 = .ok (.aload_n 0, 1) := by decide +kernel
theorem dd_M_cheat_1 : decode cc_M_cheat 1 = .ok (.iconst 0, 1) := by decide +kernel
theorem dd_M_cheat_2 : decode cc_M_cheat 2 = .ok (.putfield 85, 3) := by decide +kernel
theorem dd_M_cheat_5 : decode cc_M_cheat 5 = .ok (.aload_n 0, 1) := by decide +kernel
theorem dd_M_cheat_6 : decode cc_M_cheat 6 = .ok (.iload_n 1, 1) := by decide +kernel
theorem dd_M_cheat_7 : decode cc_M_cheat 7 = .ok (.invokevirtual 139, 3) := by decide +kernel
theorem dd_M_cheat_10 : decode cc_M_cheat 10 = .ok (.ifCond .eq (35), 3) := by decide +kernel
theorem dd_M_cheat_13 : decode cc_M_cheat 13 = .ok (.iload_n 2, 1) := by decide +kernel
theorem dd_M_cheat_14 : decode cc_M_cheat 14 = .ok (.ifCond .lt (31), 3) := by decide +kernel
theorem dd_M_cheat_17 : decode cc_M_cheat 17 = .ok (.iload_n 2, 1) := by decide +kernel
theorem dd_M_cheat_18 : decode cc_M_cheat 18 = .ok (.iconst 4, 1) := by decide +kernel
theorem dd_M_cheat_19 : decode cc_M_cheat 19 = .ok (.if_icmp .gt (26), 3) := by decide +kernel
theorem dd_M_cheat_22 : decode cc_M_cheat 22 = .ok (.iload_n 3, 1) := by decide +kernel
theorem dd_M_cheat_23 : decode cc_M_cheat 23 = .ok (.invokestatic 170, 3) := by decide +kernel
theorem dd_M_cheat_26 : decode cc_M_cheat 26 = .ok (.ifCond .eq (19), 3) := by decide +kernel
theorem dd_M_cheat_29 : decode cc_M_cheat 29 = .ok (.aload_n 0, 1) := by decide +kernel
theorem dd_M_cheat_30 : decode cc_M_cheat 30 = .ok (.getfield 108, 3) := by decide +kernel
theorem dd_M_cheat_33 : decode cc_M_cheat 33 = .ok (.iconst 1, 1) := by decide +kernel
theorem dd_M_cheat_34 : decode cc_M_cheat 34 = .ok (.if_icmp .lt (11), 3) := by decide +kernel
theorem dd_M_cheat_37 : decode cc_M_cheat 37 = .ok (.aload_n 0, 1) := by decide +kernel
theorem dd_M_cheat_38 : decode cc_M_cheat 38 = .ok (.getfield 108, 3) := by decide +kernel
theorem dd_M_cheat_41 : decode cc_M_cheat 41 = .ok (.iconst 5, 1) := by decide +kernel
theorem dd_M_cheat_42 : decode cc_M_cheat 42 = .ok (.if_icmp .le (5), 3) := by decide +kernel
theorem dd_M_cheat_45 : decode cc_M_cheat 45 = .ok (.iconst 0, 1) := by decide +kernel
theorem dd_M_cheat_46 : decode cc_M_cheat 46 = .ok (.ireturn, 1) := by decide +kernel
theorem dd_M_cheat_47 : decode cc_M_cheat 47 = .ok (.lconst 1, 1) := by decide +kernel
theorem dd_M_cheat_48 : decode cc_M_cheat 48 = .ok (.iload_n 3, 1) := by decide +kernel
theorem dd_M_cheat_49 : decode cc_M_cheat 49 = .ok (.lshl, 1) := by decide +kernel
theorem dd_M_cheat_50 : decode cc_M_cheat 50 = .ok (.lstore 4, 2) := by decide +kernel
theorem dd_M_cheat_52 : decode cc_M_cheat 52 = .ok (.iload_n 2, 1) := by decide +kernel
theorem dd_M_cheat_53 : decode cc_M_cheat 53 = .ok (.ifCond .ne (14), 3) := by decide +kernel
theorem dd_M_cheat_56 : decode cc_M_cheat 56 = .ok (.aload_n 0, 1) := by decide +kernel
theorem dd_M_cheat_57 : decode cc_M_cheat 57 = .ok (.getfield 39, 3) := by decide +kernel
theorem dd_M_cheat_60 : decode cc_M_cheat 60 = .ok (.iload_n 1, 1) := by decide +kernel
theorem dd_M_cheat_61 : decode cc_M_cheat 61 = .ok (.dup2, 1) := by decide +kernel
theorem dd_M_cheat_62 : decode cc_M_cheat 62 = .ok (.laload, 1) := by decide +kernel
theorem dd_M_cheat_63 : decode cc_M_cheat 63 = .ok (.lload 4, 2) := by decide +kernel
theorem dd_M_cheat_65 : decode cc_M_cheat 65 = .ok (.lor, 1) := by decide +kernel
theorem dd_M_cheat_66 : decode cc_M_cheat 66 = .ok (.lastore, 1) := by decide +kernel
theorem dd_M_cheat_67 : decode cc_M_cheat 67 = .ok (.iload_n 2, 1) := by decide +kernel
theorem dd_M_cheat_68 : decode cc_M_cheat 68 = .ok (.iconst 1, 1) := by decide +kernel
theorem dd_M_cheat_69 : decode cc_M_cheat 69 = .ok (.if_icmp .ne (14), 3) := by decide +kernel
theorem dd_M_cheat_72 : decode cc_M_cheat 72 = .ok (.aload_n 0, 1) := by decide +kernel
theorem dd_M_cheat_73 : decode cc_M_cheat 73 = .ok (.getfield 42, 3) := by decide +kernel
theorem dd_M_cheat_76 : decode cc_M_cheat 76 = .ok (.iload_n 1, 1) := by decide +kernel
theorem dd_M_cheat_77 : decode cc_M_cheat 77 = .ok (.dup2, 1) := by decide +kernel
theorem dd_M_cheat_78 : decode cc_M_cheat 78 = .ok (.laload, 1) := by decide +kernel
theorem dd_M_cheat_79 : decode cc_M_cheat 79 = .ok (.lload 4, 2) := by decide +kernel
theorem dd_M_cheat_81 : decode cc_M_cheat 81 = .ok (.lor, 1) := by decide +kernel
theorem dd_M_cheat_82 : decode cc_M_cheat 82 = .ok (.lastore, 1) := by decide +kernel
theorem dd_M_cheat_83 : decode cc_M_cheat 83 = .ok (.iload_n 2, 1) := by decide +kernel
theorem dd_M_cheat_84 : decode cc_M_cheat 84 = .ok (.iconst 2, 1) := by decide +kernel
theorem dd_M_cheat_85 : decode cc_M_cheat 85 = .ok (.if_icmp .ne (14), 3) := by decide +kernel
theorem dd_M_cheat_88 : decode cc_M_cheat 88 = .ok (.aload_n 0, 1) := by decide +kernel
theorem dd_M_cheat_89 : decode cc_M_cheat 89 = .ok (.getfield 45, 3) := by decide +kernel
theorem dd_M_cheat_92 : decode cc_M_cheat 92 = .ok (.iload_n 1, 1) := by decide +kernel
theorem dd_M_cheat_93 : decode cc_M_cheat 93 = .ok (.dup2, 1) := by decide +kernel
theorem dd_M_cheat_94 : decode cc_M_cheat 94 = .ok (.laload, 1) := by decide +kernel
theorem dd_M_cheat_95 : decode cc_M_cheat 95 = .ok (.lload 4, 2) := by decide +kernel
theorem dd_M_cheat_97 : decode cc_M_cheat 97 = .ok (.lor, 1) := by decide +kernel
theorem dd_M_cheat_98 : decode cc_M_cheat 98 = .ok (.lastore, 1) := by decide +kernel
theorem dd_M_cheat_99 : decode cc_M_cheat 99 = .ok (.iload_n 2, 1) := by decide +kernel
theorem dd_M_cheat_100 : decode cc_M_cheat 100 = .ok (.iconst 3, 1) := by decide +kernel
theorem dd_M_cheat_101 : decode cc_M_cheat 101 = .ok (.if_icmp .ne (10), 3) := by decide +kernel
theorem dd_M_cheat_104 : decode cc_M_cheat 104 = .ok (.aload_n 0, 1) := by decide +kernel
theorem dd_M_cheat_105 : decode cc_M_cheat 105 = .ok (.getfield 48, 3) := by decide +kernel
theorem dd_M_cheat_108 : decode cc_M_cheat 108 = .ok (.iload_n 1, 1) := by decide +kernel
theorem dd_M_cheat_109 : decode cc_M_cheat 109 = .ok (.iconst 1, 1) := by decide +kernel
theorem dd_M_cheat_110 : decode cc_M_cheat 110 = .ok (.bastore, 1) := by decide +kernel
theorem dd_M_cheat_111 : decode cc_M_cheat 111 = .ok (.iload_n 2, 1) := by decide +kernel
theorem dd_M_cheat_112 : decode cc_M_cheat 112 = .ok (.iconst 4, 1) := by decide +kernel
theorem dd_M_cheat_113 : decode cc_M_cheat 113 = .ok (.if_icmp .ne (10), 3) := by decide +kernel
theorem dd_M_cheat_116 : decode cc_M_cheat 116 = .ok (.aload_n 0, 1) := by decide +kernel
theorem dd_M_cheat_117 : decode cc_M_cheat 117 = .ok (.getfield 51, 3) := by decide +kernel
theorem dd_M_cheat_120 : decode cc_M_cheat 120 = .ok (.iload_n 1, 1) := by decide +kernel
theorem dd_M_cheat_121 : decode cc_M_cheat 121 = .ok (.iconst 1, 1) := by decide +kernel
theorem dd_M_cheat_122 : decode cc_M_cheat 122 = .ok (.bastore, 1) := by decide +kernel
theorem dd_M_cheat_123 : decode cc_M_cheat 123 = .ok (.iconst 1, 1) := by decide +kernel
theorem dd_M_cheat_124 : decode cc_M_cheat 124 = .ok (.ireturn, 1) := by decide +kernel
theorem dd_M_state_0 : decode cc_M_state 0 = .ok (.aload_n 0, 1) := by decide +kernel
theorem dd_M_state_1 : decode cc_M_state 1 = .ok (.iconst 0, 1) := by decide +kernel
theorem dd_M_state_2 : decode cc_M_state 2 = .ok (.putfield 85, 3) := by decide +kernel
theorem dd_M_state_5 : decode cc_M_state 5 = .ok (.iconst 0, 1) := by decide +kernel
theorem dd_M_state_6 : decode cc_M_state 6 = .ok (.istore_n 2, 1) := by decide +kernel
theorem dd_M_state_7 : decode cc_M_state 7 = .ok (.iconst 0, 1) := by decide +kernel
theorem dd_M_state_8 : decode cc_M_state 8 = .ok (.istore_n 3, 1) := by decide +kernel
theorem dd_M_state_9 : decode cc_M_state 9 = .ok (.iload_n 3, 1) := by decide +kernel
theorem dd_M_state_10 : decode cc_M_state 10 = .ok (.aload_n 0, 1) := by decide +kernel
theorem dd_M_state_11 : decode cc_M_state 11 = .ok (.getfield 105, 3) := by decide +kernel
theorem dd_M_state_14 : decode cc_M_state 14 = .ok (.if_icmp .ge (18), 3) := by decide +kernel
theorem dd_M_state_17 : decode cc_M_state 17 = .ok (.iload_n 2, 1) := by decide +kernel
theorem dd_M_state_18 : decode cc_M_state 18 = .ok (.aload_n 0, 1) := by decide +kernel
theorem dd_M_state_19 : decode cc_M_state 19 = .ok (.getfield 72, 3) := by decide +kernel
theorem dd_M_state_22 : decode cc_M_state 22 = .ok (.iload_n 3, 1) := by decide +kernel
theorem dd_M_state_23 : decode cc_M_state 23 = .ok (.iaload, 1) := by decide +kernel
theorem dd_M_state_24 : decode cc_M_state 24 = .ok (.iadd, 1) := by decide +kernel
theorem dd_M_state_25 : decode cc_M_state 25 = .ok (.istore_n 2, 1) := by decide +kernel
theorem dd_M_state_26 : decode cc_M_state 26 = .ok (.iinc 3 (1), 3) := by decide +kernel
theorem dd_M_state_29 : decode cc_M_state 29 = .ok (.goto (-20), 3) := by decide +kernel
theorem dd_M_state_32 : decode cc_M_state 32 = .ok (.iload_n 1, 1) := by decide +kernel
theorem dd_M_state_33 : decode cc_M_state 33 = .ok (.tableswitch (96) (0) (4) #[35, 40, 45, 78, 80], 35) := by decide +kernel
theorem dd_M_state_68 : decode cc_M_state 68 = .ok (.aload_n 0, 1) := by decide +kernel
theorem dd_M_state_69 : decode cc_M_state 69 = .ok (.getfield 108, 3) := by decide +kernel
theorem dd_M_state_72 : decode cc_M_state 72 = .ok (.ireturn, 1) := by decide +kernel
theorem dd_M_state_73 : decode cc_M_state 73 = .ok (.aload_n 0, 1) := by decide +kernel
theorem dd_M_state_74 : decode cc_M_state 74 = .ok (.getfield 105, 3) := by decide +kernel
theorem dd_M_state_77 : decode cc_M_state 77 = .ok (.ireturn, 1) := by decide +kernel
theorem dd_M_state_78 : decode cc_M_state 78 = .ok (.aload_n 0, 1) := by decide +kernel
theorem dd_M_state_79 : decode cc_M_state 79 = .ok (.getfield 108, 3) := by decide +kernel
theorem dd_M_state_82 : decode cc_M_state 82 = .ok (.iconst 2, 1) := by decide +kernel
theorem dd_M_state_83 : decode cc_M_state 83 = .ok (.if_icmp .eq (11), 3) := by decide +kernel
theorem dd_M_state_86 : decode cc_M_state 86 = .ok (.aload_n 0, 1) := by decide +kernel
theorem dd_M_state_87 : decode cc_M_state 87 = .ok (.getfield 108, 3) := by decide +kernel
theorem dd_M_state_90 : decode cc_M_state 90 = .ok (.iconst 3, 1) := by decide +kernel
theorem dd_M_state_91 : decode cc_M_state 91 = .ok (.if_icmp .ne (15), 3) := by decide +kernel
theorem dd_M_state_94 : decode cc_M_state 94 = .ok (.aload_n 0, 1) := by decide +kernel
theorem dd_M_state_95 : decode cc_M_state 95 = .ok (.getfield 102, 3) := by decide +kernel
theorem dd_M_state_98 : decode cc_M_state 98 = .ok (.aload_n 0, 1) := by decide +kernel
theorem dd_M_state_99 : decode cc_M_state 99 = .ok (.getfield 105, 3) := by decide +kernel
theorem dd_M_state_102 : decode cc_M_state 102 = .ok (.irem, 1) := by decide +kernel
theorem dd_M_state_103 : decode cc_M_state 103 = .ok (.goto (7), 3) := by decide +kernel
theorem dd_M_state_106 : decode cc_M_state 106 = .ok (.aload_n 0, 1) := by decide +kernel
theorem dd_M_state_107 : decode cc_M_state 107 = .ok (.getfield 81, 3) := by decide +kernel
theorem dd_M_state_110 : decode cc_M_state 110 = .ok (.ireturn, 1) := by decide +kernel
theorem dd_M_state_111 : decode cc_M_state 111 = .ok (.iload_n 2, 1) := by decide +kernel
theorem dd_M_state_112 : decode cc_M_state 112 = .ok (.ireturn, 1) := by decide +kernel
theorem dd_M_state_113 : decode cc_M_state 113 = .ok (.aload_n 0, 1) := by decide +kernel
theorem dd_M_state_114 : decode cc_M_state 114 = .ok (.getfield 111, 3) := by decide +kernel
theorem dd_M_state_117 : decode cc_M_state 117 = .ok (.ifCond .eq (10), 3) := by decide +kernel
theorem dd_M_state_120 : decode cc_M_state 120 = .ok (.aload_n 0, 1) := by decide +kernel
theorem dd_M_state_121 : decode cc_M_state 121 = .ok (.invokevirtual 193, 3) := by decide +kernel
theorem dd_M_state_124 : decode cc_M_state 124 = .ok (.goto (4), 3) := by decide +kernel
theorem dd_M_state_127 : decode cc_M_state 127 = .ok (.iconst 0, 1) := by decide +kernel
theorem dd_M_state_128 : decode cc_M_state 128 = .ok (.ireturn, 1) := by decide +kernel
theorem dd_M_state_129 : decode cc_M_state 129 = .ok (.iconst (-1), 1) := by decide +kernel
theorem dd_M_state_130 : decode cc_M_state 130 = .ok (.ireturn, 1) := by decide +kernel
theorem dd_M_player_0 : decode cc_M_player 0 = .ok (.aload_n 0, 1) := by decide +kernel
theorem dd_M_player_1 : decode cc_M_player 1 = .ok (.iconst 0, 1) := by decide +kernel
theorem dd_M_player_2 : decode cc_M_player 2 = .ok (.putfield 85, 3) := by decide +kernel
theorem dd_M_player_5 : decode cc_M_player 5 = .ok (.aload_n 0, 1) := by decide +kernel
theorem dd_M_player_6 : decode cc_M_player 6 = .ok (.iload_n 1, 1) := by decide +kernel
theorem dd_M_player_7 : decode cc_M_player 7 = .ok (.invokevirtual 139, 3) := by decide +kernel
theorem dd_M_player_10 : decode cc_M_player 10 = .ok (.ifCond .ne (5), 3) := by decide +kernel
theorem dd_M_player_13 : decode cc_M_player 13 = .ok (.iconst (-1), 1) := by decide +kernel
theorem dd_M_player_14 : decode cc_M_player 14 = .ok (.ireturn, 1) := by decide +kernel
theorem dd_M_player_15 : decode cc_M_player 15 = .ok (.iconst 0, 1) := by decide +kernel
theorem dd_M_player_16 : decode cc_M_player 16 = .ok (.istore_n 3, 1) := by decide +kernel
theorem dd_M_player_17 : decode cc_M_player 17 = .ok (.iconst 0, 1) := by decide +kernel
theorem dd_M_player_18 : decode cc_M_player 18 = .ok (.istore 4, 2) := by decide +kernel
theorem dd_M_player_20 : decode cc_M_player 20 = .ok (.iload 4, 2) := by decide +kernel
theorem dd_M_player_22 : decode cc_M_player 22 = .ok (.bipush (52), 2) := by decide +kernel
theorem dd_M_player_24 : decode cc_M_player 24 = .ok (.if_icmp .ge (32), 3) := by decide +kernel
theorem dd_M_player_27 : decode cc_M_player 27 = .ok (.iload_n 3, 1) := by decide +kernel
theorem dd_M_player_28 : decode cc_M_player 28 = .ok (.aload_n 0, 1) := by decide +kernel
theorem dd_M_player_29 : decode cc_M_player 29 = .ok (.getfield 66, 3) := by decide +kernel
theorem dd_M_player_32 : decode cc_M_player 32 = .ok (.bipush (52), 2) := by decide +kernel
theorem dd_M_player_34 : decode cc_M_player 34 = .ok (.iload_n 1, 1) := by decide +kernel
theorem dd_M_player_35 : decode cc_M_player 35 = .ok (.imul, 1) := by decide +kernel
theorem dd_M_player_36 : decode cc_M_player 36 = .ok (.iload 4, 2) := by decide +kernel
theorem dd_M_player_38 : decode cc_M_player 38 = .ok (.iadd, 1) := by decide +kernel
theorem dd_M_player_39 : decode cc_M_player 39 = .ok (.iaload, 1) := by decide +kernel
theorem dd_M_player_40 : decode cc_M_player 40 = .ok (.ifCond .eq (7), 3) := by decide +kernel
theorem dd_M_player_43 : decode cc_M_player 43 = .ok (.iconst 1, 1) := by decide +kernel
theorem dd_M_player_44 : decode cc_M_player 44 = .ok (.goto (4), 3) := by decide +kernel
theorem dd_M_player_47 : decode cc_M_player 47 = .ok (.iconst 0, 1) := by decide +kernel
theorem dd_M_player_48 : decode cc_M_player 48 = .ok (.iadd, 1) := by decide +kernel
theorem dd_M_player_49 : decode cc_M_player 49 = .ok (.istore_n 3, 1) := by decide +kernel
theorem dd_M_player_50 : decode cc_M_player 50 = .ok (.iinc 4 (1), 3) := by decide +kernel
theorem dd_M_player_53 : decode cc_M_player 53 = .ok (.goto (-33), 3) := by decide +kernel
theorem dd_M_player_56 : decode cc_M_player 56 = .ok (.iload_n 2, 1) := by decide +kernel
theorem dd_M_player_57 : decode cc_M_player 57 = .ok (.tableswitch (92) (0) (4) #[35, 42, 49, 67, 90], 35) := by decide +kernel
theorem dd_M_player_92 : decode cc_M_player 92 = .ok (.aload_n 0, 1) := by decide +kernel
theorem dd_M_player_93 : decode cc_M_player 93 = .ok (.getfield 7, 3) := by decide +kernel
theorem dd_M_player_96 : decode cc_M_player 96 = .ok (.iload_n 1, 1) := by decide +kernel
theorem dd_M_player_97 : decode cc_M_player 97 = .ok (.iaload, 1) := by decide +kernel
theorem dd_M_player_98 : decode cc_M_player 98 = .ok (.ireturn, 1) := by decide +kernel
theorem dd_M_player_99 : decode cc_M_player 99 = .ok (.aload_n 0, 1) := by decide +kernel
theorem dd_M_player_100 : decode cc_M_player 100 = .ok (.getfield 72, 3) := by decide +kernel
theorem dd_M_player_103 : decode cc_M_player 103 = .ok (.iload_n 1, 1) := by decide +kernel
theorem dd_M_player_104 : decode cc_M_player 104 = .ok (.iaload, 1) := by decide +kernel
theorem dd_M_player_105 : decode cc_M_player 105 = .ok (.ireturn, 1) := by decide +kernel
theorem dd_M_player_106 : decode cc_M_player 106 = .ok (.aload_n 0, 1) := by decide +kernel
theorem dd_M_player_107 : decode cc_M_player 107 = .ok (.getfield 111, 3) := by decide +kernel
theorem dd_M_player_110 : decode cc_M_player 110 = .ok (.ifCond .eq (12), 3) := by decide +kernel
theorem dd_M_player_113 : decode cc_M_player 113 = .ok (.aload_n 0, 1) := by decide +kernel
theorem dd_M_player_114 : decode cc_M_player 114 = .ok (.getfield 75, 3) := by decide +kernel
theorem dd_M_player_117 : decode cc_M_player 117 = .ok (.iload_n 1, 1) := by decide +kernel
theorem dd_M_player_118 : decode cc_M_player 118 = .ok (.iaload, 1) := by decide +kernel
theorem dd_M_player_119 : decode cc_M_player 119 = .ok (.goto (4), 3) := by decide +kernel
theorem dd_M_player_122 : decode cc_M_player 122 = .ok (.iconst 0, 1) := by decide +kernel
theorem dd_M_player_123 : decode cc_M_player 123 = .ok (.ireturn, 1) := by decide +kernel
theorem dd_M_player_124 : decode cc_M_player 124 = .ok (.aload_n 0, 1) := by decide +kernel
theorem dd_M_player_125 : decode cc_M_player 125 = .ok (.getfield 108, 3) := by decide +kernel
theorem dd_M_player_128 : decode cc_M_player 128 = .ok (.iconst 3, 1) := by decide +kernel
theorem dd_M_player_129 : decode cc_M_player 129 = .ok (.if_icmp .le (16), 3) := by decide +kernel
theorem dd_M_player_132 : decode cc_M_player 132 = .ok (.aload_n 0, 1) := by decide +kernel
theorem dd_M_player_133 : decode cc_M_player 133 = .ok (.getfield 69, 3) := by decide +kernel
theorem dd_M_player_136 : decode cc_M_player 136 = .ok (.iload_n 1, 1) := by decide +kernel
theorem dd_M_player_137 : decode cc_M_player 137 = .ok (.baload, 1) := by decide +kernel
theorem dd_M_player_138 : decode cc_M_player 138 = .ok (.ifCond .eq (7), 3) := by decide +kernel
theorem dd_M_player_141 : decode cc_M_player 141 = .ok (.iconst 1, 1) := by decide +kernel
theorem dd_M_player_142 : decode cc_M_player 142 = .ok (.goto (4), 3) := by decide +kernel
theorem dd_M_player_145 : decode cc_M_player 145 = .ok (.iconst 0, 1) := by decide +kernel
theorem dd_M_player_146 : decode cc_M_player 146 = .ok (.ireturn, 1) := by decide +kernel
theorem dd_M_player_147 : decode cc_M_player 147 = .ok (.iload_n 3, 1) := by decide +kernel
theorem dd_M_player_148 : decode cc_M_player 148 = .ok (.ireturn, 1) := by decide +kernel
theorem dd_M_player_149 : decode cc_M_player 149 = .ok (.iconst (-1), 1) := by decide +kernel
theorem dd_M_player_150 : decode cc_M_player 150 = .ok (.ireturn, 1) := by decide +kernel
end
section
/-! decode rows, laid by program -/
theorem dd_D_init_0 : decode cc_D_init 0 = .ok (.aload_n 0, 1) := by decide +kernel
theorem dd_D_init_1 : decode cc_D_init 1 = .ok (.invokespecial 3, 3) := by decide +kernel
theorem dd_D_init_4 : decode cc_D_init 4 = .ok (.aload_n 0, 1) := by decide +kernel
theorem dd_D_init_5 : decode cc_D_init 5 = .ok (.lload_n 1, 1) := by decide +kernel
theorem dd_D_init_6 : decode cc_D_init 6 = .ok (.putfield 9, 3) := by decide +kernel
theorem dd_D_init_9 : decode cc_D_init 9 = .ok (.return_, 1) := by decide +kernel
theorem dd_D_fillOrder_0 : decode cc_D_fillOrder 0 = .ok (.new 10, 3) := by decide +kernel
theorem dd_D_fillOrder_3 : decode cc_D_fillOrder 3 = .ok (.dup, 1) := by decide +kernel
theorem dd_D_fillOrder_4 : decode cc_D_fillOrder 4 = .ok (.lload_n 0, 1) := by decide +kernel
theorem dd_D_fillOrder_5 : decode cc_D_fillOrder 5 = .ok (.invokespecial 15, 3) := by decide +kernel
theorem dd_D_fillOrder_8 : decode cc_D_fillOrder 8 = .ok (.astore_n 3, 1) := by decide +kernel
theorem dd_D_fillOrder_9 : decode cc_D_fillOrder 9 = .ok (.iconst 0, 1) := by decide +kernel
theorem dd_D_fillOrder_10 : decode cc_D_fillOrder 10 = .ok (.istore 4, 2) := by decide +kernel
theorem dd_D_fillOrder_12 : decode cc_D_fillOrder 12 = .ok (.iload 4, 2) := by decide +kernel
theorem dd_D_fillOrder_14 : decode cc_D_fillOrder 14 = .ok (.bipush (52), 2) := by decide +kernel
theorem dd_D_fillOrder_16 : decode cc_D_fillOrder 16 = .ok (.if_icmp .ge (15), 3) := by decide +kernel
theorem dd_D_fillOrder_19 : decode cc_D_fillOrder 19 = .ok (.aload_n 2, 1) := by decide +kernel
theorem dd_D_fillOrder_20 : decode cc_D_fillOrder 20 = .ok (.iload 4, 2) := by decide +kernel
theorem dd_D_fillOrder_22 : decode cc_D_fillOrder 22 = .ok (.iload 4, 2) := by decide +kernel
theorem dd_D_fillOrder_24 : decode cc_D_fillOrder 24 = .ok (.iastore, 1) := by decide +kernel
theorem dd_D_fillOrder_25 : decode cc_D_fillOrder 25 = .ok (.iinc 4 (1), 3) := by decide +kernel
theorem dd_D_fillOrder_28 : decode cc_D_fillOrder 28 = .ok (.goto (-16), 3) := by decide +kernel
theorem dd_D_fillOrder_31 : decode cc_D_fillOrder 31 = .ok (.bipush (51), 2) := by decide +kernel
theorem dd_D_fillOrder_33 : decode cc_D_fillOrder 33 = .ok (.istore 4, 2) := by decide +kernel
theorem dd_D_fillOrder_35 : decode cc_D_fillOrder 35 = .ok (.iload 4, 2) := by decide +kernel
theorem dd_D_fillOrder_37 : decode cc_D_fillOrder 37 = .ok (.iconst 1, 1) := by decide +kernel
theorem dd_D_fillOrder_38 : decode cc_D_fillOrder 38 = .ok (.if_icmp .lt (40), 3) := by decide +kernel
theorem dd_D_fillOrder_41 : decode cc_D_fillOrder 41 = .ok (.aload_n 3, 1) := by decide +kernel
theorem dd_D_fillOrder_42 : decode cc_D_fillOrder 42 = .ok (.invokevirtual 18, 3) := by decide +kernel
theorem dd_D_fillOrder_45 : decode cc_D_fillOrder 45 = .ok (.iload 4, 2) := by decide +kernel
theorem dd_D_fillOrder_47 : decode cc_D_fillOrder 47 = .ok (.iconst 1, 1) := by decide +kernel
theorem dd_D_fillOrder_48 : decode cc_D_fillOrder 48 = .ok (.iadd, 1) := by decide +kernel
theorem dd_D_fillOrder_49 : decode cc_D_fillOrder 49 = .ok (.irem, 1) := by decide +kernel
theorem dd_D_fillOrder_50 : decode cc_D_fillOrder 50 = .ok (.istore 5, 2) := by decide +kernel
theorem dd_D_fillOrder_52 : decode cc_D_fillOrder 52 = .ok (.aload_n 2, 1) := by decide +kernel
theorem dd_D_fillOrder_53 : decode cc_D_fillOrder 53 = .ok (.iload 4, 2) := by decide +kernel
theorem dd_D_fillOrder_55 : decode cc_D_fillOrder 55 = .ok (.iaload, 1) := by decide +kernel
theorem dd_D_fillOrder_56 : decode cc_D_fillOrder 56 = .ok (.istore 6, 2) := by decide +kernel
theorem dd_D_fillOrder_58 : decode cc_D_fillOrder 58 = .ok (.aload_n 2, 1) := by decide +kernel
theorem dd_D_fillOrder_59 : decode cc_D_fillOrder 59 = .ok (.iload 4, 2) := by decide +kernel
theorem dd_D_fillOrder_61 : decode cc_D_fillOrder 61 = .ok (.aload_n 2, 1) := by decide +kernel
theorem dd_D_fillOrder_62 : decode cc_D_fillOrder 62 = .ok (.iload 5, 2) := by decide +kernel
theorem dd_D_fillOrder_64 : decode cc_D_fillOrder 64 = .ok (.iaload, 1) := by decide +kernel
theorem dd_D_fillOrder_65 : decode cc_D_fillOrder 65 = .ok (.iastore, 1) := by decide +kernel
theorem dd_D_fillOrder_66 : decode cc_D_fillOrder 66 = .ok (.aload_n 2, 1) := by decide +kernel
theorem dd_D_fillOrder_67 : decode cc_D_fillOrder 67 = .ok (.iload 5, 2) := by decide +kernel
theorem dd_D_fillOrder_69 : decode cc_D_fillOrder 69 = .ok (.iload 6, 2) := by decide +kernel
theorem dd_D_fillOrder_71 : decode cc_D_fillOrder 71 = .ok (.iastore, 1) := by decide +kernel
theorem dd_D_fillOrder_72 : decode cc_D_fillOrder 72 = .ok (.iinc 4 (-1), 3) := by decide +kernel
theorem dd_D_fillOrder_75 : decode cc_D_fillOrder 75 = .ok (.goto (-40), 3) := by decide +kernel
theorem dd_D_fillOrder_78 : decode cc_D_fillOrder 78 = .ok (.return_, 1) := by decide +kernel
theorem dd_D_fillLocks_0 : decode cc_D_fillLocks 0 = .ok (.new 10, 3) := by decide +kernel
theorem dd_D_fillLocks_3 : decode cc_D_fillLocks 3 = .ok (.dup, 1) := by decide +kernel
theorem dd_D_fillLocks_4 : decode cc_D_fillLocks 4 = .ok (.lload_n 0, 1) := by decide +kernel
theorem dd_D_fillLocks_5 : decode cc_D_fillLocks 5 = .ok (.invokespecial 15, 3) := by decide +kernel
theorem dd_D_fillLocks_8 : decode cc_D_fillLocks 8 = .ok (.astore 4, 2) := by decide +kernel
theorem dd_D_fillLocks_10 : decode cc_D_fillLocks 10 = .ok (.iconst 0, 1) := by decide +kernel
theorem dd_D_fillLocks_11 : decode cc_D_fillLocks 11 = .ok (.istore 5, 2) := by decide +kernel
theorem dd_D_fillLocks_13 : decode cc_D_fillLocks 13 = .ok (.iload 5, 2) := by decide +kernel
theorem dd_D_fillLocks_15 : decode cc_D_fillLocks 15 = .ok (.bipush (52), 2) := by decide +kernel
theorem dd_D_fillLocks_17 : decode cc_D_fillLocks 17 = .ok (.if_icmp .ge (19), 3) := by decide +kernel
theorem dd_D_fillLocks_20 : decode cc_D_fillLocks 20 = .ok (.aload_n 3, 1) := by decide +kernel
theorem dd_D_fillLocks_21 : decode cc_D_fillLocks 21 = .ok (.iload 5, 2) := by decide +kernel
theorem dd_D_fillLocks_23 : decode cc_D_fillLocks 23 = .ok (.aload 4, 2) := by decide +kernel
theorem dd_D_fillLocks_25 : decode cc_D_fillLocks 25 = .ok (.iload_n 2, 1) := by decide +kernel
theorem dd_D_fillLocks_26 : decode cc_D_fillLocks 26 = .ok (.invokevirtual 22, 3) := by decide +kernel
theorem dd_D_fillLocks_29 : decode cc_D_fillLocks 29 = .ok (.iastore, 1) := by decide +kernel
theorem dd_D_fillLocks_30 : decode cc_D_fillLocks 30 = .ok (.iinc 5 (1), 3) := by decide +kernel
theorem dd_D_fillLocks_33 : decode cc_D_fillLocks 33 = .ok (.goto (-20), 3) := by decide +kernel
theorem dd_D_fillLocks_36 : decode cc_D_fillLocks 36 = .ok (.return_, 1) := by decide +kernel
theorem dd_D_next_0 : decode cc_D_next 0 = .ok (.aload_n 0, 1) := by decide +kernel
theorem dd_D_next_1 : decode cc_D_next 1 = .ok (.aload_n 0, 1) := by decide +kernel
theorem dd_D_next_2 : decode cc_D_next 2 = .ok (.getfield 9, 3) := by decide +kernel
theorem dd_D_next_5 : decode cc_D_next 5 = .ok (.ldc2_w 26, 3) := by decide +kernel
theorem dd_D_next_8 : decode cc_D_next 8 = .ok (.lmul, 1) := by decide +kernel
theorem dd_D_next_9 : decode cc_D_next 9 = .ok (.ldc2_w 28, 3) := by decide +kernel
theorem dd_D_next_12 : decode cc_D_next 12 = .ok (.ladd, 1) := by decide +kernel
theorem dd_D_next_13 : decode cc_D_next 13 = .ok (.putfield 9, 3) := by decide +kernel
theorem dd_D_next_16 : decode cc_D_next 16 = .ok (.aload_n 0, 1) := by decide +kernel
theorem dd_D_next_17 : decode cc_D_next 17 = .ok (.getfield 9, 3) := by decide +kernel
theorem dd_D_next_20 : decode cc_D_next 20 = .ok (.bipush (33), 2) := by decide +kernel
theorem dd_D_next_22 : decode cc_D_next 22 = .ok (.lushr, 1) := by decide +kernel
theorem dd_D_next_23 : decode cc_D_next 23 = .ok (.l2i, 1) := by decide +kernel
theorem dd_D_next_24 : decode cc_D_next 24 = .ok (.ireturn, 1) := by decide +kernel
theorem dd_D_nextExponent_0 : decode cc_D_nextExponent 0 = .ok (.iconst 0, 1) := by decide +kernel
theorem dd_D_nextExponent_1 : decode cc_D_nextExponent 1 = .ok (.istore_n 2, 1) := by decide +kernel
theorem dd_D_nextExponent_2 : decode cc_D_nextExponent 2 = .ok (.iload_n 2, 1) := by decide +kernel
theorem dd_D_nextExponent_3 : decode cc_D_nextExponent 3 = .ok (.ldc 30, 2) := by decide +kernel
theorem dd_D_nextExponent_5 : decode cc_D_nextExponent 5 = .ok (.if_icmp .ge (35), 3) := by decide +kernel
theorem dd_D_nextExponent_8 : decode cc_D_nextExponent 8 = .ok (.iload_n 1, 1) := by decide +kernel
theorem dd_D_nextExponent_9 : decode cc_D_nextExponent 9 = .ok (.iconst 4, 1) := by decide +kernel
theorem dd_D_nextExponent_10 : decode cc_D_nextExponent 10 = .ok (.if_icmp .le (30), 3) := by decide +kernel
theorem dd_D_nextExponent_13 : decode cc_D_nextExponent 13 = .ok (.iconst 3, 1) := by decide +kernel
theorem dd_D_nextExponent_14 : decode cc_D_nextExponent 14 = .ok (.aload_n 0, 1) := by decide +kernel
theorem dd_D_nextExponent_15 : decode cc_D_nextExponent 15 = .ok (.invokevirtual 18, 3) := by decide +kernel
theorem dd_D_nextExponent_18 : decode cc_D_nextExponent 18 = .ok (.iload_n 1, 1) := by decide +kernel
theorem dd_D_nextExponent_19 : decode cc_D_nextExponent 19 = .ok (.iconst 4, 1) := by decide +kernel
theorem dd_D_nextExponent_20 : decode cc_D_nextExponent 20 = .ok (.isub, 1) := by decide +kernel
theorem dd_D_nextExponent_21 : decode cc_D_nextExponent 21 = .ok (.irem, 1) := by decide +kernel
theorem dd_D_nextExponent_22 : decode cc_D_nextExponent 22 = .ok (.iadd, 1) := by decide +kernel
theorem dd_D_nextExponent_23 : decode cc_D_nextExponent 23 = .ok (.istore_n 3, 1) := by decide +kernel
theorem dd_D_nextExponent_24 : decode cc_D_nextExponent 24 = .ok (.iload_n 3, 1) := by decide +kernel
theorem dd_D_nextExponent_25 : decode cc_D_nextExponent 25 = .ok (.iload_n 1, 1) := by decide +kernel
theorem dd_D_nextExponent_26 : decode cc_D_nextExponent 26 = .ok (.invokestatic 33, 3) := by decide +kernel
theorem dd_D_nextExponent_29 : decode cc_D_nextExponent 29 = .ok (.ifCond .eq (5), 3) := by decide +kernel
theorem dd_D_nextExponent_32 : decode cc_D_nextExponent 32 = .ok (.iload_n 3, 1) := by decide +kernel
theorem dd_D_nextExponent_33 : decode cc_D_nextExponent 33 = .ok (.ireturn, 1) := by decide +kernel
theorem dd_D_nextExponent_34 : decode cc_D_nextExponent 34 = .ok (.iinc 2 (1), 3) := by decide +kernel
theorem dd_D_nextExponent_37 : decode cc_D_nextExponent 37 = .ok (.goto (-35), 3) := by decide +kernel
theorem dd_D_nextExponent_40 : decode cc_D_nextExponent 40 = .ok (.iconst 3, 1) := by decide +kernel
theorem dd_D_nextExponent_41 : decode cc_D_nextExponent 41 = .ok (.ireturn, 1) := by decide +kernel
theorem dd_N_isTablePrime_0 : decode cc_N_isTablePrime 0 = .ok (.iload_n 0, 1) := by decide +kernel
theorem dd_N_isTablePrime_1 : decode cc_N_isTablePrime 1 = .ok (.ldc 9, 2) := by decide +kernel
theorem dd_N_isTablePrime_3 : decode cc_N_isTablePrime 3 = .ok (.if_icmp .le (25), 3) := by decide +kernel
theorem dd_N_isTablePrime_6 : decode cc_N_isTablePrime 6 = .ok (.iload_n 0, 1) := by decide +kernel
theorem dd_N_isTablePrime_7 : decode cc_N_isTablePrime 7 = .ok (.invokestatic 10, 3) := by decide +kernel
theorem dd_N_isTablePrime_10 : decode cc_N_isTablePrime 10 = .ok (.ifCond .eq (18), 3) := by decide +kernel
theorem dd_N_isTablePrime_13 : decode cc_N_isTablePrime 13 = .ok (.iload_n 0, 1) := by decide +kernel
theorem dd_N_isTablePrime_14 : decode cc_N_isTablePrime 14 = .ok (.iconst 1, 1) := by decide +kernel
theorem dd_N_isTablePrime_15 : decode cc_N_isTablePrime 15 = .ok (.isub, 1) := by decide +kernel
theorem dd_N_isTablePrime_16 : decode cc_N_isTablePrime 16 = .ok (.iconst 2, 1) := by decide +kernel
theorem dd_N_isTablePrime_17 : decode cc_N_isTablePrime 17 = .ok (.idiv, 1) := by decide +kernel
theorem dd_N_isTablePrime_18 : decode cc_N_isTablePrime 18 = .ok (.invokestatic 10, 3) := by decide +kernel
theorem dd_N_isTablePrime_21 : decode cc_N_isTablePrime 21 = .ok (.ifCond .eq (7), 3) := by decide +kernel
theorem dd_N_isTablePrime_24 : decode cc_N_isTablePrime 24 = .ok (.iconst 1, 1) := by decide +kernel
theorem dd_N_isTablePrime_25 : decode cc_N_isTablePrime 25 = .ok (.goto (4), 3) := by decide +kernel
theorem dd_N_isTablePrime_28 : decode cc_N_isTablePrime 28 = .ok (.iconst 0, 1) := by decide +kernel
theorem dd_N_isTablePrime_29 : decode cc_N_isTablePrime 29 = .ok (.ireturn, 1) := by decide +kernel
theorem dd_N_isPrime_0 : decode cc_N_isPrime 0 = .ok (.iconst 0, 1) := by decide +kernel
theorem dd_N_isPrime_1 : decode cc_N_isPrime 1 = .ok (.istore_n 1, 1) := by decide +kernel
theorem dd_N_isPrime_2 : decode cc_N_isPrime 2 = .ok (.iload_n 1, 1) := by decide +kernel
theorem dd_N_isPrime_3 : decode cc_N_isPrime 3 = .ok (.getstatic 14, 3) := by decide +kernel
theorem dd_N_isPrime_6 : decode cc_N_isPrime 6 = .ok (.arraylength, 1) := by decide +kernel
theorem dd_N_isPrime_7 : decode cc_N_isPrime 7 = .ok (.if_icmp .ge (23), 3) := by decide +kernel
theorem dd_N_isPrime_10 : decode cc_N_isPrime 10 = .ok (.iload_n 0, 1) := by decide +kernel
theorem dd_N_isPrime_11 : decode cc_N_isPrime 11 = .ok (.getstatic 14, 3) := by decide +kernel
theorem dd_N_isPrime_14 : decode cc_N_isPrime 14 = .ok (.iload_n 1, 1) := by decide +kernel
theorem dd_N_isPrime_15 : decode cc_N_isPrime 15 = .ok (.iaload, 1) := by decide +kernel
theorem dd_N_isPrime_16 : decode cc_N_isPrime 16 = .ok (.invokestatic 18, 3) := by decide +kernel
theorem dd_N_isPrime_19 : decode cc_N_isPrime 19 = .ok (.ifCond .ne (5), 3) := by decide +kernel
theorem dd_N_isPrime_22 : decode cc_N_isPrime 22 = .ok (.iconst 0, 1) := by decide +kernel
theorem dd_N_isPrime_23 : decode cc_N_isPrime 23 = .ok (.ireturn, 1) := by decide +kernel
theorem dd_N_isPrime_24 : decode cc_N_isPrime 24 = .ok (.iinc 1 (1), 3) := by decide +kernel
theorem dd_N_isPrime_27 : decode cc_N_isPrime 27 = .ok (.goto (-25), 3) := by decide +kernel
theorem dd_N_isPrime_30 : decode cc_N_isPrime 30 = .ok (.iconst 1, 1) := by decide +kernel
theorem dd_N_isPrime_31 : decode cc_N_isPrime 31 = .ok (.ireturn, 1) := by decide +kernel
theorem dd_N_looksPrime_0 : decode cc_N_looksPrime 0 = .ok (.iload_n 0, 1) := by decide +kernel
theorem dd_N_looksPrime_1 : decode cc_N_looksPrime 1 = .ok (.iconst 1, 1) := by decide +kernel
theorem dd_N_looksPrime_2 : decode cc_N_looksPrime 2 = .ok (.isub, 1) := by decide +kernel
theorem dd_N_looksPrime_3 : decode cc_N_looksPrime 3 = .ok (.istore_n 2, 1) := by decide +kernel
theorem dd_N_looksPrime_4 : decode cc_N_looksPrime 4 = .ok (.iconst 0, 1) := by decide +kernel
theorem dd_N_looksPrime_5 : decode cc_N_looksPrime 5 = .ok (.istore_n 3, 1) := by decide +kernel
theorem dd_N_looksPrime_6 : decode cc_N_looksPrime 6 = .ok (.iconst 0, 1) := by decide +kernel
theorem dd_N_looksPrime_7 : decode cc_N_looksPrime 7 = .ok (.istore 4, 2) := by decide +kernel
theorem dd_N_looksPrime_9 : decode cc_N_looksPrime 9 = .ok (.iload 4, 2) := by decide +kernel
theorem dd_N_looksPrime_11 : decode cc_N_looksPrime 11 = .ok (.bipush (31), 2) := by decide +kernel
theorem dd_N_looksPrime_13 : decode cc_N_looksPrime 13 = .ok (.if_icmp .ge (22), 3) := by decide +kernel
theorem dd_N_looksPrime_16 : decode cc_N_looksPrime 16 = .ok (.iload_n 2, 1) := by decide +kernel
theorem dd_N_looksPrime_17 : decode cc_N_looksPrime 17 = .ok (.iconst 2, 1) := by decide +kernel
theorem dd_N_looksPrime_18 : decode cc_N_looksPrime 18 = .ok (.irem, 1) := by decide +kernel
theorem dd_N_looksPrime_19 : decode cc_N_looksPrime 19 = .ok (.ifCond .ne (16), 3) := by decide +kernel
theorem dd_N_looksPrime_22 : decode cc_N_looksPrime 22 = .ok (.iload_n 2, 1) := by decide +kernel
theorem dd_N_looksPrime_23 : decode cc_N_looksPrime 23 = .ok (.iconst 2, 1) := by decide +kernel
theorem dd_N_looksPrime_24 : decode cc_N_looksPrime 24 = .ok (.idiv, 1) := by decide +kernel
theorem dd_N_looksPrime_25 : decode cc_N_looksPrime 25 = .ok (.istore_n 2, 1) := by decide +kernel
theorem dd_N_looksPrime_26 : decode cc_N_looksPrime 26 = .ok (.iinc 3 (1), 3) := by decide +kernel
theorem dd_N_looksPrime_29 : decode cc_N_looksPrime 29 = .ok (.iinc 4 (1), 3) := by decide +kernel
theorem dd_N_looksPrime_32 : decode cc_N_looksPrime 32 = .ok (.goto (-23), 3) := by decide +kernel
theorem dd_N_looksPrime_35 : decode cc_N_looksPrime 35 = .ok (.iload_n 1, 1) := by decide +kernel
theorem dd_N_looksPrime_36 : decode cc_N_looksPrime 36 = .ok (.iload_n 2, 1) := by decide +kernel
theorem dd_N_looksPrime_37 : decode cc_N_looksPrime 37 = .ok (.iload_n 0, 1) := by decide +kernel
theorem dd_N_looksPrime_38 : decode cc_N_looksPrime 38 = .ok (.invokestatic 22, 3) := by decide +kernel
theorem dd_N_looksPrime_41 : decode cc_N_looksPrime 41 = .ok (.istore 4, 2) := by decide +kernel
theorem dd_N_looksPrime_43 : decode cc_N_looksPrime 43 = .ok (.iload 4, 2) := by decide +kernel
theorem dd_N_looksPrime_45 : decode cc_N_looksPrime 45 = .ok (.iconst 1, 1) := by decide +kernel
theorem dd_N_looksPrime_46 : decode cc_N_looksPrime 46 = .ok (.if_icmp .eq (11), 3) := by decide +kernel
theorem dd_N_looksPrime_49 : decode cc_N_looksPrime 49 = .ok (.iload 4, 2) := by decide +kernel
theorem dd_N_looksPrime_51 : decode cc_N_looksPrime 51 = .ok (.iload_n 0, 1) := by decide +kernel
theorem dd_N_looksPrime_52 : decode cc_N_looksPrime 52 = .ok (.iconst 1, 1) := by decide +kernel
theorem dd_N_looksPrime_53 : decode cc_N_looksPrime 53 = .ok (.isub, 1) := by decide +kernel
theorem dd_N_looksPrime_54 : decode cc_N_looksPrime 54 = .ok (.if_icmp .ne (5), 3) := by decide +kernel
theorem dd_N_looksPrime_57 : decode cc_N_looksPrime 57 = .ok (.iconst 1, 1) := by decide +kernel
theorem dd_N_looksPrime_58 : decode cc_N_looksPrime 58 = .ok (.ireturn, 1) := by decide +kernel
theorem dd_N_looksPrime_59 : decode cc_N_looksPrime 59 = .ok (.iconst 1, 1) := by decide +kernel
theorem dd_N_looksPrime_60 : decode cc_N_looksPrime 60 = .ok (.istore 5, 2) := by decide +kernel
theorem dd_N_looksPrime_62 : decode cc_N_looksPrime 62 = .ok (.iload 5, 2) := by decide +kernel
theorem dd_N_looksPrime_64 : decode cc_N_looksPrime 64 = .ok (.iload_n 3, 1) := by decide +kernel
theorem dd_N_looksPrime_65 : decode cc_N_looksPrime 65 = .ok (.if_icmp .ge (29), 3) := by decide +kernel
theorem dd_N_looksPrime_68 : decode cc_N_looksPrime 68 = .ok (.iload 4, 2) := by decide +kernel
theorem dd_N_looksPrime_70 : decode cc_N_looksPrime 70 = .ok (.iload 4, 2) := by decide +kernel
theorem dd_N_looksPrime_72 : decode cc_N_looksPrime 72 = .ok (.iload_n 0, 1) := by decide +kernel
theorem dd_N_looksPrime_73 : decode cc_N_looksPrime 73 = .ok (.invokestatic 26, 3) := by decide +kernel
theorem dd_N_looksPrime_76 : decode cc_N_looksPrime 76 = .ok (.istore 4, 2) := by decide +kernel
theorem dd_N_looksPrime_78 : decode cc_N_looksPrime 78 = .ok (.iload 4, 2) := by decide +kernel
theorem dd_N_looksPrime_80 : decode cc_N_looksPrime 80 = .ok (.iload_n 0, 1) := by decide +kernel
theorem dd_N_looksPrime_81 : decode cc_N_looksPrime 81 = .ok (.iconst 1, 1) := by decide +kernel
theorem dd_N_looksPrime_82 : decode cc_N_looksPrime 82 = .ok (.isub, 1) := by decide +kernel
theorem dd_N_looksPrime_83 : decode cc_N_looksPrime 83 = .ok (.if_icmp .ne (5), 3) := by decide +kernel
theorem dd_N_looksPrime_86 : decode cc_N_looksPrime 86 = .ok (.iconst 1, 1) := by decide +kernel
theorem dd_N_looksPrime_87 : decode cc_N_looksPrime 87 = .ok (.ireturn, 1) := by decide +kernel
theorem dd_N_looksPrime_88 : decode cc_N_looksPrime 88 = .ok (.iinc 5 (1), 3) := by decide +kernel
theorem dd_N_looksPrime_91 : decode cc_N_looksPrime 91 = .ok (.goto (-29), 3) := by decide +kernel
theorem dd_N_looksPrime_94 : decode cc_N_looksPrime 94 = .ok (.iconst 0, 1) := by decide +kernel
theorem dd_N_looksPrime_95 : decode cc_N_looksPrime 95 = .ok (.ireturn, 1) := by decide +kernel
theorem dd_N_ofCard_0 : decode cc_N_ofCard 0 = .ok (.iload_n 0, 1) := by decide +kernel
theorem dd_N_ofCard_1 : decode cc_N_ofCard 1 = .ok (.iconst 2, 1) := by decide +kernel
theorem dd_N_ofCard_2 : decode cc_N_ofCard 2 = .ok (.iadd, 1) := by decide +kernel
theorem dd_N_ofCard_3 : decode cc_N_ofCard 3 = .ok (.iload_n 0, 1) := by decide +kernel
theorem dd_N_ofCard_4 : decode cc_N_ofCard 4 = .ok (.iconst 2, 1) := by decide +kernel
theorem dd_N_ofCard_5 : decode cc_N_ofCard 5 = .ok (.iadd, 1) := by decide +kernel
theorem dd_N_ofCard_6 : decode cc_N_ofCard 6 = .ok (.iload_n 1, 1) := by decide +kernel
theorem dd_N_ofCard_7 : decode cc_N_ofCard 7 = .ok (.invokestatic 26, 3) := by decide +kernel
theorem dd_N_ofCard_10 : decode cc_N_ofCard 10 = .ok (.ireturn, 1) := by decide +kernel
theorem dd_N_isExponent_0 : decode cc_N_isExponent 0 = .ok (.iload_n 0, 1) := by decide +kernel
theorem dd_N_isExponent_1 : decode cc_N_isExponent 1 = .ok (.iconst 3, 1) := by decide +kernel
theorem dd_N_isExponent_2 : decode cc_N_isExponent 2 = .ok (.if_icmp .lt (30), 3) := by decide +kernel
theorem dd_N_isExponent_5 : decode cc_N_isExponent 5 = .ok (.iload_n 0, 1) := by decide +kernel
theorem dd_N_isExponent_6 : decode cc_N_isExponent 6 = .ok (.iload_n 1, 1) := by decide +kernel
theorem dd_N_isExponent_7 : decode cc_N_isExponent 7 = .ok (.iconst 2, 1) := by decide +kernel
theorem dd_N_isExponent_8 : decode cc_N_isExponent 8 = .ok (.isub, 1) := by decide +kernel
theorem dd_N_isExponent_9 : decode cc_N_isExponent 9 = .ok (.if_icmp .gt (23), 3) := by decide +kernel
theorem dd_N_isExponent_12 : decode cc_N_isExponent 12 = .ok (.iload_n 0, 1) := by decide +kernel
theorem dd_N_isExponent_13 : decode cc_N_isExponent 13 = .ok (.iconst 2, 1) := by decide +kernel
theorem dd_N_isExponent_14 : decode cc_N_isExponent 14 = .ok (.irem, 1) := by decide +kernel
theorem dd_N_isExponent_15 : decode cc_N_isExponent 15 = .ok (.iconst 1, 1) := by decide +kernel
theorem dd_N_isExponent_16 : decode cc_N_isExponent 16 = .ok (.if_icmp .ne (16), 3) := by decide +kernel
theorem dd_N_isExponent_19 : decode cc_N_isExponent 19 = .ok (.iload_n 0, 1) := by decide +kernel
theorem dd_N_isExponent_20 : decode cc_N_isExponent 20 = .ok (.iload_n 1, 1) := by decide +kernel
theorem dd_N_isExponent_21 : decode cc_N_isExponent 21 = .ok (.iconst 1, 1) := by decide +kernel
theorem dd_N_isExponent_22 : decode cc_N_isExponent 22 = .ok (.isub, 1) := by decide +kernel
theorem dd_N_isExponent_23 : decode cc_N_isExponent 23 = .ok (.iconst 2, 1) := by decide +kernel
theorem dd_N_isExponent_24 : decode cc_N_isExponent 24 = .ok (.idiv, 1) := by decide +kernel
theorem dd_N_isExponent_25 : decode cc_N_isExponent 25 = .ok (.if_icmp .eq (7), 3) := by decide +kernel
theorem dd_N_isExponent_28 : decode cc_N_isExponent 28 = .ok (.iconst 1, 1) := by decide +kernel
theorem dd_N_isExponent_29 : decode cc_N_isExponent 29 = .ok (.goto (4), 3) := by decide +kernel
theorem dd_N_isExponent_32 : decode cc_N_isExponent 32 = .ok (.iconst 0, 1) := by decide +kernel
theorem dd_N_isExponent_33 : decode cc_N_isExponent 33 = .ok (.ireturn, 1) := by decide +kernel
theorem dd_N_exponentAbove_0 : decode cc_N_exponentAbove 0 = .ok (.iload_n 0, 1) := by decide +kernel
theorem dd_N_exponentAbove_1 : decode cc_N_exponentAbove 1 = .ok (.iconst 1, 1) := by decide +kernel
theorem dd_N_exponentAbove_2 : decode cc_N_exponentAbove 2 = .ok (.iadd, 1) := by decide +kernel
theorem dd_N_exponentAbove_3 : decode cc_N_exponentAbove 3 = .ok (.istore_n 2, 1) := by decide +kernel
theorem dd_N_exponentAbove_4 : decode cc_N_exponentAbove 4 = .ok (.iload_n 2, 1) := by decide +kernel
theorem dd_N_exponentAbove_5 : decode cc_N_exponentAbove 5 = .ok (.iload_n 1, 1) := by decide +kernel
theorem dd_N_exponentAbove_6 : decode cc_N_exponentAbove 6 = .ok (.iconst 2, 1) := by decide +kernel
theorem dd_N_exponentAbove_7 : decode cc_N_exponentAbove 7 = .ok (.isub, 1) := by decide +kernel
theorem dd_N_exponentAbove_8 : decode cc_N_exponentAbove 8 = .ok (.if_icmp .gt (19), 3) := by decide +kernel
theorem dd_N_exponentAbove_11 : decode cc_N_exponentAbove 11 = .ok (.iload_n 2, 1) := by decide +kernel
theorem dd_N_exponentAbove_12 : decode cc_N_exponentAbove 12 = .ok (.iload_n 1, 1) := by decide +kernel
theorem dd_N_exponentAbove_13 : decode cc_N_exponentAbove 13 = .ok (.invokestatic 29, 3) := by decide +kernel
theorem dd_N_exponentAbove_16 : decode cc_N_exponentAbove 16 = .ok (.ifCond .eq (5), 3) := by decide +kernel
theorem dd_N_exponentAbove_19 : decode cc_N_exponentAbove 19 = .ok (.iload_n 2, 1) := by decide +kernel
theorem dd_N_exponentAbove_20 : decode cc_N_exponentAbove 20 = .ok (.ireturn, 1) := by decide +kernel
theorem dd_N_exponentAbove_21 : decode cc_N_exponentAbove 21 = .ok (.iinc 2 (1), 3) := by decide +kernel
theorem dd_N_exponentAbove_24 : decode cc_N_exponentAbove 24 = .ok (.goto (-20), 3) := by decide +kernel
theorem dd_N_exponentAbove_27 : decode cc_N_exponentAbove 27 = .ok (.iconst 3, 1) := by decide +kernel
theorem dd_N_exponentAbove_28 : decode cc_N_exponentAbove 28 = .ok (.ireturn, 1) := by decide +kernel
theorem dd_N_inverse_0 : decode cc_N_inverse 0 = .ok (.iload_n 0, 1) := by decide +kernel
theorem dd_N_inverse_1 : decode cc_N_inverse 1 = .ok (.iload_n 1, 1) := by decide +kernel
theorem dd_N_inverse_2 : decode cc_N_inverse 2 = .ok (.iconst 1, 1) := by decide +kernel
theorem dd_N_inverse_3 : decode cc_N_inverse 3 = .ok (.isub, 1) := by decide +kernel
theorem dd_N_inverse_4 : decode cc_N_inverse 4 = .ok (.iconst 2, 1) := by decide +kernel
theorem dd_N_inverse_5 : decode cc_N_inverse 5 = .ok (.idiv, 1) := by decide +kernel
theorem dd_N_inverse_6 : decode cc_N_inverse 6 = .ok (.iconst 2, 1) := by decide +kernel
theorem dd_N_inverse_7 : decode cc_N_inverse 7 = .ok (.isub, 1) := by decide +kernel
theorem dd_N_inverse_8 : decode cc_N_inverse 8 = .ok (.iload_n 1, 1) := by decide +kernel
theorem dd_N_inverse_9 : decode cc_N_inverse 9 = .ok (.iconst 1, 1) := by decide +kernel
theorem dd_N_inverse_10 : decode cc_N_inverse 10 = .ok (.isub, 1) := by decide +kernel
theorem dd_N_inverse_11 : decode cc_N_inverse 11 = .ok (.invokestatic 22, 3) := by decide +kernel
theorem dd_N_inverse_14 : decode cc_N_inverse 14 = .ok (.ireturn, 1) := by decide +kernel
theorem dd_N_times_0 : decode cc_N_times 0 = .ok (.iload_n 2, 1) := by decide +kernel
theorem dd_N_times_1 : decode cc_N_times 1 = .ok (.ifCond .le (15), 3) := by decide +kernel
theorem dd_N_times_4 : decode cc_N_times 4 = .ok (.iload_n 0, 1) := by decide +kernel
theorem dd_N_times_5 : decode cc_N_times 5 = .ok (.i2l, 1) := by decide +kernel
theorem dd_N_times_6 : decode cc_N_times 6 = .ok (.iload_n 1, 1) := by decide +kernel
theorem dd_N_times_7 : decode cc_N_times 7 = .ok (.i2l, 1) := by decide +kernel
theorem dd_N_times_8 : decode cc_N_times 8 = .ok (.lmul, 1) := by decide +kernel
theorem dd_N_times_9 : decode cc_N_times 9 = .ok (.iload_n 2, 1) := by decide +kernel
theorem dd_N_times_10 : decode cc_N_times 10 = .ok (.i2l, 1) := by decide +kernel
theorem dd_N_times_11 : decode cc_N_times 11 = .ok (.lrem, 1) := by decide +kernel
theorem dd_N_times_12 : decode cc_N_times 12 = .ok (.l2i, 1) := by decide +kernel
theorem dd_N_times_13 : decode cc_N_times 13 = .ok (.goto (4), 3) := by decide +kernel
theorem dd_N_times_16 : decode cc_N_times 16 = .ok (.iconst 0, 1) := by decide +kernel
theorem dd_N_times_17 : decode cc_N_times 17 = .ok (.ireturn, 1) := by decide +kernel
theorem dd_N_power_0 : decode cc_N_power 0 = .ok (.iconst 1, 1) := by decide +kernel
theorem dd_N_power_1 : decode cc_N_power 1 = .ok (.istore_n 3, 1) := by decide +kernel
theorem dd_N_power_2 : decode cc_N_power 2 = .ok (.iload_n 0, 1) := by decide +kernel
theorem dd_N_power_3 : decode cc_N_power 3 = .ok (.istore 4, 2) := by decide +kernel
theorem dd_N_power_5 : decode cc_N_power 5 = .ok (.iload_n 1, 1) := by decide +kernel
theorem dd_N_power_6 : decode cc_N_power 6 = .ok (.istore 5, 2) := by decide +kernel
theorem dd_N_power_8 : decode cc_N_power 8 = .ok (.iload 5, 2) := by decide +kernel
theorem dd_N_power_10 : decode cc_N_power 10 = .ok (.ifCond .le (38), 3) := by decide +kernel
theorem dd_N_power_13 : decode cc_N_power 13 = .ok (.iload 5, 2) := by decide +kernel
theorem dd_N_power_15 : decode cc_N_power 15 = .ok (.iconst 2, 1) := by decide +kernel
theorem dd_N_power_16 : decode cc_N_power 16 = .ok (.irem, 1) := by decide +kernel
theorem dd_N_power_17 : decode cc_N_power 17 = .ok (.iconst 1, 1) := by decide +kernel
theorem dd_N_power_18 : decode cc_N_power 18 = .ok (.if_icmp .ne (11), 3) := by decide +kernel
theorem dd_N_power_21 : decode cc_N_power 21 = .ok (.iload_n 3, 1) := by decide +kernel
theorem dd_N_power_22 : decode cc_N_power 22 = .ok (.iload 4, 2) := by decide +kernel
theorem dd_N_power_24 : decode cc_N_power 24 = .ok (.iload_n 2, 1) := by decide +kernel
theorem dd_N_power_25 : decode cc_N_power 25 = .ok (.invokestatic 26, 3) := by decide +kernel
theorem dd_N_power_28 : decode cc_N_power 28 = .ok (.istore_n 3, 1) := by decide +kernel
theorem dd_N_power_29 : decode cc_N_power 29 = .ok (.iload 4, 2) := by decide +kernel
theorem dd_N_power_31 : decode cc_N_power 31 = .ok (.iload 4, 2) := by decide +kernel
theorem dd_N_power_33 : decode cc_N_power 33 = .ok (.iload_n 2, 1) := by decide +kernel
theorem dd_N_power_34 : decode cc_N_power 34 = .ok (.invokestatic 26, 3) := by decide +kernel
theorem dd_N_power_37 : decode cc_N_power 37 = .ok (.istore 4, 2) := by decide +kernel
theorem dd_N_power_39 : decode cc_N_power 39 = .ok (.iload 5, 2) := by decide +kernel
theorem dd_N_power_41 : decode cc_N_power 41 = .ok (.iconst 2, 1) := by decide +kernel
theorem dd_N_power_42 : decode cc_N_power 42 = .ok (.idiv, 1) := by decide +kernel
theorem dd_N_power_43 : decode cc_N_power 43 = .ok (.istore 5, 2) := by decide +kernel
theorem dd_N_power_45 : decode cc_N_power 45 = .ok (.goto (-37), 3) := by decide +kernel
theorem dd_N_power_48 : decode cc_N_power 48 = .ok (.iload_n 3, 1) := by decide +kernel
theorem dd_N_power_49 : decode cc_N_power 49 = .ok (.ireturn, 1) := by decide +kernel
theorem dd_P_init_0 : decode cc_P_init 0 = .ok (.aload_n 0, 1) := by decide +kernel
theorem dd_P_init_1 : decode cc_P_init 1 = .ok (.invokespecial 3, 3) := by decide +kernel
theorem dd_P_init_4 : decode cc_P_init 4 = .ok (.aload_n 0, 1) := by decide +kernel
theorem dd_P_init_5 : decode cc_P_init 5 = .ok (.new 9, 3) := by decide +kernel
theorem dd_P_init_8 : decode cc_P_init 8 = .ok (.dup, 1) := by decide +kernel
theorem dd_P_init_9 : decode cc_P_init 9 = .ok (.invokespecial 11, 3) := by decide +kernel
theorem dd_P_init_12 : decode cc_P_init 12 = .ok (.putfield 12, 3) := by decide +kernel
theorem dd_P_init_15 : decode cc_P_init 15 = .ok (.aload_n 0, 1) := by decide +kernel
theorem dd_P_init_16 : decode cc_P_init 16 = .ok (.new 9, 3) := by decide +kernel
theorem dd_P_init_19 : decode cc_P_init 19 = .ok (.dup, 1) := by decide +kernel
theorem dd_P_init_20 : decode cc_P_init 20 = .ok (.invokespecial 11, 3) := by decide +kernel
theorem dd_P_init_23 : decode cc_P_init 23 = .ok (.putfield 18, 3) := by decide +kernel
theorem dd_P_init_26 : decode cc_P_init 26 = .ok (.aload_n 0, 1) := by decide +kernel
theorem dd_P_init_27 : decode cc_P_init 27 = .ok (.bipush (52), 2) := by decide +kernel
theorem dd_P_init_29 : decode cc_P_init 29 = .ok (.newarray .int, 2) := by decide +kernel
theorem dd_P_init_31 : decode cc_P_init 31 = .ok (.putfield 21, 3) := by decide +kernel
theorem dd_P_init_34 : decode cc_P_init 34 = .ok (.aload_n 0, 1) := by decide +kernel
theorem dd_P_init_35 : decode cc_P_init 35 = .ok (.bipush (52), 2) := by decide +kernel
theorem dd_P_init_37 : decode cc_P_init 37 = .ok (.newarray .int, 2) := by decide +kernel
theorem dd_P_init_39 : decode cc_P_init 39 = .ok (.putfield 25, 3) := by decide +kernel
theorem dd_P_init_42 : decode cc_P_init 42 = .ok (.aload_n 0, 1) := by decide +kernel
theorem dd_P_init_43 : decode cc_P_init 43 = .ok (.iconst 5, 1) := by decide +kernel
theorem dd_P_init_44 : decode cc_P_init 44 = .ok (.newarray .long, 2) := by decide +kernel
theorem dd_P_init_46 : decode cc_P_init 46 = .ok (.putfield 28, 3) := by decide +kernel
theorem dd_P_init_49 : decode cc_P_init 49 = .ok (.return_, 1) := by decide +kernel
theorem dd_P_beginHand_0 : decode cc_P_beginHand 0 = .ok (.aload_n 0, 1) := by decide +kernel
theorem dd_P_beginHand_1 : decode cc_P_beginHand 1 = .ok (.iconst 0, 1) := by decide +kernel
theorem dd_P_beginHand_2 : decode cc_P_beginHand 2 = .ok (.putfield 32, 3) := by decide +kernel
theorem dd_P_beginHand_5 : decode cc_P_beginHand 5 = .ok (.aload_n 0, 1) := by decide +kernel
theorem dd_P_beginHand_6 : decode cc_P_beginHand 6 = .ok (.iconst 0, 1) := by decide +kernel
theorem dd_P_beginHand_7 : decode cc_P_beginHand 7 = .ok (.putfield 36, 3) := by decide +kernel
theorem dd_P_beginHand_10 : decode cc_P_beginHand 10 = .ok (.aload_n 0, 1) := by decide +kernel
theorem dd_P_beginHand_11 : decode cc_P_beginHand 11 = .ok (.iconst 0, 1) := by decide +kernel
theorem dd_P_beginHand_12 : decode cc_P_beginHand 12 = .ok (.putfield 39, 3) := by decide +kernel
theorem dd_P_beginHand_15 : decode cc_P_beginHand 15 = .ok (.aload_n 0, 1) := by decide +kernel
theorem dd_P_beginHand_16 : decode cc_P_beginHand 16 = .ok (.iconst 0, 1) := by decide +kernel
theorem dd_P_beginHand_17 : decode cc_P_beginHand 17 = .ok (.putfield 43, 3) := by decide +kernel
theorem dd_P_beginHand_20 : decode cc_P_beginHand 20 = .ok (.aload_n 0, 1) := by decide +kernel
theorem dd_P_beginHand_21 : decode cc_P_beginHand 21 = .ok (.iconst 0, 1) := by decide +kernel
theorem dd_P_beginHand_22 : decode cc_P_beginHand 22 = .ok (.putfield 46, 3) := by decide +kernel
theorem dd_P_beginHand_25 : decode cc_P_beginHand 25 = .ok (.aload_n 0, 1) := by decide +kernel
theorem dd_P_beginHand_26 : decode cc_P_beginHand 26 = .ok (.getfield 25, 3) := by decide +kernel
theorem dd_P_beginHand_29 : decode cc_P_beginHand 29 = .ok (.iconst 0, 1) := by decide +kernel
theorem dd_P_beginHand_30 : decode cc_P_beginHand 30 = .ok (.invokestatic 49, 3) := by decide +kernel
theorem dd_P_beginHand_33 : decode cc_P_beginHand 33 = .ok (.aload_n 0, 1) := by decide +kernel
theorem dd_P_beginHand_34 : decode cc_P_beginHand 34 = .ok (.getfield 28, 3) := by decide +kernel
theorem dd_P_beginHand_37 : decode cc_P_beginHand 37 = .ok (.lconst 0, 1) := by decide +kernel
theorem dd_P_beginHand_38 : decode cc_P_beginHand 38 = .ok (.invokestatic 55, 3) := by decide +kernel
theorem dd_P_beginHand_41 : decode cc_P_beginHand 41 = .ok (.return_, 1) := by decide +kernel
theorem dd_P_canAct_0 : decode cc_P_canAct 0 = .ok (.aload_n 0, 1) := by decide +kernel
theorem dd_P_canAct_1 : decode cc_P_canAct 1 = .ok (.getfield 39, 3) := by decide +kernel
theorem dd_P_canAct_4 : decode cc_P_canAct 4 = .ok (.ifCond .ne (14), 3) := by decide +kernel
theorem dd_P_canAct_7 : decode cc_P_canAct 7 = .ok (.aload_n 0, 1) := by decide +kernel
theorem dd_P_canAct_8 : decode cc_P_canAct 8 = .ok (.getfield 58, 3) := by decide +kernel
theorem dd_P_canAct_11 : decode cc_P_canAct 11 = .ok (.ifCond .le (7), 3) := by decide +kernel
theorem dd_P_canAct_14 : decode cc_P_canAct 14 = .ok (.iconst 1, 1) := by decide +kernel
theorem dd_P_canAct_15 : decode cc_P_canAct 15 = .ok (.goto (4), 3) := by decide +kernel
theorem dd_P_canAct_18 : decode cc_P_canAct 18 = .ok (.iconst 0, 1) := by decide +kernel
theorem dd_P_canAct_19 : decode cc_P_canAct 19 = .ok (.ireturn, 1) := by decide +kernel
theorem dd_P_isInFor_0 : decode cc_P_isInFor 0 = .ok (.aload_n 0, 1) := by decide +kernel
theorem dd_P_isInFor_1 : decode cc_P_isInFor 1 = .ok (.getfield 39, 3) := by decide +kernel
theorem dd_P_isInFor_4 : decode cc_P_isInFor 4 = .ok (.ifCond .ne (14), 3) := by decide +kernel
theorem dd_P_isInFor_7 : decode cc_P_isInFor 7 = .ok (.aload_n 0, 1) := by decide +kernel
theorem dd_P_isInFor_8 : decode cc_P_isInFor 8 = .ok (.getfield 32, 3) := by decide +kernel
theorem dd_P_isInFor_11 : decode cc_P_isInFor 11 = .ok (.ifCond .le (7), 3) := by decide +kernel
theorem dd_P_isInFor_14 : decode cc_P_isInFor 14 = .ok (.iconst 1, 1) := by decide +kernel
theorem dd_P_isInFor_15 : decode cc_P_isInFor 15 = .ok (.goto (4), 3) := by decide +kernel
theorem dd_P_isInFor_18 : decode cc_P_isInFor 18 = .ok (.iconst 0, 1) := by decide +kernel
theorem dd_P_isInFor_19 : decode cc_P_isInFor 19 = .ok (.ireturn, 1) := by decide +kernel
theorem dd_P_putIn_0 : decode cc_P_putIn 0 = .ok (.aload_n 0, 1) := by decide +kernel
theorem dd_P_putIn_1 : decode cc_P_putIn 1 = .ok (.dup, 1) := by decide +kernel
theorem dd_P_putIn_2 : decode cc_P_putIn 2 = .ok (.getfield 58, 3) := by decide +kernel
theorem dd_P_putIn_5 : decode cc_P_putIn 5 = .ok (.iload_n 1, 1) := by decide +kernel
theorem dd_P_putIn_6 : decode cc_P_putIn 6 = .ok (.isub, 1) := by decide +kernel
theorem dd_P_putIn_7 : decode cc_P_putIn 7 = .ok (.putfield 58, 3) := by decide +kernel
theorem dd_P_putIn_10 : decode cc_P_putIn 10 = .ok (.aload_n 0, 1) := by decide +kernel
theorem dd_P_putIn_11 : decode cc_P_putIn 11 = .ok (.dup, 1) := by decide +kernel
theorem dd_P_putIn_12 : decode cc_P_putIn 12 = .ok (.getfield 36, 3) := by decide +kernel
theorem dd_P_putIn_15 : decode cc_P_putIn 15 = .ok (.iload_n 1, 1) := by decide +kernel
theorem dd_P_putIn_16 : decode cc_P_putIn 16 = .ok (.iadd, 1) := by decide +kernel
theorem dd_P_putIn_17 : decode cc_P_putIn 17 = .ok (.putfield 36, 3) := by decide +kernel
theorem dd_P_putIn_20 : decode cc_P_putIn 20 = .ok (.aload_n 0, 1) := by decide +kernel
theorem dd_P_putIn_21 : decode cc_P_putIn 21 = .ok (.dup, 1) := by decide +kernel
theorem dd_P_putIn_22 : decode cc_P_putIn 22 = .ok (.getfield 32, 3) := by decide +kernel
theorem dd_P_putIn_25 : decode cc_P_putIn 25 = .ok (.iload_n 1, 1) := by decide +kernel
theorem dd_P_putIn_26 : decode cc_P_putIn 26 = .ok (.iadd, 1) := by decide +kernel
theorem dd_P_putIn_27 : decode cc_P_putIn 27 = .ok (.putfield 32, 3) := by decide +kernel
theorem dd_P_putIn_30 : decode cc_P_putIn 30 = .ok (.return_, 1) := by decide +kernel
theorem dd_P_hasGiven_0 : decode cc_P_hasGiven 0 = .ok (.aload_n 0, 1) := by decide +kernel
theorem dd_P_hasGiven_1 : decode cc_P_hasGiven 1 = .ok (.getfield 25, 3) := by decide +kernel
theorem dd_P_hasGiven_4 : decode cc_P_hasGiven 4 = .ok (.iload_n 1, 1) := by decide +kernel
theorem dd_P_hasGiven_5 : decode cc_P_hasGiven 5 = .ok (.iaload, 1) := by decide +kernel
theorem dd_P_hasGiven_6 : decode cc_P_hasGiven 6 = .ok (.ifCond .eq (7), 3) := by decide +kernel
theorem dd_P_hasGiven_9 : decode cc_P_hasGiven 9 = .ok (.iconst 1, 1) := by decide +kernel
theorem dd_P_hasGiven_10 : decode cc_P_hasGiven 10 = .ok (.goto (4), 3) := by decide +kernel
theorem dd_P_hasGiven_13 : decode cc_P_hasGiven 13 = .ok (.iconst 0, 1) := by decide +kernel
theorem dd_P_hasGiven_14 : decode cc_P_hasGiven 14 = .ok (.ireturn, 1) := by decide +kernel
theorem dd_P_gaveWrong_0 : decode cc_P_gaveWrong 0 = .ok (.aload_n 0, 1) := by decide +kernel
theorem dd_P_gaveWrong_1 : decode cc_P_gaveWrong 1 = .ok (.iload_n 1, 1) := by decide +kernel
theorem dd_P_gaveWrong_2 : decode cc_P_gaveWrong 2 = .ok (.invokevirtual 61, 3) := by decide +kernel
theorem dd_P_gaveWrong_5 : decode cc_P_gaveWrong 5 = .ok (.ifCond .eq (22), 3) := by decide +kernel
theorem dd_P_gaveWrong_8 : decode cc_P_gaveWrong 8 = .ok (.aload_n 0, 1) := by decide +kernel
theorem dd_P_gaveWrong_9 : decode cc_P_gaveWrong 9 = .ok (.getfield 25, 3) := by decide +kernel
theorem dd_P_gaveWrong_12 : decode cc_P_gaveWrong 12 = .ok (.iload_n 1, 1) := by decide +kernel
theorem dd_P_gaveWrong_13 : decode cc_P_gaveWrong 13 = .ok (.iaload, 1) := by decide +kernel
theorem dd_P_gaveWrong_14 : decode cc_P_gaveWrong 14 = .ok (.aload_n 0, 1) := by decide +kernel
theorem dd_P_gaveWrong_15 : decode cc_P_gaveWrong 15 = .ok (.getfield 21, 3) := by decide +kernel
theorem dd_P_gaveWrong_18 : decode cc_P_gaveWrong 18 = .ok (.iload_n 1, 1) := by decide +kernel
theorem dd_P_gaveWrong_19 : decode cc_P_gaveWrong 19 = .ok (.iaload, 1) := by decide +kernel
theorem dd_P_gaveWrong_20 : decode cc_P_gaveWrong 20 = .ok (.if_icmp .eq (7), 3) := by decide +kernel
theorem dd_P_gaveWrong_23 : decode cc_P_gaveWrong 23 = .ok (.iconst 1, 1) := by decide +kernel
theorem dd_P_gaveWrong_24 : decode cc_P_gaveWrong 24 = .ok (.goto (4), 3) := by decide +kernel
theorem dd_P_gaveWrong_27 : decode cc_P_gaveWrong 27 = .ok (.iconst 0, 1) := by decide +kernel
theorem dd_P_gaveWrong_28 : decode cc_P_gaveWrong 28 = .ok (.ireturn, 1) := by decide +kernel
theorem dd_P_countGiven_0 : decode cc_P_countGiven 0 = .ok (.iconst 0, 1) := by decide +kernel
theorem dd_P_countGiven_1 : decode cc_P_countGiven 1 = .ok (.istore_n 1, 1) := by decide +kernel
theorem dd_P_countGiven_2 : decode cc_P_countGiven 2 = .ok (.iconst 0, 1) := by decide +kernel
theorem dd_P_countGiven_3 : decode cc_P_countGiven 3 = .ok (.istore_n 2, 1) := by decide +kernel
theorem dd_P_countGiven_4 : decode cc_P_countGiven 4 = .ok (.iload_n 2, 1) := by decide +kernel
theorem dd_P_countGiven_5 : decode cc_P_countGiven 5 = .ok (.bipush (52), 2) := by decide +kernel
theorem dd_P_countGiven_7 : decode cc_P_countGiven 7 = .ok (.if_icmp .ge (20), 3) := by decide +kernel
theorem dd_P_countGiven_10 : decode cc_P_countGiven 10 = .ok (.aload_n 0, 1) := by decide +kernel
theorem dd_P_countGiven_11 : decode cc_P_countGiven 11 = .ok (.iload_n 2, 1) := by decide +kernel
theorem dd_P_countGiven_12 : decode cc_P_countGiven 12 = .ok (.invokevirtual 61, 3) := by decide +kernel
theorem dd_P_countGiven_15 : decode cc_P_countGiven 15 = .ok (.ifCond .eq (6), 3) := by decide +kernel
theorem dd_P_countGiven_18 : decode cc_P_countGiven 18 = .ok (.iinc 1 (1), 3) := by decide +kernel
theorem dd_P_countGiven_21 : decode cc_P_countGiven 21 = .ok (.iinc 2 (1), 3) := by decide +kernel
theorem dd_P_countGiven_24 : decode cc_P_countGiven 24 = .ok (.goto (-20), 3) := by decide +kernel
theorem dd_P_countGiven_27 : decode cc_P_countGiven 27 = .ok (.iload_n 1, 1) := by decide +kernel
theorem dd_P_countGiven_28 : decode cc_P_countGiven 28 = .ok (.ireturn, 1) := by decide +kernel
theorem dd_P_cheatsAt_0 : decode cc_P_cheatsAt 0 = .ok (.aload_n 0, 1) := by decide +kernel
theorem dd_P_cheatsAt_1 : decode cc_P_cheatsAt 1 = .ok (.getfield 28, 3) := by decide +kernel
theorem dd_P_cheatsAt_4 : decode cc_P_cheatsAt 4 = .ok (.iload_n 1, 1) := by decide +kernel
theorem dd_P_cheatsAt_5 : decode cc_P_cheatsAt 5 = .ok (.laload, 1) := by decide +kernel
theorem dd_P_cheatsAt_6 : decode cc_P_cheatsAt 6 = .ok (.iload_n 2, 1) := by decide +kernel
theorem dd_P_cheatsAt_7 : decode cc_P_cheatsAt 7 = .ok (.lushr, 1) := by decide +kernel
theorem dd_P_cheatsAt_8 : decode cc_P_cheatsAt 8 = .ok (.lconst 1, 1) := by decide +kernel
theorem dd_P_cheatsAt_9 : decode cc_P_cheatsAt 9 = .ok (.land, 1) := by decide +kernel
theorem dd_P_cheatsAt_10 : decode cc_P_cheatsAt 10 = .ok (.lconst 1, 1) := by decide +kernel
theorem dd_P_cheatsAt_11 : decode cc_P_cheatsAt 11 = .ok (.lcmp, 1) := by decide +kernel
theorem dd_P_cheatsAt_12 : decode cc_P_cheatsAt 12 = .ok (.ifCond .ne (7), 3) := by decide +kernel
theorem dd_P_cheatsAt_15 : decode cc_P_cheatsAt 15 = .ok (.iconst 1, 1) := by decide +kernel
theorem dd_P_cheatsAt_16 : decode cc_P_cheatsAt 16 = .ok (.goto (4), 3) := by decide +kernel
theorem dd_P_cheatsAt_19 : decode cc_P_cheatsAt 19 = .ok (.iconst 0, 1) := by decide +kernel
theorem dd_P_cheatsAt_20 : decode cc_P_cheatsAt 20 = .ok (.ireturn, 1) := by decide +kernel
theorem dd_P_showSecrets_0 : decode cc_P_showSecrets 0 = .ok (.aload_n 0, 1) := by decide +kernel
theorem dd_P_showSecrets_1 : decode cc_P_showSecrets 1 = .ok (.getfield 12, 3) := by decide +kernel
theorem dd_P_showSecrets_4 : decode cc_P_showSecrets 4 = .ok (.getfield 65, 3) := by decide +kernel
theorem dd_P_showSecrets_7 : decode cc_P_showSecrets 7 = .ok (.istore_n 2, 1) := by decide +kernel
theorem dd_P_showSecrets_8 : decode cc_P_showSecrets 8 = .ok (.aload_n 0, 1) := by decide +kernel
theorem dd_P_showSecrets_9 : decode cc_P_showSecrets 9 = .ok (.getfield 12, 3) := by decide +kernel
theorem dd_P_showSecrets_12 : decode cc_P_showSecrets 12 = .ok (.getfield 68, 3) := by decide +kernel
theorem dd_P_showSecrets_15 : decode cc_P_showSecrets 15 = .ok (.lstore_n 3, 1) := by decide +kernel
theorem dd_P_showSecrets_16 : decode cc_P_showSecrets 16 = .ok (.aload_n 0, 1) := by decide +kernel
theorem dd_P_showSecrets_17 : decode cc_P_showSecrets 17 = .ok (.getfield 18, 3) := by decide +kernel
theorem dd_P_showSecrets_20 : decode cc_P_showSecrets 20 = .ok (.aload_n 0, 1) := by decide +kernel
theorem dd_P_showSecrets_21 : decode cc_P_showSecrets 21 = .ok (.getfield 28, 3) := by decide +kernel
theorem dd_P_showSecrets_24 : decode cc_P_showSecrets 24 = .ok (.iconst 3, 1) := by decide +kernel
theorem dd_P_showSecrets_25 : decode cc_P_showSecrets 25 = .ok (.laload, 1) := by decide +kernel
theorem dd_P_showSecrets_26 : decode cc_P_showSecrets 26 = .ok (.lconst 0, 1) := by decide +kernel
theorem dd_P_showSecrets_27 : decode cc_P_showSecrets 27 = .ok (.lcmp, 1) := by decide +kernel
theorem dd_P_showSecrets_28 : decode cc_P_showSecrets 28 = .ok (.ifCond .eq (11), 3) := by decide +kernel
theorem dd_P_showSecrets_31 : decode cc_P_showSecrets 31 = .ok (.iload_n 2, 1) := by decide +kernel
theorem dd_P_showSecrets_32 : decode cc_P_showSecrets 32 = .ok (.iload_n 1, 1) := by decide +kernel
theorem dd_P_showSecrets_33 : decode cc_P_showSecrets 33 = .ok (.invokestatic 72, 3) := by decide +kernel
theorem dd_P_showSecrets_36 : decode cc_P_showSecrets 36 = .ok (.goto (4), 3) := by decide +kernel
theorem dd_P_showSecrets_39 : decode cc_P_showSecrets 39 = .ok (.iload_n 2, 1) := by decide +kernel
theorem dd_P_showSecrets_40 : decode cc_P_showSecrets 40 = .ok (.aload_n 0, 1) := by decide +kernel
theorem dd_P_showSecrets_41 : decode cc_P_showSecrets 41 = .ok (.getfield 28, 3) := by decide +kernel
theorem dd_P_showSecrets_44 : decode cc_P_showSecrets 44 = .ok (.iconst 4, 1) := by decide +kernel
theorem dd_P_showSecrets_45 : decode cc_P_showSecrets 45 = .ok (.laload, 1) := by decide +kernel
theorem dd_P_showSecrets_46 : decode cc_P_showSecrets 46 = .ok (.lconst 0, 1) := by decide +kernel
theorem dd_P_showSecrets_47 : decode cc_P_showSecrets 47 = .ok (.lcmp, 1) := by decide +kernel
theorem dd_P_showSecrets_48 : decode cc_P_showSecrets 48 = .ok (.ifCond .eq (9), 3) := by decide +kernel
theorem dd_P_showSecrets_51 : decode cc_P_showSecrets 51 = .ok (.lload_n 3, 1) := by decide +kernel
theorem dd_P_showSecrets_52 : decode cc_P_showSecrets 52 = .ok (.lconst 1, 1) := by decide +kernel
theorem dd_P_showSecrets_53 : decode cc_P_showSecrets 53 = .ok (.ladd, 1) := by decide +kernel
theorem dd_P_showSecrets_54 : decode cc_P_showSecrets 54 = .ok (.goto (4), 3) := by decide +kernel
theorem dd_P_showSecrets_57 : decode cc_P_showSecrets 57 = .ok (.lload_n 3, 1) := by decide +kernel
theorem dd_P_showSecrets_58 : decode cc_P_showSecrets 58 = .ok (.aload_n 0, 1) := by decide +kernel
theorem dd_P_showSecrets_59 : decode cc_P_showSecrets 59 = .ok (.getfield 12, 3) := by decide +kernel
theorem dd_P_showSecrets_62 : decode cc_P_showSecrets 62 = .ok (.getfield 78, 3) := by decide +kernel
theorem dd_P_showSecrets_65 : decode cc_P_showSecrets 65 = .ok (.invokevirtual 81, 3) := by decide +kernel
theorem dd_P_showSecrets_68 : decode cc_P_showSecrets 68 = .ok (.aload_n 0, 1) := by decide +kernel
theorem dd_P_showSecrets_69 : decode cc_P_showSecrets 69 = .ok (.iconst 1, 1) := by decide +kernel
theorem dd_P_showSecrets_70 : decode cc_P_showSecrets 70 = .ok (.putfield 46, 3) := by decide +kernel
theorem dd_P_showSecrets_73 : decode cc_P_showSecrets 73 = .ok (.return_, 1) := by decide +kernel
theorem dd_S_init_0 : decode cc_S_init 0 = .ok (.aload_n 0, 1) := by decide +kernel
theorem dd_S_init_1 : decode cc_S_init 1 = .ok (.invokespecial 1, 3) := by decide +kernel
theorem dd_S_init_4 : decode cc_S_init 4 = .ok (.return_, 1) := by decide +kernel
theorem dd_S_keep_0 : decode cc_S_keep 0 = .ok (.aload_n 0, 1) := by decide +kernel
theorem dd_S_keep_1 : decode cc_S_keep 1 = .ok (.iload_n 1, 1) := by decide +kernel
theorem dd_S_keep_2 : decode cc_S_keep 2 = .ok (.putfield 7, 3) := by decide +kernel
theorem dd_S_keep_5 : decode cc_S_keep 5 = .ok (.aload_n 0, 1) := by decide +kernel
theorem dd_S_keep_6 : decode cc_S_keep 6 = .ok (.lload_n 2, 1) := by decide +kernel
theorem dd_S_keep_7 : decode cc_S_keep 7 = .ok (.putfield 13, 3) := by decide +kernel
theorem dd_S_keep_10 : decode cc_S_keep 10 = .ok (.aload_n 0, 1) := by decide +kernel
theorem dd_S_keep_11 : decode cc_S_keep 11 = .ok (.lload 4, 2) := by decide +kernel
theorem dd_S_keep_13 : decode cc_S_keep 13 = .ok (.putfield 17, 3) := by decide +kernel
theorem dd_S_keep_16 : decode cc_S_keep 16 = .ok (.return_, 1) := by decide +kernel
theorem dd_S_mark_0 : decode cc_S_mark 0 = .ok (.aload_n 0, 1) := by decide +kernel
theorem dd_S_mark_1 : decode cc_S_mark 1 = .ok (.getfield 7, 3) := by decide +kernel
theorem dd_S_mark_4 : decode cc_S_mark 4 = .ok (.i2l, 1) := by decide +kernel
theorem dd_S_mark_5 : decode cc_S_mark 5 = .ok (.lstore_n 1, 1) := by decide +kernel
theorem dd_S_mark_6 : decode cc_S_mark 6 = .ok (.lload_n 1, 1) := by decide +kernel
theorem dd_S_mark_7 : decode cc_S_mark 7 = .ok (.lload_n 1, 1) := by decide +kernel
theorem dd_S_mark_8 : decode cc_S_mark 8 = .ok (.bipush (29), 2) := by decide +kernel
theorem dd_S_mark_10 : decode cc_S_mark 10 = .ok (.lushr, 1) := by decide +kernel
theorem dd_S_mark_11 : decode cc_S_mark 11 = .ok (.lxor, 1) := by decide +kernel
theorem dd_S_mark_12 : decode cc_S_mark 12 = .ok (.ldc2_w 20, 3) := by decide +kernel
theorem dd_S_mark_15 : decode cc_S_mark 15 = .ok (.lmul, 1) := by decide +kernel
theorem dd_S_mark_16 : decode cc_S_mark 16 = .ok (.aload_n 0, 1) := by decide +kernel
theorem dd_S_mark_17 : decode cc_S_mark 17 = .ok (.getfield 13, 3) := by decide +kernel
theorem dd_S_mark_20 : decode cc_S_mark 20 = .ok (.ladd, 1) := by decide +kernel
theorem dd_S_mark_21 : decode cc_S_mark 21 = .ok (.lstore_n 1, 1) := by decide +kernel
theorem dd_S_mark_22 : decode cc_S_mark 22 = .ok (.lload_n 1, 1) := by decide +kernel
theorem dd_S_mark_23 : decode cc_S_mark 23 = .ok (.lload_n 1, 1) := by decide +kernel
theorem dd_S_mark_24 : decode cc_S_mark 24 = .ok (.bipush (32), 2) := by decide +kernel
theorem dd_S_mark_26 : decode cc_S_mark 26 = .ok (.lushr, 1) := by decide +kernel
theorem dd_S_mark_27 : decode cc_S_mark 27 = .ok (.lxor, 1) := by decide +kernel
theorem dd_S_mark_28 : decode cc_S_mark 28 = .ok (.ldc2_w 22, 3) := by decide +kernel
theorem dd_S_mark_31 : decode cc_S_mark 31 = .ok (.lmul, 1) := by decide +kernel
theorem dd_S_mark_32 : decode cc_S_mark 32 = .ok (.aload_n 0, 1) := by decide +kernel
theorem dd_S_mark_33 : decode cc_S_mark 33 = .ok (.getfield 17, 3) := by decide +kernel
theorem dd_S_mark_36 : decode cc_S_mark 36 = .ok (.ladd, 1) := by decide +kernel
theorem dd_S_mark_37 : decode cc_S_mark 37 = .ok (.lstore_n 1, 1) := by decide +kernel
theorem dd_S_mark_38 : decode cc_S_mark 38 = .ok (.lload_n 1, 1) := by decide +kernel
theorem dd_S_mark_39 : decode cc_S_mark 39 = .ok (.lload_n 1, 1) := by decide +kernel
theorem dd_S_mark_40 : decode cc_S_mark 40 = .ok (.bipush (29), 2) := by decide +kernel
theorem dd_S_mark_42 : decode cc_S_mark 42 = .ok (.lushr, 1) := by decide +kernel
theorem dd_S_mark_43 : decode cc_S_mark 43 = .ok (.lxor, 1) := by decide +kernel
theorem dd_S_mark_44 : decode cc_S_mark 44 = .ok (.ldc2_w 20, 3) := by decide +kernel
theorem dd_S_mark_47 : decode cc_S_mark 47 = .ok (.lmul, 1) := by decide +kernel
theorem dd_S_mark_48 : decode cc_S_mark 48 = .ok (.lstore_n 1, 1) := by decide +kernel
theorem dd_S_mark_49 : decode cc_S_mark 49 = .ok (.lload_n 1, 1) := by decide +kernel
theorem dd_S_mark_50 : decode cc_S_mark 50 = .ok (.lload_n 1, 1) := by decide +kernel
theorem dd_S_mark_51 : decode cc_S_mark 51 = .ok (.bipush (32), 2) := by decide +kernel
theorem dd_S_mark_53 : decode cc_S_mark 53 = .ok (.lushr, 1) := by decide +kernel
theorem dd_S_mark_54 : decode cc_S_mark 54 = .ok (.lxor, 1) := by decide +kernel
theorem dd_S_mark_55 : decode cc_S_mark 55 = .ok (.lreturn, 1) := by decide +kernel
theorem dd_Z_max_0 : decode cc_Z_max 0 = .ok (.iload_n 0, 1) := by decide +kernel
theorem dd_Z_max_1 : decode cc_Z_max 1 = .ok (.iload_n 1, 1) := by decide +kernel
theorem dd_Z_max_2 : decode cc_Z_max 2 = .ok (.if_icmp .lt (7), 3) := by decide +kernel
theorem dd_Z_max_5 : decode cc_Z_max 5 = .ok (.iload_n 0, 1) := by decide +kernel
theorem dd_Z_max_6 : decode cc_Z_max 6 = .ok (.goto (4), 3) := by decide +kernel
theorem dd_Z_max_9 : decode cc_Z_max 9 = .ok (.iload_n 1, 1) := by decide +kernel
theorem dd_Z_max_10 : decode cc_Z_max 10 = .ok (.ireturn, 1) := by decide +kernel
theorem dd_Z_min_0 : decode cc_Z_min 0 = .ok (.iload_n 0, 1) := by decide +kernel
theorem dd_Z_min_1 : decode cc_Z_min 1 = .ok (.iload_n 1, 1) := by decide +kernel
theorem dd_Z_min_2 : decode cc_Z_min 2 = .ok (.if_icmp .gt (7), 3) := by decide +kernel
theorem dd_Z_min_5 : decode cc_Z_min 5 = .ok (.iload_n 0, 1) := by decide +kernel
theorem dd_Z_min_6 : decode cc_Z_min 6 = .ok (.goto (4), 3) := by decide +kernel
theorem dd_Z_min_9 : decode cc_Z_min 9 = .ok (.iload_n 1, 1) := by decide +kernel
theorem dd_Z_min_10 : decode cc_Z_min 10 = .ok (.ireturn, 1) := by decide +kernel
theorem dd_A_fill_0 : decode cc_A_fill 0 = .ok (.iconst 0, 1) := by decide +kernel
theorem dd_A_fill_1 : decode cc_A_fill 1 = .ok (.istore_n 2, 1) := by decide +kernel
theorem dd_A_fill_2 : decode cc_A_fill 2 = .ok (.aload_n 0, 1) := by decide +kernel
theorem dd_A_fill_3 : decode cc_A_fill 3 = .ok (.arraylength, 1) := by decide +kernel
theorem dd_A_fill_4 : decode cc_A_fill 4 = .ok (.istore_n 3, 1) := by decide +kernel
theorem dd_A_fill_5 : decode cc_A_fill 5 = .ok (.iload_n 2, 1) := by decide +kernel
theorem dd_A_fill_6 : decode cc_A_fill 6 = .ok (.iload_n 3, 1) := by decide +kernel
theorem dd_A_fill_7 : decode cc_A_fill 7 = .ok (.if_icmp .ge (13), 3) := by decide +kernel
theorem dd_A_fill_10 : decode cc_A_fill 10 = .ok (.aload_n 0, 1) := by decide +kernel
theorem dd_A_fill_11 : decode cc_A_fill 11 = .ok (.iload_n 2, 1) := by decide +kernel
theorem dd_A_fill_12 : decode cc_A_fill 12 = .ok (.iload_n 1, 1) := by decide +kernel
theorem dd_A_fill_13 : decode cc_A_fill 13 = .ok (.iastore, 1) := by decide +kernel
theorem dd_A_fill_14 : decode cc_A_fill 14 = .ok (.iinc 2 (1), 3) := by decide +kernel
theorem dd_A_fill_17 : decode cc_A_fill 17 = .ok (.goto (-12), 3) := by decide +kernel
theorem dd_A_fill_20 : decode cc_A_fill 20 = .ok (.return_, 1) := by decide +kernel
theorem dd_A_fill2_0 : decode cc_A_fill2 0 = .ok (.iconst 0, 1) := by decide +kernel
theorem dd_A_fill2_1 : decode cc_A_fill2 1 = .ok (.istore_n 3, 1) := by decide +kernel
theorem dd_A_fill2_2 : decode cc_A_fill2 2 = .ok (.aload_n 0, 1) := by decide +kernel
theorem dd_A_fill2_3 : decode cc_A_fill2 3 = .ok (.arraylength, 1) := by decide +kernel
theorem dd_A_fill2_4 : decode cc_A_fill2 4 = .ok (.istore 4, 2) := by decide +kernel
theorem dd_A_fill2_6 : decode cc_A_fill2 6 = .ok (.iload_n 3, 1) := by decide +kernel
theorem dd_A_fill2_7 : decode cc_A_fill2 7 = .ok (.iload 4, 2) := by decide +kernel
theorem dd_A_fill2_9 : decode cc_A_fill2 9 = .ok (.if_icmp .ge (13), 3) := by decide +kernel
theorem dd_A_fill2_12 : decode cc_A_fill2 12 = .ok (.aload_n 0, 1) := by decide +kernel
theorem dd_A_fill2_13 : decode cc_A_fill2 13 = .ok (.iload_n 3, 1) := by decide +kernel
theorem dd_A_fill2_14 : decode cc_A_fill2 14 = .ok (.lload_n 1, 1) := by decide +kernel
theorem dd_A_fill2_15 : decode cc_A_fill2 15 = .ok (.lastore, 1) := by decide +kernel
theorem dd_A_fill2_16 : decode cc_A_fill2 16 = .ok (.iinc 3 (1), 3) := by decide +kernel
theorem dd_A_fill2_19 : decode cc_A_fill2 19 = .ok (.goto (-13), 3) := by decide +kernel
theorem dd_A_fill2_22 : decode cc_A_fill2 22 = .ok (.return_, 1) := by decide +kernel
end
section
/-! decode rows, laid by program -/
theorem dd_O_init_0 : decode cc_O_init 0 = .ok (.aload_n 0, 1) := by decide +kernel
theorem dd_O_init_1 : decode cc_O_init 1 = .ok (.invokespecial 1, 3) := by decide +kernel
theorem dd_O_init_4 : decode cc_O_init 4 = .ok (.aload_n 0, 1) := by decide +kernel
theorem dd_O_init_5 : decode cc_O_init 5 = .ok (.iconst 4, 1) := by decide +kernel
theorem dd_O_init_6 : decode cc_O_init 6 = .ok (.anewarray 9, 3) := by decide +kernel
theorem dd_O_init_9 : decode cc_O_init 9 = .ok (.putfield 11, 3) := by decide +kernel
theorem dd_O_init_12 : decode cc_O_init 12 = .ok (.iconst 0, 1) := by decide +kernel
theorem dd_O_init_13 : decode cc_O_init 13 = .ok (.istore_n 1, 1) := by decide +kernel
theorem dd_O_init_14 : decode cc_O_init 14 = .ok (.iload_n 1, 1) := by decide +kernel
theorem dd_O_init_15 : decode cc_O_init 15 = .ok (.iconst 4, 1) := by decide +kernel
theorem dd_O_init_16 : decode cc_O_init 16 = .ok (.if_icmp .ge (22), 3) := by decide +kernel
theorem dd_O_init_19 : decode cc_O_init 19 = .ok (.aload_n 0, 1) := by decide +kernel
theorem dd_O_init_20 : decode cc_O_init 20 = .ok (.getfield 11, 3) := by decide +kernel
theorem dd_O_init_23 : decode cc_O_init 23 = .ok (.iload_n 1, 1) := by decide +kernel
theorem dd_O_init_24 : decode cc_O_init 24 = .ok (.new 9, 3) := by decide +kernel
theorem dd_O_init_27 : decode cc_O_init 27 = .ok (.dup, 1) := by decide +kernel
theorem dd_O_init_28 : decode cc_O_init 28 = .ok (.invokespecial 15, 3) := by decide +kernel
theorem dd_O_init_31 : decode cc_O_init 31 = .ok (.aastore, 1) := by decide +kernel
theorem dd_O_init_32 : decode cc_O_init 32 = .ok (.iinc 1 (1), 3) := by decide +kernel
theorem dd_O_init_35 : decode cc_O_init 35 = .ok (.goto (-21), 3) := by decide +kernel
theorem dd_O_init_38 : decode cc_O_init 38 = .ok (.aload_n 0, 1) := by decide +kernel
theorem dd_O_init_39 : decode cc_O_init 39 = .ok (.bipush (9), 2) := by decide +kernel
theorem dd_O_init_41 : decode cc_O_init 41 = .ok (.bipush (52), 2) := by decide +kernel
theorem dd_O_init_43 : decode cc_O_init 43 = .ok (.multianewarray 16 2, 4) := by decide +kernel
theorem dd_O_init_47 : decode cc_O_init 47 = .ok (.putfield 18, 3) := by decide +kernel
theorem dd_O_init_50 : decode cc_O_init 50 = .ok (.aload_n 0, 1) := by decide +kernel
theorem dd_O_init_51 : decode cc_O_init 51 = .ok (.bipush (52), 2) := by decide +kernel
theorem dd_O_init_53 : decode cc_O_init 53 = .ok (.newarray .int, 2) := by decide +kernel
theorem dd_O_init_55 : decode cc_O_init 55 = .ok (.putfield 21, 3) := by decide +kernel
theorem dd_O_init_58 : decode cc_O_init 58 = .ok (.aload_n 0, 1) := by decide +kernel
theorem dd_O_init_59 : decode cc_O_init 59 = .ok (.bipush (52), 2) := by decide +kernel
theorem dd_O_init_61 : decode cc_O_init 61 = .ok (.newarray .int, 2) := by decide +kernel
theorem dd_O_init_63 : decode cc_O_init 63 = .ok (.putfield 25, 3) := by decide +kernel
theorem dd_O_init_66 : decode cc_O_init 66 = .ok (.aload_n 0, 1) := by decide +kernel
theorem dd_O_init_67 : decode cc_O_init 67 = .ok (.bipush (52), 2) := by decide +kernel
theorem dd_O_init_69 : decode cc_O_init 69 = .ok (.newarray .int, 2) := by decide +kernel
theorem dd_O_init_71 : decode cc_O_init 71 = .ok (.putfield 28, 3) := by decide +kernel
theorem dd_O_init_74 : decode cc_O_init 74 = .ok (.aload_n 0, 1) := by decide +kernel
theorem dd_O_init_75 : decode cc_O_init 75 = .ok (.iconst (-1), 1) := by decide +kernel
theorem dd_O_init_76 : decode cc_O_init 76 = .ok (.putfield 31, 3) := by decide +kernel
theorem dd_O_init_79 : decode cc_O_init 79 = .ok (.return_, 1) := by decide +kernel
theorem dd_O_prime_0 : decode cc_O_prime 0 = .ok (.aload_n 0, 1) := by decide +kernel
theorem dd_O_prime_1 : decode cc_O_prime 1 = .ok (.getfield 35, 3) := by decide +kernel
theorem dd_O_prime_4 : decode cc_O_prime 4 = .ok (.ifCond .ne (10), 3) := by decide +kernel
theorem dd_O_prime_7 : decode cc_O_prime 7 = .ok (.iload_n 1, 1) := by decide +kernel
theorem dd_O_prime_8 : decode cc_O_prime 8 = .ok (.invokestatic 38, 3) := by decide +kernel
theorem dd_O_prime_11 : decode cc_O_prime 11 = .ok (.ifCond .ne (5), 3) := by decide +kernel
theorem dd_O_prime_14 : decode cc_O_prime 14 = .ok (.iconst 0, 1) := by decide +kernel
theorem dd_O_prime_15 : decode cc_O_prime 15 = .ok (.ireturn, 1) := by decide +kernel
theorem dd_O_prime_16 : decode cc_O_prime 16 = .ok (.aload_n 0, 1) := by decide +kernel
theorem dd_O_prime_17 : decode cc_O_prime 17 = .ok (.iload_n 1, 1) := by decide +kernel
theorem dd_O_prime_18 : decode cc_O_prime 18 = .ok (.putfield 35, 3) := by decide +kernel
theorem dd_O_prime_21 : decode cc_O_prime 21 = .ok (.iconst 0, 1) := by decide +kernel
theorem dd_O_prime_22 : decode cc_O_prime 22 = .ok (.istore_n 2, 1) := by decide +kernel
theorem dd_O_prime_23 : decode cc_O_prime 23 = .ok (.iload_n 2, 1) := by decide +kernel
theorem dd_O_prime_24 : decode cc_O_prime 24 = .ok (.bipush (52), 2) := by decide +kernel
theorem dd_O_prime_26 : decode cc_O_prime 26 = .ok (.if_icmp .ge (22), 3) := by decide +kernel
theorem dd_O_prime_29 : decode cc_O_prime 29 = .ok (.aload_n 0, 1) := by decide +kernel
theorem dd_O_prime_30 : decode cc_O_prime 30 = .ok (.getfield 18, 3) := by decide +kernel
theorem dd_O_prime_33 : decode cc_O_prime 33 = .ok (.iconst 0, 1) := by decide +kernel
theorem dd_O_prime_34 : decode cc_O_prime 34 = .ok (.aaload, 1) := by decide +kernel
theorem dd_O_prime_35 : decode cc_O_prime 35 = .ok (.iload_n 2, 1) := by decide +kernel
theorem dd_O_prime_36 : decode cc_O_prime 36 = .ok (.iload_n 2, 1) := by decide +kernel
theorem dd_O_prime_37 : decode cc_O_prime 37 = .ok (.iload_n 1, 1) := by decide +kernel
theorem dd_O_prime_38 : decode cc_O_prime 38 = .ok (.invokestatic 44, 3) := by decide +kernel
theorem dd_O_prime_41 : decode cc_O_prime 41 = .ok (.iastore, 1) := by decide +kernel
theorem dd_O_prime_42 : decode cc_O_prime 42 = .ok (.iinc 2 (1), 3) := by decide +kernel
theorem dd_O_prime_45 : decode cc_O_prime 45 = .ok (.goto (-22), 3) := by decide +kernel
theorem dd_O_prime_48 : decode cc_O_prime 48 = .ok (.iconst 1, 1) := by decide +kernel
theorem dd_O_prime_49 : decode cc_O_prime 49 = .ok (.ireturn, 1) := by decide +kernel
theorem dd_O_clear_0 : decode cc_O_clear 0 = .ok (.aload_n 0, 1) := by decide +kernel
theorem dd_O_clear_1 : decode cc_O_clear 1 = .ok (.iconst 0, 1) := by decide +kernel
theorem dd_O_clear_2 : decode cc_O_clear 2 = .ok (.putfield 35, 3) := by decide +kernel
theorem dd_O_clear_5 : decode cc_O_clear 5 = .ok (.aload_n 0, 1) := by decide +kernel
theorem dd_O_clear_6 : decode cc_O_clear 6 = .ok (.iconst 0, 1) := by decide +kernel
theorem dd_O_clear_7 : decode cc_O_clear 7 = .ok (.putfield 48, 3) := by decide +kernel
theorem dd_O_clear_10 : decode cc_O_clear 10 = .ok (.aload_n 0, 1) := by decide +kernel
theorem dd_O_clear_11 : decode cc_O_clear 11 = .ok (.iconst 0, 1) := by decide +kernel
theorem dd_O_clear_12 : decode cc_O_clear 12 = .ok (.putfield 51, 3) := by decide +kernel
theorem dd_O_clear_15 : decode cc_O_clear 15 = .ok (.aload_n 0, 1) := by decide +kernel
theorem dd_O_clear_16 : decode cc_O_clear 16 = .ok (.iconst 0, 1) := by decide +kernel
theorem dd_O_clear_17 : decode cc_O_clear 17 = .ok (.putfield 54, 3) := by decide +kernel
theorem dd_O_clear_20 : decode cc_O_clear 20 = .ok (.aload_n 0, 1) := by decide +kernel
theorem dd_O_clear_21 : decode cc_O_clear 21 = .ok (.iconst (-1), 1) := by decide +kernel
theorem dd_O_clear_22 : decode cc_O_clear 22 = .ok (.putfield 31, 3) := by decide +kernel
theorem dd_O_clear_25 : decode cc_O_clear 25 = .ok (.return_, 1) := by decide +kernel
theorem dd_O_seat_0 : decode cc_O_seat 0 = .ok (.aload_n 0, 1) := by decide +kernel
theorem dd_O_seat_1 : decode cc_O_seat 1 = .ok (.getfield 48, 3) := by decide +kernel
theorem dd_O_seat_4 : decode cc_O_seat 4 = .ok (.ifCond .ne (22), 3) := by decide +kernel
theorem dd_O_seat_7 : decode cc_O_seat 7 = .ok (.aload_n 0, 1) := by decide +kernel
theorem dd_O_seat_8 : decode cc_O_seat 8 = .ok (.getfield 51, 3) := by decide +kernel
theorem dd_O_seat_11 : decode cc_O_seat 11 = .ok (.iconst 4, 1) := by decide +kernel
theorem dd_O_seat_12 : decode cc_O_seat 12 = .ok (.if_icmp .ge (14), 3) := by decide +kernel
theorem dd_O_seat_15 : decode cc_O_seat 15 = .ok (.iload_n 1, 1) := by decide +kernel
theorem dd_O_seat_16 : decode cc_O_seat 16 = .ok (.iconst 1, 1) := by decide +kernel
theorem dd_O_seat_17 : decode cc_O_seat 17 = .ok (.if_icmp .lt (9), 3) := by decide +kernel
theorem dd_O_seat_20 : decode cc_O_seat 20 = .ok (.iload_n 1, 1) := by decide +kernel
theorem dd_O_seat_21 : decode cc_O_seat 21 = .ok (.ldc 57, 2) := by decide +kernel
theorem dd_O_seat_23 : decode cc_O_seat 23 = .ok (.if_icmp .le (5), 3) := by decide +kernel
theorem dd_O_seat_26 : decode cc_O_seat 26 = .ok (.iconst (-1), 1) := by decide +kernel
theorem dd_O_seat_27 : decode cc_O_seat 27 = .ok (.ireturn, 1) := by decide +kernel
theorem dd_O_seat_28 : decode cc_O_seat 28 = .ok (.aload_n 0, 1) := by decide +kernel
theorem dd_O_seat_29 : decode cc_O_seat 29 = .ok (.getfield 11, 3) := by decide +kernel
theorem dd_O_seat_32 : decode cc_O_seat 32 = .ok (.aload_n 0, 1) := by decide +kernel
theorem dd_O_seat_33 : decode cc_O_seat 33 = .ok (.getfield 51, 3) := by decide +kernel
theorem dd_O_seat_36 : decode cc_O_seat 36 = .ok (.aaload, 1) := by decide +kernel
theorem dd_O_seat_37 : decode cc_O_seat 37 = .ok (.iload_n 1, 1) := by decide +kernel
theorem dd_O_seat_38 : decode cc_O_seat 38 = .ok (.putfield 58, 3) := by decide +kernel
theorem dd_O_seat_41 : decode cc_O_seat 41 = .ok (.aload_n 0, 1) := by decide +kernel
theorem dd_O_seat_42 : decode cc_O_seat 42 = .ok (.getfield 11, 3) := by decide +kernel
theorem dd_O_seat_45 : decode cc_O_seat 45 = .ok (.aload_n 0, 1) := by decide +kernel
theorem dd_O_seat_46 : decode cc_O_seat 46 = .ok (.getfield 51, 3) := by decide +kernel
theorem dd_O_seat_49 : decode cc_O_seat 49 = .ok (.aaload, 1) := by decide +kernel
theorem dd_O_seat_50 : decode cc_O_seat 50 = .ok (.invokevirtual 61, 3) := by decide +kernel
theorem dd_O_seat_53 : decode cc_O_seat 53 = .ok (.aload_n 0, 1) := by decide +kernel
theorem dd_O_seat_54 : decode cc_O_seat 54 = .ok (.dup, 1) := by decide +kernel
theorem dd_O_seat_55 : decode cc_O_seat 55 = .ok (.getfield 51, 3) := by decide +kernel
theorem dd_O_seat_58 : decode cc_O_seat 58 = .ok (.iconst 1, 1) := by decide +kernel
theorem dd_O_seat_59 : decode cc_O_seat 59 = .ok (.iadd, 1) := by decide +kernel
theorem dd_O_seat_60 : decode cc_O_seat 60 = .ok (.putfield 51, 3) := by decide +kernel
theorem dd_O_seat_63 : decode cc_O_seat 63 = .ok (.aload_n 0, 1) := by decide +kernel
theorem dd_O_seat_64 : decode cc_O_seat 64 = .ok (.getfield 51, 3) := by decide +kernel
theorem dd_O_seat_67 : decode cc_O_seat 67 = .ok (.iconst 1, 1) := by decide +kernel
theorem dd_O_seat_68 : decode cc_O_seat 68 = .ok (.isub, 1) := by decide +kernel
theorem dd_O_seat_69 : decode cc_O_seat 69 = .ok (.ireturn, 1) := by decide +kernel
theorem dd_O_deal_0 : decode cc_O_deal 0 = .ok (.aload_n 0, 1) := by decide +kernel
theorem dd_O_deal_1 : decode cc_O_deal 1 = .ok (.getfield 35, 3) := by decide +kernel
theorem dd_O_deal_4 : decode cc_O_deal 4 = .ok (.ifCond .eq (27), 3) := by decide +kernel
theorem dd_O_deal_7 : decode cc_O_deal 7 = .ok (.aload_n 0, 1) := by decide +kernel
theorem dd_O_deal_8 : decode cc_O_deal 8 = .ok (.getfield 51, 3) := by decide +kernel
theorem dd_O_deal_11 : decode cc_O_deal 11 = .ok (.iconst 2, 1) := by decide +kernel
theorem dd_O_deal_12 : decode cc_O_deal 12 = .ok (.if_icmp .lt (19), 3) := by decide +kernel
theorem dd_O_deal_15 : decode cc_O_deal 15 = .ok (.aload_n 0, 1) := by decide +kernel
theorem dd_O_deal_16 : decode cc_O_deal 16 = .ok (.getfield 48, 3) := by decide +kernel
theorem dd_O_deal_19 : decode cc_O_deal 19 = .ok (.ifCond .eq (14), 3) := by decide +kernel
theorem dd_O_deal_22 : decode cc_O_deal 22 = .ok (.aload_n 0, 1) := by decide +kernel
theorem dd_O_deal_23 : decode cc_O_deal 23 = .ok (.getfield 48, 3) := by decide +kernel
theorem dd_O_deal_26 : decode cc_O_deal 26 = .ok (.bipush (6), 2) := by decide +kernel
theorem dd_O_deal_28 : decode cc_O_deal 28 = .ok (.if_icmp .eq (5), 3) := by decide +kernel
theorem dd_O_deal_31 : decode cc_O_deal 31 = .ok (.iconst 0, 1) := by decide +kernel
theorem dd_O_deal_32 : decode cc_O_deal 32 = .ok (.ireturn, 1) := by decide +kernel
theorem dd_O_deal_33 : decode cc_O_deal 33 = .ok (.aload_n 0, 1) := by decide +kernel
theorem dd_O_deal_34 : decode cc_O_deal 34 = .ok (.invokevirtual 64, 3) := by decide +kernel
theorem dd_O_deal_37 : decode cc_O_deal 37 = .ok (.aload_n 0, 1) := by decide +kernel
theorem dd_O_deal_38 : decode cc_O_deal 38 = .ok (.getfield 51, 3) := by decide +kernel
theorem dd_O_deal_41 : decode cc_O_deal 41 = .ok (.if_icmp .ge (5), 3) := by decide +kernel
theorem dd_O_deal_44 : decode cc_O_deal 44 = .ok (.iconst 0, 1) := by decide +kernel
theorem dd_O_deal_45 : decode cc_O_deal 45 = .ok (.ireturn, 1) := by decide +kernel
theorem dd_O_deal_46 : decode cc_O_deal 46 = .ok (.iconst 0, 1) := by decide +kernel
theorem dd_O_deal_47 : decode cc_O_deal 47 = .ok (.istore_n 1, 1) := by decide +kernel
theorem dd_O_deal_48 : decode cc_O_deal 48 = .ok (.iload_n 1, 1) := by decide +kernel
theorem dd_O_deal_49 : decode cc_O_deal 49 = .ok (.aload_n 0, 1) := by decide +kernel
theorem dd_O_deal_50 : decode cc_O_deal 50 = .ok (.getfield 51, 3) := by decide +kernel
theorem dd_O_deal_53 : decode cc_O_deal 53 = .ok (.if_icmp .ge (18), 3) := by decide +kernel
theorem dd_O_deal_56 : decode cc_O_deal 56 = .ok (.aload_n 0, 1) := by decide +kernel
theorem dd_O_deal_57 : decode cc_O_deal 57 = .ok (.getfield 11, 3) := by decide +kernel
theorem dd_O_deal_60 : decode cc_O_deal 60 = .ok (.iload_n 1, 1) := by decide +kernel
theorem dd_O_deal_61 : decode cc_O_deal 61 = .ok (.aaload, 1) := by decide +kernel
theorem dd_O_deal_62 : decode cc_O_deal 62 = .ok (.invokevirtual 61, 3) := by decide +kernel
theorem dd_O_deal_65 : decode cc_O_deal 65 = .ok (.iinc 1 (1), 3) := by decide +kernel
theorem dd_O_deal_68 : decode cc_O_deal 68 = .ok (.goto (-20), 3) := by decide +kernel
theorem dd_O_deal_71 : decode cc_O_deal 71 = .ok (.aload_n 0, 1) := by decide +kernel
theorem dd_O_deal_72 : decode cc_O_deal 72 = .ok (.getfield 21, 3) := by decide +kernel
theorem dd_O_deal_75 : decode cc_O_deal 75 = .ok (.bipush (-2), 2) := by decide +kernel
theorem dd_O_deal_77 : decode cc_O_deal 77 = .ok (.invokestatic 68, 3) := by decide +kernel
theorem dd_O_deal_80 : decode cc_O_deal 80 = .ok (.aload_n 0, 1) := by decide +kernel
theorem dd_O_deal_81 : decode cc_O_deal 81 = .ok (.iconst 0, 1) := by decide +kernel
theorem dd_O_deal_82 : decode cc_O_deal 82 = .ok (.putfield 54, 3) := by decide +kernel
theorem dd_O_deal_85 : decode cc_O_deal 85 = .ok (.aload_n 0, 1) := by decide +kernel
theorem dd_O_deal_86 : decode cc_O_deal 86 = .ok (.iconst 1, 1) := by decide +kernel
theorem dd_O_deal_87 : decode cc_O_deal 87 = .ok (.putfield 48, 3) := by decide +kernel
theorem dd_O_deal_90 : decode cc_O_deal 90 = .ok (.iconst 1, 1) := by decide +kernel
theorem dd_O_deal_91 : decode cc_O_deal 91 = .ok (.ireturn, 1) := by decide +kernel
theorem dd_O_seal_0 : decode cc_O_seal 0 = .ok (.aload_n 0, 1) := by decide +kernel
theorem dd_O_seal_1 : decode cc_O_seal 1 = .ok (.getfield 48, 3) := by decide +kernel
theorem dd_O_seal_4 : decode cc_O_seal 4 = .ok (.iconst 1, 1) := by decide +kernel
theorem dd_O_seal_5 : decode cc_O_seal 5 = .ok (.if_icmp .ne (22), 3) := by decide +kernel
theorem dd_O_seal_8 : decode cc_O_seal 8 = .ok (.aload_n 0, 1) := by decide +kernel
theorem dd_O_seal_9 : decode cc_O_seal 9 = .ok (.iload_n 1, 1) := by decide +kernel
theorem dd_O_seal_10 : decode cc_O_seal 10 = .ok (.invokevirtual 74, 3) := by decide +kernel
theorem dd_O_seal_13 : decode cc_O_seal 13 = .ok (.ifCond .eq (14), 3) := by decide +kernel
theorem dd_O_seal_16 : decode cc_O_seal 16 = .ok (.iload_n 2, 1) := by decide +kernel
theorem dd_O_seal_17 : decode cc_O_seal 17 = .ok (.aload_n 0, 1) := by decide +kernel
theorem dd_O_seal_18 : decode cc_O_seal 18 = .ok (.getfield 35, 3) := by decide +kernel
theorem dd_O_seal_21 : decode cc_O_seal 21 = .ok (.invokestatic 77, 3) := by decide +kernel
theorem dd_O_seal_24 : decode cc_O_seal 24 = .ok (.ifCond .ne (5), 3) := by decide +kernel
theorem dd_O_seal_27 : decode cc_O_seal 27 = .ok (.iconst 0, 1) := by decide +kernel
theorem dd_O_seal_28 : decode cc_O_seal 28 = .ok (.ireturn, 1) := by decide +kernel
theorem dd_O_seal_29 : decode cc_O_seal 29 = .ok (.aload_n 0, 1) := by decide +kernel
theorem dd_O_seal_30 : decode cc_O_seal 30 = .ok (.getfield 11, 3) := by decide +kernel
theorem dd_O_seal_33 : decode cc_O_seal 33 = .ok (.iload_n 1, 1) := by decide +kernel
theorem dd_O_seal_34 : decode cc_O_seal 34 = .ok (.aaload, 1) := by decide +kernel
theorem dd_O_seal_35 : decode cc_O_seal 35 = .ok (.astore 7, 2) := by decide +kernel
theorem dd_O_seal_37 : decode cc_O_seal 37 = .ok (.aload 7, 2) := by decide +kernel
theorem dd_O_seal_39 : decode cc_O_seal 39 = .ok (.getfield 81, 3) := by decide +kernel
theorem dd_O_seal_42 : decode cc_O_seal 42 = .ok (.ifCond .eq (5), 3) := by decide +kernel
theorem dd_O_seal_45 : decode cc_O_seal 45 = .ok (.iconst 0, 1) := by decide +kernel
theorem dd_O_seal_46 : decode cc_O_seal 46 = .ok (.ireturn, 1) := by decide +kernel
theorem dd_O_seal_47 : decode cc_O_seal 47 = .ok (.aload 7, 2) := by decide +kernel
theorem dd_O_seal_49 : decode cc_O_seal 49 = .ok (.getfield 85, 3) := by decide +kernel
theorem dd_O_seal_52 : decode cc_O_seal 52 = .ok (.iload_n 2, 1) := by decide +kernel
theorem dd_O_seal_53 : decode cc_O_seal 53 = .ok (.lload_n 3, 1) := by decide +kernel
theorem dd_O_seal_54 : decode cc_O_seal 54 = .ok (.lload 5, 2) := by decide +kernel
theorem dd_O_seal_56 : decode cc_O_seal 56 = .ok (.invokevirtual 89, 3) := by decide +kernel
theorem dd_O_seal_59 : decode cc_O_seal 59 = .ok (.aload 7, 2) := by decide +kernel
theorem dd_O_seal_61 : decode cc_O_seal 61 = .ok (.aload 7, 2) := by decide +kernel
theorem dd_O_seal_63 : decode cc_O_seal 63 = .ok (.getfield 85, 3) := by decide +kernel
theorem dd_O_seal_66 : decode cc_O_seal 66 = .ok (.invokevirtual 95, 3) := by decide +kernel
theorem dd_O_seal_69 : decode cc_O_seal 69 = .ok (.putfield 99, 3) := by decide +kernel
theorem dd_O_seal_72 : decode cc_O_seal 72 = .ok (.aload 7, 2) := by decide +kernel
theorem dd_O_seal_74 : decode cc_O_seal 74 = .ok (.iconst 1, 1) := by decide +kernel
theorem dd_O_seal_75 : decode cc_O_seal 75 = .ok (.putfield 81, 3) := by decide +kernel
theorem dd_O_seal_78 : decode cc_O_seal 78 = .ok (.lload 5, 2) := by decide +kernel
theorem dd_O_seal_80 : decode cc_O_seal 80 = .ok (.aload_n 0, 1) := by decide +kernel
theorem dd_O_seal_81 : decode cc_O_seal 81 = .ok (.getfield 35, 3) := by decide +kernel
theorem dd_O_seal_84 : decode cc_O_seal 84 = .ok (.aload 7, 2) := by decide +kernel
theorem dd_O_seal_86 : decode cc_O_seal 86 = .ok (.getfield 102, 3) := by decide +kernel
theorem dd_O_seal_89 : decode cc_O_seal 89 = .ok (.invokestatic 105, 3) := by decide +kernel
theorem dd_O_seal_92 : decode cc_O_seal 92 = .ok (.aload_n 0, 1) := by decide +kernel
theorem dd_O_seal_93 : decode cc_O_seal 93 = .ok (.invokevirtual 111, 3) := by decide +kernel
theorem dd_O_seal_96 : decode cc_O_seal 96 = .ok (.ifCond .eq (8), 3) := by decide +kernel
theorem dd_O_seal_99 : decode cc_O_seal 99 = .ok (.aload_n 0, 1) := by decide +kernel
theorem dd_O_seal_100 : decode cc_O_seal 100 = .ok (.iconst 2, 1) := by decide +kernel
theorem dd_O_seal_101 : decode cc_O_seal 101 = .ok (.putfield 48, 3) := by decide +kernel
theorem dd_O_seal_104 : decode cc_O_seal 104 = .ok (.iconst 1, 1) := by decide +kernel
theorem dd_O_seal_105 : decode cc_O_seal 105 = .ok (.ireturn, 1) := by decide +kernel
theorem dd_O_sealOf_0 : decode cc_O_sealOf 0 = .ok (.aload_n 0, 1) := by decide +kernel
theorem dd_O_sealOf_1 : decode cc_O_sealOf 1 = .ok (.iload_n 1, 1) := by decide +kernel
theorem dd_O_sealOf_2 : decode cc_O_sealOf 2 = .ok (.invokevirtual 74, 3) := by decide +kernel
theorem dd_O_sealOf_5 : decode cc_O_sealOf 5 = .ok (.ifCond .eq (15), 3) := by decide +kernel
theorem dd_O_sealOf_8 : decode cc_O_sealOf 8 = .ok (.aload_n 0, 1) := by decide +kernel
theorem dd_O_sealOf_9 : decode cc_O_sealOf 9 = .ok (.getfield 11, 3) := by decide +kernel
theorem dd_O_sealOf_12 : decode cc_O_sealOf 12 = .ok (.iload_n 1, 1) := by decide +kernel
theorem dd_O_sealOf_13 : decode cc_O_sealOf 13 = .ok (.aaload, 1) := by decide +kernel
theorem dd_O_sealOf_14 : decode cc_O_sealOf 14 = .ok (.getfield 81, 3) := by decide +kernel
theorem dd_O_sealOf_17 : decode cc_O_sealOf 17 = .ok (.ifCond .ne (13), 3) := by decide +kernel
theorem dd_O_sealOf_20 : decode cc_O_sealOf 20 = .ok (.new 115, 3) := by decide +kernel
theorem dd_O_sealOf_23 : decode cc_O_sealOf 23 = .ok (.dup, 1) := by decide +kernel
theorem dd_O_sealOf_24 : decode cc_O_sealOf 24 = .ok (.ldc 117, 2) := by decide +kernel
theorem dd_O_sealOf_26 : decode cc_O_sealOf 26 = .ok (.invokespecial 119, 3) := by decide +kernel
theorem dd_O_sealOf_29 : decode cc_O_sealOf 29 = .ok (.athrow, 1) := by decide +kernel
theorem dd_O_sealOf_30 : decode cc_O_sealOf 30 = .ok (.aload_n 0, 1) := by decide +kernel
theorem dd_O_sealOf_31 : decode cc_O_sealOf 31 = .ok (.getfield 11, 3) := by decide +kernel
theorem dd_O_sealOf_34 : decode cc_O_sealOf 34 = .ok (.iload_n 1, 1) := by decide +kernel
theorem dd_O_sealOf_35 : decode cc_O_sealOf 35 = .ok (.aaload, 1) := by decide +kernel
theorem dd_O_sealOf_36 : decode cc_O_sealOf 36 = .ok (.getfield 99, 3) := by decide +kernel
theorem dd_O_sealOf_39 : decode cc_O_sealOf 39 = .ok (.lreturn, 1) := by decide +kernel
theorem dd_O_turn_0 : decode cc_O_turn 0 = .ok (.aload_n 0, 1) := by decide +kernel
theorem dd_O_turn_1 : decode cc_O_turn 1 = .ok (.invokevirtual 122, 3) := by decide +kernel
theorem dd_O_turn_4 : decode cc_O_turn 4 = .ok (.istore_n 2, 1) := by decide +kernel
theorem dd_O_turn_5 : decode cc_O_turn 5 = .ok (.iload_n 2, 1) := by decide +kernel
theorem dd_O_turn_6 : decode cc_O_turn 6 = .ok (.iconst (-1), 1) := by decide +kernel
theorem dd_O_turn_7 : decode cc_O_turn 7 = .ok (.if_icmp .eq (8), 3) := by decide +kernel
theorem dd_O_turn_10 : decode cc_O_turn 10 = .ok (.iload_n 1, 1) := by decide +kernel
theorem dd_O_turn_11 : decode cc_O_turn 11 = .ok (.iload_n 2, 1) := by decide +kernel
theorem dd_O_turn_12 : decode cc_O_turn 12 = .ok (.if_icmp .eq (5), 3) := by decide +kernel
theorem dd_O_turn_15 : decode cc_O_turn 15 = .ok (.iconst 0, 1) := by decide +kernel
theorem dd_O_turn_16 : decode cc_O_turn 16 = .ok (.ireturn, 1) := by decide +kernel
theorem dd_O_turn_17 : decode cc_O_turn 17 = .ok (.aload_n 0, 1) := by decide +kernel
theorem dd_O_turn_18 : decode cc_O_turn 18 = .ok (.getfield 11, 3) := by decide +kernel
theorem dd_O_turn_21 : decode cc_O_turn 21 = .ok (.iload_n 1, 1) := by decide +kernel
theorem dd_O_turn_22 : decode cc_O_turn 22 = .ok (.aaload, 1) := by decide +kernel
theorem dd_O_turn_23 : decode cc_O_turn 23 = .ok (.astore_n 3, 1) := by decide +kernel
theorem dd_O_turn_24 : decode cc_O_turn 24 = .ok (.aload_n 0, 1) := by decide +kernel
theorem dd_O_turn_25 : decode cc_O_turn 25 = .ok (.getfield 18, 3) := by decide +kernel
theorem dd_O_turn_28 : decode cc_O_turn 28 = .ok (.aload_n 0, 1) := by decide +kernel
theorem dd_O_turn_29 : decode cc_O_turn 29 = .ok (.getfield 54, 3) := by decide +kernel
theorem dd_O_turn_32 : decode cc_O_turn 32 = .ok (.iconst 1, 1) := by decide +kernel
theorem dd_O_turn_33 : decode cc_O_turn 33 = .ok (.iadd, 1) := by decide +kernel
theorem dd_O_turn_34 : decode cc_O_turn 34 = .ok (.aaload, 1) := by decide +kernel
theorem dd_O_turn_35 : decode cc_O_turn 35 = .ok (.astore 4, 2) := by decide +kernel
theorem dd_O_turn_37 : decode cc_O_turn 37 = .ok (.aload_n 0, 1) := by decide +kernel
theorem dd_O_turn_38 : decode cc_O_turn 38 = .ok (.aload_n 0, 1) := by decide +kernel
theorem dd_O_turn_39 : decode cc_O_turn 39 = .ok (.getfield 54, 3) := by decide +kernel
theorem dd_O_turn_42 : decode cc_O_turn 42 = .ok (.aload_n 3, 1) := by decide +kernel
theorem dd_O_turn_43 : decode cc_O_turn 43 = .ok (.getfield 85, 3) := by decide +kernel
theorem dd_O_turn_46 : decode cc_O_turn 46 = .ok (.aload 4, 2) := by decide +kernel
theorem dd_O_turn_48 : decode cc_O_turn 48 = .ok (.invokevirtual 125, 3) := by decide +kernel
theorem dd_O_turn_51 : decode cc_O_turn 51 = .ok (.aload_n 0, 1) := by decide +kernel
theorem dd_O_turn_52 : decode cc_O_turn 52 = .ok (.aload 4, 2) := by decide +kernel
theorem dd_O_turn_54 : decode cc_O_turn 54 = .ok (.aload_n 3, 1) := by decide +kernel
theorem dd_O_turn_55 : decode cc_O_turn 55 = .ok (.aload_n 0, 1) := by decide +kernel
theorem dd_O_turn_56 : decode cc_O_turn 56 = .ok (.getfield 48, 3) := by decide +kernel
theorem dd_O_turn_59 : decode cc_O_turn 59 = .ok (.iconst 2, 1) := by decide +kernel
theorem dd_O_turn_60 : decode cc_O_turn 60 = .ok (.if_icmp .ne (7), 3) := by decide +kernel
theorem dd_O_turn_63 : decode cc_O_turn 63 = .ok (.iconst 0, 1) := by decide +kernel
theorem dd_O_turn_64 : decode cc_O_turn 64 = .ok (.goto (4), 3) := by decide +kernel
theorem dd_O_turn_67 : decode cc_O_turn 67 = .ok (.iconst 1, 1) := by decide +kernel
theorem dd_O_turn_68 : decode cc_O_turn 68 = .ok (.invokevirtual 129, 3) := by decide +kernel
theorem dd_O_turn_71 : decode cc_O_turn 71 = .ok (.aload_n 0, 1) := by decide +kernel
theorem dd_O_turn_72 : decode cc_O_turn 72 = .ok (.dup, 1) := by decide +kernel
theorem dd_O_turn_73 : decode cc_O_turn 73 = .ok (.getfield 54, 3) := by decide +kernel
theorem dd_O_turn_76 : decode cc_O_turn 76 = .ok (.iconst 1, 1) := by decide +kernel
theorem dd_O_turn_77 : decode cc_O_turn 77 = .ok (.iadd, 1) := by decide +kernel
theorem dd_O_turn_78 : decode cc_O_turn 78 = .ok (.putfield 54, 3) := by decide +kernel
theorem dd_O_turn_81 : decode cc_O_turn 81 = .ok (.aload_n 0, 1) := by decide +kernel
theorem dd_O_turn_82 : decode cc_O_turn 82 = .ok (.getfield 54, 3) := by decide +kernel
theorem dd_O_turn_85 : decode cc_O_turn 85 = .ok (.aload_n 0, 1) := by decide +kernel
theorem dd_O_turn_86 : decode cc_O_turn 86 = .ok (.getfield 51, 3) := by decide +kernel
theorem dd_O_turn_89 : decode cc_O_turn 89 = .ok (.if_icmp .ne (11), 3) := by decide +kernel
theorem dd_O_turn_92 : decode cc_O_turn 92 = .ok (.aload_n 0, 1) := by decide +kernel
theorem dd_O_turn_93 : decode cc_O_turn 93 = .ok (.iconst 3, 1) := by decide +kernel
theorem dd_O_turn_94 : decode cc_O_turn 94 = .ok (.putfield 48, 3) := by decide +kernel
theorem dd_O_turn_97 : decode cc_O_turn 97 = .ok (.goto (21), 3) := by decide +kernel
theorem dd_O_turn_100 : decode cc_O_turn 100 = .ok (.aload_n 0, 1) := by decide +kernel
theorem dd_O_turn_101 : decode cc_O_turn 101 = .ok (.getfield 54, 3) := by decide +kernel
theorem dd_O_turn_104 : decode cc_O_turn 104 = .ok (.iconst 2, 1) := by decide +kernel
theorem dd_O_turn_105 : decode cc_O_turn 105 = .ok (.aload_n 0, 1) := by decide +kernel
theorem dd_O_turn_106 : decode cc_O_turn 106 = .ok (.getfield 51, 3) := by decide +kernel
theorem dd_O_turn_109 : decode cc_O_turn 109 = .ok (.imul, 1) := by decide +kernel
theorem dd_O_turn_110 : decode cc_O_turn 110 = .ok (.if_icmp .ne (8), 3) := by decide +kernel
theorem dd_O_turn_113 : decode cc_O_turn 113 = .ok (.aload_n 0, 1) := by decide +kernel
theorem dd_O_turn_114 : decode cc_O_turn 114 = .ok (.iconst 4, 1) := by decide +kernel
theorem dd_O_turn_115 : decode cc_O_turn 115 = .ok (.putfield 48, 3) := by decide +kernel
theorem dd_O_turn_118 : decode cc_O_turn 118 = .ok (.iconst 1, 1) := by decide +kernel
theorem dd_O_turn_119 : decode cc_O_turn 119 = .ok (.ireturn, 1) := by decide +kernel
theorem dd_O_laid_0 : decode cc_O_laid 0 = .ok (.aload_n 0, 1) := by decide +kernel
theorem dd_O_laid_1 : decode cc_O_laid 1 = .ok (.getfield 35, 3) := by decide +kernel
theorem dd_O_laid_4 : decode cc_O_laid 4 = .ok (.ifCond .eq (10), 3) := by decide +kernel
theorem dd_O_laid_7 : decode cc_O_laid 7 = .ok (.iload_n 1, 1) := by decide +kernel
theorem dd_O_laid_8 : decode cc_O_laid 8 = .ok (.invokestatic 133, 3) := by decide +kernel
theorem dd_O_laid_11 : decode cc_O_laid 11 = .ok (.ifCond .ne (13), 3) := by decide +kernel
theorem dd_O_laid_14 : decode cc_O_laid 14 = .ok (.new 115, 3) := by decide +kernel
theorem dd_O_laid_17 : decode cc_O_laid 17 = .ok (.dup, 1) := by decide +kernel
theorem dd_O_laid_18 : decode cc_O_laid 18 = .ok (.ldc 136, 2) := by decide +kernel
theorem dd_O_laid_20 : decode cc_O_laid 20 = .ok (.invokespecial 119, 3) := by decide +kernel
theorem dd_O_laid_23 : decode cc_O_laid 23 = .ok (.athrow, 1) := by decide +kernel
theorem dd_O_laid_24 : decode cc_O_laid 24 = .ok (.aload_n 0, 1) := by decide +kernel
theorem dd_O_laid_25 : decode cc_O_laid 25 = .ok (.getfield 18, 3) := by decide +kernel
theorem dd_O_laid_28 : decode cc_O_laid 28 = .ok (.aload_n 0, 1) := by decide +kernel
theorem dd_O_laid_29 : decode cc_O_laid 29 = .ok (.getfield 54, 3) := by decide +kernel
theorem dd_O_laid_32 : decode cc_O_laid 32 = .ok (.aaload, 1) := by decide +kernel
theorem dd_O_laid_33 : decode cc_O_laid 33 = .ok (.iload_n 1, 1) := by decide +kernel
theorem dd_O_laid_34 : decode cc_O_laid 34 = .ok (.iaload, 1) := by decide +kernel
theorem dd_O_laid_35 : decode cc_O_laid 35 = .ok (.ireturn, 1) := by decide +kernel
theorem dd_O_assign_0 : decode cc_O_assign 0 = .ok (.aload_n 0, 1) := by decide +kernel
theorem dd_O_assign_1 : decode cc_O_assign 1 = .ok (.getfield 48, 3) := by decide +kernel
theorem dd_O_assign_4 : decode cc_O_assign 4 = .ok (.iconst 4, 1) := by decide +kernel
theorem dd_O_assign_5 : decode cc_O_assign 5 = .ok (.if_icmp .ne (21), 3) := by decide +kernel
theorem dd_O_assign_8 : decode cc_O_assign 8 = .ok (.iload_n 1, 1) := by decide +kernel
theorem dd_O_assign_9 : decode cc_O_assign 9 = .ok (.invokestatic 133, 3) := by decide +kernel
theorem dd_O_assign_12 : decode cc_O_assign 12 = .ok (.ifCond .eq (14), 3) := by decide +kernel
theorem dd_O_assign_15 : decode cc_O_assign 15 = .ok (.aload_n 0, 1) := by decide +kernel
theorem dd_O_assign_16 : decode cc_O_assign 16 = .ok (.getfield 21, 3) := by decide +kernel
theorem dd_O_assign_19 : decode cc_O_assign 19 = .ok (.iload_n 1, 1) := by decide +kernel
theorem dd_O_assign_20 : decode cc_O_assign 20 = .ok (.iaload, 1) := by decide +kernel
theorem dd_O_assign_21 : decode cc_O_assign 21 = .ok (.bipush (-2), 2) := by decide +kernel
theorem dd_O_assign_23 : decode cc_O_assign 23 = .ok (.if_icmp .eq (5), 3) := by decide +kernel
theorem dd_O_assign_26 : decode cc_O_assign 26 = .ok (.iconst 0, 1) := by decide +kernel
theorem dd_O_assign_27 : decode cc_O_assign 27 = .ok (.ireturn, 1) := by decide +kernel
theorem dd_O_assign_28 : decode cc_O_assign 28 = .ok (.iload_n 2, 1) := by decide +kernel
theorem dd_O_assign_29 : decode cc_O_assign 29 = .ok (.iconst (-1), 1) := by decide +kernel
theorem dd_O_assign_30 : decode cc_O_assign 30 = .ok (.if_icmp .eq (13), 3) := by decide +kernel
theorem dd_O_assign_33 : decode cc_O_assign 33 = .ok (.aload_n 0, 1) := by decide +kernel
theorem dd_O_assign_34 : decode cc_O_assign 34 = .ok (.iload_n 2, 1) := by decide +kernel
theorem dd_O_assign_35 : decode cc_O_assign 35 = .ok (.invokevirtual 74, 3) := by decide +kernel
theorem dd_O_assign_38 : decode cc_O_assign 38 = .ok (.ifCond .ne (5), 3) := by decide +kernel
theorem dd_O_assign_41 : decode cc_O_assign 41 = .ok (.iconst 0, 1) := by decide +kernel
theorem dd_O_assign_42 : decode cc_O_assign 42 = .ok (.ireturn, 1) := by decide +kernel
theorem dd_O_assign_43 : decode cc_O_assign 43 = .ok (.aload_n 0, 1) := by decide +kernel
theorem dd_O_assign_44 : decode cc_O_assign 44 = .ok (.getfield 21, 3) := by decide +kernel
theorem dd_O_assign_47 : decode cc_O_assign 47 = .ok (.iload_n 1, 1) := by decide +kernel
theorem dd_O_assign_48 : decode cc_O_assign 48 = .ok (.iload_n 2, 1) := by decide +kernel
theorem dd_O_assign_49 : decode cc_O_assign 49 = .ok (.iastore, 1) := by decide +kernel
theorem dd_O_assign_50 : decode cc_O_assign 50 = .ok (.iconst 1, 1) := by decide +kernel
theorem dd_O_assign_51 : decode cc_O_assign 51 = .ok (.ireturn, 1) := by decide +kernel
theorem dd_O_give_0 : decode cc_O_give 0 = .ok (.aload_n 0, 1) := by decide +kernel
theorem dd_O_give_1 : decode cc_O_give 1 = .ok (.getfield 48, 3) := by decide +kernel
theorem dd_O_give_4 : decode cc_O_give 4 = .ok (.iconst 4, 1) := by decide +kernel
theorem dd_O_give_5 : decode cc_O_give 5 = .ok (.if_icmp .ne (18), 3) := by decide +kernel
theorem dd_O_give_8 : decode cc_O_give 8 = .ok (.aload_n 0, 1) := by decide +kernel
theorem dd_O_give_9 : decode cc_O_give 9 = .ok (.iload_n 1, 1) := by decide +kernel
theorem dd_O_give_10 : decode cc_O_give 10 = .ok (.invokevirtual 74, 3) := by decide +kernel
theorem dd_O_give_13 : decode cc_O_give 13 = .ok (.ifCond .eq (10), 3) := by decide +kernel
theorem dd_O_give_16 : decode cc_O_give 16 = .ok (.iload_n 2, 1) := by decide +kernel
theorem dd_O_give_17 : decode cc_O_give 17 = .ok (.invokestatic 133, 3) := by decide +kernel
theorem dd_O_give_20 : decode cc_O_give 20 = .ok (.ifCond .ne (5), 3) := by decide +kernel
theorem dd_O_give_23 : decode cc_O_give 23 = .ok (.iconst 0, 1) := by decide +kernel
theorem dd_O_give_24 : decode cc_O_give 24 = .ok (.ireturn, 1) := by decide +kernel
theorem dd_O_give_25 : decode cc_O_give 25 = .ok (.aload_n 0, 1) := by decide +kernel
theorem dd_O_give_26 : decode cc_O_give 26 = .ok (.getfield 11, 3) := by decide +kernel
theorem dd_O_give_29 : decode cc_O_give 29 = .ok (.iload_n 1, 1) := by decide +kernel
theorem dd_O_give_30 : decode cc_O_give 30 = .ok (.aaload, 1) := by decide +kernel
theorem dd_O_give_31 : decode cc_O_give 31 = .ok (.astore_n 3, 1) := by decide +kernel
theorem dd_O_give_32 : decode cc_O_give 32 = .ok (.aload_n 0, 1) := by decide +kernel
theorem dd_O_give_33 : decode cc_O_give 33 = .ok (.getfield 21, 3) := by decide +kernel
theorem dd_O_give_36 : decode cc_O_give 36 = .ok (.iload_n 2, 1) := by decide +kernel
theorem dd_O_give_37 : decode cc_O_give 37 = .ok (.iaload, 1) := by decide +kernel
theorem dd_O_give_38 : decode cc_O_give 38 = .ok (.bipush (-2), 2) := by decide +kernel
theorem dd_O_give_40 : decode cc_O_give 40 = .ok (.if_icmp .eq (21), 3) := by decide +kernel
theorem dd_O_give_43 : decode cc_O_give 43 = .ok (.aload_n 0, 1) := by decide +kernel
theorem dd_O_give_44 : decode cc_O_give 44 = .ok (.getfield 21, 3) := by decide +kernel
theorem dd_O_give_47 : decode cc_O_give 47 = .ok (.iload_n 2, 1) := by decide +kernel
theorem dd_O_give_48 : decode cc_O_give 48 = .ok (.iaload, 1) := by decide +kernel
theorem dd_O_give_49 : decode cc_O_give 49 = .ok (.iload_n 1, 1) := by decide +kernel
theorem dd_O_give_50 : decode cc_O_give 50 = .ok (.if_icmp .eq (11), 3) := by decide +kernel
theorem dd_O_give_53 : decode cc_O_give 53 = .ok (.aload_n 3, 1) := by decide +kernel
theorem dd_O_give_54 : decode cc_O_give 54 = .ok (.iload_n 2, 1) := by decide +kernel
theorem dd_O_give_55 : decode cc_O_give 55 = .ok (.invokevirtual 138, 3) := by decide +kernel
theorem dd_O_give_58 : decode cc_O_give 58 = .ok (.ifCond .eq (5), 3) := by decide +kernel
theorem dd_O_give_61 : decode cc_O_give 61 = .ok (.iconst 0, 1) := by decide +kernel
theorem dd_O_give_62 : decode cc_O_give 62 = .ok (.ireturn, 1) := by decide +kernel
theorem dd_O_give_63 : decode cc_O_give 63 = .ok (.aload_n 3, 1) := by decide +kernel
theorem dd_O_give_64 : decode cc_O_give 64 = .ok (.getfield 102, 3) := by decide +kernel
theorem dd_O_give_67 : decode cc_O_give 67 = .ok (.iload_n 2, 1) := by decide +kernel
theorem dd_O_give_68 : decode cc_O_give 68 = .ok (.iaload, 1) := by decide +kernel
theorem dd_O_give_69 : decode cc_O_give 69 = .ok (.istore 4, 2) := by decide +kernel
theorem dd_O_give_71 : decode cc_O_give 71 = .ok (.aload_n 3, 1) := by decide +kernel
theorem dd_O_give_72 : decode cc_O_give 72 = .ok (.getfield 141, 3) := by decide +kernel
theorem dd_O_give_75 : decode cc_O_give 75 = .ok (.iload_n 2, 1) := by decide +kernel
theorem dd_O_give_76 : decode cc_O_give 76 = .ok (.aload_n 3, 1) := by decide +kernel
theorem dd_O_give_77 : decode cc_O_give 77 = .ok (.iconst 2, 1) := by decide +kernel
theorem dd_O_give_78 : decode cc_O_give 78 = .ok (.iload_n 2, 1) := by decide +kernel
theorem dd_O_give_79 : decode cc_O_give 79 = .ok (.invokevirtual 144, 3) := by decide +kernel
theorem dd_O_give_82 : decode cc_O_give 82 = .ok (.ifCond .eq (15), 3) := by decide +kernel
theorem dd_O_give_85 : decode cc_O_give 85 = .ok (.iload 4, 2) := by decide +kernel
theorem dd_O_give_87 : decode cc_O_give 87 = .ok (.aload_n 0, 1) := by decide +kernel
theorem dd_O_give_88 : decode cc_O_give 88 = .ok (.getfield 35, 3) := by decide +kernel
theorem dd_O_give_91 : decode cc_O_give 91 = .ok (.invokestatic 147, 3) := by decide +kernel
theorem dd_O_give_94 : decode cc_O_give 94 = .ok (.goto (5), 3) := by decide +kernel
theorem dd_O_give_97 : decode cc_O_give 97 = .ok (.iload 4, 2) := by decide +kernel
theorem dd_O_give_99 : decode cc_O_give 99 = .ok (.iastore, 1) := by decide +kernel
theorem dd_O_give_100 : decode cc_O_give 100 = .ok (.iconst 1, 1) := by decide +kernel
theorem dd_O_give_101 : decode cc_O_give 101 = .ok (.ireturn, 1) := by decide +kernel
theorem dd_O_open_0 : decode cc_O_open 0 = .ok (.aload_n 0, 1) := by decide +kernel
theorem dd_O_open_1 : decode cc_O_open 1 = .ok (.getfield 48, 3) := by decide +kernel
theorem dd_O_open_4 : decode cc_O_open 4 = .ok (.iconst 4, 1) := by decide +kernel
theorem dd_O_open_5 : decode cc_O_open 5 = .ok (.if_icmp .lt (27), 3) := by decide +kernel
theorem dd_O_open_8 : decode cc_O_open 8 = .ok (.aload_n 0, 1) := by decide +kernel
theorem dd_O_open_9 : decode cc_O_open 9 = .ok (.iload_n 1, 1) := by decide +kernel
theorem dd_O_open_10 : decode cc_O_open 10 = .ok (.invokevirtual 74, 3) := by decide +kernel
theorem dd_O_open_13 : decode cc_O_open 13 = .ok (.ifCond .eq (19), 3) := by decide +kernel
theorem dd_O_open_16 : decode cc_O_open 16 = .ok (.iload_n 2, 1) := by decide +kernel
theorem dd_O_open_17 : decode cc_O_open 17 = .ok (.invokestatic 133, 3) := by decide +kernel
theorem dd_O_open_20 : decode cc_O_open 20 = .ok (.ifCond .eq (12), 3) := by decide +kernel
theorem dd_O_open_23 : decode cc_O_open 23 = .ok (.aload_n 0, 1) := by decide +kernel
theorem dd_O_open_24 : decode cc_O_open 24 = .ok (.iload_n 1, 1) := by decide +kernel
theorem dd_O_open_25 : decode cc_O_open 25 = .ok (.iload_n 2, 1) := by decide +kernel
theorem dd_O_open_26 : decode cc_O_open 26 = .ok (.invokevirtual 150, 3) := by decide +kernel
theorem dd_O_open_29 : decode cc_O_open 29 = .ok (.ifCond .ne (5), 3) := by decide +kernel
theorem dd_O_open_32 : decode cc_O_open 32 = .ok (.iconst (-1), 1) := by decide +kernel
theorem dd_O_open_33 : decode cc_O_open 33 = .ok (.ireturn, 1) := by decide +kernel
theorem dd_O_open_34 : decode cc_O_open 34 = .ok (.aload_n 0, 1) := by decide +kernel
theorem dd_O_open_35 : decode cc_O_open 35 = .ok (.getfield 18, 3) := by decide +kernel
theorem dd_O_open_38 : decode cc_O_open 38 = .ok (.aload_n 0, 1) := by decide +kernel
theorem dd_O_open_39 : decode cc_O_open 39 = .ok (.getfield 54, 3) := by decide +kernel
theorem dd_O_open_42 : decode cc_O_open 42 = .ok (.aaload, 1) := by decide +kernel
theorem dd_O_open_43 : decode cc_O_open 43 = .ok (.iload_n 2, 1) := by decide +kernel
theorem dd_O_open_44 : decode cc_O_open 44 = .ok (.iaload, 1) := by decide +kernel
theorem dd_O_open_45 : decode cc_O_open 45 = .ok (.istore_n 3, 1) := by decide +kernel
theorem dd_O_open_46 : decode cc_O_open 46 = .ok (.iconst 0, 1) := by decide +kernel
theorem dd_O_open_47 : decode cc_O_open 47 = .ok (.istore 4, 2) := by decide +kernel
theorem dd_O_open_49 : decode cc_O_open 49 = .ok (.iload 4, 2) := by decide +kernel
theorem dd_O_open_51 : decode cc_O_open 51 = .ok (.aload_n 0, 1) := by decide +kernel
theorem dd_O_open_52 : decode cc_O_open 52 = .ok (.getfield 51, 3) := by decide +kernel
theorem dd_O_open_55 : decode cc_O_open 55 = .ok (.if_icmp .ge (64), 3) := by decide +kernel
theorem dd_O_open_58 : decode cc_O_open 58 = .ok (.aload_n 0, 1) := by decide +kernel
theorem dd_O_open_59 : decode cc_O_open 59 = .ok (.getfield 11, 3) := by decide +kernel
theorem dd_O_open_62 : decode cc_O_open 62 = .ok (.iload 4, 2) := by decide +kernel
theorem dd_O_open_64 : decode cc_O_open 64 = .ok (.aaload, 1) := by decide +kernel
theorem dd_O_open_65 : decode cc_O_open 65 = .ok (.astore 5, 2) := by decide +kernel
theorem dd_O_open_67 : decode cc_O_open 67 = .ok (.aload 5, 2) := by decide +kernel
theorem dd_O_open_69 : decode cc_O_open 69 = .ok (.iload_n 2, 1) := by decide +kernel
theorem dd_O_open_70 : decode cc_O_open 70 = .ok (.invokevirtual 138, 3) := by decide +kernel
theorem dd_O_open_73 : decode cc_O_open 73 = .ok (.ifCond .eq (13), 3) := by decide +kernel
theorem dd_O_open_76 : decode cc_O_open 76 = .ok (.aload 5, 2) := by decide +kernel
theorem dd_O_open_78 : decode cc_O_open 78 = .ok (.getfield 141, 3) := by decide +kernel
theorem dd_O_open_81 : decode cc_O_open 81 = .ok (.iload_n 2, 1) := by decide +kernel
theorem dd_O_open_82 : decode cc_O_open 82 = .ok (.iaload, 1) := by decide +kernel
theorem dd_O_open_83 : decode cc_O_open 83 = .ok (.goto (10), 3) := by decide +kernel
theorem dd_O_open_86 : decode cc_O_open 86 = .ok (.aload 5, 2) := by decide +kernel
theorem dd_O_open_88 : decode cc_O_open 88 = .ok (.getfield 102, 3) := by decide +kernel
theorem dd_O_open_91 : decode cc_O_open 91 = .ok (.iload_n 2, 1) := by decide +kernel
theorem dd_O_open_92 : decode cc_O_open 92 = .ok (.iaload, 1) := by decide +kernel
theorem dd_O_open_93 : decode cc_O_open 93 = .ok (.istore 6, 2) := by decide +kernel
theorem dd_O_open_95 : decode cc_O_open 95 = .ok (.iload_n 3, 1) := by decide +kernel
theorem dd_O_open_96 : decode cc_O_open 96 = .ok (.iload 6, 2) := by decide +kernel
theorem dd_O_open_98 : decode cc_O_open 98 = .ok (.aload_n 0, 1) := by decide +kernel
theorem dd_O_open_99 : decode cc_O_open 99 = .ok (.getfield 35, 3) := by decide +kernel
theorem dd_O_open_102 : decode cc_O_open 102 = .ok (.invokestatic 153, 3) := by decide +kernel
theorem dd_O_open_105 : decode cc_O_open 105 = .ok (.aload_n 0, 1) := by decide +kernel
theorem dd_O_open_106 : decode cc_O_open 106 = .ok (.getfield 35, 3) := by decide +kernel
theorem dd_O_open_109 : decode cc_O_open 109 = .ok (.invokestatic 156, 3) := by decide +kernel
theorem dd_O_open_112 : decode cc_O_open 112 = .ok (.istore_n 3, 1) := by decide +kernel
theorem dd_O_open_113 : decode cc_O_open 113 = .ok (.iinc 4 (1), 3) := by decide +kernel
theorem dd_O_open_116 : decode cc_O_open 116 = .ok (.goto (-67), 3) := by decide +kernel
theorem dd_O_open_119 : decode cc_O_open 119 = .ok (.aload_n 0, 1) := by decide +kernel
theorem dd_O_open_120 : decode cc_O_open 120 = .ok (.iload_n 3, 1) := by decide +kernel
theorem dd_O_open_121 : decode cc_O_open 121 = .ok (.invokevirtual 160, 3) := by decide +kernel
theorem dd_O_open_124 : decode cc_O_open 124 = .ok (.ireturn, 1) := by decide +kernel
theorem dd_O_round_0 : decode cc_O_round 0 = .ok (.aload_n 0, 1) := by decide +kernel
theorem dd_O_round_1 : decode cc_O_round 1 = .ok (.getfield 48, 3) := by decide +kernel
theorem dd_O_round_4 : decode cc_O_round 4 = .ok (.iconst 4, 1) := by decide +kernel
theorem dd_O_round_5 : decode cc_O_round 5 = .ok (.if_icmp .ne (11), 3) := by decide +kernel
theorem dd_O_round_8 : decode cc_O_round 8 = .ok (.aload_n 0, 1) := by decide +kernel
theorem dd_O_round_9 : decode cc_O_round 9 = .ok (.getfield 31, 3) := by decide +kernel
theorem dd_O_round_12 : decode cc_O_round 12 = .ok (.iconst (-1), 1) := by decide +kernel
theorem dd_O_round_13 : decode cc_O_round 13 = .ok (.if_icmp .eq (5), 3) := by decide +kernel
theorem dd_O_round_16 : decode cc_O_round 16 = .ok (.iconst 0, 1) := by decide +kernel
theorem dd_O_round_17 : decode cc_O_round 17 = .ok (.ireturn, 1) := by decide +kernel
theorem dd_O_round_18 : decode cc_O_round 18 = .ok (.aload_n 0, 1) := by decide +kernel
theorem dd_O_round_19 : decode cc_O_round 19 = .ok (.invokevirtual 164, 3) := by decide +kernel
theorem dd_O_round_22 : decode cc_O_round 22 = .ok (.aload_n 0, 1) := by decide +kernel
theorem dd_O_round_23 : decode cc_O_round 23 = .ok (.invokevirtual 167, 3) := by decide +kernel
theorem dd_O_round_26 : decode cc_O_round 26 = .ok (.iconst 2, 1) := by decide +kernel
theorem dd_O_round_27 : decode cc_O_round 27 = .ok (.if_icmp .lt (12), 3) := by decide +kernel
theorem dd_O_round_30 : decode cc_O_round 30 = .ok (.aload_n 0, 1) := by decide +kernel
theorem dd_O_round_31 : decode cc_O_round 31 = .ok (.aload_n 0, 1) := by decide +kernel
theorem dd_O_round_32 : decode cc_O_round 32 = .ok (.iconst (-1), 1) := by decide +kernel
theorem dd_O_round_33 : decode cc_O_round 33 = .ok (.invokevirtual 170, 3) := by decide +kernel
theorem dd_O_round_36 : decode cc_O_round 36 = .ok (.putfield 31, 3) := by decide +kernel
theorem dd_O_round_39 : decode cc_O_round 39 = .ok (.iconst 1, 1) := by decide +kernel
theorem dd_O_round_40 : decode cc_O_round 40 = .ok (.ireturn, 1) := by decide +kernel
theorem dd_O_bet_0 : decode cc_O_bet 0 = .ok (.aload_n 0, 1) := by decide +kernel
theorem dd_O_bet_1 : decode cc_O_bet 1 = .ok (.getfield 31, 3) := by decide +kernel
theorem dd_O_bet_4 : decode cc_O_bet 4 = .ok (.iconst (-1), 1) := by decide +kernel
theorem dd_O_bet_5 : decode cc_O_bet 5 = .ok (.if_icmp .eq (11), 3) := by decide +kernel
theorem dd_O_bet_8 : decode cc_O_bet 8 = .ok (.iload_n 1, 1) := by decide +kernel
theorem dd_O_bet_9 : decode cc_O_bet 9 = .ok (.aload_n 0, 1) := by decide +kernel
theorem dd_O_bet_10 : decode cc_O_bet 10 = .ok (.getfield 31, 3) := by decide +kernel
theorem dd_O_bet_13 : decode cc_O_bet 13 = .ok (.if_icmp .eq (5), 3) := by decide +kernel
theorem dd_O_bet_16 : decode cc_O_bet 16 = .ok (.iconst 0, 1) := by decide +kernel
theorem dd_O_bet_17 : decode cc_O_bet 17 = .ok (.ireturn, 1) := by decide +kernel
theorem dd_O_bet_18 : decode cc_O_bet 18 = .ok (.aload_n 0, 1) := by decide +kernel
theorem dd_O_bet_19 : decode cc_O_bet 19 = .ok (.getfield 11, 3) := by decide +kernel
theorem dd_O_bet_22 : decode cc_O_bet 22 = .ok (.aload_n 0, 1) := by decide +kernel
theorem dd_O_bet_23 : decode cc_O_bet 23 = .ok (.getfield 31, 3) := by decide +kernel
theorem dd_O_bet_26 : decode cc_O_bet 26 = .ok (.aaload, 1) := by decide +kernel
theorem dd_O_bet_27 : decode cc_O_bet 27 = .ok (.astore 4, 2) := by decide +kernel
theorem dd_O_bet_29 : decode cc_O_bet 29 = .ok (.aload_n 0, 1) := by decide +kernel
theorem dd_O_bet_30 : decode cc_O_bet 30 = .ok (.invokevirtual 173, 3) := by decide +kernel
theorem dd_O_bet_33 : decode cc_O_bet 33 = .ok (.aload 4, 2) := by decide +kernel
theorem dd_O_bet_35 : decode cc_O_bet 35 = .ok (.getfield 176, 3) := by decide +kernel
theorem dd_O_bet_38 : decode cc_O_bet 38 = .ok (.isub, 1) := by decide +kernel
theorem dd_O_bet_39 : decode cc_O_bet 39 = .ok (.istore 5, 2) := by decide +kernel
theorem dd_O_bet_41 : decode cc_O_bet 41 = .ok (.iload_n 2, 1) := by decide +kernel
theorem dd_O_bet_42 : decode cc_O_bet 42 = .ok (.tableswitch (88) (0) (2) #[26, 35, 53], 26) := by decide +kernel
theorem dd_O_bet_68 : decode cc_O_bet 68 = .ok (.aload 4, 2) := by decide +kernel
theorem dd_O_bet_70 : decode cc_O_bet 70 = .ok (.iconst 1, 1) := by decide +kernel
theorem dd_O_bet_71 : decode cc_O_bet 71 = .ok (.putfield 179, 3) := by decide +kernel
theorem dd_O_bet_74 : decode cc_O_bet 74 = .ok (.goto (58), 3) := by decide +kernel
theorem dd_O_bet_77 : decode cc_O_bet 77 = .ok (.aload 4, 2) := by decide +kernel
theorem dd_O_bet_79 : decode cc_O_bet 79 = .ok (.iload 5, 2) := by decide +kernel
theorem dd_O_bet_81 : decode cc_O_bet 81 = .ok (.aload 4, 2) := by decide +kernel
theorem dd_O_bet_83 : decode cc_O_bet 83 = .ok (.getfield 58, 3) := by decide +kernel
theorem dd_O_bet_86 : decode cc_O_bet 86 = .ok (.invokestatic 182, 3) := by decide +kernel
theorem dd_O_bet_89 : decode cc_O_bet 89 = .ok (.invokevirtual 187, 3) := by decide +kernel
theorem dd_O_bet_92 : decode cc_O_bet 92 = .ok (.goto (40), 3) := by decide +kernel
theorem dd_O_bet_95 : decode cc_O_bet 95 = .ok (.iload_n 3, 1) := by decide +kernel
theorem dd_O_bet_96 : decode cc_O_bet 96 = .ok (.iconst 1, 1) := by decide +kernel
theorem dd_O_bet_97 : decode cc_O_bet 97 = .ok (.if_icmp .lt (15), 3) := by decide +kernel
theorem dd_O_bet_100 : decode cc_O_bet 100 = .ok (.iload_n 3, 1) := by decide +kernel
theorem dd_O_bet_101 : decode cc_O_bet 101 = .ok (.aload 4, 2) := by decide +kernel
theorem dd_O_bet_103 : decode cc_O_bet 103 = .ok (.getfield 58, 3) := by decide +kernel
theorem dd_O_bet_106 : decode cc_O_bet 106 = .ok (.iload 5, 2) := by decide +kernel
theorem dd_O_bet_108 : decode cc_O_bet 108 = .ok (.isub, 1) := by decide +kernel
theorem dd_O_bet_109 : decode cc_O_bet 109 = .ok (.if_icmp .le (5), 3) := by decide +kernel
theorem dd_O_bet_112 : decode cc_O_bet 112 = .ok (.iconst 0, 1) := by decide +kernel
theorem dd_O_bet_113 : decode cc_O_bet 113 = .ok (.ireturn, 1) := by decide +kernel
theorem dd_O_bet_114 : decode cc_O_bet 114 = .ok (.aload 4, 2) := by decide +kernel
theorem dd_O_bet_116 : decode cc_O_bet 116 = .ok (.iload 5, 2) := by decide +kernel
theorem dd_O_bet_118 : decode cc_O_bet 118 = .ok (.iload_n 3, 1) := by decide +kernel
theorem dd_O_bet_119 : decode cc_O_bet 119 = .ok (.iadd, 1) := by decide +kernel
theorem dd_O_bet_120 : decode cc_O_bet 120 = .ok (.invokevirtual 187, 3) := by decide +kernel
theorem dd_O_bet_123 : decode cc_O_bet 123 = .ok (.aload_n 0, 1) := by decide +kernel
theorem dd_O_bet_124 : decode cc_O_bet 124 = .ok (.invokevirtual 164, 3) := by decide +kernel
theorem dd_O_bet_127 : decode cc_O_bet 127 = .ok (.goto (5), 3) := by decide +kernel
theorem dd_O_bet_130 : decode cc_O_bet 130 = .ok (.iconst 0, 1) := by decide +kernel
theorem dd_O_bet_131 : decode cc_O_bet 131 = .ok (.ireturn, 1) := by decide +kernel
theorem dd_O_bet_132 : decode cc_O_bet 132 = .ok (.aload 4, 2) := by decide +kernel
theorem dd_O_bet_134 : decode cc_O_bet 134 = .ok (.iconst 1, 1) := by decide +kernel
theorem dd_O_bet_135 : decode cc_O_bet 135 = .ok (.putfield 191, 3) := by decide +kernel
theorem dd_O_bet_138 : decode cc_O_bet 138 = .ok (.aload_n 0, 1) := by decide +kernel
theorem dd_O_bet_139 : decode cc_O_bet 139 = .ok (.invokevirtual 194, 3) := by decide +kernel
theorem dd_O_bet_142 : decode cc_O_bet 142 = .ok (.iconst 1, 1) := by decide +kernel
theorem dd_O_bet_143 : decode cc_O_bet 143 = .ok (.ireturn, 1) := by decide +kernel
theorem dd_O_settle_0 : decode cc_O_settle 0 = .ok (.aload_n 0, 1) := by decide +kernel
theorem dd_O_settle_1 : decode cc_O_settle 1 = .ok (.getfield 48, 3) := by decide +kernel
theorem dd_O_settle_4 : decode cc_O_settle 4 = .ok (.iconst 4, 1) := by decide +kernel
theorem dd_O_settle_5 : decode cc_O_settle 5 = .ok (.if_icmp .ne (11), 3) := by decide +kernel
theorem dd_O_settle_8 : decode cc_O_settle 8 = .ok (.aload_n 0, 1) := by decide +kernel
theorem dd_O_settle_9 : decode cc_O_settle 9 = .ok (.getfield 31, 3) := by decide +kernel
theorem dd_O_settle_12 : decode cc_O_settle 12 = .ok (.iconst (-1), 1) := by decide +kernel
theorem dd_O_settle_13 : decode cc_O_settle 13 = .ok (.if_icmp .eq (5), 3) := by decide +kernel
theorem dd_O_settle_16 : decode cc_O_settle 16 = .ok (.iconst 0, 1) := by decide +kernel
theorem dd_O_settle_17 : decode cc_O_settle 17 = .ok (.ireturn, 1) := by decide +kernel
theorem dd_O_settle_18 : decode cc_O_settle 18 = .ok (.iconst 0, 1) := by decide +kernel
theorem dd_O_settle_19 : decode cc_O_settle 19 = .ok (.istore_n 2, 1) := by decide +kernel
theorem dd_O_settle_20 : decode cc_O_settle 20 = .ok (.iload_n 2, 1) := by decide +kernel
theorem dd_O_settle_21 : decode cc_O_settle 21 = .ok (.aload_n 0, 1) := by decide +kernel
theorem dd_O_settle_22 : decode cc_O_settle 22 = .ok (.getfield 51, 3) := by decide +kernel
theorem dd_O_settle_25 : decode cc_O_settle 25 = .ok (.if_icmp .ge (18), 3) := by decide +kernel
theorem dd_O_settle_28 : decode cc_O_settle 28 = .ok (.aload_n 0, 1) := by decide +kernel
theorem dd_O_settle_29 : decode cc_O_settle 29 = .ok (.aload_n 0, 1) := by decide +kernel
theorem dd_O_settle_30 : decode cc_O_settle 30 = .ok (.invokevirtual 197, 3) := by decide +kernel
theorem dd_O_settle_33 : decode cc_O_settle 33 = .ok (.iload_n 1, 1) := by decide +kernel
theorem dd_O_settle_34 : decode cc_O_settle 34 = .ok (.invokevirtual 200, 3) := by decide +kernel
theorem dd_O_settle_37 : decode cc_O_settle 37 = .ok (.iinc 2 (1), 3) := by decide +kernel
theorem dd_O_settle_40 : decode cc_O_settle 40 = .ok (.goto (-20), 3) := by decide +kernel
theorem dd_O_settle_43 : decode cc_O_settle 43 = .ok (.aload_n 0, 1) := by decide +kernel
theorem dd_O_settle_44 : decode cc_O_settle 44 = .ok (.iconst 5, 1) := by decide +kernel
theorem dd_O_settle_45 : decode cc_O_settle 45 = .ok (.putfield 48, 3) := by decide +kernel
theorem dd_O_settle_48 : decode cc_O_settle 48 = .ok (.iconst 1, 1) := by decide +kernel
theorem dd_O_settle_49 : decode cc_O_settle 49 = .ok (.ireturn, 1) := by decide +kernel
theorem dd_O_show_0 : decode cc_O_show 0 = .ok (.aload_n 0, 1) := by decide +kernel
theorem dd_O_show_1 : decode cc_O_show 1 = .ok (.getfield 48, 3) := by decide +kernel
theorem dd_O_show_4 : decode cc_O_show 4 = .ok (.iconst 5, 1) := by decide +kernel
theorem dd_O_show_5 : decode cc_O_show 5 = .ok (.if_icmp .ne (23), 3) := by decide +kernel
theorem dd_O_show_8 : decode cc_O_show 8 = .ok (.aload_n 0, 1) := by decide +kernel
theorem dd_O_show_9 : decode cc_O_show 9 = .ok (.iload_n 1, 1) := by decide +kernel
theorem dd_O_show_10 : decode cc_O_show 10 = .ok (.invokevirtual 74, 3) := by decide +kernel
theorem dd_O_show_13 : decode cc_O_show 13 = .ok (.ifCond .eq (15), 3) := by decide +kernel
theorem dd_O_show_16 : decode cc_O_show 16 = .ok (.aload_n 0, 1) := by decide +kernel
theorem dd_O_show_17 : decode cc_O_show 17 = .ok (.getfield 11, 3) := by decide +kernel
theorem dd_O_show_20 : decode cc_O_show 20 = .ok (.iload_n 1, 1) := by decide +kernel
theorem dd_O_show_21 : decode cc_O_show 21 = .ok (.aaload, 1) := by decide +kernel
theorem dd_O_show_22 : decode cc_O_show 22 = .ok (.getfield 204, 3) := by decide +kernel
theorem dd_O_show_25 : decode cc_O_show 25 = .ok (.ifCond .eq (5), 3) := by decide +kernel
theorem dd_O_show_28 : decode cc_O_show 28 = .ok (.iconst 0, 1) := by decide +kernel
theorem dd_O_show_29 : decode cc_O_show 29 = .ok (.ireturn, 1) := by decide +kernel
theorem dd_O_show_30 : decode cc_O_show 30 = .ok (.aload_n 0, 1) := by decide +kernel
theorem dd_O_show_31 : decode cc_O_show 31 = .ok (.getfield 11, 3) := by decide +kernel
theorem dd_O_show_34 : decode cc_O_show 34 = .ok (.iload_n 1, 1) := by decide +kernel
theorem dd_O_show_35 : decode cc_O_show 35 = .ok (.aaload, 1) := by decide +kernel
theorem dd_O_show_36 : decode cc_O_show 36 = .ok (.aload_n 0, 1) := by decide +kernel
theorem dd_O_show_37 : decode cc_O_show 37 = .ok (.getfield 35, 3) := by decide +kernel
theorem dd_O_show_40 : decode cc_O_show 40 = .ok (.invokevirtual 207, 3) := by decide +kernel
theorem dd_O_show_43 : decode cc_O_show 43 = .ok (.aload_n 0, 1) := by decide +kernel
theorem dd_O_show_44 : decode cc_O_show 44 = .ok (.invokevirtual 210, 3) := by decide +kernel
theorem dd_O_show_47 : decode cc_O_show 47 = .ok (.ifCond .eq (17), 3) := by decide +kernel
theorem dd_O_show_50 : decode cc_O_show 50 = .ok (.aload_n 0, 1) := by decide +kernel
theorem dd_O_show_51 : decode cc_O_show 51 = .ok (.bipush (6), 2) := by decide +kernel
theorem dd_O_show_53 : decode cc_O_show 53 = .ok (.putfield 48, 3) := by decide +kernel
theorem dd_O_show_56 : decode cc_O_show 56 = .ok (.aload_n 0, 1) := by decide +kernel
theorem dd_O_show_57 : decode cc_O_show 57 = .ok (.aload_n 0, 1) := by decide +kernel
theorem dd_O_show_58 : decode cc_O_show 58 = .ok (.invokevirtual 213, 3) := by decide +kernel
theorem dd_O_show_61 : decode cc_O_show 61 = .ok (.putfield 216, 3) := by decide +kernel
theorem dd_O_show_64 : decode cc_O_show 64 = .ok (.iconst 1, 1) := by decide +kernel
theorem dd_O_show_65 : decode cc_O_show 65 = .ok (.ireturn, 1) := by decide +kernel
theorem dd_O_audit_0 : decode cc_O_audit 0 = .ok (.aload_n 0, 1) := by decide +kernel
theorem dd_O_audit_1 : decode cc_O_audit 1 = .ok (.getfield 48, 3) := by decide +kernel
theorem dd_O_audit_4 : decode cc_O_audit 4 = .ok (.bipush (6), 2) := by decide +kernel
theorem dd_O_audit_6 : decode cc_O_audit 6 = .ok (.if_icmp .eq (13), 3) := by decide +kernel
theorem dd_O_audit_9 : decode cc_O_audit 9 = .ok (.new 219, 3) := by decide +kernel
theorem dd_O_audit_12 : decode cc_O_audit 12 = .ok (.dup, 1) := by decide +kernel
theorem dd_O_audit_13 : decode cc_O_audit 13 = .ok (.ldc 221, 2) := by decide +kernel
theorem dd_O_audit_15 : decode cc_O_audit 15 = .ok (.invokespecial 223, 3) := by decide +kernel
theorem dd_O_audit_18 : decode cc_O_audit 18 = .ok (.athrow, 1) := by decide +kernel
theorem dd_O_audit_19 : decode cc_O_audit 19 = .ok (.aload_n 0, 1) := by decide +kernel
theorem dd_O_audit_20 : decode cc_O_audit 20 = .ok (.getfield 216, 3) := by decide +kernel
theorem dd_O_audit_23 : decode cc_O_audit 23 = .ok (.ireturn, 1) := by decide +kernel
theorem dd_O_cheat_0 : decode cc_O_cheat 0 = .ok (.aload_n 0, 1) := by decide +kernel
theorem dd_O_cheat_1 : decode cc_O_cheat 1 = .ok (.getfield 48, 3) := by decide +kernel
theorem dd_O_cheat_4 : decode cc_O_cheat 4 = .ok (.iconst 1, 1) := by decide +kernel
theorem dd_O_cheat_5 : decode cc_O_cheat 5 = .ok (.if_icmp .lt (19), 3) := by decide +kernel
theorem dd_O_cheat_8 : decode cc_O_cheat 8 = .ok (.aload_n 0, 1) := by decide +kernel
theorem dd_O_cheat_9 : decode cc_O_cheat 9 = .ok (.getfield 48, 3) := by decide +kernel
theorem dd_O_cheat_12 : decode cc_O_cheat 12 = .ok (.iconst 5, 1) := by decide +kernel
theorem dd_O_cheat_13 : decode cc_O_cheat 13 = .ok (.if_icmp .gt (11), 3) := by decide +kernel
theorem dd_O_cheat_16 : decode cc_O_cheat 16 = .ok (.aload_n 0, 1) := by decide +kernel
theorem dd_O_cheat_17 : decode cc_O_cheat 17 = .ok (.iload_n 1, 1) := by decide +kernel
theorem dd_O_cheat_18 : decode cc_O_cheat 18 = .ok (.invokevirtual 74, 3) := by decide +kernel
theorem dd_O_cheat_21 : decode cc_O_cheat 21 = .ok (.ifCond .ne (5), 3) := by decide +kernel
theorem dd_O_cheat_24 : decode cc_O_cheat 24 = .ok (.iconst 0, 1) := by decide +kernel
theorem dd_O_cheat_25 : decode cc_O_cheat 25 = .ok (.ireturn, 1) := by decide +kernel
theorem dd_O_cheat_26 : decode cc_O_cheat 26 = .ok (.iload_n 2, 1) := by decide +kernel
theorem dd_O_cheat_27 : decode cc_O_cheat 27 = .ok (.ifCond .lt (15), 3) := by decide +kernel
theorem dd_O_cheat_30 : decode cc_O_cheat 30 = .ok (.iload_n 2, 1) := by decide +kernel
theorem dd_O_cheat_31 : decode cc_O_cheat 31 = .ok (.iconst 5, 1) := by decide +kernel
theorem dd_O_cheat_32 : decode cc_O_cheat 32 = .ok (.if_icmp .ge (10), 3) := by decide +kernel
theorem dd_O_cheat_35 : decode cc_O_cheat 35 = .ok (.iload_n 3, 1) := by decide +kernel
theorem dd_O_cheat_36 : decode cc_O_cheat 36 = .ok (.invokestatic 133, 3) := by decide +kernel
theorem dd_O_cheat_39 : decode cc_O_cheat 39 = .ok (.ifCond .ne (5), 3) := by decide +kernel
theorem dd_O_cheat_42 : decode cc_O_cheat 42 = .ok (.iconst 0, 1) := by decide +kernel
theorem dd_O_cheat_43 : decode cc_O_cheat 43 = .ok (.ireturn, 1) := by decide +kernel
theorem dd_O_cheat_44 : decode cc_O_cheat 44 = .ok (.aload_n 0, 1) := by decide +kernel
theorem dd_O_cheat_45 : decode cc_O_cheat 45 = .ok (.getfield 11, 3) := by decide +kernel
theorem dd_O_cheat_48 : decode cc_O_cheat 48 = .ok (.iload_n 1, 1) := by decide +kernel
theorem dd_O_cheat_49 : decode cc_O_cheat 49 = .ok (.aaload, 1) := by decide +kernel
theorem dd_O_cheat_50 : decode cc_O_cheat 50 = .ok (.getfield 224, 3) := by decide +kernel
theorem dd_O_cheat_53 : decode cc_O_cheat 53 = .ok (.iload_n 2, 1) := by decide +kernel
theorem dd_O_cheat_54 : decode cc_O_cheat 54 = .ok (.dup2, 1) := by decide +kernel
theorem dd_O_cheat_55 : decode cc_O_cheat 55 = .ok (.laload, 1) := by decide +kernel
theorem dd_O_cheat_56 : decode cc_O_cheat 56 = .ok (.lconst 1, 1) := by decide +kernel
theorem dd_O_cheat_57 : decode cc_O_cheat 57 = .ok (.iload_n 3, 1) := by decide +kernel
theorem dd_O_cheat_58 : decode cc_O_cheat 58 = .ok (.lshl, 1) := by decide +kernel
theorem dd_O_cheat_59 : decode cc_O_cheat 59 = .ok (.lor, 1) := by decide +kernel
theorem dd_O_cheat_60 : decode cc_O_cheat 60 = .ok (.lastore, 1) := by decide +kernel
theorem dd_O_cheat_61 : decode cc_O_cheat 61 = .ok (.iconst 1, 1) := by decide +kernel
theorem dd_O_cheat_62 : decode cc_O_cheat 62 = .ok (.ireturn, 1) := by decide +kernel
theorem dd_O_state_0 : decode cc_O_state 0 = .ok (.iload_n 1, 1) := by decide +kernel
theorem dd_O_state_1 : decode cc_O_state 1 = .ok (.tableswitch (75) (0) (4) #[35, 40, 45, 65, 70], 35) := by decide +kernel
theorem dd_O_state_36 : decode cc_O_state 36 = .ok (.aload_n 0, 1) := by decide +kernel
theorem dd_O_state_37 : decode cc_O_state 37 = .ok (.getfield 48, 3) := by decide +kernel
theorem dd_O_state_40 : decode cc_O_state 40 = .ok (.ireturn, 1) := by decide +kernel
theorem dd_O_state_41 : decode cc_O_state 41 = .ok (.aload_n 0, 1) := by decide +kernel
theorem dd_O_state_42 : decode cc_O_state 42 = .ok (.getfield 51, 3) := by decide +kernel
theorem dd_O_state_45 : decode cc_O_state 45 = .ok (.ireturn, 1) := by decide +kernel
theorem dd_O_state_46 : decode cc_O_state 46 = .ok (.aload_n 0, 1) := by decide +kernel
theorem dd_O_state_47 : decode cc_O_state 47 = .ok (.getfield 31, 3) := by decide +kernel
theorem dd_O_state_50 : decode cc_O_state 50 = .ok (.iconst (-1), 1) := by decide +kernel
theorem dd_O_state_51 : decode cc_O_state 51 = .ok (.if_icmp .eq (10), 3) := by decide +kernel
theorem dd_O_state_54 : decode cc_O_state 54 = .ok (.aload_n 0, 1) := by decide +kernel
theorem dd_O_state_55 : decode cc_O_state 55 = .ok (.getfield 31, 3) := by decide +kernel
theorem dd_O_state_58 : decode cc_O_state 58 = .ok (.goto (7), 3) := by decide +kernel
theorem dd_O_state_61 : decode cc_O_state 61 = .ok (.aload_n 0, 1) := by decide +kernel
theorem dd_O_state_62 : decode cc_O_state 62 = .ok (.invokevirtual 122, 3) := by decide +kernel
theorem dd_O_state_65 : decode cc_O_state 65 = .ok (.ireturn, 1) := by decide +kernel
theorem dd_O_state_66 : decode cc_O_state 66 = .ok (.aload_n 0, 1) := by decide +kernel
theorem dd_O_state_67 : decode cc_O_state 67 = .ok (.invokevirtual 228, 3) := by decide +kernel
theorem dd_O_state_70 : decode cc_O_state 70 = .ok (.ireturn, 1) := by decide +kernel
theorem dd_O_state_71 : decode cc_O_state 71 = .ok (.aload_n 0, 1) := by decide +kernel
theorem dd_O_state_72 : decode cc_O_state 72 = .ok (.invokevirtual 173, 3) := by decide +kernel
theorem dd_O_state_75 : decode cc_O_state 75 = .ok (.ireturn, 1) := by decide +kernel
theorem dd_O_state_76 : decode cc_O_state 76 = .ok (.iconst (-1), 1) := by decide +kernel
theorem dd_O_state_77 : decode cc_O_state 77 = .ok (.ireturn, 1) := by decide +kernel
theorem dd_O_player_0 : decode cc_O_player 0 = .ok (.aload_n 0, 1) := by decide +kernel
theorem dd_O_player_1 : decode cc_O_player 1 = .ok (.iload_n 1, 1) := by decide +kernel
theorem dd_O_player_2 : decode cc_O_player 2 = .ok (.invokevirtual 74, 3) := by decide +kernel
theorem dd_O_player_5 : decode cc_O_player 5 = .ok (.ifCond .ne (5), 3) := by decide +kernel
theorem dd_O_player_8 : decode cc_O_player 8 = .ok (.iconst (-1), 1) := by decide +kernel
theorem dd_O_player_9 : decode cc_O_player 9 = .ok (.ireturn, 1) := by decide +kernel
theorem dd_O_player_10 : decode cc_O_player 10 = .ok (.aload_n 0, 1) := by decide +kernel
theorem dd_O_player_11 : decode cc_O_player 11 = .ok (.getfield 11, 3) := by decide +kernel
theorem dd_O_player_14 : decode cc_O_player 14 = .ok (.iload_n 1, 1) := by decide +kernel
theorem dd_O_player_15 : decode cc_O_player 15 = .ok (.aaload, 1) := by decide +kernel
theorem dd_O_player_16 : decode cc_O_player 16 = .ok (.astore_n 3, 1) := by decide +kernel
theorem dd_O_player_17 : decode cc_O_player 17 = .ok (.iload_n 2, 1) := by decide +kernel
theorem dd_O_player_18 : decode cc_O_player 18 = .ok (.tableswitch (75) (0) (4) #[34, 39, 44, 49, 70], 34) := by decide +kernel
theorem dd_O_player_52 : decode cc_O_player 52 = .ok (.aload_n 3, 1) := by decide +kernel
theorem dd_O_player_53 : decode cc_O_player 53 = .ok (.getfield 58, 3) := by decide +kernel
theorem dd_O_player_56 : decode cc_O_player 56 = .ok (.ireturn, 1) := by decide +kernel
theorem dd_O_player_57 : decode cc_O_player 57 = .ok (.aload_n 3, 1) := by decide +kernel
theorem dd_O_player_58 : decode cc_O_player 58 = .ok (.getfield 231, 3) := by decide +kernel
theorem dd_O_player_61 : decode cc_O_player 61 = .ok (.ireturn, 1) := by decide +kernel
theorem dd_O_player_62 : decode cc_O_player 62 = .ok (.aload_n 3, 1) := by decide +kernel
theorem dd_O_player_63 : decode cc_O_player 63 = .ok (.getfield 176, 3) := by decide +kernel
theorem dd_O_player_66 : decode cc_O_player 66 = .ok (.ireturn, 1) := by decide +kernel
theorem dd_O_player_67 : decode cc_O_player 67 = .ok (.aload_n 0, 1) := by decide +kernel
theorem dd_O_player_68 : decode cc_O_player 68 = .ok (.getfield 48, 3) := by decide +kernel
theorem dd_O_player_71 : decode cc_O_player 71 = .ok (.iconst 4, 1) := by decide +kernel
theorem dd_O_player_72 : decode cc_O_player 72 = .ok (.if_icmp .lt (14), 3) := by decide +kernel
theorem dd_O_player_75 : decode cc_O_player 75 = .ok (.aload_n 3, 1) := by decide +kernel
theorem dd_O_player_76 : decode cc_O_player 76 = .ok (.getfield 179, 3) := by decide +kernel
theorem dd_O_player_79 : decode cc_O_player 79 = .ok (.ifCond .ne (7), 3) := by decide +kernel
theorem dd_O_player_82 : decode cc_O_player 82 = .ok (.iconst 1, 1) := by decide +kernel
theorem dd_O_player_83 : decode cc_O_player 83 = .ok (.goto (4), 3) := by decide +kernel
theorem dd_O_player_86 : decode cc_O_player 86 = .ok (.iconst 0, 1) := by decide +kernel
theorem dd_O_player_87 : decode cc_O_player 87 = .ok (.ireturn, 1) := by decide +kernel
theorem dd_O_player_88 : decode cc_O_player 88 = .ok (.aload_n 3, 1) := by decide +kernel
theorem dd_O_player_89 : decode cc_O_player 89 = .ok (.invokevirtual 234, 3) := by decide +kernel
theorem dd_O_player_92 : decode cc_O_player 92 = .ok (.ireturn, 1) := by decide +kernel
theorem dd_O_player_93 : decode cc_O_player 93 = .ok (.iconst (-1), 1) := by decide +kernel
theorem dd_O_player_94 : decode cc_O_player 94 = .ok (.ireturn, 1) := by decide +kernel
theorem dd_O_isSeated_0 : decode cc_O_isSeated 0 = .ok (.iload_n 1, 1) := by decide +kernel
theorem dd_O_isSeated_1 : decode cc_O_isSeated 1 = .ok (.ifCond .lt (15), 3) := by decide +kernel
theorem dd_O_isSeated_4 : decode cc_O_isSeated 4 = .ok (.iload_n 1, 1) := by decide +kernel
theorem dd_O_isSeated_5 : decode cc_O_isSeated 5 = .ok (.aload_n 0, 1) := by decide +kernel
theorem dd_O_isSeated_6 : decode cc_O_isSeated 6 = .ok (.getfield 51, 3) := by decide +kernel
theorem dd_O_isSeated_9 : decode cc_O_isSeated 9 = .ok (.if_icmp .ge (7), 3) := by decide +kernel
theorem dd_O_isSeated_12 : decode cc_O_isSeated 12 = .ok (.iconst 1, 1) := by decide +kernel
theorem dd_O_isSeated_13 : decode cc_O_isSeated 13 = .ok (.goto (4), 3) := by decide +kernel
theorem dd_O_isSeated_16 : decode cc_O_isSeated 16 = .ok (.iconst 0, 1) := by decide +kernel
theorem dd_O_isSeated_17 : decode cc_O_isSeated 17 = .ok (.ireturn, 1) := by decide +kernel
theorem dd_O_isPlace_0 : decode cc_O_isPlace 0 = .ok (.iload_n 0, 1) := by decide +kernel
theorem dd_O_isPlace_1 : decode cc_O_isPlace 1 = .ok (.ifCond .lt (13), 3) := by decide +kernel
theorem dd_O_isPlace_4 : decode cc_O_isPlace 4 = .ok (.iload_n 0, 1) := by decide +kernel
theorem dd_O_isPlace_5 : decode cc_O_isPlace 5 = .ok (.bipush (52), 2) := by decide +kernel
theorem dd_O_isPlace_7 : decode cc_O_isPlace 7 = .ok (.if_icmp .ge (7), 3) := by decide +kernel
theorem dd_O_isPlace_10 : decode cc_O_isPlace 10 = .ok (.iconst 1, 1) := by decide +kernel
theorem dd_O_isPlace_11 : decode cc_O_isPlace 11 = .ok (.goto (4), 3) := by decide +kernel
theorem dd_O_isPlace_14 : decode cc_O_isPlace 14 = .ok (.iconst 0, 1) := by decide +kernel
theorem dd_O_isPlace_15 : decode cc_O_isPlace 15 = .ok (.ireturn, 1) := by decide +kernel
theorem dd_O_countWithChips_0 : decode cc_O_countWithChips 0 = .ok (.iconst 0, 1) := by decide +kernel
theorem dd_O_countWithChips_1 : decode cc_O_countWithChips 1 = .ok (.istore_n 1, 1) := by decide +kernel
theorem dd_O_countWithChips_2 : decode cc_O_countWithChips 2 = .ok (.iconst 0, 1) := by decide +kernel
theorem dd_O_countWithChips_3 : decode cc_O_countWithChips 3 = .ok (.istore_n 2, 1) := by decide +kernel
theorem dd_O_countWithChips_4 : decode cc_O_countWithChips 4 = .ok (.iload_n 2, 1) := by decide +kernel
theorem dd_O_countWithChips_5 : decode cc_O_countWithChips 5 = .ok (.aload_n 0, 1) := by decide +kernel
theorem dd_O_countWithChips_6 : decode cc_O_countWithChips 6 = .ok (.getfield 51, 3) := by decide +kernel
theorem dd_O_countWithChips_9 : decode cc_O_countWithChips 9 = .ok (.if_icmp .ge (24), 3) := by decide +kernel
theorem dd_O_countWithChips_12 : decode cc_O_countWithChips 12 = .ok (.aload_n 0, 1) := by decide +kernel
theorem dd_O_countWithChips_13 : decode cc_O_countWithChips 13 = .ok (.getfield 11, 3) := by decide +kernel
theorem dd_O_countWithChips_16 : decode cc_O_countWithChips 16 = .ok (.iload_n 2, 1) := by decide +kernel
theorem dd_O_countWithChips_17 : decode cc_O_countWithChips 17 = .ok (.aaload, 1) := by decide +kernel
theorem dd_O_countWithChips_18 : decode cc_O_countWithChips 18 = .ok (.getfield 58, 3) := by decide +kernel
theorem dd_O_countWithChips_21 : decode cc_O_countWithChips 21 = .ok (.ifCond .le (6), 3) := by decide +kernel
theorem dd_O_countWithChips_24 : decode cc_O_countWithChips 24 = .ok (.iinc 1 (1), 3) := by decide +kernel
theorem dd_O_countWithChips_27 : decode cc_O_countWithChips 27 = .ok (.iinc 2 (1), 3) := by decide +kernel
theorem dd_O_countWithChips_30 : decode cc_O_countWithChips 30 = .ok (.goto (-26), 3) := by decide +kernel
theorem dd_O_countWithChips_33 : decode cc_O_countWithChips 33 = .ok (.iload_n 1, 1) := by decide +kernel
theorem dd_O_countWithChips_34 : decode cc_O_countWithChips 34 = .ok (.ireturn, 1) := by decide +kernel
theorem dd_O_allSealed_0 : decode cc_O_allSealed 0 = .ok (.iconst 0, 1) := by decide +kernel
theorem dd_O_allSealed_1 : decode cc_O_allSealed 1 = .ok (.istore_n 1, 1) := by decide +kernel
theorem dd_O_allSealed_2 : decode cc_O_allSealed 2 = .ok (.iload_n 1, 1) := by decide +kernel
theorem dd_O_allSealed_3 : decode cc_O_allSealed 3 = .ok (.aload_n 0, 1) := by decide +kernel
theorem dd_O_allSealed_4 : decode cc_O_allSealed 4 = .ok (.getfield 51, 3) := by decide +kernel
theorem dd_O_allSealed_7 : decode cc_O_allSealed 7 = .ok (.if_icmp .ge (23), 3) := by decide +kernel
theorem dd_O_allSealed_10 : decode cc_O_allSealed 10 = .ok (.aload_n 0, 1) := by decide +kernel
theorem dd_O_allSealed_11 : decode cc_O_allSealed 11 = .ok (.getfield 11, 3) := by decide +kernel
theorem dd_O_allSealed_14 : decode cc_O_allSealed 14 = .ok (.iload_n 1, 1) := by decide +kernel
theorem dd_O_allSealed_15 : decode cc_O_allSealed 15 = .ok (.aaload, 1) := by decide +kernel
theorem dd_O_allSealed_16 : decode cc_O_allSealed 16 = .ok (.getfield 81, 3) := by decide +kernel
theorem dd_O_allSealed_19 : decode cc_O_allSealed 19 = .ok (.ifCond .ne (5), 3) := by decide +kernel
theorem dd_O_allSealed_22 : decode cc_O_allSealed 22 = .ok (.iconst 0, 1) := by decide +kernel
theorem dd_O_allSealed_23 : decode cc_O_allSealed 23 = .ok (.ireturn, 1) := by decide +kernel
theorem dd_O_allSealed_24 : decode cc_O_allSealed 24 = .ok (.iinc 1 (1), 3) := by decide +kernel
theorem dd_O_allSealed_27 : decode cc_O_allSealed 27 = .ok (.goto (-25), 3) := by decide +kernel
theorem dd_O_allSealed_30 : decode cc_O_allSealed 30 = .ok (.iconst 1, 1) := by decide +kernel
theorem dd_O_allSealed_31 : decode cc_O_allSealed 31 = .ok (.ireturn, 1) := by decide +kernel
theorem dd_O_allShown_0 : decode cc_O_allShown 0 = .ok (.iconst 0, 1) := by decide +kernel
theorem dd_O_allShown_1 : decode cc_O_allShown 1 = .ok (.istore_n 1, 1) := by decide +kernel
theorem dd_O_allShown_2 : decode cc_O_allShown 2 = .ok (.iload_n 1, 1) := by decide +kernel
theorem dd_O_allShown_3 : decode cc_O_allShown 3 = .ok (.aload_n 0, 1) := by decide +kernel
theorem dd_O_allShown_4 : decode cc_O_allShown 4 = .ok (.getfield 51, 3) := by decide +kernel
theorem dd_O_allShown_7 : decode cc_O_allShown 7 = .ok (.if_icmp .ge (23), 3) := by decide +kernel
theorem dd_O_allShown_10 : decode cc_O_allShown 10 = .ok (.aload_n 0, 1) := by decide +kernel
theorem dd_O_allShown_11 : decode cc_O_allShown 11 = .ok (.getfield 11, 3) := by decide +kernel
theorem dd_O_allShown_14 : decode cc_O_allShown 14 = .ok (.iload_n 1, 1) := by decide +kernel
theorem dd_O_allShown_15 : decode cc_O_allShown 15 = .ok (.aaload, 1) := by decide +kernel
theorem dd_O_allShown_16 : decode cc_O_allShown 16 = .ok (.getfield 204, 3) := by decide +kernel
theorem dd_O_allShown_19 : decode cc_O_allShown 19 = .ok (.ifCond .ne (5), 3) := by decide +kernel
theorem dd_O_allShown_22 : decode cc_O_allShown 22 = .ok (.iconst 0, 1) := by decide +kernel
theorem dd_O_allShown_23 : decode cc_O_allShown 23 = .ok (.ireturn, 1) := by decide +kernel
theorem dd_O_allShown_24 : decode cc_O_allShown 24 = .ok (.iinc 1 (1), 3) := by decide +kernel
theorem dd_O_allShown_27 : decode cc_O_allShown 27 = .ok (.goto (-25), 3) := by decide +kernel
theorem dd_O_allShown_30 : decode cc_O_allShown 30 = .ok (.iconst 1, 1) := by decide +kernel
theorem dd_O_allShown_31 : decode cc_O_allShown 31 = .ok (.ireturn, 1) := by decide +kernel
theorem dd_O_nextToTurn_0 : decode cc_O_nextToTurn 0 = .ok (.aload_n 0, 1) := by decide +kernel
theorem dd_O_nextToTurn_1 : decode cc_O_nextToTurn 1 = .ok (.getfield 48, 3) := by decide +kernel
theorem dd_O_nextToTurn_4 : decode cc_O_nextToTurn 4 = .ok (.iconst 2, 1) := by decide +kernel
theorem dd_O_nextToTurn_5 : decode cc_O_nextToTurn 5 = .ok (.if_icmp .eq (13), 3) := by decide +kernel
theorem dd_O_nextToTurn_8 : decode cc_O_nextToTurn 8 = .ok (.aload_n 0, 1) := by decide +kernel
theorem dd_O_nextToTurn_9 : decode cc_O_nextToTurn 9 = .ok (.getfield 48, 3) := by decide +kernel
theorem dd_O_nextToTurn_12 : decode cc_O_nextToTurn 12 = .ok (.iconst 3, 1) := by decide +kernel
theorem dd_O_nextToTurn_13 : decode cc_O_nextToTurn 13 = .ok (.if_icmp .eq (5), 3) := by decide +kernel
theorem dd_O_nextToTurn_16 : decode cc_O_nextToTurn 16 = .ok (.iconst (-1), 1) := by decide +kernel
theorem dd_O_nextToTurn_17 : decode cc_O_nextToTurn 17 = .ok (.ireturn, 1) := by decide +kernel
theorem dd_O_nextToTurn_18 : decode cc_O_nextToTurn 18 = .ok (.aload_n 0, 1) := by decide +kernel
theorem dd_O_nextToTurn_19 : decode cc_O_nextToTurn 19 = .ok (.aload_n 0, 1) := by decide +kernel
theorem dd_O_nextToTurn_20 : decode cc_O_nextToTurn 20 = .ok (.getfield 54, 3) := by decide +kernel
theorem dd_O_nextToTurn_23 : decode cc_O_nextToTurn 23 = .ok (.invokevirtual 237, 3) := by decide +kernel
theorem dd_O_nextToTurn_26 : decode cc_O_nextToTurn 26 = .ok (.ireturn, 1) := by decide +kernel
theorem dd_O_playerOfTurn_0 : decode cc_O_playerOfTurn 0 = .ok (.iload_n 1, 1) := by decide +kernel
theorem dd_O_playerOfTurn_1 : decode cc_O_playerOfTurn 1 = .ok (.aload_n 0, 1) := by decide +kernel
theorem dd_O_playerOfTurn_2 : decode cc_O_playerOfTurn 2 = .ok (.getfield 51, 3) := by decide +kernel
theorem dd_O_playerOfTurn_5 : decode cc_O_playerOfTurn 5 = .ok (.if_icmp .ge (7), 3) := by decide +kernel
theorem dd_O_playerOfTurn_8 : decode cc_O_playerOfTurn 8 = .ok (.iload_n 1, 1) := by decide +kernel
theorem dd_O_playerOfTurn_9 : decode cc_O_playerOfTurn 9 = .ok (.goto (9), 3) := by decide +kernel
theorem dd_O_playerOfTurn_12 : decode cc_O_playerOfTurn 12 = .ok (.iload_n 1, 1) := by decide +kernel
theorem dd_O_playerOfTurn_13 : decode cc_O_playerOfTurn 13 = .ok (.aload_n 0, 1) := by decide +kernel
theorem dd_O_playerOfTurn_14 : decode cc_O_playerOfTurn 14 = .ok (.getfield 51, 3) := by decide +kernel
theorem dd_O_playerOfTurn_17 : decode cc_O_playerOfTurn 17 = .ok (.isub, 1) := by decide +kernel
theorem dd_O_playerOfTurn_18 : decode cc_O_playerOfTurn 18 = .ok (.ireturn, 1) := by decide +kernel
theorem dd_O_reckonTurn_0 : decode cc_O_reckonTurn 0 = .ok (.aload_n 0, 1) := by decide +kernel
theorem dd_O_reckonTurn_1 : decode cc_O_reckonTurn 1 = .ok (.getfield 18, 3) := by decide +kernel
theorem dd_O_reckonTurn_4 : decode cc_O_reckonTurn 4 = .ok (.iload_n 1, 1) := by decide +kernel
theorem dd_O_reckonTurn_5 : decode cc_O_reckonTurn 5 = .ok (.aaload, 1) := by decide +kernel
theorem dd_O_reckonTurn_6 : decode cc_O_reckonTurn 6 = .ok (.astore 4, 2) := by decide +kernel
theorem dd_O_reckonTurn_8 : decode cc_O_reckonTurn 8 = .ok (.iload_n 1, 1) := by decide +kernel
theorem dd_O_reckonTurn_9 : decode cc_O_reckonTurn 9 = .ok (.aload_n 0, 1) := by decide +kernel
theorem dd_O_reckonTurn_10 : decode cc_O_reckonTurn 10 = .ok (.getfield 51, 3) := by decide +kernel
theorem dd_O_reckonTurn_13 : decode cc_O_reckonTurn 13 = .ok (.if_icmp .ge (56), 3) := by decide +kernel
theorem dd_O_reckonTurn_16 : decode cc_O_reckonTurn 16 = .ok (.aload_n 2, 1) := by decide +kernel
theorem dd_O_reckonTurn_17 : decode cc_O_reckonTurn 17 = .ok (.getfield 240, 3) := by decide +kernel
theorem dd_O_reckonTurn_20 : decode cc_O_reckonTurn 20 = .ok (.aload_n 0, 1) := by decide +kernel
theorem dd_O_reckonTurn_21 : decode cc_O_reckonTurn 21 = .ok (.getfield 25, 3) := by decide +kernel
theorem dd_O_reckonTurn_24 : decode cc_O_reckonTurn 24 = .ok (.invokestatic 243, 3) := by decide +kernel
theorem dd_O_reckonTurn_27 : decode cc_O_reckonTurn 27 = .ok (.iconst 0, 1) := by decide +kernel
theorem dd_O_reckonTurn_28 : decode cc_O_reckonTurn 28 = .ok (.istore 5, 2) := by decide +kernel
theorem dd_O_reckonTurn_30 : decode cc_O_reckonTurn 30 = .ok (.iload 5, 2) := by decide +kernel
theorem dd_O_reckonTurn_32 : decode cc_O_reckonTurn 32 = .ok (.bipush (52), 2) := by decide +kernel
theorem dd_O_reckonTurn_34 : decode cc_O_reckonTurn 34 = .ok (.if_icmp .ge (34), 3) := by decide +kernel
theorem dd_O_reckonTurn_37 : decode cc_O_reckonTurn 37 = .ok (.aload_n 3, 1) := by decide +kernel
theorem dd_O_reckonTurn_38 : decode cc_O_reckonTurn 38 = .ok (.iload 5, 2) := by decide +kernel
theorem dd_O_reckonTurn_40 : decode cc_O_reckonTurn 40 = .ok (.aload 4, 2) := by decide +kernel
theorem dd_O_reckonTurn_42 : decode cc_O_reckonTurn 42 = .ok (.aload_n 0, 1) := by decide +kernel
theorem dd_O_reckonTurn_43 : decode cc_O_reckonTurn 43 = .ok (.getfield 25, 3) := by decide +kernel
theorem dd_O_reckonTurn_46 : decode cc_O_reckonTurn 46 = .ok (.iload 5, 2) := by decide +kernel
theorem dd_O_reckonTurn_48 : decode cc_O_reckonTurn 48 = .ok (.iaload, 1) := by decide +kernel
theorem dd_O_reckonTurn_49 : decode cc_O_reckonTurn 49 = .ok (.iaload, 1) := by decide +kernel
theorem dd_O_reckonTurn_50 : decode cc_O_reckonTurn 50 = .ok (.aload_n 2, 1) := by decide +kernel
theorem dd_O_reckonTurn_51 : decode cc_O_reckonTurn 51 = .ok (.getfield 247, 3) := by decide +kernel
theorem dd_O_reckonTurn_54 : decode cc_O_reckonTurn 54 = .ok (.aload_n 0, 1) := by decide +kernel
theorem dd_O_reckonTurn_55 : decode cc_O_reckonTurn 55 = .ok (.getfield 35, 3) := by decide +kernel
theorem dd_O_reckonTurn_58 : decode cc_O_reckonTurn 58 = .ok (.invokestatic 156, 3) := by decide +kernel
theorem dd_O_reckonTurn_61 : decode cc_O_reckonTurn 61 = .ok (.iastore, 1) := by decide +kernel
theorem dd_O_reckonTurn_62 : decode cc_O_reckonTurn 62 = .ok (.iinc 5 (1), 3) := by decide +kernel
theorem dd_O_reckonTurn_65 : decode cc_O_reckonTurn 65 = .ok (.goto (-35), 3) := by decide +kernel
theorem dd_O_reckonTurn_68 : decode cc_O_reckonTurn 68 = .ok (.return_, 1) := by decide +kernel
theorem dd_O_reckonTurn_69 : decode cc_O_reckonTurn 69 = .ok (.aload_n 0, 1) := by decide +kernel
theorem dd_O_reckonTurn_70 : decode cc_O_reckonTurn 70 = .ok (.getfield 11, 3) := by decide +kernel
theorem dd_O_reckonTurn_73 : decode cc_O_reckonTurn 73 = .ok (.aload_n 0, 1) := by decide +kernel
theorem dd_O_reckonTurn_74 : decode cc_O_reckonTurn 74 = .ok (.iload_n 1, 1) := by decide +kernel
theorem dd_O_reckonTurn_75 : decode cc_O_reckonTurn 75 = .ok (.invokevirtual 237, 3) := by decide +kernel
theorem dd_O_reckonTurn_78 : decode cc_O_reckonTurn 78 = .ok (.aaload, 1) := by decide +kernel
theorem dd_O_reckonTurn_79 : decode cc_O_reckonTurn 79 = .ok (.getfield 102, 3) := by decide +kernel
theorem dd_O_reckonTurn_82 : decode cc_O_reckonTurn 82 = .ok (.astore 5, 2) := by decide +kernel
theorem dd_O_reckonTurn_84 : decode cc_O_reckonTurn 84 = .ok (.aload_n 2, 1) := by decide +kernel
theorem dd_O_reckonTurn_85 : decode cc_O_reckonTurn 85 = .ok (.getfield 247, 3) := by decide +kernel
theorem dd_O_reckonTurn_88 : decode cc_O_reckonTurn 88 = .ok (.aload_n 0, 1) := by decide +kernel
theorem dd_O_reckonTurn_89 : decode cc_O_reckonTurn 89 = .ok (.getfield 35, 3) := by decide +kernel
theorem dd_O_reckonTurn_92 : decode cc_O_reckonTurn 92 = .ok (.invokestatic 153, 3) := by decide +kernel
theorem dd_O_reckonTurn_95 : decode cc_O_reckonTurn 95 = .ok (.istore 6, 2) := by decide +kernel
theorem dd_O_reckonTurn_97 : decode cc_O_reckonTurn 97 = .ok (.iconst 0, 1) := by decide +kernel
theorem dd_O_reckonTurn_98 : decode cc_O_reckonTurn 98 = .ok (.istore 7, 2) := by decide +kernel
theorem dd_O_reckonTurn_100 : decode cc_O_reckonTurn 100 = .ok (.iload 7, 2) := by decide +kernel
theorem dd_O_reckonTurn_102 : decode cc_O_reckonTurn 102 = .ok (.bipush (52), 2) := by decide +kernel
theorem dd_O_reckonTurn_104 : decode cc_O_reckonTurn 104 = .ok (.if_icmp .ge (41), 3) := by decide +kernel
theorem dd_O_reckonTurn_107 : decode cc_O_reckonTurn 107 = .ok (.aload_n 3, 1) := by decide +kernel
theorem dd_O_reckonTurn_108 : decode cc_O_reckonTurn 108 = .ok (.iload 7, 2) := by decide +kernel
theorem dd_O_reckonTurn_110 : decode cc_O_reckonTurn 110 = .ok (.aload 4, 2) := by decide +kernel
theorem dd_O_reckonTurn_112 : decode cc_O_reckonTurn 112 = .ok (.iload 7, 2) := by decide +kernel
theorem dd_O_reckonTurn_114 : decode cc_O_reckonTurn 114 = .ok (.iaload, 1) := by decide +kernel
theorem dd_O_reckonTurn_115 : decode cc_O_reckonTurn 115 = .ok (.iload 6, 2) := by decide +kernel
theorem dd_O_reckonTurn_117 : decode cc_O_reckonTurn 117 = .ok (.aload 5, 2) := by decide +kernel
theorem dd_O_reckonTurn_119 : decode cc_O_reckonTurn 119 = .ok (.iload 7, 2) := by decide +kernel
theorem dd_O_reckonTurn_121 : decode cc_O_reckonTurn 121 = .ok (.iaload, 1) := by decide +kernel
theorem dd_O_reckonTurn_122 : decode cc_O_reckonTurn 122 = .ok (.aload_n 0, 1) := by decide +kernel
theorem dd_O_reckonTurn_123 : decode cc_O_reckonTurn 123 = .ok (.getfield 35, 3) := by decide +kernel
theorem dd_O_reckonTurn_126 : decode cc_O_reckonTurn 126 = .ok (.iconst 1, 1) := by decide +kernel
theorem dd_O_reckonTurn_127 : decode cc_O_reckonTurn 127 = .ok (.isub, 1) := by decide +kernel
theorem dd_O_reckonTurn_128 : decode cc_O_reckonTurn 128 = .ok (.invokestatic 250, 3) := by decide +kernel
theorem dd_O_reckonTurn_131 : decode cc_O_reckonTurn 131 = .ok (.aload_n 0, 1) := by decide +kernel
theorem dd_O_reckonTurn_132 : decode cc_O_reckonTurn 132 = .ok (.getfield 35, 3) := by decide +kernel
theorem dd_O_reckonTurn_135 : decode cc_O_reckonTurn 135 = .ok (.invokestatic 156, 3) := by decide +kernel
theorem dd_O_reckonTurn_138 : decode cc_O_reckonTurn 138 = .ok (.iastore, 1) := by decide +kernel
theorem dd_O_reckonTurn_139 : decode cc_O_reckonTurn 139 = .ok (.iinc 7 (1), 3) := by decide +kernel
theorem dd_O_reckonTurn_142 : decode cc_O_reckonTurn 142 = .ok (.goto (-42), 3) := by decide +kernel
theorem dd_O_reckonTurn_145 : decode cc_O_reckonTurn 145 = .ok (.return_, 1) := by decide +kernel
theorem dd_O_spoil_0 : decode cc_O_spoil 0 = .ok (.iconst 0, 1) := by decide +kernel
theorem dd_O_spoil_1 : decode cc_O_spoil 1 = .ok (.istore 4, 2) := by decide +kernel
theorem dd_O_spoil_3 : decode cc_O_spoil 3 = .ok (.iload 4, 2) := by decide +kernel
theorem dd_O_spoil_5 : decode cc_O_spoil 5 = .ok (.bipush (52), 2) := by decide +kernel
theorem dd_O_spoil_7 : decode cc_O_spoil 7 = .ok (.if_icmp .ge (46), 3) := by decide +kernel
theorem dd_O_spoil_10 : decode cc_O_spoil 10 = .ok (.aload_n 2, 1) := by decide +kernel
theorem dd_O_spoil_11 : decode cc_O_spoil 11 = .ok (.iload_n 3, 1) := by decide +kernel
theorem dd_O_spoil_12 : decode cc_O_spoil 12 = .ok (.iload 4, 2) := by decide +kernel
theorem dd_O_spoil_14 : decode cc_O_spoil 14 = .ok (.invokevirtual 144, 3) := by decide +kernel
theorem dd_O_spoil_17 : decode cc_O_spoil 17 = .ok (.ifCond .eq (30), 3) := by decide +kernel
theorem dd_O_spoil_20 : decode cc_O_spoil 20 = .ok (.aload_n 1, 1) := by decide +kernel
theorem dd_O_spoil_21 : decode cc_O_spoil 21 = .ok (.iload 4, 2) := by decide +kernel
theorem dd_O_spoil_23 : decode cc_O_spoil 23 = .ok (.aload_n 1, 1) := by decide +kernel
theorem dd_O_spoil_24 : decode cc_O_spoil 24 = .ok (.iload 4, 2) := by decide +kernel
theorem dd_O_spoil_26 : decode cc_O_spoil 26 = .ok (.iaload, 1) := by decide +kernel
theorem dd_O_spoil_27 : decode cc_O_spoil 27 = .ok (.aload_n 0, 1) := by decide +kernel
theorem dd_O_spoil_28 : decode cc_O_spoil 28 = .ok (.getfield 35, 3) := by decide +kernel
theorem dd_O_spoil_31 : decode cc_O_spoil 31 = .ok (.iconst 1, 1) := by decide +kernel
theorem dd_O_spoil_32 : decode cc_O_spoil 32 = .ok (.isub, 1) := by decide +kernel
theorem dd_O_spoil_33 : decode cc_O_spoil 33 = .ok (.if_icmp .ne (7), 3) := by decide +kernel
theorem dd_O_spoil_36 : decode cc_O_spoil 36 = .ok (.iconst 1, 1) := by decide +kernel
theorem dd_O_spoil_37 : decode cc_O_spoil 37 = .ok (.goto (9), 3) := by decide +kernel
theorem dd_O_spoil_40 : decode cc_O_spoil 40 = .ok (.aload_n 1, 1) := by decide +kernel
theorem dd_O_spoil_41 : decode cc_O_spoil 41 = .ok (.iload 4, 2) := by decide +kernel
theorem dd_O_spoil_43 : decode cc_O_spoil 43 = .ok (.iaload, 1) := by decide +kernel
theorem dd_O_spoil_44 : decode cc_O_spoil 44 = .ok (.iconst 1, 1) := by decide +kernel
theorem dd_O_spoil_45 : decode cc_O_spoil 45 = .ok (.iadd, 1) := by decide +kernel
theorem dd_O_spoil_46 : decode cc_O_spoil 46 = .ok (.iastore, 1) := by decide +kernel
theorem dd_O_spoil_47 : decode cc_O_spoil 47 = .ok (.iinc 4 (1), 3) := by decide +kernel
theorem dd_O_spoil_50 : decode cc_O_spoil 50 = .ok (.goto (-47), 3) := by decide +kernel
theorem dd_O_spoil_53 : decode cc_O_spoil 53 = .ok (.return_, 1) := by decide +kernel
theorem dd_O_mayOpen_0 : decode cc_O_mayOpen 0 = .ok (.aload_n 0, 1) := by decide +kernel
theorem dd_O_mayOpen_1 : decode cc_O_mayOpen 1 = .ok (.getfield 21, 3) := by decide +kernel
theorem dd_O_mayOpen_4 : decode cc_O_mayOpen 4 = .ok (.iload_n 2, 1) := by decide +kernel
theorem dd_O_mayOpen_5 : decode cc_O_mayOpen 5 = .ok (.iaload, 1) := by decide +kernel
theorem dd_O_mayOpen_6 : decode cc_O_mayOpen 6 = .ok (.istore_n 3, 1) := by decide +kernel
theorem dd_O_mayOpen_7 : decode cc_O_mayOpen 7 = .ok (.iload_n 3, 1) := by decide +kernel
theorem dd_O_mayOpen_8 : decode cc_O_mayOpen 8 = .ok (.bipush (-2), 2) := by decide +kernel
theorem dd_O_mayOpen_10 : decode cc_O_mayOpen 10 = .ok (.if_icmp .eq (13), 3) := by decide +kernel
theorem dd_O_mayOpen_13 : decode cc_O_mayOpen 13 = .ok (.iload_n 3, 1) := by decide +kernel
theorem dd_O_mayOpen_14 : decode cc_O_mayOpen 14 = .ok (.iconst (-1), 1) := by decide +kernel
theorem dd_O_mayOpen_15 : decode cc_O_mayOpen 15 = .ok (.if_icmp .eq (10), 3) := by decide +kernel
theorem dd_O_mayOpen_18 : decode cc_O_mayOpen 18 = .ok (.iload_n 3, 1) := by decide +kernel
theorem dd_O_mayOpen_19 : decode cc_O_mayOpen 19 = .ok (.iload_n 1, 1) := by decide +kernel
theorem dd_O_mayOpen_20 : decode cc_O_mayOpen 20 = .ok (.if_icmp .eq (5), 3) := by decide +kernel
theorem dd_O_mayOpen_23 : decode cc_O_mayOpen 23 = .ok (.iconst 0, 1) := by decide +kernel
theorem dd_O_mayOpen_24 : decode cc_O_mayOpen 24 = .ok (.ireturn, 1) := by decide +kernel
theorem dd_O_mayOpen_25 : decode cc_O_mayOpen 25 = .ok (.iconst 0, 1) := by decide +kernel
theorem dd_O_mayOpen_26 : decode cc_O_mayOpen 26 = .ok (.istore 4, 2) := by decide +kernel
theorem dd_O_mayOpen_28 : decode cc_O_mayOpen 28 = .ok (.iload 4, 2) := by decide +kernel
theorem dd_O_mayOpen_30 : decode cc_O_mayOpen 30 = .ok (.aload_n 0, 1) := by decide +kernel
theorem dd_O_mayOpen_31 : decode cc_O_mayOpen 31 = .ok (.getfield 51, 3) := by decide +kernel
theorem dd_O_mayOpen_34 : decode cc_O_mayOpen 34 = .ok (.if_icmp .ge (31), 3) := by decide +kernel
theorem dd_O_mayOpen_37 : decode cc_O_mayOpen 37 = .ok (.iload 4, 2) := by decide +kernel
theorem dd_O_mayOpen_39 : decode cc_O_mayOpen 39 = .ok (.iload_n 3, 1) := by decide +kernel
theorem dd_O_mayOpen_40 : decode cc_O_mayOpen 40 = .ok (.if_icmp .eq (19), 3) := by decide +kernel
theorem dd_O_mayOpen_43 : decode cc_O_mayOpen 43 = .ok (.aload_n 0, 1) := by decide +kernel
theorem dd_O_mayOpen_44 : decode cc_O_mayOpen 44 = .ok (.getfield 11, 3) := by decide +kernel
theorem dd_O_mayOpen_47 : decode cc_O_mayOpen 47 = .ok (.iload 4, 2) := by decide +kernel
theorem dd_O_mayOpen_49 : decode cc_O_mayOpen 49 = .ok (.aaload, 1) := by decide +kernel
theorem dd_O_mayOpen_50 : decode cc_O_mayOpen 50 = .ok (.iload_n 2, 1) := by decide +kernel
theorem dd_O_mayOpen_51 : decode cc_O_mayOpen 51 = .ok (.invokevirtual 138, 3) := by decide +kernel
theorem dd_O_mayOpen_54 : decode cc_O_mayOpen 54 = .ok (.ifCond .ne (5), 3) := by decide +kernel
theorem dd_O_mayOpen_57 : decode cc_O_mayOpen 57 = .ok (.iconst 0, 1) := by decide +kernel
theorem dd_O_mayOpen_58 : decode cc_O_mayOpen 58 = .ok (.ireturn, 1) := by decide +kernel
theorem dd_O_mayOpen_59 : decode cc_O_mayOpen 59 = .ok (.iinc 4 (1), 3) := by decide +kernel
theorem dd_O_mayOpen_62 : decode cc_O_mayOpen 62 = .ok (.goto (-34), 3) := by decide +kernel
theorem dd_O_mayOpen_65 : decode cc_O_mayOpen 65 = .ok (.iconst 1, 1) := by decide +kernel
theorem dd_O_mayOpen_66 : decode cc_O_mayOpen 66 = .ok (.ireturn, 1) := by decide +kernel
theorem dd_O_cardOf_0 : decode cc_O_cardOf 0 = .ok (.iconst 0, 1) := by decide +kernel
theorem dd_O_cardOf_1 : decode cc_O_cardOf 1 = .ok (.istore_n 2, 1) := by decide +kernel
theorem dd_O_cardOf_2 : decode cc_O_cardOf 2 = .ok (.iload_n 2, 1) := by decide +kernel
theorem dd_O_cardOf_3 : decode cc_O_cardOf 3 = .ok (.bipush (52), 2) := by decide +kernel
theorem dd_O_cardOf_5 : decode cc_O_cardOf 5 = .ok (.if_icmp .ge (23), 3) := by decide +kernel
theorem dd_O_cardOf_8 : decode cc_O_cardOf 8 = .ok (.aload_n 0, 1) := by decide +kernel
theorem dd_O_cardOf_9 : decode cc_O_cardOf 9 = .ok (.getfield 18, 3) := by decide +kernel
theorem dd_O_cardOf_12 : decode cc_O_cardOf 12 = .ok (.iconst 0, 1) := by decide +kernel
theorem dd_O_cardOf_13 : decode cc_O_cardOf 13 = .ok (.aaload, 1) := by decide +kernel
theorem dd_O_cardOf_14 : decode cc_O_cardOf 14 = .ok (.iload_n 2, 1) := by decide +kernel
theorem dd_O_cardOf_15 : decode cc_O_cardOf 15 = .ok (.iaload, 1) := by decide +kernel
theorem dd_O_cardOf_16 : decode cc_O_cardOf 16 = .ok (.iload_n 1, 1) := by decide +kernel
theorem dd_O_cardOf_17 : decode cc_O_cardOf 17 = .ok (.if_icmp .ne (5), 3) := by decide +kernel
theorem dd_O_cardOf_20 : decode cc_O_cardOf 20 = .ok (.iload_n 2, 1) := by decide +kernel
theorem dd_O_cardOf_21 : decode cc_O_cardOf 21 = .ok (.ireturn, 1) := by decide +kernel
theorem dd_O_cardOf_22 : decode cc_O_cardOf 22 = .ok (.iinc 2 (1), 3) := by decide +kernel
theorem dd_O_cardOf_25 : decode cc_O_cardOf 25 = .ok (.goto (-23), 3) := by decide +kernel
theorem dd_O_cardOf_28 : decode cc_O_cardOf 28 = .ok (.bipush (52), 2) := by decide +kernel
theorem dd_O_cardOf_30 : decode cc_O_cardOf 30 = .ok (.ireturn, 1) := by decide +kernel
theorem dd_O_awaitAll_0 : decode cc_O_awaitAll 0 = .ok (.iconst 0, 1) := by decide +kernel
theorem dd_O_awaitAll_1 : decode cc_O_awaitAll 1 = .ok (.istore_n 1, 1) := by decide +kernel
theorem dd_O_awaitAll_2 : decode cc_O_awaitAll 2 = .ok (.iload_n 1, 1) := by decide +kernel
theorem dd_O_awaitAll_3 : decode cc_O_awaitAll 3 = .ok (.aload_n 0, 1) := by decide +kernel
theorem dd_O_awaitAll_4 : decode cc_O_awaitAll 4 = .ok (.getfield 51, 3) := by decide +kernel
theorem dd_O_awaitAll_7 : decode cc_O_awaitAll 7 = .ok (.if_icmp .ge (19), 3) := by decide +kernel
theorem dd_O_awaitAll_10 : decode cc_O_awaitAll 10 = .ok (.aload_n 0, 1) := by decide +kernel
theorem dd_O_awaitAll_11 : decode cc_O_awaitAll 11 = .ok (.getfield 11, 3) := by decide +kernel
theorem dd_O_awaitAll_14 : decode cc_O_awaitAll 14 = .ok (.iload_n 1, 1) := by decide +kernel
theorem dd_O_awaitAll_15 : decode cc_O_awaitAll 15 = .ok (.aaload, 1) := by decide +kernel
theorem dd_O_awaitAll_16 : decode cc_O_awaitAll 16 = .ok (.iconst 0, 1) := by decide +kernel
theorem dd_O_awaitAll_17 : decode cc_O_awaitAll 17 = .ok (.putfield 191, 3) := by decide +kernel
theorem dd_O_awaitAll_20 : decode cc_O_awaitAll 20 = .ok (.iinc 1 (1), 3) := by decide +kernel
theorem dd_O_awaitAll_23 : decode cc_O_awaitAll 23 = .ok (.goto (-21), 3) := by decide +kernel
theorem dd_O_awaitAll_26 : decode cc_O_awaitAll 26 = .ok (.return_, 1) := by decide +kernel
theorem dd_O_goOnWithRound_0 : decode cc_O_goOnWithRound 0 = .ok (.aload_n 0, 1) := by decide +kernel
theorem dd_O_goOnWithRound_1 : decode cc_O_goOnWithRound 1 = .ok (.aload_n 0, 1) := by decide +kernel
theorem dd_O_goOnWithRound_2 : decode cc_O_goOnWithRound 2 = .ok (.invokevirtual 253, 3) := by decide +kernel
theorem dd_O_goOnWithRound_5 : decode cc_O_goOnWithRound 5 = .ok (.iconst 2, 1) := by decide +kernel
theorem dd_O_goOnWithRound_6 : decode cc_O_goOnWithRound 6 = .ok (.if_icmp .ge (7), 3) := by decide +kernel
theorem dd_O_goOnWithRound_9 : decode cc_O_goOnWithRound 9 = .ok (.iconst (-1), 1) := by decide +kernel
theorem dd_O_goOnWithRound_10 : decode cc_O_goOnWithRound 10 = .ok (.goto (11), 3) := by decide +kernel
theorem dd_O_goOnWithRound_13 : decode cc_O_goOnWithRound 13 = .ok (.aload_n 0, 1) := by decide +kernel
theorem dd_O_goOnWithRound_14 : decode cc_O_goOnWithRound 14 = .ok (.aload_n 0, 1) := by decide +kernel
theorem dd_O_goOnWithRound_15 : decode cc_O_goOnWithRound 15 = .ok (.getfield 31, 3) := by decide +kernel
theorem dd_O_goOnWithRound_18 : decode cc_O_goOnWithRound 18 = .ok (.invokevirtual 170, 3) := by decide +kernel
theorem dd_O_goOnWithRound_21 : decode cc_O_goOnWithRound 21 = .ok (.putfield 31, 3) := by decide +kernel
theorem dd_O_goOnWithRound_24 : decode cc_O_goOnWithRound 24 = .ok (.aload_n 0, 1) := by decide +kernel
theorem dd_O_goOnWithRound_25 : decode cc_O_goOnWithRound 25 = .ok (.getfield 31, 3) := by decide +kernel
theorem dd_O_goOnWithRound_28 : decode cc_O_goOnWithRound 28 = .ok (.iconst (-1), 1) := by decide +kernel
theorem dd_O_goOnWithRound_29 : decode cc_O_goOnWithRound 29 = .ok (.if_icmp .eq (4), 3) := by decide +kernel
theorem dd_O_goOnWithRound_32 : decode cc_O_goOnWithRound 32 = .ok (.return_, 1) := by decide +kernel
theorem dd_O_goOnWithRound_33 : decode cc_O_goOnWithRound 33 = .ok (.iconst 0, 1) := by decide +kernel
theorem dd_O_goOnWithRound_34 : decode cc_O_goOnWithRound 34 = .ok (.istore_n 1, 1) := by decide +kernel
theorem dd_O_goOnWithRound_35 : decode cc_O_goOnWithRound 35 = .ok (.iload_n 1, 1) := by decide +kernel
theorem dd_O_goOnWithRound_36 : decode cc_O_goOnWithRound 36 = .ok (.aload_n 0, 1) := by decide +kernel
theorem dd_O_goOnWithRound_37 : decode cc_O_goOnWithRound 37 = .ok (.getfield 51, 3) := by decide +kernel
theorem dd_O_goOnWithRound_40 : decode cc_O_goOnWithRound 40 = .ok (.if_icmp .ge (19), 3) := by decide +kernel
theorem dd_O_goOnWithRound_43 : decode cc_O_goOnWithRound 43 = .ok (.aload_n 0, 1) := by decide +kernel
theorem dd_O_goOnWithRound_44 : decode cc_O_goOnWithRound 44 = .ok (.getfield 11, 3) := by decide +kernel
theorem dd_O_goOnWithRound_47 : decode cc_O_goOnWithRound 47 = .ok (.iload_n 1, 1) := by decide +kernel
theorem dd_O_goOnWithRound_48 : decode cc_O_goOnWithRound 48 = .ok (.aaload, 1) := by decide +kernel
theorem dd_O_goOnWithRound_49 : decode cc_O_goOnWithRound 49 = .ok (.iconst 0, 1) := by decide +kernel
theorem dd_O_goOnWithRound_50 : decode cc_O_goOnWithRound 50 = .ok (.putfield 176, 3) := by decide +kernel
theorem dd_O_goOnWithRound_53 : decode cc_O_goOnWithRound 53 = .ok (.iinc 1 (1), 3) := by decide +kernel
theorem dd_O_goOnWithRound_56 : decode cc_O_goOnWithRound 56 = .ok (.goto (-21), 3) := by decide +kernel
theorem dd_O_goOnWithRound_59 : decode cc_O_goOnWithRound 59 = .ok (.return_, 1) := by decide +kernel
theorem dd_O_nextToAct_0 : decode cc_O_nextToAct 0 = .ok (.iconst 1, 1) := by decide +kernel
theorem dd_O_nextToAct_1 : decode cc_O_nextToAct 1 = .ok (.istore_n 2, 1) := by decide +kernel
theorem dd_O_nextToAct_2 : decode cc_O_nextToAct 2 = .ok (.iload_n 2, 1) := by decide +kernel
theorem dd_O_nextToAct_3 : decode cc_O_nextToAct 3 = .ok (.aload_n 0, 1) := by decide +kernel
theorem dd_O_nextToAct_4 : decode cc_O_nextToAct 4 = .ok (.getfield 51, 3) := by decide +kernel
theorem dd_O_nextToAct_7 : decode cc_O_nextToAct 7 = .ok (.if_icmp .gt (68), 3) := by decide +kernel
theorem dd_O_nextToAct_10 : decode cc_O_nextToAct 10 = .ok (.iload_n 1, 1) := by decide +kernel
theorem dd_O_nextToAct_11 : decode cc_O_nextToAct 11 = .ok (.iload_n 2, 1) := by decide +kernel
theorem dd_O_nextToAct_12 : decode cc_O_nextToAct 12 = .ok (.iadd, 1) := by decide +kernel
theorem dd_O_nextToAct_13 : decode cc_O_nextToAct 13 = .ok (.aload_n 0, 1) := by decide +kernel
theorem dd_O_nextToAct_14 : decode cc_O_nextToAct 14 = .ok (.getfield 51, 3) := by decide +kernel
theorem dd_O_nextToAct_17 : decode cc_O_nextToAct 17 = .ok (.if_icmp .ge (9), 3) := by decide +kernel
theorem dd_O_nextToAct_20 : decode cc_O_nextToAct 20 = .ok (.iload_n 1, 1) := by decide +kernel
theorem dd_O_nextToAct_21 : decode cc_O_nextToAct 21 = .ok (.iload_n 2, 1) := by decide +kernel
theorem dd_O_nextToAct_22 : decode cc_O_nextToAct 22 = .ok (.iadd, 1) := by decide +kernel
theorem dd_O_nextToAct_23 : decode cc_O_nextToAct 23 = .ok (.goto (11), 3) := by decide +kernel
theorem dd_O_nextToAct_26 : decode cc_O_nextToAct 26 = .ok (.iload_n 1, 1) := by decide +kernel
theorem dd_O_nextToAct_27 : decode cc_O_nextToAct 27 = .ok (.iload_n 2, 1) := by decide +kernel
theorem dd_O_nextToAct_28 : decode cc_O_nextToAct 28 = .ok (.iadd, 1) := by decide +kernel
theorem dd_O_nextToAct_29 : decode cc_O_nextToAct 29 = .ok (.aload_n 0, 1) := by decide +kernel
theorem dd_O_nextToAct_30 : decode cc_O_nextToAct 30 = .ok (.getfield 51, 3) := by decide +kernel
theorem dd_O_nextToAct_33 : decode cc_O_nextToAct 33 = .ok (.isub, 1) := by decide +kernel
theorem dd_O_nextToAct_34 : decode cc_O_nextToAct 34 = .ok (.istore_n 3, 1) := by decide +kernel
theorem dd_O_nextToAct_35 : decode cc_O_nextToAct 35 = .ok (.aload_n 0, 1) := by decide +kernel
theorem dd_O_nextToAct_36 : decode cc_O_nextToAct 36 = .ok (.iload_n 3, 1) := by decide +kernel
theorem dd_O_nextToAct_37 : decode cc_O_nextToAct 37 = .ok (.invokevirtual 74, 3) := by decide +kernel
theorem dd_O_nextToAct_40 : decode cc_O_nextToAct 40 = .ok (.ifCond .eq (29), 3) := by decide +kernel
theorem dd_O_nextToAct_43 : decode cc_O_nextToAct 43 = .ok (.aload_n 0, 1) := by decide +kernel
theorem dd_O_nextToAct_44 : decode cc_O_nextToAct 44 = .ok (.getfield 11, 3) := by decide +kernel
theorem dd_O_nextToAct_47 : decode cc_O_nextToAct 47 = .ok (.iload_n 3, 1) := by decide +kernel
theorem dd_O_nextToAct_48 : decode cc_O_nextToAct 48 = .ok (.aaload, 1) := by decide +kernel
theorem dd_O_nextToAct_49 : decode cc_O_nextToAct 49 = .ok (.invokevirtual 256, 3) := by decide +kernel
theorem dd_O_nextToAct_52 : decode cc_O_nextToAct 52 = .ok (.ifCond .eq (17), 3) := by decide +kernel
theorem dd_O_nextToAct_55 : decode cc_O_nextToAct 55 = .ok (.aload_n 0, 1) := by decide +kernel
theorem dd_O_nextToAct_56 : decode cc_O_nextToAct 56 = .ok (.getfield 11, 3) := by decide +kernel
theorem dd_O_nextToAct_59 : decode cc_O_nextToAct 59 = .ok (.iload_n 3, 1) := by decide +kernel
theorem dd_O_nextToAct_60 : decode cc_O_nextToAct 60 = .ok (.aaload, 1) := by decide +kernel
theorem dd_O_nextToAct_61 : decode cc_O_nextToAct 61 = .ok (.getfield 191, 3) := by decide +kernel
theorem dd_O_nextToAct_64 : decode cc_O_nextToAct 64 = .ok (.ifCond .ne (5), 3) := by decide +kernel
theorem dd_O_nextToAct_67 : decode cc_O_nextToAct 67 = .ok (.iload_n 3, 1) := by decide +kernel
theorem dd_O_nextToAct_68 : decode cc_O_nextToAct 68 = .ok (.ireturn, 1) := by decide +kernel
theorem dd_O_nextToAct_69 : decode cc_O_nextToAct 69 = .ok (.iinc 2 (1), 3) := by decide +kernel
theorem dd_O_nextToAct_72 : decode cc_O_nextToAct 72 = .ok (.goto (-70), 3) := by decide +kernel
theorem dd_O_nextToAct_75 : decode cc_O_nextToAct 75 = .ok (.iconst (-1), 1) := by decide +kernel
theorem dd_O_nextToAct_76 : decode cc_O_nextToAct 76 = .ok (.ireturn, 1) := by decide +kernel
theorem dd_O_countIn_0 : decode cc_O_countIn 0 = .ok (.iconst 0, 1) := by decide +kernel
theorem dd_O_countIn_1 : decode cc_O_countIn 1 = .ok (.istore_n 1, 1) := by decide +kernel
theorem dd_O_countIn_2 : decode cc_O_countIn 2 = .ok (.iconst 0, 1) := by decide +kernel
theorem dd_O_countIn_3 : decode cc_O_countIn 3 = .ok (.istore_n 2, 1) := by decide +kernel
theorem dd_O_countIn_4 : decode cc_O_countIn 4 = .ok (.iload_n 2, 1) := by decide +kernel
theorem dd_O_countIn_5 : decode cc_O_countIn 5 = .ok (.aload_n 0, 1) := by decide +kernel
theorem dd_O_countIn_6 : decode cc_O_countIn 6 = .ok (.getfield 51, 3) := by decide +kernel
theorem dd_O_countIn_9 : decode cc_O_countIn 9 = .ok (.if_icmp .ge (24), 3) := by decide +kernel
theorem dd_O_countIn_12 : decode cc_O_countIn 12 = .ok (.aload_n 0, 1) := by decide +kernel
theorem dd_O_countIn_13 : decode cc_O_countIn 13 = .ok (.getfield 11, 3) := by decide +kernel
theorem dd_O_countIn_16 : decode cc_O_countIn 16 = .ok (.iload_n 2, 1) := by decide +kernel
theorem dd_O_countIn_17 : decode cc_O_countIn 17 = .ok (.aaload, 1) := by decide +kernel
theorem dd_O_countIn_18 : decode cc_O_countIn 18 = .ok (.getfield 179, 3) := by decide +kernel
theorem dd_O_countIn_21 : decode cc_O_countIn 21 = .ok (.ifCond .ne (6), 3) := by decide +kernel
theorem dd_O_countIn_24 : decode cc_O_countIn 24 = .ok (.iinc 1 (1), 3) := by decide +kernel
theorem dd_O_countIn_27 : decode cc_O_countIn 27 = .ok (.iinc 2 (1), 3) := by decide +kernel
theorem dd_O_countIn_30 : decode cc_O_countIn 30 = .ok (.goto (-26), 3) := by decide +kernel
theorem dd_O_countIn_33 : decode cc_O_countIn 33 = .ok (.iload_n 1, 1) := by decide +kernel
theorem dd_O_countIn_34 : decode cc_O_countIn 34 = .ok (.ireturn, 1) := by decide +kernel
theorem dd_O_countAbleToAct_0 : decode cc_O_countAbleToAct 0 = .ok (.iconst 0, 1) := by decide +kernel
theorem dd_O_countAbleToAct_1 : decode cc_O_countAbleToAct 1 = .ok (.istore_n 1, 1) := by decide +kernel
theorem dd_O_countAbleToAct_2 : decode cc_O_countAbleToAct 2 = .ok (.iconst 0, 1) := by decide +kernel
theorem dd_O_countAbleToAct_3 : decode cc_O_countAbleToAct 3 = .ok (.istore_n 2, 1) := by decide +kernel
theorem dd_O_countAbleToAct_4 : decode cc_O_countAbleToAct 4 = .ok (.iload_n 2, 1) := by decide +kernel
theorem dd_O_countAbleToAct_5 : decode cc_O_countAbleToAct 5 = .ok (.aload_n 0, 1) := by decide +kernel
theorem dd_O_countAbleToAct_6 : decode cc_O_countAbleToAct 6 = .ok (.getfield 51, 3) := by decide +kernel
theorem dd_O_countAbleToAct_9 : decode cc_O_countAbleToAct 9 = .ok (.if_icmp .ge (24), 3) := by decide +kernel
theorem dd_O_countAbleToAct_12 : decode cc_O_countAbleToAct 12 = .ok (.aload_n 0, 1) := by decide +kernel
theorem dd_O_countAbleToAct_13 : decode cc_O_countAbleToAct 13 = .ok (.getfield 11, 3) := by decide +kernel
theorem dd_O_countAbleToAct_16 : decode cc_O_countAbleToAct 16 = .ok (.iload_n 2, 1) := by decide +kernel
theorem dd_O_countAbleToAct_17 : decode cc_O_countAbleToAct 17 = .ok (.aaload, 1) := by decide +kernel
theorem dd_O_countAbleToAct_18 : decode cc_O_countAbleToAct 18 = .ok (.invokevirtual 256, 3) := by decide +kernel
theorem dd_O_countAbleToAct_21 : decode cc_O_countAbleToAct 21 = .ok (.ifCond .eq (6), 3) := by decide +kernel
theorem dd_O_countAbleToAct_24 : decode cc_O_countAbleToAct 24 = .ok (.iinc 1 (1), 3) := by decide +kernel
theorem dd_O_countAbleToAct_27 : decode cc_O_countAbleToAct 27 = .ok (.iinc 2 (1), 3) := by decide +kernel
theorem dd_O_countAbleToAct_30 : decode cc_O_countAbleToAct 30 = .ok (.goto (-26), 3) := by decide +kernel
theorem dd_O_countAbleToAct_33 : decode cc_O_countAbleToAct 33 = .ok (.iload_n 1, 1) := by decide +kernel
theorem dd_O_countAbleToAct_34 : decode cc_O_countAbleToAct 34 = .ok (.ireturn, 1) := by decide +kernel
theorem dd_O_mostInRound_0 : decode cc_O_mostInRound 0 = .ok (.iconst 0, 1) := by decide +kernel
theorem dd_O_mostInRound_1 : decode cc_O_mostInRound 1 = .ok (.istore_n 1, 1) := by decide +kernel
theorem dd_O_mostInRound_2 : decode cc_O_mostInRound 2 = .ok (.iconst 0, 1) := by decide +kernel
theorem dd_O_mostInRound_3 : decode cc_O_mostInRound 3 = .ok (.istore_n 2, 1) := by decide +kernel
theorem dd_O_mostInRound_4 : decode cc_O_mostInRound 4 = .ok (.iload_n 2, 1) := by decide +kernel
theorem dd_O_mostInRound_5 : decode cc_O_mostInRound 5 = .ok (.aload_n 0, 1) := by decide +kernel
theorem dd_O_mostInRound_6 : decode cc_O_mostInRound 6 = .ok (.getfield 51, 3) := by decide +kernel
theorem dd_O_mostInRound_9 : decode cc_O_mostInRound 9 = .ok (.if_icmp .ge (23), 3) := by decide +kernel
theorem dd_O_mostInRound_12 : decode cc_O_mostInRound 12 = .ok (.iload_n 1, 1) := by decide +kernel
theorem dd_O_mostInRound_13 : decode cc_O_mostInRound 13 = .ok (.aload_n 0, 1) := by decide +kernel
theorem dd_O_mostInRound_14 : decode cc_O_mostInRound 14 = .ok (.getfield 11, 3) := by decide +kernel
theorem dd_O_mostInRound_17 : decode cc_O_mostInRound 17 = .ok (.iload_n 2, 1) := by decide +kernel
theorem dd_O_mostInRound_18 : decode cc_O_mostInRound 18 = .ok (.aaload, 1) := by decide +kernel
theorem dd_O_mostInRound_19 : decode cc_O_mostInRound 19 = .ok (.getfield 176, 3) := by decide +kernel
theorem dd_O_mostInRound_22 : decode cc_O_mostInRound 22 = .ok (.invokestatic 259, 3) := by decide +kernel
theorem dd_O_mostInRound_25 : decode cc_O_mostInRound 25 = .ok (.istore_n 1, 1) := by decide +kernel
theorem dd_O_mostInRound_26 : decode cc_O_mostInRound 26 = .ok (.iinc 2 (1), 3) := by decide +kernel
theorem dd_O_mostInRound_29 : decode cc_O_mostInRound 29 = .ok (.goto (-25), 3) := by decide +kernel
theorem dd_O_mostInRound_32 : decode cc_O_mostInRound 32 = .ok (.iload_n 1, 1) := by decide +kernel
theorem dd_O_mostInRound_33 : decode cc_O_mostInRound 33 = .ok (.ireturn, 1) := by decide +kernel
theorem dd_O_sumInHand_0 : decode cc_O_sumInHand 0 = .ok (.iconst 0, 1) := by decide +kernel
theorem dd_O_sumInHand_1 : decode cc_O_sumInHand 1 = .ok (.istore_n 1, 1) := by decide +kernel
theorem dd_O_sumInHand_2 : decode cc_O_sumInHand 2 = .ok (.iconst 0, 1) := by decide +kernel
theorem dd_O_sumInHand_3 : decode cc_O_sumInHand 3 = .ok (.istore_n 2, 1) := by decide +kernel
theorem dd_O_sumInHand_4 : decode cc_O_sumInHand 4 = .ok (.iload_n 2, 1) := by decide +kernel
theorem dd_O_sumInHand_5 : decode cc_O_sumInHand 5 = .ok (.aload_n 0, 1) := by decide +kernel
theorem dd_O_sumInHand_6 : decode cc_O_sumInHand 6 = .ok (.getfield 51, 3) := by decide +kernel
theorem dd_O_sumInHand_9 : decode cc_O_sumInHand 9 = .ok (.if_icmp .ge (21), 3) := by decide +kernel
theorem dd_O_sumInHand_12 : decode cc_O_sumInHand 12 = .ok (.iload_n 1, 1) := by decide +kernel
theorem dd_O_sumInHand_13 : decode cc_O_sumInHand 13 = .ok (.aload_n 0, 1) := by decide +kernel
theorem dd_O_sumInHand_14 : decode cc_O_sumInHand 14 = .ok (.getfield 11, 3) := by decide +kernel
theorem dd_O_sumInHand_17 : decode cc_O_sumInHand 17 = .ok (.iload_n 2, 1) := by decide +kernel
theorem dd_O_sumInHand_18 : decode cc_O_sumInHand 18 = .ok (.aaload, 1) := by decide +kernel
theorem dd_O_sumInHand_19 : decode cc_O_sumInHand 19 = .ok (.getfield 231, 3) := by decide +kernel
theorem dd_O_sumInHand_22 : decode cc_O_sumInHand 22 = .ok (.iadd, 1) := by decide +kernel
theorem dd_O_sumInHand_23 : decode cc_O_sumInHand 23 = .ok (.istore_n 1, 1) := by decide +kernel
theorem dd_O_sumInHand_24 : decode cc_O_sumInHand 24 = .ok (.iinc 2 (1), 3) := by decide +kernel
theorem dd_O_sumInHand_27 : decode cc_O_sumInHand 27 = .ok (.goto (-23), 3) := by decide +kernel
theorem dd_O_sumInHand_30 : decode cc_O_sumInHand 30 = .ok (.iload_n 1, 1) := by decide +kernel
theorem dd_O_sumInHand_31 : decode cc_O_sumInHand 31 = .ok (.ireturn, 1) := by decide +kernel
theorem dd_O_leastInHand_0 : decode cc_O_leastInHand 0 = .ok (.iconst 0, 1) := by decide +kernel
theorem dd_O_leastInHand_1 : decode cc_O_leastInHand 1 = .ok (.istore_n 1, 1) := by decide +kernel
theorem dd_O_leastInHand_2 : decode cc_O_leastInHand 2 = .ok (.iconst 0, 1) := by decide +kernel
theorem dd_O_leastInHand_3 : decode cc_O_leastInHand 3 = .ok (.istore_n 2, 1) := by decide +kernel
theorem dd_O_leastInHand_4 : decode cc_O_leastInHand 4 = .ok (.iload_n 2, 1) := by decide +kernel
theorem dd_O_leastInHand_5 : decode cc_O_leastInHand 5 = .ok (.aload_n 0, 1) := by decide +kernel
theorem dd_O_leastInHand_6 : decode cc_O_leastInHand 6 = .ok (.getfield 51, 3) := by decide +kernel
theorem dd_O_leastInHand_9 : decode cc_O_leastInHand 9 = .ok (.if_icmp .ge (34), 3) := by decide +kernel
theorem dd_O_leastInHand_12 : decode cc_O_leastInHand 12 = .ok (.aload_n 0, 1) := by decide +kernel
theorem dd_O_leastInHand_13 : decode cc_O_leastInHand 13 = .ok (.getfield 11, 3) := by decide +kernel
theorem dd_O_leastInHand_16 : decode cc_O_leastInHand 16 = .ok (.iload_n 2, 1) := by decide +kernel
theorem dd_O_leastInHand_17 : decode cc_O_leastInHand 17 = .ok (.aaload, 1) := by decide +kernel
theorem dd_O_leastInHand_18 : decode cc_O_leastInHand 18 = .ok (.getfield 231, 3) := by decide +kernel
theorem dd_O_leastInHand_21 : decode cc_O_leastInHand 21 = .ok (.istore_n 3, 1) := by decide +kernel
theorem dd_O_leastInHand_22 : decode cc_O_leastInHand 22 = .ok (.iload_n 3, 1) := by decide +kernel
theorem dd_O_leastInHand_23 : decode cc_O_leastInHand 23 = .ok (.ifCond .le (14), 3) := by decide +kernel
theorem dd_O_leastInHand_26 : decode cc_O_leastInHand 26 = .ok (.iload_n 1, 1) := by decide +kernel
theorem dd_O_leastInHand_27 : decode cc_O_leastInHand 27 = .ok (.ifCond .eq (8), 3) := by decide +kernel
theorem dd_O_leastInHand_30 : decode cc_O_leastInHand 30 = .ok (.iload_n 3, 1) := by decide +kernel
theorem dd_O_leastInHand_31 : decode cc_O_leastInHand 31 = .ok (.iload_n 1, 1) := by decide +kernel
theorem dd_O_leastInHand_32 : decode cc_O_leastInHand 32 = .ok (.if_icmp .ge (5), 3) := by decide +kernel
theorem dd_O_leastInHand_35 : decode cc_O_leastInHand 35 = .ok (.iload_n 3, 1) := by decide +kernel
theorem dd_O_leastInHand_36 : decode cc_O_leastInHand 36 = .ok (.istore_n 1, 1) := by decide +kernel
theorem dd_O_leastInHand_37 : decode cc_O_leastInHand 37 = .ok (.iinc 2 (1), 3) := by decide +kernel
theorem dd_O_leastInHand_40 : decode cc_O_leastInHand 40 = .ok (.goto (-36), 3) := by decide +kernel
theorem dd_O_leastInHand_43 : decode cc_O_leastInHand 43 = .ok (.iload_n 1, 1) := by decide +kernel
theorem dd_O_leastInHand_44 : decode cc_O_leastInHand 44 = .ok (.ireturn, 1) := by decide +kernel
theorem dd_O_payLayer_0 : decode cc_O_payLayer 0 = .ok (.aload_n 0, 1) := by decide +kernel
theorem dd_O_payLayer_1 : decode cc_O_payLayer 1 = .ok (.iload_n 2, 1) := by decide +kernel
theorem dd_O_payLayer_2 : decode cc_O_payLayer 2 = .ok (.invokevirtual 262, 3) := by decide +kernel
theorem dd_O_payLayer_5 : decode cc_O_payLayer 5 = .ok (.istore_n 3, 1) := by decide +kernel
theorem dd_O_payLayer_6 : decode cc_O_payLayer 6 = .ok (.iconst 0, 1) := by decide +kernel
theorem dd_O_payLayer_7 : decode cc_O_payLayer 7 = .ok (.istore 4, 2) := by decide +kernel
theorem dd_O_payLayer_9 : decode cc_O_payLayer 9 = .ok (.iconst 0, 1) := by decide +kernel
theorem dd_O_payLayer_10 : decode cc_O_payLayer 10 = .ok (.istore 5, 2) := by decide +kernel
theorem dd_O_payLayer_12 : decode cc_O_payLayer 12 = .ok (.iconst 0, 1) := by decide +kernel
theorem dd_O_payLayer_13 : decode cc_O_payLayer 13 = .ok (.istore 6, 2) := by decide +kernel
theorem dd_O_payLayer_15 : decode cc_O_payLayer 15 = .ok (.iload 6, 2) := by decide +kernel
theorem dd_O_payLayer_17 : decode cc_O_payLayer 17 = .ok (.aload_n 0, 1) := by decide +kernel
theorem dd_O_payLayer_18 : decode cc_O_payLayer 18 = .ok (.getfield 51, 3) := by decide +kernel
theorem dd_O_payLayer_21 : decode cc_O_payLayer 21 = .ok (.if_icmp .ge (42), 3) := by decide +kernel
theorem dd_O_payLayer_24 : decode cc_O_payLayer 24 = .ok (.aload_n 0, 1) := by decide +kernel
theorem dd_O_payLayer_25 : decode cc_O_payLayer 25 = .ok (.getfield 11, 3) := by decide +kernel
theorem dd_O_payLayer_28 : decode cc_O_payLayer 28 = .ok (.iload 6, 2) := by decide +kernel
theorem dd_O_payLayer_30 : decode cc_O_payLayer 30 = .ok (.aaload, 1) := by decide +kernel
theorem dd_O_payLayer_31 : decode cc_O_payLayer 31 = .ok (.getfield 231, 3) := by decide +kernel
theorem dd_O_payLayer_34 : decode cc_O_payLayer 34 = .ok (.ifCond .le (9), 3) := by decide +kernel
theorem dd_O_payLayer_37 : decode cc_O_payLayer 37 = .ok (.iload 4, 2) := by decide +kernel
theorem dd_O_payLayer_39 : decode cc_O_payLayer 39 = .ok (.iload_n 1, 1) := by decide +kernel
theorem dd_O_payLayer_40 : decode cc_O_payLayer 40 = .ok (.iadd, 1) := by decide +kernel
theorem dd_O_payLayer_41 : decode cc_O_payLayer 41 = .ok (.istore 4, 2) := by decide +kernel
theorem dd_O_payLayer_43 : decode cc_O_payLayer 43 = .ok (.aload_n 0, 1) := by decide +kernel
theorem dd_O_payLayer_44 : decode cc_O_payLayer 44 = .ok (.iload 6, 2) := by decide +kernel
theorem dd_O_payLayer_46 : decode cc_O_payLayer 46 = .ok (.iload_n 2, 1) := by decide +kernel
theorem dd_O_payLayer_47 : decode cc_O_payLayer 47 = .ok (.iload_n 3, 1) := by decide +kernel
theorem dd_O_payLayer_48 : decode cc_O_payLayer 48 = .ok (.invokevirtual 265, 3) := by decide +kernel
theorem dd_O_payLayer_51 : decode cc_O_payLayer 51 = .ok (.ifCond .eq (6), 3) := by decide +kernel
theorem dd_O_payLayer_54 : decode cc_O_payLayer 54 = .ok (.iinc 5 (1), 3) := by decide +kernel
theorem dd_O_payLayer_57 : decode cc_O_payLayer 57 = .ok (.iinc 6 (1), 3) := by decide +kernel
theorem dd_O_payLayer_60 : decode cc_O_payLayer 60 = .ok (.goto (-45), 3) := by decide +kernel
theorem dd_O_payLayer_63 : decode cc_O_payLayer 63 = .ok (.iload 5, 2) := by decide +kernel
theorem dd_O_payLayer_65 : decode cc_O_payLayer 65 = .ok (.ifCond .le (11), 3) := by decide +kernel
theorem dd_O_payLayer_68 : decode cc_O_payLayer 68 = .ok (.iload 4, 2) := by decide +kernel
theorem dd_O_payLayer_70 : decode cc_O_payLayer 70 = .ok (.iload 5, 2) := by decide +kernel
theorem dd_O_payLayer_72 : decode cc_O_payLayer 72 = .ok (.idiv, 1) := by decide +kernel
theorem dd_O_payLayer_73 : decode cc_O_payLayer 73 = .ok (.goto (4), 3) := by decide +kernel
theorem dd_O_payLayer_76 : decode cc_O_payLayer 76 = .ok (.iconst 0, 1) := by decide +kernel
theorem dd_O_payLayer_77 : decode cc_O_payLayer 77 = .ok (.istore 6, 2) := by decide +kernel
theorem dd_O_payLayer_79 : decode cc_O_payLayer 79 = .ok (.iload 4, 2) := by decide +kernel
theorem dd_O_payLayer_81 : decode cc_O_payLayer 81 = .ok (.iload 6, 2) := by decide +kernel
theorem dd_O_payLayer_83 : decode cc_O_payLayer 83 = .ok (.iload 5, 2) := by decide +kernel
theorem dd_O_payLayer_85 : decode cc_O_payLayer 85 = .ok (.imul, 1) := by decide +kernel
theorem dd_O_payLayer_86 : decode cc_O_payLayer 86 = .ok (.isub, 1) := by decide +kernel
theorem dd_O_payLayer_87 : decode cc_O_payLayer 87 = .ok (.istore 7, 2) := by decide +kernel
theorem dd_O_payLayer_89 : decode cc_O_payLayer 89 = .ok (.iconst 0, 1) := by decide +kernel
theorem dd_O_payLayer_90 : decode cc_O_payLayer 90 = .ok (.istore 8, 2) := by decide +kernel
theorem dd_O_payLayer_92 : decode cc_O_payLayer 92 = .ok (.iload 8, 2) := by decide +kernel
theorem dd_O_payLayer_94 : decode cc_O_payLayer 94 = .ok (.aload_n 0, 1) := by decide +kernel
theorem dd_O_payLayer_95 : decode cc_O_payLayer 95 = .ok (.getfield 51, 3) := by decide +kernel
theorem dd_O_payLayer_98 : decode cc_O_payLayer 98 = .ok (.if_icmp .ge (97), 3) := by decide +kernel
theorem dd_O_payLayer_101 : decode cc_O_payLayer 101 = .ok (.aload_n 0, 1) := by decide +kernel
theorem dd_O_payLayer_102 : decode cc_O_payLayer 102 = .ok (.getfield 11, 3) := by decide +kernel
theorem dd_O_payLayer_105 : decode cc_O_payLayer 105 = .ok (.iload 8, 2) := by decide +kernel
theorem dd_O_payLayer_107 : decode cc_O_payLayer 107 = .ok (.aaload, 1) := by decide +kernel
theorem dd_O_payLayer_108 : decode cc_O_payLayer 108 = .ok (.astore 9, 2) := by decide +kernel
theorem dd_O_payLayer_110 : decode cc_O_payLayer 110 = .ok (.iload 5, 2) := by decide +kernel
theorem dd_O_payLayer_112 : decode cc_O_payLayer 112 = .ok (.ifCond .ne (25), 3) := by decide +kernel
theorem dd_O_payLayer_115 : decode cc_O_payLayer 115 = .ok (.aload 9, 2) := by decide +kernel
theorem dd_O_payLayer_117 : decode cc_O_payLayer 117 = .ok (.getfield 231, 3) := by decide +kernel
theorem dd_O_payLayer_120 : decode cc_O_payLayer 120 = .ok (.ifCond .le (17), 3) := by decide +kernel
theorem dd_O_payLayer_123 : decode cc_O_payLayer 123 = .ok (.aload 9, 2) := by decide +kernel
theorem dd_O_payLayer_125 : decode cc_O_payLayer 125 = .ok (.dup, 1) := by decide +kernel
theorem dd_O_payLayer_126 : decode cc_O_payLayer 126 = .ok (.getfield 58, 3) := by decide +kernel
theorem dd_O_payLayer_129 : decode cc_O_payLayer 129 = .ok (.iload_n 1, 1) := by decide +kernel
theorem dd_O_payLayer_130 : decode cc_O_payLayer 130 = .ok (.iadd, 1) := by decide +kernel
theorem dd_O_payLayer_131 : decode cc_O_payLayer 131 = .ok (.putfield 58, 3) := by decide +kernel
theorem dd_O_payLayer_134 : decode cc_O_payLayer 134 = .ok (.goto (32), 3) := by decide +kernel
theorem dd_O_payLayer_137 : decode cc_O_payLayer 137 = .ok (.aload_n 0, 1) := by decide +kernel
theorem dd_O_payLayer_138 : decode cc_O_payLayer 138 = .ok (.iload 8, 2) := by decide +kernel
theorem dd_O_payLayer_140 : decode cc_O_payLayer 140 = .ok (.iload_n 2, 1) := by decide +kernel
theorem dd_O_payLayer_141 : decode cc_O_payLayer 141 = .ok (.iload_n 3, 1) := by decide +kernel
theorem dd_O_payLayer_142 : decode cc_O_payLayer 142 = .ok (.invokevirtual 265, 3) := by decide +kernel
theorem dd_O_payLayer_145 : decode cc_O_payLayer 145 = .ok (.ifCond .eq (21), 3) := by decide +kernel
theorem dd_O_payLayer_148 : decode cc_O_payLayer 148 = .ok (.aload 9, 2) := by decide +kernel
theorem dd_O_payLayer_150 : decode cc_O_payLayer 150 = .ok (.dup, 1) := by decide +kernel
theorem dd_O_payLayer_151 : decode cc_O_payLayer 151 = .ok (.getfield 58, 3) := by decide +kernel
theorem dd_O_payLayer_154 : decode cc_O_payLayer 154 = .ok (.iload 6, 2) := by decide +kernel
theorem dd_O_payLayer_156 : decode cc_O_payLayer 156 = .ok (.iload 7, 2) := by decide +kernel
theorem dd_O_payLayer_158 : decode cc_O_payLayer 158 = .ok (.iadd, 1) := by decide +kernel
theorem dd_O_payLayer_159 : decode cc_O_payLayer 159 = .ok (.iadd, 1) := by decide +kernel
theorem dd_O_payLayer_160 : decode cc_O_payLayer 160 = .ok (.putfield 58, 3) := by decide +kernel
theorem dd_O_payLayer_163 : decode cc_O_payLayer 163 = .ok (.iconst 0, 1) := by decide +kernel
theorem dd_O_payLayer_164 : decode cc_O_payLayer 164 = .ok (.istore 7, 2) := by decide +kernel
theorem dd_O_payLayer_166 : decode cc_O_payLayer 166 = .ok (.aload 9, 2) := by decide +kernel
theorem dd_O_payLayer_168 : decode cc_O_payLayer 168 = .ok (.dup, 1) := by decide +kernel
theorem dd_O_payLayer_169 : decode cc_O_payLayer 169 = .ok (.getfield 231, 3) := by decide +kernel
theorem dd_O_payLayer_172 : decode cc_O_payLayer 172 = .ok (.aload 9, 2) := by decide +kernel
theorem dd_O_payLayer_174 : decode cc_O_payLayer 174 = .ok (.getfield 231, 3) := by decide +kernel
theorem dd_O_payLayer_177 : decode cc_O_payLayer 177 = .ok (.ifCond .le (7), 3) := by decide +kernel
theorem dd_O_payLayer_180 : decode cc_O_payLayer 180 = .ok (.iload_n 1, 1) := by decide +kernel
theorem dd_O_payLayer_181 : decode cc_O_payLayer 181 = .ok (.goto (4), 3) := by decide +kernel
theorem dd_O_payLayer_184 : decode cc_O_payLayer 184 = .ok (.iconst 0, 1) := by decide +kernel
theorem dd_O_payLayer_185 : decode cc_O_payLayer 185 = .ok (.isub, 1) := by decide +kernel
theorem dd_O_payLayer_186 : decode cc_O_payLayer 186 = .ok (.putfield 231, 3) := by decide +kernel
theorem dd_O_payLayer_189 : decode cc_O_payLayer 189 = .ok (.iinc 8 (1), 3) := by decide +kernel
theorem dd_O_payLayer_192 : decode cc_O_payLayer 192 = .ok (.goto (-100), 3) := by decide +kernel
theorem dd_O_payLayer_195 : decode cc_O_payLayer 195 = .ok (.return_, 1) := by decide +kernel
theorem dd_O_winsLayer_0 : decode cc_O_winsLayer 0 = .ok (.aload_n 0, 1) := by decide +kernel
theorem dd_O_winsLayer_1 : decode cc_O_winsLayer 1 = .ok (.getfield 11, 3) := by decide +kernel
theorem dd_O_winsLayer_4 : decode cc_O_winsLayer 4 = .ok (.iload_n 1, 1) := by decide +kernel
theorem dd_O_winsLayer_5 : decode cc_O_winsLayer 5 = .ok (.aaload, 1) := by decide +kernel
theorem dd_O_winsLayer_6 : decode cc_O_winsLayer 6 = .ok (.invokevirtual 269, 3) := by decide +kernel
theorem dd_O_winsLayer_9 : decode cc_O_winsLayer 9 = .ok (.ifCond .eq (16), 3) := by decide +kernel
theorem dd_O_winsLayer_12 : decode cc_O_winsLayer 12 = .ok (.iload_n 1, 1) := by decide +kernel
theorem dd_O_winsLayer_13 : decode cc_O_winsLayer 13 = .ok (.iload_n 2, 1) := by decide +kernel
theorem dd_O_winsLayer_14 : decode cc_O_winsLayer 14 = .ok (.invokestatic 272, 3) := by decide +kernel
theorem dd_O_winsLayer_17 : decode cc_O_winsLayer 17 = .ok (.iload_n 3, 1) := by decide +kernel
theorem dd_O_winsLayer_18 : decode cc_O_winsLayer 18 = .ok (.if_icmp .ne (7), 3) := by decide +kernel
theorem dd_O_winsLayer_21 : decode cc_O_winsLayer 21 = .ok (.iconst 1, 1) := by decide +kernel
theorem dd_O_winsLayer_22 : decode cc_O_winsLayer 22 = .ok (.goto (4), 3) := by decide +kernel
theorem dd_O_winsLayer_25 : decode cc_O_winsLayer 25 = .ok (.iconst 0, 1) := by decide +kernel
theorem dd_O_winsLayer_26 : decode cc_O_winsLayer 26 = .ok (.ireturn, 1) := by decide +kernel
theorem dd_O_bestRank_0 : decode cc_O_bestRank 0 = .ok (.iconst (-1), 1) := by decide +kernel
theorem dd_O_bestRank_1 : decode cc_O_bestRank 1 = .ok (.istore_n 2, 1) := by decide +kernel
theorem dd_O_bestRank_2 : decode cc_O_bestRank 2 = .ok (.iconst 0, 1) := by decide +kernel
theorem dd_O_bestRank_3 : decode cc_O_bestRank 3 = .ok (.istore_n 3, 1) := by decide +kernel
theorem dd_O_bestRank_4 : decode cc_O_bestRank 4 = .ok (.iload_n 3, 1) := by decide +kernel
theorem dd_O_bestRank_5 : decode cc_O_bestRank 5 = .ok (.aload_n 0, 1) := by decide +kernel
theorem dd_O_bestRank_6 : decode cc_O_bestRank 6 = .ok (.getfield 51, 3) := by decide +kernel
theorem dd_O_bestRank_9 : decode cc_O_bestRank 9 = .ok (.if_icmp .ge (31), 3) := by decide +kernel
theorem dd_O_bestRank_12 : decode cc_O_bestRank 12 = .ok (.aload_n 0, 1) := by decide +kernel
theorem dd_O_bestRank_13 : decode cc_O_bestRank 13 = .ok (.getfield 11, 3) := by decide +kernel
theorem dd_O_bestRank_16 : decode cc_O_bestRank 16 = .ok (.iload_n 3, 1) := by decide +kernel
theorem dd_O_bestRank_17 : decode cc_O_bestRank 17 = .ok (.aaload, 1) := by decide +kernel
theorem dd_O_bestRank_18 : decode cc_O_bestRank 18 = .ok (.invokevirtual 269, 3) := by decide +kernel
theorem dd_O_bestRank_21 : decode cc_O_bestRank 21 = .ok (.ifCond .eq (13), 3) := by decide +kernel
theorem dd_O_bestRank_24 : decode cc_O_bestRank 24 = .ok (.iload_n 2, 1) := by decide +kernel
theorem dd_O_bestRank_25 : decode cc_O_bestRank 25 = .ok (.iload_n 3, 1) := by decide +kernel
theorem dd_O_bestRank_26 : decode cc_O_bestRank 26 = .ok (.iload_n 1, 1) := by decide +kernel
theorem dd_O_bestRank_27 : decode cc_O_bestRank 27 = .ok (.invokestatic 272, 3) := by decide +kernel
theorem dd_O_bestRank_30 : decode cc_O_bestRank 30 = .ok (.invokestatic 259, 3) := by decide +kernel
theorem dd_O_bestRank_33 : decode cc_O_bestRank 33 = .ok (.istore_n 2, 1) := by decide +kernel
theorem dd_O_bestRank_34 : decode cc_O_bestRank 34 = .ok (.iinc 3 (1), 3) := by decide +kernel
theorem dd_O_bestRank_37 : decode cc_O_bestRank 37 = .ok (.goto (-33), 3) := by decide +kernel
theorem dd_O_bestRank_40 : decode cc_O_bestRank 40 = .ok (.iload_n 2, 1) := by decide +kernel
theorem dd_O_bestRank_41 : decode cc_O_bestRank 41 = .ok (.ireturn, 1) := by decide +kernel
theorem dd_O_rankOf_0 : decode cc_O_rankOf 0 = .ok (.iload_n 1, 1) := by decide +kernel
theorem dd_O_rankOf_1 : decode cc_O_rankOf 1 = .ok (.iconst 4, 1) := by decide +kernel
theorem dd_O_rankOf_2 : decode cc_O_rankOf 2 = .ok (.iload_n 0, 1) := by decide +kernel
theorem dd_O_rankOf_3 : decode cc_O_rankOf 3 = .ok (.imul, 1) := by decide +kernel
theorem dd_O_rankOf_4 : decode cc_O_rankOf 4 = .ok (.iushr, 1) := by decide +kernel
theorem dd_O_rankOf_5 : decode cc_O_rankOf 5 = .ok (.bipush (15), 2) := by decide +kernel
theorem dd_O_rankOf_7 : decode cc_O_rankOf 7 = .ok (.iand, 1) := by decide +kernel
theorem dd_O_rankOf_8 : decode cc_O_rankOf 8 = .ok (.ireturn, 1) := by decide +kernel
theorem dd_O_reckonAudit_0 : decode cc_O_reckonAudit 0 = .ok (.iconst 0, 1) := by decide +kernel
theorem dd_O_reckonAudit_1 : decode cc_O_reckonAudit 1 = .ok (.istore_n 1, 1) := by decide +kernel
theorem dd_O_reckonAudit_2 : decode cc_O_reckonAudit 2 = .ok (.iload_n 1, 1) := by decide +kernel
theorem dd_O_reckonAudit_3 : decode cc_O_reckonAudit 3 = .ok (.aload_n 0, 1) := by decide +kernel
theorem dd_O_reckonAudit_4 : decode cc_O_reckonAudit 4 = .ok (.getfield 51, 3) := by decide +kernel
theorem dd_O_reckonAudit_7 : decode cc_O_reckonAudit 7 = .ok (.if_icmp .ge (41), 3) := by decide +kernel
theorem dd_O_reckonAudit_10 : decode cc_O_reckonAudit 10 = .ok (.aload_n 0, 1) := by decide +kernel
theorem dd_O_reckonAudit_11 : decode cc_O_reckonAudit 11 = .ok (.getfield 11, 3) := by decide +kernel
theorem dd_O_reckonAudit_14 : decode cc_O_reckonAudit 14 = .ok (.iload_n 1, 1) := by decide +kernel
theorem dd_O_reckonAudit_15 : decode cc_O_reckonAudit 15 = .ok (.aaload, 1) := by decide +kernel
theorem dd_O_reckonAudit_16 : decode cc_O_reckonAudit 16 = .ok (.getfield 99, 3) := by decide +kernel
theorem dd_O_reckonAudit_19 : decode cc_O_reckonAudit 19 = .ok (.aload_n 0, 1) := by decide +kernel
theorem dd_O_reckonAudit_20 : decode cc_O_reckonAudit 20 = .ok (.getfield 11, 3) := by decide +kernel
theorem dd_O_reckonAudit_23 : decode cc_O_reckonAudit 23 = .ok (.iload_n 1, 1) := by decide +kernel
theorem dd_O_reckonAudit_24 : decode cc_O_reckonAudit 24 = .ok (.aaload, 1) := by decide +kernel
theorem dd_O_reckonAudit_25 : decode cc_O_reckonAudit 25 = .ok (.getfield 275, 3) := by decide +kernel
theorem dd_O_reckonAudit_28 : decode cc_O_reckonAudit 28 = .ok (.invokevirtual 95, 3) := by decide +kernel
theorem dd_O_reckonAudit_31 : decode cc_O_reckonAudit 31 = .ok (.lcmp, 1) := by decide +kernel
theorem dd_O_reckonAudit_32 : decode cc_O_reckonAudit 32 = .ok (.ifCond .eq (10), 3) := by decide +kernel
theorem dd_O_reckonAudit_35 : decode cc_O_reckonAudit 35 = .ok (.bipush (16), 2) := by decide +kernel
theorem dd_O_reckonAudit_37 : decode cc_O_reckonAudit 37 = .ok (.iload_n 1, 1) := by decide +kernel
theorem dd_O_reckonAudit_38 : decode cc_O_reckonAudit 38 = .ok (.imul, 1) := by decide +kernel
theorem dd_O_reckonAudit_39 : decode cc_O_reckonAudit 39 = .ok (.iconst 1, 1) := by decide +kernel
theorem dd_O_reckonAudit_40 : decode cc_O_reckonAudit 40 = .ok (.iadd, 1) := by decide +kernel
theorem dd_O_reckonAudit_41 : decode cc_O_reckonAudit 41 = .ok (.ireturn, 1) := by decide +kernel
theorem dd_O_reckonAudit_42 : decode cc_O_reckonAudit 42 = .ok (.iinc 1 (1), 3) := by decide +kernel
theorem dd_O_reckonAudit_45 : decode cc_O_reckonAudit 45 = .ok (.goto (-43), 3) := by decide +kernel
theorem dd_O_reckonAudit_48 : decode cc_O_reckonAudit 48 = .ok (.iconst 0, 1) := by decide +kernel
theorem dd_O_reckonAudit_49 : decode cc_O_reckonAudit 49 = .ok (.istore_n 1, 1) := by decide +kernel
theorem dd_O_reckonAudit_50 : decode cc_O_reckonAudit 50 = .ok (.iload_n 1, 1) := by decide +kernel
theorem dd_O_reckonAudit_51 : decode cc_O_reckonAudit 51 = .ok (.iconst 2, 1) := by decide +kernel
theorem dd_O_reckonAudit_52 : decode cc_O_reckonAudit 52 = .ok (.aload_n 0, 1) := by decide +kernel
theorem dd_O_reckonAudit_53 : decode cc_O_reckonAudit 53 = .ok (.getfield 51, 3) := by decide +kernel
theorem dd_O_reckonAudit_56 : decode cc_O_reckonAudit 56 = .ok (.imul, 1) := by decide +kernel
theorem dd_O_reckonAudit_57 : decode cc_O_reckonAudit 57 = .ok (.if_icmp .ge (70), 3) := by decide +kernel
theorem dd_O_reckonAudit_60 : decode cc_O_reckonAudit 60 = .ok (.aload_n 0, 1) := by decide +kernel
theorem dd_O_reckonAudit_61 : decode cc_O_reckonAudit 61 = .ok (.iload_n 1, 1) := by decide +kernel
theorem dd_O_reckonAudit_62 : decode cc_O_reckonAudit 62 = .ok (.invokevirtual 237, 3) := by decide +kernel
theorem dd_O_reckonAudit_65 : decode cc_O_reckonAudit 65 = .ok (.istore_n 2, 1) := by decide +kernel
theorem dd_O_reckonAudit_66 : decode cc_O_reckonAudit 66 = .ok (.aload_n 0, 1) := by decide +kernel
theorem dd_O_reckonAudit_67 : decode cc_O_reckonAudit 67 = .ok (.iload_n 1, 1) := by decide +kernel
theorem dd_O_reckonAudit_68 : decode cc_O_reckonAudit 68 = .ok (.aload_n 0, 1) := by decide +kernel
theorem dd_O_reckonAudit_69 : decode cc_O_reckonAudit 69 = .ok (.getfield 11, 3) := by decide +kernel
theorem dd_O_reckonAudit_72 : decode cc_O_reckonAudit 72 = .ok (.iload_n 2, 1) := by decide +kernel
theorem dd_O_reckonAudit_73 : decode cc_O_reckonAudit 73 = .ok (.aaload, 1) := by decide +kernel
theorem dd_O_reckonAudit_74 : decode cc_O_reckonAudit 74 = .ok (.getfield 275, 3) := by decide +kernel
theorem dd_O_reckonAudit_77 : decode cc_O_reckonAudit 77 = .ok (.aload_n 0, 1) := by decide +kernel
theorem dd_O_reckonAudit_78 : decode cc_O_reckonAudit 78 = .ok (.getfield 28, 3) := by decide +kernel
theorem dd_O_reckonAudit_81 : decode cc_O_reckonAudit 81 = .ok (.invokevirtual 125, 3) := by decide +kernel
theorem dd_O_reckonAudit_84 : decode cc_O_reckonAudit 84 = .ok (.aload_n 0, 1) := by decide +kernel
theorem dd_O_reckonAudit_85 : decode cc_O_reckonAudit 85 = .ok (.getfield 28, 3) := by decide +kernel
theorem dd_O_reckonAudit_88 : decode cc_O_reckonAudit 88 = .ok (.aload_n 0, 1) := by decide +kernel
theorem dd_O_reckonAudit_89 : decode cc_O_reckonAudit 89 = .ok (.getfield 18, 3) := by decide +kernel
theorem dd_O_reckonAudit_92 : decode cc_O_reckonAudit 92 = .ok (.iload_n 1, 1) := by decide +kernel
theorem dd_O_reckonAudit_93 : decode cc_O_reckonAudit 93 = .ok (.iconst 1, 1) := by decide +kernel
theorem dd_O_reckonAudit_94 : decode cc_O_reckonAudit 94 = .ok (.iadd, 1) := by decide +kernel
theorem dd_O_reckonAudit_95 : decode cc_O_reckonAudit 95 = .ok (.aaload, 1) := by decide +kernel
theorem dd_O_reckonAudit_96 : decode cc_O_reckonAudit 96 = .ok (.invokestatic 278, 3) := by decide +kernel
theorem dd_O_reckonAudit_99 : decode cc_O_reckonAudit 99 = .ok (.ifCond .ne (22), 3) := by decide +kernel
theorem dd_O_reckonAudit_102 : decode cc_O_reckonAudit 102 = .ok (.bipush (16), 2) := by decide +kernel
theorem dd_O_reckonAudit_104 : decode cc_O_reckonAudit 104 = .ok (.iload_n 2, 1) := by decide +kernel
theorem dd_O_reckonAudit_105 : decode cc_O_reckonAudit 105 = .ok (.imul, 1) := by decide +kernel
theorem dd_O_reckonAudit_106 : decode cc_O_reckonAudit 106 = .ok (.iload_n 1, 1) := by decide +kernel
theorem dd_O_reckonAudit_107 : decode cc_O_reckonAudit 107 = .ok (.aload_n 0, 1) := by decide +kernel
theorem dd_O_reckonAudit_108 : decode cc_O_reckonAudit 108 = .ok (.getfield 51, 3) := by decide +kernel
theorem dd_O_reckonAudit_111 : decode cc_O_reckonAudit 111 = .ok (.if_icmp .ge (7), 3) := by decide +kernel
theorem dd_O_reckonAudit_114 : decode cc_O_reckonAudit 114 = .ok (.iconst 2, 1) := by decide +kernel
theorem dd_O_reckonAudit_115 : decode cc_O_reckonAudit 115 = .ok (.goto (4), 3) := by decide +kernel
theorem dd_O_reckonAudit_118 : decode cc_O_reckonAudit 118 = .ok (.iconst 3, 1) := by decide +kernel
theorem dd_O_reckonAudit_119 : decode cc_O_reckonAudit 119 = .ok (.iadd, 1) := by decide +kernel
theorem dd_O_reckonAudit_120 : decode cc_O_reckonAudit 120 = .ok (.ireturn, 1) := by decide +kernel
theorem dd_O_reckonAudit_121 : decode cc_O_reckonAudit 121 = .ok (.iinc 1 (1), 3) := by decide +kernel
theorem dd_O_reckonAudit_124 : decode cc_O_reckonAudit 124 = .ok (.goto (-74), 3) := by decide +kernel
theorem dd_O_reckonAudit_127 : decode cc_O_reckonAudit 127 = .ok (.iconst 0, 1) := by decide +kernel
theorem dd_O_reckonAudit_128 : decode cc_O_reckonAudit 128 = .ok (.istore_n 1, 1) := by decide +kernel
theorem dd_O_reckonAudit_129 : decode cc_O_reckonAudit 129 = .ok (.iload_n 1, 1) := by decide +kernel
theorem dd_O_reckonAudit_130 : decode cc_O_reckonAudit 130 = .ok (.bipush (52), 2) := by decide +kernel
theorem dd_O_reckonAudit_132 : decode cc_O_reckonAudit 132 = .ok (.if_icmp .ge (45), 3) := by decide +kernel
theorem dd_O_reckonAudit_135 : decode cc_O_reckonAudit 135 = .ok (.iconst 0, 1) := by decide +kernel
theorem dd_O_reckonAudit_136 : decode cc_O_reckonAudit 136 = .ok (.istore_n 2, 1) := by decide +kernel
theorem dd_O_reckonAudit_137 : decode cc_O_reckonAudit 137 = .ok (.iload_n 2, 1) := by decide +kernel
theorem dd_O_reckonAudit_138 : decode cc_O_reckonAudit 138 = .ok (.aload_n 0, 1) := by decide +kernel
theorem dd_O_reckonAudit_139 : decode cc_O_reckonAudit 139 = .ok (.getfield 51, 3) := by decide +kernel
theorem dd_O_reckonAudit_142 : decode cc_O_reckonAudit 142 = .ok (.if_icmp .ge (29), 3) := by decide +kernel
theorem dd_O_reckonAudit_145 : decode cc_O_reckonAudit 145 = .ok (.aload_n 0, 1) := by decide +kernel
theorem dd_O_reckonAudit_146 : decode cc_O_reckonAudit 146 = .ok (.getfield 11, 3) := by decide +kernel
theorem dd_O_reckonAudit_149 : decode cc_O_reckonAudit 149 = .ok (.iload_n 2, 1) := by decide +kernel
theorem dd_O_reckonAudit_150 : decode cc_O_reckonAudit 150 = .ok (.aaload, 1) := by decide +kernel
theorem dd_O_reckonAudit_151 : decode cc_O_reckonAudit 151 = .ok (.iload_n 1, 1) := by decide +kernel
theorem dd_O_reckonAudit_152 : decode cc_O_reckonAudit 152 = .ok (.invokevirtual 282, 3) := by decide +kernel
theorem dd_O_reckonAudit_155 : decode cc_O_reckonAudit 155 = .ok (.ifCond .eq (10), 3) := by decide +kernel
theorem dd_O_reckonAudit_158 : decode cc_O_reckonAudit 158 = .ok (.bipush (16), 2) := by decide +kernel
theorem dd_O_reckonAudit_160 : decode cc_O_reckonAudit 160 = .ok (.iload_n 2, 1) := by decide +kernel
theorem dd_O_reckonAudit_161 : decode cc_O_reckonAudit 161 = .ok (.imul, 1) := by decide +kernel
theorem dd_O_reckonAudit_162 : decode cc_O_reckonAudit 162 = .ok (.iconst 4, 1) := by decide +kernel
theorem dd_O_reckonAudit_163 : decode cc_O_reckonAudit 163 = .ok (.iadd, 1) := by decide +kernel
theorem dd_O_reckonAudit_164 : decode cc_O_reckonAudit 164 = .ok (.ireturn, 1) := by decide +kernel
theorem dd_O_reckonAudit_165 : decode cc_O_reckonAudit 165 = .ok (.iinc 2 (1), 3) := by decide +kernel
theorem dd_O_reckonAudit_168 : decode cc_O_reckonAudit 168 = .ok (.goto (-31), 3) := by decide +kernel
theorem dd_O_reckonAudit_171 : decode cc_O_reckonAudit 171 = .ok (.iinc 1 (1), 3) := by decide +kernel
theorem dd_O_reckonAudit_174 : decode cc_O_reckonAudit 174 = .ok (.goto (-45), 3) := by decide +kernel
theorem dd_O_reckonAudit_177 : decode cc_O_reckonAudit 177 = .ok (.iconst 0, 1) := by decide +kernel
theorem dd_O_reckonAudit_178 : decode cc_O_reckonAudit 178 = .ok (.ireturn, 1) := by decide +kernel
theorem dd_O_isSameDeck_0 : decode cc_O_isSameDeck 0 = .ok (.iconst 0, 1) := by decide +kernel
theorem dd_O_isSameDeck_1 : decode cc_O_isSameDeck 1 = .ok (.istore_n 2, 1) := by decide +kernel
theorem dd_O_isSameDeck_2 : decode cc_O_isSameDeck 2 = .ok (.iload_n 2, 1) := by decide +kernel
theorem dd_O_isSameDeck_3 : decode cc_O_isSameDeck 3 = .ok (.bipush (52), 2) := by decide +kernel
theorem dd_O_isSameDeck_5 : decode cc_O_isSameDeck 5 = .ok (.if_icmp .ge (20), 3) := by decide +kernel
theorem dd_O_isSameDeck_8 : decode cc_O_isSameDeck 8 = .ok (.aload_n 0, 1) := by decide +kernel
theorem dd_O_isSameDeck_9 : decode cc_O_isSameDeck 9 = .ok (.iload_n 2, 1) := by decide +kernel
theorem dd_O_isSameDeck_10 : decode cc_O_isSameDeck 10 = .ok (.iaload, 1) := by decide +kernel
theorem dd_O_isSameDeck_11 : decode cc_O_isSameDeck 11 = .ok (.aload_n 1, 1) := by decide +kernel
theorem dd_O_isSameDeck_12 : decode cc_O_isSameDeck 12 = .ok (.iload_n 2, 1) := by decide +kernel
theorem dd_O_isSameDeck_13 : decode cc_O_isSameDeck 13 = .ok (.iaload, 1) := by decide +kernel
theorem dd_O_isSameDeck_14 : decode cc_O_isSameDeck 14 = .ok (.if_icmp .eq (5), 3) := by decide +kernel
theorem dd_O_isSameDeck_17 : decode cc_O_isSameDeck 17 = .ok (.iconst 0, 1) := by decide +kernel
theorem dd_O_isSameDeck_18 : decode cc_O_isSameDeck 18 = .ok (.ireturn, 1) := by decide +kernel
theorem dd_O_isSameDeck_19 : decode cc_O_isSameDeck 19 = .ok (.iinc 2 (1), 3) := by decide +kernel
theorem dd_O_isSameDeck_22 : decode cc_O_isSameDeck 22 = .ok (.goto (-20), 3) := by decide +kernel
theorem dd_O_isSameDeck_25 : decode cc_O_isSameDeck 25 = .ok (.iconst 1, 1) := by decide +kernel
theorem dd_O_isSameDeck_26 : decode cc_O_isSameDeck 26 = .ok (.ireturn, 1) := by decide +kernel
end
section
/-! methods over numbers alone, laid by program -/
def ff_N_times (n : Nat) (a0 : Int32) (a1 : Int32) (a2 : Int32) : Option Int32 := if a2 ≤ 0 then (some (0 : Int32)) else (if ¬ (Int32.toInt64 a2) = 0 then tl (((Int32.toInt64 a0) * (Int32.toInt64 a1)) - ((Int32.toInt64 a0) * (Int32.toInt64 a1)) / (Int32.toInt64 a2) * (Int32.toInt64 a2)) fun y3 => some (Int64.toInt32 y3) else none)
set_option maxHeartbeats 4000000 in
set_option maxRecDepth 100000 in
theorem mm_N_times (l : Launch) (n : Nat) (a0 : Int32) (a1 : Int32) (a2 : Int32) (r : Int32) (h : ff_N_times n a0 a1 a2 = some r) : Met l yy_N_times (.code yy_N_times cc_N_times 3 (some .int) :: kw) { frames := 0, cells := 0, slots := 0, locals := 0 } (va_Pc [.int a0, .int a1, .int a2] (fun _ => True)) (vp_Si (fun z => z = r)) 0 0 (fun _ => False) := by
  refine Met.ofW (cc := cc_N_times) (maxL := 3) (ret := some .int) (by decide) rfl ?_
  intro p e s m args below meth c s₁ B hml hv
  obtain ⟨rfl, -⟩ := hv
  have hx := B.exec
  have hb := B.bytes
  have hr := B.returns
  have hlocks := B.notSynchronized
  have hk : ∀ w ∈ kw, w.before _ s = true := fun w hw => atoms_spec (ws := (.code yy_N_times cc_N_times 3 (some .int) :: kw)) B.pre w (List.mem_cons_of_mem _ hw)
  have hown : s.vm.findClass "OpenDeal$Numbers" = some m.cls := findClass_of_methodNamed B.named
  have hl := lv_entry ([.int a0, .int a1, .int a2]) (n := 3) (Nat.le_of_ble_eq_true rfl)
  rw [lg_entry_eq]
  generalize (lg_sl ([.int a0, .int a1, .int a2]) ++ List.replicate (3 - (lg_sl ([.int a0, .int a1, .int a2])).length) Slot.unset).toArray = ls at hl ⊢
  have hl : lv_has ls 3 [(0, .int a0), (1, .int a1), (2, .int a2)] := hl
  unfold ff_N_times at h
  refine lv_iload_n hx hb dd_N_times_0 rfl (lv_at hl 2 rfl) ?_
  refine lv_if_le (tgt := 16) hx hb dd_N_times_1 (by decide) (fun hc1 => ?_) (fun hc1 => ?_)
  · have h := ip_out hc1 h
    refine lv_iconst (v := 0) hx hb dd_N_times_16 (by decide) ?_
    obtain rfl := Option.some.inj h
    exact W.iret hx hb hr (fun t ht hW => ⟨_, rfl, rfl, ht⟩) (fun q hq => by cases hq) dd_N_times_17
  · have h := in_out hc1 h
    refine lv_iload_n hx hb dd_N_times_4 rfl (lv_at hl 0 rfl) ?_
    refine lv_i2l hx hb dd_N_times_5 rfl ?_
    refine lv_iload_n hx hb dd_N_times_6 rfl (lv_at hl 1 rfl) ?_
    refine lv_i2l hx hb dd_N_times_7 rfl ?_
    refine lv_lmul hx hb dd_N_times_8 ?_
    refine lv_iload_n hx hb dd_N_times_9 rfl (lv_at hl 2 rfl) ?_
    refine lv_i2l hx hb dd_N_times_10 rfl ?_
    obtain ⟨hz2, h⟩ := oi_out h
    refine lv_lrem hx hb dd_N_times_11 hz2 ?_
    refine lv_topl (fun y3 ey3 => ?_)
    have h := tl_at ey3 h
    refine lv_l2i hx hb dd_N_times_12 rfl ?_
    refine lv_goto (tgt := 17) hx hb dd_N_times_13 (by decide) ?_
    obtain rfl := Option.some.inj h
    exact W.iret hx hb hr (fun t ht hW => ⟨_, rfl, rfl, ht⟩) (fun q hq => by cases hq) dd_N_times_17
def ff_N_power_29 (k8 : Int32 → Int32 → Int32 → Int32 → Int32 → Int32 → Option Int32) (n : Nat) (v0 : Int32) (v1 : Int32) (v2 : Int32) (v3 : Int32) (v4 : Int32) (v5 : Int32) : Option Int32 := (ff_N_times n v4 v4 v2).bind fun r1 => tl (v5 / (2 : Int32)) fun y2 => k8 v0 v1 v2 v3 r1 y2
def ff_N_power_8  : Nat → Int32 → Int32 → Int32 → Int32 → Int32 → Int32 → Option Int32
  | 0, _, _, _, _, _, _ => none
  | n + 1, v0, v1, v2, v3, v4, v5 => if v5 ≤ 0 then (some v3) else (tl (v5 - v5 / (2 : Int32) * (2 : Int32)) fun y4 => if y4 = (1 : Int32) then ((ff_N_times n v3 v4 v2).bind fun r6 => ff_N_power_29 (ff_N_power_8 n) n v0 v1 v2 r6 v4 v5) else (ff_N_power_29 (ff_N_power_8 n) n v0 v1 v2 v3 v4 v5))
def ff_N_power (n : Nat) (a0 : Int32) (a1 : Int32) (a2 : Int32) : Option Int32 := ff_N_power_8 n a0 a1 a2 (1 : Int32) a0 a1
set_option maxHeartbeats 4000000 in
set_option maxRecDepth 100000 in
theorem mm_N_power (l : Launch) (n : Nat) (a0 : Int32) (a1 : Int32) (a2 : Int32) (r : Int32) (h : ff_N_power n a0 a1 a2 = some r) : Met l yy_N_power (.code yy_N_power cc_N_power 6 (some .int) :: kw) { frames := 1, cells := 0, slots := 0, locals := 22 } (va_Pc [.int a0, .int a1, .int a2] (fun _ => True)) (vp_Si (fun z => z = r)) 0 0 (fun _ => False) := by
  refine Met.ofW (cc := cc_N_power) (maxL := 6) (ret := some .int) (by decide) rfl ?_
  intro p e s m args below meth c s₁ B hml hv
  obtain ⟨rfl, -⟩ := hv
  have hx := B.exec
  have hb := B.bytes
  have hr := B.returns
  have hlocks := B.notSynchronized
  have hk : ∀ w ∈ kw, w.before _ s = true := fun w hw => atoms_spec (ws := (.code yy_N_power cc_N_power 6 (some .int) :: kw)) B.pre w (List.mem_cons_of_mem _ hw)
  have hown : s.vm.findClass "OpenDeal$Numbers" = some m.cls := findClass_of_methodNamed B.named
  have L29 : ∀ (k8 : Int32 → Int32 → Int32 → Int32 → Int32 → Int32 → Option Int32) (hk8 : ∀ (v0 : Int32) (v1 : Int32) (v2 : Int32) (v3 : Int32) (v4 : Int32) (v5 : Int32), k8 v0 v1 v2 v3 v4 v5 = some r → ∀ ls, lv_has ls 6 [(0, .int v0), (1, .int v1), (2, .int v2), (3, .int v3), (4, .int v4), (5, .int v5)] → W p l e (headSpec (.code yy_N_power cc_N_power 6 (some .int) :: kw) { frames := 1, cells := 0, slots := 0, locals := 22 }).room s m ([.int a0, .int a1, .int a2] : List Value).toArray below meth c s.heap [] 0 0 (MQ below (vp_Si (fun z => z = r)) ([.int a0, .int a1, .int a2] : List Value).toArray s 0 0 (fun _ => False)) (F0 m 8 ls [])) (n : Nat) (v0 : Int32) (v1 : Int32) (v2 : Int32) (v3 : Int32) (v4 : Int32) (v5 : Int32), ff_N_power_29 k8 n v0 v1 v2 v3 v4 v5 = some r → ∀ ls, lv_has ls 6 [(0, .int v0), (1, .int v1), (2, .int v2), (3, .int v3), (4, .int v4), (5, .int v5)] → W p l e (headSpec (.code yy_N_power cc_N_power 6 (some .int) :: kw) { frames := 1, cells := 0, slots := 0, locals := 22 }).room s m ([.int a0, .int a1, .int a2] : List Value).toArray below meth c s.heap [] 0 0 (MQ below (vp_Si (fun z => z = r)) ([.int a0, .int a1, .int a2] : List Value).toArray s 0 0 (fun _ => False)) (F0 m 29 ls []) := by
    intro k8 hk8 n v0 v1 v2 v3 v4 v5 h ls hl
    unfold ff_N_power_29 at h
    refine lv_iload hx hb dd_N_power_29 (lv_at hl 4 rfl) ?_
    refine lv_iload hx hb dd_N_power_31 (lv_at hl 4 rfl) ?_
    refine lv_iload_n hx hb dd_N_power_33 rfl (lv_at hl 2 rfl) ?_
    obtain ⟨r1, hr1, h⟩ := ob_out h
    refine ro_Si (n := 3) (As := [.int v4, .int v4, .int v2]) hx hb hml hown hk (mm_N_times l _ _ _ _ _ hr1) (fun U _ _ => trivial) (fun _ _ _ _ _ => trivial) kw_158 kw_159 kw_5 kw_160 ⟨rfl, rfl⟩ (by decide +kernel) ⟨Nat.le_of_ble_eq_true rfl, Nat.le_of_ble_eq_true rfl⟩ rfl hl.1 rfl (Nat.le_of_ble_eq_true rfl) dd_N_power_34 ⟨Nat.zero_le _, Nat.zero_le _⟩ ?_
    refine lv_istore (lv' := [(4, .int r1), (0, .int v0), (1, .int v1), (2, .int v2), (3, .int v3), (5, .int v5)]) hx hb dd_N_power_37 hl (by decide) rfl (fun ls hl => ?_)
    refine lv_iload hx hb dd_N_power_39 (lv_at hl 5 rfl) ?_
    refine lv_iconst (v := 2) hx hb dd_N_power_41 (by decide) ?_
    refine lv_idiv hx hb dd_N_power_42 (by decide) ?_
    refine lv_topi (fun y2 ey2 => ?_)
    have h := tl_at ey2 h
    refine lv_istore (lv' := [(5, .int y2), (4, .int r1), (0, .int v0), (1, .int v1), (2, .int v2), (3, .int v3)]) hx hb dd_N_power_43 hl (by decide) rfl (fun ls hl => ?_)
    refine lv_goto (tgt := 8) hx hb dd_N_power_45 (by decide) ?_
    exact hk8 _ _ _ _ _ _ h _ (lv_sub hl [2, 3, 4, 5, 1, 0] rfl)
  have L8 : ∀  (n : Nat) (v0 : Int32) (v1 : Int32) (v2 : Int32) (v3 : Int32) (v4 : Int32) (v5 : Int32), ff_N_power_8  n v0 v1 v2 v3 v4 v5 = some r → ∀ ls, lv_has ls 6 [(0, .int v0), (1, .int v1), (2, .int v2), (3, .int v3), (4, .int v4), (5, .int v5)] → W p l e (headSpec (.code yy_N_power cc_N_power 6 (some .int) :: kw) { frames := 1, cells := 0, slots := 0, locals := 22 }).room s m ([.int a0, .int a1, .int a2] : List Value).toArray below meth c s.heap [] 0 0 (MQ below (vp_Si (fun z => z = r)) ([.int a0, .int a1, .int a2] : List Value).toArray s 0 0 (fun _ => False)) (F0 m 8 ls []) := by
    intro  n
    induction n with
    | zero => intro v0 v1 v2 v3 v4 v5 h; exact absurd h (by simp [ff_N_power_8])
    | succ n ih =>
      intro v0 v1 v2 v3 v4 v5 h ls hl
      rw [ff_N_power_8] at h
      refine lv_iload hx hb dd_N_power_8 (lv_at hl 5 rfl) ?_
      refine lv_if_le (tgt := 48) hx hb dd_N_power_10 (by decide) (fun hc3 => ?_) (fun hc3 => ?_)
      · have h := ip_out hc3 h
        refine lv_iload_n hx hb dd_N_power_48 rfl (lv_at hl 3 rfl) ?_
        obtain rfl := Option.some.inj h
        exact W.iret hx hb hr (fun t ht hW => ⟨_, rfl, rfl, ht⟩) (fun q hq => by cases hq) dd_N_power_49
      · have h := in_out hc3 h
        refine lv_iload hx hb dd_N_power_13 (lv_at hl 5 rfl) ?_
        refine lv_iconst (v := 2) hx hb dd_N_power_15 (by decide) ?_
        refine lv_irem hx hb dd_N_power_16 (by decide) ?_
        refine lv_topi (fun y4 ey4 => ?_)
        have h := tl_at ey4 h
        refine lv_iconst (v := 1) hx hb dd_N_power_17 (by decide) ?_
        refine lv_icmp_ne (tgt := 29) hx hb dd_N_power_18 (by decide) (fun hc5 => ?_) (fun hc5 => ?_)
        · have h := in_out hc5 h
          exact L29 _ (fun _ _ _ _ _ _ hh ls hl => ih _ _ _ _ _ _ hh ls hl) _ _ _ _ _ _ _ h _ (lv_sub hl [0, 1, 2, 3, 4, 5] rfl)
        · have h := ip_out hc5 h
          refine lv_iload_n hx hb dd_N_power_21 rfl (lv_at hl 3 rfl) ?_
          refine lv_iload hx hb dd_N_power_22 (lv_at hl 4 rfl) ?_
          refine lv_iload_n hx hb dd_N_power_24 rfl (lv_at hl 2 rfl) ?_
          obtain ⟨r6, hr6, h⟩ := ob_out h
          refine ro_Si (n := 3) (As := [.int v3, .int v4, .int v2]) hx hb hml hown hk (mm_N_times l _ _ _ _ _ hr6) (fun U _ _ => trivial) (fun _ _ _ _ _ => trivial) kw_158 kw_159 kw_5 kw_160 ⟨rfl, rfl⟩ (by decide +kernel) ⟨Nat.le_of_ble_eq_true rfl, Nat.le_of_ble_eq_true rfl⟩ rfl hl.1 rfl (Nat.le_of_ble_eq_true rfl) dd_N_power_25 ⟨Nat.zero_le _, Nat.zero_le _⟩ ?_
          refine lv_istore_n (lv' := [(3, .int r6), (0, .int v0), (1, .int v1), (2, .int v2), (4, .int v4), (5, .int v5)]) hx hb dd_N_power_28 rfl hl (by decide) rfl (fun ls hl => ?_)
          exact L29 _ (fun _ _ _ _ _ _ hh ls hl => ih _ _ _ _ _ _ hh ls hl) _ _ _ _ _ _ _ h _ (lv_sub hl [1, 2, 3, 0, 4, 5] rfl)
  have hl := lv_entry ([.int a0, .int a1, .int a2]) (n := 6) (Nat.le_of_ble_eq_true rfl)
  rw [lg_entry_eq]
  generalize (lg_sl ([.int a0, .int a1, .int a2]) ++ List.replicate (6 - (lg_sl ([.int a0, .int a1, .int a2])).length) Slot.unset).toArray = ls at hl ⊢
  have hl : lv_has ls 6 [(0, .int a0), (1, .int a1), (2, .int a2)] := hl
  unfold ff_N_power at h
  refine lv_iconst (v := 1) hx hb dd_N_power_0 (by decide) ?_
  refine lv_istore_n (lv' := [(3, .int (1 : Int32)), (0, .int a0), (1, .int a1), (2, .int a2)]) hx hb dd_N_power_1 rfl hl (by decide) rfl (fun ls hl => ?_)
  refine lv_iload_n hx hb dd_N_power_2 rfl (lv_at hl 1 rfl) ?_
  refine lv_istore (lv' := [(4, .int a0), (3, .int (1 : Int32)), (0, .int a0), (1, .int a1), (2, .int a2)]) hx hb dd_N_power_3 hl (by decide) rfl (fun ls hl => ?_)
  refine lv_iload_n hx hb dd_N_power_5 rfl (lv_at hl 3 rfl) ?_
  refine lv_istore (lv' := [(5, .int a1), (4, .int a0), (3, .int (1 : Int32)), (0, .int a0), (1, .int a1), (2, .int a2)]) hx hb dd_N_power_6 hl (by decide) rfl (fun ls hl => ?_)
  exact L8  _ _ _ _ _ _ _ h _ (lv_sub hl [3, 4, 5, 2, 1, 0] rfl)
def ff_N_ofCard (n : Nat) (a0 : Int32) (a1 : Int32) : Option Int32 := (ff_N_times n (a0 + (2 : Int32)) (a0 + (2 : Int32)) a1).bind fun r1 => some r1
set_option maxHeartbeats 4000000 in
set_option maxRecDepth 100000 in
theorem mm_N_ofCard (l : Launch) (n : Nat) (a0 : Int32) (a1 : Int32) (r : Int32) (h : ff_N_ofCard n a0 a1 = some r) : Met l yy_N_ofCard (.code yy_N_ofCard cc_N_ofCard 2 (some .int) :: kw) { frames := 1, cells := 0, slots := 0, locals := 22 } (va_Pc [.int a0, .int a1] (fun _ => True)) (vp_Si (fun z => z = r)) 0 0 (fun _ => False) := by
  refine Met.ofW (cc := cc_N_ofCard) (maxL := 2) (ret := some .int) (by decide) rfl ?_
  intro p e s m args below meth c s₁ B hml hv
  obtain ⟨rfl, -⟩ := hv
  have hx := B.exec
  have hb := B.bytes
  have hr := B.returns
  have hlocks := B.notSynchronized
  have hk : ∀ w ∈ kw, w.before _ s = true := fun w hw => atoms_spec (ws := (.code yy_N_ofCard cc_N_ofCard 2 (some .int) :: kw)) B.pre w (List.mem_cons_of_mem _ hw)
  have hown : s.vm.findClass "OpenDeal$Numbers" = some m.cls := findClass_of_methodNamed B.named
  have hl := lv_entry ([.int a0, .int a1]) (n := 2) (Nat.le_of_ble_eq_true rfl)
  rw [lg_entry_eq]
  generalize (lg_sl ([.int a0, .int a1]) ++ List.replicate (2 - (lg_sl ([.int a0, .int a1])).length) Slot.unset).toArray = ls at hl ⊢
  have hl : lv_has ls 2 [(0, .int a0), (1, .int a1)] := hl
  unfold ff_N_ofCard at h
  refine lv_iload_n hx hb dd_N_ofCard_0 rfl (lv_at hl 0 rfl) ?_
  refine lv_iconst (v := 2) hx hb dd_N_ofCard_1 (by decide) ?_
  refine lv_iadd hx hb dd_N_ofCard_2 ?_
  refine lv_iload_n hx hb dd_N_ofCard_3 rfl (lv_at hl 0 rfl) ?_
  refine lv_iconst (v := 2) hx hb dd_N_ofCard_4 (by decide) ?_
  refine lv_iadd hx hb dd_N_ofCard_5 ?_
  refine lv_iload_n hx hb dd_N_ofCard_6 rfl (lv_at hl 1 rfl) ?_
  obtain ⟨r1, hr1, h⟩ := ob_out h
  refine ro_Si (n := 3) (As := [.int (a0 + (2 : Int32)), .int (a0 + (2 : Int32)), .int a1]) hx hb hml hown hk (mm_N_times l _ _ _ _ _ hr1) (fun U _ _ => trivial) (fun _ _ _ _ _ => trivial) kw_158 kw_159 kw_5 kw_160 ⟨rfl, rfl⟩ (by decide +kernel) ⟨Nat.le_of_ble_eq_true rfl, Nat.le_of_ble_eq_true rfl⟩ rfl hl.1 rfl (Nat.le_of_ble_eq_true rfl) dd_N_ofCard_7 ⟨Nat.zero_le _, Nat.zero_le _⟩ ?_
  obtain rfl := Option.some.inj h
  exact W.iret hx hb hr (fun t ht hW => ⟨_, rfl, rfl, ht⟩) (fun q hq => by cases hq) dd_N_ofCard_10
def ff_N_isExponent (n : Nat) (a0 : Int32) (a1 : Int32) : Option Int32 := if a0 < (3 : Int32) then (some (0 : Int32)) else (if (a1 - (2 : Int32)) < a0 then (some (0 : Int32)) else (tl (a0 - a0 / (2 : Int32) * (2 : Int32)) fun y3 => if y3 = (1 : Int32) then (if a0 = ((a1 - (1 : Int32)) / (2 : Int32)) then (some (0 : Int32)) else (some (1 : Int32))) else (some (0 : Int32))))
set_option maxHeartbeats 4000000 in
set_option maxRecDepth 100000 in
theorem mm_N_isExponent (l : Launch) (n : Nat) (a0 : Int32) (a1 : Int32) (r : Int32) (h : ff_N_isExponent n a0 a1 = some r) : Met l yy_N_isExponent (.code yy_N_isExponent cc_N_isExponent 2 (some .boolean) :: kw) { frames := 0, cells := 0, slots := 0, locals := 0 } (va_Pc [.int a0, .int a1] (fun _ => True)) (vp_Si (fun z => z = r)) 0 0 (fun _ => False) := by
  refine Met.ofW (cc := cc_N_isExponent) (maxL := 2) (ret := some .boolean) (by decide) rfl ?_
  intro p e s m args below meth c s₁ B hml hv
  obtain ⟨rfl, -⟩ := hv
  have hx := B.exec
  have hb := B.bytes
  have hr := B.returns
  have hlocks := B.notSynchronized
  have hk : ∀ w ∈ kw, w.before _ s = true := fun w hw => atoms_spec (ws := (.code yy_N_isExponent cc_N_isExponent 2 (some .boolean) :: kw)) B.pre w (List.mem_cons_of_mem _ hw)
  have hown : s.vm.findClass "OpenDeal$Numbers" = some m.cls := findClass_of_methodNamed B.named
  have hl := lv_entry ([.int a0, .int a1]) (n := 2) (Nat.le_of_ble_eq_true rfl)
  rw [lg_entry_eq]
  generalize (lg_sl ([.int a0, .int a1]) ++ List.replicate (2 - (lg_sl ([.int a0, .int a1])).length) Slot.unset).toArray = ls at hl ⊢
  have hl : lv_has ls 2 [(0, .int a0), (1, .int a1)] := hl
  unfold ff_N_isExponent at h
  refine lv_iload_n hx hb dd_N_isExponent_0 rfl (lv_at hl 0 rfl) ?_
  refine lv_iconst (v := 3) hx hb dd_N_isExponent_1 (by decide) ?_
  refine lv_icmp_lt (tgt := 32) hx hb dd_N_isExponent_2 (by decide) (fun hc1 => ?_) (fun hc1 => ?_)
  · have h := ip_out hc1 h
    refine lv_iconst (v := 0) hx hb dd_N_isExponent_32 (by decide) ?_
    obtain rfl := Option.some.inj h
    exact W.zret hx hb hr rfl (fun t ht hW => ⟨_, rfl, rfl, ht⟩) (fun q hq => by cases hq) dd_N_isExponent_33
  · have h := in_out hc1 h
    refine lv_iload_n hx hb dd_N_isExponent_5 rfl (lv_at hl 0 rfl) ?_
    refine lv_iload_n hx hb dd_N_isExponent_6 rfl (lv_at hl 1 rfl) ?_
    refine lv_iconst (v := 2) hx hb dd_N_isExponent_7 (by decide) ?_
    refine lv_isub hx hb dd_N_isExponent_8 ?_
    refine lv_icmp_gt (tgt := 32) hx hb dd_N_isExponent_9 (by decide) (fun hc2 => ?_) (fun hc2 => ?_)
    · have h := ip_out hc2 h
      refine lv_iconst (v := 0) hx hb dd_N_isExponent_32 (by decide) ?_
      obtain rfl := Option.some.inj h
      exact W.zret hx hb hr rfl (fun t ht hW => ⟨_, rfl, rfl, ht⟩) (fun q hq => by cases hq) dd_N_isExponent_33
    · have h := in_out hc2 h
      refine lv_iload_n hx hb dd_N_isExponent_12 rfl (lv_at hl 0 rfl) ?_
      refine lv_iconst (v := 2) hx hb dd_N_isExponent_13 (by decide) ?_
      refine lv_irem hx hb dd_N_isExponent_14 (by decide) ?_
      refine lv_topi (fun y3 ey3 => ?_)
      have h := tl_at ey3 h
      refine lv_iconst (v := 1) hx hb dd_N_isExponent_15 (by decide) ?_
      refine lv_icmp_ne (tgt := 32) hx hb dd_N_isExponent_16 (by decide) (fun hc4 => ?_) (fun hc4 => ?_)
      · have h := in_out hc4 h
        refine lv_iconst (v := 0) hx hb dd_N_isExponent_32 (by decide) ?_
        obtain rfl := Option.some.inj h
        exact W.zret hx hb hr rfl (fun t ht hW => ⟨_, rfl, rfl, ht⟩) (fun q hq => by cases hq) dd_N_isExponent_33
      · have h := ip_out hc4 h
        refine lv_iload_n hx hb dd_N_isExponent_19 rfl (lv_at hl 0 rfl) ?_
        refine lv_iload_n hx hb dd_N_isExponent_20 rfl (lv_at hl 1 rfl) ?_
        refine lv_iconst (v := 1) hx hb dd_N_isExponent_21 (by decide) ?_
        refine lv_isub hx hb dd_N_isExponent_22 ?_
        refine lv_iconst (v := 2) hx hb dd_N_isExponent_23 (by decide) ?_
        refine lv_idiv hx hb dd_N_isExponent_24 (by decide) ?_
        refine lv_icmp_eq (tgt := 32) hx hb dd_N_isExponent_25 (by decide) (fun hc5 => ?_) (fun hc5 => ?_)
        · have h := ip_out hc5 h
          refine lv_iconst (v := 0) hx hb dd_N_isExponent_32 (by decide) ?_
          obtain rfl := Option.some.inj h
          exact W.zret hx hb hr rfl (fun t ht hW => ⟨_, rfl, rfl, ht⟩) (fun q hq => by cases hq) dd_N_isExponent_33
        · have h := in_out hc5 h
          refine lv_iconst (v := 1) hx hb dd_N_isExponent_28 (by decide) ?_
          refine lv_goto (tgt := 33) hx hb dd_N_isExponent_29 (by decide) ?_
          obtain rfl := Option.some.inj h
          exact W.zret hx hb hr rfl (fun t ht hW => ⟨_, rfl, rfl, ht⟩) (fun q hq => by cases hq) dd_N_isExponent_33
def ff_N_exponentAbove_4  : Nat → Int32 → Int32 → Int32 → Option Int32
  | 0, _, _, _ => none
  | n + 1, v0, v1, v2 => if (v1 - (2 : Int32)) < v2 then (some (3 : Int32)) else ((ff_N_isExponent n v2 v1).bind fun r2 => if r2 = 0 then (ff_N_exponentAbove_4 n v0 v1 (v2 + (1 : Int32))) else (some v2))
def ff_N_exponentAbove (n : Nat) (a0 : Int32) (a1 : Int32) : Option Int32 := tl (a0 + (1 : Int32)) fun y4 => ff_N_exponentAbove_4 n a0 a1 y4
set_option maxHeartbeats 4000000 in
set_option maxRecDepth 100000 in
theorem mm_N_exponentAbove (l : Launch) (n : Nat) (a0 : Int32) (a1 : Int32) (r : Int32) (h : ff_N_exponentAbove n a0 a1 = some r) : Met l yy_N_exponentAbove (.code yy_N_exponentAbove cc_N_exponentAbove 3 (some .int) :: kw) { frames := 1, cells := 0, slots := 0, locals := 21 } (va_Pc [.int a0, .int a1] (fun _ => True)) (vp_Si (fun z => z = r)) 0 0 (fun _ => False) := by
  refine Met.ofW (cc := cc_N_exponentAbove) (maxL := 3) (ret := some .int) (by decide) rfl ?_
  intro p e s m args below meth c s₁ B hml hv
  obtain ⟨rfl, -⟩ := hv
  have hx := B.exec
  have hb := B.bytes
  have hr := B.returns
  have hlocks := B.notSynchronized
  have hk : ∀ w ∈ kw, w.before _ s = true := fun w hw => atoms_spec (ws := (.code yy_N_exponentAbove cc_N_exponentAbove 3 (some .int) :: kw)) B.pre w (List.mem_cons_of_mem _ hw)
  have hown : s.vm.findClass "OpenDeal$Numbers" = some m.cls := findClass_of_methodNamed B.named
  have L4 : ∀  (n : Nat) (v0 : Int32) (v1 : Int32) (v2 : Int32), ff_N_exponentAbove_4  n v0 v1 v2 = some r → ∀ ls, lv_has ls 3 [(0, .int v0), (1, .int v1), (2, .int v2)] → W p l e (headSpec (.code yy_N_exponentAbove cc_N_exponentAbove 3 (some .int) :: kw) { frames := 1, cells := 0, slots := 0, locals := 21 }).room s m ([.int a0, .int a1] : List Value).toArray below meth c s.heap [] 0 0 (MQ below (vp_Si (fun z => z = r)) ([.int a0, .int a1] : List Value).toArray s 0 0 (fun _ => False)) (F0 m 4 ls []) := by
    intro  n
    induction n with
    | zero => intro v0 v1 v2 h; exact absurd h (by simp [ff_N_exponentAbove_4])
    | succ n ih =>
      intro v0 v1 v2 h ls hl
      rw [ff_N_exponentAbove_4] at h
      refine lv_iload_n hx hb dd_N_exponentAbove_4 rfl (lv_at hl 2 rfl) ?_
      refine lv_iload_n hx hb dd_N_exponentAbove_5 rfl (lv_at hl 1 rfl) ?_
      refine lv_iconst (v := 2) hx hb dd_N_exponentAbove_6 (by decide) ?_
      refine lv_isub hx hb dd_N_exponentAbove_7 ?_
      refine lv_icmp_gt (tgt := 27) hx hb dd_N_exponentAbove_8 (by decide) (fun hc1 => ?_) (fun hc1 => ?_)
      · have h := ip_out hc1 h
        refine lv_iconst (v := 3) hx hb dd_N_exponentAbove_27 (by decide) ?_
        obtain rfl := Option.some.inj h
        exact W.iret hx hb hr (fun t ht hW => ⟨_, rfl, rfl, ht⟩) (fun q hq => by cases hq) dd_N_exponentAbove_28
      · have h := in_out hc1 h
        refine lv_iload_n hx hb dd_N_exponentAbove_11 rfl (lv_at hl 2 rfl) ?_
        refine lv_iload_n hx hb dd_N_exponentAbove_12 rfl (lv_at hl 1 rfl) ?_
        obtain ⟨r2, hr2, h⟩ := ob_out h
        refine ro_Si (n := 2) (As := [.int v2, .int v1]) hx hb hml hown hk (mm_N_isExponent l _ _ _ _ hr2) (fun U _ _ => trivial) (fun _ _ _ _ _ => trivial) kw_292 kw_201 kw_5 kw_202 ⟨rfl, rfl⟩ (by decide +kernel) ⟨Nat.le_of_ble_eq_true rfl, Nat.le_of_ble_eq_true rfl⟩ rfl hl.1 rfl (Nat.le_of_ble_eq_true rfl) dd_N_exponentAbove_13 ⟨Nat.zero_le _, Nat.zero_le _⟩ ?_
        refine lv_if_eq (tgt := 21) hx hb dd_N_exponentAbove_16 (by decide) (fun hc3 => ?_) (fun hc3 => ?_)
        · have h := ip_out hc3 h
          refine lv_iinc (v := v2 + (1 : Int32)) (lv' := [(2, .int (v2 + (1 : Int32))), (0, .int v0), (1, .int v1)]) hx hb dd_N_exponentAbove_21 hl (k := 2) rfl rfl (by decide) rfl (fun ls hl => ?_)
          refine lv_goto (tgt := 4) hx hb dd_N_exponentAbove_24 (by decide) ?_
          exact ih _ _ _ h _ (lv_sub hl [1, 2, 0] rfl)
        · have h := in_out hc3 h
          refine lv_iload_n hx hb dd_N_exponentAbove_19 rfl (lv_at hl 2 rfl) ?_
          obtain rfl := Option.some.inj h
          exact W.iret hx hb hr (fun t ht hW => ⟨_, rfl, rfl, ht⟩) (fun q hq => by cases hq) dd_N_exponentAbove_20
  have hl := lv_entry ([.int a0, .int a1]) (n := 3) (Nat.le_of_ble_eq_true rfl)
  rw [lg_entry_eq]
  generalize (lg_sl ([.int a0, .int a1]) ++ List.replicate (3 - (lg_sl ([.int a0, .int a1])).length) Slot.unset).toArray = ls at hl ⊢
  have hl : lv_has ls 3 [(0, .int a0), (1, .int a1)] := hl
  unfold ff_N_exponentAbove at h
  refine lv_iload_n hx hb dd_N_exponentAbove_0 rfl (lv_at hl 0 rfl) ?_
  refine lv_iconst (v := 1) hx hb dd_N_exponentAbove_1 (by decide) ?_
  refine lv_iadd hx hb dd_N_exponentAbove_2 ?_
  refine lv_topi (fun y4 ey4 => ?_)
  have h := tl_at ey4 h
  refine lv_istore_n (lv' := [(2, .int y4), (0, .int a0), (1, .int a1)]) hx hb dd_N_exponentAbove_3 rfl hl (by decide) rfl (fun ls hl => ?_)
  exact L4  _ _ _ _ h _ (lv_sub hl [1, 2, 0] rfl)
def ff_N_inverse (n : Nat) (a0 : Int32) (a1 : Int32) : Option Int32 := (ff_N_power n a0 (((a1 - (1 : Int32)) / (2 : Int32)) - (2 : Int32)) (a1 - (1 : Int32))).bind fun r1 => some r1
set_option maxHeartbeats 4000000 in
set_option maxRecDepth 100000 in
theorem mm_N_inverse (l : Launch) (n : Nat) (a0 : Int32) (a1 : Int32) (r : Int32) (h : ff_N_inverse n a0 a1 = some r) : Met l yy_N_inverse (.code yy_N_inverse cc_N_inverse 2 (some .int) :: kw) { frames := 2, cells := 0, slots := 0, locals := 47 } (va_Pc [.int a0, .int a1] (fun _ => True)) (vp_Si (fun z => z = r)) 0 0 (fun _ => False) := by
  refine Met.ofW (cc := cc_N_inverse) (maxL := 2) (ret := some .int) (by decide) rfl ?_
  intro p e s m args below meth c s₁ B hml hv
  obtain ⟨rfl, -⟩ := hv
  have hx := B.exec
  have hb := B.bytes
  have hr := B.returns
  have hlocks := B.notSynchronized
  have hk : ∀ w ∈ kw, w.before _ s = true := fun w hw => atoms_spec (ws := (.code yy_N_inverse cc_N_inverse 2 (some .int) :: kw)) B.pre w (List.mem_cons_of_mem _ hw)
  have hown : s.vm.findClass "OpenDeal$Numbers" = some m.cls := findClass_of_methodNamed B.named
  have hl := lv_entry ([.int a0, .int a1]) (n := 2) (Nat.le_of_ble_eq_true rfl)
  rw [lg_entry_eq]
  generalize (lg_sl ([.int a0, .int a1]) ++ List.replicate (2 - (lg_sl ([.int a0, .int a1])).length) Slot.unset).toArray = ls at hl ⊢
  have hl : lv_has ls 2 [(0, .int a0), (1, .int a1)] := hl
  unfold ff_N_inverse at h
  refine lv_iload_n hx hb dd_N_inverse_0 rfl (lv_at hl 0 rfl) ?_
  refine lv_iload_n hx hb dd_N_inverse_1 rfl (lv_at hl 1 rfl) ?_
  refine lv_iconst (v := 1) hx hb dd_N_inverse_2 (by decide) ?_
  refine lv_isub hx hb dd_N_inverse_3 ?_
  refine lv_iconst (v := 2) hx hb dd_N_inverse_4 (by decide) ?_
  refine lv_idiv hx hb dd_N_inverse_5 (by decide) ?_
  refine lv_iconst (v := 2) hx hb dd_N_inverse_6 (by decide) ?_
  refine lv_isub hx hb dd_N_inverse_7 ?_
  refine lv_iload_n hx hb dd_N_inverse_8 rfl (lv_at hl 1 rfl) ?_
  refine lv_iconst (v := 1) hx hb dd_N_inverse_9 (by decide) ?_
  refine lv_isub hx hb dd_N_inverse_10 ?_
  obtain ⟨r1, hr1, h⟩ := ob_out h
  refine ro_Si (n := 3) (As := [.int a0, .int (((a1 - (1 : Int32)) / (2 : Int32)) - (2 : Int32)), .int (a1 - (1 : Int32))]) hx hb hml hown hk (mm_N_power l _ _ _ _ _ hr1) (fun U _ _ => trivial) (fun _ _ _ _ _ => trivial) kw_155 kw_156 kw_5 kw_157 ⟨rfl, rfl⟩ (by decide +kernel) ⟨Nat.le_of_ble_eq_true rfl, Nat.le_of_ble_eq_true rfl⟩ rfl hl.1 rfl (Nat.le_of_ble_eq_true rfl) dd_N_inverse_11 ⟨Nat.zero_le _, Nat.zero_le _⟩ ?_
  obtain rfl := Option.some.inj h
  exact W.iret hx hb hr (fun t ht hW => ⟨_, rfl, rfl, ht⟩) (fun q hq => by cases hq) dd_N_inverse_14
def ff_N_looksPrime_62  : Nat → Int32 → Int32 → Int32 → Int32 → Int32 → Int32 → Option Int32
  | 0, _, _, _, _, _, _ => none
  | n + 1, v0, v1, v2, v3, v4, v5 => if v3 ≤ v5 then (some (0 : Int32)) else ((ff_N_times n v4 v4 v0).bind fun r2 => if r2 = (v0 - (1 : Int32)) then (some (1 : Int32)) else (ff_N_looksPrime_62 n v0 v1 v2 v3 r2 (v5 + (1 : Int32))))
def ff_N_looksPrime_35  (n : Nat) (v0 : Int32) (v1 : Int32) (v2 : Int32) (v3 : Int32) (v4 : Int32) : Option Int32 := (ff_N_power n v1 v2 v0).bind fun r4 => if r4 = (1 : Int32) then (some (1 : Int32)) else (if r4 = (v0 - (1 : Int32)) then (some (1 : Int32)) else (ff_N_looksPrime_62 n v0 v1 v2 v3 r4 (1 : Int32)))
def ff_N_looksPrime_9  : Nat → Int32 → Int32 → Int32 → Int32 → Int32 → Option Int32
  | 0, _, _, _, _, _ => none
  | n + 1, v0, v1, v2, v3, v4 => if (31 : Int32) ≤ v4 then (ff_N_looksPrime_35 n v0 v1 v2 v3 v4) else (tl (v2 - v2 / (2 : Int32) * (2 : Int32)) fun y8 => if y8 = 0 then (tl (v2 / (2 : Int32)) fun y10 => ff_N_looksPrime_9 n v0 v1 y10 (v3 + (1 : Int32)) (v4 + (1 : Int32))) else (ff_N_looksPrime_35 n v0 v1 v2 v3 v4))
def ff_N_looksPrime (n : Nat) (a0 : Int32) (a1 : Int32) : Option Int32 := tl (a0 - (1 : Int32)) fun y11 => ff_N_looksPrime_9 n a0 a1 y11 (0 : Int32) (0 : Int32)
set_option maxHeartbeats 4000000 in
set_option maxRecDepth 100000 in
theorem mm_N_looksPrime (l : Launch) (n : Nat) (a0 : Int32) (a1 : Int32) (r : Int32) (h : ff_N_looksPrime n a0 a1 = some r) : Met l yy_N_looksPrime (.code yy_N_looksPrime cc_N_looksPrime 6 (some .boolean) :: kw) { frames := 2, cells := 0, slots := 0, locals := 47 } (va_Pc [.int a0, .int a1] (fun _ => True)) (vp_Si (fun z => z = r)) 0 0 (fun _ => False) := by
  refine Met.ofW (cc := cc_N_looksPrime) (maxL := 6) (ret := some .boolean) (by decide) rfl ?_
  intro p e s m args below meth c s₁ B hml hv
  obtain ⟨rfl, -⟩ := hv
  have hx := B.exec
  have hb := B.bytes
  have hr := B.returns
  have hlocks := B.notSynchronized
  have hk : ∀ w ∈ kw, w.before _ s = true := fun w hw => atoms_spec (ws := (.code yy_N_looksPrime cc_N_looksPrime 6 (some .boolean) :: kw)) B.pre w (List.mem_cons_of_mem _ hw)
  have hown : s.vm.findClass "OpenDeal$Numbers" = some m.cls := findClass_of_methodNamed B.named
  have L62 : ∀  (n : Nat) (v0 : Int32) (v1 : Int32) (v2 : Int32) (v3 : Int32) (v4 : Int32) (v5 : Int32), ff_N_looksPrime_62  n v0 v1 v2 v3 v4 v5 = some r → ∀ ls, lv_has ls 6 [(0, .int v0), (1, .int v1), (2, .int v2), (3, .int v3), (4, .int v4), (5, .int v5)] → W p l e (headSpec (.code yy_N_looksPrime cc_N_looksPrime 6 (some .boolean) :: kw) { frames := 2, cells := 0, slots := 0, locals := 47 }).room s m ([.int a0, .int a1] : List Value).toArray below meth c s.heap [] 0 0 (MQ below (vp_Si (fun z => z = r)) ([.int a0, .int a1] : List Value).toArray s 0 0 (fun _ => False)) (F0 m 62 ls []) := by
    intro  n
    induction n with
    | zero => intro v0 v1 v2 v3 v4 v5 h; exact absurd h (by simp [ff_N_looksPrime_62])
    | succ n ih =>
      intro v0 v1 v2 v3 v4 v5 h ls hl
      rw [ff_N_looksPrime_62] at h
      refine lv_iload hx hb dd_N_looksPrime_62 (lv_at hl 5 rfl) ?_
      refine lv_iload_n hx hb dd_N_looksPrime_64 rfl (lv_at hl 3 rfl) ?_
      refine lv_icmp_ge (tgt := 94) hx hb dd_N_looksPrime_65 (by decide) (fun hc1 => ?_) (fun hc1 => ?_)
      · have h := ip_out hc1 h
        refine lv_iconst (v := 0) hx hb dd_N_looksPrime_94 (by decide) ?_
        obtain rfl := Option.some.inj h
        exact W.zret hx hb hr rfl (fun t ht hW => ⟨_, rfl, rfl, ht⟩) (fun q hq => by cases hq) dd_N_looksPrime_95
      · have h := in_out hc1 h
        refine lv_iload hx hb dd_N_looksPrime_68 (lv_at hl 4 rfl) ?_
        refine lv_iload hx hb dd_N_looksPrime_70 (lv_at hl 4 rfl) ?_
        refine lv_iload_n hx hb dd_N_looksPrime_72 rfl (lv_at hl 0 rfl) ?_
        obtain ⟨r2, hr2, h⟩ := ob_out h
        refine ro_Si (n := 3) (As := [.int v4, .int v4, .int v0]) hx hb hml hown hk (mm_N_times l _ _ _ _ _ hr2) (fun U _ _ => trivial) (fun _ _ _ _ _ => trivial) kw_158 kw_159 kw_5 kw_160 ⟨rfl, rfl⟩ (by decide +kernel) ⟨Nat.le_of_ble_eq_true rfl, Nat.le_of_ble_eq_true rfl⟩ rfl hl.1 rfl (Nat.le_of_ble_eq_true rfl) dd_N_looksPrime_73 ⟨Nat.zero_le _, Nat.zero_le _⟩ ?_
        refine lv_istore (lv' := [(4, .int r2), (0, .int v0), (1, .int v1), (2, .int v2), (3, .int v3), (5, .int v5)]) hx hb dd_N_looksPrime_76 hl (by decide) rfl (fun ls hl => ?_)
        refine lv_iload hx hb dd_N_looksPrime_78 (lv_at hl 0 rfl) ?_
        refine lv_iload_n hx hb dd_N_looksPrime_80 rfl (lv_at hl 1 rfl) ?_
        refine lv_iconst (v := 1) hx hb dd_N_looksPrime_81 (by decide) ?_
        refine lv_isub hx hb dd_N_looksPrime_82 ?_
        refine lv_icmp_ne (tgt := 88) hx hb dd_N_looksPrime_83 (by decide) (fun hc3 => ?_) (fun hc3 => ?_)
        · have h := in_out hc3 h
          refine lv_iinc (v := v5 + (1 : Int32)) (lv' := [(5, .int (v5 + (1 : Int32))), (4, .int r2), (0, .int v0), (1, .int v1), (2, .int v2), (3, .int v3)]) hx hb dd_N_looksPrime_88 hl (k := 5) rfl rfl (by decide) rfl (fun ls hl => ?_)
          refine lv_goto (tgt := 62) hx hb dd_N_looksPrime_91 (by decide) ?_
          exact ih _ _ _ _ _ _ h _ (lv_sub hl [2, 3, 4, 5, 1, 0] rfl)
        · have h := ip_out hc3 h
          refine lv_iconst (v := 1) hx hb dd_N_looksPrime_86 (by decide) ?_
          obtain rfl := Option.some.inj h
          exact W.zret hx hb hr rfl (fun t ht hW => ⟨_, rfl, rfl, ht⟩) (fun q hq => by cases hq) dd_N_looksPrime_87
  have L35 : ∀  (n : Nat) (v0 : Int32) (v1 : Int32) (v2 : Int32) (v3 : Int32) (v4 : Int32), ff_N_looksPrime_35  n v0 v1 v2 v3 v4 = some r → ∀ ls, lv_has ls 6 [(0, .int v0), (1, .int v1), (2, .int v2), (3, .int v3), (4, .int v4)] → W p l e (headSpec (.code yy_N_looksPrime cc_N_looksPrime 6 (some .boolean) :: kw) { frames := 2, cells := 0, slots := 0, locals := 47 }).room s m ([.int a0, .int a1] : List Value).toArray below meth c s.heap [] 0 0 (MQ below (vp_Si (fun z => z = r)) ([.int a0, .int a1] : List Value).toArray s 0 0 (fun _ => False)) (F0 m 35 ls []) := by
    intro  n v0 v1 v2 v3 v4 h ls hl
    unfold ff_N_looksPrime_35 at h
    refine lv_iload_n hx hb dd_N_looksPrime_35 rfl (lv_at hl 1 rfl) ?_
    refine lv_iload_n hx hb dd_N_looksPrime_36 rfl (lv_at hl 2 rfl) ?_
    refine lv_iload_n hx hb dd_N_looksPrime_37 rfl (lv_at hl 0 rfl) ?_
    obtain ⟨r4, hr4, h⟩ := ob_out h
    refine ro_Si (n := 3) (As := [.int v1, .int v2, .int v0]) hx hb hml hown hk (mm_N_power l _ _ _ _ _ hr4) (fun U _ _ => trivial) (fun _ _ _ _ _ => trivial) kw_155 kw_156 kw_5 kw_157 ⟨rfl, rfl⟩ (by decide +kernel) ⟨Nat.le_of_ble_eq_true rfl, Nat.le_of_ble_eq_true rfl⟩ rfl hl.1 rfl (Nat.le_of_ble_eq_true rfl) dd_N_looksPrime_38 ⟨Nat.zero_le _, Nat.zero_le _⟩ ?_
    refine lv_istore (lv' := [(4, .int r4), (0, .int v0), (1, .int v1), (2, .int v2), (3, .int v3)]) hx hb dd_N_looksPrime_41 hl (by decide) rfl (fun ls hl => ?_)
    refine lv_iload hx hb dd_N_looksPrime_43 (lv_at hl 0 rfl) ?_
    refine lv_iconst (v := 1) hx hb dd_N_looksPrime_45 (by decide) ?_
    refine lv_icmp_eq (tgt := 57) hx hb dd_N_looksPrime_46 (by decide) (fun hc5 => ?_) (fun hc5 => ?_)
    · have h := ip_out hc5 h
      refine lv_iconst (v := 1) hx hb dd_N_looksPrime_57 (by decide) ?_
      obtain rfl := Option.some.inj h
      exact W.zret hx hb hr rfl (fun t ht hW => ⟨_, rfl, rfl, ht⟩) (fun q hq => by cases hq) dd_N_looksPrime_58
    · have h := in_out hc5 h
      refine lv_iload hx hb dd_N_looksPrime_49 (lv_at hl 0 rfl) ?_
      refine lv_iload_n hx hb dd_N_looksPrime_51 rfl (lv_at hl 1 rfl) ?_
      refine lv_iconst (v := 1) hx hb dd_N_looksPrime_52 (by decide) ?_
      refine lv_isub hx hb dd_N_looksPrime_53 ?_
      refine lv_icmp_ne (tgt := 59) hx hb dd_N_looksPrime_54 (by decide) (fun hc6 => ?_) (fun hc6 => ?_)
      · have h := in_out hc6 h
        refine lv_iconst (v := 1) hx hb dd_N_looksPrime_59 (by decide) ?_
        refine lv_istore (lv' := [(5, .int (1 : Int32)), (4, .int r4), (0, .int v0), (1, .int v1), (2, .int v2), (3, .int v3)]) hx hb dd_N_looksPrime_60 hl (by decide) rfl (fun ls hl => ?_)
        exact L62  _ _ _ _ _ _ _ h _ (lv_sub hl [2, 3, 4, 5, 1, 0] rfl)
      · have h := ip_out hc6 h
        refine lv_iconst (v := 1) hx hb dd_N_looksPrime_57 (by decide) ?_
        obtain rfl := Option.some.inj h
        exact W.zret hx hb hr rfl (fun t ht hW => ⟨_, rfl, rfl, ht⟩) (fun q hq => by cases hq) dd_N_looksPrime_58
  have L9 : ∀  (n : Nat) (v0 : Int32) (v1 : Int32) (v2 : Int32) (v3 : Int32) (v4 : Int32), ff_N_looksPrime_9  n v0 v1 v2 v3 v4 = some r → ∀ ls, lv_has ls 6 [(0, .int v0), (1, .int v1), (2, .int v2), (3, .int v3), (4, .int v4)] → W p l e (headSpec (.code yy_N_looksPrime cc_N_looksPrime 6 (some .boolean) :: kw) { frames := 2, cells := 0, slots := 0, locals := 47 }).room s m ([.int a0, .int a1] : List Value).toArray below meth c s.heap [] 0 0 (MQ below (vp_Si (fun z => z = r)) ([.int a0, .int a1] : List Value).toArray s 0 0 (fun _ => False)) (F0 m 9 ls []) := by
    intro  n
    induction n with
    | zero => intro v0 v1 v2 v3 v4 h; exact absurd h (by simp [ff_N_looksPrime_9])
    | succ n ih =>
      intro v0 v1 v2 v3 v4 h ls hl
      rw [ff_N_looksPrime_9] at h
      refine lv_iload hx hb dd_N_looksPrime_9 (lv_at hl 4 rfl) ?_
      refine lv_bipush (v := 31) hx hb dd_N_looksPrime_11 (by decide) ?_
      refine lv_icmp_ge (tgt := 35) hx hb dd_N_looksPrime_13 (by decide) (fun hc7 => ?_) (fun hc7 => ?_)
      · have h := ip_out hc7 h
        exact L35  _ _ _ _ _ _ h _ (lv_sub hl [0, 1, 2, 3, 4] rfl)
      · have h := in_out hc7 h
        refine lv_iload_n hx hb dd_N_looksPrime_16 rfl (lv_at hl 2 rfl) ?_
        refine lv_iconst (v := 2) hx hb dd_N_looksPrime_17 (by decide) ?_
        refine lv_irem hx hb dd_N_looksPrime_18 (by decide) ?_
        refine lv_topi (fun y8 ey8 => ?_)
        have h := tl_at ey8 h
        refine lv_if_ne (tgt := 35) hx hb dd_N_looksPrime_19 (by decide) (fun hc9 => ?_) (fun hc9 => ?_)
        · have h := in_out hc9 h
          exact L35  _ _ _ _ _ _ h _ (lv_sub hl [0, 1, 2, 3, 4] rfl)
        · have h := ip_out hc9 h
          refine lv_iload_n hx hb dd_N_looksPrime_22 rfl (lv_at hl 2 rfl) ?_
          refine lv_iconst (v := 2) hx hb dd_N_looksPrime_23 (by decide) ?_
          refine lv_idiv hx hb dd_N_looksPrime_24 (by decide) ?_
          refine lv_topi (fun y10 ey10 => ?_)
          have h := tl_at ey10 h
          refine lv_istore_n (lv' := [(2, .int y10), (0, .int v0), (1, .int v1), (3, .int v3), (4, .int v4)]) hx hb dd_N_looksPrime_25 rfl hl (by decide) rfl (fun ls hl => ?_)
          refine lv_iinc (v := v3 + (1 : Int32)) (lv' := [(3, .int (v3 + (1 : Int32))), (2, .int y10), (0, .int v0), (1, .int v1), (4, .int v4)]) hx hb dd_N_looksPrime_26 hl (k := 3) rfl rfl (by decide) rfl (fun ls hl => ?_)
          refine lv_iinc (v := v4 + (1 : Int32)) (lv' := [(4, .int (v4 + (1 : Int32))), (3, .int (v3 + (1 : Int32))), (2, .int y10), (0, .int v0), (1, .int v1)]) hx hb dd_N_looksPrime_29 hl (k := 4) rfl rfl (by decide) rfl (fun ls hl => ?_)
          refine lv_goto (tgt := 9) hx hb dd_N_looksPrime_32 (by decide) ?_
          exact ih _ _ _ _ _ h _ (lv_sub hl [3, 4, 2, 1, 0] rfl)
  have hl := lv_entry ([.int a0, .int a1]) (n := 6) (Nat.le_of_ble_eq_true rfl)
  rw [lg_entry_eq]
  generalize (lg_sl ([.int a0, .int a1]) ++ List.replicate (6 - (lg_sl ([.int a0, .int a1])).length) Slot.unset).toArray = ls at hl ⊢
  have hl : lv_has ls 6 [(0, .int a0), (1, .int a1)] := hl
  unfold ff_N_looksPrime at h
  refine lv_iload_n hx hb dd_N_looksPrime_0 rfl (lv_at hl 0 rfl) ?_
  refine lv_iconst (v := 1) hx hb dd_N_looksPrime_1 (by decide) ?_
  refine lv_isub hx hb dd_N_looksPrime_2 ?_
  refine lv_topi (fun y11 ey11 => ?_)
  have h := tl_at ey11 h
  refine lv_istore_n (lv' := [(2, .int y11), (0, .int a0), (1, .int a1)]) hx hb dd_N_looksPrime_3 rfl hl (by decide) rfl (fun ls hl => ?_)
  refine lv_iconst (v := 0) hx hb dd_N_looksPrime_4 (by decide) ?_
  refine lv_istore_n (lv' := [(3, .int (0 : Int32)), (2, .int y11), (0, .int a0), (1, .int a1)]) hx hb dd_N_looksPrime_5 rfl hl (by decide) rfl (fun ls hl => ?_)
  refine lv_iconst (v := 0) hx hb dd_N_looksPrime_6 (by decide) ?_
  refine lv_istore (lv' := [(4, .int (0 : Int32)), (3, .int (0 : Int32)), (2, .int y11), (0, .int a0), (1, .int a1)]) hx hb dd_N_looksPrime_7 hl (by decide) rfl (fun ls hl => ?_)
  exact L9  _ _ _ _ _ _ h _ (lv_sub hl [3, 4, 2, 1, 0] rfl)
def ff_M_isPrime_2  : Nat → Int32 → Int32 → Option Int32
  | 0, _, _ => none
  | n + 1, v0, v1 => if 0 < (lg_cmp ((Int32.toInt64 v1) * (Int32.toInt64 v1)) (Int32.toInt64 v0)) then (if v0 ≤ (1 : Int32) then (some (0 : Int32)) else (some (1 : Int32))) else (if ¬ v1 = 0 then tl (v0 - v0 / v1 * v1) fun y4 => if y4 = 0 then (some (0 : Int32)) else (ff_M_isPrime_2 n v0 (v1 + (1 : Int32))) else none)
def ff_M_isPrime (n : Nat) (a0 : Int32) : Option Int32 := ff_M_isPrime_2 n a0 (2 : Int32)
set_option maxHeartbeats 4000000 in
set_option maxRecDepth 100000 in
theorem mm_M_isPrime (l : Launch) (n : Nat) (a0 : Int32) (r : Int32) (h : ff_M_isPrime n a0 = some r) : Met l yy_M_isPrime (.code yy_M_isPrime cc_M_isPrime 2 (some .boolean) :: kw) { frames := 0, cells := 0, slots := 0, locals := 0 } (va_Pc [.int a0] (fun _ => True)) (vp_Si (fun z => z = r)) 0 0 (fun _ => False) := by
  refine Met.ofW (cc := cc_M_isPrime) (maxL := 2) (ret := some .boolean) (by decide) rfl ?_
  intro p e s m args below meth c s₁ B hml hv
  obtain ⟨rfl, -⟩ := hv
  have hx := B.exec
  have hb := B.bytes
  have hr := B.returns
  have hlocks := B.notSynchronized
  have hk : ∀ w ∈ kw, w.before _ s = true := fun w hw => atoms_spec (ws := (.code yy_M_isPrime cc_M_isPrime 2 (some .boolean) :: kw)) B.pre w (List.mem_cons_of_mem _ hw)
  have hown : s.vm.findClass "OpenDealModel" = some m.cls := findClass_of_methodNamed B.named
  have L2 : ∀  (n : Nat) (v0 : Int32) (v1 : Int32), ff_M_isPrime_2  n v0 v1 = some r → ∀ ls, lv_has ls 2 [(0, .int v0), (1, .int v1)] → W p l e (headSpec (.code yy_M_isPrime cc_M_isPrime 2 (some .boolean) :: kw) { frames := 0, cells := 0, slots := 0, locals := 0 }).room s m ([.int a0] : List Value).toArray below meth c s.heap [] 0 0 (MQ below (vp_Si (fun z => z = r)) ([.int a0] : List Value).toArray s 0 0 (fun _ => False)) (F0 m 2 ls []) := by
    intro  n
    induction n with
    | zero => intro v0 v1 h; exact absurd h (by simp [ff_M_isPrime_2])
    | succ n ih =>
      intro v0 v1 h ls hl
      rw [ff_M_isPrime_2] at h
      refine lv_iload_n hx hb dd_M_isPrime_2 rfl (lv_at hl 1 rfl) ?_
      refine lv_i2l hx hb dd_M_isPrime_3 rfl ?_
      refine lv_iload_n hx hb dd_M_isPrime_4 rfl (lv_at hl 1 rfl) ?_
      refine lv_i2l hx hb dd_M_isPrime_5 rfl ?_
      refine lv_lmul hx hb dd_M_isPrime_6 ?_
      refine lv_iload_n hx hb dd_M_isPrime_7 rfl (lv_at hl 0 rfl) ?_
      refine lv_i2l hx hb dd_M_isPrime_8 rfl ?_
      refine W.lcmp hx hb dd_M_isPrime_9 ?_
      refine lv_if_gt (tgt := 27) hx hb dd_M_isPrime_10 (by decide) (fun hc1 => ?_) (fun hc1 => ?_)
      · have h := ip_out hc1 h
        refine lv_iload_n hx hb dd_M_isPrime_27 rfl (lv_at hl 0 rfl) ?_
        refine lv_iconst (v := 1) hx hb dd_M_isPrime_28 (by decide) ?_
        refine lv_icmp_le (tgt := 36) hx hb dd_M_isPrime_29 (by decide) (fun hc2 => ?_) (fun hc2 => ?_)
        · have h := ip_out hc2 h
          refine lv_iconst (v := 0) hx hb dd_M_isPrime_36 (by decide) ?_
          obtain rfl := Option.some.inj h
          exact W.zret hx hb hr rfl (fun t ht hW => ⟨_, rfl, rfl, ht⟩) (fun q hq => by cases hq) dd_M_isPrime_37
        · have h := in_out hc2 h
          refine lv_iconst (v := 1) hx hb dd_M_isPrime_32 (by decide) ?_
          refine lv_goto (tgt := 37) hx hb dd_M_isPrime_33 (by decide) ?_
          obtain rfl := Option.some.inj h
          exact W.zret hx hb hr rfl (fun t ht hW => ⟨_, rfl, rfl, ht⟩) (fun q hq => by cases hq) dd_M_isPrime_37
      · have h := in_out hc1 h
        refine lv_iload_n hx hb dd_M_isPrime_13 rfl (lv_at hl 0 rfl) ?_
        refine lv_iload_n hx hb dd_M_isPrime_14 rfl (lv_at hl 1 rfl) ?_
        obtain ⟨hz3, h⟩ := oi_out h
        refine lv_irem hx hb dd_M_isPrime_15 hz3 ?_
        refine lv_topi (fun y4 ey4 => ?_)
        have h := tl_at ey4 h
        refine lv_if_ne (tgt := 21) hx hb dd_M_isPrime_16 (by decide) (fun hc5 => ?_) (fun hc5 => ?_)
        · have h := in_out hc5 h
          refine lv_iinc (v := v1 + (1 : Int32)) (lv' := [(1, .int (v1 + (1 : Int32))), (0, .int v0)]) hx hb dd_M_isPrime_21 hl (k := 1) rfl rfl (by decide) rfl (fun ls hl => ?_)
          refine lv_goto (tgt := 2) hx hb dd_M_isPrime_24 (by decide) ?_
          exact ih _ _ h _ (lv_sub hl [1, 0] rfl)
        · have h := ip_out hc5 h
          refine lv_iconst (v := 0) hx hb dd_M_isPrime_19 (by decide) ?_
          obtain rfl := Option.some.inj h
          exact W.zret hx hb hr rfl (fun t ht hW => ⟨_, rfl, rfl, ht⟩) (fun q hq => by cases hq) dd_M_isPrime_20
  have hl := lv_entry ([.int a0]) (n := 2) (Nat.le_of_ble_eq_true rfl)
  rw [lg_entry_eq]
  generalize (lg_sl ([.int a0]) ++ List.replicate (2 - (lg_sl ([.int a0])).length) Slot.unset).toArray = ls at hl ⊢
  have hl : lv_has ls 2 [(0, .int a0)] := hl
  unfold ff_M_isPrime at h
  refine lv_iconst (v := 2) hx hb dd_M_isPrime_0 (by decide) ?_
  refine lv_istore_n (lv' := [(1, .int (2 : Int32)), (0, .int a0)]) hx hb dd_M_isPrime_1 rfl hl (by decide) rfl (fun ls hl => ?_)
  exact L2  _ _ _ h _ (lv_sub hl [1, 0] rfl)
def ff_M_power_32 (k11 : Int32 → Int32 → Int32 → Int64 → Int64 → Int32 → Option Int32) (n : Nat) (v0 : Int32) (v1 : Int32) (v2 : Int32) (v3 : Int64) (v5 : Int64) (v7 : Int32) : Option Int32 := if ¬ (Int32.toInt64 v2) = 0 then tl ((v5 * v5) - (v5 * v5) / (Int32.toInt64 v2) * (Int32.toInt64 v2)) fun y2 => tl (v7 / (2 : Int32)) fun y3 => k11 v0 v1 v2 v3 y2 y3 else none
def ff_M_power_11  : Nat → Int32 → Int32 → Int32 → Int64 → Int64 → Int32 → Option Int32
  | 0, _, _, _, _, _, _ => none
  | n + 1, v0, v1, v2, v3, v5, v7 => if v7 ≤ 0 then (some (Int64.toInt32 v3)) else (tl (v7 - v7 / (2 : Int32) * (2 : Int32)) fun y5 => if y5 = (1 : Int32) then (if ¬ (Int32.toInt64 v2) = 0 then tl ((v3 * v5) - (v3 * v5) / (Int32.toInt64 v2) * (Int32.toInt64 v2)) fun y8 => ff_M_power_32 (ff_M_power_11 n) n v0 v1 v2 y8 v5 v7 else none) else (ff_M_power_32 (ff_M_power_11 n) n v0 v1 v2 v3 v5 v7))
def ff_M_power (n : Nat) (a0 : Int32) (a1 : Int32) (a2 : Int32) : Option Int32 := if ¬ a2 = 0 then tl (a0 - a0 / a2 * a2) fun y10 => tl (Int32.toInt64 y10) fun y11 => ff_M_power_11 n a0 a1 a2 (1 : Int64) y11 a1 else none
set_option maxHeartbeats 4000000 in
set_option maxRecDepth 100000 in
theorem mm_M_power (l : Launch) (n : Nat) (a0 : Int32) (a1 : Int32) (a2 : Int32) (r : Int32) (h : ff_M_power n a0 a1 a2 = some r) : Met l yy_M_power (.code yy_M_power cc_M_power 8 (some .int) :: kw) { frames := 0, cells := 0, slots := 0, locals := 0 } (va_Pc [.int a0, .int a1, .int a2] (fun _ => True)) (vp_Si (fun z => z = r)) 0 0 (fun _ => False) := by
  refine Met.ofW (cc := cc_M_power) (maxL := 8) (ret := some .int) (by decide) rfl ?_
  intro p e s m args below meth c s₁ B hml hv
  obtain ⟨rfl, -⟩ := hv
  have hx := B.exec
  have hb := B.bytes
  have hr := B.returns
  have hlocks := B.notSynchronized
  have hk : ∀ w ∈ kw, w.before _ s = true := fun w hw => atoms_spec (ws := (.code yy_M_power cc_M_power 8 (some .int) :: kw)) B.pre w (List.mem_cons_of_mem _ hw)
  have hown : s.vm.findClass "OpenDealModel" = some m.cls := findClass_of_methodNamed B.named
  have L32 : ∀ (k11 : Int32 → Int32 → Int32 → Int64 → Int64 → Int32 → Option Int32) (hk11 : ∀ (v0 : Int32) (v1 : Int32) (v2 : Int32) (v3 : Int64) (v5 : Int64) (v7 : Int32), k11 v0 v1 v2 v3 v5 v7 = some r → ∀ ls, lv_has ls 8 [(0, .int v0), (1, .int v1), (2, .int v2), (3, .long v3), (5, .long v5), (7, .int v7)] → W p l e (headSpec (.code yy_M_power cc_M_power 8 (some .int) :: kw) { frames := 0, cells := 0, slots := 0, locals := 0 }).room s m ([.int a0, .int a1, .int a2] : List Value).toArray below meth c s.heap [] 0 0 (MQ below (vp_Si (fun z => z = r)) ([.int a0, .int a1, .int a2] : List Value).toArray s 0 0 (fun _ => False)) (F0 m 11 ls [])) (n : Nat) (v0 : Int32) (v1 : Int32) (v2 : Int32) (v3 : Int64) (v5 : Int64) (v7 : Int32), ff_M_power_32 k11 n v0 v1 v2 v3 v5 v7 = some r → ∀ ls, lv_has ls 8 [(0, .int v0), (1, .int v1), (2, .int v2), (3, .long v3), (5, .long v5), (7, .int v7)] → W p l e (headSpec (.code yy_M_power cc_M_power 8 (some .int) :: kw) { frames := 0, cells := 0, slots := 0, locals := 0 }).room s m ([.int a0, .int a1, .int a2] : List Value).toArray below meth c s.heap [] 0 0 (MQ below (vp_Si (fun z => z = r)) ([.int a0, .int a1, .int a2] : List Value).toArray s 0 0 (fun _ => False)) (F0 m 32 ls []) := by
    intro k11 hk11 n v0 v1 v2 v3 v5 v7 h ls hl
    unfold ff_M_power_32 at h
    refine lv_lload hx hb dd_M_power_32 (lv_at hl 4 rfl) ?_
    refine lv_lload hx hb dd_M_power_34 (lv_at hl 4 rfl) ?_
    refine lv_lmul hx hb dd_M_power_36 ?_
    refine lv_iload_n hx hb dd_M_power_37 rfl (lv_at hl 2 rfl) ?_
    refine lv_i2l hx hb dd_M_power_38 rfl ?_
    obtain ⟨hz1, h⟩ := oi_out h
    refine lv_lrem hx hb dd_M_power_39 hz1 ?_
    refine lv_topl (fun y2 ey2 => ?_)
    have h := tl_at ey2 h
    refine lv_lstore (lv' := [(5, .long y2), (0, .int v0), (1, .int v1), (2, .int v2), (3, .long v3), (7, .int v7)]) hx hb dd_M_power_40 hl (by decide) rfl (fun ls hl => ?_)
    refine lv_iload hx hb dd_M_power_42 (lv_at hl 5 rfl) ?_
    refine lv_iconst (v := 2) hx hb dd_M_power_44 (by decide) ?_
    refine lv_idiv hx hb dd_M_power_45 (by decide) ?_
    refine lv_topi (fun y3 ey3 => ?_)
    have h := tl_at ey3 h
    refine lv_istore (lv' := [(7, .int y3), (5, .long y2), (0, .int v0), (1, .int v1), (2, .int v2), (3, .long v3)]) hx hb dd_M_power_46 hl (by decide) rfl (fun ls hl => ?_)
    refine lv_goto (tgt := 11) hx hb dd_M_power_48 (by decide) ?_
    exact hk11 _ _ _ _ _ _ h _ (lv_sub hl [2, 3, 4, 5, 1, 0] rfl)
  have L11 : ∀  (n : Nat) (v0 : Int32) (v1 : Int32) (v2 : Int32) (v3 : Int64) (v5 : Int64) (v7 : Int32), ff_M_power_11  n v0 v1 v2 v3 v5 v7 = some r → ∀ ls, lv_has ls 8 [(0, .int v0), (1, .int v1), (2, .int v2), (3, .long v3), (5, .long v5), (7, .int v7)] → W p l e (headSpec (.code yy_M_power cc_M_power 8 (some .int) :: kw) { frames := 0, cells := 0, slots := 0, locals := 0 }).room s m ([.int a0, .int a1, .int a2] : List Value).toArray below meth c s.heap [] 0 0 (MQ below (vp_Si (fun z => z = r)) ([.int a0, .int a1, .int a2] : List Value).toArray s 0 0 (fun _ => False)) (F0 m 11 ls []) := by
    intro  n
    induction n with
    | zero => intro v0 v1 v2 v3 v5 v7 h; exact absurd h (by simp [ff_M_power_11])
    | succ n ih =>
      intro v0 v1 v2 v3 v5 v7 h ls hl
      rw [ff_M_power_11] at h
      refine lv_iload hx hb dd_M_power_11 (lv_at hl 5 rfl) ?_
      refine lv_if_le (tgt := 51) hx hb dd_M_power_13 (by decide) (fun hc4 => ?_) (fun hc4 => ?_)
      · have h := ip_out hc4 h
        refine lv_lload_n hx hb dd_M_power_51 rfl (lv_at hl 3 rfl) ?_
        refine lv_l2i hx hb dd_M_power_52 rfl ?_
        obtain rfl := Option.some.inj h
        exact W.iret hx hb hr (fun t ht hW => ⟨_, rfl, rfl, ht⟩) (fun q hq => by cases hq) dd_M_power_53
      · have h := in_out hc4 h
        refine lv_iload hx hb dd_M_power_16 (lv_at hl 5 rfl) ?_
        refine lv_iconst (v := 2) hx hb dd_M_power_18 (by decide) ?_
        refine lv_irem hx hb dd_M_power_19 (by decide) ?_
        refine lv_topi (fun y5 ey5 => ?_)
        have h := tl_at ey5 h
        refine lv_iconst (v := 1) hx hb dd_M_power_20 (by decide) ?_
        refine lv_icmp_ne (tgt := 32) hx hb dd_M_power_21 (by decide) (fun hc6 => ?_) (fun hc6 => ?_)
        · have h := in_out hc6 h
          exact L32 _ (fun _ _ _ _ _ _ hh ls hl => ih _ _ _ _ _ _ hh ls hl) _ _ _ _ _ _ _ h _ (lv_sub hl [0, 1, 2, 3, 4, 5] rfl)
        · have h := ip_out hc6 h
          refine lv_lload_n hx hb dd_M_power_24 rfl (lv_at hl 3 rfl) ?_
          refine lv_lload hx hb dd_M_power_25 (lv_at hl 4 rfl) ?_
          refine lv_lmul hx hb dd_M_power_27 ?_
          refine lv_iload_n hx hb dd_M_power_28 rfl (lv_at hl 2 rfl) ?_
          refine lv_i2l hx hb dd_M_power_29 rfl ?_
          obtain ⟨hz7, h⟩ := oi_out h
          refine lv_lrem hx hb dd_M_power_30 hz7 ?_
          refine lv_topl (fun y8 ey8 => ?_)
          have h := tl_at ey8 h
          refine lv_lstore_n (lv' := [(3, .long y8), (0, .int v0), (1, .int v1), (2, .int v2), (5, .long v5), (7, .int v7)]) hx hb dd_M_power_31 rfl hl (by decide) rfl (fun ls hl => ?_)
          exact L32 _ (fun _ _ _ _ _ _ hh ls hl => ih _ _ _ _ _ _ hh ls hl) _ _ _ _ _ _ _ h _ (lv_sub hl [1, 2, 3, 0, 4, 5] rfl)
  have hl := lv_entry ([.int a0, .int a1, .int a2]) (n := 8) (Nat.le_of_ble_eq_true rfl)
  rw [lg_entry_eq]
  generalize (lg_sl ([.int a0, .int a1, .int a2]) ++ List.replicate (8 - (lg_sl ([.int a0, .int a1, .int a2])).length) Slot.unset).toArray = ls at hl ⊢
  have hl : lv_has ls 8 [(0, .int a0), (1, .int a1), (2, .int a2)] := hl
  unfold ff_M_power at h
  refine lv_lconst (v := 1) hx hb dd_M_power_0 (by decide) ?_
  refine lv_lstore_n (lv' := [(3, .long (1 : Int64)), (0, .int a0), (1, .int a1), (2, .int a2)]) hx hb dd_M_power_1 rfl hl (by decide) rfl (fun ls hl => ?_)
  refine lv_iload_n hx hb dd_M_power_2 rfl (lv_at hl 1 rfl) ?_
  refine lv_iload_n hx hb dd_M_power_3 rfl (lv_at hl 3 rfl) ?_
  obtain ⟨hz9, h⟩ := oi_out h
  refine lv_irem hx hb dd_M_power_4 hz9 ?_
  refine lv_topi (fun y10 ey10 => ?_)
  have h := tl_at ey10 h
  refine lv_i2l hx hb dd_M_power_5 rfl ?_
  refine lv_topl (fun y11 ey11 => ?_)
  have h := tl_at ey11 h
  refine lv_lstore (lv' := [(5, .long y11), (3, .long (1 : Int64)), (0, .int a0), (1, .int a1), (2, .int a2)]) hx hb dd_M_power_6 hl (by decide) rfl (fun ls hl => ?_)
  refine lv_iload_n hx hb dd_M_power_8 rfl (lv_at hl 3 rfl) ?_
  refine lv_istore (lv' := [(7, .int a1), (5, .long y11), (3, .long (1 : Int64)), (0, .int a0), (1, .int a1), (2, .int a2)]) hx hb dd_M_power_9 hl (by decide) rfl (fun ls hl => ?_)
  exact L11  _ _ _ _ _ _ _ h _ (lv_sub hl [3, 4, 5, 2, 1, 0] rfl)
def ff_M_isPlace (n : Nat) (a0 : Int32) : Option Int32 := if a0 < 0 then (some (0 : Int32)) else (if (52 : Int32) ≤ a0 then (some (0 : Int32)) else (some (1 : Int32)))
set_option maxHeartbeats 4000000 in
set_option maxRecDepth 100000 in
theorem mm_M_isPlace (l : Launch) (n : Nat) (a0 : Int32) (r : Int32) (h : ff_M_isPlace n a0 = some r) : Met l yy_M_isPlace (.code yy_M_isPlace cc_M_isPlace 1 (some .boolean) :: kw) { frames := 0, cells := 0, slots := 0, locals := 0 } (va_Pc [.int a0] (fun _ => True)) (vp_Si (fun z => z = r)) 0 0 (fun _ => False) := by
  refine Met.ofW (cc := cc_M_isPlace) (maxL := 1) (ret := some .boolean) (by decide) rfl ?_
  intro p e s m args below meth c s₁ B hml hv
  obtain ⟨rfl, -⟩ := hv
  have hx := B.exec
  have hb := B.bytes
  have hr := B.returns
  have hlocks := B.notSynchronized
  have hk : ∀ w ∈ kw, w.before _ s = true := fun w hw => atoms_spec (ws := (.code yy_M_isPlace cc_M_isPlace 1 (some .boolean) :: kw)) B.pre w (List.mem_cons_of_mem _ hw)
  have hown : s.vm.findClass "OpenDealModel" = some m.cls := findClass_of_methodNamed B.named
  have hl := lv_entry ([.int a0]) (n := 1) (Nat.le_of_ble_eq_true rfl)
  rw [lg_entry_eq]
  generalize (lg_sl ([.int a0]) ++ List.replicate (1 - (lg_sl ([.int a0])).length) Slot.unset).toArray = ls at hl ⊢
  have hl : lv_has ls 1 [(0, .int a0)] := hl
  unfold ff_M_isPlace at h
  refine lv_iload_n hx hb dd_M_isPlace_0 rfl (lv_at hl 0 rfl) ?_
  refine lv_if_lt (tgt := 14) hx hb dd_M_isPlace_1 (by decide) (fun hc1 => ?_) (fun hc1 => ?_)
  · have h := ip_out hc1 h
    refine lv_iconst (v := 0) hx hb dd_M_isPlace_14 (by decide) ?_
    obtain rfl := Option.some.inj h
    exact W.zret hx hb hr rfl (fun t ht hW => ⟨_, rfl, rfl, ht⟩) (fun q hq => by cases hq) dd_M_isPlace_15
  · have h := in_out hc1 h
    refine lv_iload_n hx hb dd_M_isPlace_4 rfl (lv_at hl 0 rfl) ?_
    refine lv_bipush (v := 52) hx hb dd_M_isPlace_5 (by decide) ?_
    refine lv_icmp_ge (tgt := 14) hx hb dd_M_isPlace_7 (by decide) (fun hc2 => ?_) (fun hc2 => ?_)
    · have h := ip_out hc2 h
      refine lv_iconst (v := 0) hx hb dd_M_isPlace_14 (by decide) ?_
      obtain rfl := Option.some.inj h
      exact W.zret hx hb hr rfl (fun t ht hW => ⟨_, rfl, rfl, ht⟩) (fun q hq => by cases hq) dd_M_isPlace_15
    · have h := in_out hc2 h
      refine lv_iconst (v := 1) hx hb dd_M_isPlace_10 (by decide) ?_
      refine lv_goto (tgt := 15) hx hb dd_M_isPlace_11 (by decide) ?_
      obtain rfl := Option.some.inj h
      exact W.zret hx hb hr rfl (fun t ht hW => ⟨_, rfl, rfl, ht⟩) (fun q hq => by cases hq) dd_M_isPlace_15
def ff_O_isPlace (n : Nat) (a0 : Int32) : Option Int32 := if a0 < 0 then (some (0 : Int32)) else (if (52 : Int32) ≤ a0 then (some (0 : Int32)) else (some (1 : Int32)))
set_option maxHeartbeats 4000000 in
set_option maxRecDepth 100000 in
theorem mm_O_isPlace (l : Launch) (n : Nat) (a0 : Int32) (r : Int32) (h : ff_O_isPlace n a0 = some r) : Met l yy_O_isPlace (.code yy_O_isPlace cc_O_isPlace 1 (some .boolean) :: kw) { frames := 0, cells := 0, slots := 0, locals := 0 } (va_Pc [.int a0] (fun _ => True)) (vp_Si (fun z => z = r)) 0 0 (fun _ => False) := by
  refine Met.ofW (cc := cc_O_isPlace) (maxL := 1) (ret := some .boolean) (by decide) rfl ?_
  intro p e s m args below meth c s₁ B hml hv
  obtain ⟨rfl, -⟩ := hv
  have hx := B.exec
  have hb := B.bytes
  have hr := B.returns
  have hlocks := B.notSynchronized
  have hk : ∀ w ∈ kw, w.before _ s = true := fun w hw => atoms_spec (ws := (.code yy_O_isPlace cc_O_isPlace 1 (some .boolean) :: kw)) B.pre w (List.mem_cons_of_mem _ hw)
  have hown : s.vm.findClass "OpenDeal" = some m.cls := findClass_of_methodNamed B.named
  have hl := lv_entry ([.int a0]) (n := 1) (Nat.le_of_ble_eq_true rfl)
  rw [lg_entry_eq]
  generalize (lg_sl ([.int a0]) ++ List.replicate (1 - (lg_sl ([.int a0])).length) Slot.unset).toArray = ls at hl ⊢
  have hl : lv_has ls 1 [(0, .int a0)] := hl
  unfold ff_O_isPlace at h
  refine lv_iload_n hx hb dd_O_isPlace_0 rfl (lv_at hl 0 rfl) ?_
  refine lv_if_lt (tgt := 14) hx hb dd_O_isPlace_1 (by decide) (fun hc1 => ?_) (fun hc1 => ?_)
  · have h := ip_out hc1 h
    refine lv_iconst (v := 0) hx hb dd_O_isPlace_14 (by decide) ?_
    obtain rfl := Option.some.inj h
    exact W.zret hx hb hr rfl (fun t ht hW => ⟨_, rfl, rfl, ht⟩) (fun q hq => by cases hq) dd_O_isPlace_15
  · have h := in_out hc1 h
    refine lv_iload_n hx hb dd_O_isPlace_4 rfl (lv_at hl 0 rfl) ?_
    refine lv_bipush (v := 52) hx hb dd_O_isPlace_5 (by decide) ?_
    refine lv_icmp_ge (tgt := 14) hx hb dd_O_isPlace_7 (by decide) (fun hc2 => ?_) (fun hc2 => ?_)
    · have h := ip_out hc2 h
      refine lv_iconst (v := 0) hx hb dd_O_isPlace_14 (by decide) ?_
      obtain rfl := Option.some.inj h
      exact W.zret hx hb hr rfl (fun t ht hW => ⟨_, rfl, rfl, ht⟩) (fun q hq => by cases hq) dd_O_isPlace_15
    · have h := in_out hc2 h
      refine lv_iconst (v := 1) hx hb dd_O_isPlace_10 (by decide) ?_
      refine lv_goto (tgt := 15) hx hb dd_O_isPlace_11 (by decide) ?_
      obtain rfl := Option.some.inj h
      exact W.zret hx hb hr rfl (fun t ht hW => ⟨_, rfl, rfl, ht⟩) (fun q hq => by cases hq) dd_O_isPlace_15
def ff_O_rankOf (n : Nat) (a0 : Int32) (a1 : Int32) : Option Int32 := some (((Int32.toUInt32 a1 >>> (Int32.toUInt32 ((4 : Int32) * a0) &&& Int32.toUInt32 31)).toInt32) &&& (15 : Int32))
set_option maxHeartbeats 4000000 in
set_option maxRecDepth 100000 in
theorem mm_O_rankOf (l : Launch) (n : Nat) (a0 : Int32) (a1 : Int32) (r : Int32) (h : ff_O_rankOf n a0 a1 = some r) : Met l yy_O_rankOf (.code yy_O_rankOf cc_O_rankOf 2 (some .int) :: kw) { frames := 0, cells := 0, slots := 0, locals := 0 } (va_Pc [.int a0, .int a1] (fun _ => True)) (vp_Si (fun z => z = r)) 0 0 (fun _ => False) := by
  refine Met.ofW (cc := cc_O_rankOf) (maxL := 2) (ret := some .int) (by decide) rfl ?_
  intro p e s m args below meth c s₁ B hml hv
  obtain ⟨rfl, -⟩ := hv
  have hx := B.exec
  have hb := B.bytes
  have hr := B.returns
  have hlocks := B.notSynchronized
  have hk : ∀ w ∈ kw, w.before _ s = true := fun w hw => atoms_spec (ws := (.code yy_O_rankOf cc_O_rankOf 2 (some .int) :: kw)) B.pre w (List.mem_cons_of_mem _ hw)
  have hown : s.vm.findClass "OpenDeal" = some m.cls := findClass_of_methodNamed B.named
  have hl := lv_entry ([.int a0, .int a1]) (n := 2) (Nat.le_of_ble_eq_true rfl)
  rw [lg_entry_eq]
  generalize (lg_sl ([.int a0, .int a1]) ++ List.replicate (2 - (lg_sl ([.int a0, .int a1])).length) Slot.unset).toArray = ls at hl ⊢
  have hl : lv_has ls 2 [(0, .int a0), (1, .int a1)] := hl
  unfold ff_O_rankOf at h
  refine lv_iload_n hx hb dd_O_rankOf_0 rfl (lv_at hl 1 rfl) ?_
  refine lv_iconst (v := 4) hx hb dd_O_rankOf_1 (by decide) ?_
  refine lv_iload_n hx hb dd_O_rankOf_2 rfl (lv_at hl 0 rfl) ?_
  refine lv_imul hx hb dd_O_rankOf_3 ?_
  refine lv_iushr hx hb dd_O_rankOf_4 rfl ?_
  refine lv_bipush (v := 15) hx hb dd_O_rankOf_5 (by decide) ?_
  refine lv_iand hx hb dd_O_rankOf_7 ?_
  obtain rfl := Option.some.inj h
  exact W.iret hx hb hr (fun t ht hW => ⟨_, rfl, rfl, ht⟩) (fun q hq => by cases hq) dd_O_rankOf_8
def ff_M_sealOf (n : Nat) (a0 : Int32) (a1 : Int64) (a3 : Int64) : Option Int64 := tl (Int32.toInt64 a0) fun y1 => tl (((y1 ^^^ ((Int64.toUInt64 y1 >>> ((Int32.toInt64 (29 : Int32)).toUInt64 &&& Int64.toUInt64 63)).toInt64)) * (-4658895280553007687 : Int64)) + a1) fun y2 => tl (((y2 ^^^ ((Int64.toUInt64 y2 >>> ((Int32.toInt64 (32 : Int32)).toUInt64 &&& Int64.toUInt64 63)).toInt64)) * (-7723592293110705685 : Int64)) + a3) fun y3 => tl ((y3 ^^^ ((Int64.toUInt64 y3 >>> ((Int32.toInt64 (29 : Int32)).toUInt64 &&& Int64.toUInt64 63)).toInt64)) * (-4658895280553007687 : Int64)) fun y4 => some (y4 ^^^ ((Int64.toUInt64 y4 >>> ((Int32.toInt64 (32 : Int32)).toUInt64 &&& Int64.toUInt64 63)).toInt64))
set_option maxHeartbeats 4000000 in
set_option maxRecDepth 100000 in
theorem mm_M_sealOf (l : Launch) (n : Nat) (a0 : Int32) (a1 : Int64) (a3 : Int64) (r : Int64) (h : ff_M_sealOf n a0 a1 a3 = some r) : Met l yy_M_sealOf (.code yy_M_sealOf cc_M_sealOf 7 (some .long) :: kw) { frames := 0, cells := 0, slots := 0, locals := 0 } (va_Pc [.int a0, .long a1, .long a3] (fun _ => True)) (vp_Sl (fun z => z = r)) 0 0 (fun _ => False) := by
  refine Met.ofW (cc := cc_M_sealOf) (maxL := 7) (ret := some .long) (by decide) rfl ?_
  intro p e s m args below meth c s₁ B hml hv
  obtain ⟨rfl, -⟩ := hv
  have hx := B.exec
  have hb := B.bytes
  have hr := B.returns
  have hlocks := B.notSynchronized
  have hk : ∀ w ∈ kw, w.before _ s = true := fun w hw => atoms_spec (ws := (.code yy_M_sealOf cc_M_sealOf 7 (some .long) :: kw)) B.pre w (List.mem_cons_of_mem _ hw)
  have hown : s.vm.findClass "OpenDealModel" = some m.cls := findClass_of_methodNamed B.named
  have hl := lv_entry ([.int a0, .long a1, .long a3]) (n := 7) (Nat.le_of_ble_eq_true rfl)
  rw [lg_entry_eq]
  generalize (lg_sl ([.int a0, .long a1, .long a3]) ++ List.replicate (7 - (lg_sl ([.int a0, .long a1, .long a3])).length) Slot.unset).toArray = ls at hl ⊢
  have hl : lv_has ls 7 [(0, .int a0), (1, .long a1), (3, .long a3)] := hl
  unfold ff_M_sealOf at h
  refine lv_iload_n hx hb dd_M_sealOf_0 rfl (lv_at hl 0 rfl) ?_
  refine lv_i2l hx hb dd_M_sealOf_1 rfl ?_
  refine lv_topl (fun y1 ey1 => ?_)
  have h := tl_at ey1 h
  refine lv_lstore (lv' := [(5, .long y1), (0, .int a0), (1, .long a1), (3, .long a3)]) hx hb dd_M_sealOf_2 hl (by decide) rfl (fun ls hl => ?_)
  refine lv_lload hx hb dd_M_sealOf_4 (lv_at hl 0 rfl) ?_
  refine lv_lload hx hb dd_M_sealOf_6 (lv_at hl 0 rfl) ?_
  refine lv_bipush (v := 29) hx hb dd_M_sealOf_8 (by decide) ?_
  refine lv_lushr hx hb dd_M_sealOf_10 rfl ?_
  refine lv_lxor hx hb dd_M_sealOf_11 ?_
  refine lv_ldc2 (v := -4658895280553007687) hx hb hown (hk _ kw_679) dd_M_sealOf_12 ?_
  refine lv_lmul hx hb dd_M_sealOf_15 ?_
  refine lv_lload_n hx hb dd_M_sealOf_16 rfl (lv_at hl 2 rfl) ?_
  refine lv_ladd hx hb dd_M_sealOf_17 ?_
  refine lv_topl (fun y2 ey2 => ?_)
  have h := tl_at ey2 h
  refine lv_lstore (lv' := [(5, .long y2), (0, .int a0), (1, .long a1), (3, .long a3)]) hx hb dd_M_sealOf_18 hl (by decide) rfl (fun ls hl => ?_)
  refine lv_lload hx hb dd_M_sealOf_20 (lv_at hl 0 rfl) ?_
  refine lv_lload hx hb dd_M_sealOf_22 (lv_at hl 0 rfl) ?_
  refine lv_bipush (v := 32) hx hb dd_M_sealOf_24 (by decide) ?_
  refine lv_lushr hx hb dd_M_sealOf_26 rfl ?_
  refine lv_lxor hx hb dd_M_sealOf_27 ?_
  refine lv_ldc2 (v := -7723592293110705685) hx hb hown (hk _ kw_680) dd_M_sealOf_28 ?_
  refine lv_lmul hx hb dd_M_sealOf_31 ?_
  refine lv_lload_n hx hb dd_M_sealOf_32 rfl (lv_at hl 3 rfl) ?_
  refine lv_ladd hx hb dd_M_sealOf_33 ?_
  refine lv_topl (fun y3 ey3 => ?_)
  have h := tl_at ey3 h
  refine lv_lstore (lv' := [(5, .long y3), (0, .int a0), (1, .long a1), (3, .long a3)]) hx hb dd_M_sealOf_34 hl (by decide) rfl (fun ls hl => ?_)
  refine lv_lload hx hb dd_M_sealOf_36 (lv_at hl 0 rfl) ?_
  refine lv_lload hx hb dd_M_sealOf_38 (lv_at hl 0 rfl) ?_
  refine lv_bipush (v := 29) hx hb dd_M_sealOf_40 (by decide) ?_
  refine lv_lushr hx hb dd_M_sealOf_42 rfl ?_
  refine lv_lxor hx hb dd_M_sealOf_43 ?_
  refine lv_ldc2 (v := -4658895280553007687) hx hb hown (hk _ kw_679) dd_M_sealOf_44 ?_
  refine lv_lmul hx hb dd_M_sealOf_47 ?_
  refine lv_topl (fun y4 ey4 => ?_)
  have h := tl_at ey4 h
  refine lv_lstore (lv' := [(5, .long y4), (0, .int a0), (1, .long a1), (3, .long a3)]) hx hb dd_M_sealOf_48 hl (by decide) rfl (fun ls hl => ?_)
  refine lv_lload hx hb dd_M_sealOf_50 (lv_at hl 0 rfl) ?_
  refine lv_lload hx hb dd_M_sealOf_52 (lv_at hl 0 rfl) ?_
  refine lv_bipush (v := 32) hx hb dd_M_sealOf_54 (by decide) ?_
  refine lv_lushr hx hb dd_M_sealOf_56 rfl ?_
  refine lv_lxor hx hb dd_M_sealOf_57 ?_
  obtain rfl := Option.some.inj h
  exact W.lret hx hb hr (fun t ht hW => ⟨_, rfl, rfl, ht⟩) (fun q hq => by cases hq) dd_M_sealOf_58
end
section
/-! the worlds, laid by program: the class has 39 cells, the reference 24; a cell is told by its place, the address is ad of it -/
def T_O : u_T := fun k => match k with
  | 0 => ("OpenDeal", "p", "I", false)
  | 1 => ("OpenDeal", "phase", "I", false)
  | 2 => ("OpenDeal", "seats", "I", false)
  | 3 => ("OpenDeal", "players", "[LOpenDeal$Player;", true)
  | 4 => ("OpenDeal", "turns", "I", false)
  | 5 => ("OpenDeal", "decks", "[[I", true)
  | 6 => ("OpenDeal", "owners", "[I", true)
  | 7 => ("OpenDeal", "actor", "I", false)
  | 8 => ("OpenDeal", "verdict", "I", false)
  | 9 => ("OpenDeal", "orderRow", "[I", true)
  | _ => ("OpenDeal", "deckRow", "[I", true)
def ty_O : Nat → FieldType := fun k => match k with
  | 0 => .int
  | 1 => .int
  | 2 => .int
  | 3 => .array (.object "OpenDeal$Player")
  | 4 => .int
  | 5 => .array (.array .int)
  | 6 => .array .int
  | 7 => .int
  | 8 => .int
  | 9 => .array .int
  | _ => .array .int
theorem nm_O : ∀ a, a < 11 → ∀ b, b < 11 → a ≠ b → (T_O a).2.1 ≠ (T_O b).2.1 := by decide +kernel
theorem tk_O : ∀ k, k < 11 → parseFieldDescriptor (T_O k).2.2.1 = some (ty_O k) := by decide +kernel
theorem in_O : ∀ w ∈ u_ws "OpenDeal" T_O 11, w ∈ kw := by
  intro w hw
  obtain ⟨k, hk, rfl⟩ := List.mem_map.mp hw
  have hk := List.mem_range.mp hk
  have hc : k = 0 ∨ k = 1 ∨ k = 2 ∨ k = 3 ∨ k = 4 ∨ k = 5 ∨ k = 6 ∨ k = 7 ∨ k = 8 ∨ k = 9 ∨ k = 10 := by omega
  rcases hc with rfl | rfl | rfl | rfl | rfl | rfl | rfl | rfl | rfl | rfl | rfl
  · exact kw_116
  · exact kw_118
  · exact kw_120
  · exact kw_122
  · exact kw_124
  · exact kw_126
  · exact kw_128
  · exact kw_130
  · exact kw_132
  · exact kw_134
  · exact kw_136
def T_P : u_T := fun k => match k with
  | 0 => ("OpenDeal$Player", "chips", "I", false)
  | 1 => ("OpenDeal$Player", "inHand", "I", false)
  | 2 => ("OpenDeal$Player", "inRound", "I", false)
  | 3 => ("OpenDeal$Player", "folded", "Z", false)
  | 4 => ("OpenDeal$Player", "acted", "Z", false)
  | 5 => ("OpenDeal$Player", "sealed", "Z", false)
  | 6 => ("OpenDeal$Player", "mark", "J", false)
  | 7 => ("OpenDeal$Player", "hasShown", "Z", false)
  | 8 => ("OpenDeal$Player", "secrets", "LOpenDeal$Secrets;", true)
  | 9 => ("OpenDeal$Player", "shown", "LOpenDeal$Secrets;", true)
  | 10 => ("OpenDeal$Player", "locks", "[I", true)
  | 11 => ("OpenDeal$Player", "given", "[I", true)
  | _ => ("OpenDeal$Player", "cheats", "[J", true)
def ty_P : Nat → FieldType := fun k => match k with
  | 0 => .int
  | 1 => .int
  | 2 => .int
  | 3 => .boolean
  | 4 => .boolean
  | 5 => .boolean
  | 6 => .long
  | 7 => .boolean
  | 8 => .object "OpenDeal$Secrets"
  | 9 => .object "OpenDeal$Secrets"
  | 10 => .array .int
  | 11 => .array .int
  | _ => .array .long
theorem nm_P : ∀ a, a < 13 → ∀ b, b < 13 → a ≠ b → (T_P a).2.1 ≠ (T_P b).2.1 := by decide +kernel
theorem tk_P : ∀ k, k < 13 → parseFieldDescriptor (T_P k).2.2.1 = some (ty_P k) := by decide +kernel
theorem in_P : ∀ w ∈ u_ws "OpenDeal$Player" T_P 13, w ∈ kw := by
  intro w hw
  obtain ⟨k, hk, rfl⟩ := List.mem_map.mp hw
  have hk := List.mem_range.mp hk
  have hc : k = 0 ∨ k = 1 ∨ k = 2 ∨ k = 3 ∨ k = 4 ∨ k = 5 ∨ k = 6 ∨ k = 7 ∨ k = 8 ∨ k = 9 ∨ k = 10 ∨ k = 11 ∨ k = 12 := by omega
  rcases hc with rfl | rfl | rfl | rfl | rfl | rfl | rfl | rfl | rfl | rfl | rfl | rfl | rfl
  · exact kw_74
  · exact kw_76
  · exact kw_78
  · exact kw_80
  · exact kw_82
  · exact kw_84
  · exact kw_86
  · exact kw_88
  · exact kw_90
  · exact kw_92
  · exact kw_94
  · exact kw_96
  · exact kw_98
def T_S : u_T := fun k => match k with
  | 0 => ("OpenDeal$Secrets", "exponent", "I", false)
  | 1 => ("OpenDeal$Secrets", "orderKey", "J", false)
  | _ => ("OpenDeal$Secrets", "locksKey", "J", false)
def ty_S : Nat → FieldType := fun k => match k with
  | 0 => .int
  | 1 => .long
  | _ => .long
theorem nm_S : ∀ a, a < 3 → ∀ b, b < 3 → a ≠ b → (T_S a).2.1 ≠ (T_S b).2.1 := by decide +kernel
theorem tk_S : ∀ k, k < 3 → parseFieldDescriptor (T_S k).2.2.1 = some (ty_S k) := by decide +kernel
theorem in_S : ∀ w ∈ u_ws "OpenDeal$Secrets" T_S 3, w ∈ kw := by
  intro w hw
  obtain ⟨k, hk, rfl⟩ := List.mem_map.mp hw
  have hk := List.mem_range.mp hk
  have hc : k = 0 ∨ k = 1 ∨ k = 2 := by omega
  rcases hc with rfl | rfl | rfl
  · exact kw_43
  · exact kw_45
  · exact kw_47
def T_D : u_T := fun k => match k with
  | _ => ("OpenDeal$Draws", "key", "J", false)
def ty_D : Nat → FieldType := fun k => match k with
  | _ => .long
theorem nm_D : ∀ a, a < 1 → ∀ b, b < 1 → a ≠ b → (T_D a).2.1 ≠ (T_D b).2.1 := by decide +kernel
theorem tk_D : ∀ k, k < 1 → parseFieldDescriptor (T_D k).2.2.1 = some (ty_D k) := by decide +kernel
theorem in_D : ∀ w ∈ u_ws "OpenDeal$Draws" T_D 1, w ∈ kw := by
  intro w hw
  obtain ⟨k, hk, rfl⟩ := List.mem_map.mp hw
  have hk := List.mem_range.mp hk
  have hc : k = 0 := by omega
  rcases hc with rfl
  · exact kw_223
def T_M : u_T := fun k => match k with
  | 0 => ("OpenDealModel", "thrown", "I", false)
  | 1 => ("OpenDealModel", "prime", "I", false)
  | 2 => ("OpenDealModel", "half", "I", false)
  | 3 => ("OpenDealModel", "players", "I", false)
  | 4 => ("OpenDealModel", "phase", "I", false)
  | 5 => ("OpenDealModel", "chips", "[I", true)
  | 6 => ("OpenDealModel", "sealed", "[Z", true)
  | 7 => ("OpenDealModel", "seal", "[J", true)
  | 8 => ("OpenDealModel", "exponent", "[I", true)
  | 9 => ("OpenDealModel", "orderKey", "[J", true)
  | 10 => ("OpenDealModel", "lockKey", "[J", true)
  | 11 => ("OpenDealModel", "shown", "[Z", true)
  | 12 => ("OpenDealModel", "shownExponent", "[I", true)
  | 13 => ("OpenDealModel", "shownOrder", "[J", true)
  | 14 => ("OpenDealModel", "wrongLock", "[J", true)
  | 15 => ("OpenDealModel", "wrongRelock", "[J", true)
  | 16 => ("OpenDealModel", "wrongGive", "[J", true)
  | 17 => ("OpenDealModel", "wrongExponent", "[Z", true)
  | 18 => ("OpenDealModel", "wrongOrder", "[Z", true)
  | 19 => ("OpenDealModel", "deck", "[I", true)
  | 20 => ("OpenDealModel", "turns", "I", false)
  | 21 => ("OpenDealModel", "order", "[I", true)
  | 22 => ("OpenDealModel", "locks", "[I", true)
  | 23 => ("OpenDealModel", "dealtTo", "[I", true)
  | 24 => ("OpenDealModel", "given", "[I", true)
  | 25 => ("OpenDealModel", "draw", "J", false)
  | 26 => ("OpenDealModel", "in", "[Z", true)
  | 27 => ("OpenDealModel", "put", "[I", true)
  | 28 => ("OpenDealModel", "putNow", "[I", true)
  | 29 => ("OpenDealModel", "acted", "[Z", true)
  | 30 => ("OpenDealModel", "betting", "Z", false)
  | _ => ("OpenDealModel", "next", "I", false)
def ty_M : Nat → FieldType := fun k => match k with
  | 0 => .int
  | 1 => .int
  | 2 => .int
  | 3 => .int
  | 4 => .int
  | 5 => .array .int
  | 6 => .array .boolean
  | 7 => .array .long
  | 8 => .array .int
  | 9 => .array .long
  | 10 => .array .long
  | 11 => .array .boolean
  | 12 => .array .int
  | 13 => .array .long
  | 14 => .array .long
  | 15 => .array .long
  | 16 => .array .long
  | 17 => .array .boolean
  | 18 => .array .boolean
  | 19 => .array .int
  | 20 => .int
  | 21 => .array .int
  | 22 => .array .int
  | 23 => .array .int
  | 24 => .array .int
  | 25 => .long
  | 26 => .array .boolean
  | 27 => .array .int
  | 28 => .array .int
  | 29 => .array .boolean
  | 30 => .boolean
  | _ => .int
theorem nm_M : ∀ a, a < 32 → ∀ b, b < 32 → a ≠ b → (T_M a).2.1 ≠ (T_M b).2.1 := by decide +kernel
theorem tk_M : ∀ k, k < 32 → parseFieldDescriptor (T_M k).2.2.1 = some (ty_M k) := by decide +kernel
theorem in_M : ∀ w ∈ u_ws "OpenDealModel" T_M 32, w ∈ kw := by
  intro w hw
  obtain ⟨k, hk, rfl⟩ := List.mem_map.mp hw
  have hk := List.mem_range.mp hk
  have hc : k = 0 ∨ k = 1 ∨ k = 2 ∨ k = 3 ∨ k = 4 ∨ k = 5 ∨ k = 6 ∨ k = 7 ∨ k = 8 ∨ k = 9 ∨ k = 10 ∨ k = 11 ∨ k = 12 ∨ k = 13 ∨ k = 14 ∨ k = 15 ∨ k = 16 ∨ k = 17 ∨ k = 18 ∨ k = 19 ∨ k = 20 ∨ k = 21 ∨ k = 22 ∨ k = 23 ∨ k = 24 ∨ k = 25 ∨ k = 26 ∨ k = 27 ∨ k = 28 ∨ k = 29 ∨ k = 30 ∨ k = 31 := by omega
  rcases hc with rfl | rfl | rfl | rfl | rfl | rfl | rfl | rfl | rfl | rfl | rfl | rfl | rfl | rfl | rfl | rfl | rfl | rfl | rfl | rfl | rfl | rfl | rfl | rfl | rfl | rfl | rfl | rfl | rfl | rfl | rfl | rfl
  · exact kw_569
  · exact kw_571
  · exact kw_573
  · exact kw_575
  · exact kw_577
  · exact kw_579
  · exact kw_581
  · exact kw_583
  · exact kw_585
  · exact kw_587
  · exact kw_589
  · exact kw_591
  · exact kw_593
  · exact kw_595
  · exact kw_597
  · exact kw_599
  · exact kw_601
  · exact kw_603
  · exact kw_605
  · exact kw_607
  · exact kw_609
  · exact kw_611
  · exact kw_613
  · exact kw_615
  · exact kw_617
  · exact kw_619
  · exact kw_621
  · exact kw_623
  · exact kw_625
  · exact kw_627
  · exact kw_629
  · exact kw_631
abbrev cls5 : List vw_C := [("OpenDeal", T_O, 11), ("OpenDeal$Player", T_P, 13), ("OpenDeal$Secrets", T_S, 3), ("OpenDeal$Draws", T_D, 1), ("OpenDealModel", T_M, 32)]
abbrev tys5 (kc : Nat → ClassId) : List (ClassId × FieldType) := [(kc 0, .int), (kc 1, .long), (kc 2, .boolean), (kc 3, .object "OpenDeal$Player"), (kc 4, .array .int)]
def wd (N : Nat) (sh : Nat → (Nat → Int32) → (Nat → Int64) → va_E) (ad : Nat → Nat) (I : Nat → Nat → Int32) (J : Nat → Nat → Int64) : va_W := (List.range N).map (fun q => (ad q, sh q (I q) (J q)))
theorem wd_at {N : Nat} {sh : Nat → (Nat → Int32) → (Nat → Int64) → va_E} {ad : Nat → Nat} {I : Nat → Nat → Int32} {J : Nat → Nat → Int64} {q : Nat} (h : q < N) : (wd N sh ad I J)[q]? = some (ad q, sh q (I q) (J q)) := by
  unfold wd
  rw [List.getElem?_map, List.getElem?_range h]
  rfl
theorem wd_ext {N : Nat} {sh : Nat → (Nat → Int32) → (Nat → Int64) → va_E} {ad : Nat → Nat} {I I' : Nat → Nat → Int32} {J J' : Nat → Nat → Int64} {q : Nat} {e : va_E} (he : e = sh q (I' q) (J' q)) (hI : ∀ a, a ≠ q → I' a = I a) (hJ : ∀ a, a ≠ q → J' a = J a) : (wd N sh ad I J).set q (ad q, e) = wd N sh ad I' J' := by
  subst he
  unfold wd
  apply List.ext_getElem?
  intro k
  by_cases hk : k = q
  · subst hk
    by_cases hl : k < N
    · rw [List.getElem?_set_self (by simpa using hl), List.getElem?_map, List.getElem?_range hl]
      rfl
    · rw [List.getElem?_eq_none (by simp; omega), List.getElem?_eq_none (by simp; omega)]
  · rw [List.getElem?_set_ne (Ne.symm hk), List.getElem?_map, List.getElem?_map]
    by_cases hl : k < N
    · rw [List.getElem?_range hl]
      show some (ad k, sh k (I k) (J k)) = some (ad k, sh k (I' k) (J' k))
      rw [hI k hk, hJ k hk]
    · rw [List.getElem?_eq_none (by simp; omega)]
      rfl
/-- the memory with one number, one long written -/
def ui (I : Nat → Nat → Int32) (q i : Nat) (x : Int32) : Nat → Nat → Int32 := va_up I q (upd (I q) i x)
def uj (J : Nat → Nat → Int64) (q i : Nat) (x : Int64) : Nat → Nat → Int64 := va_up J q (vp_updL (J q) i x)
theorem ui_row (I : Nat → Nat → Int32) (q i : Nat) (x : Int32) : ui I q i x q = upd (I q) i x := if_pos rfl
theorem uj_row (J : Nat → Nat → Int64) (q i : Nat) (x : Int64) : uj J q i x q = vp_updL (J q) i x := if_pos rfl
theorem ui_else (I : Nat → Nat → Int32) {q : Nat} (i : Nat) (x : Int32) {a : Nat} (h : a ≠ q) : ui I q i x a = I a := if_neg h
theorem uj_else (J : Nat → Nat → Int64) {q : Nat} (i : Nat) (x : Int64) {a : Nat} (h : a ≠ q) : uj J q i x a = J a := if_neg h
theorem wd_i {N : Nat} {sh : Nat → (Nat → Int32) → (Nat → Int64) → va_E} {ad : Nat → Nat} {I : Nat → Nat → Int32} {J : Nat → Nat → Int64} {q i : Nat} {x : Int32} {e : va_E} (he : e = sh q (upd (I q) i x) (J q)) : (wd N sh ad I J).set q (ad q, e) = wd N sh ad (ui I q i x) J := wd_ext (by rw [ui_row]; exact he) (fun a h => ui_else I i x h) (fun _ _ => rfl)
theorem wd_j {N : Nat} {sh : Nat → (Nat → Int32) → (Nat → Int64) → va_E} {ad : Nat → Nat} {I : Nat → Nat → Int32} {J : Nat → Nat → Int64} {q i : Nat} {x : Int64} {e : va_E} (he : e = sh q (I q) (vp_updL (J q) i x)) : (wd N sh ad I J).set q (ad q, e) = wd N sh ad I (uj J q i x) := wd_ext (by rw [uj_row]; exact he) (fun _ _ => rfl) (fun a h => uj_else J i x h)
def shC (kc : Nat → ClassId) (ad : Nat → Nat) (q : Nat) (f : Nat → Int32) (g : Nat → Int64) : va_E :=
  if q = 0 then .inr (0, [.int (f 0), .int (f 1), .int (f 2), .ref (ad 1), .int (f 4), .ref (ad 2), .ref (ad 3), .int (f 7), .int (f 8), .ref (ad 4), .ref (ad 5)])
  else if q = 1 then .inl (kc 3, 4, .inr (.inr (.inr (.inr (fun j => if j < 4 then some (ad (15 + 6 * j)) else none)))))
  else if q = 2 then .inl (kc 4, 9, .inr (.inr (.inr (.inr (fun j => if j < 9 then some (ad (6 + j)) else none)))))
  else if q < 15 then .inl (kc 0, 52, .inl f)
  else match (q - 15) % 6 with
  | 0 => .inr (1, [.int (f 0), .int (f 1), .int (f 2), .int (f 3), .int (f 4), .int (f 5), .long (g 6), .int (f 7), .ref (ad (q + 1)), .ref (ad (q + 2)), .ref (ad (q + 3)), .ref (ad (q + 4)), .ref (ad (q + 5))])
  | 1 => .inr (2, [.int (f 0), .long (g 1), .long (g 2)])
  | 2 => .inr (2, [.int (f 0), .long (g 1), .long (g 2)])
  | 3 => .inl (kc 0, 52, .inl f)
  | 4 => .inl (kc 0, 52, .inl f)
  | _ => .inl (kc 1, 5, .inr (.inl g))
abbrev wC (kc : Nat → ClassId) (ad : Nat → Nat) (I : Nat → Nat → Int32) (J : Nat → Nat → Int64) : va_W := wd 39 (shC kc ad) ad I J
/-- the kinds of places -/
def isP (q : Nat) : Prop := q = 15 ∨ q = 21 ∨ q = 27 ∨ q = 33
def isS (q : Nat) : Prop := q = 16 ∨ q = 17 ∨ q = 22 ∨ q = 23 ∨ q = 28 ∨ q = 29 ∨ q = 34 ∨ q = 35
def isA (q : Nat) : Prop := (3 ≤ q ∧ q < 15) ∨ q = 18 ∨ q = 19 ∨ q = 24 ∨ q = 25 ∨ q = 30 ∨ q = 31 ∨ q = 36 ∨ q = 37
def isL (q : Nat) : Prop := q = 20 ∨ q = 26 ∨ q = 32 ∨ q = 38
theorem isP_of {k : Nat} (h : k < 4) : isP (15 + 6 * k) := by unfold isP; omega
theorem isA_deck {k : Nat} (h : k < 9) : isA (6 + k) := by unfold isA; omega
theorem isP_S1 {q : Nat} (h : isP q) : isS (q + 1) := by unfold isP at h; unfold isS; omega
theorem isP_S2 {q : Nat} (h : isP q) : isS (q + 2) := by unfold isP at h; unfold isS; omega
theorem isP_A3 {q : Nat} (h : isP q) : isA (q + 3) := by unfold isP at h; unfold isA; omega
theorem isP_A4 {q : Nat} (h : isP q) : isA (q + 4) := by unfold isP at h; unfold isA; omega
theorem isP_L {q : Nat} (h : isP q) : isL (q + 5) := by unfold isP at h; unfold isL; omega
theorem isA3 : isA 3 := by unfold isA; omega
theorem isA4 : isA 4 := by unfold isA; omega
theorem isA5 : isA 5 := by unfold isA; omega
theorem sh_P {kc : Nat → ClassId} {ad : Nat → Nat} {q : Nat} {f : Nat → Int32} {g : Nat → Int64} (h : isP q) : shC kc ad q f g = .inr (1, [.int (f 0), .int (f 1), .int (f 2), .int (f 3), .int (f 4), .int (f 5), .long (g 6), .int (f 7), .ref (ad (q + 1)), .ref (ad (q + 2)), .ref (ad (q + 3)), .ref (ad (q + 4)), .ref (ad (q + 5))]) := by
  rcases h with rfl | rfl | rfl | rfl <;> rfl
theorem sh_S {kc : Nat → ClassId} {ad : Nat → Nat} {q : Nat} {f : Nat → Int32} {g : Nat → Int64} (h : isS q) : shC kc ad q f g = .inr (2, [.int (f 0), .long (g 1), .long (g 2)]) := by
  rcases h with rfl | rfl | rfl | rfl | rfl | rfl | rfl | rfl <;> rfl
theorem sh_A {kc : Nat → ClassId} {ad : Nat → Nat} {q : Nat} {f : Nat → Int32} {g : Nat → Int64} (h : isA q) : shC kc ad q f g = .inl (kc 0, 52, .inl f) := by
  rcases h with h | rfl | rfl | rfl | rfl | rfl | rfl | rfl | rfl
  · unfold shC
    rw [if_neg (by omega), if_neg (by omega), if_neg (by omega), if_pos (by omega)]
  all_goals rfl
theorem sh_L {kc : Nat → ClassId} {ad : Nat → Nat} {q : Nat} {f : Nat → Int32} {g : Nat → Int64} (h : isL q) : shC kc ad q f g = .inl (kc 1, 5, .inr (.inl g)) := by
  rcases h with rfl | rfl | rfl | rfl <;> rfl
theorem at_O {kc : Nat → ClassId} {ad : Nat → Nat} {I : Nat → Nat → Int32} {J : Nat → Nat → Int64} : (wC kc ad I J)[0]? = some (ad 0, .inr (0, [.int (I 0 0), .int (I 0 1), .int (I 0 2), .ref (ad 1), .int (I 0 4), .ref (ad 2), .ref (ad 3), .int (I 0 7), .int (I 0 8), .ref (ad 4), .ref (ad 5)])) := wd_at (by decide)
theorem at_pl {kc : Nat → ClassId} {ad : Nat → Nat} {I : Nat → Nat → Int32} {J : Nat → Nat → Int64} : (wC kc ad I J)[1]? = some (ad 1, .inl (kc 3, 4, .inr (.inr (.inr (.inr (fun j => if j < 4 then some (ad (15 + 6 * j)) else none)))))) := wd_at (by decide)
theorem at_dk {kc : Nat → ClassId} {ad : Nat → Nat} {I : Nat → Nat → Int32} {J : Nat → Nat → Int64} : (wC kc ad I J)[2]? = some (ad 2, .inl (kc 4, 9, .inr (.inr (.inr (.inr (fun j => if j < 9 then some (ad (6 + j)) else none)))))) := wd_at (by decide)
theorem at_P {kc : Nat → ClassId} {ad : Nat → Nat} {I : Nat → Nat → Int32} {J : Nat → Nat → Int64} {q : Nat} (h : isP q) : (wC kc ad I J)[q]? = some (ad q, .inr (1, [.int (I q 0), .int (I q 1), .int (I q 2), .int (I q 3), .int (I q 4), .int (I q 5), .long (J q 6), .int (I q 7), .ref (ad (q + 1)), .ref (ad (q + 2)), .ref (ad (q + 3)), .ref (ad (q + 4)), .ref (ad (q + 5))])) := by
  rw [wd_at (by unfold isP at h; omega), sh_P h]
theorem at_S {kc : Nat → ClassId} {ad : Nat → Nat} {I : Nat → Nat → Int32} {J : Nat → Nat → Int64} {q : Nat} (h : isS q) : (wC kc ad I J)[q]? = some (ad q, .inr (2, [.int (I q 0), .long (J q 1), .long (J q 2)])) := by
  rw [wd_at (by unfold isS at h; omega), sh_S h]
theorem at_A {kc : Nat → ClassId} {ad : Nat → Nat} {I : Nat → Nat → Int32} {J : Nat → Nat → Int64} {q : Nat} (h : isA q) : (wC kc ad I J)[q]? = some (ad q, .inl (kc 0, 52, .inl (I q))) := by
  rw [wd_at (by unfold isA at h; omega), sh_A h]
theorem at_L {kc : Nat → ClassId} {ad : Nat → Nat} {I : Nat → Nat → Int32} {J : Nat → Nat → Int64} {q : Nat} (h : isL q) : (wC kc ad I J)[q]? = some (ad q, .inl (kc 1, 5, .inr (.inl (J q)))) := by
  rw [wd_at (by unfold isL at h; omega), sh_L h]
theorem pt_O0 {kc : Nat → ClassId} {ad : Nat → Nat} {I : Nat → Nat → Int32} {J : Nat → Nat → Int64} {x : Int32} : (wC kc ad I J).set 0 (ad 0, .inr (0, ([.int (I 0 0), .int (I 0 1), .int (I 0 2), .ref (ad 1), .int (I 0 4), .ref (ad 2), .ref (ad 3), .int (I 0 7), .int (I 0 8), .ref (ad 4), .ref (ad 5)]).set 0 (.int x))) = wC kc ad (ui I 0 0 x) J := wd_i rfl
theorem pt_O1 {kc : Nat → ClassId} {ad : Nat → Nat} {I : Nat → Nat → Int32} {J : Nat → Nat → Int64} {x : Int32} : (wC kc ad I J).set 0 (ad 0, .inr (0, ([.int (I 0 0), .int (I 0 1), .int (I 0 2), .ref (ad 1), .int (I 0 4), .ref (ad 2), .ref (ad 3), .int (I 0 7), .int (I 0 8), .ref (ad 4), .ref (ad 5)]).set 1 (.int x))) = wC kc ad (ui I 0 1 x) J := wd_i rfl
theorem pt_O2 {kc : Nat → ClassId} {ad : Nat → Nat} {I : Nat → Nat → Int32} {J : Nat → Nat → Int64} {x : Int32} : (wC kc ad I J).set 0 (ad 0, .inr (0, ([.int (I 0 0), .int (I 0 1), .int (I 0 2), .ref (ad 1), .int (I 0 4), .ref (ad 2), .ref (ad 3), .int (I 0 7), .int (I 0 8), .ref (ad 4), .ref (ad 5)]).set 2 (.int x))) = wC kc ad (ui I 0 2 x) J := wd_i rfl
theorem pt_O4 {kc : Nat → ClassId} {ad : Nat → Nat} {I : Nat → Nat → Int32} {J : Nat → Nat → Int64} {x : Int32} : (wC kc ad I J).set 0 (ad 0, .inr (0, ([.int (I 0 0), .int (I 0 1), .int (I 0 2), .ref (ad 1), .int (I 0 4), .ref (ad 2), .ref (ad 3), .int (I 0 7), .int (I 0 8), .ref (ad 4), .ref (ad 5)]).set 4 (.int x))) = wC kc ad (ui I 0 4 x) J := wd_i rfl
theorem pt_O7 {kc : Nat → ClassId} {ad : Nat → Nat} {I : Nat → Nat → Int32} {J : Nat → Nat → Int64} {x : Int32} : (wC kc ad I J).set 0 (ad 0, .inr (0, ([.int (I 0 0), .int (I 0 1), .int (I 0 2), .ref (ad 1), .int (I 0 4), .ref (ad 2), .ref (ad 3), .int (I 0 7), .int (I 0 8), .ref (ad 4), .ref (ad 5)]).set 7 (.int x))) = wC kc ad (ui I 0 7 x) J := wd_i rfl
theorem pt_O8 {kc : Nat → ClassId} {ad : Nat → Nat} {I : Nat → Nat → Int32} {J : Nat → Nat → Int64} {x : Int32} : (wC kc ad I J).set 0 (ad 0, .inr (0, ([.int (I 0 0), .int (I 0 1), .int (I 0 2), .ref (ad 1), .int (I 0 4), .ref (ad 2), .ref (ad 3), .int (I 0 7), .int (I 0 8), .ref (ad 4), .ref (ad 5)]).set 8 (.int x))) = wC kc ad (ui I 0 8 x) J := wd_i rfl
theorem pt_P0 {kc : Nat → ClassId} {ad : Nat → Nat} {I : Nat → Nat → Int32} {J : Nat → Nat → Int64} {q : Nat} (h : isP q) {x : Int32} : (wC kc ad I J).set q (ad q, .inr (1, ([.int (I q 0), .int (I q 1), .int (I q 2), .int (I q 3), .int (I q 4), .int (I q 5), .long (J q 6), .int (I q 7), .ref (ad (q + 1)), .ref (ad (q + 2)), .ref (ad (q + 3)), .ref (ad (q + 4)), .ref (ad (q + 5))]).set 0 (.int x))) = wC kc ad (ui I q 0 x) J := wd_i (by rw [sh_P h]; rfl)
theorem pt_P1 {kc : Nat → ClassId} {ad : Nat → Nat} {I : Nat → Nat → Int32} {J : Nat → Nat → Int64} {q : Nat} (h : isP q) {x : Int32} : (wC kc ad I J).set q (ad q, .inr (1, ([.int (I q 0), .int (I q 1), .int (I q 2), .int (I q 3), .int (I q 4), .int (I q 5), .long (J q 6), .int (I q 7), .ref (ad (q + 1)), .ref (ad (q + 2)), .ref (ad (q + 3)), .ref (ad (q + 4)), .ref (ad (q + 5))]).set 1 (.int x))) = wC kc ad (ui I q 1 x) J := wd_i (by rw [sh_P h]; rfl)
theorem pt_P2 {kc : Nat → ClassId} {ad : Nat → Nat} {I : Nat → Nat → Int32} {J : Nat → Nat → Int64} {q : Nat} (h : isP q) {x : Int32} : (wC kc ad I J).set q (ad q, .inr (1, ([.int (I q 0), .int (I q 1), .int (I q 2), .int (I q 3), .int (I q 4), .int (I q 5), .long (J q 6), .int (I q 7), .ref (ad (q + 1)), .ref (ad (q + 2)), .ref (ad (q + 3)), .ref (ad (q + 4)), .ref (ad (q + 5))]).set 2 (.int x))) = wC kc ad (ui I q 2 x) J := wd_i (by rw [sh_P h]; rfl)
theorem pt_P3 {kc : Nat → ClassId} {ad : Nat → Nat} {I : Nat → Nat → Int32} {J : Nat → Nat → Int64} {q : Nat} (h : isP q) {x : Int32} : (wC kc ad I J).set q (ad q, .inr (1, ([.int (I q 0), .int (I q 1), .int (I q 2), .int (I q 3), .int (I q 4), .int (I q 5), .long (J q 6), .int (I q 7), .ref (ad (q + 1)), .ref (ad (q + 2)), .ref (ad (q + 3)), .ref (ad (q + 4)), .ref (ad (q + 5))]).set 3 (.int x))) = wC kc ad (ui I q 3 x) J := wd_i (by rw [sh_P h]; rfl)
theorem pt_P4 {kc : Nat → ClassId} {ad : Nat → Nat} {I : Nat → Nat → Int32} {J : Nat → Nat → Int64} {q : Nat} (h : isP q) {x : Int32} : (wC kc ad I J).set q (ad q, .inr (1, ([.int (I q 0), .int (I q 1), .int (I q 2), .int (I q 3), .int (I q 4), .int (I q 5), .long (J q 6), .int (I q 7), .ref (ad (q + 1)), .ref (ad (q + 2)), .ref (ad (q + 3)), .ref (ad (q + 4)), .ref (ad (q + 5))]).set 4 (.int x))) = wC kc ad (ui I q 4 x) J := wd_i (by rw [sh_P h]; rfl)
theorem pt_P5 {kc : Nat → ClassId} {ad : Nat → Nat} {I : Nat → Nat → Int32} {J : Nat → Nat → Int64} {q : Nat} (h : isP q) {x : Int32} : (wC kc ad I J).set q (ad q, .inr (1, ([.int (I q 0), .int (I q 1), .int (I q 2), .int (I q 3), .int (I q 4), .int (I q 5), .long (J q 6), .int (I q 7), .ref (ad (q + 1)), .ref (ad (q + 2)), .ref (ad (q + 3)), .ref (ad (q + 4)), .ref (ad (q + 5))]).set 5 (.int x))) = wC kc ad (ui I q 5 x) J := wd_i (by rw [sh_P h]; rfl)
theorem pt_P6 {kc : Nat → ClassId} {ad : Nat → Nat} {I : Nat → Nat → Int32} {J : Nat → Nat → Int64} {q : Nat} (h : isP q) {x : Int64} : (wC kc ad I J).set q (ad q, .inr (1, ([.int (I q 0), .int (I q 1), .int (I q 2), .int (I q 3), .int (I q 4), .int (I q 5), .long (J q 6), .int (I q 7), .ref (ad (q + 1)), .ref (ad (q + 2)), .ref (ad (q + 3)), .ref (ad (q + 4)), .ref (ad (q + 5))]).set 6 (.long x))) = wC kc ad I (uj J q 6 x) := wd_j (by rw [sh_P h]; rfl)
theorem pt_P7 {kc : Nat → ClassId} {ad : Nat → Nat} {I : Nat → Nat → Int32} {J : Nat → Nat → Int64} {q : Nat} (h : isP q) {x : Int32} : (wC kc ad I J).set q (ad q, .inr (1, ([.int (I q 0), .int (I q 1), .int (I q 2), .int (I q 3), .int (I q 4), .int (I q 5), .long (J q 6), .int (I q 7), .ref (ad (q + 1)), .ref (ad (q + 2)), .ref (ad (q + 3)), .ref (ad (q + 4)), .ref (ad (q + 5))]).set 7 (.int x))) = wC kc ad (ui I q 7 x) J := wd_i (by rw [sh_P h]; rfl)
theorem pt_S0 {kc : Nat → ClassId} {ad : Nat → Nat} {I : Nat → Nat → Int32} {J : Nat → Nat → Int64} {q : Nat} (h : isS q) {x : Int32} : (wC kc ad I J).set q (ad q, .inr (2, ([.int (I q 0), .long (J q 1), .long (J q 2)]).set 0 (.int x))) = wC kc ad (ui I q 0 x) J := wd_i (by rw [sh_S h]; rfl)
theorem pt_S1 {kc : Nat → ClassId} {ad : Nat → Nat} {I : Nat → Nat → Int32} {J : Nat → Nat → Int64} {q : Nat} (h : isS q) {x : Int64} : (wC kc ad I J).set q (ad q, .inr (2, ([.int (I q 0), .long (J q 1), .long (J q 2)]).set 1 (.long x))) = wC kc ad I (uj J q 1 x) := wd_j (by rw [sh_S h]; rfl)
theorem pt_S2 {kc : Nat → ClassId} {ad : Nat → Nat} {I : Nat → Nat → Int32} {J : Nat → Nat → Int64} {q : Nat} (h : isS q) {x : Int64} : (wC kc ad I J).set q (ad q, .inr (2, ([.int (I q 0), .long (J q 1), .long (J q 2)]).set 2 (.long x))) = wC kc ad I (uj J q 2 x) := wd_j (by rw [sh_S h]; rfl)
theorem pt_A {kc : Nat → ClassId} {ad : Nat → Nat} {I : Nat → Nat → Int32} {J : Nat → Nat → Int64} {q i : Nat} (h : isA q) {x : Int32} : (wC kc ad I J).set q (ad q, .inl (kc 0, 52, .inl (upd (I q) i x))) = wC kc ad (ui I q i x) J := wd_i (by rw [sh_A h])
theorem pt_L {kc : Nat → ClassId} {ad : Nat → Nat} {I : Nat → Nat → Int32} {J : Nat → Nat → Int64} {q i : Nat} (h : isL q) {x : Int64} : (wC kc ad I J).set q (ad q, .inl (kc 1, 5, .inr (.inl (vp_updL (J q) i x)))) = wC kc ad I (uj J q i x) := wd_j (by rw [sh_L h])
def shE (kc : Nat → ClassId) (ad : Nat → Nat) (q : Nat) (f : Nat → Int32) (g : Nat → Int64) : va_E := if q = 39 then .inr (3, [.long (g 0)]) else shC kc ad q f g
abbrev wE (kc : Nat → ClassId) (ad : Nat → Nat) (I : Nat → Nat → Int32) (J : Nat → Nat → Int64) : va_W := wd 40 (shE kc ad) ad I J
theorem sh_agree {kc : Nat → ClassId} {ad ad1 : Nat → Nat} (h : ∀ q, q < 39 → ad1 q = ad q) {q : Nat} (hq : q < 39) {f : Nat → Int32} {g : Nat → Int64} : shC kc ad1 q f g = shC kc ad q f g := by
  have fp : (fun j => if j < 4 then some (ad1 (15 + 6 * j)) else none) = (fun j => if j < 4 then some (ad (15 + 6 * j)) else none) := by
    funext j
    by_cases hj : j < 4
    · rw [if_pos hj, if_pos hj, h _ (by omega)]
    · rw [if_neg hj, if_neg hj]
  have fd : (fun j => if j < 9 then some (ad1 (6 + j)) else none) = (fun j => if j < 9 then some (ad (6 + j)) else none) := by
    funext j
    by_cases hj : j < 9
    · rw [if_pos hj, if_pos hj, h _ (by omega)]
    · rw [if_neg hj, if_neg hj]
  unfold shC
  rw [fp, fd]
  by_cases h0 : q = 0
  · rw [if_pos h0, if_pos h0, h 1 (by omega), h 2 (by omega), h 3 (by omega), h 4 (by omega), h 5 (by omega)]
  · rw [if_neg h0, if_neg h0]
    by_cases h1 : q = 1
    · rw [if_pos h1, if_pos h1]
    · rw [if_neg h1, if_neg h1]
      by_cases h2 : q = 2
      · rw [if_pos h2, if_pos h2]
      · rw [if_neg h2, if_neg h2]
        by_cases h3 : q < 15
        · rw [if_pos h3, if_pos h3]
        · rw [if_neg h3, if_neg h3]
          have hc : q = 15 ∨ q = 21 ∨ q = 27 ∨ q = 33 ∨ (q - 15) % 6 ≠ 0 := by omega
          rcases hc with rfl | rfl | rfl | rfl | hc
          · rw [h 16 (by omega), h 17 (by omega), h 18 (by omega), h 19 (by omega), h 20 (by omega)]
          · rw [h 22 (by omega), h 23 (by omega), h 24 (by omega), h 25 (by omega), h 26 (by omega)]
          · rw [h 28 (by omega), h 29 (by omega), h 30 (by omega), h 31 (by omega), h 32 (by omega)]
          · rw [h 34 (by omega), h 35 (by omega), h 36 (by omega), h 37 (by omega), h 38 (by omega)]
          · split
            · omega
            all_goals rfl
theorem wE_app {kc : Nat → ClassId} {ad : Nat → Nat} {I : Nat → Nat → Int32} {J : Nat → Nat → Int64} : wE kc ad I J = wC kc ad I J ++ [(ad 39, .inr (3, [.long (J 39 0)]))] := by
  unfold wE wC wd
  rw [show List.range 40 = List.range 39 ++ [39] from List.range_succ, List.map_append, List.map_congr_left (g := fun q => (ad q, shC kc ad q (I q) (J q))) (fun q hq => by
    have := List.mem_range.mp hq
    show (ad q, shE kc ad q (I q) (J q)) = (ad q, shC kc ad q (I q) (J q))
    unfold shE
    rw [if_neg (by omega)])]
  rfl
theorem wC_agree {kc : Nat → ClassId} {ad ad1 : Nat → Nat} {I : Nat → Nat → Int32} {J J1 : Nat → Nat → Int64} (h : ∀ q, q < 39 → ad1 q = ad q) (hJ : ∀ q, q < 39 → J1 q = J q) : wC kc ad1 I J1 = wC kc ad I J := by
  unfold wC wd
  apply List.map_congr_left
  intro q hq
  have hq := List.mem_range.mp hq
  rw [h q hq, sh_agree h hq, hJ q hq]
theorem wE_new {kc : Nat → ClassId} {ad : Nat → Nat} {I : Nat → Nat → Int32} {J : Nat → Nat → Int64} {b : Nat} : wC kc ad I J ++ [(b, .inr (3, [.long 0]))] = wE kc (va_up ad 39 b) I (va_up J 39 (fun _ => 0)) := by
  rw [wE_app, wC_agree (ad := ad) (J := J) (fun q hq => va_up_ne _ _ (by omega)) (fun q hq => va_up_ne _ _ (by omega)), va_up_self, va_up_self]
theorem va_P.left {D : va_G} {cl : List vw_C} {a b : va_W} {H : Heap} (h : va_P D cl (a ++ b) H) : va_P D cl a H := fun k q hk => h k q (by rw [List.getElem?_append_left (List.getElem?_eq_some_iff.mp hk).1]; exact hk)
theorem va_D.left {A : Nat → Prop} {a b : va_W} (h : va_D A (a ++ b)) : va_D A a := ⟨fun i j x y hi hj e => h.1 i j x y (by rw [List.getElem?_append_left (List.getElem?_eq_some_iff.mp hi).1]; exact hi) (by rw [List.getElem?_append_left (List.getElem?_eq_some_iff.mp hj).1]; exact hj) e, fun k q hk => h.2 k q (by rw [List.getElem?_append_left (List.getElem?_eq_some_iff.mp hk).1]; exact hk)⟩
theorem wE_back {D : va_G} {cl : List vw_C} {kc : Nat → ClassId} {ad : Nat → Nat} {I : Nat → Nat → Int32} {J : Nat → Nat → Int64} {b : Nat} {H : Heap} (h : va_P D cl (wE kc (va_up ad 39 b) I J) H) : va_P D cl (wC kc ad I J) H := by
  rw [wE_app] at h
  have h := h.left
  rw [wC_agree (ad := ad) (J := J) (fun q hq => va_up_ne _ _ (by omega)) (fun _ _ => rfl)] at h
  exact h
theorem wE_backD {A : Nat → Prop} {kc : Nat → ClassId} {ad : Nat → Nat} {I : Nat → Nat → Int32} {J : Nat → Nat → Int64} {b : Nat} (h : va_D A (wE kc (va_up ad 39 b) I J)) : va_D A (wC kc ad I J) := by
  rw [wE_app] at h
  have h := h.left
  rw [wC_agree (ad := ad) (J := J) (fun q hq => va_up_ne _ _ (by omega)) (fun _ _ => rfl)] at h
  exact h
theorem ate_D {kc : Nat → ClassId} {ad : Nat → Nat} {I : Nat → Nat → Int32} {J : Nat → Nat → Int64} : (wE kc ad I J)[39]? = some (ad 39, .inr (3, [.long (J 39 0)])) := wd_at (by decide)
theorem pte_D0 {kc : Nat → ClassId} {ad : Nat → Nat} {I : Nat → Nat → Int32} {J : Nat → Nat → Int64} {x : Int64} : (wE kc ad I J).set 39 (ad 39, .inr (3, ([.long (J 39 0)] : List Value).set 0 (.long x))) = wE kc ad I (uj J 39 0 x) := wd_j rfl
theorem she {kc : Nat → ClassId} {ad : Nat → Nat} {q : Nat} (h : q ≠ 39) {f : Nat → Int32} {g : Nat → Int64} : shE kc ad q f g = shC kc ad q f g := if_neg h
theorem ate_A {kc : Nat → ClassId} {ad : Nat → Nat} {I : Nat → Nat → Int32} {J : Nat → Nat → Int64} {q : Nat} (h : isA q) : (wE kc ad I J)[q]? = some (ad q, .inl (kc 0, 52, .inl (I q))) := by
  rw [wd_at (by unfold isA at h; omega), she (by unfold isA at h; omega), sh_A h]
theorem pte_A {kc : Nat → ClassId} {ad : Nat → Nat} {I : Nat → Nat → Int32} {J : Nat → Nat → Int64} {q i : Nat} (h : isA q) {x : Int32} : (wE kc ad I J).set q (ad q, .inl (kc 0, 52, .inl (upd (I q) i x))) = wE kc ad (ui I q i x) J := wd_i (by rw [she (by unfold isA at h; omega), sh_A h])
def shM (kc : Nat → ClassId) (ad : Nat → Nat) (q : Nat) (f : Nat → Int32) (g : Nat → Int64) : va_E := match q with
  | 0 => .inr (4, [.int (f 0), .int (f 1), .int (f 2), .int (f 3), .int (f 4), .ref (ad 1), .ref (ad 2), .ref (ad 3), .ref (ad 4), .ref (ad 5), .ref (ad 6), .ref (ad 7), .ref (ad 8), .ref (ad 9), .ref (ad 10), .ref (ad 11), .ref (ad 12), .ref (ad 13), .ref (ad 14), .ref (ad 15), .int (f 20), .ref (ad 16), .ref (ad 17), .ref (ad 18), .ref (ad 19), .long (g 25), .ref (ad 20), .ref (ad 21), .ref (ad 22), .ref (ad 23), .int (f 30), .int (f 31)])
  | 1 => .inl (kc 0, 4, .inl f)
  | 2 => .inl (kc 2, 4, .inl f)
  | 3 => .inl (kc 1, 4, .inr (.inl g))
  | 4 => .inl (kc 0, 4, .inl f)
  | 5 => .inl (kc 1, 4, .inr (.inl g))
  | 6 => .inl (kc 1, 4, .inr (.inl g))
  | 7 => .inl (kc 2, 4, .inl f)
  | 8 => .inl (kc 0, 4, .inl f)
  | 9 => .inl (kc 1, 4, .inr (.inl g))
  | 10 => .inl (kc 1, 4, .inr (.inl g))
  | 11 => .inl (kc 1, 4, .inr (.inl g))
  | 12 => .inl (kc 1, 4, .inr (.inl g))
  | 13 => .inl (kc 2, 4, .inl f)
  | 14 => .inl (kc 2, 4, .inl f)
  | 15 => .inl (kc 0, 468, .inl f)
  | 16 => .inl (kc 0, 52, .inl f)
  | 17 => .inl (kc 0, 52, .inl f)
  | 18 => .inl (kc 0, 52, .inl f)
  | 19 => .inl (kc 0, 208, .inl f)
  | 20 => .inl (kc 2, 4, .inl f)
  | 21 => .inl (kc 0, 4, .inl f)
  | 22 => .inl (kc 0, 4, .inl f)
  | _ => .inl (kc 2, 4, .inl f)
abbrev wM (kc : Nat → ClassId) (ad : Nat → Nat) (I : Nat → Nat → Int32) (J : Nat → Nat → Int64) : va_W := wd 24 (shM kc ad) ad I J
theorem am_0 {kc : Nat → ClassId} {ad : Nat → Nat} {I : Nat → Nat → Int32} {J : Nat → Nat → Int64} : (wM kc ad I J)[0]? = some (ad 0, .inr (4, [.int (I 0 0), .int (I 0 1), .int (I 0 2), .int (I 0 3), .int (I 0 4), .ref (ad 1), .ref (ad 2), .ref (ad 3), .ref (ad 4), .ref (ad 5), .ref (ad 6), .ref (ad 7), .ref (ad 8), .ref (ad 9), .ref (ad 10), .ref (ad 11), .ref (ad 12), .ref (ad 13), .ref (ad 14), .ref (ad 15), .int (I 0 20), .ref (ad 16), .ref (ad 17), .ref (ad 18), .ref (ad 19), .long (J 0 25), .ref (ad 20), .ref (ad 21), .ref (ad 22), .ref (ad 23), .int (I 0 30), .int (I 0 31)])) := wd_at (by decide)
theorem am_1 {kc : Nat → ClassId} {ad : Nat → Nat} {I : Nat → Nat → Int32} {J : Nat → Nat → Int64} : (wM kc ad I J)[1]? = some (ad 1, .inl (kc 0, 4, .inl (I 1))) := wd_at (by decide)
theorem pm_1 {kc : Nat → ClassId} {ad : Nat → Nat} {I : Nat → Nat → Int32} {J : Nat → Nat → Int64} {i : Nat} {x : Int32} : (wM kc ad I J).set 1 (ad 1, .inl (kc 0, 4, .inl (upd (I 1) i x))) = wM kc ad (ui I 1 i x) J := wd_i rfl
theorem am_2 {kc : Nat → ClassId} {ad : Nat → Nat} {I : Nat → Nat → Int32} {J : Nat → Nat → Int64} : (wM kc ad I J)[2]? = some (ad 2, .inl (kc 2, 4, .inl (I 2))) := wd_at (by decide)
theorem pm_2 {kc : Nat → ClassId} {ad : Nat → Nat} {I : Nat → Nat → Int32} {J : Nat → Nat → Int64} {i : Nat} {x : Int32} : (wM kc ad I J).set 2 (ad 2, .inl (kc 2, 4, .inl (upd (I 2) i x))) = wM kc ad (ui I 2 i x) J := wd_i rfl
theorem am_3 {kc : Nat → ClassId} {ad : Nat → Nat} {I : Nat → Nat → Int32} {J : Nat → Nat → Int64} : (wM kc ad I J)[3]? = some (ad 3, .inl (kc 1, 4, .inr (.inl (J 3)))) := wd_at (by decide)
theorem pm_3 {kc : Nat → ClassId} {ad : Nat → Nat} {I : Nat → Nat → Int32} {J : Nat → Nat → Int64} {i : Nat} {x : Int64} : (wM kc ad I J).set 3 (ad 3, .inl (kc 1, 4, .inr (.inl (vp_updL (J 3) i x)))) = wM kc ad I (uj J 3 i x) := wd_j rfl
theorem am_4 {kc : Nat → ClassId} {ad : Nat → Nat} {I : Nat → Nat → Int32} {J : Nat → Nat → Int64} : (wM kc ad I J)[4]? = some (ad 4, .inl (kc 0, 4, .inl (I 4))) := wd_at (by decide)
theorem pm_4 {kc : Nat → ClassId} {ad : Nat → Nat} {I : Nat → Nat → Int32} {J : Nat → Nat → Int64} {i : Nat} {x : Int32} : (wM kc ad I J).set 4 (ad 4, .inl (kc 0, 4, .inl (upd (I 4) i x))) = wM kc ad (ui I 4 i x) J := wd_i rfl
theorem am_5 {kc : Nat → ClassId} {ad : Nat → Nat} {I : Nat → Nat → Int32} {J : Nat → Nat → Int64} : (wM kc ad I J)[5]? = some (ad 5, .inl (kc 1, 4, .inr (.inl (J 5)))) := wd_at (by decide)
theorem pm_5 {kc : Nat → ClassId} {ad : Nat → Nat} {I : Nat → Nat → Int32} {J : Nat → Nat → Int64} {i : Nat} {x : Int64} : (wM kc ad I J).set 5 (ad 5, .inl (kc 1, 4, .inr (.inl (vp_updL (J 5) i x)))) = wM kc ad I (uj J 5 i x) := wd_j rfl
theorem am_6 {kc : Nat → ClassId} {ad : Nat → Nat} {I : Nat → Nat → Int32} {J : Nat → Nat → Int64} : (wM kc ad I J)[6]? = some (ad 6, .inl (kc 1, 4, .inr (.inl (J 6)))) := wd_at (by decide)
theorem pm_6 {kc : Nat → ClassId} {ad : Nat → Nat} {I : Nat → Nat → Int32} {J : Nat → Nat → Int64} {i : Nat} {x : Int64} : (wM kc ad I J).set 6 (ad 6, .inl (kc 1, 4, .inr (.inl (vp_updL (J 6) i x)))) = wM kc ad I (uj J 6 i x) := wd_j rfl
theorem am_7 {kc : Nat → ClassId} {ad : Nat → Nat} {I : Nat → Nat → Int32} {J : Nat → Nat → Int64} : (wM kc ad I J)[7]? = some (ad 7, .inl (kc 2, 4, .inl (I 7))) := wd_at (by decide)
theorem pm_7 {kc : Nat → ClassId} {ad : Nat → Nat} {I : Nat → Nat → Int32} {J : Nat → Nat → Int64} {i : Nat} {x : Int32} : (wM kc ad I J).set 7 (ad 7, .inl (kc 2, 4, .inl (upd (I 7) i x))) = wM kc ad (ui I 7 i x) J := wd_i rfl
theorem am_8 {kc : Nat → ClassId} {ad : Nat → Nat} {I : Nat → Nat → Int32} {J : Nat → Nat → Int64} : (wM kc ad I J)[8]? = some (ad 8, .inl (kc 0, 4, .inl (I 8))) := wd_at (by decide)
theorem pm_8 {kc : Nat → ClassId} {ad : Nat → Nat} {I : Nat → Nat → Int32} {J : Nat → Nat → Int64} {i : Nat} {x : Int32} : (wM kc ad I J).set 8 (ad 8, .inl (kc 0, 4, .inl (upd (I 8) i x))) = wM kc ad (ui I 8 i x) J := wd_i rfl
theorem am_9 {kc : Nat → ClassId} {ad : Nat → Nat} {I : Nat → Nat → Int32} {J : Nat → Nat → Int64} : (wM kc ad I J)[9]? = some (ad 9, .inl (kc 1, 4, .inr (.inl (J 9)))) := wd_at (by decide)
theorem pm_9 {kc : Nat → ClassId} {ad : Nat → Nat} {I : Nat → Nat → Int32} {J : Nat → Nat → Int64} {i : Nat} {x : Int64} : (wM kc ad I J).set 9 (ad 9, .inl (kc 1, 4, .inr (.inl (vp_updL (J 9) i x)))) = wM kc ad I (uj J 9 i x) := wd_j rfl
theorem am_10 {kc : Nat → ClassId} {ad : Nat → Nat} {I : Nat → Nat → Int32} {J : Nat → Nat → Int64} : (wM kc ad I J)[10]? = some (ad 10, .inl (kc 1, 4, .inr (.inl (J 10)))) := wd_at (by decide)
theorem pm_10 {kc : Nat → ClassId} {ad : Nat → Nat} {I : Nat → Nat → Int32} {J : Nat → Nat → Int64} {i : Nat} {x : Int64} : (wM kc ad I J).set 10 (ad 10, .inl (kc 1, 4, .inr (.inl (vp_updL (J 10) i x)))) = wM kc ad I (uj J 10 i x) := wd_j rfl
theorem am_11 {kc : Nat → ClassId} {ad : Nat → Nat} {I : Nat → Nat → Int32} {J : Nat → Nat → Int64} : (wM kc ad I J)[11]? = some (ad 11, .inl (kc 1, 4, .inr (.inl (J 11)))) := wd_at (by decide)
theorem pm_11 {kc : Nat → ClassId} {ad : Nat → Nat} {I : Nat → Nat → Int32} {J : Nat → Nat → Int64} {i : Nat} {x : Int64} : (wM kc ad I J).set 11 (ad 11, .inl (kc 1, 4, .inr (.inl (vp_updL (J 11) i x)))) = wM kc ad I (uj J 11 i x) := wd_j rfl
theorem am_12 {kc : Nat → ClassId} {ad : Nat → Nat} {I : Nat → Nat → Int32} {J : Nat → Nat → Int64} : (wM kc ad I J)[12]? = some (ad 12, .inl (kc 1, 4, .inr (.inl (J 12)))) := wd_at (by decide)
theorem pm_12 {kc : Nat → ClassId} {ad : Nat → Nat} {I : Nat → Nat → Int32} {J : Nat → Nat → Int64} {i : Nat} {x : Int64} : (wM kc ad I J).set 12 (ad 12, .inl (kc 1, 4, .inr (.inl (vp_updL (J 12) i x)))) = wM kc ad I (uj J 12 i x) := wd_j rfl
theorem am_13 {kc : Nat → ClassId} {ad : Nat → Nat} {I : Nat → Nat → Int32} {J : Nat → Nat → Int64} : (wM kc ad I J)[13]? = some (ad 13, .inl (kc 2, 4, .inl (I 13))) := wd_at (by decide)
theorem pm_13 {kc : Nat → ClassId} {ad : Nat → Nat} {I : Nat → Nat → Int32} {J : Nat → Nat → Int64} {i : Nat} {x : Int32} : (wM kc ad I J).set 13 (ad 13, .inl (kc 2, 4, .inl (upd (I 13) i x))) = wM kc ad (ui I 13 i x) J := wd_i rfl
theorem am_14 {kc : Nat → ClassId} {ad : Nat → Nat} {I : Nat → Nat → Int32} {J : Nat → Nat → Int64} : (wM kc ad I J)[14]? = some (ad 14, .inl (kc 2, 4, .inl (I 14))) := wd_at (by decide)
theorem pm_14 {kc : Nat → ClassId} {ad : Nat → Nat} {I : Nat → Nat → Int32} {J : Nat → Nat → Int64} {i : Nat} {x : Int32} : (wM kc ad I J).set 14 (ad 14, .inl (kc 2, 4, .inl (upd (I 14) i x))) = wM kc ad (ui I 14 i x) J := wd_i rfl
theorem am_15 {kc : Nat → ClassId} {ad : Nat → Nat} {I : Nat → Nat → Int32} {J : Nat → Nat → Int64} : (wM kc ad I J)[15]? = some (ad 15, .inl (kc 0, 468, .inl (I 15))) := wd_at (by decide)
theorem pm_15 {kc : Nat → ClassId} {ad : Nat → Nat} {I : Nat → Nat → Int32} {J : Nat → Nat → Int64} {i : Nat} {x : Int32} : (wM kc ad I J).set 15 (ad 15, .inl (kc 0, 468, .inl (upd (I 15) i x))) = wM kc ad (ui I 15 i x) J := wd_i rfl
theorem am_16 {kc : Nat → ClassId} {ad : Nat → Nat} {I : Nat → Nat → Int32} {J : Nat → Nat → Int64} : (wM kc ad I J)[16]? = some (ad 16, .inl (kc 0, 52, .inl (I 16))) := wd_at (by decide)
theorem pm_16 {kc : Nat → ClassId} {ad : Nat → Nat} {I : Nat → Nat → Int32} {J : Nat → Nat → Int64} {i : Nat} {x : Int32} : (wM kc ad I J).set 16 (ad 16, .inl (kc 0, 52, .inl (upd (I 16) i x))) = wM kc ad (ui I 16 i x) J := wd_i rfl
theorem am_17 {kc : Nat → ClassId} {ad : Nat → Nat} {I : Nat → Nat → Int32} {J : Nat → Nat → Int64} : (wM kc ad I J)[17]? = some (ad 17, .inl (kc 0, 52, .inl (I 17))) := wd_at (by decide)
theorem pm_17 {kc : Nat → ClassId} {ad : Nat → Nat} {I : Nat → Nat → Int32} {J : Nat → Nat → Int64} {i : Nat} {x : Int32} : (wM kc ad I J).set 17 (ad 17, .inl (kc 0, 52, .inl (upd (I 17) i x))) = wM kc ad (ui I 17 i x) J := wd_i rfl
theorem am_18 {kc : Nat → ClassId} {ad : Nat → Nat} {I : Nat → Nat → Int32} {J : Nat → Nat → Int64} : (wM kc ad I J)[18]? = some (ad 18, .inl (kc 0, 52, .inl (I 18))) := wd_at (by decide)
theorem pm_18 {kc : Nat → ClassId} {ad : Nat → Nat} {I : Nat → Nat → Int32} {J : Nat → Nat → Int64} {i : Nat} {x : Int32} : (wM kc ad I J).set 18 (ad 18, .inl (kc 0, 52, .inl (upd (I 18) i x))) = wM kc ad (ui I 18 i x) J := wd_i rfl
theorem am_19 {kc : Nat → ClassId} {ad : Nat → Nat} {I : Nat → Nat → Int32} {J : Nat → Nat → Int64} : (wM kc ad I J)[19]? = some (ad 19, .inl (kc 0, 208, .inl (I 19))) := wd_at (by decide)
theorem pm_19 {kc : Nat → ClassId} {ad : Nat → Nat} {I : Nat → Nat → Int32} {J : Nat → Nat → Int64} {i : Nat} {x : Int32} : (wM kc ad I J).set 19 (ad 19, .inl (kc 0, 208, .inl (upd (I 19) i x))) = wM kc ad (ui I 19 i x) J := wd_i rfl
theorem am_20 {kc : Nat → ClassId} {ad : Nat → Nat} {I : Nat → Nat → Int32} {J : Nat → Nat → Int64} : (wM kc ad I J)[20]? = some (ad 20, .inl (kc 2, 4, .inl (I 20))) := wd_at (by decide)
theorem pm_20 {kc : Nat → ClassId} {ad : Nat → Nat} {I : Nat → Nat → Int32} {J : Nat → Nat → Int64} {i : Nat} {x : Int32} : (wM kc ad I J).set 20 (ad 20, .inl (kc 2, 4, .inl (upd (I 20) i x))) = wM kc ad (ui I 20 i x) J := wd_i rfl
theorem am_21 {kc : Nat → ClassId} {ad : Nat → Nat} {I : Nat → Nat → Int32} {J : Nat → Nat → Int64} : (wM kc ad I J)[21]? = some (ad 21, .inl (kc 0, 4, .inl (I 21))) := wd_at (by decide)
theorem pm_21 {kc : Nat → ClassId} {ad : Nat → Nat} {I : Nat → Nat → Int32} {J : Nat → Nat → Int64} {i : Nat} {x : Int32} : (wM kc ad I J).set 21 (ad 21, .inl (kc 0, 4, .inl (upd (I 21) i x))) = wM kc ad (ui I 21 i x) J := wd_i rfl
theorem am_22 {kc : Nat → ClassId} {ad : Nat → Nat} {I : Nat → Nat → Int32} {J : Nat → Nat → Int64} : (wM kc ad I J)[22]? = some (ad 22, .inl (kc 0, 4, .inl (I 22))) := wd_at (by decide)
theorem pm_22 {kc : Nat → ClassId} {ad : Nat → Nat} {I : Nat → Nat → Int32} {J : Nat → Nat → Int64} {i : Nat} {x : Int32} : (wM kc ad I J).set 22 (ad 22, .inl (kc 0, 4, .inl (upd (I 22) i x))) = wM kc ad (ui I 22 i x) J := wd_i rfl
theorem am_23 {kc : Nat → ClassId} {ad : Nat → Nat} {I : Nat → Nat → Int32} {J : Nat → Nat → Int64} : (wM kc ad I J)[23]? = some (ad 23, .inl (kc 2, 4, .inl (I 23))) := wd_at (by decide)
theorem pm_23 {kc : Nat → ClassId} {ad : Nat → Nat} {I : Nat → Nat → Int32} {J : Nat → Nat → Int64} {i : Nat} {x : Int32} : (wM kc ad I J).set 23 (ad 23, .inl (kc 2, 4, .inl (upd (I 23) i x))) = wM kc ad (ui I 23 i x) J := wd_i rfl
theorem pt_M0 {kc : Nat → ClassId} {ad : Nat → Nat} {I : Nat → Nat → Int32} {J : Nat → Nat → Int64} {x : Int32} : (wM kc ad I J).set 0 (ad 0, .inr (4, ([.int (I 0 0), .int (I 0 1), .int (I 0 2), .int (I 0 3), .int (I 0 4), .ref (ad 1), .ref (ad 2), .ref (ad 3), .ref (ad 4), .ref (ad 5), .ref (ad 6), .ref (ad 7), .ref (ad 8), .ref (ad 9), .ref (ad 10), .ref (ad 11), .ref (ad 12), .ref (ad 13), .ref (ad 14), .ref (ad 15), .int (I 0 20), .ref (ad 16), .ref (ad 17), .ref (ad 18), .ref (ad 19), .long (J 0 25), .ref (ad 20), .ref (ad 21), .ref (ad 22), .ref (ad 23), .int (I 0 30), .int (I 0 31)]).set 0 (.int x))) = wM kc ad (ui I 0 0 x) J := wd_i rfl
theorem pt_M1 {kc : Nat → ClassId} {ad : Nat → Nat} {I : Nat → Nat → Int32} {J : Nat → Nat → Int64} {x : Int32} : (wM kc ad I J).set 0 (ad 0, .inr (4, ([.int (I 0 0), .int (I 0 1), .int (I 0 2), .int (I 0 3), .int (I 0 4), .ref (ad 1), .ref (ad 2), .ref (ad 3), .ref (ad 4), .ref (ad 5), .ref (ad 6), .ref (ad 7), .ref (ad 8), .ref (ad 9), .ref (ad 10), .ref (ad 11), .ref (ad 12), .ref (ad 13), .ref (ad 14), .ref (ad 15), .int (I 0 20), .ref (ad 16), .ref (ad 17), .ref (ad 18), .ref (ad 19), .long (J 0 25), .ref (ad 20), .ref (ad 21), .ref (ad 22), .ref (ad 23), .int (I 0 30), .int (I 0 31)]).set 1 (.int x))) = wM kc ad (ui I 0 1 x) J := wd_i rfl
theorem pt_M2 {kc : Nat → ClassId} {ad : Nat → Nat} {I : Nat → Nat → Int32} {J : Nat → Nat → Int64} {x : Int32} : (wM kc ad I J).set 0 (ad 0, .inr (4, ([.int (I 0 0), .int (I 0 1), .int (I 0 2), .int (I 0 3), .int (I 0 4), .ref (ad 1), .ref (ad 2), .ref (ad 3), .ref (ad 4), .ref (ad 5), .ref (ad 6), .ref (ad 7), .ref (ad 8), .ref (ad 9), .ref (ad 10), .ref (ad 11), .ref (ad 12), .ref (ad 13), .ref (ad 14), .ref (ad 15), .int (I 0 20), .ref (ad 16), .ref (ad 17), .ref (ad 18), .ref (ad 19), .long (J 0 25), .ref (ad 20), .ref (ad 21), .ref (ad 22), .ref (ad 23), .int (I 0 30), .int (I 0 31)]).set 2 (.int x))) = wM kc ad (ui I 0 2 x) J := wd_i rfl
theorem pt_M3 {kc : Nat → ClassId} {ad : Nat → Nat} {I : Nat → Nat → Int32} {J : Nat → Nat → Int64} {x : Int32} : (wM kc ad I J).set 0 (ad 0, .inr (4, ([.int (I 0 0), .int (I 0 1), .int (I 0 2), .int (I 0 3), .int (I 0 4), .ref (ad 1), .ref (ad 2), .ref (ad 3), .ref (ad 4), .ref (ad 5), .ref (ad 6), .ref (ad 7), .ref (ad 8), .ref (ad 9), .ref (ad 10), .ref (ad 11), .ref (ad 12), .ref (ad 13), .ref (ad 14), .ref (ad 15), .int (I 0 20), .ref (ad 16), .ref (ad 17), .ref (ad 18), .ref (ad 19), .long (J 0 25), .ref (ad 20), .ref (ad 21), .ref (ad 22), .ref (ad 23), .int (I 0 30), .int (I 0 31)]).set 3 (.int x))) = wM kc ad (ui I 0 3 x) J := wd_i rfl
theorem pt_M4 {kc : Nat → ClassId} {ad : Nat → Nat} {I : Nat → Nat → Int32} {J : Nat → Nat → Int64} {x : Int32} : (wM kc ad I J).set 0 (ad 0, .inr (4, ([.int (I 0 0), .int (I 0 1), .int (I 0 2), .int (I 0 3), .int (I 0 4), .ref (ad 1), .ref (ad 2), .ref (ad 3), .ref (ad 4), .ref (ad 5), .ref (ad 6), .ref (ad 7), .ref (ad 8), .ref (ad 9), .ref (ad 10), .ref (ad 11), .ref (ad 12), .ref (ad 13), .ref (ad 14), .ref (ad 15), .int (I 0 20), .ref (ad 16), .ref (ad 17), .ref (ad 18), .ref (ad 19), .long (J 0 25), .ref (ad 20), .ref (ad 21), .ref (ad 22), .ref (ad 23), .int (I 0 30), .int (I 0 31)]).set 4 (.int x))) = wM kc ad (ui I 0 4 x) J := wd_i rfl
theorem pt_M20 {kc : Nat → ClassId} {ad : Nat → Nat} {I : Nat → Nat → Int32} {J : Nat → Nat → Int64} {x : Int32} : (wM kc ad I J).set 0 (ad 0, .inr (4, ([.int (I 0 0), .int (I 0 1), .int (I 0 2), .int (I 0 3), .int (I 0 4), .ref (ad 1), .ref (ad 2), .ref (ad 3), .ref (ad 4), .ref (ad 5), .ref (ad 6), .ref (ad 7), .ref (ad 8), .ref (ad 9), .ref (ad 10), .ref (ad 11), .ref (ad 12), .ref (ad 13), .ref (ad 14), .ref (ad 15), .int (I 0 20), .ref (ad 16), .ref (ad 17), .ref (ad 18), .ref (ad 19), .long (J 0 25), .ref (ad 20), .ref (ad 21), .ref (ad 22), .ref (ad 23), .int (I 0 30), .int (I 0 31)]).set 20 (.int x))) = wM kc ad (ui I 0 20 x) J := wd_i rfl
theorem pt_M25 {kc : Nat → ClassId} {ad : Nat → Nat} {I : Nat → Nat → Int32} {J : Nat → Nat → Int64} {x : Int64} : (wM kc ad I J).set 0 (ad 0, .inr (4, ([.int (I 0 0), .int (I 0 1), .int (I 0 2), .int (I 0 3), .int (I 0 4), .ref (ad 1), .ref (ad 2), .ref (ad 3), .ref (ad 4), .ref (ad 5), .ref (ad 6), .ref (ad 7), .ref (ad 8), .ref (ad 9), .ref (ad 10), .ref (ad 11), .ref (ad 12), .ref (ad 13), .ref (ad 14), .ref (ad 15), .int (I 0 20), .ref (ad 16), .ref (ad 17), .ref (ad 18), .ref (ad 19), .long (J 0 25), .ref (ad 20), .ref (ad 21), .ref (ad 22), .ref (ad 23), .int (I 0 30), .int (I 0 31)]).set 25 (.long x))) = wM kc ad I (uj J 0 25 x) := wd_j rfl
theorem pt_M30 {kc : Nat → ClassId} {ad : Nat → Nat} {I : Nat → Nat → Int32} {J : Nat → Nat → Int64} {x : Int32} : (wM kc ad I J).set 0 (ad 0, .inr (4, ([.int (I 0 0), .int (I 0 1), .int (I 0 2), .int (I 0 3), .int (I 0 4), .ref (ad 1), .ref (ad 2), .ref (ad 3), .ref (ad 4), .ref (ad 5), .ref (ad 6), .ref (ad 7), .ref (ad 8), .ref (ad 9), .ref (ad 10), .ref (ad 11), .ref (ad 12), .ref (ad 13), .ref (ad 14), .ref (ad 15), .int (I 0 20), .ref (ad 16), .ref (ad 17), .ref (ad 18), .ref (ad 19), .long (J 0 25), .ref (ad 20), .ref (ad 21), .ref (ad 22), .ref (ad 23), .int (I 0 30), .int (I 0 31)]).set 30 (.int x))) = wM kc ad (ui I 0 30 x) J := wd_i rfl
theorem pt_M31 {kc : Nat → ClassId} {ad : Nat → Nat} {I : Nat → Nat → Int32} {J : Nat → Nat → Int64} {x : Int32} : (wM kc ad I J).set 0 (ad 0, .inr (4, ([.int (I 0 0), .int (I 0 1), .int (I 0 2), .int (I 0 3), .int (I 0 4), .ref (ad 1), .ref (ad 2), .ref (ad 3), .ref (ad 4), .ref (ad 5), .ref (ad 6), .ref (ad 7), .ref (ad 8), .ref (ad 9), .ref (ad 10), .ref (ad 11), .ref (ad 12), .ref (ad 13), .ref (ad 14), .ref (ad 15), .int (I 0 20), .ref (ad 16), .ref (ad 17), .ref (ad 18), .ref (ad 19), .long (J 0 25), .ref (ad 20), .ref (ad 21), .ref (ad 22), .ref (ad 23), .int (I 0 30), .int (I 0 31)]).set 31 (.int x))) = wM kc ad (ui I 0 31 x) J := wd_i rfl
end
section
/-! calls of methods that read, or change, a world; laid by program -/
abbrev BR (D : va_G) (kc : Nat → ClassId) (w : va_W) : State → Prop := fun U => va_P D cls5 w U.heap ∧ va_K D cls5 (tys5 kc) U
abbrev BW (D : va_G) (kc : Nat → ClassId) (w : va_W) (sz : Nat) : State → Prop := fun U => U.heap.size = sz ∧ va_P D cls5 w U.heap ∧ va_K D cls5 (tys5 kc) U ∧ va_D (fun _ => True) w
abbrev EW (D : va_G) (kc : Nat → ClassId) (A : Nat → Prop) (w' : va_W) : Unit → State → Prop := fun _ t => va_P D cls5 w' t.heap ∧ va_K D cls5 (tys5 kc) t ∧ va_D A w'
theorem fr_all {A : Nat → Prop} {w : va_W} {H0 H : Heap} {locs : List Loc} (hD : va_D A w) (hS : va_S A H0 H locs) (hA : ∀ q, H0.size ≤ q → A q) : ∀ q, va_A w H.size q → A q := by
  intro q h
  rcases h with ⟨k, e, h⟩ | h
  · exact hD.2 k (q, e) h
  · exact hA q (Nat.le_trans hS.1 h)

section CWC
variable {p : Program} {l : Launch} {e : Env} {R : Room} {s : State} {m : MethodId} {args : Array Value} {below : List Frame} {meth : Method} {c : Code} {H : Heap} {locs : List Loc} {cells slots : Nat} {Q : State → Prop}
variable {cc bytes : ByteArray} {pc nL maxL index n mc ms : Nat} {ls : Array Slot} {As rest st0 : List Value} {own : String} {y : MethodName} {ret : Option FieldType} {rm : Room} {D : va_G} {kc : Nat → ClassId} {w w' : va_W} {A : Nat → Prop} {H0 : Heap} {b : Nat}

theorem cr_Vi {v : Int32} (hx : p.tables.exec = Jvm.exec) (hb : c.code = cc) (hml : c.maxLocals = nL) (hown : s.vm.findClass own = some m.cls) (hk : ∀ w ∈ kw, w.before args s = true)
    (hM : Met l y (Cond.code y bytes maxL ret :: kw) rm (va_Pc (.ref b :: As) (BR D kc w)) (vp_Si (fun z => z = v)) 0 0 (fun _ => False)) (hK : va_K D cls5 (tys5 kc) s) (hP : va_P D cls5 w H)
    (q0 : Nat) {ci : Nat} {fs : List Value} (he : w[q0]? = some (b, .inr (ci, fs))) {r9 : vw_C} (hc : cls5[ci]? = some r9) (hC : r9.1 = y.cls) (w1 : Cond.methodLink own index y ∈ kw) (w2 : Cond.instanceMethod y ∈ kw) (w3 : Cond.selects y.cls y y ∈ kw) (w5 : Cond.initialized y.cls ∈ kw) (w4 : Cond.code y bytes maxL ret ∈ kw) (hrm : rm.cells = 0 ∧ rm.slots = 0)
    (hd : y.cls ≠ "java/lang/invoke/MethodHandle" ∧ y.cls ≠ "java/lang/invoke/VarHandle" ∧ (parseMethodDescriptor y.desc).map (fun d => d.parameters.length) = some n) (hR : rm.frames + 1 ≤ R.frames ∧ 8 + (maxL + 11) + rm.locals ≤ R.locals)
    (hn : As.length = n) (hsize : ls.size = nL) (hst : st0 = As.reverse ++ .ref b :: rest) (hW : (rest.map fun v => v.category).sum ≤ 8) (hdg : decode cc pc = .ok (.invokevirtual index, 3)) (hcs : cells ≤ R.cells ∧ slots ≤ R.slots)
    (kk : W p l e R s m args below meth c H locs cells slots Q (F0 m (pc + 3) ls (.int v :: rest))) : W p l e R s m args below meth c H locs cells slots Q (F0 m pc ls st0) := by
  refine vp_callSi (W.runV (Ts := kw) (As := As) (C := y.cls) ⟨hx, hb, hml, hown, hk⟩ hM (cwV n hk (kw_good (fun w hw => ?_)) rfl hrm.1 hrm.2 ⟨rfl, hd⟩ hR) ⟨fun a U g mk q => ⟨q.1, q.2.1, va_K.moved (u := U) (U := U.calling g mk a) (Vm.Alike.refl U.vm) q.2.2⟩, by rw [← hC]; exact va_recv hK hP hc he, fun U hU hW => ⟨rfl, by rw [hU]; exact hP, va_K.moved hW.alike hK⟩⟩ rfl hn hsize hst (lv_room hW) hdg hcs) (fun z hz => ?_)
  · unfold wsV at hw
    rcases List.mem_append.mp hw with h | h
    · simp only [List.mem_cons, List.not_mem_nil, or_false] at h
      rcases h with rfl | rfl | rfl | rfl
      · exact w1
      · exact w2
      · exact w3
      · exact w5
    · exact kw_cons w4 h
  · subst hz
    exact kk
theorem cr_Vl {v : Int64} (hx : p.tables.exec = Jvm.exec) (hb : c.code = cc) (hml : c.maxLocals = nL) (hown : s.vm.findClass own = some m.cls) (hk : ∀ w ∈ kw, w.before args s = true)
    (hM : Met l y (Cond.code y bytes maxL ret :: kw) rm (va_Pc (.ref b :: As) (BR D kc w)) (vp_Sl (fun z => z = v)) 0 0 (fun _ => False)) (hK : va_K D cls5 (tys5 kc) s) (hP : va_P D cls5 w H)
    (q0 : Nat) {ci : Nat} {fs : List Value} (he : w[q0]? = some (b, .inr (ci, fs))) {r9 : vw_C} (hc : cls5[ci]? = some r9) (hC : r9.1 = y.cls) (w1 : Cond.methodLink own index y ∈ kw) (w2 : Cond.instanceMethod y ∈ kw) (w3 : Cond.selects y.cls y y ∈ kw) (w5 : Cond.initialized y.cls ∈ kw) (w4 : Cond.code y bytes maxL ret ∈ kw) (hrm : rm.cells = 0 ∧ rm.slots = 0)
    (hd : y.cls ≠ "java/lang/invoke/MethodHandle" ∧ y.cls ≠ "java/lang/invoke/VarHandle" ∧ (parseMethodDescriptor y.desc).map (fun d => d.parameters.length) = some n) (hR : rm.frames + 1 ≤ R.frames ∧ 8 + (maxL + 11) + rm.locals ≤ R.locals)
    (hn : As.length = n) (hsize : ls.size = nL) (hst : st0 = As.reverse ++ .ref b :: rest) (hW : (rest.map fun v => v.category).sum ≤ 8) (hdg : decode cc pc = .ok (.invokevirtual index, 3)) (hcs : cells ≤ R.cells ∧ slots ≤ R.slots)
    (kk : W p l e R s m args below meth c H locs cells slots Q (F0 m (pc + 3) ls (.long v :: rest))) : W p l e R s m args below meth c H locs cells slots Q (F0 m pc ls st0) := by
  refine vp_callSl (W.runV (Ts := kw) (As := As) (C := y.cls) ⟨hx, hb, hml, hown, hk⟩ hM (cwV n hk (kw_good (fun w hw => ?_)) rfl hrm.1 hrm.2 ⟨rfl, hd⟩ hR) ⟨fun a U g mk q => ⟨q.1, q.2.1, va_K.moved (u := U) (U := U.calling g mk a) (Vm.Alike.refl U.vm) q.2.2⟩, by rw [← hC]; exact va_recv hK hP hc he, fun U hU hW => ⟨rfl, by rw [hU]; exact hP, va_K.moved hW.alike hK⟩⟩ rfl hn hsize hst (lv_room hW) hdg hcs) (fun z hz => ?_)
  · unfold wsV at hw
    rcases List.mem_append.mp hw with h | h
    · simp only [List.mem_cons, List.not_mem_nil, or_false] at h
      rcases h with rfl | rfl | rfl | rfl
      · exact w1
      · exact w2
      · exact w3
      · exact w5
    · exact kw_cons w4 h
  · subst hz
    exact kk
theorem cw_Vi {v : Int32} (hx : p.tables.exec = Jvm.exec) (hb : c.code = cc) (hml : c.maxLocals = nL) (hown : s.vm.findClass own = some m.cls) (hk : ∀ w ∈ kw, w.before args s = true)
    (hM : Met l y (Cond.code y bytes maxL ret :: kw) rm (va_Pc (.ref b :: As) (BW D kc w H.size)) (va_Qi (fun z (_ : Unit) => z = v) (EW D kc (va_A w H.size) w') (va_A w H.size)) mc ms (va_A w H.size)) (hK : va_K D cls5 (tys5 kc) s) (hP : va_P D cls5 w H) (hD : va_D A w) (hS : va_S A H0 H locs) (hA : ∀ q, H0.size ≤ q → A q)
    (q0 : Nat) {ci : Nat} {fs : List Value} (he : w[q0]? = some (b, .inr (ci, fs))) {r9 : vw_C} (hc : cls5[ci]? = some r9) (hC : r9.1 = y.cls) (w1 : Cond.methodLink own index y ∈ kw) (w2 : Cond.instanceMethod y ∈ kw) (w3 : Cond.selects y.cls y y ∈ kw) (w5 : Cond.initialized y.cls ∈ kw) (w4 : Cond.code y bytes maxL ret ∈ kw) (hrm : rm.cells = mc ∧ rm.slots = ms)
    (hd : y.cls ≠ "java/lang/invoke/MethodHandle" ∧ y.cls ≠ "java/lang/invoke/VarHandle" ∧ (parseMethodDescriptor y.desc).map (fun d => d.parameters.length) = some n) (hR : rm.frames + 1 ≤ R.frames ∧ 8 + (maxL + 11) + rm.locals ≤ R.locals)
    (hn : As.length = n) (hsize : ls.size = nL) (hst : st0 = As.reverse ++ .ref b :: rest) (hW : (rest.map fun v => v.category).sum ≤ 8) (hdg : decode cc pc = .ok (.invokevirtual index, 3)) (hcs : cells + mc ≤ R.cells ∧ slots + ms ≤ R.slots)
    (kk : ∀ (H1 : Heap) (locs1 : List Loc), va_P D cls5 w' H1 → va_D A w' → va_S A H0 H1 locs1 → W p l e R s m args below meth c H1 locs1 (cells + mc) (slots + ms) Q (F0 m (pc + 3) ls (.int v :: rest))) : W p l e R s m args below meth c H locs cells slots Q (F0 m pc ls st0) := by
  have hF := fr_all hD hS hA
  refine va_calli (va_runV (Ts := kw) (As := As) (C := y.cls) ⟨hx, hb, hml, hown, hk⟩ hM (cwV n hk (kw_good (fun w hw => ?_)) rfl hrm.1 hrm.2 ⟨rfl, hd⟩ hR) ⟨fun a U g mk q => ⟨q.1, q.2.1, q.2.2.1, va_K.moved (u := U) (U := U.calling g mk a) (Vm.Alike.refl U.vm) q.2.2.2.1, q.2.2.2.2⟩, by rw [← hC]; exact va_recv hK hP hc he, fun U hU hW => ⟨rfl, by rw [hU], by rw [hU]; exact hP, va_K.moved hW.alike hK, hD.weaken (fun _ _ _ _ => trivial)⟩⟩ rfl hn hsize hst (lv_room hW) hdg hcs) hS (fun q _ h => hF q h) hF (fun z u t H1 locs1 ht hvm hz hB hs1 hk1 hS1 => ?_)
  · unfold wsV at hw
    rcases List.mem_append.mp hw with h | h
    · simp only [List.mem_cons, List.not_mem_nil, or_false] at h
      rcases h with rfl | rfl | rfl | rfl
      · exact w1
      · exact w2
      · exact w3
      · exact w5
    · exact kw_cons w4 h
  · subst hz
    obtain ⟨hP1, hK1, hD1⟩ := hB
    rw [ht] at hP1
    exact kk H1 locs1 hP1 (hD1.weaken (fun _ q _ h => hF q.1 h)) hS1
theorem cw_Vl {v : Int64} (hx : p.tables.exec = Jvm.exec) (hb : c.code = cc) (hml : c.maxLocals = nL) (hown : s.vm.findClass own = some m.cls) (hk : ∀ w ∈ kw, w.before args s = true)
    (hM : Met l y (Cond.code y bytes maxL ret :: kw) rm (va_Pc (.ref b :: As) (BW D kc w H.size)) (va_Ql (fun z (_ : Unit) => z = v) (EW D kc (va_A w H.size) w') (va_A w H.size)) mc ms (va_A w H.size)) (hK : va_K D cls5 (tys5 kc) s) (hP : va_P D cls5 w H) (hD : va_D A w) (hS : va_S A H0 H locs) (hA : ∀ q, H0.size ≤ q → A q)
    (q0 : Nat) {ci : Nat} {fs : List Value} (he : w[q0]? = some (b, .inr (ci, fs))) {r9 : vw_C} (hc : cls5[ci]? = some r9) (hC : r9.1 = y.cls) (w1 : Cond.methodLink own index y ∈ kw) (w2 : Cond.instanceMethod y ∈ kw) (w3 : Cond.selects y.cls y y ∈ kw) (w5 : Cond.initialized y.cls ∈ kw) (w4 : Cond.code y bytes maxL ret ∈ kw) (hrm : rm.cells = mc ∧ rm.slots = ms)
    (hd : y.cls ≠ "java/lang/invoke/MethodHandle" ∧ y.cls ≠ "java/lang/invoke/VarHandle" ∧ (parseMethodDescriptor y.desc).map (fun d => d.parameters.length) = some n) (hR : rm.frames + 1 ≤ R.frames ∧ 8 + (maxL + 11) + rm.locals ≤ R.locals)
    (hn : As.length = n) (hsize : ls.size = nL) (hst : st0 = As.reverse ++ .ref b :: rest) (hW : (rest.map fun v => v.category).sum ≤ 8) (hdg : decode cc pc = .ok (.invokevirtual index, 3)) (hcs : cells + mc ≤ R.cells ∧ slots + ms ≤ R.slots)
    (kk : ∀ (H1 : Heap) (locs1 : List Loc), va_P D cls5 w' H1 → va_D A w' → va_S A H0 H1 locs1 → W p l e R s m args below meth c H1 locs1 (cells + mc) (slots + ms) Q (F0 m (pc + 3) ls (.long v :: rest))) : W p l e R s m args below meth c H locs cells slots Q (F0 m pc ls st0) := by
  have hF := fr_all hD hS hA
  refine va_calll (va_runV (Ts := kw) (As := As) (C := y.cls) ⟨hx, hb, hml, hown, hk⟩ hM (cwV n hk (kw_good (fun w hw => ?_)) rfl hrm.1 hrm.2 ⟨rfl, hd⟩ hR) ⟨fun a U g mk q => ⟨q.1, q.2.1, q.2.2.1, va_K.moved (u := U) (U := U.calling g mk a) (Vm.Alike.refl U.vm) q.2.2.2.1, q.2.2.2.2⟩, by rw [← hC]; exact va_recv hK hP hc he, fun U hU hW => ⟨rfl, by rw [hU], by rw [hU]; exact hP, va_K.moved hW.alike hK, hD.weaken (fun _ _ _ _ => trivial)⟩⟩ rfl hn hsize hst (lv_room hW) hdg hcs) hS (fun q _ h => hF q h) hF (fun z u t H1 locs1 ht hvm hz hB hs1 hk1 hS1 => ?_)
  · unfold wsV at hw
    rcases List.mem_append.mp hw with h | h
    · simp only [List.mem_cons, List.not_mem_nil, or_false] at h
      rcases h with rfl | rfl | rfl | rfl
      · exact w1
      · exact w2
      · exact w3
      · exact w5
    · exact kw_cons w4 h
  · subst hz
    obtain ⟨hP1, hK1, hD1⟩ := hB
    rw [ht] at hP1
    exact kk H1 locs1 hP1 (hD1.weaken (fun _ q _ h => hF q.1 h)) hS1
theorem cw_Vv (hx : p.tables.exec = Jvm.exec) (hb : c.code = cc) (hml : c.maxLocals = nL) (hown : s.vm.findClass own = some m.cls) (hk : ∀ w ∈ kw, w.before args s = true)
    (hM : Met l y (Cond.code y bytes maxL ret :: kw) rm (va_Pc (.ref b :: As) (BW D kc w H.size)) (va_Qv (fun (_ : Unit) => True) (EW D kc (va_A w H.size) w') (va_A w H.size)) mc ms (va_A w H.size)) (hK : va_K D cls5 (tys5 kc) s) (hP : va_P D cls5 w H) (hD : va_D A w) (hS : va_S A H0 H locs) (hA : ∀ q, H0.size ≤ q → A q)
    (q0 : Nat) {ci : Nat} {fs : List Value} (he : w[q0]? = some (b, .inr (ci, fs))) {r9 : vw_C} (hc : cls5[ci]? = some r9) (hC : r9.1 = y.cls) (w1 : Cond.methodLink own index y ∈ kw) (w2 : Cond.instanceMethod y ∈ kw) (w3 : Cond.selects y.cls y y ∈ kw) (w5 : Cond.initialized y.cls ∈ kw) (w4 : Cond.code y bytes maxL ret ∈ kw) (hrm : rm.cells = mc ∧ rm.slots = ms)
    (hd : y.cls ≠ "java/lang/invoke/MethodHandle" ∧ y.cls ≠ "java/lang/invoke/VarHandle" ∧ (parseMethodDescriptor y.desc).map (fun d => d.parameters.length) = some n) (hR : rm.frames + 1 ≤ R.frames ∧ 8 + (maxL + 11) + rm.locals ≤ R.locals)
    (hn : As.length = n) (hsize : ls.size = nL) (hst : st0 = As.reverse ++ .ref b :: rest) (hW : (rest.map fun v => v.category).sum ≤ 8) (hdg : decode cc pc = .ok (.invokevirtual index, 3)) (hcs : cells + mc ≤ R.cells ∧ slots + ms ≤ R.slots)
    (kk : ∀ (H1 : Heap) (locs1 : List Loc), va_P D cls5 w' H1 → va_D A w' → va_S A H0 H1 locs1 → W p l e R s m args below meth c H1 locs1 (cells + mc) (slots + ms) Q (F0 m (pc + 3) ls rest)) : W p l e R s m args below meth c H locs cells slots Q (F0 m pc ls st0) := by
  have hF := fr_all hD hS hA
  refine va_callv (va_runV (Ts := kw) (As := As) (C := y.cls) ⟨hx, hb, hml, hown, hk⟩ hM (cwV n hk (kw_good (fun w hw => ?_)) rfl hrm.1 hrm.2 ⟨rfl, hd⟩ hR) ⟨fun a U g mk q => ⟨q.1, q.2.1, q.2.2.1, va_K.moved (u := U) (U := U.calling g mk a) (Vm.Alike.refl U.vm) q.2.2.2.1, q.2.2.2.2⟩, by rw [← hC]; exact va_recv hK hP hc he, fun U hU hW => ⟨rfl, by rw [hU], by rw [hU]; exact hP, va_K.moved hW.alike hK, hD.weaken (fun _ _ _ _ => trivial)⟩⟩ rfl hn hsize hst (lv_room hW) hdg hcs) hS (fun q _ h => hF q h) hF (fun u t H1 locs1 ht hvm hz hB hs1 hk1 hS1 => ?_)
  · unfold wsV at hw
    rcases List.mem_append.mp hw with h | h
    · simp only [List.mem_cons, List.not_mem_nil, or_false] at h
      rcases h with rfl | rfl | rfl | rfl
      · exact w1
      · exact w2
      · exact w3
      · exact w5
    · exact kw_cons w4 h
  · obtain ⟨hP1, hK1, hD1⟩ := hB
    rw [ht] at hP1
    exact kk H1 locs1 hP1 (hD1.weaken (fun _ q _ h => hF q.1 h)) hS1
theorem cr_Si {v : Int32} (hx : p.tables.exec = Jvm.exec) (hb : c.code = cc) (hml : c.maxLocals = nL) (hown : s.vm.findClass own = some m.cls) (hk : ∀ w ∈ kw, w.before args s = true)
    (hM : Met l y (Cond.code y bytes maxL ret :: kw) rm (va_Pc As (BR D kc w)) (vp_Si (fun z => z = v)) 0 0 (fun _ => False)) (hK : va_K D cls5 (tys5 kc) s) (hP : va_P D cls5 w H)
    (w1 : Cond.methodLink own index y ∈ kw) (w2 : Cond.static y ∈ kw) (w3 : Cond.initialized y.cls ∈ kw) (w4 : Cond.code y bytes maxL ret ∈ kw) (hrm : rm.cells = 0 ∧ rm.slots = 0)
    (hd : y.cls ≠ "java/lang/invoke/MethodHandle" ∧ y.cls ≠ "java/lang/invoke/VarHandle" ∧ (parseMethodDescriptor y.desc).map (fun d => d.parameters.length) = some n) (hR : rm.frames + 1 ≤ R.frames ∧ 8 + (maxL + 11) + rm.locals ≤ R.locals)
    (hn : As.length = n) (hsize : ls.size = nL) (hst : st0 = As.reverse ++ rest) (hW : (rest.map fun v => v.category).sum ≤ 8) (hdg : decode cc pc = .ok (.invokestatic index, 3)) (hcs : cells ≤ R.cells ∧ slots ≤ R.slots)
    (kk : W p l e R s m args below meth c H locs cells slots Q (F0 m (pc + 3) ls (.int v :: rest))) : W p l e R s m args below meth c H locs cells slots Q (F0 m pc ls st0) := by
  refine vp_callSi (W.runS (Ts := kw) (As := As) ⟨hx, hb, hml, hown, hk⟩ hM (va_cwS n hk (kw_good (fun w hw => ?_)) rfl hrm.1 hrm.2 hd hR) ⟨fun a U g mk q => ⟨q.1, q.2.1, va_K.moved (u := U) (U := U.calling g mk a) (Vm.Alike.refl U.vm) q.2.2⟩, fun U hU hW => ⟨rfl, by rw [hU]; exact hP, va_K.moved hW.alike hK⟩⟩ rfl hn hsize hst (lv_room hW) hdg hcs) (fun z hz => ?_)
  · unfold va_wsS at hw
    rcases List.mem_append.mp hw with h | h
    · simp only [List.mem_cons, List.not_mem_nil, or_false] at h
      rcases h with rfl | rfl | rfl
      · exact w1
      · exact w2
      · exact w3
    · exact kw_cons w4 h
  · subst hz
    exact kk
theorem cr_Sl {v : Int64} (hx : p.tables.exec = Jvm.exec) (hb : c.code = cc) (hml : c.maxLocals = nL) (hown : s.vm.findClass own = some m.cls) (hk : ∀ w ∈ kw, w.before args s = true)
    (hM : Met l y (Cond.code y bytes maxL ret :: kw) rm (va_Pc As (BR D kc w)) (vp_Sl (fun z => z = v)) 0 0 (fun _ => False)) (hK : va_K D cls5 (tys5 kc) s) (hP : va_P D cls5 w H)
    (w1 : Cond.methodLink own index y ∈ kw) (w2 : Cond.static y ∈ kw) (w3 : Cond.initialized y.cls ∈ kw) (w4 : Cond.code y bytes maxL ret ∈ kw) (hrm : rm.cells = 0 ∧ rm.slots = 0)
    (hd : y.cls ≠ "java/lang/invoke/MethodHandle" ∧ y.cls ≠ "java/lang/invoke/VarHandle" ∧ (parseMethodDescriptor y.desc).map (fun d => d.parameters.length) = some n) (hR : rm.frames + 1 ≤ R.frames ∧ 8 + (maxL + 11) + rm.locals ≤ R.locals)
    (hn : As.length = n) (hsize : ls.size = nL) (hst : st0 = As.reverse ++ rest) (hW : (rest.map fun v => v.category).sum ≤ 8) (hdg : decode cc pc = .ok (.invokestatic index, 3)) (hcs : cells ≤ R.cells ∧ slots ≤ R.slots)
    (kk : W p l e R s m args below meth c H locs cells slots Q (F0 m (pc + 3) ls (.long v :: rest))) : W p l e R s m args below meth c H locs cells slots Q (F0 m pc ls st0) := by
  refine vp_callSl (W.runS (Ts := kw) (As := As) ⟨hx, hb, hml, hown, hk⟩ hM (va_cwS n hk (kw_good (fun w hw => ?_)) rfl hrm.1 hrm.2 hd hR) ⟨fun a U g mk q => ⟨q.1, q.2.1, va_K.moved (u := U) (U := U.calling g mk a) (Vm.Alike.refl U.vm) q.2.2⟩, fun U hU hW => ⟨rfl, by rw [hU]; exact hP, va_K.moved hW.alike hK⟩⟩ rfl hn hsize hst (lv_room hW) hdg hcs) (fun z hz => ?_)
  · unfold va_wsS at hw
    rcases List.mem_append.mp hw with h | h
    · simp only [List.mem_cons, List.not_mem_nil, or_false] at h
      rcases h with rfl | rfl | rfl
      · exact w1
      · exact w2
      · exact w3
    · exact kw_cons w4 h
  · subst hz
    exact kk
theorem cw_Si {v : Int32} (hx : p.tables.exec = Jvm.exec) (hb : c.code = cc) (hml : c.maxLocals = nL) (hown : s.vm.findClass own = some m.cls) (hk : ∀ w ∈ kw, w.before args s = true)
    (hM : Met l y (Cond.code y bytes maxL ret :: kw) rm (va_Pc As (BW D kc w H.size)) (va_Qi (fun z (_ : Unit) => z = v) (EW D kc (va_A w H.size) w') (va_A w H.size)) mc ms (va_A w H.size)) (hK : va_K D cls5 (tys5 kc) s) (hP : va_P D cls5 w H) (hD : va_D A w) (hS : va_S A H0 H locs) (hA : ∀ q, H0.size ≤ q → A q)
    (w1 : Cond.methodLink own index y ∈ kw) (w2 : Cond.static y ∈ kw) (w3 : Cond.initialized y.cls ∈ kw) (w4 : Cond.code y bytes maxL ret ∈ kw) (hrm : rm.cells = mc ∧ rm.slots = ms)
    (hd : y.cls ≠ "java/lang/invoke/MethodHandle" ∧ y.cls ≠ "java/lang/invoke/VarHandle" ∧ (parseMethodDescriptor y.desc).map (fun d => d.parameters.length) = some n) (hR : rm.frames + 1 ≤ R.frames ∧ 8 + (maxL + 11) + rm.locals ≤ R.locals)
    (hn : As.length = n) (hsize : ls.size = nL) (hst : st0 = As.reverse ++ rest) (hW : (rest.map fun v => v.category).sum ≤ 8) (hdg : decode cc pc = .ok (.invokestatic index, 3)) (hcs : cells + mc ≤ R.cells ∧ slots + ms ≤ R.slots)
    (kk : ∀ (H1 : Heap) (locs1 : List Loc), va_P D cls5 w' H1 → va_D A w' → va_S A H0 H1 locs1 → W p l e R s m args below meth c H1 locs1 (cells + mc) (slots + ms) Q (F0 m (pc + 3) ls (.int v :: rest))) : W p l e R s m args below meth c H locs cells slots Q (F0 m pc ls st0) := by
  have hF := fr_all hD hS hA
  refine va_calli (va_runS (Ts := kw) (As := As) ⟨hx, hb, hml, hown, hk⟩ hM (va_cwS n hk (kw_good (fun w hw => ?_)) rfl hrm.1 hrm.2 hd hR) ⟨fun a U g mk q => ⟨q.1, q.2.1, q.2.2.1, va_K.moved (u := U) (U := U.calling g mk a) (Vm.Alike.refl U.vm) q.2.2.2.1, q.2.2.2.2⟩, fun U hU hW => ⟨rfl, by rw [hU], by rw [hU]; exact hP, va_K.moved hW.alike hK, hD.weaken (fun _ _ _ _ => trivial)⟩⟩ rfl hn hsize hst (lv_room hW) hdg hcs) hS (fun q _ h => hF q h) hF (fun z u t H1 locs1 ht hvm hz hB hs1 hk1 hS1 => ?_)
  · unfold va_wsS at hw
    rcases List.mem_append.mp hw with h | h
    · simp only [List.mem_cons, List.not_mem_nil, or_false] at h
      rcases h with rfl | rfl | rfl
      · exact w1
      · exact w2
      · exact w3
    · exact kw_cons w4 h
  · subst hz
    obtain ⟨hP1, hK1, hD1⟩ := hB
    rw [ht] at hP1
    exact kk H1 locs1 hP1 (hD1.weaken (fun _ q _ h => hF q.1 h)) hS1
theorem cw_Sl {v : Int64} (hx : p.tables.exec = Jvm.exec) (hb : c.code = cc) (hml : c.maxLocals = nL) (hown : s.vm.findClass own = some m.cls) (hk : ∀ w ∈ kw, w.before args s = true)
    (hM : Met l y (Cond.code y bytes maxL ret :: kw) rm (va_Pc As (BW D kc w H.size)) (va_Ql (fun z (_ : Unit) => z = v) (EW D kc (va_A w H.size) w') (va_A w H.size)) mc ms (va_A w H.size)) (hK : va_K D cls5 (tys5 kc) s) (hP : va_P D cls5 w H) (hD : va_D A w) (hS : va_S A H0 H locs) (hA : ∀ q, H0.size ≤ q → A q)
    (w1 : Cond.methodLink own index y ∈ kw) (w2 : Cond.static y ∈ kw) (w3 : Cond.initialized y.cls ∈ kw) (w4 : Cond.code y bytes maxL ret ∈ kw) (hrm : rm.cells = mc ∧ rm.slots = ms)
    (hd : y.cls ≠ "java/lang/invoke/MethodHandle" ∧ y.cls ≠ "java/lang/invoke/VarHandle" ∧ (parseMethodDescriptor y.desc).map (fun d => d.parameters.length) = some n) (hR : rm.frames + 1 ≤ R.frames ∧ 8 + (maxL + 11) + rm.locals ≤ R.locals)
    (hn : As.length = n) (hsize : ls.size = nL) (hst : st0 = As.reverse ++ rest) (hW : (rest.map fun v => v.category).sum ≤ 8) (hdg : decode cc pc = .ok (.invokestatic index, 3)) (hcs : cells + mc ≤ R.cells ∧ slots + ms ≤ R.slots)
    (kk : ∀ (H1 : Heap) (locs1 : List Loc), va_P D cls5 w' H1 → va_D A w' → va_S A H0 H1 locs1 → W p l e R s m args below meth c H1 locs1 (cells + mc) (slots + ms) Q (F0 m (pc + 3) ls (.long v :: rest))) : W p l e R s m args below meth c H locs cells slots Q (F0 m pc ls st0) := by
  have hF := fr_all hD hS hA
  refine va_calll (va_runS (Ts := kw) (As := As) ⟨hx, hb, hml, hown, hk⟩ hM (va_cwS n hk (kw_good (fun w hw => ?_)) rfl hrm.1 hrm.2 hd hR) ⟨fun a U g mk q => ⟨q.1, q.2.1, q.2.2.1, va_K.moved (u := U) (U := U.calling g mk a) (Vm.Alike.refl U.vm) q.2.2.2.1, q.2.2.2.2⟩, fun U hU hW => ⟨rfl, by rw [hU], by rw [hU]; exact hP, va_K.moved hW.alike hK, hD.weaken (fun _ _ _ _ => trivial)⟩⟩ rfl hn hsize hst (lv_room hW) hdg hcs) hS (fun q _ h => hF q h) hF (fun z u t H1 locs1 ht hvm hz hB hs1 hk1 hS1 => ?_)
  · unfold va_wsS at hw
    rcases List.mem_append.mp hw with h | h
    · simp only [List.mem_cons, List.not_mem_nil, or_false] at h
      rcases h with rfl | rfl | rfl
      · exact w1
      · exact w2
      · exact w3
    · exact kw_cons w4 h
  · subst hz
    obtain ⟨hP1, hK1, hD1⟩ := hB
    rw [ht] at hP1
    exact kk H1 locs1 hP1 (hD1.weaken (fun _ q _ h => hF q.1 h)) hS1
theorem cw_Sv (hx : p.tables.exec = Jvm.exec) (hb : c.code = cc) (hml : c.maxLocals = nL) (hown : s.vm.findClass own = some m.cls) (hk : ∀ w ∈ kw, w.before args s = true)
    (hM : Met l y (Cond.code y bytes maxL ret :: kw) rm (va_Pc As (BW D kc w H.size)) (va_Qv (fun (_ : Unit) => True) (EW D kc (va_A w H.size) w') (va_A w H.size)) mc ms (va_A w H.size)) (hK : va_K D cls5 (tys5 kc) s) (hP : va_P D cls5 w H) (hD : va_D A w) (hS : va_S A H0 H locs) (hA : ∀ q, H0.size ≤ q → A q)
    (w1 : Cond.methodLink own index y ∈ kw) (w2 : Cond.static y ∈ kw) (w3 : Cond.initialized y.cls ∈ kw) (w4 : Cond.code y bytes maxL ret ∈ kw) (hrm : rm.cells = mc ∧ rm.slots = ms)
    (hd : y.cls ≠ "java/lang/invoke/MethodHandle" ∧ y.cls ≠ "java/lang/invoke/VarHandle" ∧ (parseMethodDescriptor y.desc).map (fun d => d.parameters.length) = some n) (hR : rm.frames + 1 ≤ R.frames ∧ 8 + (maxL + 11) + rm.locals ≤ R.locals)
    (hn : As.length = n) (hsize : ls.size = nL) (hst : st0 = As.reverse ++ rest) (hW : (rest.map fun v => v.category).sum ≤ 8) (hdg : decode cc pc = .ok (.invokestatic index, 3)) (hcs : cells + mc ≤ R.cells ∧ slots + ms ≤ R.slots)
    (kk : ∀ (H1 : Heap) (locs1 : List Loc), va_P D cls5 w' H1 → va_D A w' → va_S A H0 H1 locs1 → W p l e R s m args below meth c H1 locs1 (cells + mc) (slots + ms) Q (F0 m (pc + 3) ls rest)) : W p l e R s m args below meth c H locs cells slots Q (F0 m pc ls st0) := by
  have hF := fr_all hD hS hA
  refine va_callv (va_runS (Ts := kw) (As := As) ⟨hx, hb, hml, hown, hk⟩ hM (va_cwS n hk (kw_good (fun w hw => ?_)) rfl hrm.1 hrm.2 hd hR) ⟨fun a U g mk q => ⟨q.1, q.2.1, q.2.2.1, va_K.moved (u := U) (U := U.calling g mk a) (Vm.Alike.refl U.vm) q.2.2.2.1, q.2.2.2.2⟩, fun U hU hW => ⟨rfl, by rw [hU], by rw [hU]; exact hP, va_K.moved hW.alike hK, hD.weaken (fun _ _ _ _ => trivial)⟩⟩ rfl hn hsize hst (lv_room hW) hdg hcs) hS (fun q _ h => hF q h) hF (fun u t H1 locs1 ht hvm hz hB hs1 hk1 hS1 => ?_)
  · unfold va_wsS at hw
    rcases List.mem_append.mp hw with h | h
    · simp only [List.mem_cons, List.not_mem_nil, or_false] at h
      rcases h with rfl | rfl | rfl
      · exact w1
      · exact w2
      · exact w3
    · exact kw_cons w4 h
  · obtain ⟨hP1, hK1, hD1⟩ := hB
    rw [ht] at hP1
    exact kk H1 locs1 hP1 (hD1.weaken (fun _ q _ h => hF q.1 h)) hS1
theorem cw_Iv (hx : p.tables.exec = Jvm.exec) (hb : c.code = cc) (hml : c.maxLocals = nL) (hown : s.vm.findClass own = some m.cls) (hk : ∀ w ∈ kw, w.before args s = true)
    (hM : Met l y (Cond.code y bytes maxL none :: kw) rm (va_Pc (.ref b :: As) (BW D kc w H.size)) (va_Qv (fun (_ : Unit) => True) (EW D kc (va_A w H.size) w') (va_A w H.size)) mc ms (va_A w H.size)) (hK : va_K D cls5 (tys5 kc) s) (hP : va_P D cls5 w H) (hD : va_D A w) (hS : va_S A H0 H locs) (hA : ∀ q, H0.size ≤ q → A q)
    (w1 : Cond.methodLink own index y ∈ kw) (w2 : Cond.instanceMethod y ∈ kw) (w3 : Cond.initialized y.cls ∈ kw) (w4 : Cond.code y bytes maxL none ∈ kw) (hy1 : y.name = "<init>") (hrm : rm.cells = mc ∧ rm.slots = ms)
    (hd : y.cls ≠ "java/lang/invoke/MethodHandle" ∧ y.cls ≠ "java/lang/invoke/VarHandle" ∧ (parseMethodDescriptor y.desc).map (fun d => d.parameters.length) = some n) (hR : rm.frames + 1 ≤ R.frames ∧ 8 + (maxL + 11) + rm.locals ≤ R.locals)
    (hn : As.length = n) (hsize : ls.size = nL) (hst : st0 = As.reverse ++ .ref b :: rest) (hW : (rest.map fun v => v.category).sum ≤ 8) (hdg : decode cc pc = .ok (.invokespecial index, 3)) (hcs : cells + mc ≤ R.cells ∧ slots + ms ≤ R.slots)
    (kk : ∀ (H1 : Heap) (locs1 : List Loc), va_P D cls5 w' H1 → va_D A w' → va_S A H0 H1 locs1 → W p l e R s m args below meth c H1 locs1 (cells + mc) (slots + ms) Q (F0 m (pc + 3) ls rest)) : W p l e R s m args below meth c H locs cells slots Q (F0 m pc ls st0) := by
  have hF := fr_all hD hS hA
  refine va_callv (va_runI (Ts := kw) (As := As) ⟨hx, hb, hml, hown, hk⟩ hM (cwI n hk (kw_good (fun w hw => kw_cons w4 hw)) rfl hrm.1 hrm.2 (hk _ w3) (hk _ w1) (hk _ w2) hy1 hd hR) ⟨fun a U g mk q => ⟨q.1, q.2.1, q.2.2.1, va_K.moved (u := U) (U := U.calling g mk a) (Vm.Alike.refl U.vm) q.2.2.2.1, q.2.2.2.2⟩, fun U hU hW => ⟨rfl, by rw [hU], by rw [hU]; exact hP, va_K.moved hW.alike hK, hD.weaken (fun _ _ _ _ => trivial)⟩⟩ rfl hn hsize hst (lv_room hW) hdg hcs) hS (fun q _ h => hF q h) hF (fun u t H1 locs1 ht hvm hz hB hs1 hk1 hS1 => ?_)
  obtain ⟨hP1, hK1, hD1⟩ := hB
  rw [ht] at hP1
  exact kk H1 locs1 hP1 (hD1.weaken (fun _ q _ h => hF q.1 h)) hS1
end CWC
end
section
/-! more rows: arrays of arrays, switches -/
abbrev MI : Type := Nat → Nat → Int32
abbrev MJ : Type := Nat → Nat → Int64
theorem si_ne {x y : Int32} {k : Int} (h : ¬ x = y) (hy : y.toInt = k) : x.toInt ≠ k := fun e => h (Int32.toInt_inj.mp (by rw [e, hy]))
section AGA
variable {p : Program} {l : Launch} {e : Env} {R : Room} {s : State} {m : MethodId} {args : Array Value} {below : List Frame} {meth : Method} {c : Code} {H : Heap} {locs : List Loc} {cells slots : Nat} {Q : State → Prop}
variable {cc : ByteArray} {pc : Nat} {ls : Array Slot} {rest : List Value} {D : va_G} {cl : List vw_C} {a : Nat} {tys : List (ClassId × FieldType)} {ws : va_W}
theorem ag_ald (hexec : p.tables.exec = Jvm.exec) (hb : c.code = cc) (hK : va_K D cl tys s) (hP : va_P D cl ws H) (q0 t0 : Nat) {cA : ClassId} {ty : FieldType} {n : Nat} {f : Nat → Option Nat} (ha : ws[q0]? = some (a, .inl (cA, n, .inr (.inr (.inr (.inr f)))))) (ht : tys[t0]? = some (cA, .array ty)) {i : Int32} {b : Nat} (hin : vp_in i n) (hf : f i.toNatClampNeg = some b) (hdg : decode cc pc = .ok (.aaload, 1))
    (kk : W p l e R s m args below meth c H locs cells slots Q (F0 m (pc + 1) ls (.ref b :: rest))) : W p l e R s m args below meth c H locs cells slots Q (F0 m pc ls (.int i :: .ref a :: rest)) := by
  have hlt : i.toNatClampNeg < n := Nat.not_le.mp fun q => hin (Or.inr q)
  exact W.aald (v := .ref b) (ty := .array ty) hexec hb (hP q0 _ ha) ((hK.2 t0 _ ht).1 n (fun j => va_rf (f j))) rfl (fun q => by cases q) (by show ¬ (i < 0 ∨ (arrV _ _ _).slots.size ≤ _); rw [arrV_size]; exact hin) (by show (arrV _ _ _).slots[_]? = _; rw [arrV_read _ _ hlt, hf]; rfl) rfl rfl hdg kk
theorem ap_ald (hexec : p.tables.exec = Jvm.exec) (hb : c.code = cc) (hK : va_K D cl tys s) (hP : va_P D cl ws H) (q0 t0 : Nat) {cA : ClassId} {C : String} {n : Nat} {f : Nat → Option Nat} (ha : ws[q0]? = some (a, .inl (cA, n, .inr (.inr (.inr (.inr f)))))) (ht : tys[t0]? = some (cA, .object C)) {i : Int32} {b : Nat} (hin : vp_in i n) (hf : f i.toNatClampNeg = some b) (hdg : decode cc pc = .ok (.aaload, 1))
    (kk : W p l e R s m args below meth c H locs cells slots Q (F0 m (pc + 1) ls (.ref b :: rest))) : W p l e R s m args below meth c H locs cells slots Q (F0 m pc ls (.int i :: .ref a :: rest)) := by
  refine va_aldq hexec hb hK hP q0 t0 ha ht hin hdg ?_
  rw [hf]
  exact kk
end AGA
theorem vi_lt {x : Int32} {n : Nat} (h : vp_in x n) : x.toNatClampNeg < n := Nat.not_le.mp fun q => h (Or.inr q)
end
section
/-! rows for what is made: new arrays of known kinds, worlds side by side, constructors -/
theorem ra_eq {U : State} {c1 c2 : ClassId} {ty : FieldType} (h1 : va_RA U c1 ty) (h2 : va_RA U c2 ty) : c1 = c2 := by
  cases ty with
  | object C =>
    obtain ⟨_, _, -, -, -, e1⟩ := h1
    obtain ⟨_, _, -, -, -, e2⟩ := h2
    exact Option.some.inj (e1.symm.trans e2)
  | _ => exact Option.some.inj (Eq.trans (Eq.symm h1) h2)
theorem va_P.right {D : va_G} {cl : List vw_C} {a b : va_W} {H : Heap} (h : va_P D cl (a ++ b) H) : va_P D cl b H := fun k q hk => h (a.length + k) q (by rw [List.getElem?_append_right (by omega), Nat.add_sub_cancel_left]; exact hk)
theorem ap_r {a b : va_W} {k : Nat} {q : Nat × va_E} (h : b[k]? = some q) : (a ++ b)[a.length + k]? = some q := by rw [List.getElem?_append_right (by omega), Nat.add_sub_cancel_left]; exact h
theorem ap_l {a b : va_W} {k : Nat} {q : Nat × va_E} (h : a[k]? = some q) : (a ++ b)[k]? = some q := by rw [List.getElem?_append_left (List.getElem?_eq_some_iff.mp h).1]; exact h
theorem va_D.right {A : Nat → Prop} {a b : va_W} (h : va_D A (a ++ b)) : va_D A b := ⟨fun i j x y hi hj e => by
  have := h.1 _ _ x y (ap_r hi) (ap_r hj) e
  omega, fun k q hk => h.2 _ q (ap_r hk)⟩
theorem va_D.turn {A : Nat → Prop} {a b : va_W} (h : va_D A (a ++ b)) : va_D A (b ++ a) := va_D.app h.right h.left (fun i j x y hi hj e => by
  have h1 := h.1 _ _ x y (ap_r hi) (ap_l hj) e
  have h2 := (List.getElem?_eq_some_iff.mp hj).1
  omega)
theorem va_P.turn {D : va_G} {cl : List vw_C} {a b : va_W} {H : Heap} (h : va_P D cl (a ++ b) H) : va_P D cl (b ++ a) H := va_P.app h.right h.left
/-- a callee's world behind another: what it leaves -/
theorem jn {A : Nat → Prop} {D : va_G} {cl : List vw_C} {z w w' : va_W} {H H1 : Heap} (hP : va_P D cl (z ++ w) H) (hD : va_D A (z ++ w)) (hk : ∀ q : Nat, q < H.size → ¬ va_A w H.size q → H1[q]? = H[q]?) (hF : ∀ q, va_A w H.size q → A q) (hP1 : va_P D cl w' H1) (hD1 : va_D (va_A w H.size) w') : va_P D cl (z ++ w') H1 ∧ va_D A (z ++ w') := by
  have apart : ∀ (k : Nat) (q : Nat × va_E), z[k]? = some q → q.1 < H.size ∧ ¬ va_A w H.size q.1 := by
    intro k q hq
    have hlt := (hP k q (ap_l hq)).lt
    refine ⟨hlt, fun h => ?_⟩
    rcases h with ⟨j, e, h⟩ | h
    · have h1 := hD.1 k _ q (q.1, e) (ap_l hq) (ap_r h) rfl
      have h2 := (List.getElem?_eq_some_iff.mp hq).1
      omega
    · omega
  exact ⟨va_P.app (fun k q hq => (hP k q (ap_l hq)).kept (hk q.1 (apart k q hq).1 (apart k q hq).2)) hP1, va_D.app hD.left (hD1.weaken (fun k q _ h => hF q.1 h)) (fun i j x y hx hy e => (apart i x hx).2 (by rw [e]; exact hD1.2 j y hy))⟩
theorem fr_r {A : Nat → Prop} {z w : va_W} {H0 H : Heap} {locs : List Loc} (hD : va_D A (z ++ w)) (hS : va_S A H0 H locs) (hA : ∀ q, H0.size ≤ q → A q) : ∀ q, va_A w H.size q → A q := fr_all hD.right hS hA
def AOA (U : State) : Prop := (Cond.arrayOver (.array .int)).before #[] U = true
section MKR
variable {p : Program} {l : Launch} {e : Env} {R : Room} {s : State} {m : MethodId} {args : Array Value} {below : List Frame} {meth : Method} {c : Code} {H : Heap} {locs : List Loc} {cells slots : Nat} {Q : State → Prop}
variable {cc bytes : ByteArray} {pc nL maxL index n mc ms : Nat} {ls : Array Slot} {As rest st0 : List Value} {own : String} {y : MethodName} {rm : Room} {D : va_G} {kc : Nat → ClassId} {w w' z : va_W} {A : Nat → Prop} {H0 : Heap} {b : Nat}
theorem nw_a (hexec : p.tables.exec = Jvm.exec) (hb : c.code = cc) {atype : ArrayType} (harr : (Cond.arrayClass (newarray.typeOf atype)).before args s = true) {ty : FieldType} (hty : newarray.typeOf atype = ty) (t0 : Nat) (ht : (tys5 kc)[t0]? = some (kc t0, ty)) (hK : va_K D cls5 (tys5 kc) s) (hP : va_P D cls5 w H) (hD : va_D A w) (hS : va_S A H0 H locs) (hA : ∀ q, H0.size ≤ q → A q)
    {n : Int32} {N' : Nat} {a0 : vp_A} (ha : ∀ cA : ClassId, vp_cell cA a0 = arrV cA N' (fun _ => defaultValue ty)) (hn : ¬ n < 0) (hN : n.toNatClampNeg = N') (hbytes : N' * componentBytes ty ≤ 536870912) (hcells : cells + 1 ≤ R.cells) (hslots : slots + N' ≤ R.slots) (hdg : decode cc pc = .ok (.newarray atype, 2))
    (kk : ∀ (q : Nat) (H1 : Heap), va_P D cls5 (w ++ [(q, .inl (kc t0, a0))]) H1 → va_D A (w ++ [(q, .inl (kc t0, a0))]) → va_S A H0 H1 locs → W p l e R s m args below meth c H1 locs (cells + 1) (slots + N') Q (F0 m (pc + 2) ls (.ref q :: rest))) : W p l e R s m args below meth c H locs cells slots Q (F0 m pc ls (.int n :: rest)) := by
  refine va_newa hexec hb harr hty hK hP hD hS hA ha hn hN hbytes hcells hslots hdg (fun q cA H1 hK2 hP hD hS => ?_)
  have e : cA = kc t0 := ra_eq (hK2.2 5 (cA, ty) rfl).2 (hK.2 t0 _ ht).2
  subst e
  exact kk q H1 hP hD hS
theorem nw_q (hexec : p.tables.exec = Jvm.exec) (hb : c.code = cc) {own : String} {index : Nat} (hown : s.vm.findClass own = some m.cls) (hclink : (Cond.classLink own index "OpenDeal$Player").before args s = true) (hover : va_AO "OpenDeal$Player" s) (hK : va_K D cls5 (tys5 kc) s) (hP : va_P D cls5 w H) (hD : va_D A w) (hS : va_S A H0 H locs) (hA : ∀ q, H0.size ≤ q → A q)
    {n : Int32} {N' : Nat} (hn : ¬ n < 0) (hN : n.toNatClampNeg = N') (hbytes : N' * 4 ≤ 536870912) (hcells : cells + 1 ≤ R.cells) (hslots : slots + N' ≤ R.slots) (hdg : decode cc pc = .ok (.anewarray index, 3))
    (kk : ∀ (q : Nat) (H1 : Heap), va_P D cls5 (w ++ [(q, .inl (kc 3, N', .inr (.inr (.inr (.inr (fun _ => none))))))]) H1 → va_D A (w ++ [(q, .inl (kc 3, N', .inr (.inr (.inr (.inr (fun _ => none))))))]) → va_S A H0 H1 locs → W p l e R s m args below meth c H1 locs (cells + 1) (slots + N') Q (F0 m (pc + 3) ls (.ref q :: rest))) : W p l e R s m args below meth c H locs cells slots Q (F0 m pc ls (.int n :: rest)) := by
  refine va_newq hexec hb hown hclink hover hK hP hD hS hA hn hN hbytes hcells hslots hdg (fun q cA H1 hK2 hP hD hS => ?_)
  have e : cA = kc 3 := ra_eq (hK2.2 5 (cA, .object "OpenDeal$Player") rfl).2 (hK.2 3 _ rfl).2
  subst e
  exact kk q H1 hP hD hS
/-- a constructor of a nest mate that leaves the world as it is -/
theorem cwn_Iv {host : String} (hx : p.tables.exec = Jvm.exec) (hb : c.code = cc) (hml : c.maxLocals = nL) (hown : s.vm.findClass own = some m.cls) (hk : ∀ w ∈ kw, w.before args s = true)
    (hM : Met l y (Cond.code y bytes maxL none :: kw) rm (va_Pc (.ref b :: As) (BW D kc w H.size)) (va_Qv (fun (_ : Unit) => True) (EW D kc (va_A w H.size) w') (va_A w H.size)) mc ms (va_A w H.size)) (hK : va_K D cls5 (tys5 kc) s) (hP : va_P D cls5 w H) (hD : va_D A w) (hS : va_S A H0 H locs) (hA : ∀ q, H0.size ≤ q → A q)
    (w1 : va_Nw (.methodLinkNest own index y host) s) (w2 : Cond.instanceMethod y ∈ kw) (w3 : Cond.initialized y.cls ∈ kw) (w4 : Cond.code y bytes maxL none ∈ kw) (hy1 : y.name = "<init>") (hrm : rm.cells = mc ∧ rm.slots = ms)
    (hd : y.cls ≠ "java/lang/invoke/MethodHandle" ∧ y.cls ≠ "java/lang/invoke/VarHandle" ∧ (parseMethodDescriptor y.desc).map (fun d => d.parameters.length) = some n) (hR : rm.frames + 1 ≤ R.frames ∧ 8 + (maxL + 11) + rm.locals ≤ R.locals)
    (hn : As.length = n) (hsize : ls.size = nL) (hst : st0 = As.reverse ++ .ref b :: rest) (hW : (rest.map fun v => v.category).sum ≤ 8) (hdg : decode cc pc = .ok (.invokespecial index, 3)) (hcs : cells + mc ≤ R.cells ∧ slots + ms ≤ R.slots)
    (kk : ∀ (H1 : Heap) (locs1 : List Loc), va_P D cls5 w' H1 → va_D A w' → va_S A H0 H1 locs1 → W p l e R s m args below meth c H1 locs1 (cells + mc) (slots + ms) Q (F0 m (pc + 3) ls rest)) : W p l e R s m args below meth c H locs cells slots Q (F0 m pc ls st0) := by
  have hF := fr_all hD hS hA
  refine va_callv (va_runIN (Ts := kw) (As := As) ⟨hx, hb, hml, hown, hk⟩ hM ⟨va_cnB n hk (kw_good (fun w hw => kw_cons w4 hw)) rfl hrm.1 hrm.2 w1 (hk _ w3) hd hR, hy1, hk _ w2⟩ ⟨fun a U g mk q => ⟨q.1, q.2.1, q.2.2.1, va_K.moved (u := U) (U := U.calling g mk a) (Vm.Alike.refl U.vm) q.2.2.2.1, q.2.2.2.2⟩, fun U hU hW => ⟨rfl, by rw [hU], by rw [hU]; exact hP, va_K.moved hW.alike hK, hD.weaken (fun _ _ _ _ => trivial)⟩⟩ rfl hn hsize hst (lv_room hW) hdg hcs) hS (fun q _ h => hF q h) hF (fun u t H1 locs1 ht hvm hz hB hs1 hk1 hS1 => ?_)
  obtain ⟨hP1, hK1, hD1⟩ := hB
  rw [ht] at hP1
  exact kk H1 locs1 hP1 (hD1.weaken (fun _ q _ h => hF q.1 h)) hS1
end MKR
end
section
/-! new T[n][m] (begun from the given names' text) -/
def va_AOA (ty : FieldType) (U : State) : Prop := (Cond.arrayOver (.array ty)).before #[] U = true
theorem va_AOA.use {ty : FieldType} {A : Array Value} {U : State} (h : va_AOA ty U) : (Cond.arrayOver (.array ty)).before A U = true := h
/-- f, but v at every address of l -/
def vr_up {α : Type} (f : Nat → α) (l : List Nat) (v : α) : Nat → α := fun a => if a ∈ l then v else f a
theorem vr_up_in {α : Type} {f : Nat → α} {l : List Nat} {v : α} {a : Nat} (h : a ∈ l) : vr_up f l v a = v := if_pos h
theorem vr_up_ne {α : Type} {f : Nat → α} {l : List Nat} {v : α} {a : Nat} (h : a ∉ l) : vr_up f l v a = f a := if_neg h
theorem vr_rows {L l : List Nat} {f : Nat → va_E} {e : va_E} (h : ∀ a, a ∈ l → a ∉ L) : va_pl L f ++ l.map (fun a => (a, e)) = va_pl (L ++ l) (vr_up f l e) := by
  unfold va_pl
  rw [List.map_append]
  congr 1
  · apply List.map_congr_left
    intro a ha
    rw [vr_up_ne (fun q => h a q ha)]
  · apply List.map_congr_left
    intro a ha
    rw [vr_up_in ha]
theorem vr_lay {X rows : va_W} {x : Nat × va_E} {pl : va_W} {D : va_G} {cl : List vw_C} {H : Heap} (hP : va_P D cl (((X ++ pl) ++ [x]) ++ rows) H) : va_P D cl ((X ++ [x]) ++ (pl ++ rows)) H := by
  rw [List.append_assoc (X ++ pl)] at hP
  have h := va_P.swap hP
  rw [← List.append_assoc X] at h
  have h2 := va_P.swap h
  rw [List.append_assoc (X ++ [x])] at h2
  exact h2
theorem vr_layD {X rows : va_W} {x : Nat × va_E} {pl : va_W} {A : Nat → Prop} (hD : va_D A (((X ++ pl) ++ [x]) ++ rows)) : va_D A ((X ++ [x]) ++ (pl ++ rows)) := by
  rw [List.append_assoc (X ++ pl)] at hD
  have h := va_D.swap hD
  rw [← List.append_assoc X] at h
  have h2 := va_D.swap h
  rw [List.append_assoc (X ++ [x])] at h2
  exact h2
theorem vr_outer (c : ClassId) (N h0 : Nat) : ∀ i : Nat, Jvm.Free.Multi.outerC c N h0 i = arrV c N (fun j => va_rf (if j < i then some (h0 + 1 + j) else none))
  | 0 => by
    show ({ cls := c, slots := Array.replicate N .null, vm := .none } : Cell) = _
    rw [arrV_new]
    refine congrArg (arrV c N) (funext fun j => ?_)
    simp [va_rf]
  | i + 1 => by
    show (Jvm.Free.Multi.outerC c N h0 i).setSlot i (.ref (h0 + 1 + i)) = _
    rw [vr_outer c N h0 i, arrV_store]
    refine congrArg (arrV c N) (funext fun j => ?_)
    by_cases e : j = i
    · subst e
      simp [updV, va_rf]
    · by_cases h : j < i
      · simp [updV, e, h, Nat.lt_succ_of_lt h]
      · simp [updV, e, h, show ¬ j < i + 1 by omega]
section VGM
variable {p : Program} {l : Launch} {e : Env} {R : Room} {s : State} {m : MethodId} {args : Array Value} {below : List Frame} {meth : Method} {c : Code} {H : Heap} {locs : List Loc} {cells slots : Nat} {Q : State → Prop}
variable {cc : ByteArray} {pc : Nat} {ls : Array Slot} {rest : List Value} {D : va_G} {cl : List vw_C} {A : Nat → Prop} {a : Nat} {tys : List (ClassId × FieldType)} {ws : va_W} {H0 : Heap}
theorem va_mna {X : va_W} {L : List Nat} {f : Nat → va_E} {cc : ByteArray} (hexec : p.tables.exec = Jvm.exec) (hb : c.code = cc) {own : String} {index : Nat} {ty : FieldType} {cy : ClassId} (hown : s.vm.findClass own = some m.cls) (hclink : (Cond.classLink own index ("[" ++ (FieldType.array ty).toString)).before args s = true) (hover : va_AOA ty s) (harr : (Cond.arrayClass ty).before args s = true) (hcy : s.vm.findClass (FieldType.array ty).toString = some cy)
    (hK : va_K D cl tys s) (hP : va_P D cl (X ++ va_pl L f) H) (hD : va_D A (X ++ va_pl L f)) (hS : va_S A H0 H locs) (hA : ∀ q, H0.size ≤ q → A q) {n k : Int32} {N' K' : Nat} {z : vp_A} (hn : ¬ n < 0) (hk : ¬ k < 0) (hN : n.toNatClampNeg = N') (hM : k.toNatClampNeg = K')
    (hb1 : N' * 4 ≤ 536870912) (hb2 : K' * componentBytes ty ≤ 536870912) (hb3 : K' ≤ 536870912) (hdf : fits ty (defaultValue ty) = true) (hdd : (defaultValue ty).isDefault = true) (hcells : cells + (1 + N') ≤ R.cells) (hslots : slots + (N' + N' * K') ≤ R.slots) (hz : ∀ c : ClassId, Jvm.Free.Multi.innerC c K' (defaultValue ty) = vp_cell c z) (hdg : decode cc pc = .ok (.multianewarray index 2, 4))
    (kk : ∀ (q : Nat) (r : Nat → Nat) (cA : ClassId) (H1 : Heap), (∀ i j : Nat, i < N' → j < N' → r i = r j → i = j) → (∀ i : Nat, i < N' → r i ∉ L) → va_K D cl (tys ++ [(cA, .array ty)]) s →
      va_P D cl ((X ++ [(q, .inl (cA, N', .inr (.inr (.inr (.inr (fun i => if i < N' then some (r i) else none))))))]) ++ va_pl (L ++ (List.range N').map r) (vr_up f ((List.range N').map r) (.inl (cy, z)))) H1 → va_D A ((X ++ [(q, .inl (cA, N', .inr (.inr (.inr (.inr (fun i => if i < N' then some (r i) else none))))))]) ++ va_pl (L ++ (List.range N').map r) (vr_up f ((List.range N').map r) (.inl (cy, z)))) → va_S A H0 H1 locs →
      W p l e R s m args below meth c H1 locs (cells + 1 + N') (slots + N' + N' * K') Q (F0 m (pc + 4) ls (.ref q :: rest))) : W p l e R s m args below meth c H locs cells slots Q (F0 m pc ls (.int k :: .int n :: rest)) := by
  subst hN
  subst hM
  intro T hT Xs
  obtain ⟨vm₁, cA, comp, -, fA, fC, hO, -, X', step⟩ := Xs.multianewarray2F hexec hown hclink (va_AOA.use hover) harr (g := F0 m pc ls (.int k :: .int n :: rest)) rfl (by rw [hb]; exact hdg) rfl hn hk hb1 hb2 hb3 hdf hdd hcells hslots
  have ec : some cy = some comp := hcy.symm.trans fC
  cases ec
  generalize hF : Jvm.Free.Multi.fill (T.setVm vm₁) cA cy n.toNatClampNeg k.toNatClampNeg (defaultValue ty) n.toNatClampNeg = F at X' step
  have hTh : (T.setVm vm₁).heap = H := hT
  obtain ⟨f1, f2, -, -⟩ := Jvm.Free.Multi.fill_facts (T.setVm vm₁) cA cy n.toNatClampNeg k.toNatClampNeg (defaultValue ty) n.toNatClampNeg
  rw [hF, hTh] at f1 f2
  have hold : ∀ x : Nat, x < H.size → F.heap[x]? = H[x]? := fun x hx => by
    have := Jvm.Free.Multi.fill_old (T.setVm vm₁) cA cy n.toNatClampNeg k.toNatClampNeg (defaultValue ty) (a := x) (by rw [hTh]; exact hx) n.toNatClampNeg
    rw [hF, hTh] at this
    exact this
  have hrow : ∀ j : Nat, j < n.toNatClampNeg → F.heap[H.size + 1 + j]? = some (vp_cell cy z) := fun j hj => by
    have := Jvm.Free.Multi.fill_inner (T.setVm vm₁) cA cy n.toNatClampNeg k.toNatClampNeg (defaultValue ty) n.toNatClampNeg j hj
    rw [hF, hTh, hz] at this
    exact this
  have hout : Jvm.Free.Multi.outerC cA n.toNatClampNeg H.size n.toNatClampNeg = vp_cell cA (n.toNatClampNeg, .inr (.inr (.inr (.inr (fun i => if i < n.toNatClampNeg then some (H.size + 1 + i) else none))))) := by
    rw [vp_cell_q]
    exact vr_outer cA n.toNatClampNeg H.size n.toNatClampNeg
  rw [hout] at f2
  have hlt : ∀ a, a ∈ L → a < H.size := fun a ha => by
    obtain ⟨k9, hk9⟩ := va_pl_get (X := X) (f := f) ha
    exact (hP k9 _ hk9).lt
  have hnl : ∀ i : Nat, i < n.toNatClampNeg → H.size + 1 + i ∉ L := fun i _ h => by
    have := hlt _ h
    omega
  have hnm : ∀ a, a ∈ (List.range n.toNatClampNeg).map (fun i => H.size + 1 + i) → a ∉ L := fun a ha h => by
    obtain ⟨i, -, rfl⟩ := List.mem_map.mp ha
    have := hlt _ h
    omega
  have hP0 : va_P D cl (X ++ va_pl L f) F.heap := hP.kept (fun k9 x hx => hold x.1 ((hP k9 x hx).lt))
  have hP1 : va_P D cl ((X ++ va_pl L f) ++ [(H.size, .inl (cA, n.toNatClampNeg, .inr (.inr (.inr (.inr (fun i => if i < n.toNatClampNeg then some (H.size + 1 + i) else none))))))]) F.heap := hP0.app (fun k9 x hx => by
    have h0 : k9 < 1 := (List.getElem?_eq_some_iff.mp hx).1
    rw [show k9 = 0 by omega] at hx
    cases hx
    exact f2)
  have hP2 : va_P D cl (((X ++ va_pl L f) ++ [(H.size, .inl (cA, n.toNatClampNeg, .inr (.inr (.inr (.inr (fun i => if i < n.toNatClampNeg then some (H.size + 1 + i) else none))))))]) ++ ((List.range n.toNatClampNeg).map (fun i => H.size + 1 + i)).map (fun a => (a, .inl (cy, z)))) F.heap := hP1.app (fun k9 x hx => by
    obtain ⟨a, ha, rfl⟩ := List.mem_map.mp (List.mem_of_getElem? hx)
    obtain ⟨i, hi, rfl⟩ := List.mem_map.mp ha
    exact hrow i (List.mem_range.mp hi))
  have hD2 : va_D A (((X ++ va_pl L f) ++ [(H.size, .inl (cA, n.toNatClampNeg, .inr (.inr (.inr (.inr (fun i => if i < n.toNatClampNeg then some (H.size + 1 + i) else none))))))]) ++ ((List.range n.toNatClampNeg).map (fun i => H.size + 1 + i)).map (fun a => (a, .inl (cy, z)))) := by
    have hD1 := hD.push (e := .inl (cA, n.toNatClampNeg, .inr (.inr (.inr (.inr (fun i => if i < n.toNatClampNeg then some (H.size + 1 + i) else none)))))) hP rfl (hA _ hS.1)
    generalize hW1 : (X ++ va_pl L f) ++ [(H.size, .inl (cA, n.toNatClampNeg, .inr (.inr (.inr (.inr (fun i => if i < n.toNatClampNeg then some (H.size + 1 + i) else none))))))] = W1 at hD1 hP1 ⊢
    have hle : ∀ (k9 : Nat) (x : Nat × va_E), W1[k9]? = some x → x.1 ≤ H.size := fun k9 x hx => by
      rw [← hW1] at hx
      by_cases hl : k9 < (X ++ va_pl L f).length
      · rw [List.getElem?_append_left hl] at hx
        exact Nat.le_of_lt ((hP k9 x hx).lt)
      · rw [List.getElem?_append_right (by omega)] at hx
        have h0 : k9 - (X ++ va_pl L f).length < 1 := (List.getElem?_eq_some_iff.mp hx).1
        rw [show k9 - (X ++ va_pl L f).length = 0 by omega] at hx
        cases hx
        exact Nat.le_refl _
    have hr : ∀ (k9 : Nat) (x : Nat × va_E), (((List.range n.toNatClampNeg).map (fun i => H.size + 1 + i)).map (fun a => ((a, .inl (cy, z)) : Nat × va_E)))[k9]? = some x → x.1 = H.size + 1 + k9 := fun k9 x hx => by
      rw [List.getElem?_map, List.getElem?_map] at hx
      by_cases h9 : k9 < n.toNatClampNeg
      · rw [List.getElem?_range h9] at hx
        cases hx
        rfl
      · have hn0 : (List.range n.toNatClampNeg)[k9]? = none := List.getElem?_eq_none (by rw [List.length_range]; omega)
        rw [hn0] at hx
        cases hx
    refine ⟨fun i j x y hi hj hxy => ?_, fun k9 x hx => ?_⟩
    · by_cases h1 : i < W1.length <;> by_cases h2 : j < W1.length
      · rw [List.getElem?_append_left h1] at hi
        rw [List.getElem?_append_left h2] at hj
        exact hD1.1 i j x y hi hj hxy
      · rw [List.getElem?_append_left h1] at hi
        rw [List.getElem?_append_right (by omega)] at hj
        have := hle _ _ hi
        have := hr _ _ hj
        omega
      · rw [List.getElem?_append_right (by omega)] at hi
        rw [List.getElem?_append_left h2] at hj
        have := hle _ _ hj
        have := hr _ _ hi
        omega
      · rw [List.getElem?_append_right (by omega)] at hi hj
        have := hr _ _ hi
        have := hr _ _ hj
        omega
    · by_cases h1 : k9 < W1.length
      · rw [List.getElem?_append_left h1] at hx
        exact hD1.2 k9 x hx
      · rw [List.getElem?_append_right (by omega)] at hx
        have := hr _ _ hx
        exact hA _ (by have := hS.1; omega)
  have hAr : ArrOfT s cA (.array ty) := fun N9 z9 => by
    obtain ⟨-, k9, hk9, cm9, hkk9⟩ := (hO 0 0 0).1
    exact ⟨(fun q hq => by cases hq), k9, hk9, cm9, hkk9⟩
  have hK2 : va_K D cl (tys ++ [(cA, .array ty)]) s := ⟨hK.1, fun k9 x hx => by
    by_cases hl : k9 < tys.length
    · rw [List.getElem?_append_left hl] at hx
      exact hK.2 k9 x hx
    · rw [List.getElem?_append_right (by omega)] at hx
      have h0 : k9 - tys.length < 1 := (List.getElem?_eq_some_iff.mp hx).1
      rw [show k9 - tys.length = 0 by omega] at hx
      cases hx
      exact ⟨hAr, fA⟩⟩
  obtain ⟨t, a1, b1⟩ := kk H.size (fun i => H.size + 1 + i) cA F.heap (fun i j _ _ h => by have h9 : H.size + 1 + i = H.size + 1 + j := h; omega) hnl hK2 (by rw [← vr_rows hnm]; exact vr_lay hP2) (by rw [← vr_rows hnm]; exact vr_layD hD2) ⟨by rw [f1]; have := hS.1; omega, fun x h1 h2 => (hold x (Nat.lt_of_lt_of_le h1 hS.1)).trans (hS.2.1 x h1 h2), hS.2.2⟩ F rfl X'
  refine ⟨t, step t ?_, b1⟩
  have e : T.heap.size = H.size := by rw [hT]
  rw [e]
  exact a1
end VGM
end
section
/-! methods that throw: the contract, and its end -/
def thX (X : String) (s t : State) (o : Outcome) : Prop := ∃ (x : Addr) (cell : Cell), o = .threw x ∧ t.heap[x]? = some cell ∧ cell.vm = .none ∧ s.vm.findClass X = some cell.cls ∧ s.vm.assignable cell.cls cell.cls = true
def MQT (below : List Frame) (X : String) (s : State) (mc ms : Nat) : State → Prop := fun t => ∃ o, t.status = .running ∧ Ended t below o ∧ thX X s t o ∧ Jvm.Free.FrameEndT s o t [] mc ms
def MetT (l : Launch) (y : MethodName) (ws : List Cond) (rm : Room) (Pc : Array Value → State → Prop) (X : String) (mc ms : Nat) : Prop := MetFree l y (headSpec ws rm) Pc (fun _ _ _ _ _ => True) (fun _ st o t => thX X st t o ∧ Jvm.Free.FrameEndT st o t [] mc ms)
theorem MetT.ofW {l : Launch} {y : MethodName} {ws ws' : List Cond} {rm : Room} {Pc : Array Value → State → Prop} {X : String} {mc ms : Nat} {cc : ByteArray} {maxL : Nat} {ret : Option FieldType}
    (hy : plainName y.cls = true) (hw : ws = Cond.code y cc maxL ret :: ws')
    (body : ∀ p e s m args below meth c s₁, BodyLoose p l y (headSpec ws rm) cc maxL ret e s m args below meth c s₁ → c.maxLocals = maxL → Pc args s →
      W p l e (headSpec ws rm).room s m args below meth c s.heap [] 0 0 (MQT below X s mc ms) (entryFrame m args maxL)) : MetT l y ws rm Pc X mc ms := by
  refine MetFree.of_bodyS (code := cc) (maxLocals := maxL) (ret := ret) hy ?_ ?_
  · intro args s m h hn
    obtain ⟨meth, c, h1, h2, h3, h4, h5, h6, -, -⟩ := Cond.code_spec hn (atoms_spec (ws := ws) h _ (by rw [hw]; exact List.mem_cons_self))
    exact ⟨meth, c, h1, h2, h3, h4, h5, h6⟩
  · intro p e s m args below meth c s₁ B hml hP _
    have hh0 : s₁.heap = s.heap := by rw [B.state]; rfl
    obtain ⟨t, a1, o, b1, b2, b3⟩ := body p e s m args below meth c s₁ B hml hP s₁ hh0 (Stand.of_body B)
    exact ⟨t, o, a1, b1, b2, b3⟩
abbrev exN : List String := ["java/lang/RuntimeException", "java/lang/Exception"]
/-- the words that a throw of X with a text wants, whatever the arguments -/
def TW (ic : Nat) (X : String) (U : State) : Prop := ∀ (A : Array Value), ∀ a ∈ Jvm.Bundle.ownAtoms "OpenDeal" ic X exN, a.before A U = true
section THE
variable {p : Program} {l : Launch} {e : Env} {R : Room} {s : State} {m : MethodId} {args : Array Value} {below : List Frame} {meth : Method} {c : Code} {H : Heap} {cells slots : Nat}
variable {cc : ByteArray} {pc nL ic ik : Nat} {ls : Array Slot} {X tx : String}
/-- new X; dup; ldc; the constructor; athrow -/
theorem thr_end (hx : p.tables.exec = Jvm.exec) (hb : c.code = cc) (hml : c.maxLocals = nL) (hfl : l.flags = pinnedFlags ++ [noTraceFlag]) (hlocks : meth.locks = false) (hown : s.vm.findClass "OpenDeal" = some m.cls) (hno : c.exceptionTable.isEmpty = true)
    (hcls : Jvm.Bundle.fit X = true) (hT : TW ic X s) {q : Nat} (hR9 : vk_R "OpenDeal" ik tx q s) {ix : Nat} (hclink : (Cond.classLink "OpenDeal" ix X).before args s = true) (hins : (Cond.instantiable X 6).before args s = true) (hini : (Cond.initialized X).before args s = true)
    (hsize : ls.size = nL) (d0 : decode cc pc = .ok (.new ix, 3)) (d3 : decode cc (pc + 3) = .ok (.dup, 1)) (d4 : decode cc (pc + 4) = .ok (.ldc ik, 2)) (d6 : decode cc (pc + 6) = .ok (.invokespecial ic, 3)) (d9 : decode cc (pc + 9) = .ok (.athrow, 1))
    (hHs : s.heap.size ≤ H.size) (hc1 : cells + 1 ≤ R.cells) (hs1 : slots + 6 ≤ R.slots) (hRf : 5 < R.frames) (hRl : 83 ≤ R.locals) : W p l e R s m args below meth c H [] cells slots (MQT below X s (cells + 1) (slots + 6)) (F0 m pc ls []) := by
  obtain ⟨cX, kX0, hfX, -⟩ := Cond.instantiable_spec hins
  refine W.newcK (h := H.size) hx hb hown hclink hins hini rfl d0 hc1 hs1 hfX rfl (fun H' kX hkX hcell hsz hold => ?_)
  refine W.eq (g2 := F0 m (pc + 3) ls [.ref H.size]) rfl ?_
  refine lv_dup hx hb d3 rfl ?_
  refine va_ldcS hx hb hown hR9 d4 ?_
  intro T hTT Xs
  have htr := Launch.traces_off hfl Xs.admits
  obtain ⟨U, hst, hrun, hend, hW, hsame, ce, hce, K⟩ := Xs.ctorThrowS (names := exN) hx htr hown hcls (by decide +kernel) (hT args) (fun x hx => by cases hx) (a := H.size) hfX hkX (by rw [hTT]; exact hcell) hHs (msg := .ref q) rfl (g := F0 m (pc + 3 + 1 + 2) ls [.ref q, .ref H.size, .ref H.size]) rfl (by rw [hml]; exact hsize) rfl rfl (rest := []) rfl (by rw [hb]; exact d6) (by rw [hb]; exact d9) (fun x hx => by
    have h0 : c.exceptionTable.toList = [] := by simpa using hno
    rw [h0] at hx
    cases hx) (by simpa using hRf) (by
    show 2 * 0 + _ + _ ≤ _
    simp [Value.category]
    omega) hlocks
  exact ⟨U, hst, .threw H.size, hrun, hend, ⟨H.size, ce, rfl, hce, K.vm, K.cls, K.self⟩, ⟨⟨_, rfl⟩, hW, hsame⟩⟩
variable {locs : List Loc} {Q : State → Prop} {y : MethodName} {bytes : ByteArray} {maxL n index : Nat} {ret : Option FieldType} {rm : Room} {B : State → Prop} {As rest st0 : List Value} {own : String} {b : Nat}
theorem sbn_eq {s s' : State} {k n : Nat} (h : s.sameButNew s' [] k n) {q : Nat} (hq : q < s.heap.size) : s'.heap[q]? = s.heap[q]? := by
  obtain ⟨c1, h1, h2, h3, h4⟩ := h.2.2.2.2.2 q s.heap[q] (Array.getElem?_eq_getElem hq)
  rw [h1, Array.getElem?_eq_getElem hq]
  have e : c1.slots = (s.heap[q]).slots := Array.ext_getElem? fun i => h4 i (by intro h; cases h)
  rw [h2, e]
def PoT (X : String) : Pt → Array Value → Addr → Pt → Prop := fun A _ x B => ∃ cell : Cell, B.U.heap[x]? = some cell ∧ cell.vm = .none ∧ A.U.vm.findClass X = some cell.cls ∧ A.U.vm.assignable cell.cls cell.cls = true ∧ B.locs = A.locs ∧ B.cells = A.cells + 1 ∧ B.slots = A.slots + 6 ∧ A.U.heap.size ≤ B.U.heap.size ∧ ∀ q : Nat, q < A.U.heap.size → B.U.heap[q]? = A.U.heap[q]?
/-- a call that throws, into the handler -/
theorem thr_call (hx : p.tables.exec = Jvm.exec) (hb : c.code = cc) (hml : c.maxLocals = nL) (hown : s.vm.findClass own = some m.cls) (hk : ∀ w ∈ kw, w.before args s = true)
    (hM : MetT l y (Cond.code y bytes maxL ret :: kw) rm (va_Pc (.ref b :: As) B) X 1 6) (hB : ∀ U : State, U.heap = H → s.WarmedH U.vm → B U) (hbl : ∀ (U : State) (g : JFrame) (mk : MethodId) (a : Array Value), B U → B (U.calling g mk a))
    (hrecv : ∃ cell : Cell, H[b]? = some cell ∧ cell.vm.isStatics = false ∧ s.vm.findClass y.cls = some cell.cls)
    (w1 : Cond.methodLink own index y ∈ kw) (w2 : Cond.instanceMethod y ∈ kw) (w3 : Cond.selects y.cls y y ∈ kw) (w5 : Cond.initialized y.cls ∈ kw) (w4 : Cond.code y bytes maxL ret ∈ kw) (hrm : rm.cells = 1 ∧ rm.slots = 6)
    (hd : y.cls ≠ "java/lang/invoke/MethodHandle" ∧ y.cls ≠ "java/lang/invoke/VarHandle" ∧ (parseMethodDescriptor y.desc).map (fun d => d.parameters.length) = some n) (hR : rm.frames + 1 ≤ R.frames ∧ 8 + (maxL + 11) + rm.locals ≤ R.locals)
    (hn : As.length = n) (hsize : ls.size = nL) (hst : st0 = As.reverse ++ .ref b :: rest) (hW : (rest.map fun v => v.category).sum ≤ 8) (hdg : decode cc pc = .ok (.invokevirtual index, 3)) (hcs : cells + 1 ≤ R.cells ∧ slots + 6 ≤ R.slots)
    {st en hp ct : Nat} (hsplit : c.exceptionTable.toList.map (fun h => (h.startPc, h.endPc, h.handlerPc, h.catchType)) = [(st, en, hp, ct)]) (h1 : st ≤ pc) (h2 : pc < en) (h0 : ct ≠ 0) (hlink : Cond.classLink own ct X ∈ kw)
    (kk : ∀ (x : Nat) (H1 : Heap), H.size ≤ H1.size → (∀ q : Nat, q < H.size → H1[q]? = H[q]?) → W p l e R s m args below meth c H1 locs (cells + 1) (slots + 6) Q (F0 m hp ls [.ref x])) : W p l e R s m args below meth c H locs cells slots Q (F0 m pc ls st0) := by
  intro T hT Xs
  have hBk : Jvm.Free.BackT l R p e below s args y 3 8 (PreOf R 1 6 (va_Pc (.ref b :: As) B)) (PoT X) := by
    refine Jvm.Free.BackT.of_free (S := headSpec (Cond.code y bytes maxL ret :: kw) rm) (bytes := bytes) (maxL := maxL) (ret := ret) (E := fun a first o t L k n => L = [] ∧ k = 1 ∧ n = 6) hM hR.1 hR.2 ?_ ?_ (fun _ _ _ _ _ _ _ _ _ => trivial) ?_ ?_
    · intro m meth c A a Y hp
      have hw : ∀ w ∈ kw, w.before a A.U = true := fun w hw => word_at Y.warmed (good_of_word (List.mem_filter.mp hw).2) (hk w hw)
      exact ⟨atoms_intro fun w h => hw w (kw_cons w4 h), hw _ w4, hw _ w5, by rw [show (headSpec (Cond.code y bytes maxL ret :: kw) rm).room.cells = 1 from hrm.1]; exact hp.1, by rw [show (headSpec (Cond.code y bytes maxL ret :: kw) rm).room.slots = 6 from hrm.2]; exact hp.2.1⟩
    · intro m meth c A a g mk Y hp
      exact ⟨hp.2.2.1, hbl _ _ _ _ hp.2.2.2⟩
    · intro a st o t hq
      exact ⟨[], 1, 6, hq.2, rfl, rfl, rfl⟩
    · intro m meth c A a g mk v t L k n Y hp hq hF hE
      obtain ⟨rfl, rfl, rfl⟩ := hE
      obtain ⟨⟨x, cell, e1, e2, e3, e4, e5⟩, hF2⟩ := hq
      cases e1
      refine ⟨cell, e2, e3, e4, e5, List.append_nil _, rfl, rfl, hF2.2.2.2.1, fun q hq => ?_⟩
      exact sbn_eq hF2.2.2 hq
  obtain ⟨cellB, hcB, hoB, hclB⟩ := hrecv
  have hsig : ∀ sig, parseMethodDescriptor y.desc = some sig → As.length = sig.parameters.length := fun sig h => by
    have h9 := hd.2.2
    rw [h] at h9
    rw [hn]
    exact (Option.some.inj h9).symm
  obtain ⟨mk, methM, hnamed, hmethM, hstM, habM⟩ := Cond.instanceMethod_spec (hk _ w2)
  obtain ⟨methM', cM, hmethM', -, -, -, -, -, -, hsigM⟩ := Cond.code_spec hnamed (hk _ w4)
  cases hmethM.symm.trans hmethM'
  obtain ⟨c2, r2, m2, q1, q2, q3, q4, kP, hkP, hkPi⟩ := Cond.selects_spec (hk _ w3)
  cases hclB.symm.trans q1
  cases (State.methodFound?_of_named hnamed ⟨hd.1, hd.2.1⟩).symm.trans q2
  cases hnamed.symm.trans q3
  have hselP : selectMethod e.platform s.vm cellB.cls mk = .method mk := by rw [Launch.admits_selectMethod Xs.admits]; exact q4
  subst hst
  obtain ⟨vm₁, X₁, hstep₁⟩ := Xs.invokevirtual hx hown (hk _ w1) hnamed hmethM hstM hkP hkPi ⟨hd.1, hd.2.1⟩ (a := b) (cell := cellB) (by rw [hT]; exact hcB)
    (fun z h => by rw [h] at hoB; cases hoB) hselP hmethM habM hkP hkPi (g := F0 m pc ls (As.reverse ++ .ref b :: rest)) rfl (argsL := As) (rest := rest) (hsig _ hsigM) rfl (by rw [hb]; exact hdg)
  obtain ⟨v, Bp, X', hpost, hsteps⟩ := hBk m meth c ⟨T.setVm vm₁, locs, cells, slots⟩ (F0 m pc ls rest) (.invokevirtual index) mk (.ref b :: As).toArray X₁ rfl (by rw [hml]; exact hsize) (by rw [hb]; exact hdg) (lv_room hW) (X₁.named hnamed) ⟨hcs.1, hcs.2, rfl, hB _ hT X₁.warmed⟩
  obtain ⟨U', l2, c9, s9⟩ := Bp
  obtain ⟨cell, g1, g2, g3, g4, g5, g6, g7, g8, g9⟩ := hpost
  dsimp only [Pt.U, Pt.locs, Pt.cells, Pt.slots] at X' g1 g2 g3 g4 g5 g6 g7 g8 g9 hsteps
  subst g5; subst g6; subst g7
  have hal := X₁.warmed.alike
  have f1 : s.vm.findClass X = some cell.cls := by rw [← hal.findClass]; exact g3
  have f2 : s.vm.assignable cell.cls cell.cls = true := by rw [← hal.assignable]; exact g4
  cases htab : c.exceptionTable.toList with
  | nil => rw [htab] at hsplit; cases hsplit
  | cons x r =>
    rw [htab] at hsplit
    have hr : r = [] := by
      cases r with
      | nil => rfl
      | cons y9 r9 => simp at hsplit
    subst hr
    simp only [List.map_cons, List.map_nil, List.cons.injEq, Prod.mk.injEq, and_true] at hsplit
    obtain ⟨e1, e2, e3, e4⟩ := hsplit
    obtain ⟨vm', X2, hcatch⟩ := X'.caughtLink v (g := F0 m pc ls rest) rfl hown [] x [] htab (fun _ h => by cases h) (by simp [covers, F0, e1, e2, h1, h2]) (by rw [e4]; exact h0) (by rw [e4]; exact hk _ hlink) f1 g1 (by rw [g2]; rfl) f2
    have hTs : (T.setVm vm₁).heap = H := hT
    obtain ⟨t2, a1, b1⟩ := kk v U'.heap (by rw [← hTs]; exact g8) (fun q hq => by rw [← hTs]; exact g9 q (by rw [hTs]; exact hq)) (U'.setVm vm') rfl X2
    refine ⟨t2, hstep₁ _ (fun acts => ?_), b1⟩
    rw [doInvoke_state]
    refine hsteps.trans ?_
    rw [X'.pushThrowing_eq]
    rw [e3] at hcatch
    exact hcatch t2 a1
end THE
end
