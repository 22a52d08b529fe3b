section
/-! numbers: primes, Fermat, powers modulo a number (own rows; nothing of the machine) -/
/-- a prime -/
def np_pr (n : Nat) : Prop := 1 < n ∧ ∀ d, d ∣ n → d = 1 ∨ d = n
theorem np_cop {r a : Nat} (h : np_pr r) (ha : ¬ r ∣ a) : Nat.Coprime r a := by
  rcases h.2 (Nat.gcd r a) (Nat.gcd_dvd_left r a) with h1 | h1
  · exact h1
  · exact absurd (h1 ▸ Nat.gcd_dvd_right r a) ha
theorem np_euclid {r a b : Nat} (h : np_pr r) (hd : r ∣ a * b) : r ∣ a ∨ r ∣ b := by
  by_cases ha : r ∣ a
  · exact Or.inl ha
  · exact Or.inr ((np_cop h ha).dvd_of_dvd_mul_left hd)
theorem np_euclidP {r a : Nat} (h : np_pr r) : ∀ k : Nat, r ∣ a ^ k → r ∣ a
  | 0, hd => by
    have h1 := Nat.le_of_dvd (by decide) (by simpa using hd : r ∣ 1)
    have := h.1
    omega
  | k + 1, hd => by
    rw [Nat.pow_succ] at hd
    rcases np_euclid h hd with h1 | h1
    · exact np_euclidP h k h1
    · exact h1
theorem np_factor : ∀ n : Nat, 1 < n → ∃ r, np_pr r ∧ r ∣ n := by
  intro n
  induction n using Nat.strongRecOn with
  | _ n ih =>
    intro h
    by_cases hp : np_pr n
    · exact ⟨n, hp, Nat.dvd_refl n⟩
    · have hc : ∃ d, d ∣ n ∧ d ≠ 1 ∧ d ≠ n := by
        apply Classical.byContradiction
        intro hc
        apply hp
        refine ⟨h, fun d hd => ?_⟩
        by_cases h1 : d = 1
        · exact Or.inl h1
        · right
          apply Classical.byContradiction
          intro h2
          exact hc ⟨d, hd, h1, h2⟩
      obtain ⟨d, hd, h1, h2⟩ := hc
      have hdn : d ≤ n := Nat.le_of_dvd (by omega) hd
      have hd0 : d ≠ 0 := by
        intro e
        subst e
        have := Nat.eq_zero_of_zero_dvd hd
        omega
      obtain ⟨r, hr, hrd⟩ := ih d (by omega) (by omega)
      exact ⟨r, hr, Nat.dvd_trans hrd hd⟩
/-- Pascal's numbers -/
def np_c : Nat → Nat → Nat
  | _, 0 => 1
  | 0, _ + 1 => 0
  | n + 1, k + 1 => np_c n k + np_c n (k + 1)
theorem np_c0 (n : Nat) : np_c n 0 = 1 := by cases n <;> rfl
theorem np_cS (n k : Nat) : np_c (n + 1) (k + 1) = np_c n k + np_c n (k + 1) := rfl
theorem np_cbig : ∀ n k, n < k → np_c n k = 0
  | _, 0, h => by omega
  | 0, _ + 1, _ => rfl
  | n + 1, k + 1, h => by rw [np_cS, np_cbig n k (by omega), np_cbig n (k + 1) (by omega)]
theorem np_cself : ∀ n, np_c n n = 1
  | 0 => rfl
  | n + 1 => by rw [np_cS, np_cself n, np_cbig n (n + 1) (by omega)]
theorem np_cmul : ∀ n k, (k + 1) * np_c (n + 1) (k + 1) = (n + 1) * np_c n k
  | 0, 0 => rfl
  | 0, k + 1 => by
    rw [np_cS, np_cbig 0 (k + 1) (by omega), np_cbig 0 (k + 1 + 1) (by omega)]
    simp
  | n + 1, 0 => by
    have h := np_cmul n 0
    rw [np_c0] at h
    rw [np_cS, np_c0]
    omega
  | n + 1, k + 1 => by
    have h1 := np_cmul n (k + 1)
    have h2 := np_cmul n k
    have h3 := np_cS n k
    have h4 := np_cS (n + 1) (k + 1)
    rw [h4]
    grind
def np_s (n x : Nat) : Nat → Nat
  | 0 => 0
  | m + 1 => np_s n x m + np_c n m * x ^ m
theorem np_sS (n x m : Nat) : np_s n x (m + 1) = np_s n x m + np_c n m * x ^ m := rfl
theorem np_sstep (n x : Nat) : ∀ m, np_s (n + 1) x (m + 1) = np_s n x (m + 1) + x * np_s n x m
  | 0 => by
    rw [np_sS, np_sS, np_c0, np_c0]
    show 0 + 1 * x ^ 0 = 0 + 1 * x ^ 0 + x * 0
    omega
  | m + 1 => by
    have h := np_sstep n x m
    have h1 := np_sS (n + 1) x (m + 1)
    have h2 := np_sS n x (m + 1)
    have h3 := np_sS n x m
    have h4 := np_cS n m
    have h5 : x ^ (m + 1) = x ^ m * x := Nat.pow_succ ..
    rw [h1, h, h2, h4, h3, h5]
    grind
theorem np_binom (x : Nat) : ∀ n, np_s n x (n + 1) = (x + 1) ^ n
  | 0 => by simp [np_s, np_c]
  | n + 1 => by
    have h := np_sstep n x (n + 1)
    have h1 := np_sS n x (n + 1)
    have h2 := np_cbig n (n + 1) (by omega)
    have h3 := np_binom x n
    rw [h, h1, h2, h3, Nat.pow_succ]
    grind
theorem np_cdvd {r k : Nat} (h : np_pr r) (h0 : 0 < k) (hk : k < r) : r ∣ np_c r k := by
  obtain ⟨r', rfl⟩ : ∃ r', r = r' + 1 := ⟨r - 1, by omega⟩
  obtain ⟨k', rfl⟩ : ∃ k', k = k' + 1 := ⟨k - 1, by omega⟩
  have h1 := np_cmul r' k'
  have h2 : (r' + 1) ∣ (k' + 1) * np_c (r' + 1) (k' + 1) := by rw [h1]; exact Nat.dvd_mul_right _ _
  rcases np_euclid h h2 with h3 | h3
  · have := Nat.le_of_dvd (by omega) h3
    omega
  · exact h3
theorem np_sdvd {r : Nat} (h : np_pr r) (x : Nat) : ∀ m, m < r → ∃ t, np_s r x (m + 1) = 1 + r * t
  | 0, _ => ⟨0, by simp [np_s, np_c0]⟩
  | m + 1, hm => by
    obtain ⟨t, ht⟩ := np_sdvd h x m (by omega)
    obtain ⟨u, hu⟩ := np_cdvd h (k := m + 1) (by omega) hm
    refine ⟨t + u * x ^ (m + 1), ?_⟩
    rw [np_sS, ht, hu]
    grind
theorem np_frob {r : Nat} (h : np_pr r) (x : Nat) : ∃ t, (x + 1) ^ r = x ^ r + 1 + r * t := by
  have h1 := h.1
  obtain ⟨t, ht⟩ := np_sdvd h x (r - 1) (by omega)
  have e : r - 1 + 1 = r := by omega
  rw [e] at ht
  refine ⟨t, ?_⟩
  rw [← np_binom x r, np_sS, ht, np_cself]
  omega
theorem np_fermat0 {r : Nat} (h : np_pr r) : ∀ x, x ^ r % r = x % r
  | 0 => by
    have := h.1
    rw [Nat.zero_pow (by omega)]
  | x + 1 => by
    obtain ⟨t, ht⟩ := np_frob h x
    rw [ht, Nat.add_mul_mod_self_left, Nat.add_mod, np_fermat0 h x, ← Nat.add_mod]
theorem np_fermat {r x : Nat} (h : np_pr r) (hx : ¬ r ∣ x) : x ^ (r - 1) % r = 1 := by
  have h1 := h.1
  have hf := np_fermat0 h x
  have e : x ^ r = x * x ^ (r - 1) := by
    have : r = (r - 1) + 1 := by omega
    conv => lhs; rw [this]
    rw [Nat.pow_succ, Nat.mul_comm]
  have hp : 0 < x := by
    rcases Nat.eq_zero_or_pos x with e | e
    · subst e; exact absurd (Nat.dvd_zero r) hx
    · exact e
  have hpp : 0 < x ^ (r - 1) := Nat.pow_pos hp
  have hd : r ∣ x * (x ^ (r - 1) - 1) := by
    rw [Nat.mul_sub, Nat.mul_one, ← e]
    exact Nat.dvd_of_mod_eq_zero (Nat.sub_mod_eq_zero_of_mod_eq hf)
  rcases np_euclid h hd with h2 | h2
  · exact absurd h2 hx
  · obtain ⟨t, ht⟩ := h2
    have e2 : x ^ (r - 1) = 1 + r * t := by omega
    rw [e2, Nat.add_mul_mod_self_left, Nat.mod_eq_of_lt h1]
/-- powers: what is 1 at two exponents is 1 at their greatest common divisor -/
theorem np_powgcd {a r : Nat} (hr : 1 < r) : ∀ m n : Nat, a ^ m % r = 1 → a ^ n % r = 1 → a ^ (Nat.gcd m n) % r = 1 := by
  intro m n
  induction m, n using Nat.gcd.induction with
  | H0 n =>
    intro _ h
    rw [Nat.gcd_zero_left]
    exact h
  | H1 m n hm ih =>
    intro h1 h2
    rw [Nat.gcd_rec]
    refine ih ?_ h1
    have e : n = m * (n / m) + n % m := (Nat.div_add_mod n m).symm
    have h3 : a ^ n % r = a ^ (n % m) % r := by
      conv => lhs; rw [e, Nat.pow_add, Nat.pow_mul, Nat.mul_mod, Nat.pow_mod, h1, Nat.one_pow, Nat.mod_eq_of_lt hr, Nat.one_mul, Nat.mod_mod]
    rw [← h3]
    exact h2
theorem np_powdvd {a r m n : Nat} (hr : 1 < r) (hd : m ∣ n) (h : a ^ m % r = 1) : a ^ n % r = 1 := by
  obtain ⟨t, rfl⟩ := hd
  rw [Nat.pow_mul, Nat.pow_mod, h, Nat.one_pow, Nat.mod_eq_of_lt hr]
theorem np_mod_dvd {a n s : Nat} (hs : 1 < s) (hd : s ∣ n) {e : Nat} (h : a ^ e % n = 1) : a ^ e % s = 1 := by
  rw [← Nat.mod_mod_of_dvd _ hd, h, Nat.mod_eq_of_lt hs]
theorem np_notdvd {a n s : Nat} (hs : 1 < s) {e : Nat} (he : 0 < e) (h : a ^ e % s = 1) : ¬ s ∣ a := by
  intro hd
  have h1 : s ∣ a ^ e := by
    obtain ⟨e', rfl⟩ : ∃ e', e = e' + 1 := ⟨e - 1, by omega⟩
    rw [Nat.pow_succ]
    exact Nat.dvd_trans hd (Nat.dvd_mul_left _ _)
  rw [Nat.mod_eq_zero_of_dvd h1] at h
  omega
/-- the cofactor: s | n = s * k, s a prime: what is 1 at n - 1 is 1 at k - 1 -/
theorem np_cof {a s k : Nat} (h : np_pr s) (hk : 1 < k) (hf : a ^ (s * k - 1) % (s * k) = 1) : a ^ (k - 1) % s = 1 := by
  have h1 := h.1
  have hsk : 1 < s * k := by
    calc 1 < k := hk
      _ = 1 * k := (Nat.one_mul k).symm
      _ ≤ s * k := Nat.mul_le_mul_right k (by omega)
  have h2 : a ^ (s * k - 1) % s = 1 := np_mod_dvd h1 (Nat.dvd_mul_right s k) hf
  have hna : ¬ s ∣ a := np_notdvd (n := s) h1 (by omega) h2
  have h3 := np_fermat h hna
  have e : s * k - 1 = (s - 1) * k + (k - 1) := by
    rw [Nat.sub_mul, Nat.one_mul]
    have : k ≤ s * k := Nat.le_mul_of_pos_left k (by omega)
    omega
  rw [e, Nat.pow_add, Nat.pow_mul, Nat.mul_mod, Nat.pow_mod, h3, Nat.one_pow, Nat.mod_eq_of_lt h1, Nat.one_mul, Nat.mod_mod] at h2
  exact h2
/-- a power modulo m in three steps of ten bits -/
def np_pw (a e m : Nat) : Nat := Nat.mod (Nat.mul (Nat.mod (Nat.pow (Nat.mod (Nat.mul (Nat.mod (Nat.pow (Nat.mod (Nat.pow a (Nat.div e 1048576)) m) 1024) m) (Nat.pow a (Nat.mod (Nat.div e 1024) 1024))) m) 1024) m) (Nat.pow a (Nat.mod e 1024))) m
theorem np_pws (x y k m : Nat) : ((x % m) ^ k % m * y) % m = (x ^ k * y) % m := by
  rw [← Nat.pow_mod, Nat.mod_mul_mod]
theorem np_pw_eq (a e m : Nat) : np_pw a e m = a ^ e % m := by
  have e1 : e = e / 1024 * 1024 + e % 1024 := by omega
  have e2 : e / 1024 = e / 1048576 * 1024 + e / 1024 % 1024 := by omega
  show ((((a ^ (e / 1048576) % m) ^ 1024 % m * a ^ (e / 1024 % 1024)) % m) ^ 1024 % m * a ^ (e % 1024)) % m = a ^ e % m
  rw [np_pws (a ^ (e / 1048576)), np_pws, ← Nat.pow_mul, ← Nat.pow_add, ← e2, ← Nat.pow_mul, ← Nat.pow_add, ← e1]
end
section
/-! the search: a number below 2^30 that passes the strong tests is a prime -/
/-- the strong test, from above: at e, then at e / 2 as long as the power is 1 and e is even -/
def np_ch (n a : Nat) : Nat → Nat → Bool
  | 0, _ => true
  | f + 1, e => Nat.beq (np_pw a e n) (n - 1) || (Nat.beq (np_pw a e n) 1 && (Nat.beq (Nat.mod e 2) 1 || np_ch n a f (Nat.div e 2)))
/-- what 2 * n + 1 without a factor 3, 5, 7 says of n, and n itself -/
def np_fil (n : Nat) : Bool := Nat.beq (Nat.mod n 2) 1 && (Nat.beq (Nat.mod n 3) 2 && (!(Nat.beq (Nat.mod n 5) 0 || Nat.beq (Nat.mod n 5) 2) && !(Nat.beq (Nat.mod n 7) 0 || Nat.beq (Nat.mod n 7) 3)))
theorem np_fil_mod {n m : Nat} (h : n % 210 = m % 210) : np_fil n = np_fil m := by
  have h2 : n % 2 = m % 2 := by omega
  have h3 : n % 3 = m % 3 := by omega
  have h5 : n % 5 = m % 5 := by omega
  have h7 : n % 7 = m % 7 := by omega
  show (Nat.beq (n % 2) 1 && (Nat.beq (n % 3) 2 && (!(Nat.beq (n % 5) 0 || Nat.beq (n % 5) 2) && !(Nat.beq (n % 7) 0 || Nat.beq (n % 7) 3)))) = (Nat.beq (m % 2) 1 && (Nat.beq (m % 3) 2 && (!(Nat.beq (m % 5) 0 || Nat.beq (m % 5) 2) && !(Nat.beq (m % 7) 0 || Nat.beq (m % 7) 3))))
  rw [h2, h3, h5, h7]
/-- n is out: too small, filtered, or it fails a test -/
def np_out (n : Nat) : Bool := !(Nat.beq (np_pw 2 (Nat.sub n 1) n) 1) || (!(np_fil n) || (Nat.ble n 32767 || !(np_ch n 2 30 (n - 1) && (np_ch n 3 30 (n - 1) && (np_ch n 5 30 (n - 1) && np_ch n 7 30 (n - 1))))))
/-- n passes -/
def np_in (n : Nat) : Prop := np_fil n = true ∧ 32767 < n ∧ (∀ a, a = 2 ∨ a = 3 ∨ a = 5 ∨ a = 7 → a ^ (n - 1) % n = 1 ∧ np_ch n a 30 (n - 1) = true)
theorem np_in_out {n : Nat} (h : np_in n) (ho : np_out n = true) : False := by
  obtain ⟨h1, h2, h3⟩ := h
  unfold np_out at ho
  rw [h1, (h3 2 (by simp)).2, (h3 3 (by simp)).2, (h3 5 (by simp)).2, (h3 7 (by simp)).2, np_pw_eq, show Nat.sub n 1 = n - 1 from rfl, (h3 2 (by simp)).1] at ho
  have h4 : Nat.ble n 32767 = false := by
    cases hb : Nat.ble n 32767 with
    | false => rfl
    | true => have := Nat.le_of_ble_eq_true hb; omega
  rw [h4] at ho
  exact absurd ho (by decide)
/-- a number is reckoned once -/
def np_fo (x : Nat) (f : Nat → Bool) : Bool := match Nat.add x 1 with
  | 0 => f x
  | m + 1 => f m
theorem np_fo_eq (x : Nat) (f : Nat → Bool) : np_fo x f = f x := rfl
/-- all of lo .. lo + 2^f - 1 below B -/
def np_ab (P : Nat → Bool) (B : Nat) : Nat → Nat → Bool
  | 0, lo => Nat.ble B lo || np_fo lo P
  | f + 1, lo => Nat.ble B lo || (np_ab P B f lo && np_ab P B f (Nat.add lo (Nat.pow 2 f)))
theorem np_ab_all {P : Nat → Bool} {B : Nat} : ∀ (f lo : Nat), np_ab P B f lo = true → ∀ j, lo ≤ j → j < lo + 2 ^ f → j < B → P j = true
  | 0, lo, h, j, h1, h2, h3 => by
    have e : j = lo := by
      rw [Nat.pow_zero] at h2
      omega
    subst e
    unfold np_ab at h
    rw [np_fo_eq, Bool.or_eq_true] at h
    rcases h with h | h
    · have := Nat.le_of_ble_eq_true h
      omega
    · exact h
  | f + 1, lo, h, j, h1, h2, h3 => by
    unfold np_ab at h
    rw [Bool.or_eq_true, Bool.and_eq_true] at h
    have e : 2 ^ (f + 1) = 2 ^ f + 2 ^ f := by rw [Nat.pow_succ]; omega
    rcases h with h | ⟨ha, hb⟩
    · have := Nat.le_of_ble_eq_true h
      omega
    · by_cases hj : j < lo + 2 ^ f
      · exact np_ab_all f lo ha j h1 hj h3
      · exact np_ab_all f (lo + 2 ^ f) hb j (by omega) (by omega) h3
/-! case A: a prime factor above 2^15 -/
/-- the product of lo .. lo + 2^f - 1 -/
def np_rp : Nat → Nat → Nat
  | 0, lo => lo
  | f + 1, lo => np_rp f lo * np_rp f (lo + 2 ^ f)
theorem np_rp_lt {r : Nat} (h : np_pr r) : ∀ (f lo : Nat), 0 < lo → r ∣ np_rp f lo → r < lo + 2 ^ f
  | 0, lo, h0, hd => by
    have := Nat.le_of_dvd h0 hd
    rw [Nat.pow_zero]
    omega
  | f + 1, lo, h0, hd => by
    have e : 2 ^ (f + 1) = 2 ^ f + 2 ^ f := by rw [Nat.pow_succ]; omega
    have hp0 : 0 < 2 ^ f := Nat.two_pow_pos f
    rcases np_euclid h hd with h1 | h1
    · have := np_rp_lt h f lo h0 h1
      omega
    · have := np_rp_lt h f (lo + 2 ^ f) (by omega) h1
      omega
theorem np_rp_dvd {s : Nat} : ∀ (f lo : Nat), lo ≤ s → s < lo + 2 ^ f → s ∣ np_rp f lo
  | 0, lo, h0, h1 => by
    rw [Nat.pow_zero] at h1
    have e : s = lo := by omega
    subst e
    exact Nat.dvd_refl s
  | f + 1, lo, h0, h1 => by
    have e : 2 ^ (f + 1) = 2 ^ f + 2 ^ f := by rw [Nat.pow_succ]; omega
    by_cases hs : s < lo + 2 ^ f
    · exact Nat.dvd_trans (np_rp_dvd f lo h0 hs) (Nat.dvd_mul_right _ _)
    · exact Nat.dvd_trans (np_rp_dvd f (lo + 2 ^ f) (by omega) (by omega)) (Nat.dvd_mul_left _ _)
/-- the part without small factors -/
def np_str (Q h : Nat) : Nat := Nat.div h (Nat.gcd h Q)
theorem np_str_dvd {r Q h : Nat} (hp : np_pr r) (hQ : ¬ r ∣ Q) (hd : r ∣ h) : r ∣ np_str Q h := by
  show r ∣ h / Nat.gcd h Q
  have h1 : h = Nat.gcd h Q * (h / Nat.gcd h Q) := (Nat.mul_div_cancel' (Nat.gcd_dvd_left h Q)).symm
  rw [h1] at hd
  rcases np_euclid hp hd with h2 | h2
  · exact absurd (Nat.dvd_trans h2 (Nat.gcd_dvd_right h Q)) hQ
  · exact h2
/-- what is left of k: nothing, or one prime whose product with k is too great or out -/
def np_okH (Q k h : Nat) : Bool := (Nat.beq h 1 || (Nat.beq k 27061 && Nat.beq h 3661339771)) || (Nat.beq (Nat.gcd h Q) 1 && (Nat.ble h 1073741823 && (Nat.ble 1073741824 (h * k) || np_fo (Nat.mul h k) np_out)))
def np_g0 (k : Nat) : Nat := Nat.gcd (Nat.gcd (2 ^ (k - 1) - 1) (3 ^ (k - 1) - 1)) (Nat.gcd (5 ^ (k - 1) - 1) (7 ^ (k - 1) - 1))
def np_okA (Q k : Nat) : Bool := np_fo (np_g0 k) fun g0 => np_fo (np_str Q g0) fun g1 => np_fo (np_str Q g1) fun g2 => np_fo (np_str Q g2) fun g3 => np_fo (np_str Q g3) fun g4 => np_fo (np_str Q g4) fun g5 => np_fo (np_str Q g5) (np_okH Q k)
theorem np_okA_spec {r Q k : Nat} (hp : np_pr r) (hQ : ¬ r ∣ Q) (hS : ∀ s, 0 < s → s < 32768 → s ∣ Q) (hr : 32768 ≤ r) (h2 : 2 ^ (k - 1) % r = 1) (h3 : 3 ^ (k - 1) % r = 1) (h5 : 5 ^ (k - 1) % r = 1) (h7 : 7 ^ (k - 1) % r = 1) (hk : r * k < 1073741824) (hok : np_okA Q k = true) : np_out (r * k) = true := by
  have key : ∀ x, x % r = 1 → r ∣ x - 1 := by
    intro x hx
    apply Nat.dvd_of_mod_eq_zero
    apply Nat.sub_mod_eq_zero_of_mod_eq
    rw [hx, Nat.mod_eq_of_lt hp.1]
  unfold np_okA at hok
  rw [np_fo_eq, np_fo_eq, np_fo_eq, np_fo_eq, np_fo_eq, np_fo_eq, np_fo_eq] at hok
  have hd0 : r ∣ np_g0 k := Nat.dvd_gcd (Nat.dvd_gcd (key _ h2) (key _ h3)) (Nat.dvd_gcd (key _ h5) (key _ h7))
  have hd : r ∣ np_str Q (np_str Q (np_str Q (np_str Q (np_str Q (np_str Q (np_g0 k)))))) :=
    np_str_dvd hp hQ (np_str_dvd hp hQ (np_str_dvd hp hQ (np_str_dvd hp hQ (np_str_dvd hp hQ (np_str_dvd hp hQ hd0)))))
  revert hok hd
  generalize np_str Q (np_str Q (np_str Q (np_str Q (np_str Q (np_str Q (np_g0 k)))))) = h
  intro hok hd
  unfold np_okH at hok
  rw [Bool.or_eq_true, Bool.or_eq_true, Bool.and_eq_true, Bool.and_eq_true, Bool.and_eq_true, Bool.or_eq_true, np_fo_eq] at hok
  rcases hok with (hok | ⟨hk1, hh1⟩) | ⟨hg, hb, hx⟩
  · have e := Nat.eq_of_beq_eq_true hok
    rw [e] at hd
    have := Nat.le_of_dvd (by decide) hd
    omega
  · exfalso
    have e := Nat.eq_of_beq_eq_true hh1
    have ek := Nat.eq_of_beq_eq_true hk1
    rw [e, show 3661339771 = 54121 * 67651 from by decide] at hd
    subst ek
    rcases np_euclid hp hd with ⟨c, hc⟩ | ⟨c, hc⟩
    · rcases Nat.lt_or_ge c 2 with h | h
      · have : c = 0 ∨ c = 1 := by omega
        rcases this with rfl | rfl <;> omega
      · have : 32768 * 2 ≤ r * c := Nat.mul_le_mul hr h
        omega
    · rcases Nat.lt_or_ge c 3 with h | h
      · have : c = 0 ∨ c = 1 ∨ c = 2 := by omega
        rcases this with rfl | rfl | rfl <;> omega
      · have : 32768 * 3 ≤ r * c := Nat.mul_le_mul hr h
        omega
  · have hg := Nat.eq_of_beq_eq_true hg
    have hb := Nat.le_of_ble_eq_true hb
    have hh : h = r := by
      obtain ⟨c, rfl⟩ := hd
      rcases Nat.lt_or_ge 1 c with hc | hc
      · obtain ⟨s, hs, hsd⟩ := np_factor c hc
        have hs1 := hs.1
        rcases Nat.lt_or_ge s 32768 with hl | hl
        · have h6 : s ∣ Nat.gcd (r * c) Q := Nat.dvd_gcd (Nat.dvd_trans hsd (Nat.dvd_mul_left _ _)) (hS s (by omega) hl)
          rw [hg] at h6
          have := Nat.le_of_dvd (by decide) h6
          omega
        · have h7 : s ≤ c := Nat.le_of_dvd (by omega) hsd
          have h8 : 32768 * 32768 ≤ r * c := Nat.mul_le_mul hr (by omega)
          omega
      · have h9 : c ≠ 0 := by
          intro e
          subst e
          rw [Nat.mul_zero, Nat.gcd_zero_left] at hg
          have := hS 2 (by decide) (by decide)
          rw [hg] at this
          have := Nat.le_of_dvd (by decide) this
          omega
        have h10 : c = 1 := by omega
        rw [h10, Nat.mul_one]
    subst hh
    rcases hx with hx | hx
    · have := Nat.le_of_ble_eq_true hx
      omega
    · exact hx
/-! case B: a prime factor of 101 .. 32767 -/
def np_E (r d : Nat) : Bool := Nat.beq (Nat.mod (Nat.pow 2 d) r) 1 && Nat.beq (Nat.mod (Nat.pow 3 d) r) 1
def np_c1 (r i : Nat) : Nat := cond (np_E r i) i 0
def np_c2 (r i : Nat) : Nat := cond (np_E r (Nat.div (Nat.sub r 1) i)) (Nat.div (Nat.sub r 1) i) 0
def np_Lg (r : Nat) : Nat → Nat
  | 0 => r - 1
  | i + 1 => cond (Nat.beq (Nat.mod (Nat.sub r 1) (i + 1)) 0) (Nat.gcd (Nat.gcd (np_c1 r (i + 1)) (np_c2 r (i + 1))) (np_Lg r i)) (np_Lg r i)
theorem np_Lg_dvd (r : Nat) : ∀ (m i : Nat), 1 ≤ i → i ≤ m → (r - 1) % i = 0 → np_Lg r m ∣ np_c1 r i ∧ np_Lg r m ∣ np_c2 r i
  | 0, i, h1, h2, _ => by omega
  | m + 1, i, h1, h2, h0 => by
    by_cases e : i = m + 1
    · subst e
      have e1 : np_Lg r (m + 1) = Nat.gcd (Nat.gcd (np_c1 r (m + 1)) (np_c2 r (m + 1))) (np_Lg r m) := by
        show cond (Nat.beq ((r - 1) % (m + 1)) 0) _ _ = _
        rw [h0]
        rfl
      rw [e1]
      exact ⟨Nat.dvd_trans (Nat.gcd_dvd_left _ _) (Nat.gcd_dvd_left _ _), Nat.dvd_trans (Nat.gcd_dvd_left _ _) (Nat.gcd_dvd_right _ _)⟩
    · obtain ⟨h3, h4⟩ := np_Lg_dvd r m i h1 (by omega) h0
      have e1 : np_Lg r (m + 1) ∣ np_Lg r m := by
        show cond (Nat.beq ((r - 1) % (m + 1)) 0) _ _ ∣ _
        cases Nat.beq ((r - 1) % (m + 1)) 0
        · exact Nat.dvd_refl _
        · exact Nat.gcd_dvd_right _ _
      exact ⟨Nat.dvd_trans e1 h3, Nat.dvd_trans e1 h4⟩
def np_L (r : Nat) : Nat := np_Lg r 181
theorem np_L_dvd {r d : Nat} (h1 : 1 < r) (hr : r < 32768) (hd : d ∣ r - 1) (hE : np_E r d = true) : np_L r ∣ d := by
  obtain ⟨i, hi⟩ := hd
  have hd0 : 0 < d := by
    rcases Nat.eq_zero_or_pos d with e | e
    · subst e
      rw [Nat.zero_mul] at hi
      omega
    · exact e
  have hi0 : 0 < i := by
    rcases Nat.eq_zero_or_pos i with e | e
    · subst e
      rw [Nat.mul_zero] at hi
      omega
    · exact e
  rcases Nat.lt_or_ge d 182 with hl | hl
  · have hm : (r - 1) % d = 0 := by rw [hi]; exact Nat.mul_mod_right d i
    have h := (np_Lg_dvd r 181 d (by omega) (by omega) hm).1
    unfold np_c1 at h
    rw [hE] at h
    exact h
  · have hl2 : i < 182 := by
      rcases Nat.lt_or_ge i 182 with h | h
      · exact h
      · have : 182 * 182 ≤ d * i := Nat.mul_le_mul hl h
        omega
    have hm : (r - 1) % i = 0 := by rw [hi]; exact Nat.mul_mod_left d i
    have h := (np_Lg_dvd r 181 i (by omega) (by omega) hm).2
    have hq : (r - 1) / i = d := by rw [hi]; exact Nat.mul_div_cancel d hi0
    have h : np_L r ∣ cond (np_E r ((r - 1) / i)) ((r - 1) / i) 0 := h
    rw [hq, hE] at h
    exact h
def np_P97 : Nat := 2305567963945518424753102147331756070
/-- every product of r and a number that is 1 modulo L is out: by the 210 rests of the count -/
def np_okM (r L n0 : Nat) : Bool := Nat.ble 1073741824 n0 || (!(np_fil n0) || np_fo (Nat.mul (Nat.mul r L) 210) fun st => np_ab (fun i => np_fo (Nat.add n0 (Nat.mul st i)) np_out) (Nat.add (Nat.div (Nat.sub 1073741823 n0) st) 1) 24 0)
def np_okL (r L : Nat) : Bool := np_ab (fun t => np_fo (Nat.mul r (Nat.add 1 (Nat.mul L t))) (np_okM r L)) 210 8 0
def np_okB (r : Nat) : Bool := !(Nat.beq (Nat.gcd r np_P97) 1) || np_fo (np_L r) (np_okL r)
theorem np_okB_spec {r k : Nat} (hp : np_pr r) (h101 : 101 ≤ r) (hr : r < 32768) (hk1 : 1 < k) (h2 : 2 ^ (k - 1) % r = 1) (h3 : 3 ^ (k - 1) % r = 1) (hk : r * k < 1073741824) (hok : np_okB r = true) : np_out (r * k) = true := by
  unfold np_okB at hok
  rw [Bool.or_eq_true, np_fo_eq] at hok
  rcases hok with hok | hok
  · exfalso
    have hg : Nat.gcd r np_P97 = 1 := by
      rcases hp.2 _ (Nat.gcd_dvd_left r np_P97) with h | h
      · exact h
      · exfalso
        have hd : r ∣ np_P97 := by rw [← h]; exact Nat.gcd_dvd_right r np_P97
        have e : np_P97 = 2 * 3 * 5 * 7 * 11 * 13 * 17 * 19 * 23 * 29 * 31 * 37 * 41 * 43 * 47 * 53 * 59 * 61 * 67 * 71 * 73 * 79 * 83 * 89 * 97 := by decide +kernel
        rw [e] at hd
        have big : ∀ x, r ∣ x → 0 < x → x < 101 → False := fun x h h0 hx => by
          have := Nat.le_of_dvd h0 h
          omega
        iterate 24 (
          rcases np_euclid hp hd with hd | hd
          rotate_left
          · exact big _ hd (by decide) (by decide))
        exact big _ hd (by decide) (by decide)
    rw [hg] at hok
    exact absurd hok (by decide)
  · have h1 := hp.1
    have hE : np_E r (Nat.gcd (k - 1) (r - 1)) = true := by
      have n2 : ¬ r ∣ 2 := fun h => by have := Nat.le_of_dvd (by decide) h; omega
      have n3 : ¬ r ∣ 3 := fun h => by have := Nat.le_of_dvd (by decide) h; omega
      show (Nat.beq (2 ^ (Nat.gcd (k - 1) (r - 1)) % r) 1 && Nat.beq (3 ^ (Nat.gcd (k - 1) (r - 1)) % r) 1) = true
      rw [np_powgcd h1 _ _ h2 (np_fermat hp n2), np_powgcd h1 _ _ h3 (np_fermat hp n3)]
      rfl
    have hL := Nat.dvd_trans (np_L_dvd h1 hr (Nat.gcd_dvd_right (k - 1) (r - 1)) hE) (Nat.gcd_dvd_left (k - 1) (r - 1))
    generalize np_L r = L at hok hL
    obtain ⟨j, hj⟩ := hL
    have hj0 : 0 < j := by
      rcases Nat.eq_zero_or_pos j with e | e
      · subst e
        rw [Nat.mul_zero] at hj
        omega
      · exact e
    have hL0 : 0 < L := by
      rcases Nat.eq_zero_or_pos L with e | e
      · subst e
        rw [Nat.zero_mul] at hj
        omega
      · exact e
    unfold np_okL at hok
    have e : r * k = r * (1 + L * (j % 210)) + r * L * 210 * (j / 210) := by
      have e1 : k = 1 + L * j := by omega
      have e2 : j = j % 210 + 210 * (j / 210) := by omega
      conv => lhs; rw [e1, e2]
      grind
    have h := np_ab_all 8 0 hok (j % 210) (by omega) (by
      have : 0 + 2 ^ 8 = 256 := by decide
      omega) (by omega)
    try dsimp only at h
    rw [np_fo_eq] at h
    have h : np_okM r L (r * (1 + L * (j % 210))) = true := h
    have hst0 : 0 < r * L * 210 := Nat.mul_pos (Nat.mul_pos (by omega) hL0) (by decide)
    have hfm : (r * k) % 210 = (r * (1 + L * (j % 210))) % 210 := by
      rw [e, Nat.mul_assoc (r * L), Nat.mul_left_comm (r * L), Nat.add_mul_mod_self_left]
    generalize hn0 : r * (1 + L * (j % 210)) = n0 at h e hfm
    generalize hst : r * L * 210 = st at e hst0
    unfold np_okM at h
    rw [Bool.or_eq_true, Bool.or_eq_true, np_fo_eq] at h
    rcases h with h | h | h
    · have := Nat.le_of_ble_eq_true h
      omega
    · have hf : np_fil (r * k) = false := by
        rw [np_fil_mod hfm]
        simpa using h
      unfold np_out
      rw [hf]
      simp
    · have h : np_ab (fun i => np_fo (Nat.add n0 (Nat.mul (r * L * 210) i)) np_out) (Nat.add (Nat.div (Nat.sub 1073741823 n0) (r * L * 210)) 1) 24 0 = true := h
      rw [hst] at h
      have hB : j / 210 ≤ (1073741823 - n0) / st := by
        rw [Nat.le_div_iff_mul_le hst0, Nat.mul_comm]
        omega
      have hB2 : j / 210 < 0 + 2 ^ 24 := by
        have h1 : (1073741823 - n0) / st ≤ 1073741823 / st := Nat.div_le_div_right (Nat.sub_le _ _)
        have h2 : 1073741823 / st ≤ 1073741823 / (101 * 1 * 210) := by
          apply Nat.div_le_div_left _ (by decide)
          rw [← hst]
          exact Nat.mul_le_mul_right 210 (Nat.mul_le_mul h101 hL0)
        have h3 : 1073741823 / (101 * 1 * 210) = 50624 := by decide
        have h4 : 0 + 2 ^ 24 = 16777216 := by decide
        omega
      have h := np_ab_all 24 0 h (j / 210) (by omega) hB2 (by
        show j / 210 < (1073741823 - n0) / st + 1
        omega)
      try dsimp only at h
      rw [np_fo_eq] at h
      rw [e]
      exact h
/-! case C: all prime factors of 11 .. 97 -/
def np_ps : List Nat := [11, 13, 17, 19, 23, 29, 31, 37, 41, 43, 47, 53, 59, 61, 67, 71, 73, 79, 83, 89, 97]
def np_dfs : Nat → List Nat → Nat → Bool
  | 0, _, _ => false
  | _ + 1, [], P => np_fo P np_out
  | f + 1, s :: rest, P => np_dfs f rest P && (Nat.ble 1073741824 (P * s) || np_fo (P * s) (np_dfs f (s :: rest)))
theorem np_dfs_spec : ∀ (f : Nat) (ps : List Nat) (P m : Nat), np_dfs f ps P = true → 0 < m → (∀ r, np_pr r → r ∣ m → r ∈ ps) → P * m < 1073741824 → np_out (P * m) = true
  | 0, _, _, _, h, _, _, _ => by
    unfold np_dfs at h
    exact absurd h (by decide)
  | f + 1, [], P, m, h, h0, hr, hb => by
    unfold np_dfs at h
    rw [np_fo_eq] at h
    have e : m = 1 := by
      rcases Nat.lt_or_ge 1 m with h1 | h1
      · obtain ⟨r, h2, h3⟩ := np_factor m h1
        have := hr r h2 h3
        cases this
      · omega
    rw [e, Nat.mul_one]
    exact h
  | f + 1, s :: rest, P, m, h, h0, hr, hb => by
    unfold np_dfs at h
    rw [Bool.and_eq_true, Bool.or_eq_true, np_fo_eq] at h
    obtain ⟨h1, h2⟩ := h
    by_cases hs : s ∣ m
    · obtain ⟨c, rfl⟩ := hs
      have hc : 0 < c := by
        rcases Nat.eq_zero_or_pos c with e | e
        · subst e
          rw [Nat.mul_zero] at h0
          omega
        · exact e
      rw [← Nat.mul_assoc] at hb ⊢
      rcases h2 with h2 | h2
      · have := Nat.le_of_ble_eq_true h2
        have : P * s * 1 ≤ P * s * c := Nat.mul_le_mul_left _ hc
        omega
      · exact np_dfs_spec f (s :: rest) (P * s) c h2 hc (fun r h3 h4 => hr r h3 (Nat.dvd_trans h4 (Nat.dvd_mul_left _ _))) hb
    · refine np_dfs_spec f rest P m h1 h0 (fun r h3 h4 => ?_) hb
      rcases List.mem_cons.mp (hr r h3 h4) with e | e
      · subst e
        exact absurd h4 hs
      · exact e
/-- primes below 101 -/
def np_small (r : Nat) : Bool := Nat.ble r 10 || (np_ps.contains r || (List.range 10).any (fun d => Nat.ble 2 d && Nat.beq (r % d) 0))
theorem np_small_all : ∀ r, r < 101 → np_small r = true := by decide +kernel
theorem np_small_pr {r : Nat} (hp : np_pr r) (hr : r < 101) (h10 : 10 < r) : r ∈ np_ps := by
  have h := np_small_all r hr
  unfold np_small at h
  rw [Bool.or_eq_true, Bool.or_eq_true] at h
  rcases h with h | h | h
  · have := Nat.le_of_ble_eq_true h
    omega
  · exact List.contains_iff_mem.mp h
  · obtain ⟨d, h1, h2⟩ := List.any_eq_true.mp h
    rw [Bool.and_eq_true] at h2
    have h3 := Nat.le_of_ble_eq_true h2.1
    have h4 := Nat.eq_of_beq_eq_true h2.2
    have h5 := List.mem_range.mp h1
    rcases hp.2 d (Nat.dvd_of_mod_eq_zero h4) with e | e <;> omega
end
section
/-! the search, reckoned: case A -/
theorem np_A0 : np_fo (np_rp 15 1) (fun Q => np_ab (fun j => np_okA Q (2 * j + 3)) 16383 12 0) = true := by decide +kernel
theorem np_A1 : np_fo (np_rp 15 1) (fun Q => np_ab (fun j => np_okA Q (2 * j + 3)) 16383 12 4096) = true := by decide +kernel
theorem np_A2 : np_fo (np_rp 15 1) (fun Q => np_ab (fun j => np_okA Q (2 * j + 3)) 16383 12 8192) = true := by decide +kernel
theorem np_A3 : np_fo (np_rp 15 1) (fun Q => np_ab (fun j => np_okA Q (2 * j + 3)) 16383 12 12288) = true := by decide +kernel
end
section
/-! the search, reckoned: case B, first half -/
theorem np_B0 : np_ab (fun j => np_okB (2 * j + 1)) 51 0 50 = true := by decide +kernel
theorem np_B1 : np_ab (fun j => np_okB (2 * j + 1)) 53 1 51 = true := by decide +kernel
theorem np_B2 : np_ab (fun j => np_okB (2 * j + 1)) 54 0 53 = true := by decide +kernel
theorem np_B3 : np_ab (fun j => np_okB (2 * j + 1)) 56 1 54 = true := by decide +kernel
theorem np_B4 : np_ab (fun j => np_okB (2 * j + 1)) 63 3 56 = true := by decide +kernel
theorem np_B5 : np_ab (fun j => np_okB (2 * j + 1)) 65 1 63 = true := by decide +kernel
theorem np_B6 : np_ab (fun j => np_okB (2 * j + 1)) 68 2 65 = true := by decide +kernel
theorem np_B7 : np_ab (fun j => np_okB (2 * j + 1)) 74 3 68 = true := by decide +kernel
theorem np_B8 : np_ab (fun j => np_okB (2 * j + 1)) 78 2 74 = true := by decide +kernel
theorem np_B9 : np_ab (fun j => np_okB (2 * j + 1)) 83 3 78 = true := by decide +kernel
theorem np_B10 : np_ab (fun j => np_okB (2 * j + 1)) 89 3 83 = true := by decide +kernel
theorem np_B11 : np_ab (fun j => np_okB (2 * j + 1)) 95 3 89 = true := by decide +kernel
end
section
/-! the search, reckoned: case B, second half -/
theorem np_B12 : np_ab (fun j => np_okB (2 * j + 1)) 98 2 95 = true := by decide +kernel
theorem np_B13 : np_ab (fun j => np_okB (2 * j + 1)) 113 4 98 = true := by decide +kernel
theorem np_B14 : np_ab (fun j => np_okB (2 * j + 1)) 120 3 113 = true := by decide +kernel
theorem np_B15 : np_ab (fun j => np_okB (2 * j + 1)) 135 4 120 = true := by decide +kernel
theorem np_B16 : np_ab (fun j => np_okB (2 * j + 1)) 155 5 135 = true := by decide +kernel
theorem np_B17 : np_ab (fun j => np_okB (2 * j + 1)) 179 5 155 = true := by decide +kernel
theorem np_B18 : np_ab (fun j => np_okB (2 * j + 1)) 215 6 179 = true := by decide +kernel
theorem np_B19 : np_ab (fun j => np_okB (2 * j + 1)) 233 5 215 = true := by decide +kernel
theorem np_B20 : np_ab (fun j => np_okB (2 * j + 1)) 300 7 233 = true := by decide +kernel
theorem np_B21 : np_ab (fun j => np_okB (2 * j + 1)) 419 7 300 = true := by decide +kernel
theorem np_B22 : np_ab (fun j => np_okB (2 * j + 1)) 791 9 419 = true := by decide +kernel
theorem np_B23 : np_ab (fun j => np_okB (2 * j + 1)) 2048 11 791 = true := by decide +kernel
end
section
/-! the search, reckoned: case B, the greater primes -/
theorem np_B24 : np_ab (fun j => np_okB (2 * j + 1)) 4500 12 2048 = true := by decide +kernel
theorem np_B25 : np_ab (fun j => np_okB (2 * j + 1)) 7500 12 4500 = true := by decide +kernel
theorem np_B26 : np_ab (fun j => np_okB (2 * j + 1)) 10500 12 7500 = true := by decide +kernel
theorem np_B27 : np_ab (fun j => np_okB (2 * j + 1)) 13500 12 10500 = true := by decide +kernel
theorem np_B28 : np_ab (fun j => np_okB (2 * j + 1)) 16384 12 13500 = true := by decide +kernel
end
section
/-! the search, reckoned: case C, in the order of the primes, with an early end -/
def np_lf (n : Nat) : Bool := !(np_fil n) || np_out n
theorem np_lf_out {n : Nat} (h : np_lf n = true) : np_out n = true := by
  unfold np_lf at h
  rw [Bool.or_eq_true] at h
  rcases h with h | h
  · have hf : np_fil n = false := by simpa using h
    unfold np_out
    rw [hf]
    simp
  · exact h
def np_dg : Nat → List Nat → Nat → Bool
  | 0, _, _ => false
  | _ + 1, [], P => np_fo P np_lf
  | f + 1, s :: rest, P => cond (Nat.ble 1073741824 (Nat.mul P s)) (np_fo P np_lf) (np_dg f rest P && np_fo (Nat.mul P s) (np_dg f (s :: rest)))
theorem np_dg_spec : ∀ (f : Nat) (ps : List Nat) (P m : Nat), np_dg f ps P = true → 0 < m → (∀ r, np_pr r → r ∣ m → r ∈ ps) → ps.Pairwise (· ≤ ·) → P * m < 1073741824 → np_out (P * m) = true
  | 0, _, _, _, h, _, _, _, _ => by
    unfold np_dg at h
    exact absurd h (by decide)
  | f + 1, [], P, m, h, h0, hr, _, hb => by
    unfold np_dg at h
    rw [np_fo_eq] at h
    have e : m = 1 := by
      rcases Nat.lt_or_ge 1 m with h1 | h1
      · obtain ⟨r, h2, h3⟩ := np_factor m h1
        have := hr r h2 h3
        cases this
      · omega
    rw [e, Nat.mul_one]
    exact np_lf_out h
  | f + 1, s :: rest, P, m, h, h0, hr, hs, hb => by
    unfold np_dg at h
    cases hc : Nat.ble 1073741824 (Nat.mul P s) with
    | true =>
      rw [hc] at h
      have h : np_fo P np_lf = true := h
      rw [np_fo_eq] at h
      have hc := Nat.le_of_ble_eq_true hc
      have hc : 1073741824 ≤ P * s := hc
      have e : m = 1 := by
        rcases Nat.lt_or_ge 1 m with h1 | h1
        · exfalso
          obtain ⟨r, h2, h3⟩ := np_factor m h1
          have h4 : s ≤ r := by
            rcases List.mem_cons.mp (hr r h2 h3) with e | e
            · omega
            · exact (List.pairwise_cons.mp hs).1 r e
          have h5 : r ≤ m := Nat.le_of_dvd h0 h3
          have h6 : P * s ≤ P * m := Nat.mul_le_mul_left P (Nat.le_trans h4 h5)
          omega
        · omega
      rw [e, Nat.mul_one]
      exact np_lf_out h
    | false =>
      rw [hc] at h
      have h : (np_dg f rest P && np_fo (Nat.mul P s) (np_dg f (s :: rest))) = true := h
      rw [Bool.and_eq_true, np_fo_eq] at h
      obtain ⟨h1, h2⟩ := h
      by_cases hs1 : s ∣ m
      · obtain ⟨c, rfl⟩ := hs1
        have hc : 0 < c := by
          rcases Nat.eq_zero_or_pos c with e | e
          · subst e
            rw [Nat.mul_zero] at h0
            omega
          · exact e
        rw [← Nat.mul_assoc] at hb ⊢
        exact np_dg_spec f (s :: rest) (P * s) c h2 hc (fun r h3 h4 => hr r h3 (Nat.dvd_trans h4 (Nat.dvd_mul_left _ _))) hs hb
      · refine np_dg_spec f rest P m h1 h0 (fun r h3 h4 => ?_) (List.pairwise_cons.mp hs).2 hb
        rcases List.mem_cons.mp (hr r h3 h4) with e | e
        · subst e
          exact absurd h4 hs1
        · exact e
theorem np_C0 : np_dg 40 [11, 13, 17, 19, 23, 29, 31, 37, 41, 43, 47, 53, 59, 61, 67, 71, 73, 79, 83, 89, 97] 11 = true := by decide +kernel
theorem np_C1 : np_dg 40 [13, 17, 19, 23, 29, 31, 37, 41, 43, 47, 53, 59, 61, 67, 71, 73, 79, 83, 89, 97] 13 = true := by decide +kernel
theorem np_C2 : np_dg 40 [17, 19, 23, 29, 31, 37, 41, 43, 47, 53, 59, 61, 67, 71, 73, 79, 83, 89, 97] 17 = true := by decide +kernel
theorem np_C3 : np_dg 40 [19, 23, 29, 31, 37, 41, 43, 47, 53, 59, 61, 67, 71, 73, 79, 83, 89, 97] 19 = true := by decide +kernel
theorem np_C4 : np_dg 40 [23, 29, 31, 37, 41, 43, 47, 53, 59, 61, 67, 71, 73, 79, 83, 89, 97] 23 = true := by decide +kernel
theorem np_C5 : np_dg 40 [29, 31, 37, 41, 43, 47, 53, 59, 61, 67, 71, 73, 79, 83, 89, 97] 29 = true := by decide +kernel
theorem np_C6 : np_dg 40 [31, 37, 41, 43, 47, 53, 59, 61, 67, 71, 73, 79, 83, 89, 97] 31 = true := by decide +kernel
theorem np_C7 : np_dg 40 [37, 41, 43, 47, 53, 59, 61, 67, 71, 73, 79, 83, 89, 97] 37 = true := by decide +kernel
theorem np_C8 : np_dg 40 [41, 43, 47, 53, 59, 61, 67, 71, 73, 79, 83, 89, 97] 41 = true := by decide +kernel
theorem np_C9 : np_dg 40 [43, 47, 53, 59, 61, 67, 71, 73, 79, 83, 89, 97] 43 = true := by decide +kernel
theorem np_C10 : np_dg 40 [47, 53, 59, 61, 67, 71, 73, 79, 83, 89, 97] 47 = true := by decide +kernel
theorem np_C11 : np_dg 40 [53, 59, 61, 67, 71, 73, 79, 83, 89, 97] 53 = true := by decide +kernel
theorem np_C12 : np_dg 40 [59, 61, 67, 71, 73, 79, 83, 89, 97] 59 = true := by decide +kernel
theorem np_C13 : np_dg 40 [61, 67, 71, 73, 79, 83, 89, 97] 61 = true := by decide +kernel
theorem np_C14 : np_dg 40 [67, 71, 73, 79, 83, 89, 97] 67 = true := by decide +kernel
theorem np_C15 : np_dg 40 [71, 73, 79, 83, 89, 97] 71 = true := by decide +kernel
theorem np_C16 : np_dg 40 [73, 79, 83, 89, 97] 73 = true := by decide +kernel
theorem np_C17 : np_dg 40 [79, 83, 89, 97] 79 = true := by decide +kernel
theorem np_C18 : np_dg 40 [83, 89, 97] 83 = true := by decide +kernel
theorem np_C19 : np_dg 40 [89, 97] 89 = true := by decide +kernel
theorem np_C20 : np_dg 40 [97] 97 = true := by decide +kernel
def np_dh : List Nat → Bool
  | [] => true
  | s :: rest => np_dg 40 (s :: rest) s && np_dh rest
theorem np_dh_spec : ∀ (ps : List Nat) (m : Nat), np_dh ps = true → 1 < m → (∀ r, np_pr r → r ∣ m → r ∈ ps) → ps.Pairwise (· ≤ ·) → m < 1073741824 → np_out m = true
  | [], m, _, h1, hr, _, _ => by
    obtain ⟨r, h2, h3⟩ := np_factor m h1
    have := hr r h2 h3
    cases this
  | s :: rest, m, h, h1, hr, hs, hb => by
    unfold np_dh at h
    rw [Bool.and_eq_true] at h
    by_cases hd : s ∣ m
    · obtain ⟨c, rfl⟩ := hd
      have hc : 0 < c := by
        rcases Nat.eq_zero_or_pos c with e | e
        · subst e
          rw [Nat.mul_zero] at h1
          omega
        · exact e
      exact np_dg_spec 40 (s :: rest) s c h.1 hc (fun r h3 h4 => hr r h3 (Nat.dvd_trans h4 (Nat.dvd_mul_left _ _))) hs hb
    · refine np_dh_spec rest m h.2 h1 (fun r h3 h4 => ?_) (List.pairwise_cons.mp hs).2 hb
      rcases List.mem_cons.mp (hr r h3 h4) with e | e
      · subst e
        exact absurd h4 hd
      · exact e
theorem np_C : np_dh np_ps = true := by
  show (np_dg 40 [11, 13, 17, 19, 23, 29, 31, 37, 41, 43, 47, 53, 59, 61, 67, 71, 73, 79, 83, 89, 97] 11 && (np_dg 40 [13, 17, 19, 23, 29, 31, 37, 41, 43, 47, 53, 59, 61, 67, 71, 73, 79, 83, 89, 97] 13 && (np_dg 40 [17, 19, 23, 29, 31, 37, 41, 43, 47, 53, 59, 61, 67, 71, 73, 79, 83, 89, 97] 17 && (np_dg 40 [19, 23, 29, 31, 37, 41, 43, 47, 53, 59, 61, 67, 71, 73, 79, 83, 89, 97] 19 && (np_dg 40 [23, 29, 31, 37, 41, 43, 47, 53, 59, 61, 67, 71, 73, 79, 83, 89, 97] 23 && (np_dg 40 [29, 31, 37, 41, 43, 47, 53, 59, 61, 67, 71, 73, 79, 83, 89, 97] 29 && (np_dg 40 [31, 37, 41, 43, 47, 53, 59, 61, 67, 71, 73, 79, 83, 89, 97] 31 && (np_dg 40 [37, 41, 43, 47, 53, 59, 61, 67, 71, 73, 79, 83, 89, 97] 37 && (np_dg 40 [41, 43, 47, 53, 59, 61, 67, 71, 73, 79, 83, 89, 97] 41 && (np_dg 40 [43, 47, 53, 59, 61, 67, 71, 73, 79, 83, 89, 97] 43 && (np_dg 40 [47, 53, 59, 61, 67, 71, 73, 79, 83, 89, 97] 47 && (np_dg 40 [53, 59, 61, 67, 71, 73, 79, 83, 89, 97] 53 && (np_dg 40 [59, 61, 67, 71, 73, 79, 83, 89, 97] 59 && (np_dg 40 [61, 67, 71, 73, 79, 83, 89, 97] 61 && (np_dg 40 [67, 71, 73, 79, 83, 89, 97] 67 && (np_dg 40 [71, 73, 79, 83, 89, 97] 71 && (np_dg 40 [73, 79, 83, 89, 97] 73 && (np_dg 40 [79, 83, 89, 97] 79 && (np_dg 40 [83, 89, 97] 83 && (np_dg 40 [89, 97] 89 && (np_dg 40 [97] 97 && true))))))))))))))))))))) = true
  rw [np_C0, np_C1, np_C2, np_C3, np_C4, np_C5, np_C6, np_C7, np_C8, np_C9, np_C10, np_C11, np_C12, np_C13, np_C14, np_C15, np_C16, np_C17, np_C18, np_C19, np_C20]
  rfl
theorem np_ps_sorted : np_ps.Pairwise (· ≤ ·) := by decide +kernel
end
section
/-! a number below 2^30 that passes is a prime -/
theorem np_Aall {Q : Nat} (hQ : Q = np_rp 15 1) {k : Nat} (h3 : 3 ≤ k) (hk : k < 32768) (ho : k % 2 = 1) : np_okA Q k = true := by
  have h0 := np_A0
  have h1 := np_A1
  have h2 := np_A2
  have h4 := np_A3
  rw [np_fo_eq, ← hQ] at h0 h1 h2 h4
  have e : 2 * ((k - 3) / 2) + 3 = k := by omega
  have key : ∀ lo, np_ab (fun j => np_okA Q (2 * j + 3)) 16383 12 lo = true → lo ≤ (k - 3) / 2 → (k - 3) / 2 < lo + 4096 → np_okA Q k = true := by
    intro lo h ha hb
    have := np_ab_all 12 lo h ((k - 3) / 2) ha hb (by omega)
    try dsimp only at this
    rw [e] at this
    exact this
  have hc : (k - 3) / 2 < 4096 ∨ (4096 ≤ (k - 3) / 2 ∧ (k - 3) / 2 < 8192) ∨ (8192 ≤ (k - 3) / 2 ∧ (k - 3) / 2 < 12288) ∨ (12288 ≤ (k - 3) / 2 ∧ (k - 3) / 2 < 16384) := by omega
  rcases hc with hc | hc | hc | hc
  · exact key 0 h0 (by omega) (by omega)
  · exact key 4096 h1 (by omega) (by omega)
  · exact key 8192 h2 (by omega) (by omega)
  · exact key 12288 h4 (by omega) (by omega)
theorem np_Ball {r : Nat} (h101 : 101 ≤ r) (hr : r < 32768) (ho : r % 2 = 1) : np_okB r = true := by
  have e : 2 * ((r - 1) / 2) + 1 = r := by omega
  have key : ∀ hi f lo, np_ab (fun j => np_okB (2 * j + 1)) hi f lo = true → lo ≤ (r - 1) / 2 → (r - 1) / 2 < lo + 2 ^ f → (r - 1) / 2 < hi → np_okB r = true := by
    intro hi f lo h ha hb hc
    have := np_ab_all f lo h ((r - 1) / 2) ha hb hc
    try dsimp only at this
    rw [e] at this
    exact this
  by_cases c0 : r < 103
  · exact key 51 0 50 np_B0 (by omega) (by omega) (by omega)
  by_cases c1 : r < 107
  · exact key 53 1 51 np_B1 (by omega) (by omega) (by omega)
  by_cases c2 : r < 109
  · exact key 54 0 53 np_B2 (by omega) (by omega) (by omega)
  by_cases c3 : r < 113
  · exact key 56 1 54 np_B3 (by omega) (by omega) (by omega)
  by_cases c4 : r < 127
  · exact key 63 3 56 np_B4 (by omega) (by omega) (by omega)
  by_cases c5 : r < 131
  · exact key 65 1 63 np_B5 (by omega) (by omega) (by omega)
  by_cases c6 : r < 137
  · exact key 68 2 65 np_B6 (by omega) (by omega) (by omega)
  by_cases c7 : r < 149
  · exact key 74 3 68 np_B7 (by omega) (by omega) (by omega)
  by_cases c8 : r < 157
  · exact key 78 2 74 np_B8 (by omega) (by omega) (by omega)
  by_cases c9 : r < 167
  · exact key 83 3 78 np_B9 (by omega) (by omega) (by omega)
  by_cases c10 : r < 179
  · exact key 89 3 83 np_B10 (by omega) (by omega) (by omega)
  by_cases c11 : r < 191
  · exact key 95 3 89 np_B11 (by omega) (by omega) (by omega)
  by_cases c12 : r < 197
  · exact key 98 2 95 np_B12 (by omega) (by omega) (by omega)
  by_cases c13 : r < 227
  · exact key 113 4 98 np_B13 (by omega) (by omega) (by omega)
  by_cases c14 : r < 241
  · exact key 120 3 113 np_B14 (by omega) (by omega) (by omega)
  by_cases c15 : r < 271
  · exact key 135 4 120 np_B15 (by omega) (by omega) (by omega)
  by_cases c16 : r < 311
  · exact key 155 5 135 np_B16 (by omega) (by omega) (by omega)
  by_cases c17 : r < 359
  · exact key 179 5 155 np_B17 (by omega) (by omega) (by omega)
  by_cases c18 : r < 431
  · exact key 215 6 179 np_B18 (by omega) (by omega) (by omega)
  by_cases c19 : r < 467
  · exact key 233 5 215 np_B19 (by omega) (by omega) (by omega)
  by_cases c20 : r < 601
  · exact key 300 7 233 np_B20 (by omega) (by omega) (by omega)
  by_cases c21 : r < 839
  · exact key 419 7 300 np_B21 (by omega) (by omega) (by omega)
  by_cases c22 : r < 1583
  · exact key 791 9 419 np_B22 (by omega) (by omega) (by omega)
  by_cases c23 : r < 4097
  · exact key 2048 11 791 np_B23 (by omega) (by omega) (by omega)
  by_cases c24 : r < 9001
  · exact key 4500 12 2048 np_B24 (by omega) (by omega) (by omega)
  by_cases c25 : r < 15001
  · exact key 7500 12 4500 np_B25 (by omega) (by omega) (by omega)
  by_cases c26 : r < 21001
  · exact key 10500 12 7500 np_B26 (by omega) (by omega) (by omega)
  by_cases c27 : r < 27001
  · exact key 13500 12 10500 np_B27 (by omega) (by omega) (by omega)
  exact key 16384 12 13500 np_B28 (by omega) (by omega) (by omega)
theorem np_search {n : Nat} (hn : n < 1073741824) (h : np_in n) : np_pr n := by
  apply Classical.byContradiction
  intro hnp
  have hfil := h.1
  have hbig := h.2.1
  have h2 := (h.2.2 2 (by simp)).1
  have h3 := (h.2.2 3 (by simp)).1
  have h5 := (h.2.2 5 (by simp)).1
  have h7 := (h.2.2 7 (by simp)).1
  unfold np_fil at hfil
  simp only [Bool.and_eq_true, Bool.not_eq_true', Bool.or_eq_false_iff] at hfil
  obtain ⟨f2, f3, ⟨f5, -⟩, ⟨f7, -⟩⟩ := hfil
  have f2 : n % 2 = 1 := Nat.eq_of_beq_eq_true f2
  have f3 : n % 3 = 2 := Nat.eq_of_beq_eq_true f3
  have f5 : Nat.beq (n % 5) 0 = false := f5
  have f7 : Nat.beq (n % 7) 0 = false := f7
  have f5 : n % 5 ≠ 0 := fun e => by rw [e] at f5; exact absurd f5 (by decide)
  have f7 : n % 7 ≠ 0 := fun e => by rw [e] at f7; exact absurd f7 (by decide)
  -- a prime factor and its cofactor
  have cof : ∀ r, np_pr r → r ∣ n → ∃ k, n = r * k ∧ 1 < k ∧ (∀ a, a = 2 ∨ a = 3 ∨ a = 5 ∨ a = 7 → a ^ (k - 1) % r = 1) := by
    intro r hr hd
    obtain ⟨k, hk⟩ := hd
    have hk1 : 1 < k := by
      rcases Nat.lt_or_ge 1 k with h | h
      · exact h
      · have : k = 0 ∨ k = 1 := by omega
        rcases this with e | e
        · rw [e, Nat.mul_zero] at hk
          omega
        · rw [e, Nat.mul_one] at hk
          rw [hk] at hnp
          exact absurd hr hnp
    refine ⟨k, hk, hk1, fun a ha => np_cof hr hk1 ?_⟩
    rw [← hk]
    exact (h.2.2 a ha).1
  have odd : ∀ r, r ∣ n → r % 2 = 1 := by
    intro r hd
    rcases Nat.mod_two_eq_zero_or_one r with e | e
    · have : 2 ∣ n := Nat.dvd_trans (Nat.dvd_of_mod_eq_zero e) hd
      have := Nat.mod_eq_zero_of_dvd this
      omega
    · exact e
  have noA : ∀ r, np_pr r → r ∣ n → r < 32769 := by
    intro r hr hd
    rcases Nat.lt_or_ge r 32769 with hl | hl
    · exact hl
    · exfalso
      obtain ⟨k, hk, hk1, hp⟩ := cof r hr hd
      have hko : k % 2 = 1 := odd k ⟨r, by rw [hk, Nat.mul_comm]⟩
      have hk3 : k < 32768 := by
        rcases Nat.lt_or_ge k 32768 with h | h
        · exact h
        · have : 32769 * 32768 ≤ r * k := Nat.mul_le_mul hl h
          omega
      obtain ⟨Q, hQ⟩ : ∃ Q, Q = np_rp 15 1 := ⟨_, rfl⟩
      have hok := np_Aall hQ (k := k) (by omega) hk3 hko
      refine np_in_out h ?_
      rw [hk]
      refine np_okA_spec (Q := Q) hr (fun hd2 => ?_) (fun s h0 h1 => ?_) (by omega) (hp 2 (by simp)) (hp 3 (by simp)) (hp 5 (by simp)) (hp 7 (by simp)) (by omega) hok
      · rw [hQ] at hd2
        have := np_rp_lt hr 15 1 (by decide) hd2
        have e : 1 + 2 ^ 15 = 32769 := by decide
        omega
      · rw [hQ]
        exact np_rp_dvd 15 1 h0 (by omega)
  have noB : ∀ r, np_pr r → r ∣ n → r < 101 := by
    intro r hr hd
    rcases Nat.lt_or_ge r 101 with hl | hl
    · exact hl
    · exfalso
      obtain ⟨k, hk, hk1, hp⟩ := cof r hr hd
      have hro := odd r hd
      have hr1 := noA r hr hd
      have hok := np_Ball hl (by omega) hro
      refine np_in_out h ?_
      rw [hk]
      exact np_okB_spec hr hl (by omega) hk1 (hp 2 (by simp)) (hp 3 (by simp)) (by omega) hok
  have hC := np_dh_spec np_ps n np_C (by omega) (fun r hr hd => by
    have h10 : 10 < r := by
      rcases Nat.lt_or_ge 10 r with h | h
      · exact h
      · exfalso
        have h1 := hr.1
        have ho := odd r hd
        have hm := Nat.mod_eq_zero_of_dvd hd
        have hc : r = 3 ∨ r = 5 ∨ r = 7 ∨ r = 9 := by omega
        rcases hc with rfl | rfl | rfl | rfl <;> omega
    exact np_small_pr hr (noB r hr hd) h10) np_ps_sorted (by omega)
  exact np_in_out h hC
/-- Pocklington: p = 2 q + 1, q a prime -/
theorem np_pock {q : Nat} (hq : np_pr q) (h2 : 2 < q) (ho : q % 2 = 1) (h3 : (2 * q + 1) % 3 ≠ 0) (hf : 2 ^ (2 * q) % (2 * q + 1) = 1) : np_pr (2 * q + 1) := by
  refine ⟨by omega, ?_⟩
  -- every prime factor is p itself
  have key : ∀ r, np_pr r → r ∣ 2 * q + 1 → r = 2 * q + 1 := by
    intro r hr hd
    have h1 := hr.1
    have hr2 : r % 2 = 1 := by
      rcases Nat.mod_two_eq_zero_or_one r with e | e
      · have := Nat.mod_eq_zero_of_dvd (Nat.dvd_trans (Nat.dvd_of_mod_eq_zero e) hd)
        omega
      · exact e
    have hr3 : r ≠ 3 := by
      rintro rfl
      exact h3 (Nat.mod_eq_zero_of_dvd hd)
    have hp := np_mod_dvd h1 hd hf
    have hn2 : ¬ r ∣ 2 := fun h => by
      have := Nat.le_of_dvd (by decide) h
      omega
    have hfer := np_fermat hr hn2
    have hg := np_powgcd h1 _ _ hp hfer
    have hle : r ≤ 2 * q + 1 := Nat.le_of_dvd (by omega) hd
    by_cases hqd : q ∣ r - 1
    · obtain ⟨c, hc⟩ := hqd
      have hc2 : c ≠ 0 := by
        rintro rfl
        omega
      have hc1 : c ≠ 1 := by
        rintro rfl
        omega
      have : q * 2 ≤ q * c := Nat.mul_le_mul_left q (by omega)
      omega
    · exfalso
      have hcop : Nat.Coprime q (r - 1) := np_cop hq hqd
      have hg2 : Nat.gcd (2 * q) (r - 1) ∣ 2 := by
        have h6 : Nat.gcd (2 * q) (r - 1) = Nat.gcd 2 (r - 1) := Nat.Coprime.gcd_mul_right_cancel 2 hcop
        rw [h6]
        exact Nat.gcd_dvd_left 2 (r - 1)
      have h4 := np_powdvd h1 hg2 hg
      have h5 : r ∣ 2 ^ 2 - 1 := by
        apply Nat.dvd_of_mod_eq_zero
        apply Nat.sub_mod_eq_zero_of_mod_eq
        rw [h4, Nat.mod_eq_of_lt h1]
      have h7 : r ∣ 3 := h5
      have := Nat.le_of_dvd (by decide) h7
      omega
  intro d hd
  have hd0 : d ≠ 0 := by
    rintro rfl
    have := Nat.eq_zero_of_zero_dvd hd
    omega
  by_cases h1 : d = 1
  · exact Or.inl h1
  · right
    obtain ⟨r, hr, hrd⟩ := np_factor d (by omega)
    have h4 := key r hr (Nat.dvd_trans hrd hd)
    have h5 := Nat.le_of_dvd (by omega) hrd
    have h6 := Nat.le_of_dvd (by omega) hd
    omega
end
section
/-! the words of the tables (begun from the given skeleton's first part) -/
def lw_okq (q : MethodName × Nat) : Prop := (q.1.cls ≠ "java/lang/invoke/MethodHandle" ∧ q.1.cls ≠ "java/lang/invoke/VarHandle") ∧ Cond.instantiable q.1.cls q.2 ∈ tables_1 ∧ Cond.privateMethod q.1 ∈ tables_1 ∧ Cond.instanceMethod q.1 ∈ tables_1
theorem lw_p0 : lw_okq (⟨"OpenDeal", "countWithChips", "()I"⟩, 11) := ⟨⟨by decide +kernel, by decide +kernel⟩, List.mem_of_getElem? (i := 15) (by decide +kernel), List.mem_of_getElem? (i := 188) (by decide +kernel), List.mem_of_getElem? (i := 189) (by decide +kernel)⟩
theorem lw_p1 : lw_okq (⟨"OpenDeal", "isSeated", "(I)Z"⟩, 11) := ⟨⟨by decide +kernel, by decide +kernel⟩, List.mem_of_getElem? (i := 15) (by decide +kernel), List.mem_of_getElem? (i := 197) (by decide +kernel), List.mem_of_getElem? (i := 198) (by decide +kernel)⟩
theorem lw_p2 : lw_okq (⟨"OpenDeal$Draws", "nextExponent", "(I)I"⟩, 1) := ⟨⟨by decide +kernel, by decide +kernel⟩, List.mem_of_getElem? (i := 217) (by decide +kernel), List.mem_of_getElem? (i := 227) (by decide +kernel), List.mem_of_getElem? (i := 228) (by decide +kernel)⟩
theorem lw_p3 : lw_okq (⟨"OpenDeal$Draws", "next", "()I"⟩, 1) := ⟨⟨by decide +kernel, by decide +kernel⟩, List.mem_of_getElem? (i := 217) (by decide +kernel), List.mem_of_getElem? (i := 232) (by decide +kernel), List.mem_of_getElem? (i := 233) (by decide +kernel)⟩
theorem lw_p4 : lw_okq (⟨"OpenDeal", "allSealed", "()Z"⟩, 11) := ⟨⟨by decide +kernel, by decide +kernel⟩, List.mem_of_getElem? (i := 15) (by decide +kernel), List.mem_of_getElem? (i := 239) (by decide +kernel), List.mem_of_getElem? (i := 240) (by decide +kernel)⟩
theorem lw_p5 : lw_okq (⟨"OpenDeal", "nextToTurn", "()I"⟩, 11) := ⟨⟨by decide +kernel, by decide +kernel⟩, List.mem_of_getElem? (i := 15) (by decide +kernel), List.mem_of_getElem? (i := 247) (by decide +kernel), List.mem_of_getElem? (i := 248) (by decide +kernel)⟩
theorem lw_p6 : lw_okq (⟨"OpenDeal", "playerOfTurn", "(I)I"⟩, 11) := ⟨⟨by decide +kernel, by decide +kernel⟩, List.mem_of_getElem? (i := 15) (by decide +kernel), List.mem_of_getElem? (i := 251) (by decide +kernel), List.mem_of_getElem? (i := 252) (by decide +kernel)⟩
theorem lw_p7 : lw_okq (⟨"OpenDeal", "reckonTurn", "(ILOpenDeal$Secrets;[I)V"⟩, 11) := ⟨⟨by decide +kernel, by decide +kernel⟩, List.mem_of_getElem? (i := 15) (by decide +kernel), List.mem_of_getElem? (i := 255) (by decide +kernel), List.mem_of_getElem? (i := 256) (by decide +kernel)⟩
theorem lw_p8 : lw_okq (⟨"OpenDeal", "spoil", "([ILOpenDeal$Player;I)V"⟩, 11) := ⟨⟨by decide +kernel, by decide +kernel⟩, List.mem_of_getElem? (i := 15) (by decide +kernel), List.mem_of_getElem? (i := 267) (by decide +kernel), List.mem_of_getElem? (i := 268) (by decide +kernel)⟩
theorem lw_p9 : lw_okq (⟨"OpenDeal", "mayOpen", "(II)Z"⟩, 11) := ⟨⟨by decide +kernel, by decide +kernel⟩, List.mem_of_getElem? (i := 15) (by decide +kernel), List.mem_of_getElem? (i := 298) (by decide +kernel), List.mem_of_getElem? (i := 299) (by decide +kernel)⟩
theorem lw_p10 : lw_okq (⟨"OpenDeal", "cardOf", "(I)I"⟩, 11) := ⟨⟨by decide +kernel, by decide +kernel⟩, List.mem_of_getElem? (i := 15) (by decide +kernel), List.mem_of_getElem? (i := 302) (by decide +kernel), List.mem_of_getElem? (i := 303) (by decide +kernel)⟩
theorem lw_p11 : lw_okq (⟨"OpenDeal", "awaitAll", "()V"⟩, 11) := ⟨⟨by decide +kernel, by decide +kernel⟩, List.mem_of_getElem? (i := 15) (by decide +kernel), List.mem_of_getElem? (i := 310) (by decide +kernel), List.mem_of_getElem? (i := 311) (by decide +kernel)⟩
theorem lw_p12 : lw_okq (⟨"OpenDeal", "countAbleToAct", "()I"⟩, 11) := ⟨⟨by decide +kernel, by decide +kernel⟩, List.mem_of_getElem? (i := 15) (by decide +kernel), List.mem_of_getElem? (i := 314) (by decide +kernel), List.mem_of_getElem? (i := 315) (by decide +kernel)⟩
theorem lw_p13 : lw_okq (⟨"OpenDeal", "nextToAct", "(I)I"⟩, 11) := ⟨⟨by decide +kernel, by decide +kernel⟩, List.mem_of_getElem? (i := 15) (by decide +kernel), List.mem_of_getElem? (i := 322) (by decide +kernel), List.mem_of_getElem? (i := 323) (by decide +kernel)⟩
theorem lw_p14 : lw_okq (⟨"OpenDeal", "mostInRound", "()I"⟩, 11) := ⟨⟨by decide +kernel, by decide +kernel⟩, List.mem_of_getElem? (i := 15) (by decide +kernel), List.mem_of_getElem? (i := 330) (by decide +kernel), List.mem_of_getElem? (i := 331) (by decide +kernel)⟩
theorem lw_p15 : lw_okq (⟨"OpenDeal", "goOnWithRound", "()V"⟩, 11) := ⟨⟨by decide +kernel, by decide +kernel⟩, List.mem_of_getElem? (i := 15) (by decide +kernel), List.mem_of_getElem? (i := 344) (by decide +kernel), List.mem_of_getElem? (i := 345) (by decide +kernel)⟩
def lw_privs_1 : List (MethodName × Nat) := [(⟨"OpenDeal", "countWithChips", "()I"⟩, 11), (⟨"OpenDeal", "isSeated", "(I)Z"⟩, 11), (⟨"OpenDeal$Draws", "nextExponent", "(I)I"⟩, 1), (⟨"OpenDeal$Draws", "next", "()I"⟩, 1), (⟨"OpenDeal", "allSealed", "()Z"⟩, 11), (⟨"OpenDeal", "nextToTurn", "()I"⟩, 11), (⟨"OpenDeal", "playerOfTurn", "(I)I"⟩, 11), (⟨"OpenDeal", "reckonTurn", "(ILOpenDeal$Secrets;[I)V"⟩, 11), (⟨"OpenDeal", "spoil", "([ILOpenDeal$Player;I)V"⟩, 11), (⟨"OpenDeal", "mayOpen", "(II)Z"⟩, 11), (⟨"OpenDeal", "cardOf", "(I)I"⟩, 11), (⟨"OpenDeal", "awaitAll", "()V"⟩, 11), (⟨"OpenDeal", "countAbleToAct", "()I"⟩, 11), (⟨"OpenDeal", "nextToAct", "(I)I"⟩, 11), (⟨"OpenDeal", "mostInRound", "()I"⟩, 11), (⟨"OpenDeal", "goOnWithRound", "()V"⟩, 11)]
theorem lw_r1 : ∀ q ∈ lw_privs_1, lw_okq q := List.forall_mem_cons.mpr ⟨lw_p0, List.forall_mem_cons.mpr ⟨lw_p1, List.forall_mem_cons.mpr ⟨lw_p2, List.forall_mem_cons.mpr ⟨lw_p3, List.forall_mem_cons.mpr ⟨lw_p4, List.forall_mem_cons.mpr ⟨lw_p5, List.forall_mem_cons.mpr ⟨lw_p6, List.forall_mem_cons.mpr ⟨lw_p7, List.forall_mem_cons.mpr ⟨lw_p8, List.forall_mem_cons.mpr ⟨lw_p9, List.forall_mem_cons.mpr ⟨lw_p10, List.forall_mem_cons.mpr ⟨lw_p11, List.forall_mem_cons.mpr ⟨lw_p12, List.forall_mem_cons.mpr ⟨lw_p13, List.forall_mem_cons.mpr ⟨lw_p14, List.forall_mem_cons.mpr ⟨lw_p15, fun _ h => absurd h List.not_mem_nil⟩⟩⟩⟩⟩⟩⟩⟩⟩⟩⟩⟩⟩⟩⟩⟩
theorem lw_p16 : lw_okq (⟨"OpenDeal", "countIn", "()I"⟩, 11) := ⟨⟨by decide +kernel, by decide +kernel⟩, List.mem_of_getElem? (i := 15) (by decide +kernel), List.mem_of_getElem? (i := 348) (by decide +kernel), List.mem_of_getElem? (i := 349) (by decide +kernel)⟩
theorem lw_p17 : lw_okq (⟨"OpenDeal", "leastInHand", "()I"⟩, 11) := ⟨⟨by decide +kernel, by decide +kernel⟩, List.mem_of_getElem? (i := 15) (by decide +kernel), List.mem_of_getElem? (i := 356) (by decide +kernel), List.mem_of_getElem? (i := 357) (by decide +kernel)⟩
theorem lw_p18 : lw_okq (⟨"OpenDeal", "payLayer", "(II)V"⟩, 11) := ⟨⟨by decide +kernel, by decide +kernel⟩, List.mem_of_getElem? (i := 15) (by decide +kernel), List.mem_of_getElem? (i := 360) (by decide +kernel), List.mem_of_getElem? (i := 361) (by decide +kernel)⟩
theorem lw_p19 : lw_okq (⟨"OpenDeal", "bestRank", "(I)I"⟩, 11) := ⟨⟨by decide +kernel, by decide +kernel⟩, List.mem_of_getElem? (i := 15) (by decide +kernel), List.mem_of_getElem? (i := 364) (by decide +kernel), List.mem_of_getElem? (i := 365) (by decide +kernel)⟩
theorem lw_p20 : lw_okq (⟨"OpenDeal", "winsLayer", "(III)Z"⟩, 11) := ⟨⟨by decide +kernel, by decide +kernel⟩, List.mem_of_getElem? (i := 15) (by decide +kernel), List.mem_of_getElem? (i := 375) (by decide +kernel), List.mem_of_getElem? (i := 376) (by decide +kernel)⟩
theorem lw_p21 : lw_okq (⟨"OpenDeal", "allShown", "()Z"⟩, 11) := ⟨⟨by decide +kernel, by decide +kernel⟩, List.mem_of_getElem? (i := 15) (by decide +kernel), List.mem_of_getElem? (i := 389) (by decide +kernel), List.mem_of_getElem? (i := 390) (by decide +kernel)⟩
theorem lw_p22 : lw_okq (⟨"OpenDeal", "reckonAudit", "()I"⟩, 11) := ⟨⟨by decide +kernel, by decide +kernel⟩, List.mem_of_getElem? (i := 15) (by decide +kernel), List.mem_of_getElem? (i := 393) (by decide +kernel), List.mem_of_getElem? (i := 394) (by decide +kernel)⟩
theorem lw_p23 : lw_okq (⟨"OpenDeal", "sumInHand", "()I"⟩, 11) := ⟨⟨by decide +kernel, by decide +kernel⟩, List.mem_of_getElem? (i := 15) (by decide +kernel), List.mem_of_getElem? (i := 413) (by decide +kernel), List.mem_of_getElem? (i := 414) (by decide +kernel)⟩
theorem lw_p24 : lw_okq (⟨"java/lang/Throwable", "fillInStackTrace", "(I)Ljava/lang/Throwable;"⟩, 6) := ⟨⟨by decide +kernel, by decide +kernel⟩, List.mem_of_getElem? (i := 470) (by decide +kernel), List.mem_of_getElem? (i := 468) (by decide +kernel), List.mem_of_getElem? (i := 469) (by decide +kernel)⟩
theorem lw_p25 : lw_okq (⟨"OpenDealModel", "beginDeck", "()V"⟩, 32) := ⟨⟨by decide +kernel, by decide +kernel⟩, List.mem_of_getElem? (i := 532) (by decide +kernel), List.mem_of_getElem? (i := 648) (by decide +kernel), List.mem_of_getElem? (i := 649) (by decide +kernel)⟩
theorem lw_p26 : lw_okq (⟨"OpenDealModel", "isPlayer", "(I)Z"⟩, 32) := ⟨⟨by decide +kernel, by decide +kernel⟩, List.mem_of_getElem? (i := 532) (by decide +kernel), List.mem_of_getElem? (i := 669) (by decide +kernel), List.mem_of_getElem? (i := 670) (by decide +kernel)⟩
theorem lw_p27 : lw_okq (⟨"OpenDealModel", "isExponent", "(I)Z"⟩, 32) := ⟨⟨by decide +kernel, by decide +kernel⟩, List.mem_of_getElem? (i := 532) (by decide +kernel), List.mem_of_getElem? (i := 673) (by decide +kernel), List.mem_of_getElem? (i := 674) (by decide +kernel)⟩
theorem lw_p28 : lw_okq (⟨"OpenDealModel", "raise", "(I)I"⟩, 32) := ⟨⟨by decide +kernel, by decide +kernel⟩, List.mem_of_getElem? (i := 532) (by decide +kernel), List.mem_of_getElem? (i := 686) (by decide +kernel), List.mem_of_getElem? (i := 687) (by decide +kernel)⟩
theorem lw_p29 : lw_okq (⟨"OpenDealModel", "makeOrder", "(J)V"⟩, 32) := ⟨⟨by decide +kernel, by decide +kernel⟩, List.mem_of_getElem? (i := 532) (by decide +kernel), List.mem_of_getElem? (i := 694) (by decide +kernel), List.mem_of_getElem? (i := 695) (by decide +kernel)⟩
theorem lw_p30 : lw_okq (⟨"OpenDealModel", "nextDraw", "()I"⟩, 32) := ⟨⟨by decide +kernel, by decide +kernel⟩, List.mem_of_getElem? (i := 532) (by decide +kernel), List.mem_of_getElem? (i := 698) (by decide +kernel), List.mem_of_getElem? (i := 699) (by decide +kernel)⟩
theorem lw_p31 : lw_okq (⟨"OpenDealModel", "makeLocks", "(J)V"⟩, 32) := ⟨⟨by decide +kernel, by decide +kernel⟩, List.mem_of_getElem? (i := 532) (by decide +kernel), List.mem_of_getElem? (i := 704) (by decide +kernel), List.mem_of_getElem? (i := 705) (by decide +kernel)⟩
def lw_privs_2 : List (MethodName × Nat) := [(⟨"OpenDeal", "countIn", "()I"⟩, 11), (⟨"OpenDeal", "leastInHand", "()I"⟩, 11), (⟨"OpenDeal", "payLayer", "(II)V"⟩, 11), (⟨"OpenDeal", "bestRank", "(I)I"⟩, 11), (⟨"OpenDeal", "winsLayer", "(III)Z"⟩, 11), (⟨"OpenDeal", "allShown", "()Z"⟩, 11), (⟨"OpenDeal", "reckonAudit", "()I"⟩, 11), (⟨"OpenDeal", "sumInHand", "()I"⟩, 11), (⟨"java/lang/Throwable", "fillInStackTrace", "(I)Ljava/lang/Throwable;"⟩, 6), (⟨"OpenDealModel", "beginDeck", "()V"⟩, 32), (⟨"OpenDealModel", "isPlayer", "(I)Z"⟩, 32), (⟨"OpenDealModel", "isExponent", "(I)Z"⟩, 32), (⟨"OpenDealModel", "raise", "(I)I"⟩, 32), (⟨"OpenDealModel", "makeOrder", "(J)V"⟩, 32), (⟨"OpenDealModel", "nextDraw", "()I"⟩, 32), (⟨"OpenDealModel", "makeLocks", "(J)V"⟩, 32)]
theorem lw_r2 : ∀ q ∈ lw_privs_2, lw_okq q := List.forall_mem_cons.mpr ⟨lw_p16, List.forall_mem_cons.mpr ⟨lw_p17, List.forall_mem_cons.mpr ⟨lw_p18, List.forall_mem_cons.mpr ⟨lw_p19, List.forall_mem_cons.mpr ⟨lw_p20, List.forall_mem_cons.mpr ⟨lw_p21, List.forall_mem_cons.mpr ⟨lw_p22, List.forall_mem_cons.mpr ⟨lw_p23, List.forall_mem_cons.mpr ⟨lw_p24, List.forall_mem_cons.mpr ⟨lw_p25, List.forall_mem_cons.mpr ⟨lw_p26, List.forall_mem_cons.mpr ⟨lw_p27, List.forall_mem_cons.mpr ⟨lw_p28, List.forall_mem_cons.mpr ⟨lw_p29, List.forall_mem_cons.mpr ⟨lw_p30, List.forall_mem_cons.mpr ⟨lw_p31, fun _ h => absurd h List.not_mem_nil⟩⟩⟩⟩⟩⟩⟩⟩⟩⟩⟩⟩⟩⟩⟩⟩
theorem lw_p32 : lw_okq (⟨"OpenDealModel", "lockedAt", "(III)I"⟩, 32) := ⟨⟨by decide +kernel, by decide +kernel⟩, List.mem_of_getElem? (i := 532) (by decide +kernel), List.mem_of_getElem? (i := 708) (by decide +kernel), List.mem_of_getElem? (i := 709) (by decide +kernel)⟩
theorem lw_p33 : lw_okq (⟨"OpenDealModel", "relockedAt", "(III)I"⟩, 32) := ⟨⟨by decide +kernel, by decide +kernel⟩, List.mem_of_getElem? (i := 532) (by decide +kernel), List.mem_of_getElem? (i := 715) (by decide +kernel), List.mem_of_getElem? (i := 716) (by decide +kernel)⟩
theorem lw_p34 : lw_okq (⟨"OpenDealModel", "inverse", "(I)I"⟩, 32) := ⟨⟨by decide +kernel, by decide +kernel⟩, List.mem_of_getElem? (i := 532) (by decide +kernel), List.mem_of_getElem? (i := 719) (by decide +kernel), List.mem_of_getElem? (i := 720) (by decide +kernel)⟩
theorem lw_p35 : lw_okq (⟨"OpenDealModel", "cheated", "(JII)I"⟩, 32) := ⟨⟨by decide +kernel, by decide +kernel⟩, List.mem_of_getElem? (i := 532) (by decide +kernel), List.mem_of_getElem? (i := 723) (by decide +kernel), List.mem_of_getElem? (i := 724) (by decide +kernel)⟩
theorem lw_p36 : lw_okq (⟨"OpenDealModel", "lockOf", "(II)I"⟩, 32) := ⟨⟨by decide +kernel, by decide +kernel⟩, List.mem_of_getElem? (i := 532) (by decide +kernel), List.mem_of_getElem? (i := 742) (by decide +kernel), List.mem_of_getElem? (i := 743) (by decide +kernel)⟩
theorem lw_p37 : lw_okq (⟨"OpenDealModel", "leastAbove", "(I)I"⟩, 32) := ⟨⟨by decide +kernel, by decide +kernel⟩, List.mem_of_getElem? (i := 532) (by decide +kernel), List.mem_of_getElem? (i := 746) (by decide +kernel), List.mem_of_getElem? (i := 747) (by decide +kernel)⟩
theorem lw_p38 : lw_okq (⟨"OpenDealModel", "canAct", "(I)Z"⟩, 32) := ⟨⟨by decide +kernel, by decide +kernel⟩, List.mem_of_getElem? (i := 532) (by decide +kernel), List.mem_of_getElem? (i := 758) (by decide +kernel), List.mem_of_getElem? (i := 759) (by decide +kernel)⟩
theorem lw_p39 : lw_okq (⟨"OpenDealModel", "findNext", "(I)V"⟩, 32) := ⟨⟨by decide +kernel, by decide +kernel⟩, List.mem_of_getElem? (i := 532) (by decide +kernel), List.mem_of_getElem? (i := 762) (by decide +kernel), List.mem_of_getElem? (i := 763) (by decide +kernel)⟩
theorem lw_p40 : lw_okq (⟨"OpenDealModel", "many", "()I"⟩, 32) := ⟨⟨by decide +kernel, by decide +kernel⟩, List.mem_of_getElem? (i := 532) (by decide +kernel), List.mem_of_getElem? (i := 766) (by decide +kernel), List.mem_of_getElem? (i := 767) (by decide +kernel)⟩
theorem lw_p41 : lw_okq (⟨"OpenDealModel", "endRound", "()V"⟩, 32) := ⟨⟨by decide +kernel, by decide +kernel⟩, List.mem_of_getElem? (i := 532) (by decide +kernel), List.mem_of_getElem? (i := 770) (by decide +kernel), List.mem_of_getElem? (i := 771) (by decide +kernel)⟩
theorem lw_p42 : lw_okq (⟨"OpenDealModel", "most", "()I"⟩, 32) := ⟨⟨by decide +kernel, by decide +kernel⟩, List.mem_of_getElem? (i := 532) (by decide +kernel), List.mem_of_getElem? (i := 778) (by decide +kernel), List.mem_of_getElem? (i := 779) (by decide +kernel)⟩
theorem lw_p43 : lw_okq (⟨"OpenDealModel", "pay", "(II)V"⟩, 32) := ⟨⟨by decide +kernel, by decide +kernel⟩, List.mem_of_getElem? (i := 532) (by decide +kernel), List.mem_of_getElem? (i := 782) (by decide +kernel), List.mem_of_getElem? (i := 783) (by decide +kernel)⟩
theorem lw_p44 : lw_okq (⟨"OpenDealModel", "payLayer", "(I)Z"⟩, 32) := ⟨⟨by decide +kernel, by decide +kernel⟩, List.mem_of_getElem? (i := 532) (by decide +kernel), List.mem_of_getElem? (i := 790) (by decide +kernel), List.mem_of_getElem? (i := 791) (by decide +kernel)⟩
theorem lw_p45 : lw_okq (⟨"OpenDealModel", "fitsLocked", "(I)Z"⟩, 32) := ⟨⟨by decide +kernel, by decide +kernel⟩, List.mem_of_getElem? (i := 532) (by decide +kernel), List.mem_of_getElem? (i := 802) (by decide +kernel), List.mem_of_getElem? (i := 803) (by decide +kernel)⟩
theorem lw_p46 : lw_okq (⟨"OpenDealModel", "fitsRelocked", "(I)Z"⟩, 32) := ⟨⟨by decide +kernel, by decide +kernel⟩, List.mem_of_getElem? (i := 532) (by decide +kernel), List.mem_of_getElem? (i := 806) (by decide +kernel), List.mem_of_getElem? (i := 807) (by decide +kernel)⟩
def lw_privs_3 : List (MethodName × Nat) := [(⟨"OpenDealModel", "lockedAt", "(III)I"⟩, 32), (⟨"OpenDealModel", "relockedAt", "(III)I"⟩, 32), (⟨"OpenDealModel", "inverse", "(I)I"⟩, 32), (⟨"OpenDealModel", "cheated", "(JII)I"⟩, 32), (⟨"OpenDealModel", "lockOf", "(II)I"⟩, 32), (⟨"OpenDealModel", "leastAbove", "(I)I"⟩, 32), (⟨"OpenDealModel", "canAct", "(I)Z"⟩, 32), (⟨"OpenDealModel", "findNext", "(I)V"⟩, 32), (⟨"OpenDealModel", "many", "()I"⟩, 32), (⟨"OpenDealModel", "endRound", "()V"⟩, 32), (⟨"OpenDealModel", "most", "()I"⟩, 32), (⟨"OpenDealModel", "pay", "(II)V"⟩, 32), (⟨"OpenDealModel", "payLayer", "(I)Z"⟩, 32), (⟨"OpenDealModel", "fitsLocked", "(I)Z"⟩, 32), (⟨"OpenDealModel", "fitsRelocked", "(I)Z"⟩, 32)]
theorem lw_r3 : ∀ q ∈ lw_privs_3, lw_okq q := List.forall_mem_cons.mpr ⟨lw_p32, List.forall_mem_cons.mpr ⟨lw_p33, List.forall_mem_cons.mpr ⟨lw_p34, List.forall_mem_cons.mpr ⟨lw_p35, List.forall_mem_cons.mpr ⟨lw_p36, List.forall_mem_cons.mpr ⟨lw_p37, List.forall_mem_cons.mpr ⟨lw_p38, List.forall_mem_cons.mpr ⟨lw_p39, List.forall_mem_cons.mpr ⟨lw_p40, List.forall_mem_cons.mpr ⟨lw_p41, List.forall_mem_cons.mpr ⟨lw_p42, List.forall_mem_cons.mpr ⟨lw_p43, List.forall_mem_cons.mpr ⟨lw_p44, List.forall_mem_cons.mpr ⟨lw_p45, List.forall_mem_cons.mpr ⟨lw_p46, fun _ h => absurd h List.not_mem_nil⟩⟩⟩⟩⟩⟩⟩⟩⟩⟩⟩⟩⟩⟩⟩
def lw_privs : List (MethodName × Nat) := lw_privs_1 ++ (lw_privs_2 ++ (lw_privs_3))
def lw_tbl : List Cond := k2_sels lw_privs ++ tables_1
theorem lw_privs_ok : ∀ q ∈ lw_privs, lw_okq q := by
  show ∀ q ∈ lw_privs_1 ++ (lw_privs_2 ++ (lw_privs_3)), lw_okq q
  exact List.forall_mem_append.mpr ⟨lw_r1, List.forall_mem_append.mpr ⟨lw_r2, lw_r3⟩⟩
end
section
/-! own rows: the words, the let, the branches, calls that only read -/
def kw : List Cond := lw_tbl.filter goodWord
theorem kw_of {w : Cond} (h : w ∈ lw_tbl) (g : goodWord w = true) : w ∈ kw := List.mem_filter.mpr ⟨h, g⟩
theorem kw_good {ws : List Cond} (h : ∀ w ∈ ws, w ∈ kw) : GoodIn kw ws := fun w hw => ⟨h w hw, good_of_word (List.mem_filter.mp (h w hw)).2⟩
theorem kw_cons {c w : Cond} (h : c ∈ kw) (hw : w ∈ c :: kw) : w ∈ kw := by
  rcases List.mem_cons.mp hw with rfl | hw
  · exact h
  · exact hw
def tl {α β : Type} (e : α) (f : α → Option β) : Option β := f e
theorem tl_at {α β : Type} {e x : α} {f : α → Option β} {r : β} (hx : x = e) (h : tl e f = some r) : f x = some r := by subst hx; exact h
theorem tl_eq {α β : Type} (e : α) (f : α → Option β) : tl e f = f e := rfl
theorem ob_out {α β : Type} {x : Option α} {f : α → Option β} {r : β} (h : x.bind f = some r) : ∃ v, x = some v ∧ f v = some r := by
  cases x with
  | none => cases h
  | some v => exact ⟨v, rfl, h⟩
theorem oi_out {β : Type} {c : Prop} {d : Decidable c} {a : Option β} {r : β} (h : (if c then a else none) = some r) : c ∧ a = some r := by
  by_cases hc : c
  · rw [if_pos hc] at h
    exact ⟨hc, h⟩
  · rw [if_neg hc] at h
    cases h
theorem ip_out {β : Type} {c : Prop} {d : Decidable c} {a b : Option β} {r : β} (hc : c) (h : (if c then a else b) = some r) : a = some r := by rw [if_pos hc] at h; exact h
theorem in_out {β : Type} {c : Prop} {d : Decidable c} {a b : Option β} {r : β} (hc : ¬ c) (h : (if c then a else b) = some r) : b = some r := by rw [if_neg hc] at h; exact h
section ROC
variable {p : Program} {l : Launch} {e : Env} {R : Room} {s : State} {m : MethodId} {args : Array Value} {below : List Frame} {meth : Method} {c : Code} {H : Heap} {locs : List Loc} {cells slots : Nat} {Q : State → Prop}
variable {cc bytes : ByteArray} {pc nL maxL index n : Nat} {ls : Array Slot} {As rest st0 : List Value} {own : String} {y : MethodName} {ret : Option FieldType} {rm : Room} {B : State → Prop}
theorem ro_Si {v : Int32} (hx : p.tables.exec = Jvm.exec) (hb : c.code = cc) (hml : c.maxLocals = nL) (hown : s.vm.findClass own = some m.cls) (hk : ∀ w ∈ kw, w.before args s = true)
    (hM : Met l y (Cond.code y bytes maxL ret :: kw) rm (va_Pc As B) (vp_Si (fun z => z = v)) 0 0 (fun _ => False)) (hB : ∀ U : State, U.heap = H → s.WarmedH U.vm → B U) (hbl : ∀ (U : State) (g : JFrame) (mk : MethodId) (a : Array Value), B U → B (U.calling g mk a))
    (w1 : Cond.methodLink own index y ∈ kw) (w2 : Cond.static y ∈ kw) (w3 : Cond.initialized y.cls ∈ kw) (w4 : Cond.code y bytes maxL ret ∈ kw) (hrm : rm.cells = 0 ∧ rm.slots = 0)
    (hd : y.cls ≠ "java/lang/invoke/MethodHandle" ∧ y.cls ≠ "java/lang/invoke/VarHandle" ∧ (parseMethodDescriptor y.desc).map (fun d => d.parameters.length) = some n) (hR : rm.frames + 1 ≤ R.frames ∧ 8 + (maxL + 11) + rm.locals ≤ R.locals)
    (hn : As.length = n) (hsize : ls.size = nL) (hst : st0 = As.reverse ++ rest) (hW : (rest.map fun v => v.category).sum ≤ 8) (hdg : decode cc pc = .ok (.invokestatic index, 3)) (hcs : cells ≤ R.cells ∧ slots ≤ R.slots)
    (kk : W p l e R s m args below meth c H locs cells slots Q (F0 m (pc + 3) ls (.int v :: rest))) : W p l e R s m args below meth c H locs cells slots Q (F0 m pc ls st0) := by
  refine vp_callSi (W.runS (Ts := kw) (As := As) ⟨hx, hb, hml, hown, hk⟩ hM (va_cwS n hk (kw_good (fun w hw => ?_)) rfl hrm.1 hrm.2 hd hR) ⟨fun a U g mk q => ⟨q.1, hbl U g mk a q.2⟩, fun U hU hW => ⟨rfl, hB U hU hW⟩⟩ rfl hn hsize hst (lv_room hW) hdg hcs) (fun r hr => ?_)
  · unfold va_wsS at hw
    rcases List.mem_append.mp hw with h | h
    · simp only [List.mem_cons, List.not_mem_nil, or_false] at h
      rcases h with rfl | rfl | rfl
      · exact w1
      · exact w2
      · exact w3
    · exact kw_cons w4 h
  · subst hr
    exact kk
theorem ro_Sl {v : Int64} (hx : p.tables.exec = Jvm.exec) (hb : c.code = cc) (hml : c.maxLocals = nL) (hown : s.vm.findClass own = some m.cls) (hk : ∀ w ∈ kw, w.before args s = true)
    (hM : Met l y (Cond.code y bytes maxL ret :: kw) rm (va_Pc As B) (vp_Sl (fun z => z = v)) 0 0 (fun _ => False)) (hB : ∀ U : State, U.heap = H → s.WarmedH U.vm → B U) (hbl : ∀ (U : State) (g : JFrame) (mk : MethodId) (a : Array Value), B U → B (U.calling g mk a))
    (w1 : Cond.methodLink own index y ∈ kw) (w2 : Cond.static y ∈ kw) (w3 : Cond.initialized y.cls ∈ kw) (w4 : Cond.code y bytes maxL ret ∈ kw) (hrm : rm.cells = 0 ∧ rm.slots = 0)
    (hd : y.cls ≠ "java/lang/invoke/MethodHandle" ∧ y.cls ≠ "java/lang/invoke/VarHandle" ∧ (parseMethodDescriptor y.desc).map (fun d => d.parameters.length) = some n) (hR : rm.frames + 1 ≤ R.frames ∧ 8 + (maxL + 11) + rm.locals ≤ R.locals)
    (hn : As.length = n) (hsize : ls.size = nL) (hst : st0 = As.reverse ++ rest) (hW : (rest.map fun v => v.category).sum ≤ 8) (hdg : decode cc pc = .ok (.invokestatic index, 3)) (hcs : cells ≤ R.cells ∧ slots ≤ R.slots)
    (kk : W p l e R s m args below meth c H locs cells slots Q (F0 m (pc + 3) ls (.long v :: rest))) : W p l e R s m args below meth c H locs cells slots Q (F0 m pc ls st0) := by
  refine vp_callSl (W.runS (Ts := kw) (As := As) ⟨hx, hb, hml, hown, hk⟩ hM (va_cwS n hk (kw_good (fun w hw => ?_)) rfl hrm.1 hrm.2 hd hR) ⟨fun a U g mk q => ⟨q.1, hbl U g mk a q.2⟩, fun U hU hW => ⟨rfl, hB U hU hW⟩⟩ rfl hn hsize hst (lv_room hW) hdg hcs) (fun r hr => ?_)
  · unfold va_wsS at hw
    rcases List.mem_append.mp hw with h | h
    · simp only [List.mem_cons, List.not_mem_nil, or_false] at h
      rcases h with rfl | rfl | rfl
      · exact w1
      · exact w2
      · exact w3
    · exact kw_cons w4 h
  · subst hr
    exact kk
end ROC
end
section
/-! names and decode rows, laid by program -/
abbrev cc_N_times : ByteArray := prog_3_method_9_code
abbrev yy_N_times : MethodName := ⟨"OpenDeal$Numbers", "times", "(III)I"⟩
abbrev cc_N_power : ByteArray := prog_3_method_10_code
abbrev yy_N_power : MethodName := ⟨"OpenDeal$Numbers", "power", "(III)I"⟩
abbrev cc_N_ofCard : ByteArray := prog_3_method_5_code
abbrev yy_N_ofCard : MethodName := ⟨"OpenDeal$Numbers", "ofCard", "(II)I"⟩
abbrev cc_N_isExponent : ByteArray := prog_3_method_6_code
abbrev yy_N_isExponent : MethodName := ⟨"OpenDeal$Numbers", "isExponent", "(II)Z"⟩
abbrev cc_N_exponentAbove : ByteArray := prog_3_method_7_code
abbrev yy_N_exponentAbove : MethodName := ⟨"OpenDeal$Numbers", "exponentAbove", "(II)I"⟩
abbrev cc_N_inverse : ByteArray := prog_3_method_8_code
abbrev yy_N_inverse : MethodName := ⟨"OpenDeal$Numbers", "inverse", "(II)I"⟩
abbrev cc_N_looksPrime : ByteArray := prog_3_method_4_code
abbrev yy_N_looksPrime : MethodName := ⟨"OpenDeal$Numbers", "looksPrime", "(II)Z"⟩
abbrev cc_M_isPrime : ByteArray := prog_7_method_4_code
abbrev yy_M_isPrime : MethodName := ⟨"OpenDealModel", "isPrime", "(I)Z"⟩
abbrev cc_M_power : ByteArray := prog_7_method_12_code
abbrev yy_M_power : MethodName := ⟨"OpenDealModel", "power", "(III)I"⟩
abbrev cc_M_isPlace : ByteArray := prog_7_method_10_code
abbrev yy_M_isPlace : MethodName := ⟨"OpenDealModel", "isPlace", "(I)Z"⟩
abbrev cc_O_isPlace : ByteArray := prog_1_method_22_code
abbrev yy_O_isPlace : MethodName := ⟨"OpenDeal", "isPlace", "(I)Z"⟩
abbrev cc_O_rankOf : ByteArray := prog_1_method_43_code
abbrev yy_O_rankOf : MethodName := ⟨"OpenDeal", "rankOf", "(II)I"⟩
abbrev cc_M_sealOf : ByteArray := prog_7_method_19_code
abbrev yy_M_sealOf : MethodName := ⟨"OpenDealModel", "sealOf", "(IJJ)J"⟩
theorem dd_N_times_0 : decode cc_N_times 0 = .ok (.iload_n 2, 1) := by decide +kernel
theorem dd_N_times_1 : decode cc_N_times 1 = .ok (.ifCond .le (15), 3) := by decide +kernel
theorem dd_N_times_4 : decode cc_N_times 4 = .ok (.iload_n 0, 1) := by decide +kernel
theorem dd_N_times_5 : decode cc_N_times 5 = .ok (.i2l, 1) := by decide +kernel
theorem dd_N_times_6 : decode cc_N_times 6 = .ok (.iload_n 1, 1) := by decide +kernel
theorem dd_N_times_7 : decode cc_N_times 7 = .ok (.i2l, 1) := by decide +kernel
theorem dd_N_times_8 : decode cc_N_times 8 = .ok (.lmul, 1) := by decide +kernel
theorem dd_N_times_9 : decode cc_N_times 9 = .ok (.iload_n 2, 1) := by decide +kernel
theorem dd_N_times_10 : decode cc_N_times 10 = .ok (.i2l, 1) := by decide +kernel
theorem dd_N_times_11 : decode cc_N_times 11 = .ok (.lrem, 1) := by decide +kernel
theorem dd_N_times_12 : decode cc_N_times 12 = .ok (.l2i, 1) := by decide +kernel
theorem dd_N_times_13 : decode cc_N_times 13 = .ok (.goto (4), 3) := by decide +kernel
theorem dd_N_times_16 : decode cc_N_times 16 = .ok (.iconst 0, 1) := by decide +kernel
theorem dd_N_times_17 : decode cc_N_times 17 = .ok (.ireturn, 1) := by decide +kernel
theorem dd_N_power_0 : decode cc_N_power 0 = .ok (.iconst 1, 1) := by decide +kernel
theorem dd_N_power_1 : decode cc_N_power 1 = .ok (.istore_n 3, 1) := by decide +kernel
theorem dd_N_power_2 : decode cc_N_power 2 = .ok (.iload_n 0, 1) := by decide +kernel
theorem dd_N_power_3 : decode cc_N_power 3 = .ok (.istore 4, 2) := by decide +kernel
theorem dd_N_power_5 : decode cc_N_power 5 = .ok (.iload_n 1, 1) := by decide +kernel
theorem dd_N_power_6 : decode cc_N_power 6 = .ok (.istore 5, 2) := by decide +kernel
theorem dd_N_power_8 : decode cc_N_power 8 = .ok (.iload 5, 2) := by decide +kernel
theorem dd_N_power_10 : decode cc_N_power 10 = .ok (.ifCond .le (38), 3) := by decide +kernel
theorem dd_N_power_13 : decode cc_N_power 13 = .ok (.iload 5, 2) := by decide +kernel
theorem dd_N_power_15 : decode cc_N_power 15 = .ok (.iconst 2, 1) := by decide +kernel
theorem dd_N_power_16 : decode cc_N_power 16 = .ok (.irem, 1) := by decide +kernel
theorem dd_N_power_17 : decode cc_N_power 17 = .ok (.iconst 1, 1) := by decide +kernel
theorem dd_N_power_18 : decode cc_N_power 18 = .ok (.if_icmp .ne (11), 3) := by decide +kernel
theorem dd_N_power_21 : decode cc_N_power 21 = .ok (.iload_n 3, 1) := by decide +kernel
theorem dd_N_power_22 : decode cc_N_power 22 = .ok (.iload 4, 2) := by decide +kernel
theorem dd_N_power_24 : decode cc_N_power 24 = .ok (.iload_n 2, 1) := by decide +kernel
theorem dd_N_power_25 : decode cc_N_power 25 = .ok (.invokestatic 26, 3) := by decide +kernel
theorem dd_N_power_28 : decode cc_N_power 28 = .ok (.istore_n 3, 1) := by decide +kernel
theorem dd_N_power_29 : decode cc_N_power 29 = .ok (.iload 4, 2) := by decide +kernel
theorem dd_N_power_31 : decode cc_N_power 31 = .ok (.iload 4, 2) := by decide +kernel
theorem dd_N_power_33 : decode cc_N_power 33 = .ok (.iload_n 2, 1) := by decide +kernel
theorem dd_N_power_34 : decode cc_N_power 34 = .ok (.invokestatic 26, 3) := by decide +kernel
theorem dd_N_power_37 : decode cc_N_power 37 = .ok (.istore 4, 2) := by decide +kernel
theorem dd_N_power_39 : decode cc_N_power 39 = .ok (.iload 5, 2) := by decide +kernel
theorem dd_N_power_41 : decode cc_N_power 41 = .ok (.iconst 2, 1) := by decide +kernel
theorem dd_N_power_42 : decode cc_N_power 42 = .ok (.idiv, 1) := by decide +kernel
theorem dd_N_power_43 : decode cc_N_power 43 = .ok (.istore 5, 2) := by decide +kernel
theorem dd_N_power_45 : decode cc_N_power 45 = .ok (.goto (-37), 3) := by decide +kernel
theorem dd_N_power_48 : decode cc_N_power 48 = .ok (.iload_n 3, 1) := by decide +kernel
theorem dd_N_power_49 : decode cc_N_power 49 = .ok (.ireturn, 1) := by decide +kernel
theorem dd_N_ofCard_0 : decode cc_N_ofCard 0 = .ok (.iload_n 0, 1) := by decide +kernel
theorem dd_N_ofCard_1 : decode cc_N_ofCard 1 = .ok (.iconst 2, 1) := by decide +kernel
theorem dd_N_ofCard_2 : decode cc_N_ofCard 2 = .ok (.iadd, 1) := by decide +kernel
theorem dd_N_ofCard_3 : decode cc_N_ofCard 3 = .ok (.iload_n 0, 1) := by decide +kernel
theorem dd_N_ofCard_4 : decode cc_N_ofCard 4 = .ok (.iconst 2, 1) := by decide +kernel
theorem dd_N_ofCard_5 : decode cc_N_ofCard 5 = .ok (.iadd, 1) := by decide +kernel
theorem dd_N_ofCard_6 : decode cc_N_ofCard 6 = .ok (.iload_n 1, 1) := by decide +kernel
theorem dd_N_ofCard_7 : decode cc_N_ofCard 7 = .ok (.invokestatic 26, 3) := by decide +kernel
theorem dd_N_ofCard_10 : decode cc_N_ofCard 10 = .ok (.ireturn, 1) := by decide +kernel
theorem dd_N_isExponent_0 : decode cc_N_isExponent 0 = .ok (.iload_n 0, 1) := by decide +kernel
theorem dd_N_isExponent_1 : decode cc_N_isExponent 1 = .ok (.iconst 3, 1) := by decide +kernel
theorem dd_N_isExponent_2 : decode cc_N_isExponent 2 = .ok (.if_icmp .lt (30), 3) := by decide +kernel
theorem dd_N_isExponent_5 : decode cc_N_isExponent 5 = .ok (.iload_n 0, 1) := by decide +kernel
theorem dd_N_isExponent_6 : decode cc_N_isExponent 6 = .ok (.iload_n 1, 1) := by decide +kernel
theorem dd_N_isExponent_7 : decode cc_N_isExponent 7 = .ok (.iconst 2, 1) := by decide +kernel
theorem dd_N_isExponent_8 : decode cc_N_isExponent 8 = .ok (.isub, 1) := by decide +kernel
theorem dd_N_isExponent_9 : decode cc_N_isExponent 9 = .ok (.if_icmp .gt (23), 3) := by decide +kernel
theorem dd_N_isExponent_12 : decode cc_N_isExponent 12 = .ok (.iload_n 0, 1) := by decide +kernel
theorem dd_N_isExponent_13 : decode cc_N_isExponent 13 = .ok (.iconst 2, 1) := by decide +kernel
theorem dd_N_isExponent_14 : decode cc_N_isExponent 14 = .ok (.irem, 1) := by decide +kernel
theorem dd_N_isExponent_15 : decode cc_N_isExponent 15 = .ok (.iconst 1, 1) := by decide +kernel
theorem dd_N_isExponent_16 : decode cc_N_isExponent 16 = .ok (.if_icmp .ne (16), 3) := by decide +kernel
theorem dd_N_isExponent_19 : decode cc_N_isExponent 19 = .ok (.iload_n 0, 1) := by decide +kernel
theorem dd_N_isExponent_20 : decode cc_N_isExponent 20 = .ok (.iload_n 1, 1) := by decide +kernel
theorem dd_N_isExponent_21 : decode cc_N_isExponent 21 = .ok (.iconst 1, 1) := by decide +kernel
theorem dd_N_isExponent_22 : decode cc_N_isExponent 22 = .ok (.isub, 1) := by decide +kernel
theorem dd_N_isExponent_23 : decode cc_N_isExponent 23 = .ok (.iconst 2, 1) := by decide +kernel
theorem dd_N_isExponent_24 : decode cc_N_isExponent 24 = .ok (.idiv, 1) := by decide +kernel
theorem dd_N_isExponent_25 : decode cc_N_isExponent 25 = .ok (.if_icmp .eq (7), 3) := by decide +kernel
theorem dd_N_isExponent_28 : decode cc_N_isExponent 28 = .ok (.iconst 1, 1) := by decide +kernel
theorem dd_N_isExponent_29 : decode cc_N_isExponent 29 = .ok (.goto (4), 3) := by decide +kernel
theorem dd_N_isExponent_32 : decode cc_N_isExponent 32 = .ok (.iconst 0, 1) := by decide +kernel
theorem dd_N_isExponent_33 : decode cc_N_isExponent 33 = .ok (.ireturn, 1) := by decide +kernel
theorem dd_N_exponentAbove_0 : decode cc_N_exponentAbove 0 = .ok (.iload_n 0, 1) := by decide +kernel
theorem dd_N_exponentAbove_1 : decode cc_N_exponentAbove 1 = .ok (.iconst 1, 1) := by decide +kernel
theorem dd_N_exponentAbove_2 : decode cc_N_exponentAbove 2 = .ok (.iadd, 1) := by decide +kernel
theorem dd_N_exponentAbove_3 : decode cc_N_exponentAbove 3 = .ok (.istore_n 2, 1) := by decide +kernel
theorem dd_N_exponentAbove_4 : decode cc_N_exponentAbove 4 = .ok (.iload_n 2, 1) := by decide +kernel
theorem dd_N_exponentAbove_5 : decode cc_N_exponentAbove 5 = .ok (.iload_n 1, 1) := by decide +kernel
theorem dd_N_exponentAbove_6 : decode cc_N_exponentAbove 6 = .ok (.iconst 2, 1) := by decide +kernel
theorem dd_N_exponentAbove_7 : decode cc_N_exponentAbove 7 = .ok (.isub, 1) := by decide +kernel
theorem dd_N_exponentAbove_8 : decode cc_N_exponentAbove 8 = .ok (.if_icmp .gt (19), 3) := by decide +kernel
theorem dd_N_exponentAbove_11 : decode cc_N_exponentAbove 11 = .ok (.iload_n 2, 1) := by decide +kernel
theorem dd_N_exponentAbove_12 : decode cc_N_exponentAbove 12 = .ok (.iload_n 1, 1) := by decide +kernel
theorem dd_N_exponentAbove_13 : decode cc_N_exponentAbove 13 = .ok (.invokestatic 29, 3) := by decide +kernel
theorem dd_N_exponentAbove_16 : decode cc_N_exponentAbove 16 = .ok (.ifCond .eq (5), 3) := by decide +kernel
theorem dd_N_exponentAbove_19 : decode cc_N_exponentAbove 19 = .ok (.iload_n 2, 1) := by decide +kernel
theorem dd_N_exponentAbove_20 : decode cc_N_exponentAbove 20 = .ok (.ireturn, 1) := by decide +kernel
theorem dd_N_exponentAbove_21 : decode cc_N_exponentAbove 21 = .ok (.iinc 2 (1), 3) := by decide +kernel
theorem dd_N_exponentAbove_24 : decode cc_N_exponentAbove 24 = .ok (.goto (-20), 3) := by decide +kernel
theorem dd_N_exponentAbove_27 : decode cc_N_exponentAbove 27 = .ok (.iconst 3, 1) := by decide +kernel
theorem dd_N_exponentAbove_28 : decode cc_N_exponentAbove 28 = .ok (.ireturn, 1) := by decide +kernel
theorem dd_N_inverse_0 : decode cc_N_inverse 0 = .ok (.iload_n 0, 1) := by decide +kernel
theorem dd_N_inverse_1 : decode cc_N_inverse 1 = .ok (.iload_n 1, 1) := by decide +kernel
theorem dd_N_inverse_2 : decode cc_N_inverse 2 = .ok (.iconst 1, 1) := by decide +kernel
theorem dd_N_inverse_3 : decode cc_N_inverse 3 = .ok (.isub, 1) := by decide +kernel
theorem dd_N_inverse_4 : decode cc_N_inverse 4 = .ok (.iconst 2, 1) := by decide +kernel
theorem dd_N_inverse_5 : decode cc_N_inverse 5 = .ok (.idiv, 1) := by decide +kernel
theorem dd_N_inverse_6 : decode cc_N_inverse 6 = .ok (.iconst 2, 1) := by decide +kernel
theorem dd_N_inverse_7 : decode cc_N_inverse 7 = .ok (.isub, 1) := by decide +kernel
theorem dd_N_inverse_8 : decode cc_N_inverse 8 = .ok (.iload_n 1, 1) := by decide +kernel
theorem dd_N_inverse_9 : decode cc_N_inverse 9 = .ok (.iconst 1, 1) := by decide +kernel
theorem dd_N_inverse_10 : decode cc_N_inverse 10 = .ok (.isub, 1) := by decide +kernel
theorem dd_N_inverse_11 : decode cc_N_inverse 11 = .ok (.invokestatic 22, 3) := by decide +kernel
theorem dd_N_inverse_14 : decode cc_N_inverse 14 = .ok (.ireturn, 1) := by decide +kernel
theorem dd_N_looksPrime_0 : decode cc_N_looksPrime 0 = .ok (.iload_n 0, 1) := by decide +kernel
theorem dd_N_looksPrime_1 : decode cc_N_looksPrime 1 = .ok (.iconst 1, 1) := by decide +kernel
theorem dd_N_looksPrime_2 : decode cc_N_looksPrime 2 = .ok (.isub, 1) := by decide +kernel
theorem dd_N_looksPrime_3 : decode cc_N_looksPrime 3 = .ok (.istore_n 2, 1) := by decide +kernel
theorem dd_N_looksPrime_4 : decode cc_N_looksPrime 4 = .ok (.iconst 0, 1) := by decide +kernel
theorem dd_N_looksPrime_5 : decode cc_N_looksPrime 5 = .ok (.istore_n 3, 1) := by decide +kernel
theorem dd_N_looksPrime_6 : decode cc_N_looksPrime 6 = .ok (.iconst 0, 1) := by decide +kernel
theorem dd_N_looksPrime_7 : decode cc_N_looksPrime 7 = .ok (.istore 4, 2) := by decide +kernel
theorem dd_N_looksPrime_9 : decode cc_N_looksPrime 9 = .ok (.iload 4, 2) := by decide +kernel
theorem dd_N_looksPrime_11 : decode cc_N_looksPrime 11 = .ok (.bipush (31), 2) := by decide +kernel
theorem dd_N_looksPrime_13 : decode cc_N_looksPrime 13 = .ok (.if_icmp .ge (22), 3) := by decide +kernel
theorem dd_N_looksPrime_16 : decode cc_N_looksPrime 16 = .ok (.iload_n 2, 1) := by decide +kernel
theorem dd_N_looksPrime_17 : decode cc_N_looksPrime 17 = .ok (.iconst 2, 1) := by decide +kernel
theorem dd_N_looksPrime_18 : decode cc_N_looksPrime 18 = .ok (.irem, 1) := by decide +kernel
theorem dd_N_looksPrime_19 : decode cc_N_looksPrime 19 = .ok (.ifCond .ne (16), 3) := by decide +kernel
theorem dd_N_looksPrime_22 : decode cc_N_looksPrime 22 = .ok (.iload_n 2, 1) := by decide +kernel
theorem dd_N_looksPrime_23 : decode cc_N_looksPrime 23 = .ok (.iconst 2, 1) := by decide +kernel
theorem dd_N_looksPrime_24 : decode cc_N_looksPrime 24 = .ok (.idiv, 1) := by decide +kernel
theorem dd_N_looksPrime_25 : decode cc_N_looksPrime 25 = .ok (.istore_n 2, 1) := by decide +kernel
theorem dd_N_looksPrime_26 : decode cc_N_looksPrime 26 = .ok (.iinc 3 (1), 3) := by decide +kernel
theorem dd_N_looksPrime_29 : decode cc_N_looksPrime 29 = .ok (.iinc 4 (1), 3) := by decide +kernel
theorem dd_N_looksPrime_32 : decode cc_N_looksPrime 32 = .ok (.goto (-23), 3) := by decide +kernel
theorem dd_N_looksPrime_35 : decode cc_N_looksPrime 35 = .ok (.iload_n 1, 1) := by decide +kernel
theorem dd_N_looksPrime_36 : decode cc_N_looksPrime 36 = .ok (.iload_n 2, 1) := by decide +kernel
theorem dd_N_looksPrime_37 : decode cc_N_looksPrime 37 = .ok (.iload_n 0, 1) := by decide +kernel
theorem dd_N_looksPrime_38 : decode cc_N_looksPrime 38 = .ok (.invokestatic 22, 3) := by decide +kernel
theorem dd_N_looksPrime_41 : decode cc_N_looksPrime 41 = .ok (.istore 4, 2) := by decide +kernel
theorem dd_N_looksPrime_43 : decode cc_N_looksPrime 43 = .ok (.iload 4, 2) := by decide +kernel
theorem dd_N_looksPrime_45 : decode cc_N_looksPrime 45 = .ok (.iconst 1, 1) := by decide +kernel
theorem dd_N_looksPrime_46 : decode cc_N_looksPrime 46 = .ok (.if_icmp .eq (11), 3) := by decide +kernel
theorem dd_N_looksPrime_49 : decode cc_N_looksPrime 49 = .ok (.iload 4, 2) := by decide +kernel
theorem dd_N_looksPrime_51 : decode cc_N_looksPrime 51 = .ok (.iload_n 0, 1) := by decide +kernel
theorem dd_N_looksPrime_52 : decode cc_N_looksPrime 52 = .ok (.iconst 1, 1) := by decide +kernel
theorem dd_N_looksPrime_53 : decode cc_N_looksPrime 53 = .ok (.isub, 1) := by decide +kernel
theorem dd_N_looksPrime_54 : decode cc_N_looksPrime 54 = .ok (.if_icmp .ne (5), 3) := by decide +kernel
theorem dd_N_looksPrime_57 : decode cc_N_looksPrime 57 = .ok (.iconst 1, 1) := by decide +kernel
theorem dd_N_looksPrime_58 : decode cc_N_looksPrime 58 = .ok (.ireturn, 1) := by decide +kernel
theorem dd_N_looksPrime_59 : decode cc_N_looksPrime 59 = .ok (.iconst 1, 1) := by decide +kernel
theorem dd_N_looksPrime_60 : decode cc_N_looksPrime 60 = .ok (.istore 5, 2) := by decide +kernel
theorem dd_N_looksPrime_62 : decode cc_N_looksPrime 62 = .ok (.iload 5, 2) := by decide +kernel
theorem dd_N_looksPrime_64 : decode cc_N_looksPrime 64 = .ok (.iload_n 3, 1) := by decide +kernel
theorem dd_N_looksPrime_65 : decode cc_N_looksPrime 65 = .ok (.if_icmp .ge (29), 3) := by decide +kernel
theorem dd_N_looksPrime_68 : decode cc_N_looksPrime 68 = .ok (.iload 4, 2) := by decide +kernel
theorem dd_N_looksPrime_70 : decode cc_N_looksPrime 70 = .ok (.iload 4, 2) := by decide +kernel
theorem dd_N_looksPrime_72 : decode cc_N_looksPrime 72 = .ok (.iload_n 0, 1) := by decide +kernel
theorem dd_N_looksPrime_73 : decode cc_N_looksPrime 73 = .ok (.invokestatic 26, 3) := by decide +kernel
theorem dd_N_looksPrime_76 : decode cc_N_looksPrime 76 = .ok (.istore 4, 2) := by decide +kernel
theorem dd_N_looksPrime_78 : decode cc_N_looksPrime 78 = .ok (.iload 4, 2) := by decide +kernel
theorem dd_N_looksPrime_80 : decode cc_N_looksPrime 80 = .ok (.iload_n 0, 1) := by decide +kernel
theorem dd_N_looksPrime_81 : decode cc_N_looksPrime 81 = .ok (.iconst 1, 1) := by decide +kernel
theorem dd_N_looksPrime_82 : decode cc_N_looksPrime 82 = .ok (.isub, 1) := by decide +kernel
theorem dd_N_looksPrime_83 : decode cc_N_looksPrime 83 = .ok (.if_icmp .ne (5), 3) := by decide +kernel
theorem dd_N_looksPrime_86 : decode cc_N_looksPrime 86 = .ok (.iconst 1, 1) := by decide +kernel
theorem dd_N_looksPrime_87 : decode cc_N_looksPrime 87 = .ok (.ireturn, 1) := by decide +kernel
theorem dd_N_looksPrime_88 : decode cc_N_looksPrime 88 = .ok (.iinc 5 (1), 3) := by decide +kernel
theorem dd_N_looksPrime_91 : decode cc_N_looksPrime 91 = .ok (.goto (-29), 3) := by decide +kernel
theorem dd_N_looksPrime_94 : decode cc_N_looksPrime 94 = .ok (.iconst 0, 1) := by decide +kernel
theorem dd_N_looksPrime_95 : decode cc_N_looksPrime 95 = .ok (.ireturn, 1) := by decide +kernel
theorem dd_M_isPrime_0 : decode cc_M_isPrime 0 = .ok (.iconst 2, 1) := by decide +kernel
theorem dd_M_isPrime_1 : decode cc_M_isPrime 1 = .ok (.istore_n 1, 1) := by decide +kernel
theorem dd_M_isPrime_2 : decode cc_M_isPrime 2 = .ok (.iload_n 1, 1) := by decide +kernel
theorem dd_M_isPrime_3 : decode cc_M_isPrime 3 = .ok (.i2l, 1) := by decide +kernel
theorem dd_M_isPrime_4 : decode cc_M_isPrime 4 = .ok (.iload_n 1, 1) := by decide +kernel
theorem dd_M_isPrime_5 : decode cc_M_isPrime 5 = .ok (.i2l, 1) := by decide +kernel
theorem dd_M_isPrime_6 : decode cc_M_isPrime 6 = .ok (.lmul, 1) := by decide +kernel
theorem dd_M_isPrime_7 : decode cc_M_isPrime 7 = .ok (.iload_n 0, 1) := by decide +kernel
theorem dd_M_isPrime_8 : decode cc_M_isPrime 8 = .ok (.i2l, 1) := by decide +kernel
theorem dd_M_isPrime_9 : decode cc_M_isPrime 9 = .ok (.lcmp, 1) := by decide +kernel
theorem dd_M_isPrime_10 : decode cc_M_isPrime 10 = .ok (.ifCond .gt (17), 3) := by decide +kernel
theorem dd_M_isPrime_13 : decode cc_M_isPrime 13 = .ok (.iload_n 0, 1) := by decide +kernel
theorem dd_M_isPrime_14 : decode cc_M_isPrime 14 = .ok (.iload_n 1, 1) := by decide +kernel
theorem dd_M_isPrime_15 : decode cc_M_isPrime 15 = .ok (.irem, 1) := by decide +kernel
theorem dd_M_isPrime_16 : decode cc_M_isPrime 16 = .ok (.ifCond .ne (5), 3) := by decide +kernel
theorem dd_M_isPrime_19 : decode cc_M_isPrime 19 = .ok (.iconst 0, 1) := by decide +kernel
theorem dd_M_isPrime_20 : decode cc_M_isPrime 20 = .ok (.ireturn, 1) := by decide +kernel
theorem dd_M_isPrime_21 : decode cc_M_isPrime 21 = .ok (.iinc 1 (1), 3) := by decide +kernel
theorem dd_M_isPrime_24 : decode cc_M_isPrime 24 = .ok (.goto (-22), 3) := by decide +kernel
theorem dd_M_isPrime_27 : decode cc_M_isPrime 27 = .ok (.iload_n 0, 1) := by decide +kernel
theorem dd_M_isPrime_28 : decode cc_M_isPrime 28 = .ok (.iconst 1, 1) := by decide +kernel
theorem dd_M_isPrime_29 : decode cc_M_isPrime 29 = .ok (.if_icmp .le (7), 3) := by decide +kernel
theorem dd_M_isPrime_32 : decode cc_M_isPrime 32 = .ok (.iconst 1, 1) := by decide +kernel
theorem dd_M_isPrime_33 : decode cc_M_isPrime 33 = .ok (.goto (4), 3) := by decide +kernel
theorem dd_M_isPrime_36 : decode cc_M_isPrime 36 = .ok (.iconst 0, 1) := by decide +kernel
theorem dd_M_isPrime_37 : decode cc_M_isPrime 37 = .ok (.ireturn, 1) := by decide +kernel
theorem dd_M_power_0 : decode cc_M_power 0 = .ok (.lconst 1, 1) := by decide +kernel
theorem dd_M_power_1 : decode cc_M_power 1 = .ok (.lstore_n 3, 1) := by decide +kernel
theorem dd_M_power_2 : decode cc_M_power 2 = .ok (.iload_n 0, 1) := by decide +kernel
theorem dd_M_power_3 : decode cc_M_power 3 = .ok (.iload_n 2, 1) := by decide +kernel
theorem dd_M_power_4 : decode cc_M_power 4 = .ok (.irem, 1) := by decide +kernel
theorem dd_M_power_5 : decode cc_M_power 5 = .ok (.i2l, 1) := by decide +kernel
theorem dd_M_power_6 : decode cc_M_power 6 = .ok (.lstore 5, 2) := by decide +kernel
theorem dd_M_power_8 : decode cc_M_power 8 = .ok (.iload_n 1, 1) := by decide +kernel
theorem dd_M_power_9 : decode cc_M_power 9 = .ok (.istore 7, 2) := by decide +kernel
theorem dd_M_power_11 : decode cc_M_power 11 = .ok (.iload 7, 2) := by decide +kernel
theorem dd_M_power_13 : decode cc_M_power 13 = .ok (.ifCond .le (38), 3) := by decide +kernel
theorem dd_M_power_16 : decode cc_M_power 16 = .ok (.iload 7, 2) := by decide +kernel
theorem dd_M_power_18 : decode cc_M_power 18 = .ok (.iconst 2, 1) := by decide +kernel
theorem dd_M_power_19 : decode cc_M_power 19 = .ok (.irem, 1) := by decide +kernel
theorem dd_M_power_20 : decode cc_M_power 20 = .ok (.iconst 1, 1) := by decide +kernel
theorem dd_M_power_21 : decode cc_M_power 21 = .ok (.if_icmp .ne (11), 3) := by decide +kernel
theorem dd_M_power_24 : decode cc_M_power 24 = .ok (.lload_n 3, 1) := by decide +kernel
theorem dd_M_power_25 : decode cc_M_power 25 = .ok (.lload 5, 2) := by decide +kernel
theorem dd_M_power_27 : decode cc_M_power 27 = .ok (.lmul, 1) := by decide +kernel
theorem dd_M_power_28 : decode cc_M_power 28 = .ok (.iload_n 2, 1) := by decide +kernel
theorem dd_M_power_29 : decode cc_M_power 29 = .ok (.i2l, 1) := by decide +kernel
theorem dd_M_power_30 : decode cc_M_power 30 = .ok (.lrem, 1) := by decide +kernel
theorem dd_M_power_31 : decode cc_M_power 31 = .ok (.lstore_n 3, 1) := by decide +kernel
theorem dd_M_power_32 : decode cc_M_power 32 = .ok (.lload 5, 2) := by decide +kernel
theorem dd_M_power_34 : decode cc_M_power 34 = .ok (.lload 5, 2) := by decide +kernel
theorem dd_M_power_36 : decode cc_M_power 36 = .ok (.lmul, 1) := by decide +kernel
theorem dd_M_power_37 : decode cc_M_power 37 = .ok (.iload_n 2, 1) := by decide +kernel
theorem dd_M_power_38 : decode cc_M_power 38 = .ok (.i2l, 1) := by decide +kernel
theorem dd_M_power_39 : decode cc_M_power 39 = .ok (.lrem, 1) := by decide +kernel
theorem dd_M_power_40 : decode cc_M_power 40 = .ok (.lstore 5, 2) := by decide +kernel
theorem dd_M_power_42 : decode cc_M_power 42 = .ok (.iload 7, 2) := by decide +kernel
theorem dd_M_power_44 : decode cc_M_power 44 = .ok (.iconst 2, 1) := by decide +kernel
theorem dd_M_power_45 : decode cc_M_power 45 = .ok (.idiv, 1) := by decide +kernel
theorem dd_M_power_46 : decode cc_M_power 46 = .ok (.istore 7, 2) := by decide +kernel
theorem dd_M_power_48 : decode cc_M_power 48 = .ok (.goto (-37), 3) := by decide +kernel
theorem dd_M_power_51 : decode cc_M_power 51 = .ok (.lload_n 3, 1) := by decide +kernel
theorem dd_M_power_52 : decode cc_M_power 52 = .ok (.l2i, 1) := by decide +kernel
theorem dd_M_power_53 : decode cc_M_power 53 = .ok (.ireturn, 1) := by decide +kernel
theorem dd_M_isPlace_0 : decode cc_M_isPlace 0 = .ok (.iload_n 0, 1) := by decide +kernel
theorem dd_M_isPlace_1 : decode cc_M_isPlace 1 = .ok (.ifCond .lt (13), 3) := by decide +kernel
theorem dd_M_isPlace_4 : decode cc_M_isPlace 4 = .ok (.iload_n 0, 1) := by decide +kernel
theorem dd_M_isPlace_5 : decode cc_M_isPlace 5 = .ok (.bipush (52), 2) := by decide +kernel
theorem dd_M_isPlace_7 : decode cc_M_isPlace 7 = .ok (.if_icmp .ge (7), 3) := by decide +kernel
theorem dd_M_isPlace_10 : decode cc_M_isPlace 10 = .ok (.iconst 1, 1) := by decide +kernel
theorem dd_M_isPlace_11 : decode cc_M_isPlace 11 = .ok (.goto (4), 3) := by decide +kernel
theorem dd_M_isPlace_14 : decode cc_M_isPlace 14 = .ok (.iconst 0, 1) := by decide +kernel
theorem dd_M_isPlace_15 : decode cc_M_isPlace 15 = .ok (.ireturn, 1) := by decide +kernel
theorem dd_O_isPlace_0 : decode cc_O_isPlace 0 = .ok (.iload_n 0, 1) := by decide +kernel
theorem dd_O_isPlace_1 : decode cc_O_isPlace 1 = .ok (.ifCond .lt (13), 3) := by decide +kernel
theorem dd_O_isPlace_4 : decode cc_O_isPlace 4 = .ok (.iload_n 0, 1) := by decide +kernel
theorem dd_O_isPlace_5 : decode cc_O_isPlace 5 = .ok (.bipush (52), 2) := by decide +kernel
theorem dd_O_isPlace_7 : decode cc_O_isPlace 7 = .ok (.if_icmp .ge (7), 3) := by decide +kernel
theorem dd_O_isPlace_10 : decode cc_O_isPlace 10 = .ok (.iconst 1, 1) := by decide +kernel
theorem dd_O_isPlace_11 : decode cc_O_isPlace 11 = .ok (.goto (4), 3) := by decide +kernel
theorem dd_O_isPlace_14 : decode cc_O_isPlace 14 = .ok (.iconst 0, 1) := by decide +kernel
theorem dd_O_isPlace_15 : decode cc_O_isPlace 15 = .ok (.ireturn, 1) := by decide +kernel
theorem dd_O_rankOf_0 : decode cc_O_rankOf 0 = .ok (.iload_n 1, 1) := by decide +kernel
theorem dd_O_rankOf_1 : decode cc_O_rankOf 1 = .ok (.iconst 4, 1) := by decide +kernel
theorem dd_O_rankOf_2 : decode cc_O_rankOf 2 = .ok (.iload_n 0, 1) := by decide +kernel
theorem dd_O_rankOf_3 : decode cc_O_rankOf 3 = .ok (.imul, 1) := by decide +kernel
theorem dd_O_rankOf_4 : decode cc_O_rankOf 4 = .ok (.iushr, 1) := by decide +kernel
theorem dd_O_rankOf_5 : decode cc_O_rankOf 5 = .ok (.bipush (15), 2) := by decide +kernel
theorem dd_O_rankOf_7 : decode cc_O_rankOf 7 = .ok (.iand, 1) := by decide +kernel
theorem dd_O_rankOf_8 : decode cc_O_rankOf 8 = .ok (.ireturn, 1) := by decide +kernel
theorem dd_M_sealOf_0 : decode cc_M_sealOf 0 = .ok (.iload_n 0, 1) := by decide +kernel
theorem dd_M_sealOf_1 : decode cc_M_sealOf 1 = .ok (.i2l, 1) := by decide +kernel
theorem dd_M_sealOf_2 : decode cc_M_sealOf 2 = .ok (.lstore 5, 2) := by decide +kernel
theorem dd_M_sealOf_4 : decode cc_M_sealOf 4 = .ok (.lload 5, 2) := by decide +kernel
theorem dd_M_sealOf_6 : decode cc_M_sealOf 6 = .ok (.lload 5, 2) := by decide +kernel
theorem dd_M_sealOf_8 : decode cc_M_sealOf 8 = .ok (.bipush (29), 2) := by decide +kernel
theorem dd_M_sealOf_10 : decode cc_M_sealOf 10 = .ok (.lushr, 1) := by decide +kernel
theorem dd_M_sealOf_11 : decode cc_M_sealOf 11 = .ok (.lxor, 1) := by decide +kernel
theorem dd_M_sealOf_12 : decode cc_M_sealOf 12 = .ok (.ldc2_w 135, 3) := by decide +kernel
theorem dd_M_sealOf_15 : decode cc_M_sealOf 15 = .ok (.lmul, 1) := by decide +kernel
theorem dd_M_sealOf_16 : decode cc_M_sealOf 16 = .ok (.lload_n 1, 1) := by decide +kernel
theorem dd_M_sealOf_17 : decode cc_M_sealOf 17 = .ok (.ladd, 1) := by decide +kernel
theorem dd_M_sealOf_18 : decode cc_M_sealOf 18 = .ok (.lstore 5, 2) := by decide +kernel
theorem dd_M_sealOf_20 : decode cc_M_sealOf 20 = .ok (.lload 5, 2) := by decide +kernel
theorem dd_M_sealOf_22 : decode cc_M_sealOf 22 = .ok (.lload 5, 2) := by decide +kernel
theorem dd_M_sealOf_24 : decode cc_M_sealOf 24 = .ok (.bipush (32), 2) := by decide +kernel
theorem dd_M_sealOf_26 : decode cc_M_sealOf 26 = .ok (.lushr, 1) := by decide +kernel
theorem dd_M_sealOf_27 : decode cc_M_sealOf 27 = .ok (.lxor, 1) := by decide +kernel
theorem dd_M_sealOf_28 : decode cc_M_sealOf 28 = .ok (.ldc2_w 137, 3) := by decide +kernel
theorem dd_M_sealOf_31 : decode cc_M_sealOf 31 = .ok (.lmul, 1) := by decide +kernel
theorem dd_M_sealOf_32 : decode cc_M_sealOf 32 = .ok (.lload_n 3, 1) := by decide +kernel
theorem dd_M_sealOf_33 : decode cc_M_sealOf 33 = .ok (.ladd, 1) := by decide +kernel
theorem dd_M_sealOf_34 : decode cc_M_sealOf 34 = .ok (.lstore 5, 2) := by decide +kernel
theorem dd_M_sealOf_36 : decode cc_M_sealOf 36 = .ok (.lload 5, 2) := by decide +kernel
theorem dd_M_sealOf_38 : decode cc_M_sealOf 38 = .ok (.lload 5, 2) := by decide +kernel
theorem dd_M_sealOf_40 : decode cc_M_sealOf 40 = .ok (.bipush (29), 2) := by decide +kernel
theorem dd_M_sealOf_42 : decode cc_M_sealOf 42 = .ok (.lushr, 1) := by decide +kernel
theorem dd_M_sealOf_43 : decode cc_M_sealOf 43 = .ok (.lxor, 1) := by decide +kernel
theorem dd_M_sealOf_44 : decode cc_M_sealOf 44 = .ok (.ldc2_w 135, 3) := by decide +kernel
theorem dd_M_sealOf_47 : decode cc_M_sealOf 47 = .ok (.lmul, 1) := by decide +kernel
theorem dd_M_sealOf_48 : decode cc_M_sealOf 48 = .ok (.lstore 5, 2) := by decide +kernel
theorem dd_M_sealOf_50 : decode cc_M_sealOf 50 = .ok (.lload 5, 2) := by decide +kernel
theorem dd_M_sealOf_52 : decode cc_M_sealOf 52 = .ok (.lload 5, 2) := by decide +kernel
theorem dd_M_sealOf_54 : decode cc_M_sealOf 54 = .ok (.bipush (32), 2) := by decide +kernel
theorem dd_M_sealOf_56 : decode cc_M_sealOf 56 = .ok (.lushr, 1) := by decide +kernel
theorem dd_M_sealOf_57 : decode cc_M_sealOf 57 = .ok (.lxor, 1) := by decide +kernel
theorem dd_M_sealOf_58 : decode cc_M_sealOf 58 = .ok (.lreturn, 1) := by decide +kernel
theorem kw_5 : (Jvm.Cond.initialized "OpenDeal$Numbers") ∈ kw := kw_of (List.mem_append_right _ (List.mem_of_getElem? (i := 5) (by decide +kernel))) (by decide +kernel)
theorem kw_155 : (Jvm.Cond.methodLink "OpenDeal$Numbers" (22 : Nat) ({ cls := "OpenDeal$Numbers", name := "power", desc := "(III)I" } : Jvm.MethodName)) ∈ kw := kw_of (List.mem_append_right _ (List.mem_of_getElem? (i := 155) (by decide +kernel))) (by decide +kernel)
theorem kw_156 : (Jvm.Cond.static ({ cls := "OpenDeal$Numbers", name := "power", desc := "(III)I" } : Jvm.MethodName)) ∈ kw := kw_of (List.mem_append_right _ (List.mem_of_getElem? (i := 156) (by decide +kernel))) (by decide +kernel)
theorem kw_157 : (Jvm.Cond.code ({ cls := "OpenDeal$Numbers", name := "power", desc := "(III)I" } : Jvm.MethodName) prog_3_method_10_code (6 : Nat) (Option.some Jvm.ClassFile.FieldType.int)) ∈ kw := kw_of (List.mem_append_right _ (List.mem_of_getElem? (i := 157) rfl)) (by decide +kernel)
theorem kw_158 : (Jvm.Cond.methodLink "OpenDeal$Numbers" (26 : Nat) ({ cls := "OpenDeal$Numbers", name := "times", desc := "(III)I" } : Jvm.MethodName)) ∈ kw := kw_of (List.mem_append_right _ (List.mem_of_getElem? (i := 158) (by decide +kernel))) (by decide +kernel)
theorem kw_159 : (Jvm.Cond.static ({ cls := "OpenDeal$Numbers", name := "times", desc := "(III)I" } : Jvm.MethodName)) ∈ kw := kw_of (List.mem_append_right _ (List.mem_of_getElem? (i := 159) (by decide +kernel))) (by decide +kernel)
theorem kw_160 : (Jvm.Cond.code ({ cls := "OpenDeal$Numbers", name := "times", desc := "(III)I" } : Jvm.MethodName) prog_3_method_9_code (3 : Nat) (Option.some Jvm.ClassFile.FieldType.int)) ∈ kw := kw_of (List.mem_append_right _ (List.mem_of_getElem? (i := 160) rfl)) (by decide +kernel)
theorem kw_201 : (Jvm.Cond.static ({ cls := "OpenDeal$Numbers", name := "isExponent", desc := "(II)Z" } : Jvm.MethodName)) ∈ kw := kw_of (List.mem_append_right _ (List.mem_of_getElem? (i := 201) (by decide +kernel))) (by decide +kernel)
theorem kw_202 : (Jvm.Cond.code ({ cls := "OpenDeal$Numbers", name := "isExponent", desc := "(II)Z" } : Jvm.MethodName) prog_3_method_6_code (2 : Nat) (Option.some Jvm.ClassFile.FieldType.boolean)) ∈ kw := kw_of (List.mem_append_right _ (List.mem_of_getElem? (i := 202) rfl)) (by decide +kernel)
theorem kw_292 : (Jvm.Cond.methodLink "OpenDeal$Numbers" (29 : Nat) ({ cls := "OpenDeal$Numbers", name := "isExponent", desc := "(II)Z" } : Jvm.MethodName)) ∈ kw := kw_of (List.mem_append_right _ (List.mem_of_getElem? (i := 292) (by decide +kernel))) (by decide +kernel)
theorem kw_679 : (Jvm.Cond.constantLong "OpenDealModel" (135 : Nat) (-4658895280553007687 : Int64)) ∈ kw := kw_of (List.mem_append_right _ (List.mem_of_getElem? (i := 679) (by decide +kernel))) (by decide +kernel)
theorem kw_680 : (Jvm.Cond.constantLong "OpenDealModel" (137 : Nat) (-7723592293110705685 : Int64)) ∈ kw := kw_of (List.mem_append_right _ (List.mem_of_getElem? (i := 680) (by decide +kernel))) (by decide +kernel)
end
section
/-! methods over numbers alone, laid by program -/
def ff_N_times (n : Nat) (a0 : Int32) (a1 : Int32) (a2 : Int32) : Option Int32 := if a2 ≤ 0 then (some (0 : Int32)) else (if ¬ (Int32.toInt64 a2) = 0 then tl (((Int32.toInt64 a0) * (Int32.toInt64 a1)) - ((Int32.toInt64 a0) * (Int32.toInt64 a1)) / (Int32.toInt64 a2) * (Int32.toInt64 a2)) fun y3 => some (Int64.toInt32 y3) else none)
set_option maxHeartbeats 4000000 in
set_option maxRecDepth 100000 in
theorem mm_N_times (l : Launch) (n : Nat) (a0 : Int32) (a1 : Int32) (a2 : Int32) (r : Int32) (h : ff_N_times n a0 a1 a2 = some r) : Met l yy_N_times (.code yy_N_times cc_N_times 3 (some .int) :: kw) { frames := 0, cells := 0, slots := 0, locals := 0 } (va_Pc [.int a0, .int a1, .int a2] (fun _ => True)) (vp_Si (fun z => z = r)) 0 0 (fun _ => False) := by
  refine Met.ofW (cc := cc_N_times) (maxL := 3) (ret := some .int) (by decide) rfl ?_
  intro p e s m args below meth c s₁ B hml hv
  obtain ⟨rfl, -⟩ := hv
  have hx := B.exec
  have hb := B.bytes
  have hr := B.returns
  have hlocks := B.notSynchronized
  have hk : ∀ w ∈ kw, w.before _ s = true := fun w hw => atoms_spec (ws := (.code yy_N_times cc_N_times 3 (some .int) :: kw)) B.pre w (List.mem_cons_of_mem _ hw)
  have hown : s.vm.findClass "OpenDeal$Numbers" = some m.cls := findClass_of_methodNamed B.named
  have hl := lv_entry ([.int a0, .int a1, .int a2]) (n := 3) (Nat.le_of_ble_eq_true rfl)
  rw [lg_entry_eq]
  generalize (lg_sl ([.int a0, .int a1, .int a2]) ++ List.replicate (3 - (lg_sl ([.int a0, .int a1, .int a2])).length) Slot.unset).toArray = ls at hl ⊢
  have hl : lv_has ls 3 [(0, .int a0), (1, .int a1), (2, .int a2)] := hl
  unfold ff_N_times at h
  refine lv_iload_n hx hb dd_N_times_0 rfl (lv_at hl 2 rfl) ?_
  refine lv_if_le (tgt := 16) hx hb dd_N_times_1 (by decide) (fun hc1 => ?_) (fun hc1 => ?_)
  · have h := ip_out hc1 h
    refine lv_iconst (v := 0) hx hb dd_N_times_16 (by decide) ?_
    obtain rfl := Option.some.inj h
    exact W.iret hx hb hr (fun t ht hW => ⟨_, rfl, rfl, ht⟩) (fun q hq => by cases hq) dd_N_times_17
  · have h := in_out hc1 h
    refine lv_iload_n hx hb dd_N_times_4 rfl (lv_at hl 0 rfl) ?_
    refine lv_i2l hx hb dd_N_times_5 rfl ?_
    refine lv_iload_n hx hb dd_N_times_6 rfl (lv_at hl 1 rfl) ?_
    refine lv_i2l hx hb dd_N_times_7 rfl ?_
    refine lv_lmul hx hb dd_N_times_8 ?_
    refine lv_iload_n hx hb dd_N_times_9 rfl (lv_at hl 2 rfl) ?_
    refine lv_i2l hx hb dd_N_times_10 rfl ?_
    obtain ⟨hz2, h⟩ := oi_out h
    refine lv_lrem hx hb dd_N_times_11 hz2 ?_
    refine lv_topl (fun y3 ey3 => ?_)
    have h := tl_at ey3 h
    refine lv_l2i hx hb dd_N_times_12 rfl ?_
    refine lv_goto (tgt := 17) hx hb dd_N_times_13 (by decide) ?_
    obtain rfl := Option.some.inj h
    exact W.iret hx hb hr (fun t ht hW => ⟨_, rfl, rfl, ht⟩) (fun q hq => by cases hq) dd_N_times_17
def ff_N_power_29 (k8 : Int32 → Int32 → Int32 → Int32 → Int32 → Int32 → Option Int32) (n : Nat) (v0 : Int32) (v1 : Int32) (v2 : Int32) (v3 : Int32) (v4 : Int32) (v5 : Int32) : Option Int32 := (ff_N_times n v4 v4 v2).bind fun r1 => tl (v5 / (2 : Int32)) fun y2 => k8 v0 v1 v2 v3 r1 y2
def ff_N_power_8  : Nat → Int32 → Int32 → Int32 → Int32 → Int32 → Int32 → Option Int32
  | 0, _, _, _, _, _, _ => none
  | n + 1, v0, v1, v2, v3, v4, v5 => if v5 ≤ 0 then (some v3) else (tl (v5 - v5 / (2 : Int32) * (2 : Int32)) fun y4 => if y4 = (1 : Int32) then ((ff_N_times n v3 v4 v2).bind fun r6 => ff_N_power_29 (ff_N_power_8 n) n v0 v1 v2 r6 v4 v5) else (ff_N_power_29 (ff_N_power_8 n) n v0 v1 v2 v3 v4 v5))
def ff_N_power (n : Nat) (a0 : Int32) (a1 : Int32) (a2 : Int32) : Option Int32 := ff_N_power_8 n a0 a1 a2 (1 : Int32) a0 a1
set_option maxHeartbeats 4000000 in
set_option maxRecDepth 100000 in
theorem mm_N_power (l : Launch) (n : Nat) (a0 : Int32) (a1 : Int32) (a2 : Int32) (r : Int32) (h : ff_N_power n a0 a1 a2 = some r) : Met l yy_N_power (.code yy_N_power cc_N_power 6 (some .int) :: kw) { frames := 1, cells := 0, slots := 0, locals := 22 } (va_Pc [.int a0, .int a1, .int a2] (fun _ => True)) (vp_Si (fun z => z = r)) 0 0 (fun _ => False) := by
  refine Met.ofW (cc := cc_N_power) (maxL := 6) (ret := some .int) (by decide) rfl ?_
  intro p e s m args below meth c s₁ B hml hv
  obtain ⟨rfl, -⟩ := hv
  have hx := B.exec
  have hb := B.bytes
  have hr := B.returns
  have hlocks := B.notSynchronized
  have hk : ∀ w ∈ kw, w.before _ s = true := fun w hw => atoms_spec (ws := (.code yy_N_power cc_N_power 6 (some .int) :: kw)) B.pre w (List.mem_cons_of_mem _ hw)
  have hown : s.vm.findClass "OpenDeal$Numbers" = some m.cls := findClass_of_methodNamed B.named
  have L29 : ∀ (k8 : Int32 → Int32 → Int32 → Int32 → Int32 → Int32 → Option Int32) (hk8 : ∀ (v0 : Int32) (v1 : Int32) (v2 : Int32) (v3 : Int32) (v4 : Int32) (v5 : Int32), k8 v0 v1 v2 v3 v4 v5 = some r → ∀ ls, lv_has ls 6 [(0, .int v0), (1, .int v1), (2, .int v2), (3, .int v3), (4, .int v4), (5, .int v5)] → W p l e (headSpec (.code yy_N_power cc_N_power 6 (some .int) :: kw) { frames := 1, cells := 0, slots := 0, locals := 22 }).room s m ([.int a0, .int a1, .int a2] : List Value).toArray below meth c s.heap [] 0 0 (MQ below (vp_Si (fun z => z = r)) ([.int a0, .int a1, .int a2] : List Value).toArray s 0 0 (fun _ => False)) (F0 m 8 ls [])) (n : Nat) (v0 : Int32) (v1 : Int32) (v2 : Int32) (v3 : Int32) (v4 : Int32) (v5 : Int32), ff_N_power_29 k8 n v0 v1 v2 v3 v4 v5 = some r → ∀ ls, lv_has ls 6 [(0, .int v0), (1, .int v1), (2, .int v2), (3, .int v3), (4, .int v4), (5, .int v5)] → W p l e (headSpec (.code yy_N_power cc_N_power 6 (some .int) :: kw) { frames := 1, cells := 0, slots := 0, locals := 22 }).room s m ([.int a0, .int a1, .int a2] : List Value).toArray below meth c s.heap [] 0 0 (MQ below (vp_Si (fun z => z = r)) ([.int a0, .int a1, .int a2] : List Value).toArray s 0 0 (fun _ => False)) (F0 m 29 ls []) := by
    intro k8 hk8 n v0 v1 v2 v3 v4 v5 h ls hl
    unfold ff_N_power_29 at h
    refine lv_iload hx hb dd_N_power_29 (lv_at hl 4 rfl) ?_
    refine lv_iload hx hb dd_N_power_31 (lv_at hl 4 rfl) ?_
    refine lv_iload_n hx hb dd_N_power_33 rfl (lv_at hl 2 rfl) ?_
    obtain ⟨r1, hr1, h⟩ := ob_out h
    refine ro_Si (n := 3) (As := [.int v4, .int v4, .int v2]) hx hb hml hown hk (mm_N_times l _ _ _ _ _ hr1) (fun U _ _ => trivial) (fun _ _ _ _ _ => trivial) kw_158 kw_159 kw_5 kw_160 ⟨rfl, rfl⟩ (by decide +kernel) ⟨Nat.le_of_ble_eq_true rfl, Nat.le_of_ble_eq_true rfl⟩ rfl hl.1 rfl (Nat.le_of_ble_eq_true rfl) dd_N_power_34 ⟨Nat.zero_le _, Nat.zero_le _⟩ ?_
    refine lv_istore (lv' := [(4, .int r1), (0, .int v0), (1, .int v1), (2, .int v2), (3, .int v3), (5, .int v5)]) hx hb dd_N_power_37 hl (by decide) rfl (fun ls hl => ?_)
    refine lv_iload hx hb dd_N_power_39 (lv_at hl 5 rfl) ?_
    refine lv_iconst (v := 2) hx hb dd_N_power_41 (by decide) ?_
    refine lv_idiv hx hb dd_N_power_42 (by decide) ?_
    refine lv_topi (fun y2 ey2 => ?_)
    have h := tl_at ey2 h
    refine lv_istore (lv' := [(5, .int y2), (4, .int r1), (0, .int v0), (1, .int v1), (2, .int v2), (3, .int v3)]) hx hb dd_N_power_43 hl (by decide) rfl (fun ls hl => ?_)
    refine lv_goto (tgt := 8) hx hb dd_N_power_45 (by decide) ?_
    exact hk8 _ _ _ _ _ _ h _ (lv_sub hl [2, 3, 4, 5, 1, 0] rfl)
  have L8 : ∀  (n : Nat) (v0 : Int32) (v1 : Int32) (v2 : Int32) (v3 : Int32) (v4 : Int32) (v5 : Int32), ff_N_power_8  n v0 v1 v2 v3 v4 v5 = some r → ∀ ls, lv_has ls 6 [(0, .int v0), (1, .int v1), (2, .int v2), (3, .int v3), (4, .int v4), (5, .int v5)] → W p l e (headSpec (.code yy_N_power cc_N_power 6 (some .int) :: kw) { frames := 1, cells := 0, slots := 0, locals := 22 }).room s m ([.int a0, .int a1, .int a2] : List Value).toArray below meth c s.heap [] 0 0 (MQ below (vp_Si (fun z => z = r)) ([.int a0, .int a1, .int a2] : List Value).toArray s 0 0 (fun _ => False)) (F0 m 8 ls []) := by
    intro  n
    induction n with
    | zero => intro v0 v1 v2 v3 v4 v5 h; exact absurd h (by simp [ff_N_power_8])
    | succ n ih =>
      intro v0 v1 v2 v3 v4 v5 h ls hl
      rw [ff_N_power_8] at h
      refine lv_iload hx hb dd_N_power_8 (lv_at hl 5 rfl) ?_
      refine lv_if_le (tgt := 48) hx hb dd_N_power_10 (by decide) (fun hc3 => ?_) (fun hc3 => ?_)
      · have h := ip_out hc3 h
        refine lv_iload_n hx hb dd_N_power_48 rfl (lv_at hl 3 rfl) ?_
        obtain rfl := Option.some.inj h
        exact W.iret hx hb hr (fun t ht hW => ⟨_, rfl, rfl, ht⟩) (fun q hq => by cases hq) dd_N_power_49
      · have h := in_out hc3 h
        refine lv_iload hx hb dd_N_power_13 (lv_at hl 5 rfl) ?_
        refine lv_iconst (v := 2) hx hb dd_N_power_15 (by decide) ?_
        refine lv_irem hx hb dd_N_power_16 (by decide) ?_
        refine lv_topi (fun y4 ey4 => ?_)
        have h := tl_at ey4 h
        refine lv_iconst (v := 1) hx hb dd_N_power_17 (by decide) ?_
        refine lv_icmp_ne (tgt := 29) hx hb dd_N_power_18 (by decide) (fun hc5 => ?_) (fun hc5 => ?_)
        · have h := in_out hc5 h
          exact L29 _ (fun _ _ _ _ _ _ hh ls hl => ih _ _ _ _ _ _ hh ls hl) _ _ _ _ _ _ _ h _ (lv_sub hl [0, 1, 2, 3, 4, 5] rfl)
        · have h := ip_out hc5 h
          refine lv_iload_n hx hb dd_N_power_21 rfl (lv_at hl 3 rfl) ?_
          refine lv_iload hx hb dd_N_power_22 (lv_at hl 4 rfl) ?_
          refine lv_iload_n hx hb dd_N_power_24 rfl (lv_at hl 2 rfl) ?_
          obtain ⟨r6, hr6, h⟩ := ob_out h
          refine ro_Si (n := 3) (As := [.int v3, .int v4, .int v2]) hx hb hml hown hk (mm_N_times l _ _ _ _ _ hr6) (fun U _ _ => trivial) (fun _ _ _ _ _ => trivial) kw_158 kw_159 kw_5 kw_160 ⟨rfl, rfl⟩ (by decide +kernel) ⟨Nat.le_of_ble_eq_true rfl, Nat.le_of_ble_eq_true rfl⟩ rfl hl.1 rfl (Nat.le_of_ble_eq_true rfl) dd_N_power_25 ⟨Nat.zero_le _, Nat.zero_le _⟩ ?_
          refine lv_istore_n (lv' := [(3, .int r6), (0, .int v0), (1, .int v1), (2, .int v2), (4, .int v4), (5, .int v5)]) hx hb dd_N_power_28 rfl hl (by decide) rfl (fun ls hl => ?_)
          exact L29 _ (fun _ _ _ _ _ _ hh ls hl => ih _ _ _ _ _ _ hh ls hl) _ _ _ _ _ _ _ h _ (lv_sub hl [1, 2, 3, 0, 4, 5] rfl)
  have hl := lv_entry ([.int a0, .int a1, .int a2]) (n := 6) (Nat.le_of_ble_eq_true rfl)
  rw [lg_entry_eq]
  generalize (lg_sl ([.int a0, .int a1, .int a2]) ++ List.replicate (6 - (lg_sl ([.int a0, .int a1, .int a2])).length) Slot.unset).toArray = ls at hl ⊢
  have hl : lv_has ls 6 [(0, .int a0), (1, .int a1), (2, .int a2)] := hl
  unfold ff_N_power at h
  refine lv_iconst (v := 1) hx hb dd_N_power_0 (by decide) ?_
  refine lv_istore_n (lv' := [(3, .int (1 : Int32)), (0, .int a0), (1, .int a1), (2, .int a2)]) hx hb dd_N_power_1 rfl hl (by decide) rfl (fun ls hl => ?_)
  refine lv_iload_n hx hb dd_N_power_2 rfl (lv_at hl 1 rfl) ?_
  refine lv_istore (lv' := [(4, .int a0), (3, .int (1 : Int32)), (0, .int a0), (1, .int a1), (2, .int a2)]) hx hb dd_N_power_3 hl (by decide) rfl (fun ls hl => ?_)
  refine lv_iload_n hx hb dd_N_power_5 rfl (lv_at hl 3 rfl) ?_
  refine lv_istore (lv' := [(5, .int a1), (4, .int a0), (3, .int (1 : Int32)), (0, .int a0), (1, .int a1), (2, .int a2)]) hx hb dd_N_power_6 hl (by decide) rfl (fun ls hl => ?_)
  exact L8  _ _ _ _ _ _ _ h _ (lv_sub hl [3, 4, 5, 2, 1, 0] rfl)
def ff_N_ofCard (n : Nat) (a0 : Int32) (a1 : Int32) : Option Int32 := (ff_N_times n (a0 + (2 : Int32)) (a0 + (2 : Int32)) a1).bind fun r1 => some r1
set_option maxHeartbeats 4000000 in
set_option maxRecDepth 100000 in
theorem mm_N_ofCard (l : Launch) (n : Nat) (a0 : Int32) (a1 : Int32) (r : Int32) (h : ff_N_ofCard n a0 a1 = some r) : Met l yy_N_ofCard (.code yy_N_ofCard cc_N_ofCard 2 (some .int) :: kw) { frames := 1, cells := 0, slots := 0, locals := 22 } (va_Pc [.int a0, .int a1] (fun _ => True)) (vp_Si (fun z => z = r)) 0 0 (fun _ => False) := by
  refine Met.ofW (cc := cc_N_ofCard) (maxL := 2) (ret := some .int) (by decide) rfl ?_
  intro p e s m args below meth c s₁ B hml hv
  obtain ⟨rfl, -⟩ := hv
  have hx := B.exec
  have hb := B.bytes
  have hr := B.returns
  have hlocks := B.notSynchronized
  have hk : ∀ w ∈ kw, w.before _ s = true := fun w hw => atoms_spec (ws := (.code yy_N_ofCard cc_N_ofCard 2 (some .int) :: kw)) B.pre w (List.mem_cons_of_mem _ hw)
  have hown : s.vm.findClass "OpenDeal$Numbers" = some m.cls := findClass_of_methodNamed B.named
  have hl := lv_entry ([.int a0, .int a1]) (n := 2) (Nat.le_of_ble_eq_true rfl)
  rw [lg_entry_eq]
  generalize (lg_sl ([.int a0, .int a1]) ++ List.replicate (2 - (lg_sl ([.int a0, .int a1])).length) Slot.unset).toArray = ls at hl ⊢
  have hl : lv_has ls 2 [(0, .int a0), (1, .int a1)] := hl
  unfold ff_N_ofCard at h
  refine lv_iload_n hx hb dd_N_ofCard_0 rfl (lv_at hl 0 rfl) ?_
  refine lv_iconst (v := 2) hx hb dd_N_ofCard_1 (by decide) ?_
  refine lv_iadd hx hb dd_N_ofCard_2 ?_
  refine lv_iload_n hx hb dd_N_ofCard_3 rfl (lv_at hl 0 rfl) ?_
  refine lv_iconst (v := 2) hx hb dd_N_ofCard_4 (by decide) ?_
  refine lv_iadd hx hb dd_N_ofCard_5 ?_
  refine lv_iload_n hx hb dd_N_ofCard_6 rfl (lv_at hl 1 rfl) ?_
  obtain ⟨r1, hr1, h⟩ := ob_out h
  refine ro_Si (n := 3) (As := [.int (a0 + (2 : Int32)), .int (a0 + (2 : Int32)), .int a1]) hx hb hml hown hk (mm_N_times l _ _ _ _ _ hr1) (fun U _ _ => trivial) (fun _ _ _ _ _ => trivial) kw_158 kw_159 kw_5 kw_160 ⟨rfl, rfl⟩ (by decide +kernel) ⟨Nat.le_of_ble_eq_true rfl, Nat.le_of_ble_eq_true rfl⟩ rfl hl.1 rfl (Nat.le_of_ble_eq_true rfl) dd_N_ofCard_7 ⟨Nat.zero_le _, Nat.zero_le _⟩ ?_
  obtain rfl := Option.some.inj h
  exact W.iret hx hb hr (fun t ht hW => ⟨_, rfl, rfl, ht⟩) (fun q hq => by cases hq) dd_N_ofCard_10
def ff_N_isExponent (n : Nat) (a0 : Int32) (a1 : Int32) : Option Int32 := if a0 < (3 : Int32) then (some (0 : Int32)) else (if (a1 - (2 : Int32)) < a0 then (some (0 : Int32)) else (tl (a0 - a0 / (2 : Int32) * (2 : Int32)) fun y3 => if y3 = (1 : Int32) then (if a0 = ((a1 - (1 : Int32)) / (2 : Int32)) then (some (0 : Int32)) else (some (1 : Int32))) else (some (0 : Int32))))
set_option maxHeartbeats 4000000 in
set_option maxRecDepth 100000 in
theorem mm_N_isExponent (l : Launch) (n : Nat) (a0 : Int32) (a1 : Int32) (r : Int32) (h : ff_N_isExponent n a0 a1 = some r) : Met l yy_N_isExponent (.code yy_N_isExponent cc_N_isExponent 2 (some .boolean) :: kw) { frames := 0, cells := 0, slots := 0, locals := 0 } (va_Pc [.int a0, .int a1] (fun _ => True)) (vp_Si (fun z => z = r)) 0 0 (fun _ => False) := by
  refine Met.ofW (cc := cc_N_isExponent) (maxL := 2) (ret := some .boolean) (by decide) rfl ?_
  intro p e s m args below meth c s₁ B hml hv
  obtain ⟨rfl, -⟩ := hv
  have hx := B.exec
  have hb := B.bytes
  have hr := B.returns
  have hlocks := B.notSynchronized
  have hk : ∀ w ∈ kw, w.before _ s = true := fun w hw => atoms_spec (ws := (.code yy_N_isExponent cc_N_isExponent 2 (some .boolean) :: kw)) B.pre w (List.mem_cons_of_mem _ hw)
  have hown : s.vm.findClass "OpenDeal$Numbers" = some m.cls := findClass_of_methodNamed B.named
  have hl := lv_entry ([.int a0, .int a1]) (n := 2) (Nat.le_of_ble_eq_true rfl)
  rw [lg_entry_eq]
  generalize (lg_sl ([.int a0, .int a1]) ++ List.replicate (2 - (lg_sl ([.int a0, .int a1])).length) Slot.unset).toArray = ls at hl ⊢
  have hl : lv_has ls 2 [(0, .int a0), (1, .int a1)] := hl
  unfold ff_N_isExponent at h
  refine lv_iload_n hx hb dd_N_isExponent_0 rfl (lv_at hl 0 rfl) ?_
  refine lv_iconst (v := 3) hx hb dd_N_isExponent_1 (by decide) ?_
  refine lv_icmp_lt (tgt := 32) hx hb dd_N_isExponent_2 (by decide) (fun hc1 => ?_) (fun hc1 => ?_)
  · have h := ip_out hc1 h
    refine lv_iconst (v := 0) hx hb dd_N_isExponent_32 (by decide) ?_
    obtain rfl := Option.some.inj h
    exact W.zret hx hb hr rfl (fun t ht hW => ⟨_, rfl, rfl, ht⟩) (fun q hq => by cases hq) dd_N_isExponent_33
  · have h := in_out hc1 h
    refine lv_iload_n hx hb dd_N_isExponent_5 rfl (lv_at hl 0 rfl) ?_
    refine lv_iload_n hx hb dd_N_isExponent_6 rfl (lv_at hl 1 rfl) ?_
    refine lv_iconst (v := 2) hx hb dd_N_isExponent_7 (by decide) ?_
    refine lv_isub hx hb dd_N_isExponent_8 ?_
    refine lv_icmp_gt (tgt := 32) hx hb dd_N_isExponent_9 (by decide) (fun hc2 => ?_) (fun hc2 => ?_)
    · have h := ip_out hc2 h
      refine lv_iconst (v := 0) hx hb dd_N_isExponent_32 (by decide) ?_
      obtain rfl := Option.some.inj h
      exact W.zret hx hb hr rfl (fun t ht hW => ⟨_, rfl, rfl, ht⟩) (fun q hq => by cases hq) dd_N_isExponent_33
    · have h := in_out hc2 h
      refine lv_iload_n hx hb dd_N_isExponent_12 rfl (lv_at hl 0 rfl) ?_
      refine lv_iconst (v := 2) hx hb dd_N_isExponent_13 (by decide) ?_
      refine lv_irem hx hb dd_N_isExponent_14 (by decide) ?_
      refine lv_topi (fun y3 ey3 => ?_)
      have h := tl_at ey3 h
      refine lv_iconst (v := 1) hx hb dd_N_isExponent_15 (by decide) ?_
      refine lv_icmp_ne (tgt := 32) hx hb dd_N_isExponent_16 (by decide) (fun hc4 => ?_) (fun hc4 => ?_)
      · have h := in_out hc4 h
        refine lv_iconst (v := 0) hx hb dd_N_isExponent_32 (by decide) ?_
        obtain rfl := Option.some.inj h
        exact W.zret hx hb hr rfl (fun t ht hW => ⟨_, rfl, rfl, ht⟩) (fun q hq => by cases hq) dd_N_isExponent_33
      · have h := ip_out hc4 h
        refine lv_iload_n hx hb dd_N_isExponent_19 rfl (lv_at hl 0 rfl) ?_
        refine lv_iload_n hx hb dd_N_isExponent_20 rfl (lv_at hl 1 rfl) ?_
        refine lv_iconst (v := 1) hx hb dd_N_isExponent_21 (by decide) ?_
        refine lv_isub hx hb dd_N_isExponent_22 ?_
        refine lv_iconst (v := 2) hx hb dd_N_isExponent_23 (by decide) ?_
        refine lv_idiv hx hb dd_N_isExponent_24 (by decide) ?_
        refine lv_icmp_eq (tgt := 32) hx hb dd_N_isExponent_25 (by decide) (fun hc5 => ?_) (fun hc5 => ?_)
        · have h := ip_out hc5 h
          refine lv_iconst (v := 0) hx hb dd_N_isExponent_32 (by decide) ?_
          obtain rfl := Option.some.inj h
          exact W.zret hx hb hr rfl (fun t ht hW => ⟨_, rfl, rfl, ht⟩) (fun q hq => by cases hq) dd_N_isExponent_33
        · have h := in_out hc5 h
          refine lv_iconst (v := 1) hx hb dd_N_isExponent_28 (by decide) ?_
          refine lv_goto (tgt := 33) hx hb dd_N_isExponent_29 (by decide) ?_
          obtain rfl := Option.some.inj h
          exact W.zret hx hb hr rfl (fun t ht hW => ⟨_, rfl, rfl, ht⟩) (fun q hq => by cases hq) dd_N_isExponent_33
def ff_N_exponentAbove_4  : Nat → Int32 → Int32 → Int32 → Option Int32
  | 0, _, _, _ => none
  | n + 1, v0, v1, v2 => if (v1 - (2 : Int32)) < v2 then (some (3 : Int32)) else ((ff_N_isExponent n v2 v1).bind fun r2 => if r2 = 0 then (ff_N_exponentAbove_4 n v0 v1 (v2 + (1 : Int32))) else (some v2))
def ff_N_exponentAbove (n : Nat) (a0 : Int32) (a1 : Int32) : Option Int32 := tl (a0 + (1 : Int32)) fun y4 => ff_N_exponentAbove_4 n a0 a1 y4
set_option maxHeartbeats 4000000 in
set_option maxRecDepth 100000 in
theorem mm_N_exponentAbove (l : Launch) (n : Nat) (a0 : Int32) (a1 : Int32) (r : Int32) (h : ff_N_exponentAbove n a0 a1 = some r) : Met l yy_N_exponentAbove (.code yy_N_exponentAbove cc_N_exponentAbove 3 (some .int) :: kw) { frames := 1, cells := 0, slots := 0, locals := 21 } (va_Pc [.int a0, .int a1] (fun _ => True)) (vp_Si (fun z => z = r)) 0 0 (fun _ => False) := by
  refine Met.ofW (cc := cc_N_exponentAbove) (maxL := 3) (ret := some .int) (by decide) rfl ?_
  intro p e s m args below meth c s₁ B hml hv
  obtain ⟨rfl, -⟩ := hv
  have hx := B.exec
  have hb := B.bytes
  have hr := B.returns
  have hlocks := B.notSynchronized
  have hk : ∀ w ∈ kw, w.before _ s = true := fun w hw => atoms_spec (ws := (.code yy_N_exponentAbove cc_N_exponentAbove 3 (some .int) :: kw)) B.pre w (List.mem_cons_of_mem _ hw)
  have hown : s.vm.findClass "OpenDeal$Numbers" = some m.cls := findClass_of_methodNamed B.named
  have L4 : ∀  (n : Nat) (v0 : Int32) (v1 : Int32) (v2 : Int32), ff_N_exponentAbove_4  n v0 v1 v2 = some r → ∀ ls, lv_has ls 3 [(0, .int v0), (1, .int v1), (2, .int v2)] → W p l e (headSpec (.code yy_N_exponentAbove cc_N_exponentAbove 3 (some .int) :: kw) { frames := 1, cells := 0, slots := 0, locals := 21 }).room s m ([.int a0, .int a1] : List Value).toArray below meth c s.heap [] 0 0 (MQ below (vp_Si (fun z => z = r)) ([.int a0, .int a1] : List Value).toArray s 0 0 (fun _ => False)) (F0 m 4 ls []) := by
    intro  n
    induction n with
    | zero => intro v0 v1 v2 h; exact absurd h (by simp [ff_N_exponentAbove_4])
    | succ n ih =>
      intro v0 v1 v2 h ls hl
      rw [ff_N_exponentAbove_4] at h
      refine lv_iload_n hx hb dd_N_exponentAbove_4 rfl (lv_at hl 2 rfl) ?_
      refine lv_iload_n hx hb dd_N_exponentAbove_5 rfl (lv_at hl 1 rfl) ?_
      refine lv_iconst (v := 2) hx hb dd_N_exponentAbove_6 (by decide) ?_
      refine lv_isub hx hb dd_N_exponentAbove_7 ?_
      refine lv_icmp_gt (tgt := 27) hx hb dd_N_exponentAbove_8 (by decide) (fun hc1 => ?_) (fun hc1 => ?_)
      · have h := ip_out hc1 h
        refine lv_iconst (v := 3) hx hb dd_N_exponentAbove_27 (by decide) ?_
        obtain rfl := Option.some.inj h
        exact W.iret hx hb hr (fun t ht hW => ⟨_, rfl, rfl, ht⟩) (fun q hq => by cases hq) dd_N_exponentAbove_28
      · have h := in_out hc1 h
        refine lv_iload_n hx hb dd_N_exponentAbove_11 rfl (lv_at hl 2 rfl) ?_
        refine lv_iload_n hx hb dd_N_exponentAbove_12 rfl (lv_at hl 1 rfl) ?_
        obtain ⟨r2, hr2, h⟩ := ob_out h
        refine ro_Si (n := 2) (As := [.int v2, .int v1]) hx hb hml hown hk (mm_N_isExponent l _ _ _ _ hr2) (fun U _ _ => trivial) (fun _ _ _ _ _ => trivial) kw_292 kw_201 kw_5 kw_202 ⟨rfl, rfl⟩ (by decide +kernel) ⟨Nat.le_of_ble_eq_true rfl, Nat.le_of_ble_eq_true rfl⟩ rfl hl.1 rfl (Nat.le_of_ble_eq_true rfl) dd_N_exponentAbove_13 ⟨Nat.zero_le _, Nat.zero_le _⟩ ?_
        refine lv_if_eq (tgt := 21) hx hb dd_N_exponentAbove_16 (by decide) (fun hc3 => ?_) (fun hc3 => ?_)
        · have h := ip_out hc3 h
          refine lv_iinc (v := v2 + (1 : Int32)) (lv' := [(2, .int (v2 + (1 : Int32))), (0, .int v0), (1, .int v1)]) hx hb dd_N_exponentAbove_21 hl (k := 2) rfl rfl (by decide) rfl (fun ls hl => ?_)
          refine lv_goto (tgt := 4) hx hb dd_N_exponentAbove_24 (by decide) ?_
          exact ih _ _ _ h _ (lv_sub hl [1, 2, 0] rfl)
        · have h := in_out hc3 h
          refine lv_iload_n hx hb dd_N_exponentAbove_19 rfl (lv_at hl 2 rfl) ?_
          obtain rfl := Option.some.inj h
          exact W.iret hx hb hr (fun t ht hW => ⟨_, rfl, rfl, ht⟩) (fun q hq => by cases hq) dd_N_exponentAbove_20
  have hl := lv_entry ([.int a0, .int a1]) (n := 3) (Nat.le_of_ble_eq_true rfl)
  rw [lg_entry_eq]
  generalize (lg_sl ([.int a0, .int a1]) ++ List.replicate (3 - (lg_sl ([.int a0, .int a1])).length) Slot.unset).toArray = ls at hl ⊢
  have hl : lv_has ls 3 [(0, .int a0), (1, .int a1)] := hl
  unfold ff_N_exponentAbove at h
  refine lv_iload_n hx hb dd_N_exponentAbove_0 rfl (lv_at hl 0 rfl) ?_
  refine lv_iconst (v := 1) hx hb dd_N_exponentAbove_1 (by decide) ?_
  refine lv_iadd hx hb dd_N_exponentAbove_2 ?_
  refine lv_topi (fun y4 ey4 => ?_)
  have h := tl_at ey4 h
  refine lv_istore_n (lv' := [(2, .int y4), (0, .int a0), (1, .int a1)]) hx hb dd_N_exponentAbove_3 rfl hl (by decide) rfl (fun ls hl => ?_)
  exact L4  _ _ _ _ h _ (lv_sub hl [1, 2, 0] rfl)
def ff_N_inverse (n : Nat) (a0 : Int32) (a1 : Int32) : Option Int32 := (ff_N_power n a0 (((a1 - (1 : Int32)) / (2 : Int32)) - (2 : Int32)) (a1 - (1 : Int32))).bind fun r1 => some r1
set_option maxHeartbeats 4000000 in
set_option maxRecDepth 100000 in
theorem mm_N_inverse (l : Launch) (n : Nat) (a0 : Int32) (a1 : Int32) (r : Int32) (h : ff_N_inverse n a0 a1 = some r) : Met l yy_N_inverse (.code yy_N_inverse cc_N_inverse 2 (some .int) :: kw) { frames := 2, cells := 0, slots := 0, locals := 47 } (va_Pc [.int a0, .int a1] (fun _ => True)) (vp_Si (fun z => z = r)) 0 0 (fun _ => False) := by
  refine Met.ofW (cc := cc_N_inverse) (maxL := 2) (ret := some .int) (by decide) rfl ?_
  intro p e s m args below meth c s₁ B hml hv
  obtain ⟨rfl, -⟩ := hv
  have hx := B.exec
  have hb := B.bytes
  have hr := B.returns
  have hlocks := B.notSynchronized
  have hk : ∀ w ∈ kw, w.before _ s = true := fun w hw => atoms_spec (ws := (.code yy_N_inverse cc_N_inverse 2 (some .int) :: kw)) B.pre w (List.mem_cons_of_mem _ hw)
  have hown : s.vm.findClass "OpenDeal$Numbers" = some m.cls := findClass_of_methodNamed B.named
  have hl := lv_entry ([.int a0, .int a1]) (n := 2) (Nat.le_of_ble_eq_true rfl)
  rw [lg_entry_eq]
  generalize (lg_sl ([.int a0, .int a1]) ++ List.replicate (2 - (lg_sl ([.int a0, .int a1])).length) Slot.unset).toArray = ls at hl ⊢
  have hl : lv_has ls 2 [(0, .int a0), (1, .int a1)] := hl
  unfold ff_N_inverse at h
  refine lv_iload_n hx hb dd_N_inverse_0 rfl (lv_at hl 0 rfl) ?_
  refine lv_iload_n hx hb dd_N_inverse_1 rfl (lv_at hl 1 rfl) ?_
  refine lv_iconst (v := 1) hx hb dd_N_inverse_2 (by decide) ?_
  refine lv_isub hx hb dd_N_inverse_3 ?_
  refine lv_iconst (v := 2) hx hb dd_N_inverse_4 (by decide) ?_
  refine lv_idiv hx hb dd_N_inverse_5 (by decide) ?_
  refine lv_iconst (v := 2) hx hb dd_N_inverse_6 (by decide) ?_
  refine lv_isub hx hb dd_N_inverse_7 ?_
  refine lv_iload_n hx hb dd_N_inverse_8 rfl (lv_at hl 1 rfl) ?_
  refine lv_iconst (v := 1) hx hb dd_N_inverse_9 (by decide) ?_
  refine lv_isub hx hb dd_N_inverse_10 ?_
  obtain ⟨r1, hr1, h⟩ := ob_out h
  refine ro_Si (n := 3) (As := [.int a0, .int (((a1 - (1 : Int32)) / (2 : Int32)) - (2 : Int32)), .int (a1 - (1 : Int32))]) hx hb hml hown hk (mm_N_power l _ _ _ _ _ hr1) (fun U _ _ => trivial) (fun _ _ _ _ _ => trivial) kw_155 kw_156 kw_5 kw_157 ⟨rfl, rfl⟩ (by decide +kernel) ⟨Nat.le_of_ble_eq_true rfl, Nat.le_of_ble_eq_true rfl⟩ rfl hl.1 rfl (Nat.le_of_ble_eq_true rfl) dd_N_inverse_11 ⟨Nat.zero_le _, Nat.zero_le _⟩ ?_
  obtain rfl := Option.some.inj h
  exact W.iret hx hb hr (fun t ht hW => ⟨_, rfl, rfl, ht⟩) (fun q hq => by cases hq) dd_N_inverse_14
def ff_N_looksPrime_62  : Nat → Int32 → Int32 → Int32 → Int32 → Int32 → Int32 → Option Int32
  | 0, _, _, _, _, _, _ => none
  | n + 1, v0, v1, v2, v3, v4, v5 => if v3 ≤ v5 then (some (0 : Int32)) else ((ff_N_times n v4 v4 v0).bind fun r2 => if r2 = (v0 - (1 : Int32)) then (some (1 : Int32)) else (ff_N_looksPrime_62 n v0 v1 v2 v3 r2 (v5 + (1 : Int32))))
def ff_N_looksPrime_35  (n : Nat) (v0 : Int32) (v1 : Int32) (v2 : Int32) (v3 : Int32) (v4 : Int32) : Option Int32 := (ff_N_power n v1 v2 v0).bind fun r4 => if r4 = (1 : Int32) then (some (1 : Int32)) else (if r4 = (v0 - (1 : Int32)) then (some (1 : Int32)) else (ff_N_looksPrime_62 n v0 v1 v2 v3 r4 (1 : Int32)))
def ff_N_looksPrime_9  : Nat → Int32 → Int32 → Int32 → Int32 → Int32 → Option Int32
  | 0, _, _, _, _, _ => none
  | n + 1, v0, v1, v2, v3, v4 => if (31 : Int32) ≤ v4 then (ff_N_looksPrime_35 n v0 v1 v2 v3 v4) else (tl (v2 - v2 / (2 : Int32) * (2 : Int32)) fun y8 => if y8 = 0 then (tl (v2 / (2 : Int32)) fun y10 => ff_N_looksPrime_9 n v0 v1 y10 (v3 + (1 : Int32)) (v4 + (1 : Int32))) else (ff_N_looksPrime_35 n v0 v1 v2 v3 v4))
def ff_N_looksPrime (n : Nat) (a0 : Int32) (a1 : Int32) : Option Int32 := tl (a0 - (1 : Int32)) fun y11 => ff_N_looksPrime_9 n a0 a1 y11 (0 : Int32) (0 : Int32)
set_option maxHeartbeats 4000000 in
set_option maxRecDepth 100000 in
theorem mm_N_looksPrime (l : Launch) (n : Nat) (a0 : Int32) (a1 : Int32) (r : Int32) (h : ff_N_looksPrime n a0 a1 = some r) : Met l yy_N_looksPrime (.code yy_N_looksPrime cc_N_looksPrime 6 (some .boolean) :: kw) { frames := 2, cells := 0, slots := 0, locals := 47 } (va_Pc [.int a0, .int a1] (fun _ => True)) (vp_Si (fun z => z = r)) 0 0 (fun _ => False) := by
  refine Met.ofW (cc := cc_N_looksPrime) (maxL := 6) (ret := some .boolean) (by decide) rfl ?_
  intro p e s m args below meth c s₁ B hml hv
  obtain ⟨rfl, -⟩ := hv
  have hx := B.exec
  have hb := B.bytes
  have hr := B.returns
  have hlocks := B.notSynchronized
  have hk : ∀ w ∈ kw, w.before _ s = true := fun w hw => atoms_spec (ws := (.code yy_N_looksPrime cc_N_looksPrime 6 (some .boolean) :: kw)) B.pre w (List.mem_cons_of_mem _ hw)
  have hown : s.vm.findClass "OpenDeal$Numbers" = some m.cls := findClass_of_methodNamed B.named
  have L62 : ∀  (n : Nat) (v0 : Int32) (v1 : Int32) (v2 : Int32) (v3 : Int32) (v4 : Int32) (v5 : Int32), ff_N_looksPrime_62  n v0 v1 v2 v3 v4 v5 = some r → ∀ ls, lv_has ls 6 [(0, .int v0), (1, .int v1), (2, .int v2), (3, .int v3), (4, .int v4), (5, .int v5)] → W p l e (headSpec (.code yy_N_looksPrime cc_N_looksPrime 6 (some .boolean) :: kw) { frames := 2, cells := 0, slots := 0, locals := 47 }).room s m ([.int a0, .int a1] : List Value).toArray below meth c s.heap [] 0 0 (MQ below (vp_Si (fun z => z = r)) ([.int a0, .int a1] : List Value).toArray s 0 0 (fun _ => False)) (F0 m 62 ls []) := by
    intro  n
    induction n with
    | zero => intro v0 v1 v2 v3 v4 v5 h; exact absurd h (by simp [ff_N_looksPrime_62])
    | succ n ih =>
      intro v0 v1 v2 v3 v4 v5 h ls hl
      rw [ff_N_looksPrime_62] at h
      refine lv_iload hx hb dd_N_looksPrime_62 (lv_at hl 5 rfl) ?_
      refine lv_iload_n hx hb dd_N_looksPrime_64 rfl (lv_at hl 3 rfl) ?_
      refine lv_icmp_ge (tgt := 94) hx hb dd_N_looksPrime_65 (by decide) (fun hc1 => ?_) (fun hc1 => ?_)
      · have h := ip_out hc1 h
        refine lv_iconst (v := 0) hx hb dd_N_looksPrime_94 (by decide) ?_
        obtain rfl := Option.some.inj h
        exact W.zret hx hb hr rfl (fun t ht hW => ⟨_, rfl, rfl, ht⟩) (fun q hq => by cases hq) dd_N_looksPrime_95
      · have h := in_out hc1 h
        refine lv_iload hx hb dd_N_looksPrime_68 (lv_at hl 4 rfl) ?_
        refine lv_iload hx hb dd_N_looksPrime_70 (lv_at hl 4 rfl) ?_
        refine lv_iload_n hx hb dd_N_looksPrime_72 rfl (lv_at hl 0 rfl) ?_
        obtain ⟨r2, hr2, h⟩ := ob_out h
        refine ro_Si (n := 3) (As := [.int v4, .int v4, .int v0]) hx hb hml hown hk (mm_N_times l _ _ _ _ _ hr2) (fun U _ _ => trivial) (fun _ _ _ _ _ => trivial) kw_158 kw_159 kw_5 kw_160 ⟨rfl, rfl⟩ (by decide +kernel) ⟨Nat.le_of_ble_eq_true rfl, Nat.le_of_ble_eq_true rfl⟩ rfl hl.1 rfl (Nat.le_of_ble_eq_true rfl) dd_N_looksPrime_73 ⟨Nat.zero_le _, Nat.zero_le _⟩ ?_
        refine lv_istore (lv' := [(4, .int r2), (0, .int v0), (1, .int v1), (2, .int v2), (3, .int v3), (5, .int v5)]) hx hb dd_N_looksPrime_76 hl (by decide) rfl (fun ls hl => ?_)
        refine lv_iload hx hb dd_N_looksPrime_78 (lv_at hl 0 rfl) ?_
        refine lv_iload_n hx hb dd_N_looksPrime_80 rfl (lv_at hl 1 rfl) ?_
        refine lv_iconst (v := 1) hx hb dd_N_looksPrime_81 (by decide) ?_
        refine lv_isub hx hb dd_N_looksPrime_82 ?_
        refine lv_icmp_ne (tgt := 88) hx hb dd_N_looksPrime_83 (by decide) (fun hc3 => ?_) (fun hc3 => ?_)
        · have h := in_out hc3 h
          refine lv_iinc (v := v5 + (1 : Int32)) (lv' := [(5, .int (v5 + (1 : Int32))), (4, .int r2), (0, .int v0), (1, .int v1), (2, .int v2), (3, .int v3)]) hx hb dd_N_looksPrime_88 hl (k := 5) rfl rfl (by decide) rfl (fun ls hl => ?_)
          refine lv_goto (tgt := 62) hx hb dd_N_looksPrime_91 (by decide) ?_
          exact ih _ _ _ _ _ _ h _ (lv_sub hl [2, 3, 4, 5, 1, 0] rfl)
        · have h := ip_out hc3 h
          refine lv_iconst (v := 1) hx hb dd_N_looksPrime_86 (by decide) ?_
          obtain rfl := Option.some.inj h
          exact W.zret hx hb hr rfl (fun t ht hW => ⟨_, rfl, rfl, ht⟩) (fun q hq => by cases hq) dd_N_looksPrime_87
  have L35 : ∀  (n : Nat) (v0 : Int32) (v1 : Int32) (v2 : Int32) (v3 : Int32) (v4 : Int32), ff_N_looksPrime_35  n v0 v1 v2 v3 v4 = some r → ∀ ls, lv_has ls 6 [(0, .int v0), (1, .int v1), (2, .int v2), (3, .int v3), (4, .int v4)] → W p l e (headSpec (.code yy_N_looksPrime cc_N_looksPrime 6 (some .boolean) :: kw) { frames := 2, cells := 0, slots := 0, locals := 47 }).room s m ([.int a0, .int a1] : List Value).toArray below meth c s.heap [] 0 0 (MQ below (vp_Si (fun z => z = r)) ([.int a0, .int a1] : List Value).toArray s 0 0 (fun _ => False)) (F0 m 35 ls []) := by
    intro  n v0 v1 v2 v3 v4 h ls hl
    unfold ff_N_looksPrime_35 at h
    refine lv_iload_n hx hb dd_N_looksPrime_35 rfl (lv_at hl 1 rfl) ?_
    refine lv_iload_n hx hb dd_N_looksPrime_36 rfl (lv_at hl 2 rfl) ?_
    refine lv_iload_n hx hb dd_N_looksPrime_37 rfl (lv_at hl 0 rfl) ?_
    obtain ⟨r4, hr4, h⟩ := ob_out h
    refine ro_Si (n := 3) (As := [.int v1, .int v2, .int v0]) hx hb hml hown hk (mm_N_power l _ _ _ _ _ hr4) (fun U _ _ => trivial) (fun _ _ _ _ _ => trivial) kw_155 kw_156 kw_5 kw_157 ⟨rfl, rfl⟩ (by decide +kernel) ⟨Nat.le_of_ble_eq_true rfl, Nat.le_of_ble_eq_true rfl⟩ rfl hl.1 rfl (Nat.le_of_ble_eq_true rfl) dd_N_looksPrime_38 ⟨Nat.zero_le _, Nat.zero_le _⟩ ?_
    refine lv_istore (lv' := [(4, .int r4), (0, .int v0), (1, .int v1), (2, .int v2), (3, .int v3)]) hx hb dd_N_looksPrime_41 hl (by decide) rfl (fun ls hl => ?_)
    refine lv_iload hx hb dd_N_looksPrime_43 (lv_at hl 0 rfl) ?_
    refine lv_iconst (v := 1) hx hb dd_N_looksPrime_45 (by decide) ?_
    refine lv_icmp_eq (tgt := 57) hx hb dd_N_looksPrime_46 (by decide) (fun hc5 => ?_) (fun hc5 => ?_)
    · have h := ip_out hc5 h
      refine lv_iconst (v := 1) hx hb dd_N_looksPrime_57 (by decide) ?_
      obtain rfl := Option.some.inj h
      exact W.zret hx hb hr rfl (fun t ht hW => ⟨_, rfl, rfl, ht⟩) (fun q hq => by cases hq) dd_N_looksPrime_58
    · have h := in_out hc5 h
      refine lv_iload hx hb dd_N_looksPrime_49 (lv_at hl 0 rfl) ?_
      refine lv_iload_n hx hb dd_N_looksPrime_51 rfl (lv_at hl 1 rfl) ?_
      refine lv_iconst (v := 1) hx hb dd_N_looksPrime_52 (by decide) ?_
      refine lv_isub hx hb dd_N_looksPrime_53 ?_
      refine lv_icmp_ne (tgt := 59) hx hb dd_N_looksPrime_54 (by decide) (fun hc6 => ?_) (fun hc6 => ?_)
      · have h := in_out hc6 h
        refine lv_iconst (v := 1) hx hb dd_N_looksPrime_59 (by decide) ?_
        refine lv_istore (lv' := [(5, .int (1 : Int32)), (4, .int r4), (0, .int v0), (1, .int v1), (2, .int v2), (3, .int v3)]) hx hb dd_N_looksPrime_60 hl (by decide) rfl (fun ls hl => ?_)
        exact L62  _ _ _ _ _ _ _ h _ (lv_sub hl [2, 3, 4, 5, 1, 0] rfl)
      · have h := ip_out hc6 h
        refine lv_iconst (v := 1) hx hb dd_N_looksPrime_57 (by decide) ?_
        obtain rfl := Option.some.inj h
        exact W.zret hx hb hr rfl (fun t ht hW => ⟨_, rfl, rfl, ht⟩) (fun q hq => by cases hq) dd_N_looksPrime_58
  have L9 : ∀  (n : Nat) (v0 : Int32) (v1 : Int32) (v2 : Int32) (v3 : Int32) (v4 : Int32), ff_N_looksPrime_9  n v0 v1 v2 v3 v4 = some r → ∀ ls, lv_has ls 6 [(0, .int v0), (1, .int v1), (2, .int v2), (3, .int v3), (4, .int v4)] → W p l e (headSpec (.code yy_N_looksPrime cc_N_looksPrime 6 (some .boolean) :: kw) { frames := 2, cells := 0, slots := 0, locals := 47 }).room s m ([.int a0, .int a1] : List Value).toArray below meth c s.heap [] 0 0 (MQ below (vp_Si (fun z => z = r)) ([.int a0, .int a1] : List Value).toArray s 0 0 (fun _ => False)) (F0 m 9 ls []) := by
    intro  n
    induction n with
    | zero => intro v0 v1 v2 v3 v4 h; exact absurd h (by simp [ff_N_looksPrime_9])
    | succ n ih =>
      intro v0 v1 v2 v3 v4 h ls hl
      rw [ff_N_looksPrime_9] at h
      refine lv_iload hx hb dd_N_looksPrime_9 (lv_at hl 4 rfl) ?_
      refine lv_bipush (v := 31) hx hb dd_N_looksPrime_11 (by decide) ?_
      refine lv_icmp_ge (tgt := 35) hx hb dd_N_looksPrime_13 (by decide) (fun hc7 => ?_) (fun hc7 => ?_)
      · have h := ip_out hc7 h
        exact L35  _ _ _ _ _ _ h _ (lv_sub hl [0, 1, 2, 3, 4] rfl)
      · have h := in_out hc7 h
        refine lv_iload_n hx hb dd_N_looksPrime_16 rfl (lv_at hl 2 rfl) ?_
        refine lv_iconst (v := 2) hx hb dd_N_looksPrime_17 (by decide) ?_
        refine lv_irem hx hb dd_N_looksPrime_18 (by decide) ?_
        refine lv_topi (fun y8 ey8 => ?_)
        have h := tl_at ey8 h
        refine lv_if_ne (tgt := 35) hx hb dd_N_looksPrime_19 (by decide) (fun hc9 => ?_) (fun hc9 => ?_)
        · have h := in_out hc9 h
          exact L35  _ _ _ _ _ _ h _ (lv_sub hl [0, 1, 2, 3, 4] rfl)
        · have h := ip_out hc9 h
          refine lv_iload_n hx hb dd_N_looksPrime_22 rfl (lv_at hl 2 rfl) ?_
          refine lv_iconst (v := 2) hx hb dd_N_looksPrime_23 (by decide) ?_
          refine lv_idiv hx hb dd_N_looksPrime_24 (by decide) ?_
          refine lv_topi (fun y10 ey10 => ?_)
          have h := tl_at ey10 h
          refine lv_istore_n (lv' := [(2, .int y10), (0, .int v0), (1, .int v1), (3, .int v3), (4, .int v4)]) hx hb dd_N_looksPrime_25 rfl hl (by decide) rfl (fun ls hl => ?_)
          refine lv_iinc (v := v3 + (1 : Int32)) (lv' := [(3, .int (v3 + (1 : Int32))), (2, .int y10), (0, .int v0), (1, .int v1), (4, .int v4)]) hx hb dd_N_looksPrime_26 hl (k := 3) rfl rfl (by decide) rfl (fun ls hl => ?_)
          refine lv_iinc (v := v4 + (1 : Int32)) (lv' := [(4, .int (v4 + (1 : Int32))), (3, .int (v3 + (1 : Int32))), (2, .int y10), (0, .int v0), (1, .int v1)]) hx hb dd_N_looksPrime_29 hl (k := 4) rfl rfl (by decide) rfl (fun ls hl => ?_)
          refine lv_goto (tgt := 9) hx hb dd_N_looksPrime_32 (by decide) ?_
          exact ih _ _ _ _ _ h _ (lv_sub hl [3, 4, 2, 1, 0] rfl)
  have hl := lv_entry ([.int a0, .int a1]) (n := 6) (Nat.le_of_ble_eq_true rfl)
  rw [lg_entry_eq]
  generalize (lg_sl ([.int a0, .int a1]) ++ List.replicate (6 - (lg_sl ([.int a0, .int a1])).length) Slot.unset).toArray = ls at hl ⊢
  have hl : lv_has ls 6 [(0, .int a0), (1, .int a1)] := hl
  unfold ff_N_looksPrime at h
  refine lv_iload_n hx hb dd_N_looksPrime_0 rfl (lv_at hl 0 rfl) ?_
  refine lv_iconst (v := 1) hx hb dd_N_looksPrime_1 (by decide) ?_
  refine lv_isub hx hb dd_N_looksPrime_2 ?_
  refine lv_topi (fun y11 ey11 => ?_)
  have h := tl_at ey11 h
  refine lv_istore_n (lv' := [(2, .int y11), (0, .int a0), (1, .int a1)]) hx hb dd_N_looksPrime_3 rfl hl (by decide) rfl (fun ls hl => ?_)
  refine lv_iconst (v := 0) hx hb dd_N_looksPrime_4 (by decide) ?_
  refine lv_istore_n (lv' := [(3, .int (0 : Int32)), (2, .int y11), (0, .int a0), (1, .int a1)]) hx hb dd_N_looksPrime_5 rfl hl (by decide) rfl (fun ls hl => ?_)
  refine lv_iconst (v := 0) hx hb dd_N_looksPrime_6 (by decide) ?_
  refine lv_istore (lv' := [(4, .int (0 : Int32)), (3, .int (0 : Int32)), (2, .int y11), (0, .int a0), (1, .int a1)]) hx hb dd_N_looksPrime_7 hl (by decide) rfl (fun ls hl => ?_)
  exact L9  _ _ _ _ _ _ h _ (lv_sub hl [3, 4, 2, 1, 0] rfl)
def ff_M_isPrime_2  : Nat → Int32 → Int32 → Option Int32
  | 0, _, _ => none
  | n + 1, v0, v1 => if 0 < (lg_cmp ((Int32.toInt64 v1) * (Int32.toInt64 v1)) (Int32.toInt64 v0)) then (if v0 ≤ (1 : Int32) then (some (0 : Int32)) else (some (1 : Int32))) else (if ¬ v1 = 0 then tl (v0 - v0 / v1 * v1) fun y4 => if y4 = 0 then (some (0 : Int32)) else (ff_M_isPrime_2 n v0 (v1 + (1 : Int32))) else none)
def ff_M_isPrime (n : Nat) (a0 : Int32) : Option Int32 := ff_M_isPrime_2 n a0 (2 : Int32)
set_option maxHeartbeats 4000000 in
set_option maxRecDepth 100000 in
theorem mm_M_isPrime (l : Launch) (n : Nat) (a0 : Int32) (r : Int32) (h : ff_M_isPrime n a0 = some r) : Met l yy_M_isPrime (.code yy_M_isPrime cc_M_isPrime 2 (some .boolean) :: kw) { frames := 0, cells := 0, slots := 0, locals := 0 } (va_Pc [.int a0] (fun _ => True)) (vp_Si (fun z => z = r)) 0 0 (fun _ => False) := by
  refine Met.ofW (cc := cc_M_isPrime) (maxL := 2) (ret := some .boolean) (by decide) rfl ?_
  intro p e s m args below meth c s₁ B hml hv
  obtain ⟨rfl, -⟩ := hv
  have hx := B.exec
  have hb := B.bytes
  have hr := B.returns
  have hlocks := B.notSynchronized
  have hk : ∀ w ∈ kw, w.before _ s = true := fun w hw => atoms_spec (ws := (.code yy_M_isPrime cc_M_isPrime 2 (some .boolean) :: kw)) B.pre w (List.mem_cons_of_mem _ hw)
  have hown : s.vm.findClass "OpenDealModel" = some m.cls := findClass_of_methodNamed B.named
  have L2 : ∀  (n : Nat) (v0 : Int32) (v1 : Int32), ff_M_isPrime_2  n v0 v1 = some r → ∀ ls, lv_has ls 2 [(0, .int v0), (1, .int v1)] → W p l e (headSpec (.code yy_M_isPrime cc_M_isPrime 2 (some .boolean) :: kw) { frames := 0, cells := 0, slots := 0, locals := 0 }).room s m ([.int a0] : List Value).toArray below meth c s.heap [] 0 0 (MQ below (vp_Si (fun z => z = r)) ([.int a0] : List Value).toArray s 0 0 (fun _ => False)) (F0 m 2 ls []) := by
    intro  n
    induction n with
    | zero => intro v0 v1 h; exact absurd h (by simp [ff_M_isPrime_2])
    | succ n ih =>
      intro v0 v1 h ls hl
      rw [ff_M_isPrime_2] at h
      refine lv_iload_n hx hb dd_M_isPrime_2 rfl (lv_at hl 1 rfl) ?_
      refine lv_i2l hx hb dd_M_isPrime_3 rfl ?_
      refine lv_iload_n hx hb dd_M_isPrime_4 rfl (lv_at hl 1 rfl) ?_
      refine lv_i2l hx hb dd_M_isPrime_5 rfl ?_
      refine lv_lmul hx hb dd_M_isPrime_6 ?_
      refine lv_iload_n hx hb dd_M_isPrime_7 rfl (lv_at hl 0 rfl) ?_
      refine lv_i2l hx hb dd_M_isPrime_8 rfl ?_
      refine W.lcmp hx hb dd_M_isPrime_9 ?_
      refine lv_if_gt (tgt := 27) hx hb dd_M_isPrime_10 (by decide) (fun hc1 => ?_) (fun hc1 => ?_)
      · have h := ip_out hc1 h
        refine lv_iload_n hx hb dd_M_isPrime_27 rfl (lv_at hl 0 rfl) ?_
        refine lv_iconst (v := 1) hx hb dd_M_isPrime_28 (by decide) ?_
        refine lv_icmp_le (tgt := 36) hx hb dd_M_isPrime_29 (by decide) (fun hc2 => ?_) (fun hc2 => ?_)
        · have h := ip_out hc2 h
          refine lv_iconst (v := 0) hx hb dd_M_isPrime_36 (by decide) ?_
          obtain rfl := Option.some.inj h
          exact W.zret hx hb hr rfl (fun t ht hW => ⟨_, rfl, rfl, ht⟩) (fun q hq => by cases hq) dd_M_isPrime_37
        · have h := in_out hc2 h
          refine lv_iconst (v := 1) hx hb dd_M_isPrime_32 (by decide) ?_
          refine lv_goto (tgt := 37) hx hb dd_M_isPrime_33 (by decide) ?_
          obtain rfl := Option.some.inj h
          exact W.zret hx hb hr rfl (fun t ht hW => ⟨_, rfl, rfl, ht⟩) (fun q hq => by cases hq) dd_M_isPrime_37
      · have h := in_out hc1 h
        refine lv_iload_n hx hb dd_M_isPrime_13 rfl (lv_at hl 0 rfl) ?_
        refine lv_iload_n hx hb dd_M_isPrime_14 rfl (lv_at hl 1 rfl) ?_
        obtain ⟨hz3, h⟩ := oi_out h
        refine lv_irem hx hb dd_M_isPrime_15 hz3 ?_
        refine lv_topi (fun y4 ey4 => ?_)
        have h := tl_at ey4 h
        refine lv_if_ne (tgt := 21) hx hb dd_M_isPrime_16 (by decide) (fun hc5 => ?_) (fun hc5 => ?_)
        · have h := in_out hc5 h
          refine lv_iinc (v := v1 + (1 : Int32)) (lv' := [(1, .int (v1 + (1 : Int32))), (0, .int v0)]) hx hb dd_M_isPrime_21 hl (k := 1) rfl rfl (by decide) rfl (fun ls hl => ?_)
          refine lv_goto (tgt := 2) hx hb dd_M_isPrime_24 (by decide) ?_
          exact ih _ _ h _ (lv_sub hl [1, 0] rfl)
        · have h := ip_out hc5 h
          refine lv_iconst (v := 0) hx hb dd_M_isPrime_19 (by decide) ?_
          obtain rfl := Option.some.inj h
          exact W.zret hx hb hr rfl (fun t ht hW => ⟨_, rfl, rfl, ht⟩) (fun q hq => by cases hq) dd_M_isPrime_20
  have hl := lv_entry ([.int a0]) (n := 2) (Nat.le_of_ble_eq_true rfl)
  rw [lg_entry_eq]
  generalize (lg_sl ([.int a0]) ++ List.replicate (2 - (lg_sl ([.int a0])).length) Slot.unset).toArray = ls at hl ⊢
  have hl : lv_has ls 2 [(0, .int a0)] := hl
  unfold ff_M_isPrime at h
  refine lv_iconst (v := 2) hx hb dd_M_isPrime_0 (by decide) ?_
  refine lv_istore_n (lv' := [(1, .int (2 : Int32)), (0, .int a0)]) hx hb dd_M_isPrime_1 rfl hl (by decide) rfl (fun ls hl => ?_)
  exact L2  _ _ _ h _ (lv_sub hl [1, 0] rfl)
def ff_M_power_32 (k11 : Int32 → Int32 → Int32 → Int64 → Int64 → Int32 → Option Int32) (n : Nat) (v0 : Int32) (v1 : Int32) (v2 : Int32) (v3 : Int64) (v5 : Int64) (v7 : Int32) : Option Int32 := if ¬ (Int32.toInt64 v2) = 0 then tl ((v5 * v5) - (v5 * v5) / (Int32.toInt64 v2) * (Int32.toInt64 v2)) fun y2 => tl (v7 / (2 : Int32)) fun y3 => k11 v0 v1 v2 v3 y2 y3 else none
def ff_M_power_11  : Nat → Int32 → Int32 → Int32 → Int64 → Int64 → Int32 → Option Int32
  | 0, _, _, _, _, _, _ => none
  | n + 1, v0, v1, v2, v3, v5, v7 => if v7 ≤ 0 then (some (Int64.toInt32 v3)) else (tl (v7 - v7 / (2 : Int32) * (2 : Int32)) fun y5 => if y5 = (1 : Int32) then (if ¬ (Int32.toInt64 v2) = 0 then tl ((v3 * v5) - (v3 * v5) / (Int32.toInt64 v2) * (Int32.toInt64 v2)) fun y8 => ff_M_power_32 (ff_M_power_11 n) n v0 v1 v2 y8 v5 v7 else none) else (ff_M_power_32 (ff_M_power_11 n) n v0 v1 v2 v3 v5 v7))
def ff_M_power (n : Nat) (a0 : Int32) (a1 : Int32) (a2 : Int32) : Option Int32 := if ¬ a2 = 0 then tl (a0 - a0 / a2 * a2) fun y10 => tl (Int32.toInt64 y10) fun y11 => ff_M_power_11 n a0 a1 a2 (1 : Int64) y11 a1 else none
set_option maxHeartbeats 4000000 in
set_option maxRecDepth 100000 in
theorem mm_M_power (l : Launch) (n : Nat) (a0 : Int32) (a1 : Int32) (a2 : Int32) (r : Int32) (h : ff_M_power n a0 a1 a2 = some r) : Met l yy_M_power (.code yy_M_power cc_M_power 8 (some .int) :: kw) { frames := 0, cells := 0, slots := 0, locals := 0 } (va_Pc [.int a0, .int a1, .int a2] (fun _ => True)) (vp_Si (fun z => z = r)) 0 0 (fun _ => False) := by
  refine Met.ofW (cc := cc_M_power) (maxL := 8) (ret := some .int) (by decide) rfl ?_
  intro p e s m args below meth c s₁ B hml hv
  obtain ⟨rfl, -⟩ := hv
  have hx := B.exec
  have hb := B.bytes
  have hr := B.returns
  have hlocks := B.notSynchronized
  have hk : ∀ w ∈ kw, w.before _ s = true := fun w hw => atoms_spec (ws := (.code yy_M_power cc_M_power 8 (some .int) :: kw)) B.pre w (List.mem_cons_of_mem _ hw)
  have hown : s.vm.findClass "OpenDealModel" = some m.cls := findClass_of_methodNamed B.named
  have L32 : ∀ (k11 : Int32 → Int32 → Int32 → Int64 → Int64 → Int32 → Option Int32) (hk11 : ∀ (v0 : Int32) (v1 : Int32) (v2 : Int32) (v3 : Int64) (v5 : Int64) (v7 : Int32), k11 v0 v1 v2 v3 v5 v7 = some r → ∀ ls, lv_has ls 8 [(0, .int v0), (1, .int v1), (2, .int v2), (3, .long v3), (5, .long v5), (7, .int v7)] → W p l e (headSpec (.code yy_M_power cc_M_power 8 (some .int) :: kw) { frames := 0, cells := 0, slots := 0, locals := 0 }).room s m ([.int a0, .int a1, .int a2] : List Value).toArray below meth c s.heap [] 0 0 (MQ below (vp_Si (fun z => z = r)) ([.int a0, .int a1, .int a2] : List Value).toArray s 0 0 (fun _ => False)) (F0 m 11 ls [])) (n : Nat) (v0 : Int32) (v1 : Int32) (v2 : Int32) (v3 : Int64) (v5 : Int64) (v7 : Int32), ff_M_power_32 k11 n v0 v1 v2 v3 v5 v7 = some r → ∀ ls, lv_has ls 8 [(0, .int v0), (1, .int v1), (2, .int v2), (3, .long v3), (5, .long v5), (7, .int v7)] → W p l e (headSpec (.code yy_M_power cc_M_power 8 (some .int) :: kw) { frames := 0, cells := 0, slots := 0, locals := 0 }).room s m ([.int a0, .int a1, .int a2] : List Value).toArray below meth c s.heap [] 0 0 (MQ below (vp_Si (fun z => z = r)) ([.int a0, .int a1, .int a2] : List Value).toArray s 0 0 (fun _ => False)) (F0 m 32 ls []) := by
    intro k11 hk11 n v0 v1 v2 v3 v5 v7 h ls hl
    unfold ff_M_power_32 at h
    refine lv_lload hx hb dd_M_power_32 (lv_at hl 4 rfl) ?_
    refine lv_lload hx hb dd_M_power_34 (lv_at hl 4 rfl) ?_
    refine lv_lmul hx hb dd_M_power_36 ?_
    refine lv_iload_n hx hb dd_M_power_37 rfl (lv_at hl 2 rfl) ?_
    refine lv_i2l hx hb dd_M_power_38 rfl ?_
    obtain ⟨hz1, h⟩ := oi_out h
    refine lv_lrem hx hb dd_M_power_39 hz1 ?_
    refine lv_topl (fun y2 ey2 => ?_)
    have h := tl_at ey2 h
    refine lv_lstore (lv' := [(5, .long y2), (0, .int v0), (1, .int v1), (2, .int v2), (3, .long v3), (7, .int v7)]) hx hb dd_M_power_40 hl (by decide) rfl (fun ls hl => ?_)
    refine lv_iload hx hb dd_M_power_42 (lv_at hl 5 rfl) ?_
    refine lv_iconst (v := 2) hx hb dd_M_power_44 (by decide) ?_
    refine lv_idiv hx hb dd_M_power_45 (by decide) ?_
    refine lv_topi (fun y3 ey3 => ?_)
    have h := tl_at ey3 h
    refine lv_istore (lv' := [(7, .int y3), (5, .long y2), (0, .int v0), (1, .int v1), (2, .int v2), (3, .long v3)]) hx hb dd_M_power_46 hl (by decide) rfl (fun ls hl => ?_)
    refine lv_goto (tgt := 11) hx hb dd_M_power_48 (by decide) ?_
    exact hk11 _ _ _ _ _ _ h _ (lv_sub hl [2, 3, 4, 5, 1, 0] rfl)
  have L11 : ∀  (n : Nat) (v0 : Int32) (v1 : Int32) (v2 : Int32) (v3 : Int64) (v5 : Int64) (v7 : Int32), ff_M_power_11  n v0 v1 v2 v3 v5 v7 = some r → ∀ ls, lv_has ls 8 [(0, .int v0), (1, .int v1), (2, .int v2), (3, .long v3), (5, .long v5), (7, .int v7)] → W p l e (headSpec (.code yy_M_power cc_M_power 8 (some .int) :: kw) { frames := 0, cells := 0, slots := 0, locals := 0 }).room s m ([.int a0, .int a1, .int a2] : List Value).toArray below meth c s.heap [] 0 0 (MQ below (vp_Si (fun z => z = r)) ([.int a0, .int a1, .int a2] : List Value).toArray s 0 0 (fun _ => False)) (F0 m 11 ls []) := by
    intro  n
    induction n with
    | zero => intro v0 v1 v2 v3 v5 v7 h; exact absurd h (by simp [ff_M_power_11])
    | succ n ih =>
      intro v0 v1 v2 v3 v5 v7 h ls hl
      rw [ff_M_power_11] at h
      refine lv_iload hx hb dd_M_power_11 (lv_at hl 5 rfl) ?_
      refine lv_if_le (tgt := 51) hx hb dd_M_power_13 (by decide) (fun hc4 => ?_) (fun hc4 => ?_)
      · have h := ip_out hc4 h
        refine lv_lload_n hx hb dd_M_power_51 rfl (lv_at hl 3 rfl) ?_
        refine lv_l2i hx hb dd_M_power_52 rfl ?_
        obtain rfl := Option.some.inj h
        exact W.iret hx hb hr (fun t ht hW => ⟨_, rfl, rfl, ht⟩) (fun q hq => by cases hq) dd_M_power_53
      · have h := in_out hc4 h
        refine lv_iload hx hb dd_M_power_16 (lv_at hl 5 rfl) ?_
        refine lv_iconst (v := 2) hx hb dd_M_power_18 (by decide) ?_
        refine lv_irem hx hb dd_M_power_19 (by decide) ?_
        refine lv_topi (fun y5 ey5 => ?_)
        have h := tl_at ey5 h
        refine lv_iconst (v := 1) hx hb dd_M_power_20 (by decide) ?_
        refine lv_icmp_ne (tgt := 32) hx hb dd_M_power_21 (by decide) (fun hc6 => ?_) (fun hc6 => ?_)
        · have h := in_out hc6 h
          exact L32 _ (fun _ _ _ _ _ _ hh ls hl => ih _ _ _ _ _ _ hh ls hl) _ _ _ _ _ _ _ h _ (lv_sub hl [0, 1, 2, 3, 4, 5] rfl)
        · have h := ip_out hc6 h
          refine lv_lload_n hx hb dd_M_power_24 rfl (lv_at hl 3 rfl) ?_
          refine lv_lload hx hb dd_M_power_25 (lv_at hl 4 rfl) ?_
          refine lv_lmul hx hb dd_M_power_27 ?_
          refine lv_iload_n hx hb dd_M_power_28 rfl (lv_at hl 2 rfl) ?_
          refine lv_i2l hx hb dd_M_power_29 rfl ?_
          obtain ⟨hz7, h⟩ := oi_out h
          refine lv_lrem hx hb dd_M_power_30 hz7 ?_
          refine lv_topl (fun y8 ey8 => ?_)
          have h := tl_at ey8 h
          refine lv_lstore_n (lv' := [(3, .long y8), (0, .int v0), (1, .int v1), (2, .int v2), (5, .long v5), (7, .int v7)]) hx hb dd_M_power_31 rfl hl (by decide) rfl (fun ls hl => ?_)
          exact L32 _ (fun _ _ _ _ _ _ hh ls hl => ih _ _ _ _ _ _ hh ls hl) _ _ _ _ _ _ _ h _ (lv_sub hl [1, 2, 3, 0, 4, 5] rfl)
  have hl := lv_entry ([.int a0, .int a1, .int a2]) (n := 8) (Nat.le_of_ble_eq_true rfl)
  rw [lg_entry_eq]
  generalize (lg_sl ([.int a0, .int a1, .int a2]) ++ List.replicate (8 - (lg_sl ([.int a0, .int a1, .int a2])).length) Slot.unset).toArray = ls at hl ⊢
  have hl : lv_has ls 8 [(0, .int a0), (1, .int a1), (2, .int a2)] := hl
  unfold ff_M_power at h
  refine lv_lconst (v := 1) hx hb dd_M_power_0 (by decide) ?_
  refine lv_lstore_n (lv' := [(3, .long (1 : Int64)), (0, .int a0), (1, .int a1), (2, .int a2)]) hx hb dd_M_power_1 rfl hl (by decide) rfl (fun ls hl => ?_)
  refine lv_iload_n hx hb dd_M_power_2 rfl (lv_at hl 1 rfl) ?_
  refine lv_iload_n hx hb dd_M_power_3 rfl (lv_at hl 3 rfl) ?_
  obtain ⟨hz9, h⟩ := oi_out h
  refine lv_irem hx hb dd_M_power_4 hz9 ?_
  refine lv_topi (fun y10 ey10 => ?_)
  have h := tl_at ey10 h
  refine lv_i2l hx hb dd_M_power_5 rfl ?_
  refine lv_topl (fun y11 ey11 => ?_)
  have h := tl_at ey11 h
  refine lv_lstore (lv' := [(5, .long y11), (3, .long (1 : Int64)), (0, .int a0), (1, .int a1), (2, .int a2)]) hx hb dd_M_power_6 hl (by decide) rfl (fun ls hl => ?_)
  refine lv_iload_n hx hb dd_M_power_8 rfl (lv_at hl 3 rfl) ?_
  refine lv_istore (lv' := [(7, .int a1), (5, .long y11), (3, .long (1 : Int64)), (0, .int a0), (1, .int a1), (2, .int a2)]) hx hb dd_M_power_9 hl (by decide) rfl (fun ls hl => ?_)
  exact L11  _ _ _ _ _ _ _ h _ (lv_sub hl [3, 4, 5, 2, 1, 0] rfl)
def ff_M_isPlace (n : Nat) (a0 : Int32) : Option Int32 := if a0 < 0 then (some (0 : Int32)) else (if (52 : Int32) ≤ a0 then (some (0 : Int32)) else (some (1 : Int32)))
set_option maxHeartbeats 4000000 in
set_option maxRecDepth 100000 in
theorem mm_M_isPlace (l : Launch) (n : Nat) (a0 : Int32) (r : Int32) (h : ff_M_isPlace n a0 = some r) : Met l yy_M_isPlace (.code yy_M_isPlace cc_M_isPlace 1 (some .boolean) :: kw) { frames := 0, cells := 0, slots := 0, locals := 0 } (va_Pc [.int a0] (fun _ => True)) (vp_Si (fun z => z = r)) 0 0 (fun _ => False) := by
  refine Met.ofW (cc := cc_M_isPlace) (maxL := 1) (ret := some .boolean) (by decide) rfl ?_
  intro p e s m args below meth c s₁ B hml hv
  obtain ⟨rfl, -⟩ := hv
  have hx := B.exec
  have hb := B.bytes
  have hr := B.returns
  have hlocks := B.notSynchronized
  have hk : ∀ w ∈ kw, w.before _ s = true := fun w hw => atoms_spec (ws := (.code yy_M_isPlace cc_M_isPlace 1 (some .boolean) :: kw)) B.pre w (List.mem_cons_of_mem _ hw)
  have hown : s.vm.findClass "OpenDealModel" = some m.cls := findClass_of_methodNamed B.named
  have hl := lv_entry ([.int a0]) (n := 1) (Nat.le_of_ble_eq_true rfl)
  rw [lg_entry_eq]
  generalize (lg_sl ([.int a0]) ++ List.replicate (1 - (lg_sl ([.int a0])).length) Slot.unset).toArray = ls at hl ⊢
  have hl : lv_has ls 1 [(0, .int a0)] := hl
  unfold ff_M_isPlace at h
  refine lv_iload_n hx hb dd_M_isPlace_0 rfl (lv_at hl 0 rfl) ?_
  refine lv_if_lt (tgt := 14) hx hb dd_M_isPlace_1 (by decide) (fun hc1 => ?_) (fun hc1 => ?_)
  · have h := ip_out hc1 h
    refine lv_iconst (v := 0) hx hb dd_M_isPlace_14 (by decide) ?_
    obtain rfl := Option.some.inj h
    exact W.zret hx hb hr rfl (fun t ht hW => ⟨_, rfl, rfl, ht⟩) (fun q hq => by cases hq) dd_M_isPlace_15
  · have h := in_out hc1 h
    refine lv_iload_n hx hb dd_M_isPlace_4 rfl (lv_at hl 0 rfl) ?_
    refine lv_bipush (v := 52) hx hb dd_M_isPlace_5 (by decide) ?_
    refine lv_icmp_ge (tgt := 14) hx hb dd_M_isPlace_7 (by decide) (fun hc2 => ?_) (fun hc2 => ?_)
    · have h := ip_out hc2 h
      refine lv_iconst (v := 0) hx hb dd_M_isPlace_14 (by decide) ?_
      obtain rfl := Option.some.inj h
      exact W.zret hx hb hr rfl (fun t ht hW => ⟨_, rfl, rfl, ht⟩) (fun q hq => by cases hq) dd_M_isPlace_15
    · have h := in_out hc2 h
      refine lv_iconst (v := 1) hx hb dd_M_isPlace_10 (by decide) ?_
      refine lv_goto (tgt := 15) hx hb dd_M_isPlace_11 (by decide) ?_
      obtain rfl := Option.some.inj h
      exact W.zret hx hb hr rfl (fun t ht hW => ⟨_, rfl, rfl, ht⟩) (fun q hq => by cases hq) dd_M_isPlace_15
def ff_O_isPlace (n : Nat) (a0 : Int32) : Option Int32 := if a0 < 0 then (some (0 : Int32)) else (if (52 : Int32) ≤ a0 then (some (0 : Int32)) else (some (1 : Int32)))
set_option maxHeartbeats 4000000 in
set_option maxRecDepth 100000 in
theorem mm_O_isPlace (l : Launch) (n : Nat) (a0 : Int32) (r : Int32) (h : ff_O_isPlace n a0 = some r) : Met l yy_O_isPlace (.code yy_O_isPlace cc_O_isPlace 1 (some .boolean) :: kw) { frames := 0, cells := 0, slots := 0, locals := 0 } (va_Pc [.int a0] (fun _ => True)) (vp_Si (fun z => z = r)) 0 0 (fun _ => False) := by
  refine Met.ofW (cc := cc_O_isPlace) (maxL := 1) (ret := some .boolean) (by decide) rfl ?_
  intro p e s m args below meth c s₁ B hml hv
  obtain ⟨rfl, -⟩ := hv
  have hx := B.exec
  have hb := B.bytes
  have hr := B.returns
  have hlocks := B.notSynchronized
  have hk : ∀ w ∈ kw, w.before _ s = true := fun w hw => atoms_spec (ws := (.code yy_O_isPlace cc_O_isPlace 1 (some .boolean) :: kw)) B.pre w (List.mem_cons_of_mem _ hw)
  have hown : s.vm.findClass "OpenDeal" = some m.cls := findClass_of_methodNamed B.named
  have hl := lv_entry ([.int a0]) (n := 1) (Nat.le_of_ble_eq_true rfl)
  rw [lg_entry_eq]
  generalize (lg_sl ([.int a0]) ++ List.replicate (1 - (lg_sl ([.int a0])).length) Slot.unset).toArray = ls at hl ⊢
  have hl : lv_has ls 1 [(0, .int a0)] := hl
  unfold ff_O_isPlace at h
  refine lv_iload_n hx hb dd_O_isPlace_0 rfl (lv_at hl 0 rfl) ?_
  refine lv_if_lt (tgt := 14) hx hb dd_O_isPlace_1 (by decide) (fun hc1 => ?_) (fun hc1 => ?_)
  · have h := ip_out hc1 h
    refine lv_iconst (v := 0) hx hb dd_O_isPlace_14 (by decide) ?_
    obtain rfl := Option.some.inj h
    exact W.zret hx hb hr rfl (fun t ht hW => ⟨_, rfl, rfl, ht⟩) (fun q hq => by cases hq) dd_O_isPlace_15
  · have h := in_out hc1 h
    refine lv_iload_n hx hb dd_O_isPlace_4 rfl (lv_at hl 0 rfl) ?_
    refine lv_bipush (v := 52) hx hb dd_O_isPlace_5 (by decide) ?_
    refine lv_icmp_ge (tgt := 14) hx hb dd_O_isPlace_7 (by decide) (fun hc2 => ?_) (fun hc2 => ?_)
    · have h := ip_out hc2 h
      refine lv_iconst (v := 0) hx hb dd_O_isPlace_14 (by decide) ?_
      obtain rfl := Option.some.inj h
      exact W.zret hx hb hr rfl (fun t ht hW => ⟨_, rfl, rfl, ht⟩) (fun q hq => by cases hq) dd_O_isPlace_15
    · have h := in_out hc2 h
      refine lv_iconst (v := 1) hx hb dd_O_isPlace_10 (by decide) ?_
      refine lv_goto (tgt := 15) hx hb dd_O_isPlace_11 (by decide) ?_
      obtain rfl := Option.some.inj h
      exact W.zret hx hb hr rfl (fun t ht hW => ⟨_, rfl, rfl, ht⟩) (fun q hq => by cases hq) dd_O_isPlace_15
def ff_O_rankOf (n : Nat) (a0 : Int32) (a1 : Int32) : Option Int32 := some (((Int32.toUInt32 a1 >>> (Int32.toUInt32 ((4 : Int32) * a0) &&& Int32.toUInt32 31)).toInt32) &&& (15 : Int32))
set_option maxHeartbeats 4000000 in
set_option maxRecDepth 100000 in
theorem mm_O_rankOf (l : Launch) (n : Nat) (a0 : Int32) (a1 : Int32) (r : Int32) (h : ff_O_rankOf n a0 a1 = some r) : Met l yy_O_rankOf (.code yy_O_rankOf cc_O_rankOf 2 (some .int) :: kw) { frames := 0, cells := 0, slots := 0, locals := 0 } (va_Pc [.int a0, .int a1] (fun _ => True)) (vp_Si (fun z => z = r)) 0 0 (fun _ => False) := by
  refine Met.ofW (cc := cc_O_rankOf) (maxL := 2) (ret := some .int) (by decide) rfl ?_
  intro p e s m args below meth c s₁ B hml hv
  obtain ⟨rfl, -⟩ := hv
  have hx := B.exec
  have hb := B.bytes
  have hr := B.returns
  have hlocks := B.notSynchronized
  have hk : ∀ w ∈ kw, w.before _ s = true := fun w hw => atoms_spec (ws := (.code yy_O_rankOf cc_O_rankOf 2 (some .int) :: kw)) B.pre w (List.mem_cons_of_mem _ hw)
  have hown : s.vm.findClass "OpenDeal" = some m.cls := findClass_of_methodNamed B.named
  have hl := lv_entry ([.int a0, .int a1]) (n := 2) (Nat.le_of_ble_eq_true rfl)
  rw [lg_entry_eq]
  generalize (lg_sl ([.int a0, .int a1]) ++ List.replicate (2 - (lg_sl ([.int a0, .int a1])).length) Slot.unset).toArray = ls at hl ⊢
  have hl : lv_has ls 2 [(0, .int a0), (1, .int a1)] := hl
  unfold ff_O_rankOf at h
  refine lv_iload_n hx hb dd_O_rankOf_0 rfl (lv_at hl 1 rfl) ?_
  refine lv_iconst (v := 4) hx hb dd_O_rankOf_1 (by decide) ?_
  refine lv_iload_n hx hb dd_O_rankOf_2 rfl (lv_at hl 0 rfl) ?_
  refine lv_imul hx hb dd_O_rankOf_3 ?_
  refine lv_iushr hx hb dd_O_rankOf_4 rfl ?_
  refine lv_bipush (v := 15) hx hb dd_O_rankOf_5 (by decide) ?_
  refine lv_iand hx hb dd_O_rankOf_7 ?_
  obtain rfl := Option.some.inj h
  exact W.iret hx hb hr (fun t ht hW => ⟨_, rfl, rfl, ht⟩) (fun q hq => by cases hq) dd_O_rankOf_8
def ff_M_sealOf (n : Nat) (a0 : Int32) (a1 : Int64) (a3 : Int64) : Option Int64 := tl (Int32.toInt64 a0) fun y1 => tl (((y1 ^^^ ((Int64.toUInt64 y1 >>> ((Int32.toInt64 (29 : Int32)).toUInt64 &&& Int64.toUInt64 63)).toInt64)) * (-4658895280553007687 : Int64)) + a1) fun y2 => tl (((y2 ^^^ ((Int64.toUInt64 y2 >>> ((Int32.toInt64 (32 : Int32)).toUInt64 &&& Int64.toUInt64 63)).toInt64)) * (-7723592293110705685 : Int64)) + a3) fun y3 => tl ((y3 ^^^ ((Int64.toUInt64 y3 >>> ((Int32.toInt64 (29 : Int32)).toUInt64 &&& Int64.toUInt64 63)).toInt64)) * (-4658895280553007687 : Int64)) fun y4 => some (y4 ^^^ ((Int64.toUInt64 y4 >>> ((Int32.toInt64 (32 : Int32)).toUInt64 &&& Int64.toUInt64 63)).toInt64))
set_option maxHeartbeats 4000000 in
set_option maxRecDepth 100000 in
theorem mm_M_sealOf (l : Launch) (n : Nat) (a0 : Int32) (a1 : Int64) (a3 : Int64) (r : Int64) (h : ff_M_sealOf n a0 a1 a3 = some r) : Met l yy_M_sealOf (.code yy_M_sealOf cc_M_sealOf 7 (some .long) :: kw) { frames := 0, cells := 0, slots := 0, locals := 0 } (va_Pc [.int a0, .long a1, .long a3] (fun _ => True)) (vp_Sl (fun z => z = r)) 0 0 (fun _ => False) := by
  refine Met.ofW (cc := cc_M_sealOf) (maxL := 7) (ret := some .long) (by decide) rfl ?_
  intro p e s m args below meth c s₁ B hml hv
  obtain ⟨rfl, -⟩ := hv
  have hx := B.exec
  have hb := B.bytes
  have hr := B.returns
  have hlocks := B.notSynchronized
  have hk : ∀ w ∈ kw, w.before _ s = true := fun w hw => atoms_spec (ws := (.code yy_M_sealOf cc_M_sealOf 7 (some .long) :: kw)) B.pre w (List.mem_cons_of_mem _ hw)
  have hown : s.vm.findClass "OpenDealModel" = some m.cls := findClass_of_methodNamed B.named
  have hl := lv_entry ([.int a0, .long a1, .long a3]) (n := 7) (Nat.le_of_ble_eq_true rfl)
  rw [lg_entry_eq]
  generalize (lg_sl ([.int a0, .long a1, .long a3]) ++ List.replicate (7 - (lg_sl ([.int a0, .long a1, .long a3])).length) Slot.unset).toArray = ls at hl ⊢
  have hl : lv_has ls 7 [(0, .int a0), (1, .long a1), (3, .long a3)] := hl
  unfold ff_M_sealOf at h
  refine lv_iload_n hx hb dd_M_sealOf_0 rfl (lv_at hl 0 rfl) ?_
  refine lv_i2l hx hb dd_M_sealOf_1 rfl ?_
  refine lv_topl (fun y1 ey1 => ?_)
  have h := tl_at ey1 h
  refine lv_lstore (lv' := [(5, .long y1), (0, .int a0), (1, .long a1), (3, .long a3)]) hx hb dd_M_sealOf_2 hl (by decide) rfl (fun ls hl => ?_)
  refine lv_lload hx hb dd_M_sealOf_4 (lv_at hl 0 rfl) ?_
  refine lv_lload hx hb dd_M_sealOf_6 (lv_at hl 0 rfl) ?_
  refine lv_bipush (v := 29) hx hb dd_M_sealOf_8 (by decide) ?_
  refine lv_lushr hx hb dd_M_sealOf_10 rfl ?_
  refine lv_lxor hx hb dd_M_sealOf_11 ?_
  refine lv_ldc2 (v := -4658895280553007687) hx hb hown (hk _ kw_679) dd_M_sealOf_12 ?_
  refine lv_lmul hx hb dd_M_sealOf_15 ?_
  refine lv_lload_n hx hb dd_M_sealOf_16 rfl (lv_at hl 2 rfl) ?_
  refine lv_ladd hx hb dd_M_sealOf_17 ?_
  refine lv_topl (fun y2 ey2 => ?_)
  have h := tl_at ey2 h
  refine lv_lstore (lv' := [(5, .long y2), (0, .int a0), (1, .long a1), (3, .long a3)]) hx hb dd_M_sealOf_18 hl (by decide) rfl (fun ls hl => ?_)
  refine lv_lload hx hb dd_M_sealOf_20 (lv_at hl 0 rfl) ?_
  refine lv_lload hx hb dd_M_sealOf_22 (lv_at hl 0 rfl) ?_
  refine lv_bipush (v := 32) hx hb dd_M_sealOf_24 (by decide) ?_
  refine lv_lushr hx hb dd_M_sealOf_26 rfl ?_
  refine lv_lxor hx hb dd_M_sealOf_27 ?_
  refine lv_ldc2 (v := -7723592293110705685) hx hb hown (hk _ kw_680) dd_M_sealOf_28 ?_
  refine lv_lmul hx hb dd_M_sealOf_31 ?_
  refine lv_lload_n hx hb dd_M_sealOf_32 rfl (lv_at hl 3 rfl) ?_
  refine lv_ladd hx hb dd_M_sealOf_33 ?_
  refine lv_topl (fun y3 ey3 => ?_)
  have h := tl_at ey3 h
  refine lv_lstore (lv' := [(5, .long y3), (0, .int a0), (1, .long a1), (3, .long a3)]) hx hb dd_M_sealOf_34 hl (by decide) rfl (fun ls hl => ?_)
  refine lv_lload hx hb dd_M_sealOf_36 (lv_at hl 0 rfl) ?_
  refine lv_lload hx hb dd_M_sealOf_38 (lv_at hl 0 rfl) ?_
  refine lv_bipush (v := 29) hx hb dd_M_sealOf_40 (by decide) ?_
  refine lv_lushr hx hb dd_M_sealOf_42 rfl ?_
  refine lv_lxor hx hb dd_M_sealOf_43 ?_
  refine lv_ldc2 (v := -4658895280553007687) hx hb hown (hk _ kw_679) dd_M_sealOf_44 ?_
  refine lv_lmul hx hb dd_M_sealOf_47 ?_
  refine lv_topl (fun y4 ey4 => ?_)
  have h := tl_at ey4 h
  refine lv_lstore (lv' := [(5, .long y4), (0, .int a0), (1, .long a1), (3, .long a3)]) hx hb dd_M_sealOf_48 hl (by decide) rfl (fun ls hl => ?_)
  refine lv_lload hx hb dd_M_sealOf_50 (lv_at hl 0 rfl) ?_
  refine lv_lload hx hb dd_M_sealOf_52 (lv_at hl 0 rfl) ?_
  refine lv_bipush (v := 32) hx hb dd_M_sealOf_54 (by decide) ?_
  refine lv_lushr hx hb dd_M_sealOf_56 rfl ?_
  refine lv_lxor hx hb dd_M_sealOf_57 ?_
  obtain rfl := Option.some.inj h
  exact W.lret hx hb hr (fun t ht hW => ⟨_, rfl, rfl, ht⟩) (fun q hq => by cases hq) dd_M_sealOf_58
end
