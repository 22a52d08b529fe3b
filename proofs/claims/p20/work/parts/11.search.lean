/-! the search: a number below 2^30 that passes the strong tests is a prime -/
/-- the strong test, from above: at e, then at e / 2 as long as the power is 1 and e is even -/
def np_ch (n a : Nat) : Nat → Nat → Bool
  | 0, _ => true
  | f + 1, e => Nat.beq (np_pw a e n) (n - 1) || (Nat.beq (np_pw a e n) 1 && (Nat.beq (Nat.mod e 2) 1 || np_ch n a f (Nat.div e 2)))
/-- what 2 * n + 1 without a factor 3, 5, 7 says of n, and n itself -/
def np_fil (n : Nat) : Bool := Nat.beq (Nat.mod n 2) 1 && (Nat.beq (Nat.mod n 3) 2 && (!(Nat.beq (Nat.mod n 5) 0 || Nat.beq (Nat.mod n 5) 2) && !(Nat.beq (Nat.mod n 7) 0 || Nat.beq (Nat.mod n 7) 3)))
theorem np_fil_mod {n m : Nat} (h : n % 210 = m % 210) : np_fil n = np_fil m := by
  have h2 : n % 2 = m % 2 := by omega
  have h3 : n % 3 = m % 3 := by omega
  have h5 : n % 5 = m % 5 := by omega
  have h7 : n % 7 = m % 7 := by omega
  show (Nat.beq (n % 2) 1 && (Nat.beq (n % 3) 2 && (!(Nat.beq (n % 5) 0 || Nat.beq (n % 5) 2) && !(Nat.beq (n % 7) 0 || Nat.beq (n % 7) 3)))) = (Nat.beq (m % 2) 1 && (Nat.beq (m % 3) 2 && (!(Nat.beq (m % 5) 0 || Nat.beq (m % 5) 2) && !(Nat.beq (m % 7) 0 || Nat.beq (m % 7) 3))))
  rw [h2, h3, h5, h7]
/-- n is out: too small, filtered, or it fails a test -/
def np_out (n : Nat) : Bool := !(Nat.beq (np_pw 2 (Nat.sub n 1) n) 1) || (!(np_fil n) || (Nat.ble n 32767 || !(np_ch n 2 30 (n - 1) && (np_ch n 3 30 (n - 1) && (np_ch n 5 30 (n - 1) && np_ch n 7 30 (n - 1))))))
/-- n passes -/
def np_in (n : Nat) : Prop := np_fil n = true ∧ 32767 < n ∧ (∀ a, a = 2 ∨ a = 3 ∨ a = 5 ∨ a = 7 → a ^ (n - 1) % n = 1 ∧ np_ch n a 30 (n - 1) = true)
theorem np_in_out {n : Nat} (h : np_in n) (ho : np_out n = true) : False := by
  obtain ⟨h1, h2, h3⟩ := h
  unfold np_out at ho
  rw [h1, (h3 2 (by simp)).2, (h3 3 (by simp)).2, (h3 5 (by simp)).2, (h3 7 (by simp)).2, np_pw_eq, show Nat.sub n 1 = n - 1 from rfl, (h3 2 (by simp)).1] at ho
  have h4 : Nat.ble n 32767 = false := by
    cases hb : Nat.ble n 32767 with
    | false => rfl
    | true => have := Nat.le_of_ble_eq_true hb; omega
  rw [h4] at ho
  exact absurd ho (by decide)
/-- a number is reckoned once -/
def np_fo (x : Nat) (f : Nat → Bool) : Bool := match Nat.add x 1 with
  | 0 => f x
  | m + 1 => f m
theorem np_fo_eq (x : Nat) (f : Nat → Bool) : np_fo x f = f x := rfl
/-- all of lo .. lo + 2^f - 1 below B -/
def np_ab (P : Nat → Bool) (B : Nat) : Nat → Nat → Bool
  | 0, lo => Nat.ble B lo || np_fo lo P
  | f + 1, lo => Nat.ble B lo || (np_ab P B f lo && np_ab P B f (Nat.add lo (Nat.pow 2 f)))
theorem np_ab_all {P : Nat → Bool} {B : Nat} : ∀ (f lo : Nat), np_ab P B f lo = true → ∀ j, lo ≤ j → j < lo + 2 ^ f → j < B → P j = true
  | 0, lo, h, j, h1, h2, h3 => by
    have e : j = lo := by
      rw [Nat.pow_zero] at h2
      omega
    subst e
    unfold np_ab at h
    rw [np_fo_eq, Bool.or_eq_true] at h
    rcases h with h | h
    · have := Nat.le_of_ble_eq_true h
      omega
    · exact h
  | f + 1, lo, h, j, h1, h2, h3 => by
    unfold np_ab at h
    rw [Bool.or_eq_true, Bool.and_eq_true] at h
    have e : 2 ^ (f + 1) = 2 ^ f + 2 ^ f := by rw [Nat.pow_succ]; omega
    rcases h with h | ⟨ha, hb⟩
    · have := Nat.le_of_ble_eq_true h
      omega
    · by_cases hj : j < lo + 2 ^ f
      · exact np_ab_all f lo ha j h1 hj h3
      · exact np_ab_all f (lo + 2 ^ f) hb j (by omega) (by omega) h3
/-! case A: a prime factor above 2^15 -/
/-- the product of lo .. lo + 2^f - 1 -/
def np_rp : Nat → Nat → Nat
  | 0, lo => lo
  | f + 1, lo => np_rp f lo * np_rp f (lo + 2 ^ f)
theorem np_rp_lt {r : Nat} (h : np_pr r) : ∀ (f lo : Nat), 0 < lo → r ∣ np_rp f lo → r < lo + 2 ^ f
  | 0, lo, h0, hd => by
    have := Nat.le_of_dvd h0 hd
    rw [Nat.pow_zero]
    omega
  | f + 1, lo, h0, hd => by
    have e : 2 ^ (f + 1) = 2 ^ f + 2 ^ f := by rw [Nat.pow_succ]; omega
    have hp0 : 0 < 2 ^ f := Nat.two_pow_pos f
    rcases np_euclid h hd with h1 | h1
    · have := np_rp_lt h f lo h0 h1
      omega
    · have := np_rp_lt h f (lo + 2 ^ f) (by omega) h1
      omega
theorem np_rp_dvd {s : Nat} : ∀ (f lo : Nat), lo ≤ s → s < lo + 2 ^ f → s ∣ np_rp f lo
  | 0, lo, h0, h1 => by
    rw [Nat.pow_zero] at h1
    have e : s = lo := by omega
    subst e
    exact Nat.dvd_refl s
  | f + 1, lo, h0, h1 => by
    have e : 2 ^ (f + 1) = 2 ^ f + 2 ^ f := by rw [Nat.pow_succ]; omega
    by_cases hs : s < lo + 2 ^ f
    · exact Nat.dvd_trans (np_rp_dvd f lo h0 hs) (Nat.dvd_mul_right _ _)
    · exact Nat.dvd_trans (np_rp_dvd f (lo + 2 ^ f) (by omega) (by omega)) (Nat.dvd_mul_left _ _)
/-- the part without small factors -/
def np_str (Q h : Nat) : Nat := Nat.div h (Nat.gcd h Q)
theorem np_str_dvd {r Q h : Nat} (hp : np_pr r) (hQ : ¬ r ∣ Q) (hd : r ∣ h) : r ∣ np_str Q h := by
  show r ∣ h / Nat.gcd h Q
  have h1 : h = Nat.gcd h Q * (h / Nat.gcd h Q) := (Nat.mul_div_cancel' (Nat.gcd_dvd_left h Q)).symm
  rw [h1] at hd
  rcases np_euclid hp hd with h2 | h2
  · exact absurd (Nat.dvd_trans h2 (Nat.gcd_dvd_right h Q)) hQ
  · exact h2
/-- what is left of k: nothing, or one prime whose product with k is too great or out -/
def np_okH (Q k h : Nat) : Bool := (Nat.beq h 1 || (Nat.beq k 27061 && Nat.beq h 3661339771)) || (Nat.beq (Nat.gcd h Q) 1 && (Nat.ble h 1073741823 && (Nat.ble 1073741824 (h * k) || np_fo (Nat.mul h k) np_out)))
def np_g0 (k : Nat) : Nat := Nat.gcd (Nat.gcd (2 ^ (k - 1) - 1) (3 ^ (k - 1) - 1)) (Nat.gcd (5 ^ (k - 1) - 1) (7 ^ (k - 1) - 1))
def np_okA (Q k : Nat) : Bool := np_fo (np_g0 k) fun g0 => np_fo (np_str Q g0) fun g1 => np_fo (np_str Q g1) fun g2 => np_fo (np_str Q g2) fun g3 => np_fo (np_str Q g3) fun g4 => np_fo (np_str Q g4) fun g5 => np_fo (np_str Q g5) (np_okH Q k)
theorem np_okA_spec {r Q k : Nat} (hp : np_pr r) (hQ : ¬ r ∣ Q) (hS : ∀ s, 0 < s → s < 32768 → s ∣ Q) (hr : 32768 ≤ r) (h2 : 2 ^ (k - 1) % r = 1) (h3 : 3 ^ (k - 1) % r = 1) (h5 : 5 ^ (k - 1) % r = 1) (h7 : 7 ^ (k - 1) % r = 1) (hk : r * k < 1073741824) (hok : np_okA Q k = true) : np_out (r * k) = true := by
  have key : ∀ x, x % r = 1 → r ∣ x - 1 := by
    intro x hx
    apply Nat.dvd_of_mod_eq_zero
    apply Nat.sub_mod_eq_zero_of_mod_eq
    rw [hx, Nat.mod_eq_of_lt hp.1]
  unfold np_okA at hok
  rw [np_fo_eq, np_fo_eq, np_fo_eq, np_fo_eq, np_fo_eq, np_fo_eq, np_fo_eq] at hok
  have hd0 : r ∣ np_g0 k := Nat.dvd_gcd (Nat.dvd_gcd (key _ h2) (key _ h3)) (Nat.dvd_gcd (key _ h5) (key _ h7))
  have hd : r ∣ np_str Q (np_str Q (np_str Q (np_str Q (np_str Q (np_str Q (np_g0 k)))))) :=
    np_str_dvd hp hQ (np_str_dvd hp hQ (np_str_dvd hp hQ (np_str_dvd hp hQ (np_str_dvd hp hQ (np_str_dvd hp hQ hd0)))))
  revert hok hd
  generalize np_str Q (np_str Q (np_str Q (np_str Q (np_str Q (np_str Q (np_g0 k)))))) = h
  intro hok hd
  unfold np_okH at hok
  rw [Bool.or_eq_true, Bool.or_eq_true, Bool.and_eq_true, Bool.and_eq_true, Bool.and_eq_true, Bool.or_eq_true, np_fo_eq] at hok
  rcases hok with (hok | ⟨hk1, hh1⟩) | ⟨hg, hb, hx⟩
  · have e := Nat.eq_of_beq_eq_true hok
    rw [e] at hd
    have := Nat.le_of_dvd (by decide) hd
    omega
  · exfalso
    have e := Nat.eq_of_beq_eq_true hh1
    have ek := Nat.eq_of_beq_eq_true hk1
    rw [e, show 3661339771 = 54121 * 67651 from by decide] at hd
    subst ek
    rcases np_euclid hp hd with ⟨c, hc⟩ | ⟨c, hc⟩
    · rcases Nat.lt_or_ge c 2 with h | h
      · have : c = 0 ∨ c = 1 := by omega
        rcases this with rfl | rfl <;> omega
      · have : 32768 * 2 ≤ r * c := Nat.mul_le_mul hr h
        omega
    · rcases Nat.lt_or_ge c 3 with h | h
      · have : c = 0 ∨ c = 1 ∨ c = 2 := by omega
        rcases this with rfl | rfl | rfl <;> omega
      · have : 32768 * 3 ≤ r * c := Nat.mul_le_mul hr h
        omega
  · have hg := Nat.eq_of_beq_eq_true hg
    have hb := Nat.le_of_ble_eq_true hb
    have hh : h = r := by
      obtain ⟨c, rfl⟩ := hd
      rcases Nat.lt_or_ge 1 c with hc | hc
      · obtain ⟨s, hs, hsd⟩ := np_factor c hc
        have hs1 := hs.1
        rcases Nat.lt_or_ge s 32768 with hl | hl
        · have h6 : s ∣ Nat.gcd (r * c) Q := Nat.dvd_gcd (Nat.dvd_trans hsd (Nat.dvd_mul_left _ _)) (hS s (by omega) hl)
          rw [hg] at h6
          have := Nat.le_of_dvd (by decide) h6
          omega
        · have h7 : s ≤ c := Nat.le_of_dvd (by omega) hsd
          have h8 : 32768 * 32768 ≤ r * c := Nat.mul_le_mul hr (by omega)
          omega
      · have h9 : c ≠ 0 := by
          intro e
          subst e
          rw [Nat.mul_zero, Nat.gcd_zero_left] at hg
          have := hS 2 (by decide) (by decide)
          rw [hg] at this
          have := Nat.le_of_dvd (by decide) this
          omega
        have h10 : c = 1 := by omega
        rw [h10, Nat.mul_one]
    subst hh
    rcases hx with hx | hx
    · have := Nat.le_of_ble_eq_true hx
      omega
    · exact hx
/-! case B: a prime factor of 101 .. 32767 -/
def np_E (r d : Nat) : Bool := Nat.beq (Nat.mod (Nat.pow 2 d) r) 1 && Nat.beq (Nat.mod (Nat.pow 3 d) r) 1
def np_c1 (r i : Nat) : Nat := cond (np_E r i) i 0
def np_c2 (r i : Nat) : Nat := cond (np_E r (Nat.div (Nat.sub r 1) i)) (Nat.div (Nat.sub r 1) i) 0
def np_Lg (r : Nat) : Nat → Nat
  | 0 => r - 1
  | i + 1 => cond (Nat.beq (Nat.mod (Nat.sub r 1) (i + 1)) 0) (Nat.gcd (Nat.gcd (np_c1 r (i + 1)) (np_c2 r (i + 1))) (np_Lg r i)) (np_Lg r i)
theorem np_Lg_dvd (r : Nat) : ∀ (m i : Nat), 1 ≤ i → i ≤ m → (r - 1) % i = 0 → np_Lg r m ∣ np_c1 r i ∧ np_Lg r m ∣ np_c2 r i
  | 0, i, h1, h2, _ => by omega
  | m + 1, i, h1, h2, h0 => by
    by_cases e : i = m + 1
    · subst e
      have e1 : np_Lg r (m + 1) = Nat.gcd (Nat.gcd (np_c1 r (m + 1)) (np_c2 r (m + 1))) (np_Lg r m) := by
        show cond (Nat.beq ((r - 1) % (m + 1)) 0) _ _ = _
        rw [h0]
        rfl
      rw [e1]
      exact ⟨Nat.dvd_trans (Nat.gcd_dvd_left _ _) (Nat.gcd_dvd_left _ _), Nat.dvd_trans (Nat.gcd_dvd_left _ _) (Nat.gcd_dvd_right _ _)⟩
    · obtain ⟨h3, h4⟩ := np_Lg_dvd r m i h1 (by omega) h0
      have e1 : np_Lg r (m + 1) ∣ np_Lg r m := by
        show cond (Nat.beq ((r - 1) % (m + 1)) 0) _ _ ∣ _
        cases Nat.beq ((r - 1) % (m + 1)) 0
        · exact Nat.dvd_refl _
        · exact Nat.gcd_dvd_right _ _
      exact ⟨Nat.dvd_trans e1 h3, Nat.dvd_trans e1 h4⟩
def np_L (r : Nat) : Nat := np_Lg r 181
theorem np_L_dvd {r d : Nat} (h1 : 1 < r) (hr : r < 32768) (hd : d ∣ r - 1) (hE : np_E r d = true) : np_L r ∣ d := by
  obtain ⟨i, hi⟩ := hd
  have hd0 : 0 < d := by
    rcases Nat.eq_zero_or_pos d with e | e
    · subst e
      rw [Nat.zero_mul] at hi
      omega
    · exact e
  have hi0 : 0 < i := by
    rcases Nat.eq_zero_or_pos i with e | e
    · subst e
      rw [Nat.mul_zero] at hi
      omega
    · exact e
  rcases Nat.lt_or_ge d 182 with hl | hl
  · have hm : (r - 1) % d = 0 := by rw [hi]; exact Nat.mul_mod_right d i
    have h := (np_Lg_dvd r 181 d (by omega) (by omega) hm).1
    unfold np_c1 at h
    rw [hE] at h
    exact h
  · have hl2 : i < 182 := by
      rcases Nat.lt_or_ge i 182 with h | h
      · exact h
      · have : 182 * 182 ≤ d * i := Nat.mul_le_mul hl h
        omega
    have hm : (r - 1) % i = 0 := by rw [hi]; exact Nat.mul_mod_left d i
    have h := (np_Lg_dvd r 181 i (by omega) (by omega) hm).2
    have hq : (r - 1) / i = d := by rw [hi]; exact Nat.mul_div_cancel d hi0
    have h : np_L r ∣ cond (np_E r ((r - 1) / i)) ((r - 1) / i) 0 := h
    rw [hq, hE] at h
    exact h
def np_P97 : Nat := 2305567963945518424753102147331756070
/-- every product of r and a number that is 1 modulo L is out: by the 210 rests of the count -/
def np_okM (r L n0 : Nat) : Bool := Nat.ble 1073741824 n0 || (!(np_fil n0) || np_fo (Nat.mul (Nat.mul r L) 210) fun st => np_ab (fun i => np_fo (Nat.add n0 (Nat.mul st i)) np_out) (Nat.add (Nat.div (Nat.sub 1073741823 n0) st) 1) 24 0)
def np_okL (r L : Nat) : Bool := np_ab (fun t => np_fo (Nat.mul r (Nat.add 1 (Nat.mul L t))) (np_okM r L)) 210 8 0
def np_okB (r : Nat) : Bool := !(Nat.beq (Nat.gcd r np_P97) 1) || np_fo (np_L r) (np_okL r)
theorem np_okB_spec {r k : Nat} (hp : np_pr r) (h101 : 101 ≤ r) (hr : r < 32768) (hk1 : 1 < k) (h2 : 2 ^ (k - 1) % r = 1) (h3 : 3 ^ (k - 1) % r = 1) (hk : r * k < 1073741824) (hok : np_okB r = true) : np_out (r * k) = true := by
  unfold np_okB at hok
  rw [Bool.or_eq_true, np_fo_eq] at hok
  rcases hok with hok | hok
  · exfalso
    have hg : Nat.gcd r np_P97 = 1 := by
      rcases hp.2 _ (Nat.gcd_dvd_left r np_P97) with h | h
      · exact h
      · exfalso
        have hd : r ∣ np_P97 := by rw [← h]; exact Nat.gcd_dvd_right r np_P97
        have e : np_P97 = 2 * 3 * 5 * 7 * 11 * 13 * 17 * 19 * 23 * 29 * 31 * 37 * 41 * 43 * 47 * 53 * 59 * 61 * 67 * 71 * 73 * 79 * 83 * 89 * 97 := by decide +kernel
        rw [e] at hd
        have big : ∀ x, r ∣ x → 0 < x → x < 101 → False := fun x h h0 hx => by
          have := Nat.le_of_dvd h0 h
          omega
        iterate 24 (
          rcases np_euclid hp hd with hd | hd
          rotate_left
          · exact big _ hd (by decide) (by decide))
        exact big _ hd (by decide) (by decide)
    rw [hg] at hok
    exact absurd hok (by decide)
  · have h1 := hp.1
    have hE : np_E r (Nat.gcd (k - 1) (r - 1)) = true := by
      have n2 : ¬ r ∣ 2 := fun h => by have := Nat.le_of_dvd (by decide) h; omega
      have n3 : ¬ r ∣ 3 := fun h => by have := Nat.le_of_dvd (by decide) h; omega
      show (Nat.beq (2 ^ (Nat.gcd (k - 1) (r - 1)) % r) 1 && Nat.beq (3 ^ (Nat.gcd (k - 1) (r - 1)) % r) 1) = true
      rw [np_powgcd h1 _ _ h2 (np_fermat hp n2), np_powgcd h1 _ _ h3 (np_fermat hp n3)]
      rfl
    have hL := Nat.dvd_trans (np_L_dvd h1 hr (Nat.gcd_dvd_right (k - 1) (r - 1)) hE) (Nat.gcd_dvd_left (k - 1) (r - 1))
    generalize np_L r = L at hok hL
    obtain ⟨j, hj⟩ := hL
    have hj0 : 0 < j := by
      rcases Nat.eq_zero_or_pos j with e | e
      · subst e
        rw [Nat.mul_zero] at hj
        omega
      · exact e
    have hL0 : 0 < L := by
      rcases Nat.eq_zero_or_pos L with e | e
      · subst e
        rw [Nat.zero_mul] at hj
        omega
      · exact e
    unfold np_okL at hok
    have e : r * k = r * (1 + L * (j % 210)) + r * L * 210 * (j / 210) := by
      have e1 : k = 1 + L * j := by omega
      have e2 : j = j % 210 + 210 * (j / 210) := by omega
      conv => lhs; rw [e1, e2]
      grind
    have h := np_ab_all 8 0 hok (j % 210) (by omega) (by
      have : 0 + 2 ^ 8 = 256 := by decide
      omega) (by omega)
    try dsimp only at h
    rw [np_fo_eq] at h
    have h : np_okM r L (r * (1 + L * (j % 210))) = true := h
    have hst0 : 0 < r * L * 210 := Nat.mul_pos (Nat.mul_pos (by omega) hL0) (by decide)
    have hfm : (r * k) % 210 = (r * (1 + L * (j % 210))) % 210 := by
      rw [e, Nat.mul_assoc (r * L), Nat.mul_left_comm (r * L), Nat.add_mul_mod_self_left]
    generalize hn0 : r * (1 + L * (j % 210)) = n0 at h e hfm
    generalize hst : r * L * 210 = st at e hst0
    unfold np_okM at h
    rw [Bool.or_eq_true, Bool.or_eq_true, np_fo_eq] at h
    rcases h with h | h | h
    · have := Nat.le_of_ble_eq_true h
      omega
    · have hf : np_fil (r * k) = false := by
        rw [np_fil_mod hfm]
        simpa using h
      unfold np_out
      rw [hf]
      simp
    · have h : np_ab (fun i => np_fo (Nat.add n0 (Nat.mul (r * L * 210) i)) np_out) (Nat.add (Nat.div (Nat.sub 1073741823 n0) (r * L * 210)) 1) 24 0 = true := h
      rw [hst] at h
      have hB : j / 210 ≤ (1073741823 - n0) / st := by
        rw [Nat.le_div_iff_mul_le hst0, Nat.mul_comm]
        omega
      have hB2 : j / 210 < 0 + 2 ^ 24 := by
        have h1 : (1073741823 - n0) / st ≤ 1073741823 / st := Nat.div_le_div_right (Nat.sub_le _ _)
        have h2 : 1073741823 / st ≤ 1073741823 / (101 * 1 * 210) := by
          apply Nat.div_le_div_left _ (by decide)
          rw [← hst]
          exact Nat.mul_le_mul_right 210 (Nat.mul_le_mul h101 hL0)
        have h3 : 1073741823 / (101 * 1 * 210) = 50624 := by decide
        have h4 : 0 + 2 ^ 24 = 16777216 := by decide
        omega
      have h := np_ab_all 24 0 h (j / 210) (by omega) hB2 (by
        show j / 210 < (1073741823 - n0) / st + 1
        omega)
      try dsimp only at h
      rw [np_fo_eq] at h
      rw [e]
      exact h
/-! case C: all prime factors of 11 .. 97 -/
def np_ps : List Nat := [11, 13, 17, 19, 23, 29, 31, 37, 41, 43, 47, 53, 59, 61, 67, 71, 73, 79, 83, 89, 97]
def np_dfs : Nat → List Nat → Nat → Bool
  | 0, _, _ => false
  | _ + 1, [], P => np_fo P np_out
  | f + 1, s :: rest, P => np_dfs f rest P && (Nat.ble 1073741824 (P * s) || np_fo (P * s) (np_dfs f (s :: rest)))
theorem np_dfs_spec : ∀ (f : Nat) (ps : List Nat) (P m : Nat), np_dfs f ps P = true → 0 < m → (∀ r, np_pr r → r ∣ m → r ∈ ps) → P * m < 1073741824 → np_out (P * m) = true
  | 0, _, _, _, h, _, _, _ => by
    unfold np_dfs at h
    exact absurd h (by decide)
  | f + 1, [], P, m, h, h0, hr, hb => by
    unfold np_dfs at h
    rw [np_fo_eq] at h
    have e : m = 1 := by
      rcases Nat.lt_or_ge 1 m with h1 | h1
      · obtain ⟨r, h2, h3⟩ := np_factor m h1
        have := hr r h2 h3
        cases this
      · omega
    rw [e, Nat.mul_one]
    exact h
  | f + 1, s :: rest, P, m, h, h0, hr, hb => by
    unfold np_dfs at h
    rw [Bool.and_eq_true, Bool.or_eq_true, np_fo_eq] at h
    obtain ⟨h1, h2⟩ := h
    by_cases hs : s ∣ m
    · obtain ⟨c, rfl⟩ := hs
      have hc : 0 < c := by
        rcases Nat.eq_zero_or_pos c with e | e
        · subst e
          rw [Nat.mul_zero] at h0
          omega
        · exact e
      rw [← Nat.mul_assoc] at hb ⊢
      rcases h2 with h2 | h2
      · have := Nat.le_of_ble_eq_true h2
        have : P * s * 1 ≤ P * s * c := Nat.mul_le_mul_left _ hc
        omega
      · exact np_dfs_spec f (s :: rest) (P * s) c h2 hc (fun r h3 h4 => hr r h3 (Nat.dvd_trans h4 (Nat.dvd_mul_left _ _))) hb
    · refine np_dfs_spec f rest P m h1 h0 (fun r h3 h4 => ?_) hb
      rcases List.mem_cons.mp (hr r h3 h4) with e | e
      · subst e
        exact absurd h4 hs
      · exact e
/-- primes below 101 -/
def np_small (r : Nat) : Bool := Nat.ble r 10 || (np_ps.contains r || (List.range 10).any (fun d => Nat.ble 2 d && Nat.beq (r % d) 0))
theorem np_small_all : ∀ r, r < 101 → np_small r = true := by decide +kernel
theorem np_small_pr {r : Nat} (hp : np_pr r) (hr : r < 101) (h10 : 10 < r) : r ∈ np_ps := by
  have h := np_small_all r hr
  unfold np_small at h
  rw [Bool.or_eq_true, Bool.or_eq_true] at h
  rcases h with h | h | h
  · have := Nat.le_of_ble_eq_true h
    omega
  · exact List.contains_iff_mem.mp h
  · obtain ⟨d, h1, h2⟩ := List.any_eq_true.mp h
    rw [Bool.and_eq_true] at h2
    have h3 := Nat.le_of_ble_eq_true h2.1
    have h4 := Nat.eq_of_beq_eq_true h2.2
    have h5 := List.mem_range.mp h1
    rcases hp.2 d (Nat.dvd_of_mod_eq_zero h4) with e | e <;> omega
