/-! every call on fresh objects, but prime -/
theorem fr_isP (n : Nat) (I : MI) (J : MJ) (a : Int32) (h : I 0 3 = 0) : ff_M_isPlayer n I J a = some 0 := by
  unfold ff_M_isPlayer
  by_cases h1 : a < 0
  · rw [if_pos h1]
  · rw [if_neg h1, if_pos (by rw [h]; exact Int32.not_lt.mp h1)]
theorem fr_isS (n : Nat) (I : MI) (J : MJ) (a : Int32) (h : I 0 2 = 0) : ff_O_isSeated n I J a = some 0 := by
  unfold ff_O_isSeated
  by_cases h1 : a < 0
  · rw [if_pos h1]
  · rw [if_neg h1, if_pos (by rw [h]; exact Int32.not_lt.mp h1)]
theorem fr_pl (n : Nat) (a : Int32) : ff_M_isPlace n a = some 0 ∨ ff_M_isPlace n a = some 1 := by
  unfold ff_M_isPlace
  by_cases h1 : a < 0
  · rw [if_pos h1]; exact Or.inl rfl
  · rw [if_neg h1]
    by_cases h2 : (52 : Int32) ≤ a
    · rw [if_pos h2]; exact Or.inl rfl
    · rw [if_neg h2]; exact Or.inr rfl
theorem fr_key (X : MI) (k : Nat) (h : X 0 k = 0) : (ui X 0 k (X 0 k + 1)) 0 k - 1 = 0 := by
  rw [ui_row, h]
  show (if k = k then (0 + 1 : Int32) else X 0 k) - 1 = 0
  rw [if_pos rfl]
  rfl
theorem sm_le {j k : Nat} (hj : j < 100000) (hk : k < 100000) : (Int32.ofNat j ≤ Int32.ofNat k) ↔ j ≤ k := Int32.ofNat_le_ofNat (by omega) (by omega)
theorem sm_nat {j : Nat} (hj : j < 100000) : (Int32.ofNat j).toNatClampNeg = j := Int32.toNatClampNeg_ofNat_of_lt (by omega)
theorem sm_pos {j : Nat} (hj : j < 100000) : ¬ Int32.ofNat j < 0 := fun h3 => absurd ((Int32.lt_iff_toInt_lt).mp h3) (by rw [Int32.toInt_ofNat_of_lt (by omega)]; simp)
theorem sm_in {j N : Nat} (hj : j < N) (hN : N < 100000) : ¬ (Int32.ofNat j < 0 ∨ N ≤ (Int32.ofNat j).toNatClampNeg) := by
  rw [sm_nat (by omega)]
  rintro (h | h)
  · exact sm_pos (by omega) h
  · omega
theorem sm_suc {j : Nat} : Int32.ofNat j + 1 = Int32.ofNat (j + 1) := (Int32.ofNat_add j 1).symm
theorem clr73 (J : MJ) : ∀ (k : Nat), k ≤ 208 → ∀ (n : Nat) (I : MI), k < n → ∃ r, ff_M_clear_73 n I J (Int32.ofNat (208 - k)) = some r := by
  intro k
  induction k with
  | zero =>
    intro _ n I hn
    obtain ⟨n, rfl⟩ : ∃ m, n = m + 1 := ⟨n - 1, by omega⟩
    rw [ff_M_clear_73, if_pos (by decide)]
    exact ⟨_, rfl⟩
  | succ k ih =>
    intro hk n I hn
    obtain ⟨n, rfl⟩ : ∃ m, n = m + 1 := ⟨n - 1, by omega⟩
    rw [ff_M_clear_73, if_neg (show ¬ (208 : Int32) ≤ Int32.ofNat (208 - (k + 1)) from fun h => by have := (sm_le (j := 208) (k := 208 - (k + 1)) (by omega) (by omega)).mp h; omega), if_pos (sm_in (by omega) (by omega)), sm_suc, show 208 - (k + 1) + 1 = 208 - k by omega]
    exact ih (by omega) n _ (by omega)
theorem clr32 (J : MJ) : ∀ (k : Nat), k ≤ 4 → ∀ (n : Nat) (I : MI), k + 300 < n → ∃ r, ff_M_clear_32 n I J (Int32.ofNat (4 - k)) = some r := by
  intro k
  induction k with
  | zero =>
    intro _ n I hn
    obtain ⟨n, rfl⟩ : ∃ m, n = m + 1 := ⟨n - 1, by omega⟩
    rw [ff_M_clear_32, if_pos (by decide)]
    exact clr73 J 208 (by omega) n I (by omega)
  | succ k ih =>
    intro hk n I hn
    obtain ⟨n, rfl⟩ : ∃ m, n = m + 1 := ⟨n - 1, by omega⟩
    have hb := sm_in (j := 4 - (k + 1)) (N := 4) (by omega) (by omega)
    rw [ff_M_clear_32, if_neg (show ¬ (4 : Int32) ≤ Int32.ofNat (4 - (k + 1)) from fun h => by have := (sm_le (j := 4) (k := 4 - (k + 1)) (by omega) (by omega)).mp h; omega), if_pos hb, if_pos hb, if_pos hb, if_pos hb, sm_suc, show 4 - (k + 1) + 1 = 4 - k by omega]
    exact ih (by omega) n _ (by omega)
theorem clr_end (I : MI) (J : MJ) : ∃ r, ff_M_clear 1000 I J = some r := clr32 J 4 (by omega) 1000 _ (by omega)
section FRS
variable (xs : Nat → Int32) (i : Nat) (f : Nat → Int64)
theorem fz_1 : ∃ M', ls_1 xs i IO J00 IM J00 f M' := by
  obtain ⟨r, h⟩ := clr_end IM J00
  exact ⟨_, 100, _, 1000, r, rfl, h, rfl⟩
theorem fz_2 : ∃ M', ls_2 xs i IO J00 IM J00 f M' := by
  unfold ls_2
  generalize xs (7 * i + 1) = a
  by_cases h1 : a < 1
  · exact ⟨_, 100, ((-1 : Int32), IO, J00), 100, ((-1 : Int32), ui IM 0 0 0, J00), by unfold ff_O_seat; rw [if_pos (by decide), if_neg (by decide), if_pos h1], by unfold ff_M_seat; rw [if_neg (by decide), if_pos (by decide), if_pos h1], rfl, rfl⟩
  · by_cases h2 : a ≤ 100000
    · have e1 : ∃ r, ff_O_seat 100 IO J00 a = some r ∧ r.1 = 0 := by
        unfold ff_O_seat
        rw [if_pos (by decide), if_neg (by decide), if_neg h1, if_pos h2]
        exact ⟨_, rfl, fr_key _ 2 rfl⟩
      have e2 : ∃ r, ff_M_seat 100 IM J00 a = some r ∧ r.1 = 0 := by
        unfold ff_M_seat
        rw [if_neg (by decide), if_pos (by decide), if_neg h1, if_pos h2]
        exact ⟨_, rfl, fr_key _ 3 rfl⟩
      obtain ⟨r, e1, e3⟩ := e1
      obtain ⟨r', e2, e4⟩ := e2
      exact ⟨_, 100, r, 100, r', e1, e2, e3.trans e4.symm, rfl⟩
    · exact ⟨_, 100, ((-1 : Int32), IO, J00), 100, ((-1 : Int32), ui IM 0 0 0, J00), by unfold ff_O_seat; rw [if_pos (by decide), if_neg (by decide), if_neg h1, if_neg h2], by unfold ff_M_seat; rw [if_neg (by decide), if_pos (by decide), if_neg h1, if_neg h2], rfl, rfl⟩
theorem fz_3 : ∃ M', ls_3 xs i IO J00 IM J00 f M' := ⟨_, 100, _, 100, _, rfl, rfl, rfl, rfl⟩
theorem fz_4 : ∃ M', ls_4 xs i IO J00 IM J00 f M' := ⟨_, 100, ((0 : Int32), IO, J00), 100, ((0 : Int32), ui IM 0 0 0, J00), rfl, by unfold ff_M_seal; rw [fr_isP _ _ _ _ rfl]; rfl, rfl, rfl⟩
theorem fz_5 : ∃ M', ls_5t xs i IO J00 IM J00 f M' := ⟨_, 100, 100, _, 100, 1, by unfold ff_O_sealOf; rw [fr_isS _ _ _ _ rfl]; rfl, by unfold ff_M_sealOf2; rw [fr_isP _ _ _ _ rfl]; rfl, rfl, rfl, rfl⟩
theorem fz_6 : ∃ M', ls_6 xs i IO J00 IM J00 f M' := ⟨_, 100, ((0 : Int32), IO, J00), 100, ((0 : Int32), ui IM 0 0 0, J00), rfl, rfl, rfl, rfl⟩
theorem fz_7 : ∃ M', ls_7t xs i IO J00 IM J00 f M' := by
  unfold ls_7t
  generalize xs (7 * i + 1) = a
  have e2 : ∃ r, ff_M_laid 100 IM J00 a = some r ∧ r.2.1 0 0 = 1 := by
    unfold ff_M_laid
    rcases fr_pl 100 a with h | h
    · rw [h]; exact ⟨_, rfl, rfl⟩
    · rw [h]; exact ⟨_, rfl, rfl⟩
  obtain ⟨r, e2, e3⟩ := e2
  exact ⟨_, 100, 100, r, 100, _, rfl, e2, rfl, e3, rfl⟩
theorem fz_8 : ∃ M', ls_8 xs i IO J00 IM J00 f M' := by
  unfold ls_8
  generalize xs (7 * i + 1) = a
  generalize xs (7 * i + 2) = b
  have e2 : ∃ r, ff_M_assign 100 IM J00 a b = some r ∧ r.1 = 0 := by
    unfold ff_M_assign
    rcases fr_pl 100 a with h | h
    · rw [h]; exact ⟨_, rfl, rfl⟩
    · rw [h]; exact ⟨_, rfl, rfl⟩
  obtain ⟨r, e2, e3⟩ := e2
  exact ⟨_, 100, ((0 : Int32), IO, J00), 100, r, rfl, e2, e3.symm, rfl⟩
theorem fz_9 : ∃ M', ls_9 xs i IO J00 IM J00 f M' := ⟨_, 100, ((0 : Int32), IO, J00), 100, ((0 : Int32), ui IM 0 0 0, J00), rfl, by unfold ff_M_give; rw [fr_isP _ _ _ _ rfl]; rfl, rfl, rfl⟩
theorem fz_10 : ∃ M', ls_10 xs i IO J00 IM J00 f M' := ⟨_, 100, (-1 : Int32), 100, ((-1 : Int32), ui IM 0 0 0, J00), rfl, by unfold ff_M_open; rw [fr_isP _ _ _ _ rfl]; rfl, rfl, rfl⟩
theorem fz_11 : ∃ M', ls_11 xs i IO J00 IM J00 f M' := ⟨_, 100, _, 100, _, rfl, rfl, rfl, rfl⟩
theorem fz_12 : ∃ M', ls_12 xs i IO J00 IM J00 f M' := ⟨_, 100, ((0 : Int32), IO, J00), 100, ((0 : Int32), ui IM 0 0 0, J00), rfl, rfl, rfl, rfl⟩
theorem fz_13 : ∃ M', ls_13 xs i IO J00 IM J00 f M' := ⟨_, 100, ((0 : Int32), IO, J00), 100, ((0 : Int32), ui IM 0 0 0, J00), rfl, rfl, rfl, rfl⟩
theorem fz_14 : ∃ M', ls_14 xs i IO J00 IM J00 f M' := ⟨_, 100, ((0 : Int32), IO, J00), 100, ((0 : Int32), ui IM 0 0 0, J00), rfl, by unfold ff_M_show; rw [fr_isP _ _ _ _ rfl]; rfl, rfl, rfl⟩
theorem fz_15 : ∃ M', ls_15t xs i IO J00 IM J00 f M' := ⟨_, 100, 100, _, 100, _, rfl, rfl, rfl, rfl, rfl⟩
theorem fz_16 : ∃ M', ls_16 xs i IO J00 IM J00 f M' := ⟨_, 100, ((0 : Int32), IO, J00), 100, ((0 : Int32), ui IM 0 0 0, J00), rfl, by unfold ff_M_cheat; rw [fr_isP _ _ _ _ rfl]; rfl, rfl, rfl⟩
theorem fz_17 : ∃ M', ls_17 xs i IO J00 IM J00 f M' := by
  unfold ls_17
  generalize xs (7 * i + 1) = a
  by_cases h0 : a = 0
  · subst h0; exact ⟨_, 100, _, 100, _, rfl, rfl, rfl, rfl⟩
  by_cases h1 : a = 1
  · subst h1; exact ⟨_, 100, _, 100, _, rfl, rfl, rfl, rfl⟩
  by_cases h2 : a = 2
  · subst h2; exact ⟨_, 100, _, 100, _, rfl, rfl, rfl, rfl⟩
  by_cases h3 : a = 3
  · subst h3; exact ⟨_, 100, _, 100, _, rfl, rfl, rfl, rfl⟩
  by_cases h4 : a = 4
  · subst h4; exact ⟨_, 100, _, 100, _, rfl, rfl, rfl, rfl⟩
  have e1 : ff_O_state 100 IO J00 a = some (-1) := by
    unfold ff_O_state
    rw [if_neg h0, if_neg h1, if_neg h2, if_neg h3, if_neg h4]
  have e2 : ∃ r, ff_M_state 100 IM J00 a = some r ∧ r.1 = -1 := by
    unfold ff_M_state
    rw [ff_M_state_9, if_pos (by decide), if_neg h0, if_neg h1, if_neg h2, if_neg h3, if_neg h4]
    exact ⟨_, rfl, rfl⟩
  obtain ⟨r, e2, e3⟩ := e2
  exact ⟨_, 100, _, 100, r, e1, e2, e3.symm, rfl⟩
theorem fz_18 : ∃ M', ls_18 xs i IO J00 IM J00 f M' := ⟨_, 100, (-1 : Int32), 100, ((-1 : Int32), ui IM 0 0 0, J00), by unfold ff_O_player; rw [fr_isS _ _ _ _ rfl]; rfl, by unfold ff_M_player; rw [fr_isP _ _ _ _ rfl]; rfl, rfl, rfl⟩
end FRS
theorem fresh_step (hp : ∀ a : Int32, ∃ n r n' r', ff_O_prime n IO J00 a = some r ∧ ff_M_prime n' IM J00 a = some r' ∧ r.1 = r'.1) (xs : Nat → Int32) (i : Nat) : ∃ M1, LStep xs i M0 M1 := by
  unfold LStep
  generalize xs (7 * i) &&& 31 = z
  by_cases h0 : z = 0
  · obtain ⟨n, r, n', r', a, b, c⟩ := hp (xs (7 * i + 1))
    have g : ∃ M', ls_0 xs i IO J00 IM J00 (fun _ => 0) M' := ⟨_, n, r, n', r', a, b, c, rfl⟩
    obtain ⟨M1, g⟩ := g
    exact ⟨M1, fun _ => g, fun e => absurd (h0.symm.trans e) (by decide), fun e => absurd (h0.symm.trans e) (by decide), fun e => absurd (h0.symm.trans e) (by decide), fun e => absurd (h0.symm.trans e) (by decide), fun e => absurd (h0.symm.trans e) (by decide), fun e => absurd (h0.symm.trans e) (by decide), fun e => absurd (h0.symm.trans e) (by decide), fun e => absurd (h0.symm.trans e) (by decide), fun e => absurd (h0.symm.trans e) (by decide), fun e => absurd (h0.symm.trans e) (by decide), fun e => absurd (h0.symm.trans e) (by decide), fun e => absurd (h0.symm.trans e) (by decide), fun e => absurd (h0.symm.trans e) (by decide), fun e => absurd (h0.symm.trans e) (by decide), fun e => absurd (h0.symm.trans e) (by decide), fun e => absurd (h0.symm.trans e) (by decide), fun e => absurd (h0.symm.trans e) (by decide), fun e => absurd (h0.symm.trans e) (by decide), fun e => absurd e (by rw [h0]; decide)⟩
  by_cases h1 : z = 1
  · obtain ⟨M1, g⟩ := fz_1 xs i (fun _ => 0)
    exact ⟨M1, fun e => absurd (h1.symm.trans e) (by decide), fun _ => g, fun e => absurd (h1.symm.trans e) (by decide), fun e => absurd (h1.symm.trans e) (by decide), fun e => absurd (h1.symm.trans e) (by decide), fun e => absurd (h1.symm.trans e) (by decide), fun e => absurd (h1.symm.trans e) (by decide), fun e => absurd (h1.symm.trans e) (by decide), fun e => absurd (h1.symm.trans e) (by decide), fun e => absurd (h1.symm.trans e) (by decide), fun e => absurd (h1.symm.trans e) (by decide), fun e => absurd (h1.symm.trans e) (by decide), fun e => absurd (h1.symm.trans e) (by decide), fun e => absurd (h1.symm.trans e) (by decide), fun e => absurd (h1.symm.trans e) (by decide), fun e => absurd (h1.symm.trans e) (by decide), fun e => absurd (h1.symm.trans e) (by decide), fun e => absurd (h1.symm.trans e) (by decide), fun e => absurd (h1.symm.trans e) (by decide), fun e => absurd e (by rw [h1]; decide)⟩
  by_cases h2 : z = 2
  · obtain ⟨M1, g⟩ := fz_2 xs i (fun _ => 0)
    exact ⟨M1, fun e => absurd (h2.symm.trans e) (by decide), fun e => absurd (h2.symm.trans e) (by decide), fun _ => g, fun e => absurd (h2.symm.trans e) (by decide), fun e => absurd (h2.symm.trans e) (by decide), fun e => absurd (h2.symm.trans e) (by decide), fun e => absurd (h2.symm.trans e) (by decide), fun e => absurd (h2.symm.trans e) (by decide), fun e => absurd (h2.symm.trans e) (by decide), fun e => absurd (h2.symm.trans e) (by decide), fun e => absurd (h2.symm.trans e) (by decide), fun e => absurd (h2.symm.trans e) (by decide), fun e => absurd (h2.symm.trans e) (by decide), fun e => absurd (h2.symm.trans e) (by decide), fun e => absurd (h2.symm.trans e) (by decide), fun e => absurd (h2.symm.trans e) (by decide), fun e => absurd (h2.symm.trans e) (by decide), fun e => absurd (h2.symm.trans e) (by decide), fun e => absurd (h2.symm.trans e) (by decide), fun e => absurd e (by rw [h2]; decide)⟩
  by_cases h3 : z = 3
  · obtain ⟨M1, g⟩ := fz_3 xs i (fun _ => 0)
    exact ⟨M1, fun e => absurd (h3.symm.trans e) (by decide), fun e => absurd (h3.symm.trans e) (by decide), fun e => absurd (h3.symm.trans e) (by decide), fun _ => g, fun e => absurd (h3.symm.trans e) (by decide), fun e => absurd (h3.symm.trans e) (by decide), fun e => absurd (h3.symm.trans e) (by decide), fun e => absurd (h3.symm.trans e) (by decide), fun e => absurd (h3.symm.trans e) (by decide), fun e => absurd (h3.symm.trans e) (by decide), fun e => absurd (h3.symm.trans e) (by decide), fun e => absurd (h3.symm.trans e) (by decide), fun e => absurd (h3.symm.trans e) (by decide), fun e => absurd (h3.symm.trans e) (by decide), fun e => absurd (h3.symm.trans e) (by decide), fun e => absurd (h3.symm.trans e) (by decide), fun e => absurd (h3.symm.trans e) (by decide), fun e => absurd (h3.symm.trans e) (by decide), fun e => absurd (h3.symm.trans e) (by decide), fun e => absurd e (by rw [h3]; decide)⟩
  by_cases h4 : z = 4
  · obtain ⟨M1, g⟩ := fz_4 xs i (fun _ => 0)
    exact ⟨M1, fun e => absurd (h4.symm.trans e) (by decide), fun e => absurd (h4.symm.trans e) (by decide), fun e => absurd (h4.symm.trans e) (by decide), fun e => absurd (h4.symm.trans e) (by decide), fun _ => g, fun e => absurd (h4.symm.trans e) (by decide), fun e => absurd (h4.symm.trans e) (by decide), fun e => absurd (h4.symm.trans e) (by decide), fun e => absurd (h4.symm.trans e) (by decide), fun e => absurd (h4.symm.trans e) (by decide), fun e => absurd (h4.symm.trans e) (by decide), fun e => absurd (h4.symm.trans e) (by decide), fun e => absurd (h4.symm.trans e) (by decide), fun e => absurd (h4.symm.trans e) (by decide), fun e => absurd (h4.symm.trans e) (by decide), fun e => absurd (h4.symm.trans e) (by decide), fun e => absurd (h4.symm.trans e) (by decide), fun e => absurd (h4.symm.trans e) (by decide), fun e => absurd (h4.symm.trans e) (by decide), fun e => absurd e (by rw [h4]; decide)⟩
  by_cases h5 : z = 5
  · obtain ⟨M1, g⟩ := fz_5 xs i (fun _ => 0)
    exact ⟨M1, fun e => absurd (h5.symm.trans e) (by decide), fun e => absurd (h5.symm.trans e) (by decide), fun e => absurd (h5.symm.trans e) (by decide), fun e => absurd (h5.symm.trans e) (by decide), fun e => absurd (h5.symm.trans e) (by decide), fun _ => Or.inr g, fun e => absurd (h5.symm.trans e) (by decide), fun e => absurd (h5.symm.trans e) (by decide), fun e => absurd (h5.symm.trans e) (by decide), fun e => absurd (h5.symm.trans e) (by decide), fun e => absurd (h5.symm.trans e) (by decide), fun e => absurd (h5.symm.trans e) (by decide), fun e => absurd (h5.symm.trans e) (by decide), fun e => absurd (h5.symm.trans e) (by decide), fun e => absurd (h5.symm.trans e) (by decide), fun e => absurd (h5.symm.trans e) (by decide), fun e => absurd (h5.symm.trans e) (by decide), fun e => absurd (h5.symm.trans e) (by decide), fun e => absurd (h5.symm.trans e) (by decide), fun e => absurd e (by rw [h5]; decide)⟩
  by_cases h6 : z = 6
  · obtain ⟨M1, g⟩ := fz_6 xs i (fun _ => 0)
    exact ⟨M1, fun e => absurd (h6.symm.trans e) (by decide), fun e => absurd (h6.symm.trans e) (by decide), fun e => absurd (h6.symm.trans e) (by decide), fun e => absurd (h6.symm.trans e) (by decide), fun e => absurd (h6.symm.trans e) (by decide), fun e => absurd (h6.symm.trans e) (by decide), fun _ => g, fun e => absurd (h6.symm.trans e) (by decide), fun e => absurd (h6.symm.trans e) (by decide), fun e => absurd (h6.symm.trans e) (by decide), fun e => absurd (h6.symm.trans e) (by decide), fun e => absurd (h6.symm.trans e) (by decide), fun e => absurd (h6.symm.trans e) (by decide), fun e => absurd (h6.symm.trans e) (by decide), fun e => absurd (h6.symm.trans e) (by decide), fun e => absurd (h6.symm.trans e) (by decide), fun e => absurd (h6.symm.trans e) (by decide), fun e => absurd (h6.symm.trans e) (by decide), fun e => absurd (h6.symm.trans e) (by decide), fun e => absurd e (by rw [h6]; decide)⟩
  by_cases h7 : z = 7
  · obtain ⟨M1, g⟩ := fz_7 xs i (fun _ => 0)
    exact ⟨M1, fun e => absurd (h7.symm.trans e) (by decide), fun e => absurd (h7.symm.trans e) (by decide), fun e => absurd (h7.symm.trans e) (by decide), fun e => absurd (h7.symm.trans e) (by decide), fun e => absurd (h7.symm.trans e) (by decide), fun e => absurd (h7.symm.trans e) (by decide), fun e => absurd (h7.symm.trans e) (by decide), fun _ => Or.inr g, fun e => absurd (h7.symm.trans e) (by decide), fun e => absurd (h7.symm.trans e) (by decide), fun e => absurd (h7.symm.trans e) (by decide), fun e => absurd (h7.symm.trans e) (by decide), fun e => absurd (h7.symm.trans e) (by decide), fun e => absurd (h7.symm.trans e) (by decide), fun e => absurd (h7.symm.trans e) (by decide), fun e => absurd (h7.symm.trans e) (by decide), fun e => absurd (h7.symm.trans e) (by decide), fun e => absurd (h7.symm.trans e) (by decide), fun e => absurd (h7.symm.trans e) (by decide), fun e => absurd e (by rw [h7]; decide)⟩
  by_cases h8 : z = 8
  · obtain ⟨M1, g⟩ := fz_8 xs i (fun _ => 0)
    exact ⟨M1, fun e => absurd (h8.symm.trans e) (by decide), fun e => absurd (h8.symm.trans e) (by decide), fun e => absurd (h8.symm.trans e) (by decide), fun e => absurd (h8.symm.trans e) (by decide), fun e => absurd (h8.symm.trans e) (by decide), fun e => absurd (h8.symm.trans e) (by decide), fun e => absurd (h8.symm.trans e) (by decide), fun e => absurd (h8.symm.trans e) (by decide), fun _ => g, fun e => absurd (h8.symm.trans e) (by decide), fun e => absurd (h8.symm.trans e) (by decide), fun e => absurd (h8.symm.trans e) (by decide), fun e => absurd (h8.symm.trans e) (by decide), fun e => absurd (h8.symm.trans e) (by decide), fun e => absurd (h8.symm.trans e) (by decide), fun e => absurd (h8.symm.trans e) (by decide), fun e => absurd (h8.symm.trans e) (by decide), fun e => absurd (h8.symm.trans e) (by decide), fun e => absurd (h8.symm.trans e) (by decide), fun e => absurd e (by rw [h8]; decide)⟩
  by_cases h9 : z = 9
  · obtain ⟨M1, g⟩ := fz_9 xs i (fun _ => 0)
    exact ⟨M1, fun e => absurd (h9.symm.trans e) (by decide), fun e => absurd (h9.symm.trans e) (by decide), fun e => absurd (h9.symm.trans e) (by decide), fun e => absurd (h9.symm.trans e) (by decide), fun e => absurd (h9.symm.trans e) (by decide), fun e => absurd (h9.symm.trans e) (by decide), fun e => absurd (h9.symm.trans e) (by decide), fun e => absurd (h9.symm.trans e) (by decide), fun e => absurd (h9.symm.trans e) (by decide), fun _ => g, fun e => absurd (h9.symm.trans e) (by decide), fun e => absurd (h9.symm.trans e) (by decide), fun e => absurd (h9.symm.trans e) (by decide), fun e => absurd (h9.symm.trans e) (by decide), fun e => absurd (h9.symm.trans e) (by decide), fun e => absurd (h9.symm.trans e) (by decide), fun e => absurd (h9.symm.trans e) (by decide), fun e => absurd (h9.symm.trans e) (by decide), fun e => absurd (h9.symm.trans e) (by decide), fun e => absurd e (by rw [h9]; decide)⟩
  by_cases h10 : z = 10
  · obtain ⟨M1, g⟩ := fz_10 xs i (fun _ => 0)
    exact ⟨M1, fun e => absurd (h10.symm.trans e) (by decide), fun e => absurd (h10.symm.trans e) (by decide), fun e => absurd (h10.symm.trans e) (by decide), fun e => absurd (h10.symm.trans e) (by decide), fun e => absurd (h10.symm.trans e) (by decide), fun e => absurd (h10.symm.trans e) (by decide), fun e => absurd (h10.symm.trans e) (by decide), fun e => absurd (h10.symm.trans e) (by decide), fun e => absurd (h10.symm.trans e) (by decide), fun e => absurd (h10.symm.trans e) (by decide), fun _ => g, fun e => absurd (h10.symm.trans e) (by decide), fun e => absurd (h10.symm.trans e) (by decide), fun e => absurd (h10.symm.trans e) (by decide), fun e => absurd (h10.symm.trans e) (by decide), fun e => absurd (h10.symm.trans e) (by decide), fun e => absurd (h10.symm.trans e) (by decide), fun e => absurd (h10.symm.trans e) (by decide), fun e => absurd (h10.symm.trans e) (by decide), fun e => absurd e (by rw [h10]; decide)⟩
  by_cases h11 : z = 11
  · obtain ⟨M1, g⟩ := fz_11 xs i (fun _ => 0)
    exact ⟨M1, fun e => absurd (h11.symm.trans e) (by decide), fun e => absurd (h11.symm.trans e) (by decide), fun e => absurd (h11.symm.trans e) (by decide), fun e => absurd (h11.symm.trans e) (by decide), fun e => absurd (h11.symm.trans e) (by decide), fun e => absurd (h11.symm.trans e) (by decide), fun e => absurd (h11.symm.trans e) (by decide), fun e => absurd (h11.symm.trans e) (by decide), fun e => absurd (h11.symm.trans e) (by decide), fun e => absurd (h11.symm.trans e) (by decide), fun e => absurd (h11.symm.trans e) (by decide), fun _ => g, fun e => absurd (h11.symm.trans e) (by decide), fun e => absurd (h11.symm.trans e) (by decide), fun e => absurd (h11.symm.trans e) (by decide), fun e => absurd (h11.symm.trans e) (by decide), fun e => absurd (h11.symm.trans e) (by decide), fun e => absurd (h11.symm.trans e) (by decide), fun e => absurd (h11.symm.trans e) (by decide), fun e => absurd e (by rw [h11]; decide)⟩
  by_cases h12 : z = 12
  · obtain ⟨M1, g⟩ := fz_12 xs i (fun _ => 0)
    exact ⟨M1, fun e => absurd (h12.symm.trans e) (by decide), fun e => absurd (h12.symm.trans e) (by decide), fun e => absurd (h12.symm.trans e) (by decide), fun e => absurd (h12.symm.trans e) (by decide), fun e => absurd (h12.symm.trans e) (by decide), fun e => absurd (h12.symm.trans e) (by decide), fun e => absurd (h12.symm.trans e) (by decide), fun e => absurd (h12.symm.trans e) (by decide), fun e => absurd (h12.symm.trans e) (by decide), fun e => absurd (h12.symm.trans e) (by decide), fun e => absurd (h12.symm.trans e) (by decide), fun e => absurd (h12.symm.trans e) (by decide), fun _ => g, fun e => absurd (h12.symm.trans e) (by decide), fun e => absurd (h12.symm.trans e) (by decide), fun e => absurd (h12.symm.trans e) (by decide), fun e => absurd (h12.symm.trans e) (by decide), fun e => absurd (h12.symm.trans e) (by decide), fun e => absurd (h12.symm.trans e) (by decide), fun e => absurd e (by rw [h12]; decide)⟩
  by_cases h13 : z = 13
  · obtain ⟨M1, g⟩ := fz_13 xs i (fun _ => 0)
    exact ⟨M1, fun e => absurd (h13.symm.trans e) (by decide), fun e => absurd (h13.symm.trans e) (by decide), fun e => absurd (h13.symm.trans e) (by decide), fun e => absurd (h13.symm.trans e) (by decide), fun e => absurd (h13.symm.trans e) (by decide), fun e => absurd (h13.symm.trans e) (by decide), fun e => absurd (h13.symm.trans e) (by decide), fun e => absurd (h13.symm.trans e) (by decide), fun e => absurd (h13.symm.trans e) (by decide), fun e => absurd (h13.symm.trans e) (by decide), fun e => absurd (h13.symm.trans e) (by decide), fun e => absurd (h13.symm.trans e) (by decide), fun e => absurd (h13.symm.trans e) (by decide), fun _ => g, fun e => absurd (h13.symm.trans e) (by decide), fun e => absurd (h13.symm.trans e) (by decide), fun e => absurd (h13.symm.trans e) (by decide), fun e => absurd (h13.symm.trans e) (by decide), fun e => absurd (h13.symm.trans e) (by decide), fun e => absurd e (by rw [h13]; decide)⟩
  by_cases h14 : z = 14
  · obtain ⟨M1, g⟩ := fz_14 xs i (fun _ => 0)
    exact ⟨M1, fun e => absurd (h14.symm.trans e) (by decide), fun e => absurd (h14.symm.trans e) (by decide), fun e => absurd (h14.symm.trans e) (by decide), fun e => absurd (h14.symm.trans e) (by decide), fun e => absurd (h14.symm.trans e) (by decide), fun e => absurd (h14.symm.trans e) (by decide), fun e => absurd (h14.symm.trans e) (by decide), fun e => absurd (h14.symm.trans e) (by decide), fun e => absurd (h14.symm.trans e) (by decide), fun e => absurd (h14.symm.trans e) (by decide), fun e => absurd (h14.symm.trans e) (by decide), fun e => absurd (h14.symm.trans e) (by decide), fun e => absurd (h14.symm.trans e) (by decide), fun e => absurd (h14.symm.trans e) (by decide), fun _ => g, fun e => absurd (h14.symm.trans e) (by decide), fun e => absurd (h14.symm.trans e) (by decide), fun e => absurd (h14.symm.trans e) (by decide), fun e => absurd (h14.symm.trans e) (by decide), fun e => absurd e (by rw [h14]; decide)⟩
  by_cases h15 : z = 15
  · obtain ⟨M1, g⟩ := fz_15 xs i (fun _ => 0)
    exact ⟨M1, fun e => absurd (h15.symm.trans e) (by decide), fun e => absurd (h15.symm.trans e) (by decide), fun e => absurd (h15.symm.trans e) (by decide), fun e => absurd (h15.symm.trans e) (by decide), fun e => absurd (h15.symm.trans e) (by decide), fun e => absurd (h15.symm.trans e) (by decide), fun e => absurd (h15.symm.trans e) (by decide), fun e => absurd (h15.symm.trans e) (by decide), fun e => absurd (h15.symm.trans e) (by decide), fun e => absurd (h15.symm.trans e) (by decide), fun e => absurd (h15.symm.trans e) (by decide), fun e => absurd (h15.symm.trans e) (by decide), fun e => absurd (h15.symm.trans e) (by decide), fun e => absurd (h15.symm.trans e) (by decide), fun e => absurd (h15.symm.trans e) (by decide), fun _ => Or.inr g, fun e => absurd (h15.symm.trans e) (by decide), fun e => absurd (h15.symm.trans e) (by decide), fun e => absurd (h15.symm.trans e) (by decide), fun e => absurd e (by rw [h15]; decide)⟩
  by_cases h16 : z = 16
  · obtain ⟨M1, g⟩ := fz_16 xs i (fun _ => 0)
    exact ⟨M1, fun e => absurd (h16.symm.trans e) (by decide), fun e => absurd (h16.symm.trans e) (by decide), fun e => absurd (h16.symm.trans e) (by decide), fun e => absurd (h16.symm.trans e) (by decide), fun e => absurd (h16.symm.trans e) (by decide), fun e => absurd (h16.symm.trans e) (by decide), fun e => absurd (h16.symm.trans e) (by decide), fun e => absurd (h16.symm.trans e) (by decide), fun e => absurd (h16.symm.trans e) (by decide), fun e => absurd (h16.symm.trans e) (by decide), fun e => absurd (h16.symm.trans e) (by decide), fun e => absurd (h16.symm.trans e) (by decide), fun e => absurd (h16.symm.trans e) (by decide), fun e => absurd (h16.symm.trans e) (by decide), fun e => absurd (h16.symm.trans e) (by decide), fun e => absurd (h16.symm.trans e) (by decide), fun _ => g, fun e => absurd (h16.symm.trans e) (by decide), fun e => absurd (h16.symm.trans e) (by decide), fun e => absurd e (by rw [h16]; decide)⟩
  by_cases h17 : z = 17
  · obtain ⟨M1, g⟩ := fz_17 xs i (fun _ => 0)
    exact ⟨M1, fun e => absurd (h17.symm.trans e) (by decide), fun e => absurd (h17.symm.trans e) (by decide), fun e => absurd (h17.symm.trans e) (by decide), fun e => absurd (h17.symm.trans e) (by decide), fun e => absurd (h17.symm.trans e) (by decide), fun e => absurd (h17.symm.trans e) (by decide), fun e => absurd (h17.symm.trans e) (by decide), fun e => absurd (h17.symm.trans e) (by decide), fun e => absurd (h17.symm.trans e) (by decide), fun e => absurd (h17.symm.trans e) (by decide), fun e => absurd (h17.symm.trans e) (by decide), fun e => absurd (h17.symm.trans e) (by decide), fun e => absurd (h17.symm.trans e) (by decide), fun e => absurd (h17.symm.trans e) (by decide), fun e => absurd (h17.symm.trans e) (by decide), fun e => absurd (h17.symm.trans e) (by decide), fun e => absurd (h17.symm.trans e) (by decide), fun _ => g, fun e => absurd (h17.symm.trans e) (by decide), fun e => absurd e (by rw [h17]; decide)⟩
  by_cases h18 : z = 18
  · obtain ⟨M1, g⟩ := fz_18 xs i (fun _ => 0)
    exact ⟨M1, fun e => absurd (h18.symm.trans e) (by decide), fun e => absurd (h18.symm.trans e) (by decide), fun e => absurd (h18.symm.trans e) (by decide), fun e => absurd (h18.symm.trans e) (by decide), fun e => absurd (h18.symm.trans e) (by decide), fun e => absurd (h18.symm.trans e) (by decide), fun e => absurd (h18.symm.trans e) (by decide), fun e => absurd (h18.symm.trans e) (by decide), fun e => absurd (h18.symm.trans e) (by decide), fun e => absurd (h18.symm.trans e) (by decide), fun e => absurd (h18.symm.trans e) (by decide), fun e => absurd (h18.symm.trans e) (by decide), fun e => absurd (h18.symm.trans e) (by decide), fun e => absurd (h18.symm.trans e) (by decide), fun e => absurd (h18.symm.trans e) (by decide), fun e => absurd (h18.symm.trans e) (by decide), fun e => absurd (h18.symm.trans e) (by decide), fun e => absurd (h18.symm.trans e) (by decide), fun _ => g, fun e => absurd e (by rw [h18]; decide)⟩
  exact ⟨M0, fun e => absurd e h0, fun e => absurd e h1, fun e => absurd e h2, fun e => absurd e h3, fun e => absurd e h4, fun e => absurd e h5, fun e => absurd e h6, fun e => absurd e h7, fun e => absurd e h8, fun e => absurd e h9, fun e => absurd e h10, fun e => absurd e h11, fun e => absurd e h12, fun e => absurd e h13, fun e => absurd e h14, fun e => absurd e h15, fun e => absurd e h16, fun e => absurd e h17, fun e => absurd e h18, fun _ => rfl⟩
theorem pure_one (hp : ∀ a : Int32, ∃ n r n' r', ff_O_prime n IO J00 a = some r ∧ ff_M_prime n' IM J00 a = some r' ∧ r.1 = r'.1) (N : Nat) (hN : N < 14) : PureRun N := by
  intro L xs hL
  obtain ⟨M1, h⟩ := fresh_step hp xs 0
  refine ⟨fun i => if i = 0 then M0 else M1, if_pos rfl, fun i hi => ?_⟩
  have h0 : i = 0 := by omega
  subst h0
  exact h
