/-! every call on fresh objects, but prime -/
theorem fr_isP (n : Nat) (I : MI) (J : MJ) (a : Int32) (h : I 0 3 = 0) : ff_M_isPlayer n I J a = some 0 := by
  unfold ff_M_isPlayer
  by_cases h1 : a < 0
  · rw [if_pos h1]
  · rw [if_neg h1, if_pos (by rw [h]; exact Int32.not_lt.mp h1)]
theorem fr_isS (n : Nat) (I : MI) (J : MJ) (a : Int32) (h : I 0 2 = 0) : ff_O_isSeated n I J a = some 0 := by
  unfold ff_O_isSeated
  by_cases h1 : a < 0
  · rw [if_pos h1]
  · rw [if_neg h1, if_pos (by rw [h]; exact Int32.not_lt.mp h1)]
theorem fr_pl (n : Nat) (a : Int32) : ff_M_isPlace n a = some 0 ∨ ff_M_isPlace n a = some 1 := by
  unfold ff_M_isPlace
  by_cases h1 : a < 0
  · rw [if_pos h1]; exact Or.inl rfl
  · rw [if_neg h1]
    by_cases h2 : (52 : Int32) ≤ a
    · rw [if_pos h2]; exact Or.inl rfl
    · rw [if_neg h2]; exact Or.inr rfl
theorem fr_key (X : MI) (k : Nat) (h : X 0 k = 0) : (ui X 0 k (X 0 k + 1)) 0 k - 1 = 0 := by
  rw [ui_row, h]
  show (if k = k then (0 + 1 : Int32) else X 0 k) - 1 = 0
  rw [if_pos rfl]
  rfl
theorem sm_le {j k : Nat} (hj : j < 100000) (hk : k < 100000) : (Int32.ofNat j ≤ Int32.ofNat k) ↔ j ≤ k := Int32.ofNat_le_ofNat (by omega) (by omega)
theorem sm_nat {j : Nat} (hj : j < 100000) : (Int32.ofNat j).toNatClampNeg = j := Int32.toNatClampNeg_ofNat_of_lt (by omega)
theorem sm_pos {j : Nat} (hj : j < 100000) : ¬ Int32.ofNat j < 0 := fun h3 => absurd ((Int32.lt_iff_toInt_lt).mp h3) (by rw [Int32.toInt_ofNat_of_lt (by omega)]; simp)
theorem sm_in {j N : Nat} (hj : j < N) (hN : N < 100000) : ¬ (Int32.ofNat j < 0 ∨ N ≤ (Int32.ofNat j).toNatClampNeg) := by
  rw [sm_nat (by omega)]
  rintro (h | h)
  · exact sm_pos (by omega) h
  · omega
theorem sm_suc {j : Nat} : Int32.ofNat j + 1 = Int32.ofNat (j + 1) := (Int32.ofNat_add j 1).symm
theorem clr73 (J : MJ) : ∀ (k : Nat), k ≤ 208 → ∀ (n : Nat) (I : MI), k < n → ∃ r, ff_M_clear_73 n I J (Int32.ofNat (208 - k)) = some r := by
  intro k
  induction k with
  | zero =>
    intro _ n I hn
    obtain ⟨n, rfl⟩ : ∃ m, n = m + 1 := ⟨n - 1, by omega⟩
    rw [ff_M_clear_73, if_pos (by decide)]
    exact ⟨_, rfl⟩
  | succ k ih =>
    intro hk n I hn
    obtain ⟨n, rfl⟩ : ∃ m, n = m + 1 := ⟨n - 1, by omega⟩
    rw [ff_M_clear_73, if_neg (show ¬ (208 : Int32) ≤ Int32.ofNat (208 - (k + 1)) from fun h => by have := (sm_le (j := 208) (k := 208 - (k + 1)) (by omega) (by omega)).mp h; omega), if_pos (sm_in (by omega) (by omega)), sm_suc, show 208 - (k + 1) + 1 = 208 - k by omega]
    exact ih (by omega) n _ (by omega)
theorem clr32 (J : MJ) : ∀ (k : Nat), k ≤ 4 → ∀ (n : Nat) (I : MI), k + 300 < n → ∃ r, ff_M_clear_32 n I J (Int32.ofNat (4 - k)) = some r := by
  intro k
  induction k with
  | zero =>
    intro _ n I hn
    obtain ⟨n, rfl⟩ : ∃ m, n = m + 1 := ⟨n - 1, by omega⟩
    rw [ff_M_clear_32, if_pos (by decide)]
    exact clr73 J 208 (by omega) n I (by omega)
  | succ k ih =>
    intro hk n I hn
    obtain ⟨n, rfl⟩ : ∃ m, n = m + 1 := ⟨n - 1, by omega⟩
    have hb := sm_in (j := 4 - (k + 1)) (N := 4) (by omega) (by omega)
    rw [ff_M_clear_32, if_neg (show ¬ (4 : Int32) ≤ Int32.ofNat (4 - (k + 1)) from fun h => by have := (sm_le (j := 4) (k := 4 - (k + 1)) (by omega) (by omega)).mp h; omega), if_pos hb, if_pos hb, if_pos hb, if_pos hb, sm_suc, show 4 - (k + 1) + 1 = 4 - k by omega]
    exact ih (by omega) n _ (by omega)
theorem clr_end (I : MI) (J : MJ) : ∃ r, ff_M_clear 1000 I J = some r := clr32 J 4 (by omega) 1000 _ (by omega)
