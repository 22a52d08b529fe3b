/-! numbers: what comes to an end -/
theorem q_pos {a : Int32} (h : ¬ a ≤ 0) : ∃ N : Nat, a = Int32.ofNat N ∧ 0 < N ∧ N < 2147483648 := by
  have h1 : (0 : Int) < a.toInt := by
    have := Int32.not_le.mp h
    exact Int32.lt_iff_toInt_lt.mp this
  have h2 : a.toInt < 2147483648 := Int32.toInt_lt a
  refine ⟨a.toInt.toNat, ?_, by omega, by omega⟩
  rw [← Int32.ofInt_eq_ofNat, Int.toNat_of_nonneg (by omega), Int32.ofInt_toInt]
theorem q_nn {a : Int32} (h : ¬ a < 0) : ∃ N : Nat, a = Int32.ofNat N ∧ N < 2147483648 := by
  by_cases h0 : a = 0
  · exact ⟨0, h0, by omega⟩
  · obtain ⟨N, h1, _, h2⟩ := q_pos (a := a) (fun h2 => h0 (Int32.le_antisymm h2 (Int32.not_lt.mp h)))
    exact ⟨N, h1, h2⟩
theorem q_le0 {x : Nat} (hx : x < 2147483648) : (Int32.ofNat x ≤ 0) ↔ x = 0 := (nb_le (y := 0) hx (by omega)).trans (by omega)
def tmO (a b m : Int32) : Int32 := if m ≤ 0 then 0 else Int64.toInt32 (Int32.toInt64 a * Int32.toInt64 b - Int32.toInt64 a * Int32.toInt64 b / Int32.toInt64 m * Int32.toInt64 m)
theorem q_64 {m : Int32} (h : m ≠ 0) : ¬ Int32.toInt64 m = 0 := fun h0 => h (by
  have h1 : (Int32.toInt64 m).toInt = (0 : Int64).toInt := by rw [h0]
  rw [Int32.toInt_toInt64] at h1
  exact Int32.toInt_inj.mp h1)
theorem N_times (n : Nat) (a b m : Int32) : ff_N_times n a b m = some (tmO a b m) := by
  unfold ff_N_times tmO
  by_cases h : m ≤ 0
  · rw [if_pos h, if_pos h]
  · rw [if_neg h, if_neg h, if_pos (q_64 fun h0 => h (by rw [h0]; decide))]
    rfl
theorem N_pow8 (v0 v1 v2 : Int32) : ∀ (x : Nat), x < 2147483648 → ∀ v3 v4, Ends (fun n => ff_N_power_8 n v0 v1 v2 v3 v4 (Int32.ofNat x)) := by
  intro x
  induction x using Nat.strongRecOn with
  | _ x ih =>
    intro hx v3 v4
    by_cases h0 : x = 0
    · subst h0
      exact ⟨v3, Ev.suc (Ev.now fun n => by rw [ff_N_power_8, if_pos (by decide)])⟩
    · obtain ⟨r1, h1⟩ := ih (x / 2) (by omega) (by omega) (tmO v3 v4 v2) (tmO v4 v4 v2)
      obtain ⟨r2, h2⟩ := ih (x / 2) (by omega) (by omega) v3 (tmO v4 v4 v2)
      by_cases hc : Int32.ofNat x - Int32.ofNat x / 2 * 2 = 1
      · refine ⟨r1, Ev.step (fun n => ?_) h1⟩
        rw [ff_N_power_8, if_neg (by rw [q_le0 hx]; exact h0)]
        dsimp only [tl, ff_N_power_29]
        rw [if_pos hc, N_times, Option.bind_some, N_times, Option.bind_some, nb_half hx]
      · refine ⟨r2, Ev.step (fun n => ?_) h2⟩
        rw [ff_N_power_8, if_neg (by rw [q_le0 hx]; exact h0)]
        dsimp only [tl, ff_N_power_29]
        rw [if_neg hc, N_times, Option.bind_some, nb_half hx]
theorem N_pow_ends (b e m : Int32) : Ends (fun n => ff_N_power n b e m) := by
  by_cases h : e ≤ 0
  · exact ⟨1, Ev.suc (Ev.now fun n => by unfold ff_N_power; rw [ff_N_power_8, if_pos h])⟩
  · obtain ⟨x, rfl, _, hx⟩ := q_pos h
    exact N_pow8 b (Int32.ofNat x) m x hx 1 b
noncomputable def pwO (b e m : Int32) : Int32 := lim 0 (fun n => ff_N_power n b e m)
theorem N_pow (b e m : Int32) : Ev (fun n => ff_N_power n b e m) (pwO b e m) := (N_pow_ends b e m).lim 0
theorem M_pow11 (v0 v1 v2 : Int32) (hv : v2 ≠ 0) : ∀ (x : Nat), x < 2147483648 → ∀ v3 v5, Ends (fun n => ff_M_power_11 n v0 v1 v2 v3 v5 (Int32.ofNat x)) := by
  intro x
  have hv := q_64 hv
  induction x using Nat.strongRecOn with
  | _ x ih =>
    intro hx v3 v5
    by_cases h0 : x = 0
    · subst h0
      exact ⟨_, Ev.suc (Ev.now fun n => by rw [ff_M_power_11, if_pos (by decide)])⟩
    · obtain ⟨r1, h1⟩ := ih (x / 2) (by omega) (by omega) ((v3 * v5) - (v3 * v5) / (Int32.toInt64 v2) * (Int32.toInt64 v2)) ((v5 * v5) - (v5 * v5) / (Int32.toInt64 v2) * (Int32.toInt64 v2))
      obtain ⟨r2, h2⟩ := ih (x / 2) (by omega) (by omega) v3 ((v5 * v5) - (v5 * v5) / (Int32.toInt64 v2) * (Int32.toInt64 v2))
      by_cases hc : Int32.ofNat x - Int32.ofNat x / 2 * 2 = 1
      · refine ⟨r1, Ev.step (fun n => ?_) h1⟩
        rw [ff_M_power_11, if_neg (by rw [q_le0 hx]; exact h0)]
        dsimp only [tl, ff_M_power_32]
        rw [if_pos hc, if_pos hv, if_pos hv, nb_half hx]
      · refine ⟨r2, Ev.step (fun n => ?_) h2⟩
        rw [ff_M_power_11, if_neg (by rw [q_le0 hx]; exact h0)]
        dsimp only [tl, ff_M_power_32]
        rw [if_neg hc, if_pos hv, nb_half hx]
theorem M_pow_ends (b e m : Int32) (hm : m ≠ 0) : Ends (fun n => ff_M_power n b e m) := by
  unfold ff_M_power
  simp only [if_pos hm, tl]
  by_cases h : e ≤ 0
  · exact ⟨_, Ev.suc (Ev.now fun n => by rw [ff_M_power_11, if_pos h])⟩
  · obtain ⟨x, rfl, _, hx⟩ := q_pos h
    exact M_pow11 b (Int32.ofNat x) m hm x hx 1 _
noncomputable def pwM (b e m : Int32) : Int32 := lim 0 (fun n => ff_M_power n b e m)
theorem M_pow (b e m : Int32) (hm : m ≠ 0) : Ev (fun n => ff_M_power n b e m) (pwM b e m) := (M_pow_ends b e m hm).lim 0
noncomputable def ivO (e : Int32) (p : Int32) : Int32 := pwO e (((p - 1) / 2) - 2) (p - 1)
theorem N_inv (e p : Int32) : Ev (fun n => ff_N_inverse n e p) (ivO e p) := Ev.bind (N_pow e (((p - 1) / 2) - 2) (p - 1)) (Ev.pure _)
