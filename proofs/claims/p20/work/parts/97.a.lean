/-! bits of cheating, spoiled decks -/
def bt (m : Int64) (j : Nat) : Bool := m.toBitVec.getLsbD j
theorem cmp0 (x y : Int64) : (lg_cmp x y = 0) ↔ x = y := by
  unfold lg_cmp
  by_cases h : x > y
  · rw [if_pos h]
    exact ⟨fun g => absurd g (by decide), fun g => by subst g; exact (Int64.lt_irrefl h).elim⟩
  · rw [if_neg h]
    by_cases h2 : x = y
    · rw [if_pos h2]; exact ⟨fun _ => h2, fun _ => rfl⟩
    · rw [if_neg h2]; exact ⟨fun g => absurd g (by decide), fun g => absurd g h2⟩
theorem and1 (x : BitVec 64) : x &&& 1#64 = if x.getLsbD 0 then 1#64 else 0#64 := by
  apply BitVec.eq_of_getLsbD_eq
  intro i hi
  rw [BitVec.getLsbD_and]
  by_cases h : i = 0
  · subst h
    cases x.getLsbD 0 <;> decide
  · have : (1#64).getLsbD i = false := by
      rw [BitVec.getLsbD_one]
      simp [h]
    rw [this, Bool.and_false]
    split
    · exact this.symm
    · simp
theorem and1_1 (x : BitVec 64) : (x &&& 1#64 = 1#64) ↔ x.getLsbD 0 = true := by
  rw [and1]
  cases x.getLsbD 0 <;> decide
theorem and1_0 (x : BitVec 64) : (x &&& 1#64 = 0#64) ↔ x.getLsbD 0 = false := by
  rw [and1]
  cases x.getLsbD 0 <;> decide
theorem sh_u : ∀ j, j < 52 → (((Int32.toInt64 (Int32.ofNat j)).toUInt64 &&& Int64.toUInt64 63).toBitVec % 64).toNat = j := by decide
theorem sh_s : ∀ j, j < 52 → (((Int32.toInt64 (Int32.ofNat j)) &&& 63).toBitVec.smod 64).toNat = j := by decide
theorem bt_u (m : Int64) {j : Nat} (hj : j < 52) : (((Int64.toUInt64 m >>> ((Int32.toInt64 (Int32.ofNat j)).toUInt64 &&& Int64.toUInt64 63)).toInt64) &&& (1 : Int64)).toBitVec = (m.toBitVec >>> j) &&& 1#64 := by
  rw [Int64.toBitVec_and]
  congr 1
  show (Int64.toUInt64 m >>> _).toBitVec = _
  rw [UInt64.toBitVec_shiftRight]
  show m.toBitVec >>> (_ : BitVec 64) = _
  rw [BitVec.ushiftRight_eq', sh_u j hj]
theorem bt_s (m : Int64) {j : Nat} (hj : j < 52) : ((m >>> (Int32.toInt64 (Int32.ofNat j) &&& 63)) &&& (1 : Int64)).toBitVec = (m.toBitVec.sshiftRight j) &&& 1#64 := by
  rw [Int64.toBitVec_and]
  congr 1
  rw [Int64.toBitVec_shiftRight]
  show m.toBitVec.sshiftRight _ = _
  rw [sh_s j hj]
theorem bt_O (m : Int64) {j : Nat} (hj : j < 52) : (lg_cmp (((Int64.toUInt64 m >>> ((Int32.toInt64 (Int32.ofNat j)).toUInt64 &&& Int64.toUInt64 63)).toInt64) &&& (1 : Int64)) (1 : Int64) = 0) ↔ bt m j = true := by
  rw [cmp0, ← Int64.toBitVec_inj, bt_u m hj]
  show (_ = 1#64) ↔ _
  rw [and1_1, BitVec.getLsbD_ushiftRight, Nat.add_zero]
  rfl
theorem bt_M1 (m : Int64) {j : Nat} (hj : j < 52) : (lg_cmp ((m >>> (Int32.toInt64 (Int32.ofNat j) &&& 63)) &&& (1 : Int64)) (1 : Int64) = 0) ↔ bt m j = true := by
  rw [cmp0, ← Int64.toBitVec_inj, bt_s m hj]
  show (_ = 1#64) ↔ _
  rw [and1_1, BitVec.getLsbD_sshiftRight]
  unfold bt
  simp [show j < 64 by omega]
theorem bt_M0 (m : Int64) {j : Nat} (hj : j < 52) : (lg_cmp ((m >>> (Int32.toInt64 (Int32.ofNat j) &&& 63)) &&& (1 : Int64)) (0 : Int64) = 0) ↔ bt m j = false := by
  rw [cmp0, ← Int64.toBitVec_inj, bt_s m hj]
  show (_ = 0#64) ↔ _
  rw [and1_0, BitVec.getLsbD_sshiftRight]
  unfold bt
  simp [show j < 64 by omega]
/-- a spoiled number -/
def spo (P : Nat) (m : Int64) (j : Nat) (v : Int32) : Int32 := if bt m j then (if v = Int32.ofNat P - 1 then 1 else v + 1) else v
theorem spo_ne {P : Nat} (hP : TP P) {m : Int64} {j : Nat} (v : Int32) : (spo P m j v = v) ↔ bt m j = false := by
  unfold spo
  cases h : bt m j with
  | false => simp
  | true =>
    simp only [if_true, Bool.true_eq_false, iff_false]
    obtain ⟨p1, p2, _⟩ := hP
    split
    · next h2 =>
      rw [h2, nb_pred (by omega)]
      exact fun h => by have := (nb_inj (x := 1) (by omega) (by omega)).mp h; omega
    · intro h2
      have h3 : v + 1 + -v = v + -v := by rw [h2]
      rw [Int32.add_comm v 1, Int32.add_assoc, Int32.add_right_neg] at h3
      exact absurd h3 (by decide)
theorem P_cheats (n : Nat) (I : MI) (J : MJ) (a0 : Nat) {k j : Nat} (hk : k < 5) (hj : j < 52) : ff_P_cheatsAt n I J a0 (Int32.ofNat k) (Int32.ofNat j) = some (if bt (J (a0 + 5) k) j then 1 else 0) := by
  unfold ff_P_cheatsAt
  rw [if_pos (sm_in (j := k) (N := 5) hk (by omega)), sm_nat (by omega)]
  cases h : bt (J (a0 + 5) k) j with
  | true => rw [if_pos ((bt_O _ hj).mpr h)]; rfl
  | false => rw [if_neg (fun g => by rw [(bt_O _ hj).mp g] at h; exact absurd h (by decide))]; rfl
theorem M_cheated {P : Nat} (n : Nat) {I : MI} (J : MJ) (hI : I 0 1 = Int32.ofNat P) (m : Int64) {j : Nat} (hj : j < 52) (v : Int32) : ff_M_cheated n I J m (Int32.ofNat j) v = some (spo P m j v) := by
  unfold ff_M_cheated spo
  cases h : bt m j with
  | false => rw [if_pos ((bt_M0 _ hj).mpr h)]; rfl
  | true =>
    rw [if_neg (fun g => by rw [(bt_M0 _ hj).mp g] at h; exact absurd h (by decide)), hI]
    simp only [if_true]
    split <;> rfl
