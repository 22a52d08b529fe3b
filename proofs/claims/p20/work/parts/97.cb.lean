/-! both reckon the same numbers -/
def inP (P : Nat) (v : Int32) : Prop := ∃ x, v = Int32.ofNat x ∧ 0 < x ∧ x < P
theorem nd {P x : Nat} (h0 : 0 < x) (hx : x < P) : ¬ P ∣ x := fun h => by have := Nat.le_of_dvd h0 h; omega
theorem pw_eq {P e : Nat} (hP : TP P) {v : Int32} (hv : inP P v) (he : e < 2147483648) : pwO v (Int32.ofNat e) (Int32.ofNat P) = pwM v (Int32.ofNat e) (Int32.ofNat P) ∧ inP P (pwO v (Int32.ofNat e) (Int32.ofNat P)) := by
  obtain ⟨x, rfl, h0, hx⟩ := hv
  obtain ⟨p1, p2, p3, p4, p5⟩ := hP
  rw [pwO_nat (by omega) p2 (by omega) he, pwM_nat (by omega) p2 (by omega) he]
  exact ⟨rfl, _, rfl, pow_in p4 (nd h0 hx) e, Nat.mod_lt _ (by omega)⟩
theorem rel_eq {P e l : Nat} (hP : TP P) {v : Int32} (hv : inP P v) (he : e < 2147483648) (hl : l < 2147483648) : pwO v (tmO (ivO (Int32.ofNat e) (Int32.ofNat P)) (Int32.ofNat l) (Int32.ofNat P - 1)) (Int32.ofNat P) = pwM (pwM v (ivM (Int32.ofNat e) P) (Int32.ofNat P)) (Int32.ofNat l) (Int32.ofNat P) ∧ inP P (pwO v (tmO (ivO (Int32.ofNat e) (Int32.ofNat P)) (Int32.ofNat l) (Int32.ofNat P - 1)) (Int32.ofNat P)) := by
  obtain ⟨i1, i2⟩ := inv_nat hP he
  obtain ⟨x, rfl, h0, hx⟩ := hv
  obtain ⟨p1, p2, p3, p4, p5⟩ := hP
  rw [i1, i2]
  have hi : e ^ ((P - 1) / 2 - 2) % (P - 1) < P - 1 := Nat.mod_lt _ (by omega)
  generalize e ^ ((P - 1) / 2 - 2) % (P - 1) = i at hi
  have ht : i * l % (P - 1) < P - 1 := Nat.mod_lt _ (by omega)
  rw [nb_pred (by omega), tmO_nat (by omega) hl (by omega) (by omega), pwO_nat (by omega) p2 (by omega) (by omega), pwM_nat (by omega) p2 (by omega) (by omega)]
  have hm : x ^ i % P < P := Nat.mod_lt _ (by omega)
  rw [pwM_nat (by omega) p2 (by omega) hl, ← pow_red p4 (nd h0 hx), ← Nat.pow_mod, ← Nat.pow_mul]
  exact ⟨rfl, _, rfl, pow_in p4 (nd h0 hx) _, Nat.mod_lt _ (by omega)⟩
theorem spo_in {P : Nat} (hP : TP P) {m : Int64} {j : Nat} {v : Int32} (hv : inP P v) : inP P (spo P m j v) := by
  obtain ⟨x, rfl, h0, hx⟩ := hv
  obtain ⟨p1, p2, _⟩ := hP
  unfold spo
  split
  · rw [nb_pred (by omega)]
    by_cases e : x = P - 1
    · rw [if_pos (by rw [e])]; exact ⟨1, rfl, by omega, by omega⟩
    · rw [if_neg (fun h => e ((nb_inj (by omega) (by omega)).mp h)), sm_suc]; exact ⟨x + 1, rfl, by omega, by omega⟩
  · exact ⟨x, rfl, h0, hx⟩
