/-! the seal tells secrets apart -/
theorem xs_inj (k : Nat) (h1 : 0 < k) (x y : BitVec 64) (h3 : 64 ≤ 3 * k) (h : x ^^^ (x >>> k) = y ^^^ (y >>> k)) : x = y := by
  have hd : x ^^^ y = (x ^^^ y) >>> k := by
    rw [BitVec.ushiftRight_xor_distrib]
    have e : (x ^^^ (x >>> k)) ^^^ (y ^^^ (x >>> k)) = (y ^^^ (y >>> k)) ^^^ (y ^^^ (x >>> k)) := by rw [h]
    have e1 : (x ^^^ (x >>> k)) ^^^ (y ^^^ (x >>> k)) = x ^^^ y := by
      rw [BitVec.xor_comm y, BitVec.xor_assoc, ← BitVec.xor_assoc (x >>> k), BitVec.xor_self, BitVec.zero_xor]
    have e2 : (y ^^^ (y >>> k)) ^^^ (y ^^^ (x >>> k)) = (x >>> k) ^^^ (y >>> k) := by
      rw [BitVec.xor_comm y (y >>> k), BitVec.xor_assoc, ← BitVec.xor_assoc y, BitVec.xor_self, BitVec.zero_xor, BitVec.xor_comm]
    rw [← e1, e, e2]
  have h0 : x ^^^ y = 0#64 := by
    have e : x ^^^ y = (x ^^^ y) >>> (k + k + k) := by
      rw [BitVec.shiftRight_add, BitVec.shiftRight_add, ← hd, ← hd, ← hd]
    rw [e]
    apply BitVec.eq_of_getLsbD_eq
    intro i hi
    rw [BitVec.getLsbD_ushiftRight, BitVec.getLsbD_of_ge _ _ (by omega)]
    simp
  have e : (x ^^^ y) ^^^ y = 0#64 ^^^ y := by rw [h0]
  rw [BitVec.xor_assoc, BitVec.xor_self, BitVec.xor_zero, BitVec.zero_xor] at e
  exact e
theorem MKs_bv29 (x : Int64) : (MKs x x 29).toBitVec = x.toBitVec ^^^ (x.toBitVec >>> 29) := by
  unfold MKs
  rw [Int64.toBitVec_xor]
  congr 1
theorem MKs_bv32 (x : Int64) : (MKs x x 32).toBitVec = x.toBitVec ^^^ (x.toBitVec >>> 32) := by
  unfold MKs
  rw [Int64.toBitVec_xor]
  congr 1
theorem MKs_i29 {x y : Int64} (h : MKs x x 29 = MKs y y 29) : x = y := by
  rw [← Int64.toBitVec_inj]
  rw [← Int64.toBitVec_inj, MKs_bv29, MKs_bv29] at h
  exact xs_inj 29 (by decide) _ _ (by decide) h
theorem MKs_i32 {x y : Int64} (h : MKs x x 32 = MKs y y 32) : x = y := by
  rw [← Int64.toBitVec_inj]
  rw [← Int64.toBitVec_inj, MKs_bv32, MKs_bv32] at h
  exact xs_inj 32 (by decide) _ _ (by decide) h
theorem F1_inv : (-4658895280553007687 : Int64) * (-7575587736534282103 : Int64) = 1 := by decide
theorem F2_inv : (-7723592293110705685 : Int64) * (3573116690164977347 : Int64) = 1 := by decide
theorem F1_i {x y : Int64} (h : x * (-4658895280553007687 : Int64) = y * (-4658895280553007687 : Int64)) : x = y := by
  have e : x * (-4658895280553007687 : Int64) * (-7575587736534282103 : Int64) = y * (-4658895280553007687 : Int64) * (-7575587736534282103 : Int64) := by rw [h]
  rw [Int64.mul_assoc, Int64.mul_assoc, F1_inv, Int64.mul_one, Int64.mul_one] at e
  exact e
theorem F2_i {x y : Int64} (h : x * (-7723592293110705685 : Int64) = y * (-7723592293110705685 : Int64)) : x = y := by
  have e : x * (-7723592293110705685 : Int64) * (3573116690164977347 : Int64) = y * (-7723592293110705685 : Int64) * (3573116690164977347 : Int64) := by rw [h]
  rw [Int64.mul_assoc, Int64.mul_assoc, F2_inv, Int64.mul_one, Int64.mul_one] at e
  exact e
theorem addr_i {x y z : Int64} (h : x + z = y + z) : x = y := by
  have e : x + z + -z = y + z + -z := by rw [h]
  rw [Int64.add_assoc, Int64.add_assoc, Int64.add_right_neg, Int64.add_zero, Int64.add_zero] at e
  exact e
theorem MK_inj {e e' : Int32} {o o' l : Int64} (h : MK e o l = MK e' o' l) : MKs (Int32.toInt64 e) (Int32.toInt64 e) 29 * (-4658895280553007687 : Int64) + o = MKs (Int32.toInt64 e') (Int32.toInt64 e') 29 * (-4658895280553007687 : Int64) + o' := by
  unfold MK at h
  exact MKs_i32 (F2_i (addr_i (MKs_i29 (F1_i (MKs_i32 h)))))
theorem g_nat {x : Nat} (hx : x < 2147483648) : ∃ q, q < 2147483648 ∧ MKs (Int32.toInt64 (Int32.ofNat x)) (Int32.toInt64 (Int32.ofNat x)) 29 = Int64.ofNat q := by
  rw [nb_64 hx]
  refine ⟨x ^^^ (x / 536870912), ?_, ?_⟩
  · exact Nat.xor_lt_two_pow (n := 31) hx (by omega)
  · rw [← Int64.toBitVec_inj, MKs_bv29]
    show BitVec.ofNat 64 x ^^^ (BitVec.ofNat 64 x >>> 29) = BitVec.ofNat 64 (x ^^^ (x / 536870912))
    apply BitVec.eq_of_toNat_eq
    rw [BitVec.toNat_xor, BitVec.toNat_ushiftRight, BitVec.toNat_ofNat, BitVec.toNat_ofNat, Nat.mod_eq_of_lt (by omega : x < 2 ^ 64), Nat.shiftRight_eq_div_pow]
    rw [Nat.mod_eq_of_lt]
    have : x ^^^ (x / 536870912) < 2 ^ 31 := Nat.xor_lt_two_pow hx (by omega)
    omega
theorem seal_one {P : Nat} (hP : TP P) {e e' : Int32} {o o' l : Int64} (hx : XP P e) (he : e' = e ∨ e' = AB P e) (ho : o' = o ∨ o' = o + 1) (h : MK e o l = MK e' o' l) : e' = e ∧ o' = o := by
  have g := MK_inj h
  have p2 := hP.2.1
  rcases ho with ho | ho
  · rw [ho] at g
    have g := MKs_i29 (F1_i (addr_i g))
    refine ⟨?_, ho⟩
    have : e.toInt64.toInt = e'.toInt64.toInt := by rw [g]
    rw [Int32.toInt_toInt64, Int32.toInt_toInt64] at this
    exact (Int32.toInt_inj.mp this).symm
  · exfalso
    obtain ⟨x, rfl, xn⟩ := hx
    have xb := xn.2.1
    have he2 : ∃ y, e' = Int32.ofNat y ∧ y < 2147483648 := by
      rcases he with he | he
      · exact ⟨x, he, by omega⟩
      · refine ⟨abN P x, by rw [he, AB_nat (by omega)], ?_⟩
        have := (abN_XN hP xn).1.2.1
        omega
    obtain ⟨y, rfl, hy⟩ := he2
    obtain ⟨a, ha, ea⟩ := g_nat (x := x) (by omega)
    obtain ⟨b, hb, eb⟩ := g_nat hy
    rw [ea, eb, ho, Int64.add_comm o 1, ← Int64.add_assoc] at g
    have g := addr_i g
    -- a F = b F + 1
    have g2 : Int64.ofNat a * (-4658895280553007687 : Int64) * (-7575587736534282103 : Int64) = (Int64.ofNat b * (-4658895280553007687 : Int64) + 1) * (-7575587736534282103 : Int64) := by rw [g]
    rw [Int64.mul_assoc, F1_inv, Int64.mul_one, Int64.add_mul, Int64.mul_assoc, F1_inv, Int64.mul_one, Int64.one_mul] at g2
    have g3 : (Int64.ofNat a).toInt = (Int64.ofNat b + (-7575587736534282103 : Int64)).toInt := by rw [g2]
    rw [Int64.toInt_ofNat_of_lt (by omega), Int64.toInt_add, Int64.toInt_ofNat_of_lt (by omega), Int.bmod_def] at g3
    have gv : (-7575587736534282103 : Int64).toInt = (-7575587736534282103 : Int) := by decide
    rw [gv] at g3
    omega
