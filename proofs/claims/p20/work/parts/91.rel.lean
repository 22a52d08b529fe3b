/-! the relation between the memories of the object and of the reference -/
def TP (P : Nat) : Prop := 65536 < P ∧ P < 2147483648 ∧ P % 2 = 1 ∧ np_pr P ∧ np_pr ((P - 1) / 2)
def sumN (f : Nat → Nat) : Nat → Nat
  | 0 => 0
  | k + 1 => sumN f k + f k
/-- an EXPONENT of P -/
def XN (P e : Nat) : Prop := 3 ≤ e ∧ e + 2 ≤ P ∧ e % 2 = 1 ∧ e ≠ (P - 1) / 2
def XP (P : Nat) (x : Int32) : Prop := ∃ e : Nat, x = Int32.ofNat e ∧ XN P e
/-- the EXPONENT above -/
def abN (P e : Nat) : Nat := if e + 4 ≤ P then (if e + 2 = (P - 1) / 2 then e + 4 else e + 2) else 3
def AB (P : Nat) (x : Int32) : Int32 := Int32.ofNat (abN P x.toNatClampNeg)
def MKs (x y : Int64) (k : Int32) : Int64 := x ^^^ ((Int64.toUInt64 y >>> ((Int32.toInt64 k).toUInt64 &&& Int64.toUInt64 63)).toInt64)
def MK (e : Int32) (o l : Int64) : Int64 :=
  let y2 := MKs (Int32.toInt64 e) (Int32.toInt64 e) 29 * (-4658895280553007687 : Int64) + o
  let y3 := MKs y2 y2 32 * (-7723592293110705685 : Int64) + l
  let y4 := MKs y3 y3 29 * (-4658895280553007687 : Int64)
  MKs y4 y4 32
def RS (s ph t P b a : Nat) (I I' : MI) : Prop :=
  I 0 2 = Int32.ofNat s ∧ I' 0 3 = Int32.ofNat s ∧ s ≤ 4 ∧ I 0 1 = Int32.ofNat ph ∧ I' 0 4 = Int32.ofNat ph ∧ ph ≤ 6 ∧ I 0 0 = Int32.ofNat P ∧ I' 0 1 = Int32.ofNat P ∧ (P ≠ 0 → TP P ∧ I' 0 2 = Int32.ofNat ((P - 1) / 2) ∧ I' 0 20 = Int32.ofNat t) ∧ I 0 4 = Int32.ofNat t ∧ (ph ≤ 1 → t = 0) ∧ (ph = 2 → t < s) ∧ (ph = 3 → s ≤ t ∧ t < 2 * s) ∧ (4 ≤ ph → t = 2 * s) ∧ (ph ≠ 0 → P ≠ 0 ∧ 2 ≤ s) ∧ I 0 7 = I' 0 31 ∧ ((b = 0 ∧ I' 0 30 = 0 ∧ I 0 7 = -1) ∨ (b = 1 ∧ I' 0 30 = 1 ∧ ph = 4 ∧ a < s ∧ I 0 7 = Int32.ofNat a))
def RB (s ph b : Nat) (c h r : Nat → Nat) (I I' : MI) : Prop :=
  (∀ k, k < s → I (15 + 6 * k) 0 = Int32.ofNat (c k) ∧ I' 1 k = Int32.ofNat (c k) ∧ I (15 + 6 * k) 1 = Int32.ofNat (h k) ∧ I' 21 k = Int32.ofNat (h k) ∧ I (15 + 6 * k) 2 = Int32.ofNat (r k) ∧ (b = 1 → I' 22 k = Int32.ofNat (r k)) ∧ (b = 0 → r k = 0) ∧ r k ≤ h k ∧ (1 ≤ ph → (I (15 + 6 * k) 3 = 0 ∧ I' 20 k = 1) ∨ (I (15 + 6 * k) 3 = 1 ∧ I' 20 k = 0)) ∧ (b = 1 → I (15 + 6 * k) 4 = I' 23 k)) ∧ sumN (fun k => c k + h k) s ≤ 100000 * s
def RQ (P k : Nat) (I : MI) (J : MJ) (I' : MI) (J' : MJ) : Prop :=
  J (15 + 6 * k) 6 = J' 3 k ∧ I (15 + 6 * k + 1) 0 = I' 4 k ∧ J (15 + 6 * k + 1) 1 = J' 5 k ∧ J (15 + 6 * k + 1) 2 = J' 6 k ∧ J' 3 k = MK (I' 4 k) (J' 5 k) (J' 6 k) ∧ XP P (I' 4 k) ∧ ∀ j, j < 52 → XP P (I (15 + 6 * k + 3) j)
def RC (s ph P : Nat) (I : MI) (J : MJ) (I' : MI) (J' : MJ) : Prop :=
  (∀ k, k < s → ((I (15 + 6 * k) 5 = 0 ∧ I' 2 k = 0) ∨ (I (15 + 6 * k) 5 = 1 ∧ I' 2 k = 1 ∧ RQ P k I J I' J')) ∧ (2 ≤ ph → I' 2 k = 1)) ∧ (ph = 0 → ∀ k, k < 4 → I' 2 k = 0)
def RD (s ph : Nat) (J : MJ) (I' : MI) (J' : MJ) : Prop :=
  1 ≤ ph → ∀ k, k < s → J (15 + 6 * k + 5) 0 = J' 10 k ∧ J (15 + 6 * k + 5) 1 = J' 11 k ∧ J (15 + 6 * k + 5) 2 = J' 12 k ∧ (J (15 + 6 * k + 5) 3 = 0 ↔ I' 13 k = 0) ∧ (J (15 + 6 * k + 5) 4 = 0 ↔ I' 14 k = 0)
def RE (LK : Nat → Int64 → Nat → Int32) (s ph P : Nat) (w : Nat → Nat → Nat) (I I' : MI) (J' : MJ) : Prop :=
  (1 ≤ ph → ∀ j, j < 52 → I 3 j = I' 18 j) ∧ (∀ k, k < s → ∀ j, j < 52 → (w k j = 0 ∧ I (15 + 6 * k + 4) j = 0 ∧ I' 19 (52 * k + j) = 0) ∨ (w k j = 1 ∧ I (15 + 6 * k + 4) j = I (15 + 6 * k + 3) j ∧ I' 19 (52 * k + j) = LK P (J' 6 k) j) ∨ (w k j = 2 ∧ I (15 + 6 * k + 4) j = AB P (I (15 + 6 * k + 3) j) ∧ I' 19 (52 * k + j) = AB P (LK P (J' 6 k) j))) ∧ (ph ≤ 3 → (∀ k, k < s → ∀ j, j < 52 → w k j = 0) ∧ ∀ i, i < 208 → I' 19 i = 0)
theorem RS_fr {s ph t P b a : Nat} {I I' I1 I1' : MI} (h : RS s ph t P b a I I') (e : ∀ y, y ≠ 8 → I1 0 y = I 0 y) (e' : ∀ y, y ≠ 0 → I1' 0 y = I' 0 y) : RS s ph t P b a I1 I1' := by
  unfold RS at *
  grind
theorem RB_fr {s ph b : Nat} {c h r : Nat → Nat} {I I' I1 I1' : MI} (g : RB s ph b c h r I I') (e : ∀ k, k < s → ∀ y, y < 5 → I1 (15 + 6 * k) y = I (15 + 6 * k) y) (e' : ∀ k, k < s → I1' 1 k = I' 1 k ∧ I1' 20 k = I' 20 k ∧ I1' 21 k = I' 21 k ∧ I1' 22 k = I' 22 k ∧ I1' 23 k = I' 23 k) : RB s ph b c h r I1 I1' := by
  unfold RB at *
  refine ⟨fun k hk => ?_, g.2⟩
  have g1 := g.1 k hk
  have e0 := e k hk 0 (by omega)
  have e1 := e k hk 1 (by omega)
  have e2 := e k hk 2 (by omega)
  have e3 := e k hk 3 (by omega)
  have e4 := e k hk 4 (by omega)
  obtain ⟨f1, f2, f3, f4, f5⟩ := e' k hk
  rw [e0, e1, e2, e3, e4, f1, f2, f3, f4, f5]
  exact g1
theorem RC_fr {s ph P : Nat} {I I' I1 I1' : MI} {J J' J1 J1' : MJ} (g : RC s ph P I J I' J') (e : ∀ k, k < s → I1 (15 + 6 * k) 5 = I (15 + 6 * k) 5 ∧ I1 (15 + 6 * k + 1) = I (15 + 6 * k + 1) ∧ I1 (15 + 6 * k + 3) = I (15 + 6 * k + 3) ∧ J1 (15 + 6 * k) 6 = J (15 + 6 * k) 6 ∧ J1 (15 + 6 * k + 1) = J (15 + 6 * k + 1)) (e' : I1' 2 = I' 2 ∧ I1' 4 = I' 4 ∧ J1' 3 = J' 3 ∧ J1' 5 = J' 5 ∧ J1' 6 = J' 6) : RC s ph P I1 J1 I1' J1' := by
  unfold RC RQ at *
  obtain ⟨f1, f2, f3, f4, f5⟩ := e'
  rw [f1, f2, f3, f4, f5]
  refine ⟨fun k hk => ?_, g.2⟩
  obtain ⟨e1, e2, e3, e4, e5⟩ := e k hk
  rw [e1, e2, e3, e4, e5]
  exact g.1 k hk
theorem RD_fr {s ph : Nat} {I' I1' : MI} {J J' J1 J1' : MJ} (g : RD s ph J I' J') (e : ∀ k, k < s → J1 (15 + 6 * k + 5) = J (15 + 6 * k + 5)) (e' : I1' 13 = I' 13 ∧ I1' 14 = I' 14 ∧ J1' 10 = J' 10 ∧ J1' 11 = J' 11 ∧ J1' 12 = J' 12) : RD s ph J1 I1' J1' := by
  unfold RD at *
  obtain ⟨f1, f2, f3, f4, f5⟩ := e'
  rw [f1, f2, f3, f4, f5]
  intro h k hk
  rw [e k hk]
  exact g h k hk
theorem RE_fr {LK : Nat → Int64 → Nat → Int32} {s ph P : Nat} {w : Nat → Nat → Nat} {I I' I1 I1' : MI} {J' J1' : MJ} (g : RE LK s ph P w I I' J') (e : I1 3 = I 3 ∧ ∀ k, k < s → I1 (15 + 6 * k + 3) = I (15 + 6 * k + 3) ∧ I1 (15 + 6 * k + 4) = I (15 + 6 * k + 4)) (e' : I1' 18 = I' 18 ∧ I1' 19 = I' 19 ∧ J1' 6 = J' 6) : RE LK s ph P w I1 I1' J1' := by
  unfold RE at *
  obtain ⟨f1, f2, f3⟩ := e'
  rw [f1, f2, f3, e.1]
  refine ⟨g.1, fun k hk => ?_, g.2.2⟩
  rw [(e.2 k hk).1, (e.2 k hk).2]
  exact g.2.1 k hk
