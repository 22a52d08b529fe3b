/-! exponents and locks -/
theorem ui_ui (I : MI) (q i : Nat) (x y : Int32) : ui (ui I q i x) q i y = ui I q i y := by
  funext a b
  rw [ui_at, ui_at, ui_at]
  by_cases h : a = q ∧ b = i
  · rw [if_pos h, if_pos h]
  · rw [if_neg h, if_neg h, if_neg h]
theorem uj_uj (J : MJ) (q i : Nat) (x y : Int64) : uj (uj J q i x) q i y = uj J q i y := by
  funext a b
  rw [uj_at, uj_at, uj_at]
  by_cases h : a = q ∧ b = i
  · rw [if_pos h, if_pos h]
  · rw [if_neg h, if_neg h, if_neg h]
theorem sm_i2 {j N : Nat} (hj : j < N) (hN : N < 100000) : ¬ (Int32.ofNat j < 0 ∨ N ≤ j) := by have := sm_in hj hN; rwa [sm_nat (by omega)] at this
theorem q_lt {x y : Nat} (hx : x < 2147483648) (hy : y < 2147483648) : (Int32.ofNat x < Int32.ofNat y) ↔ x < y := by
  rw [← Int32.not_le, nb_le hy hx]; omega
theorem q_sub {x y : Nat} (h : y ≤ x) : Int32.ofNat x - Int32.ofNat y = Int32.ofNat (x - y) := (Int32.ofNat_sub x y h).symm
theorem q_bit {x : Nat} (hx : x < 2147483648) : (Int32.ofNat (x % 2) = 1) ↔ x % 2 = 1 := nb_inj (y := 1) (by omega) (by omega)
theorem XN_dec (P e : Nat) : XN P e ∨ ¬ XN P e := Classical.em _
theorem XP_nat {P e : Nat} (hP : P < 2147483648) (he : e < 2147483648) : XP P (Int32.ofNat e) ↔ XN P e := by
  refine ⟨fun ⟨x, h1, h2⟩ => ?_, fun h => ⟨e, rfl, h⟩⟩
  have := (nb_inj he (by obtain ⟨_, h, _⟩ := h2; omega)).mp h1
  rw [this]; exact h2
theorem N_isExp {P : Nat} (hP : TP P) (n : Nat) (x : Int32) : (XP P x ∧ ff_N_isExponent n x (Int32.ofNat P) = some 1) ∨ (¬ XP P x ∧ ff_N_isExponent n x (Int32.ofNat P) = some 0) := by
  obtain ⟨p1, p2, p3, _⟩ := hP
  unfold ff_N_isExponent
  by_cases h1 : x < 3
  · rw [if_pos h1]
    refine Or.inr ⟨fun ⟨e, h, g⟩ => ?_, rfl⟩
    rw [h] at h1
    have := (q_lt (y := 3) (by obtain ⟨_, h, _⟩ := g; omega) (by omega)).mp h1
    have := g.1
    omega
  · obtain ⟨e, rfl, he⟩ := q_nn (a := x) (fun h => h1 (Int32.lt_trans h (by decide)))
    have h1 : 3 ≤ e := Nat.not_lt.mp fun h => h1 ((q_lt (y := 3) he (by omega)).mpr h)
    rw [if_neg (by rw [show (3 : Int32) = Int32.ofNat 3 from rfl, q_lt he (by omega)]; omega), show Int32.ofNat P - 2 = Int32.ofNat (P - 2) from q_sub (x := P) (y := 2) (by omega), XP_nat p2 he]
    unfold XN
    by_cases h2 : P - 2 < e
    · rw [if_pos ((q_lt (by omega) he).mpr h2)]
      exact Or.inr ⟨by omega, rfl⟩
    · rw [if_neg (by rw [q_lt (by omega) he]; exact h2)]
      dsimp only [tl]
      rw [nb_odd he]
      by_cases h3 : e % 2 = 1
      · rw [if_pos ((q_bit he).mpr h3), show (Int32.ofNat P - 1) / 2 = Int32.ofNat ((P - 1) / 2) by rw [nb_pred (by omega), nb_half (by omega)]]
        by_cases h4 : e = (P - 1) / 2
        · rw [if_pos ((nb_inj he (by omega)).mpr h4)]; exact Or.inr ⟨by omega, rfl⟩
        · rw [if_neg (by rw [nb_inj he (by omega)]; exact h4)]; exact Or.inl ⟨by omega, rfl⟩
      · rw [if_neg (by rw [q_bit he]; exact h3)]; exact Or.inr ⟨by omega, rfl⟩
theorem M_isExp {P : Nat} (hP : TP P) (n : Nat) {I : MI} {J : MJ} (h1 : I 0 1 = Int32.ofNat P) (h2 : I 0 2 = Int32.ofNat ((P - 1) / 2)) (x : Int32) : ff_M_isExponent n I J x = ff_N_isExponent n x (Int32.ofNat P) := by
  obtain ⟨p1, p2, p3, _⟩ := hP
  unfold ff_M_isExponent ff_N_isExponent
  rw [h1, h2, show (Int32.ofNat P - 1) / 2 = Int32.ofNat ((P - 1) / 2) by rw [nb_pred (by omega), nb_half (by omega)]]
theorem N_isExp1 {P : Nat} (hP : TP P) (n : Nat) {e : Nat} (h : XN P e) : ff_N_isExponent n (Int32.ofNat e) (Int32.ofNat P) = some 1 := by
  rcases N_isExp hP n (Int32.ofNat e) with g | g
  · exact g.2
  · exact absurd ⟨e, rfl, h⟩ g.1
theorem N_isExp0 {P : Nat} (hP : TP P) (n : Nat) {e : Nat} (he : e < 2147483648) (h : ¬ XN P e) : ff_N_isExponent n (Int32.ofNat e) (Int32.ofNat P) = some 0 := by
  rcases N_isExp hP n (Int32.ofNat e) with g | g
  · exact absurd ((XP_nat hP.2.1 he).mp g.1) h
  · exact g.2
theorem N_abv {P : Nat} (hP : TP P) {e : Nat} (h : XN P e) : Ev (fun n => ff_N_exponentAbove n (Int32.ofNat e) (Int32.ofNat P)) (Int32.ofNat (abN P e)) := by
  have hP' := hP
  obtain ⟨p1, p2, p3, _⟩ := hP'
  unfold ff_N_exponentAbove tl abN
  have h' := h
  obtain ⟨x1, x2, x3, x4⟩ := h'
  rw [sm_suc]
  have stop : ∀ y, P - 2 < y → y < 2147483648 → Ev (fun n => ff_N_exponentAbove_4 n (Int32.ofNat e) (Int32.ofNat P) (Int32.ofNat y)) 3 := fun y hy hy2 => Ev.suc (Ev.now fun n => by
    rw [ff_N_exponentAbove_4, show Int32.ofNat P - 2 = Int32.ofNat (P - 2) from q_sub (x := P) (y := 2) (by omega), if_pos ((q_lt (by omega) hy2).mpr hy)])
  have hit : ∀ y, XN P y → Ev (fun n => ff_N_exponentAbove_4 n (Int32.ofNat e) (Int32.ofNat P) (Int32.ofNat y)) (Int32.ofNat y) := fun y hy => Ev.suc (Ev.now fun n => by
    have := hy.2.1
    rw [ff_N_exponentAbove_4, show Int32.ofNat P - 2 = Int32.ofNat (P - 2) from q_sub (x := P) (y := 2) (by omega), if_neg (by rw [q_lt (by omega) (by omega)]; omega), N_isExp1 hP _ hy, Option.bind_some, if_neg (by decide)])
  have skip : ∀ y r, ¬ XN P y → y + 2 ≤ P → Ev (fun n => ff_N_exponentAbove_4 n (Int32.ofNat e) (Int32.ofNat P) (Int32.ofNat (y + 1))) r → Ev (fun n => ff_N_exponentAbove_4 n (Int32.ofNat e) (Int32.ofNat P) (Int32.ofNat y)) r := fun y r hy hy2 hr => Ev.step (fun n => by
    rw [ff_N_exponentAbove_4, show Int32.ofNat P - 2 = Int32.ofNat (P - 2) from q_sub (x := P) (y := 2) (by omega), if_neg (by rw [q_lt (by omega) (by omega)]; omega), N_isExp0 hP _ (by omega) hy, Option.bind_some, if_pos rfl, sm_suc]) hr
  by_cases c1 : e + 4 ≤ P
  · rw [if_pos c1]
    refine skip _ _ (by unfold XN; omega) (by omega) ?_
    by_cases c2 : e + 2 = (P - 1) / 2
    · rw [if_pos c2]
      refine skip _ _ (by unfold XN; omega) (by omega) (skip _ _ (by unfold XN; omega) (by omega) (hit _ (by unfold XN; omega)))
    · rw [if_neg c2]
      exact hit _ (by unfold XN; omega)
  · rw [if_neg c1]
    exact stop _ (by omega) (by omega)
theorem M_abv {P : Nat} (hP : TP P) {I : MI} {J : MJ} (h1 : I 0 1 = Int32.ofNat P) (h2 : I 0 2 = Int32.ofNat ((P - 1) / 2)) {e : Nat} (h : XN P e) : Ev (fun n => ff_M_leastAbove n I J (Int32.ofNat e)) (Int32.ofNat (abN P e)) := by
  have hP' := hP
  obtain ⟨p1, p2, p3, _⟩ := hP'
  unfold ff_M_leastAbove tl abN
  have h' := h
  obtain ⟨x1, x2, x3, x4⟩ := h'
  rw [sm_suc]
  have stop : ∀ y, P - 2 < y → y < 2147483648 → Ev (fun n => ff_M_leastAbove_4 I J n (Int32.ofNat e) (Int32.ofNat y)) 3 := fun y hy hy2 => Ev.suc (Ev.now fun n => by
    have g : Int32.ofNat (P - 2) < Int32.ofNat y := (q_lt (by omega) hy2).mpr hy
    rw [ff_M_leastAbove_4, ff_M_leastAbove_28, h1, show Int32.ofNat P - 2 = Int32.ofNat (P - 2) from q_sub (x := P) (y := 2) (by omega), if_pos g, if_pos g])
  have hit : ∀ y, XN P y → Ev (fun n => ff_M_leastAbove_4 I J n (Int32.ofNat e) (Int32.ofNat y)) (Int32.ofNat y) := fun y hy => Ev.suc (Ev.now fun n => by
    have := hy.2.1
    have g : ¬ Int32.ofNat (P - 2) < Int32.ofNat y := by rw [q_lt (by omega) (by omega)]; omega
    rw [ff_M_leastAbove_4, ff_M_leastAbove_28, M_isExp hP _ h1 h2, h1, show Int32.ofNat P - 2 = Int32.ofNat (P - 2) from q_sub (x := P) (y := 2) (by omega), if_neg g, if_neg g, N_isExp1 hP _ hy, Option.bind_some, if_neg (by decide)])
  have skip : ∀ y r, ¬ XN P y → y + 2 ≤ P → Ev (fun n => ff_M_leastAbove_4 I J n (Int32.ofNat e) (Int32.ofNat (y + 1))) r → Ev (fun n => ff_M_leastAbove_4 I J n (Int32.ofNat e) (Int32.ofNat y)) r := fun y r hy hy2 hr => Ev.step (fun n => by
    rw [ff_M_leastAbove_4, M_isExp hP _ h1 h2, h1, show Int32.ofNat P - 2 = Int32.ofNat (P - 2) from q_sub (x := P) (y := 2) (by omega), if_neg (by rw [q_lt (by omega) (by omega)]; omega), N_isExp0 hP _ (by omega) hy, Option.bind_some, if_pos rfl, sm_suc]) hr
  by_cases c1 : e + 4 ≤ P
  · rw [if_pos c1]
    refine skip _ _ (by unfold XN; omega) (by omega) ?_
    by_cases c2 : e + 2 = (P - 1) / 2
    · rw [if_pos c2]
      refine skip _ _ (by unfold XN; omega) (by omega) (skip _ _ (by unfold XN; omega) (by omega) (hit _ (by unfold XN; omega)))
    · rw [if_neg c2]
      exact hit _ (by unfold XN; omega)
  · rw [if_neg c1]
    exact stop _ (by omega) (by omega)
theorem abN_XN {P e : Nat} (hP : TP P) (h : XN P e) : XN P (abN P e) ∧ abN P e ≠ e := by
  obtain ⟨p1, p2, p3, _⟩ := hP
  unfold abN XN at *
  split
  · split <;> omega
  · omega
theorem AB_nat {P e : Nat} (h : e < 2147483648) : AB P (Int32.ofNat e) = Int32.ofNat (abN P e) := by
  unfold AB
  rw [Int32.toNatClampNeg_ofNat_of_lt (by omega)]
