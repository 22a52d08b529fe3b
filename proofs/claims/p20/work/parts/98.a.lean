/-! clear, seat -/
theorem q_cl {s k : Nat} (hs : s ≤ 4) (hk : k < 5) : (Int32.ofNat s ≤ Int32.ofNat k) ↔ s ≤ k := nb_le (by omega) (by omega)
theorem sc {s : Nat} (hs : s ≤ 52) (a : Int32) : (∃ k, k < s ∧ a = Int32.ofNat k) ∨ (∀ k, k < s → a ≠ Int32.ofNat k) := by
  by_cases h : ∃ k, k < s ∧ a = Int32.ofNat k
  · exact Or.inl h
  · exact Or.inr fun k hk e => h ⟨k, hk, e⟩
theorem sc0 {s : Nat} (hs : s ≤ 52) {a : Int32} (h : ∀ k, k < s → a ≠ Int32.ofNat k) : a < 0 ∨ (¬ a < 0 ∧ Int32.ofNat s ≤ a) := by
  by_cases h0 : a < 0
  · exact Or.inl h0
  · refine Or.inr ⟨h0, ?_⟩
    obtain ⟨N, rfl, hN⟩ := q_nn h0
    rw [nb_le (by omega) hN]
    exact Nat.not_lt.mp fun h1 => h N h1 rfl
theorem O_seat1 {I : MI} {s k : Nat} (n : Nat) (J : MJ) (h : I 0 2 = Int32.ofNat s) (hs : s ≤ 4) (hk : k < s) : ff_O_isSeated n I J (Int32.ofNat k) = some 1 := by
  unfold ff_O_isSeated
  rw [if_neg (sm_pos (by omega)), h, if_neg (by rw [q_cl hs (by omega)]; omega)]
theorem O_seat0 {I : MI} {s : Nat} (n : Nat) (J : MJ) (h : I 0 2 = Int32.ofNat s) (hs : s ≤ 4) {a : Int32} (ha : ∀ k, k < s → a ≠ Int32.ofNat k) : ff_O_isSeated n I J a = some 0 := by
  unfold ff_O_isSeated
  rcases sc0 (by omega) ha with g | ⟨g, g2⟩
  · rw [if_pos g]
  · rw [if_neg g, h, if_pos g2]
theorem M_seat1 {I : MI} {s k : Nat} (n : Nat) (J : MJ) (h : I 0 3 = Int32.ofNat s) (hs : s ≤ 4) (hk : k < s) : ff_M_isPlayer n I J (Int32.ofNat k) = some 1 := by
  unfold ff_M_isPlayer
  rw [if_neg (sm_pos (by omega)), h, if_neg (by rw [q_cl hs (by omega)]; omega)]
theorem M_seat0 {I : MI} {s : Nat} (n : Nat) (J : MJ) (h : I 0 3 = Int32.ofNat s) (hs : s ≤ 4) {a : Int32} (ha : ∀ k, k < s → a ≠ Int32.ofNat k) : ff_M_isPlayer n I J a = some 0 := by
  unfold ff_M_isPlayer
  rcases sc0 (by omega) ha with g | ⟨g, g2⟩
  · rw [if_pos g]
  · rw [if_neg g, h, if_pos g2]
theorem O_pl1 {j : Nat} (n : Nat) (hj : j < 52) : ff_O_isPlace n (Int32.ofNat j) = some 1 := by
  unfold ff_O_isPlace
  rw [if_neg (sm_pos (by omega)), if_neg (q52 hj)]
theorem O_pl0 (n : Nat) {a : Int32} (ha : ∀ k, k < 52 → a ≠ Int32.ofNat k) : ff_O_isPlace n a = some 0 := by
  unfold ff_O_isPlace
  rcases sc0 (Nat.le_refl _) ha with g | ⟨g, g2⟩
  · rw [if_pos g]
  · rw [if_neg g, if_pos (show (52 : Int32) ≤ a from g2)]
theorem M_pl1 {j : Nat} (n : Nat) (hj : j < 52) : ff_M_isPlace n (Int32.ofNat j) = some 1 := O_pl1 n hj
theorem M_pl0 (n : Nat) {a : Int32} (ha : ∀ k, k < 52 → a ≠ Int32.ofNat k) : ff_M_isPlace n a = some 0 := O_pl0 n ha
theorem A_fill (I : MI) (J : MJ) (q : Nat) (v : Int32) : ∃ r, Ev (fun n => ff_A_fill n I J q v) r ∧ (∀ j, j < 52 → r.1 q j = v) ∧ (∀ x, x ≠ q → r.1 x = I x) ∧ r.2 = J := by
  refine Ev.loop0 (α := MI) (fun n x j => ff_A_fill_5 n x J q v (Int32.ofNat j) 52) 52 (fun j x => (∀ i, i < j → x q i = v) ∧ ∀ y, y ≠ q → x y = I y) _ I ⟨fun i hi => absurd hi (by omega), fun _ _ => rfl⟩ ?_ ?_
  · rintro I1 ⟨a1, a2⟩
    exact ⟨(I1, J), Ev.suc (Ev.now fun n => by rw [ff_A_fill_5, if_pos q52e]), a1, a2, rfl⟩
  · rintro j I1 hj ⟨a1, a2⟩
    refine Or.inr ⟨ui I1 q j v, ⟨fun i hi => ?_, fun y hy => ?_⟩, 0, fun n _ => ?_⟩
    · rw [ui_at]
      by_cases e : i = j
      · rw [if_pos ⟨rfl, e⟩]
      · rw [if_neg (fun h => e h.2)]; exact a1 i (by omega)
    · rw [ui_else _ _ _ hy]; exact a2 y hy
    · rw [ff_A_fill_5, if_neg (q52 hj), if_pos (sm_in hj (by omega)), sm_nat (by omega), sm_suc]
theorem q5 {j : Nat} (h : j < 5) : ¬ (5 : Int32) ≤ Int32.ofNat j := fun g => by have := (nb_le (x := 5) (by omega) (by omega)).mp g; omega
theorem q4 {j : Nat} (h : j < 4) : ¬ (4 : Int32) ≤ Int32.ofNat j := fun g => by have := (nb_le (x := 4) (by omega) (by omega)).mp g; omega
theorem q208 {j : Nat} (h : j < 208) : ¬ (208 : Int32) ≤ Int32.ofNat j := fun g => by have := (nb_le (x := 208) (by omega) (by omega)).mp g; omega
theorem A_fill2 (I : MI) (J : MJ) (q : Nat) (v : Int64) : ∃ r, Ev (fun n => ff_A_fill2 n I J q v) r ∧ (∀ j, j < 5 → r.2 q j = v) ∧ (∀ x, x ≠ q → r.2 x = J x) ∧ r.1 = I := by
  refine Ev.loop0 (α := MJ) (fun n x j => ff_A_fill2_6 n I x q v (Int32.ofNat j) 5) 5 (fun j x => (∀ i, i < j → x q i = v) ∧ ∀ y, y ≠ q → x y = J y) _ J ⟨fun i hi => absurd hi (by omega), fun _ _ => rfl⟩ ?_ ?_
  · rintro J1 ⟨a1, a2⟩
    exact ⟨(I, J1), Ev.suc (Ev.now fun n => by rw [ff_A_fill2_6, if_pos (by decide)]), a1, a2, rfl⟩
  · rintro j J1 hj ⟨a1, a2⟩
    refine Or.inr ⟨uj J1 q j v, ⟨fun i hi => ?_, fun y hy => ?_⟩, 0, fun n _ => ?_⟩
    · rw [uj_at]
      by_cases e : i = j
      · rw [if_pos ⟨rfl, e⟩]
      · rw [if_neg (fun h => e h.2)]; exact a1 i (by omega)
    · rw [uj_else _ _ _ hy]; exact a2 y hy
    · rw [ff_A_fill2_6, if_neg (q5 hj), if_pos (sm_in hj (by omega)), sm_nat (by omega), sm_suc]
def bh (y : Nat) (v : Int32) : Int32 := if y = 1 ∨ y = 2 ∨ y = 3 ∨ y = 5 ∨ y = 7 then 0 else v
theorem P_begin (I : MI) (J : MJ) (q : Nat) : ∃ r, Ev (fun n => ff_P_beginHand n I J q) r ∧ (∀ y, r.1 q y = bh y (I q y)) ∧ (∀ j, j < 52 → r.1 (q + 4) j = 0) ∧ (∀ x, x ≠ q → x ≠ q + 4 → r.1 x = I x) ∧ (∀ j, j < 5 → r.2 (q + 5) j = 0) ∧ ∀ x, x ≠ q + 5 → r.2 x = J x := by
  obtain ⟨r1, h1, h2, h3, h4⟩ := A_fill (ui (ui (ui (ui (ui I q 1 0) q 2 0) q 3 0) q 5 0) q 7 0) J (q + 4) 0
  obtain ⟨r2, g1, g2, g3, g4⟩ := A_fill2 r1.1 r1.2 (q + 5) 0
  refine ⟨r2, ?_, fun y => ?_, fun j hj => ?_, fun x hx hx4 => ?_, g2, fun x hx => ?_⟩
  · unfold ff_P_beginHand
    refine Ev.bind h1 ?_
    refine Ev.bind g1 ?_
    exact Ev.pure _
  · rw [g4, h3 q (by omega)]
    simp only [ui_at, bh]
    grind
  · rw [g4]; exact h2 j hj
  · rw [g4, h3 x hx4, ui_else _ _ _ hx, ui_else _ _ _ hx, ui_else _ _ _ hx, ui_else _ _ _ hx, ui_else _ _ _ hx]
  · rw [g3 x hx, h4]
theorem M_clr73 (I : MI) (J : MJ) : ∃ r, Ev (fun n => ff_M_clear_73 n I J 0) r ∧ (∀ j, j < 208 → r.1 19 j = 0) ∧ (∀ x, x ≠ 19 → r.1 x = I x) ∧ r.2 = J := by
  refine Ev.loop0 (α := MI) (fun n x j => ff_M_clear_73 n x J (Int32.ofNat j)) 208 (fun j x => (∀ i, i < j → x 19 i = 0) ∧ ∀ y, y ≠ 19 → x y = I y) _ I ⟨fun i hi => absurd hi (by omega), fun _ _ => rfl⟩ ?_ ?_
  · rintro I1 ⟨a1, a2⟩
    exact ⟨(I1, J), Ev.suc (Ev.now fun n => by rw [ff_M_clear_73, if_pos (by decide)]), a1, a2, rfl⟩
  · rintro j I1 hj ⟨a1, a2⟩
    refine Or.inr ⟨ui I1 19 j 0, ⟨fun i hi => ?_, fun y hy => ?_⟩, 0, fun n _ => ?_⟩
    · rw [ui_at]
      by_cases e : i = j
      · rw [if_pos ⟨rfl, e⟩]
      · rw [if_neg (fun h => e h.2)]; exact a1 i (by omega)
    · rw [ui_else _ _ _ hy]; exact a2 y hy
    · rw [ff_M_clear_73, if_neg (q208 hj), if_pos (sm_in hj (by omega)), sm_nat (by omega), sm_suc]
theorem M_clr (I : MI) (J : MJ) : ∃ r, Ev (fun n => ff_M_clear n I J) r ∧ (∀ k, k < 4 → r.1 2 k = 0) ∧ (∀ j, j < 208 → r.1 19 j = 0) ∧ r.1 0 = (ui (ui (ui (ui (ui (ui I 0 0 0) 0 1 0) 0 3 0) 0 4 0) 0 30 0) 0 31 (-1)) 0 := by
  generalize hX : ui (ui (ui (ui (ui (ui I 0 0 0) 0 1 0) 0 3 0) 0 4 0) 0 30 0) 0 31 (-1) = X
  have g := Ev.loop0 (α := MI) (fun n x j => ff_M_clear_32 n x J (Int32.ofNat j)) 4 (fun j x => (∀ i, i < j → x 2 i = 0) ∧ x 0 = X 0) (fun r => (∀ k, k < 4 → r.1 2 k = 0) ∧ (∀ j, j < 208 → r.1 19 j = 0) ∧ r.1 0 = X 0) X ⟨fun i hi => absurd hi (by omega), rfl⟩ ?_ ?_
  · unfold ff_M_clear; rw [hX]; exact g
  · rintro I1 ⟨a1, a2⟩
    obtain ⟨r, h1, h2, h3, h4⟩ := M_clr73 I1 J
    refine ⟨r, Ev.step (fun n => by rw [ff_M_clear_32, if_pos (by decide)]) h1, fun k hk => by rw [h3 2 (by decide)]; exact a1 k hk, h2, by rw [h3 0 (by decide)]; exact a2⟩
  · rintro j I1 hj ⟨a1, a2⟩
    refine Or.inr ⟨ui (ui (ui (ui I1 2 j 0) 21 j 0) 22 j 0) 20 j 0, ⟨fun i hi => ?_, ?_⟩, 0, fun n _ => ?_⟩
    · simp only [ui_at]
      grind
    · rw [ui_else _ _ _ (by decide), ui_else _ _ _ (by decide), ui_else _ _ _ (by decide), ui_else _ _ _ (by decide)]; exact a2
    · have hb := sm_in (j := j) (N := 4) hj (by omega)
      rw [ff_M_clear_32, if_neg (q4 hj), if_pos hb, if_pos hb, if_pos hb, if_pos hb, sm_nat (by omega), sm_suc]
theorem call_clear {I : MI} {J : MJ} {I' : MI} {J' : MJ} (g : R I J I' J') : ∃ r r', Ev (fun n => ff_O_clear n I J) r ∧ Ev (fun n => ff_M_clear n I' J') r' ∧ R r.1 r.2 r'.1 r'.2 := by
  obtain ⟨r', h1, h2, h3, h4⟩ := M_clr I' J'
  refine ⟨_, r', Ev.now fun n => rfl, h1, 0, 0, 0, 0, 0, 0, fun _ => 0, fun _ => 0, fun _ => 0, fun _ => 0, fun _ _ => 0, ?_, ?_, ?_, ?_, ?_, ?_, ?_⟩
  · unfold RS
    rw [h4]
    simp [ui_at]
  · exact ⟨fun k hk => absurd hk (by omega), Nat.le_refl _⟩
  · exact ⟨fun k hk => absurd hk (by omega), fun _ k hk => h2 k hk⟩
  · exact fun h => absurd h (by decide)
  · exact ⟨fun h => absurd h (by decide), fun k hk => absurd hk (by omega), fun _ => ⟨fun k hk => absurd hk (by omega), h3⟩⟩
  · exact ⟨fun u hu => absurd hu (by omega), fun _ => ⟨fun k hk => absurd hk (by omega), fun hp => absurd rfl hp⟩⟩
  · exact ⟨fun h => absurd h (by decide), fun h => absurd h (by decide)⟩
