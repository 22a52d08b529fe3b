/-! deal -/
theorem O_cwc {s : Nat} {c : Nat → Nat} {I : MI} (J : MJ) (hs : I 0 2 = Int32.ofNat s) (s4 : s ≤ 4) (hc : ∀ k, k < s → I (15 + 6 * k) 0 = Int32.ofNat (c k) ∧ c k ≤ 400000) : ∃ v, Ev (fun n => ff_O_countWithChips n I J) v ∧ (Int32.ofNat s ≤ v ↔ ∀ k, k < s → 0 < c k) := by
  refine Ev.loop0 (α := Int32) (fun n x j => ff_O_countWithChips_4 I J n x (Int32.ofNat j)) s (fun j x => ∃ q, x = Int32.ofNat q ∧ q ≤ j ∧ (j ≤ q ↔ ∀ k, k < j → 0 < c k)) _ 0 ⟨0, rfl, by omega, fun _ k hk => absurd hk (by omega), fun _ => Nat.zero_le _⟩ ?_ ?_
  · rintro x ⟨q, rfl, q1, q2⟩
    refine ⟨_, Ev.suc (Ev.now fun n => by rw [ff_O_countWithChips_4, hs, if_pos ((q_cl s4 (by omega)).mpr (Nat.le_refl _))]), ?_⟩
    rw [nb_le (by omega) (by omega)]; exact q2
  · rintro j x hj ⟨q, rfl, q1, q2⟩
    obtain ⟨e1, e2⟩ := hc j hj
    by_cases z : c j = 0
    · refine Or.inr ⟨Int32.ofNat q, ⟨q, rfl, by omega, ?_⟩, 0, fun n _ => ?_⟩
      · exact ⟨fun h => by omega, fun h => by have := h j (by omega); omega⟩
      · rw [ff_O_countWithChips_4, hs, if_neg (by rw [q_cl s4 (by omega)]; omega), if_pos (sm_in (N := 4) (by omega) (by omega)), sm_nat (by omega), e1, if_pos ((q_le0 (by omega)).mpr z), sm_suc]
    · refine Or.inr ⟨Int32.ofNat (q + 1), ⟨q + 1, rfl, by omega, ?_⟩, 0, fun n _ => ?_⟩
      · constructor
        · intro h k hk
          by_cases e : k = j
          · subst e; omega
          · exact q2.mp (by omega) k (by omega)
        · intro h
          have := q2.mpr (fun k hk => h k (by omega))
          omega
      · rw [ff_O_countWithChips_4, hs, if_neg (by rw [q_cl s4 (by omega)]; omega), if_pos (sm_in (N := 4) (by omega) (by omega)), sm_nat (by omega), e1, if_neg (by rw [q_le0 (by omega)]; exact z), sm_suc, sm_suc]
theorem O_deal48 {s : Nat} (I : MI) (J : MJ) (hs : I 0 2 = Int32.ofNat s) (s4 : s ≤ 4) : ∃ r, Ev (fun n => ff_O_deal_48 n I J 0) r ∧ r.1 = 1 ∧ (∀ k, k < s → (∀ y, r.2.1 (15 + 6 * k) y = bh y (I (15 + 6 * k) y)) ∧ (∀ j, j < 52 → r.2.1 (15 + 6 * k + 4) j = 0) ∧ (∀ j, j < 5 → r.2.2 (15 + 6 * k + 5) j = 0)) ∧ (∀ j, j < 52 → r.2.1 3 j = -2) ∧ r.2.1 0 4 = 0 ∧ r.2.1 0 1 = 1 ∧ (∀ y, y ≠ 4 → y ≠ 1 → r.2.1 0 y = I 0 y) ∧ r.2.1 6 = I 6 := by
  refine Ev.loop0 (α := MI × MJ) (fun n x j => ff_O_deal_48 n x.1 x.2 (Int32.ofNat j)) s (fun j x => (∀ k, k < j → (∀ y, x.1 (15 + 6 * k) y = bh y (I (15 + 6 * k) y)) ∧ (∀ j, j < 52 → x.1 (15 + 6 * k + 4) j = 0) ∧ (∀ j, j < 5 → x.2 (15 + 6 * k + 5) j = 0)) ∧ (∀ k, j ≤ k → x.1 (15 + 6 * k) = I (15 + 6 * k)) ∧ x.1 0 = I 0 ∧ x.1 6 = I 6) _ (I, J) ⟨fun k hk => absurd hk (by omega), fun _ _ => rfl, rfl, rfl⟩ ?_ ?_
  · rintro ⟨I1, J1⟩ ⟨a1, a2, a3, a6⟩
    have a6 : I1 6 = I 6 := a6
    obtain ⟨q, q1, q2, q3, q4⟩ := A_fill I1 J1 3 (-2)
    have a3 : I1 0 = I 0 := a3
    refine ⟨(1, ui (ui q.1 0 4 0) 0 1 1, q.2), ?_, rfl, fun k hk => ?_, fun j hj => ?_, ?_, ?_, fun y h1 h2 => ?_, by dsimp only; rw [ui_else _ _ _ (by decide), ui_else _ _ _ (by decide), q3 6 (by decide), a6]⟩
    · refine Ev.step (g := fun n => (ff_A_fill n I1 J1 3 (-2)).bind fun r2 => some ((1 : Int32), ui (ui r2.1 0 4 0) 0 1 1, r2.2)) (fun n => ?_) (Ev.bind q1 (Ev.pure _))
      dsimp only
      rw [ff_O_deal_48, a3, hs, if_pos ((q_cl s4 (by omega)).mpr (Nat.le_refl _))]
    · obtain ⟨b1, b2, b3⟩ := a1 k hk
      dsimp only at b1 b2 b3 ⊢
      rw [ui_else _ _ _ (by omega), ui_else _ _ _ (by omega), ui_else _ _ _ (by omega), ui_else _ _ _ (by omega), q3 _ (by omega), q3 _ (by omega), q4]
      exact ⟨b1, b2, b3⟩
    · dsimp only
      rw [ui_else _ _ _ (by omega), ui_else _ _ _ (by omega)]; exact q2 j hj
    · dsimp only
      rw [ui_at, if_neg (by omega), ui_at, if_pos ⟨rfl, rfl⟩]
    · dsimp only
      rw [ui_at, if_pos ⟨rfl, rfl⟩]
    · dsimp only
      rw [ui_at, if_neg (by omega), ui_at, if_neg (by omega), q3 0 (by decide), a3]
  · rintro j ⟨I1, J1⟩ hj ⟨a1, a2, a3, a6⟩
    have a6 : I1 6 = I 6 := a6
    have a3 : I1 0 = I 0 := a3
    have a2 : ∀ k, j ≤ k → I1 (15 + 6 * k) = I (15 + 6 * k) := a2
    obtain ⟨q, ⟨N, q1⟩, q2, q3, q4, q5, q6⟩ := P_begin I1 J1 (15 + 6 * j)
    refine Or.inr ⟨q, ⟨fun k hk => ?_, fun k hk => ?_, ?_, by rw [q4 6 (by omega) (by omega)]; exact a6⟩, N, fun n hn => ?_⟩
    · by_cases e : k = j
      · subst e
        exact ⟨fun y => by rw [q2 y, a2 k (Nat.le_refl _)], q3, q5⟩
      · obtain ⟨b1, b2, b3⟩ := a1 k (by omega)
        dsimp only at b1 b2 b3
        rw [q4 _ (by omega) (by omega), q4 _ (by omega) (by omega), q6 _ (by omega)]
        exact ⟨b1, b2, b3⟩
    · rw [q4 _ (by omega) (by omega)]; exact a2 k (by omega)
    · rw [q4 _ (by omega) (by omega)]; exact a3
    · dsimp only
      have q1 : ff_P_beginHand n I1 J1 (15 + 6 * j) = some q := q1 n hn
      rw [ff_O_deal_48, a3, hs, if_neg (by rw [q_cl s4 (by omega)]; omega), if_pos (sm_in (N := 4) (by omega) (by omega)), sm_nat (by omega), q1, Option.bind_some, sm_suc]
theorem M_deal209 (I : MI) (J : MJ) (v : Int32) : ∃ r, Ev (fun n => ff_M_deal_209 n I J v 0) r ∧ r.1 = 1 ∧ (∀ j, j < 208 → r.2.1 19 j = 0) ∧ (∀ x, x ≠ 19 → r.2.1 x = I x) ∧ r.2.2 = J := by
  refine Ev.loop0 (α := MI) (fun n x j => ff_M_deal_209 n x J v (Int32.ofNat j)) 208 (fun j x => (∀ i, i < j → x 19 i = 0) ∧ ∀ y, y ≠ 19 → x y = I y) _ I ⟨fun i hi => absurd hi (by omega), fun _ _ => rfl⟩ ?_ ?_
  · rintro I1 ⟨a1, a2⟩
    exact ⟨(1, I1, J), Ev.suc (Ev.now fun n => by rw [ff_M_deal_209, if_pos (by decide)]), rfl, a1, a2, rfl⟩
  · rintro j I1 hj ⟨a1, a2⟩
    refine Or.inr ⟨ui I1 19 j 0, ⟨fun i hi => ?_, fun y hy => ?_⟩, 0, fun n _ => ?_⟩
    · rw [ui_at]
      by_cases e : i = j
      · rw [if_pos ⟨rfl, e⟩]
      · rw [if_neg (fun h => e h.2)]; exact a1 i (by omega)
    · rw [ui_else _ _ _ hy]; exact a2 y hy
    · rw [ff_M_deal_209, if_neg (q208 hj), if_pos (sm_in hj (by omega)), sm_nat (by omega), sm_suc]
theorem M_deal187 (I : MI) (J : MJ) (v : Int32) : ∃ r, Ev (fun n => ff_M_deal_187 n I J v 0) r ∧ r.1 = 1 ∧ (∀ j, j < 208 → r.2.1 19 j = 0) ∧ (∀ j, j < 52 → r.2.1 18 j = -2) ∧ (∀ x, x ≠ 19 → x ≠ 18 → r.2.1 x = I x) ∧ r.2.2 = J := by
  refine Ev.loop0 (α := MI) (fun n x j => ff_M_deal_187 n x J v (Int32.ofNat j)) 52 (fun j x => (∀ i, i < j → x 18 i = -2) ∧ ∀ y, y ≠ 18 → x y = I y) _ I ⟨fun i hi => absurd hi (by omega), fun _ _ => rfl⟩ ?_ ?_
  · rintro I1 ⟨a1, a2⟩
    obtain ⟨r, h1, h2, h3, h4, h5⟩ := M_deal209 I1 J v
    refine ⟨r, Ev.step (fun n => ?_) h1, h2, h3, fun j hj => by rw [h4 18 (by decide)]; exact a1 j hj, fun x hx hx2 => by rw [h4 x hx, a2 x hx2], h5⟩
    rw [ff_M_deal_187, if_pos q52e]
  · rintro j I1 hj ⟨a1, a2⟩
    refine Or.inr ⟨ui I1 18 j (-2), ⟨fun i hi => ?_, fun y hy => ?_⟩, 0, fun n _ => ?_⟩
    · rw [ui_at]
      by_cases e : i = j
      · rw [if_pos ⟨rfl, e⟩]
      · rw [if_neg (fun h => e h.2)]; exact a1 i (by omega)
    · rw [ui_else _ _ _ hy]; exact a2 y hy
    · rw [ff_M_deal_187, if_neg (q52 hj), if_pos (sm_in hj (by omega)), sm_nat (by omega), sm_suc]
theorem M_deal104 (I : MI) (J : MJ) (v : Int32) : ∃ r, Ev (fun n => ff_M_deal_104 n I J v 0) r ∧ r.1 = 1 ∧ (∀ j, j < 208 → r.2.1 19 j = 0) ∧ (∀ j, j < 52 → r.2.1 18 j = -2) ∧ (∀ k, k < 4 → r.2.1 2 k = 0 ∧ r.2.1 7 k = 0 ∧ r.2.1 13 k = 0 ∧ r.2.1 14 k = 0 ∧ r.2.1 20 k = 1 ∧ r.2.1 21 k = 0 ∧ r.2.1 22 k = 0 ∧ r.2.2 10 k = 0 ∧ r.2.2 11 k = 0 ∧ r.2.2 12 k = 0) ∧ (∀ x, x ≠ 19 → x ≠ 18 → x ≠ 2 → x ≠ 7 → x ≠ 13 → x ≠ 14 → x ≠ 20 → x ≠ 21 → x ≠ 22 → r.2.1 x = I x) := by
  refine Ev.loop0 (α := MI × MJ) (fun n x j => ff_M_deal_104 n x.1 x.2 v (Int32.ofNat j)) 4 (fun j x => (∀ k, k < j → x.1 2 k = 0 ∧ x.1 7 k = 0 ∧ x.1 13 k = 0 ∧ x.1 14 k = 0 ∧ x.1 20 k = 1 ∧ x.1 21 k = 0 ∧ x.1 22 k = 0 ∧ x.2 10 k = 0 ∧ x.2 11 k = 0 ∧ x.2 12 k = 0) ∧ (∀ y, y ≠ 2 → y ≠ 7 → y ≠ 13 → y ≠ 14 → y ≠ 20 → y ≠ 21 → y ≠ 22 → x.1 y = I y)) _ (I, J) ⟨fun k hk => absurd hk (by omega), fun _ _ _ _ _ _ _ _ => rfl⟩ ?_ ?_
  · rintro ⟨I1, J1⟩ ⟨a1, a2⟩
    obtain ⟨r, h1, h2, h3, h4, h5, h6⟩ := M_deal187 I1 J1 v
    refine ⟨r, Ev.step (fun n => ?_) h1, h2, h3, h4, fun k hk => ?_, fun x x1 x2 x3 x4 x5 x6 x7 x8 x9 => by rw [h5 x x1 x2]; exact a2 x x3 x4 x5 x6 x7 x8 x9⟩
    · dsimp only
      rw [ff_M_deal_104, if_pos (by decide)]
    · rw [h6, h5 2 (by decide) (by decide), h5 7 (by decide) (by decide), h5 13 (by decide) (by decide), h5 14 (by decide) (by decide), h5 20 (by decide) (by decide), h5 21 (by decide) (by decide), h5 22 (by decide) (by decide)]
      exact a1 k hk
  · rintro j ⟨I1, J1⟩ hj ⟨a1, a2⟩
    refine Or.inr ⟨(ui (ui (ui (ui (ui (ui (ui I1 2 j 0) 7 j 0) 13 j 0) 14 j 0) 20 j 1) 21 j 0) 22 j 0, uj (uj (uj J1 10 j 0) 11 j 0) 12 j 0), ⟨fun k hk => ?_, fun y y1 y2 y3 y4 y5 y6 y7 => ?_⟩, 0, fun n _ => ?_⟩
    · dsimp only
      simp only [ui_at, uj_at]
      by_cases e : k = j
      · subst e; simp
      · have := a1 k (by omega)
        dsimp only at this
        simp [e]
        exact this
    · dsimp only
      rw [ui_else _ _ _ y7, ui_else _ _ _ y6, ui_else _ _ _ y5, ui_else _ _ _ y4, ui_else _ _ _ y3, ui_else _ _ _ y2, ui_else _ _ _ y1]
      exact a2 y y1 y2 y3 y4 y5 y6 y7
    · have hb := sm_in (j := j) (N := 4) hj (by omega)
      dsimp only
      rw [ff_M_deal_104, if_neg (q4 hj), if_pos hb, if_pos hb, if_pos hb, if_pos hb, if_pos hb, if_pos hb, if_pos hb, if_pos hb, if_pos hb, if_pos hb, sm_nat (by omega), sm_suc]
theorem M_deal44 {s : Nat} {c : Nat → Nat} {I : MI} {P : Nat} (J : MJ) (hs : I 0 3 = Int32.ofNat s) (s4 : s ≤ 4) (hc : ∀ k, k < s → I 1 k = Int32.ofNat (c k) ∧ c k ≤ 400000) (h1 : I 0 1 = Int32.ofNat P) (f : Nat) (hf : f = 1 → TP P) (hf2 : f = 0 ∨ f = 1) : ∃ r, Ev (fun n => ff_M_deal_44 n I J (Int32.ofNat f) 0) r ∧ ((¬ (f = 1 ∧ ∀ k, k < s → 0 < c k) ∧ r = (0, I, J)) ∨ ((f = 1 ∧ ∀ k, k < s → 0 < c k) ∧ r.1 = 1 ∧ (∀ j, j < 208 → r.2.1 19 j = 0) ∧ (∀ j, j < 52 → r.2.1 18 j = -2) ∧ (∀ k, k < 4 → r.2.1 2 k = 0 ∧ r.2.1 7 k = 0 ∧ r.2.1 13 k = 0 ∧ r.2.1 14 k = 0 ∧ r.2.1 20 k = 1 ∧ r.2.1 21 k = 0 ∧ r.2.1 22 k = 0 ∧ r.2.2 10 k = 0 ∧ r.2.2 11 k = 0 ∧ r.2.2 12 k = 0) ∧ r.2.1 1 = I 1 ∧ r.2.1 0 4 = 1 ∧ r.2.1 0 20 = 0 ∧ r.2.1 0 30 = 0 ∧ r.2.1 0 31 = -1 ∧ r.2.1 0 3 = I 0 3 ∧ r.2.1 0 1 = I 0 1 ∧ r.2.1 0 2 = I 0 2 ∧ ∀ j, j < 52 → r.2.1 15 j = Int32.ofNat ((j + 2) * (j + 2)))) := by
  refine Ev.loop0 (α := Int32) (fun n x j => ff_M_deal_44 n I J x (Int32.ofNat j)) s (fun j x => (x = 1 ∧ f = 1 ∧ ∀ k, k < j → 0 < c k) ∨ (x = 0 ∧ ¬ (f = 1 ∧ ∀ k, k < j → 0 < c k))) _ (Int32.ofNat f) ?_ ?_ ?_
  · rcases hf2 with rfl | rfl
    · exact Or.inr ⟨rfl, fun h => absurd h.1 (by decide)⟩
    · exact Or.inl ⟨rfl, rfl, fun k hk => absurd hk (by omega)⟩
  · rintro x (⟨rfl, x1, x2⟩ | ⟨rfl, x1⟩)
    · obtain ⟨v, v1, v2, v3, v4, v5, v6, v7⟩ := M_deck (P := P) (ui I 0 4 1) J (hf x1) (by rw [ui_at, if_neg (by omega)]; exact h1)
      obtain ⟨r, r1, r2, r3, r4, r5, r6⟩ := M_deal104 (ui (ui v.1 0 30 0) 0 31 (-1)) v.2 1
      refine ⟨r, ?_, Or.inr ⟨⟨x1, x2⟩, r2, r3, r4, r5, ?_, ?_, ?_, ?_, ?_, ?_, ?_, ?_, fun j hj => by rw [r6 15 (by decide) (by decide) (by decide) (by decide) (by decide) (by decide) (by decide) (by decide) (by decide), ui_else _ _ _ (by decide), ui_else _ _ _ (by decide)]; exact v2 j hj⟩⟩
      · refine Ev.step (g := fun n => (ff_M_beginDeck n (ui I 0 4 1) J).bind fun r18 => ff_M_deal_104 n (ui (ui r18.1 0 30 0) 0 31 (-1)) r18.2 1 0) (fun n => ?_) (Ev.bind v1 r1)
        rw [ff_M_deal_44, hs, if_pos ((q_cl s4 (by omega)).mpr (Nat.le_refl _)), if_neg (by decide)]
      · rw [r6 1 (by decide) (by decide) (by decide) (by decide) (by decide) (by decide) (by decide) (by decide) (by decide), ui_else _ _ _ (by decide), ui_else _ _ _ (by decide), v4 1 (by decide) (by decide), ui_else _ _ _ (by decide)]
      all_goals rw [r6 0 (by decide) (by decide) (by decide) (by decide) (by decide) (by decide) (by decide) (by decide) (by decide)]
      · rw [ui_at, if_neg (by omega), ui_at, if_neg (by omega), v6 4 (by decide), ui_at, if_pos ⟨rfl, rfl⟩]
      · rw [ui_at, if_neg (by omega), ui_at, if_neg (by omega), v5]
      · rw [ui_at, if_neg (by omega), ui_at, if_pos ⟨rfl, rfl⟩]
      · rw [ui_at, if_pos ⟨rfl, rfl⟩]
      · rw [ui_at, if_neg (by omega), ui_at, if_neg (by omega), v6 3 (by decide), ui_at, if_neg (by omega)]
      · rw [ui_at, if_neg (by omega), ui_at, if_neg (by omega), v6 1 (by decide), ui_at, if_neg (by omega)]
      · rw [ui_at, if_neg (by omega), ui_at, if_neg (by omega), v6 2 (by decide), ui_at, if_neg (by omega)]
    · refine ⟨(0, I, J), Ev.suc (Ev.now fun n => ?_), Or.inl ⟨x1, rfl⟩⟩
      rw [ff_M_deal_44, hs, if_pos ((q_cl s4 (by omega)).mpr (Nat.le_refl _)), if_pos rfl]
  · rintro j x hj (⟨rfl, x1, x2⟩ | ⟨rfl, x1⟩)
    · obtain ⟨e1, e2⟩ := hc j hj
      by_cases z : c j = 0
      · refine Or.inr ⟨0, Or.inr ⟨rfl, fun h => by have := h.2 j (by omega); omega⟩, 0, fun n _ => ?_⟩
        rw [ff_M_deal_44, hs, if_neg (by rw [q_cl s4 (by omega)]; omega), if_neg (by decide), if_pos (sm_in (N := 4) (by omega) (by omega)), sm_nat (by omega), e1, if_pos ((q_le0 (by omega)).mpr z), sm_suc]
      · refine Or.inr ⟨1, Or.inl ⟨rfl, x1, fun k hk => ?_⟩, 0, fun n _ => ?_⟩
        · by_cases e : k = j
          · subst e; omega
          · exact x2 k (by omega)
        rw [ff_M_deal_44, hs, if_neg (by rw [q_cl s4 (by omega)]; omega), if_neg (by decide), if_pos (sm_in (N := 4) (by omega) (by omega)), sm_nat (by omega), e1, if_neg (by rw [q_le0 (by omega)]; exact z), sm_suc]
    · refine Or.inr ⟨0, Or.inr ⟨rfl, fun h => x1 ⟨h.1, fun k hk => h.2 k (by omega)⟩⟩, 0, fun n _ => ?_⟩
      rw [ff_M_deal_44, hs, if_neg (by rw [q_cl s4 (by omega)]; omega), if_pos rfl, sm_suc]
theorem call_deal {I : MI} {J : MJ} {I' : MI} {J' : MJ} (g : R I J I' J') : ∃ r r', Ev (fun n => ff_O_deal n I J) r ∧ Ev (fun n => ff_M_deal n I' J') r' ∧ r.1 = r'.1 ∧ R r.2.1 r.2.2 r'.2.1 r'.2.2 := by
  obtain ⟨s, ph, t, P, b, ac, c, h, r, m, w, g⟩ := g
  have g := RG_th g 0
  unfold ff_M_deal ff_O_deal
  generalize ui I' 0 0 0 = I0 at g ⊢
  have gg := g
  obtain ⟨g1, g2, g3, g4, g5, g6, g7⟩ := g
  obtain ⟨hs, hs', s4, hph, hph', ph6, hP, hP', hTP, ht, t01, t2, t3, t4, hpp, hact, hb⟩ := g1
  have R0 : R I J I0 J' := ⟨s, ph, t, P, b, ac, c, h, r, m, w, gg⟩
  have hc : ∀ k, k < s → I0 1 k = Int32.ofNat (c k) ∧ c k ≤ 400000 := fun k hk => ⟨(g2.1 k hk).2.1, by have := RB_bd g2 s4 hk; omega⟩
  have hcO : ∀ k, k < s → I (15 + 6 * k) 0 = Int32.ofNat (c k) ∧ c k ≤ 400000 := fun k hk => ⟨(g2.1 k hk).1, by have := RB_bd g2 s4 hk; omega⟩
  have bad := M_deal44 (c := c) (P := P) J' hs' s4 hc hP' 0 (fun hh => absurd hh (by decide)) (Or.inl rfl)
  have bad : ∃ r', Ev (fun n => ff_M_deal_44 n I0 J' 0 0) r' ∧ r' = (0, I0, J') := by
    obtain ⟨q, q1, q2 | q2⟩ := bad
    · exact ⟨q, q1, q2.2⟩
    · exact absurd q2.1.1 (by decide)
  have p1 : (I 0 0 = 0) ↔ P = 0 := by
    by_cases p0 : P = 0
    · rw [hP, p0]; exact ⟨fun _ => rfl, fun _ => rfl⟩
    · rw [hP]; exact ⟨fun hh => absurd hh (P_nz (hTP p0).1).1, fun hh => absurd hh p0⟩
  have p1' : (I0 0 1 = 0) ↔ P = 0 := by rw [hP', ← hP]; exact p1
  have c2 : (Int32.ofNat s < 2) ↔ s < 2 := q_lt (y := 2) (by omega) (by omega)
  have c1 : (Int32.ofNat s ≤ 1) ↔ s ≤ 1 := nb_le (y := 1) (by omega) (by omega)
  have c0 : (Int32.ofNat ph = 0) ↔ ph = 0 := nb_inj (y := 0) (by omega) (by omega)
  have c6 : (Int32.ofNat ph = 6) ↔ ph = 6 := nb_inj (y := 6) (by omega) (by omega)
  rw [hs, hs', hph, hph']
  obtain ⟨bq, b1, rfl⟩ := bad
  by_cases p0 : P = 0
  · simp only [if_pos (p1.mpr p0), if_pos (p1'.mpr p0)]
    exact ⟨_, _, Ev.pure _, b1, rfl, R0⟩
  · simp only [if_neg (show ¬ I 0 0 = 0 by rw [p1]; exact p0), if_neg (show ¬ I0 0 1 = 0 by rw [p1']; exact p0)]
    by_cases s2 : s < 2
    · simp only [if_pos (c2.mpr s2), if_pos (c1.mpr (show s ≤ 1 by omega))]
      exact ⟨_, _, Ev.pure _, b1, rfl, R0⟩
    · simp only [if_neg (show ¬ Int32.ofNat s < 2 by rw [c2]; exact s2), if_neg (show ¬ Int32.ofNat s ≤ 1 by rw [c1]; omega)]
      have main : (ph = 0 ∨ ph = 6) → ∃ r r', Ev (fun n => ff_O_deal_33 n I J) r ∧ Ev (fun n => ff_M_deal_44 n I0 J' 1 0) r' ∧ r.1 = r'.1 ∧ R r.2.1 r.2.2 r'.2.1 r'.2.2 := by
        intro hp
        have tp := hTP p0
        obtain ⟨v, v1, v2⟩ := O_cwc J hs s4 hcO
        obtain ⟨q, q1, q2⟩ := M_deal44 (c := c) (P := P) J' hs' s4 hc hP' 1 (fun _ => tp.1) (Or.inr rfl)
        unfold ff_O_deal_33
        by_cases all : ∀ k, k < s → 0 < c k
        · rcases q2 with q2 | ⟨_, q2, q3, q4, q5, q6, q7, q8, q9, q10, q11, q12, q13, q15⟩
          · exact absurd ⟨rfl, all⟩ q2.1
          obtain ⟨o, o1, o2, o3, o4, o5, o6, o7, o8⟩ := O_deal48 I J hs s4
          refine ⟨o, q, ?_, q1, o2.trans q2.symm, s, 1, 0, P, 0, ac, c, fun _ => 0, fun _ => 0, m, fun _ _ => 0, ?_, ?_, ?_, ?_, ?_, ?_, ?_⟩
          · refine Ev.bind v1 ?_
            rw [hs]
            simp only [if_pos (v2.mpr all)]
            exact o1
          · have e7 : I 0 7 = -1 := by
              rcases hb with x | x
              · exact x.2.2
              · exact absurd x.2.2.1 (by omega)
            exact ⟨by rw [o7 2 (by decide) (by decide)]; exact hs, by rw [q11]; exact hs', s4, o6, q7, by omega, by rw [o7 0 (by decide) (by decide)]; exact hP, by rw [q12]; exact hP', fun _ => ⟨tp.1, by rw [q13]; exact tp.2.1, q8⟩, o5, fun _ => rfl, fun hh => absurd hh (by decide), fun hh => absurd hh (by decide), fun hh => absurd hh (by decide), fun _ => ⟨p0, by omega⟩, by rw [o7 7 (by decide) (by decide), e7, q10], Or.inl ⟨rfl, q9, by rw [o7 7 (by decide) (by decide)]; exact e7⟩⟩
          · refine ⟨fun k hk => ?_, ?_⟩
            · obtain ⟨y1, y2, y3⟩ := o3 k hk
              obtain ⟨z1, z2, z3, z4, z5, z6, z7, _⟩ := q5 k (by omega)
              rw [y1, y1, y1, y1, y1, q6, z5, z6]
              simp only [bh]
              simp
              exact ⟨(hcO k hk).1, (hc k hk).1⟩
            · refine Nat.le_trans (sum_le (fun k => c k + h k) s (fun k _ => Nat.add_le_add_left (Nat.zero_le _) _)) g2.2
          · refine ⟨fun k hk => ⟨Or.inl ⟨?_, (q5 k (by omega)).1⟩, fun hh => absurd hh (by decide)⟩, fun hh => absurd hh (by decide)⟩
            rw [(o3 k hk).1]; rfl
          · intro _ k hk
            obtain ⟨y1, y2, y3⟩ := o3 k hk
            obtain ⟨z1, z2, z3, z4, z5, z6, z7, z8, z9, z10⟩ := q5 k (by omega)
            rw [y3 0 (by decide), y3 1 (by decide), y3 2 (by decide), y3 3 (by decide), y3 4 (by decide), z3, z4, z8, z9, z10]
            simp
          · refine ⟨fun _ j hj => by rw [o4 j hj, q4 j hj], fun k hk j hj => Or.inl ⟨rfl, (o3 k hk).2.1 j hj, q3 _ (by omega)⟩, fun _ => ⟨fun _ _ _ _ => rfl, q3⟩⟩
          · refine ⟨fun u hu => absurd hu (by omega), fun hL => ⟨fun k hk q => ?_, fun hp => ?_⟩⟩
            · rw [(q5 k (by omega)).1] at q
              exact absurd q (by decide)
            · obtain ⟨x2, x3⟩ := (g6.2 hL).2 hp
              refine ⟨fun j hj => by rw [o8]; exact x2 j hj, fun u hu j hj => ?_⟩
              obtain rfl : u = 0 := by omega
              have x4 := x3 0 (Nat.zero_le _) j hj
              rw [show 52 * 0 + j = j by omega, q15 j hj, o8]
              exact ⟨x2 j hj, x4.2⟩
          · refine ⟨fun _ k hk => Or.inl ⟨?_, (q5 k (by omega)).2.1⟩, fun hh => absurd hh (by decide)⟩
            rw [(o3 k hk).1]; rfl
        · rcases q2 with q2 | q2
          · refine ⟨(0, I, J), q, ?_, q1, by rw [q2.2], by rw [q2.2]; exact R0⟩
            refine Ev.bind v1 ?_
            rw [hs]
            simp only [if_neg (show ¬ Int32.ofNat s ≤ v by rw [v2]; exact all)]
            exact Ev.pure _
          · exact absurd q2.1.2 all
      by_cases d0 : ph = 0
      · simp only [if_pos (c0.mpr d0)]
        exact main (Or.inl d0)
      · simp only [if_neg (show ¬ Int32.ofNat ph = 0 by rw [c0]; exact d0)]
        by_cases d6 : ph = 6
        · simp only [if_pos (c6.mpr d6)]
          exact main (Or.inr d6)
        · simp only [if_neg (show ¬ Int32.ofNat ph = 6 by rw [c6]; exact d6)]
          exact ⟨_, _, Ev.pure _, b1, rfl, R0⟩
