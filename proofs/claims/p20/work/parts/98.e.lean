/-! assign, cheat -/
theorem RG_own {s ph t P b a : Nat} {c h r : Nat → Nat} {m : Nat → Int64} {w : Nat → Nat → Nat} {I I' : MI} {J J' : MJ} (g : RG s ph t P b a c h r m w I J I' J') (j : Nat) (v : Int32) : RG s ph t P b a c h r m w (ui I 3 j v) J (ui I' 18 j v) J' := by
  obtain ⟨g1, g2, g3, g4, g5, g6, g7⟩ := g
  have E : ∀ x, x ≠ 3 → ui I 3 j v x = I x := fun x hx => ui_else _ _ _ hx
  have E' : ∀ x, x ≠ 18 → ui I' 18 j v x = I' x := fun x hx => ui_else _ _ _ hx
  have s4 : s ≤ 4 := g1.2.2.1
  have t8 := RS_t g1
  refine ⟨RS_fr g1 (fun y _ => by rw [E 0 (by decide)]) (fun y _ => by rw [E' 0 (by decide)]), RB_fr g2 (fun k _ y _ => by rw [E _ (by omega)]) (fun k _ => ⟨by rw [E' 1 (by decide)], by rw [E' 20 (by decide)], by rw [E' 21 (by decide)], by rw [E' 22 (by decide)], by rw [E' 23 (by decide)]⟩), RC_fr g3 (fun k _ => ⟨by rw [E _ (by omega)], by rw [E _ (by omega)], by rw [E _ (by omega)], rfl, rfl⟩) ⟨E' 2 (by decide), E' 4 (by decide), rfl, rfl, rfl⟩, RD_fr g4 (fun k _ => rfl) ⟨E' 13 (by decide), E' 14 (by decide), rfl, rfl, rfl⟩, ?_, RF_fr g6 t8 (fun u _ => E _ (by omega)) (fun k _ => ⟨E _ (by omega), E _ (by omega), rfl⟩) ⟨E' 15 (by decide), E' 4 (by decide), rfl, rfl⟩ (E' 2 (by decide)), RV_fr g7 (by rw [E 0 (by decide)]) (fun k _ => ⟨by rw [E _ (by omega)], E _ (by omega), rfl⟩) ⟨E' 4 (by decide), E' 7 (by decide), E' 8 (by decide), rfl, rfl, rfl, rfl⟩⟩
  obtain ⟨f1, f2, f3⟩ := g5
  refine ⟨fun hp i hi => ?_, fun k hk i hi => ?_, fun hp => ?_⟩
  · rw [ui_at, ui_at]
    by_cases e : i = j
    · rw [if_pos ⟨rfl, e⟩, if_pos ⟨rfl, e⟩]
    · rw [if_neg (fun h => e h.2), if_neg (fun h => e h.2)]; exact f1 hp i hi
  · rw [E _ (by omega), E _ (by omega), E' 19 (by decide)]; exact f2 k hk i hi
  · rw [E' 19 (by decide)]; exact f3 hp
theorem call_assign {I : MI} {J : MJ} {I' : MI} {J' : MJ} (g : R I J I' J') (x y : Int32) : ∃ r r', Ev (fun n => ff_O_assign n I J x y) r ∧ Ev (fun n => ff_M_assign n I' J' x y) r' ∧ r.1 = r'.1 ∧ R r.2.1 r.2.2 r'.2.1 r'.2.2 := by
  obtain ⟨s, ph, t, P, b, ac, c, h, r, m, w, g⟩ := g
  have g := RG_th g 0
  unfold ff_M_assign ff_O_assign
  generalize ui I' 0 0 0 = I0 at g ⊢
  have gg := g
  obtain ⟨g1, g2, g3, g4, g5, g6, g7⟩ := g
  obtain ⟨hs, hs', s4, hph, hph', ph6, hP, hP', hTP, ht, t01, t2, t3, t4, hpp, hact, hb⟩ := g1
  have R0 : R I J I0 J' := ⟨s, ph, t, P, b, ac, c, h, r, m, w, gg⟩
  have c4 : (Int32.ofNat ph = 4) ↔ ph = 4 := nb_inj (y := 4) (by omega) (by omega)
  rw [hph, hph']
  by_cases d : ph = 4
  · simp only [if_pos (c4.mpr d)]
    rcases sc (s := 52) (by omega) x with ⟨j, hj, rfl⟩ | hx
    · have e18 : I 3 j = I0 18 j := g5.1 (by omega) j hj
      have b52 := sm_i2 (j := j) (N := 52) hj (by omega)
      simp only [M_pl1 _ hj, O_pl1 _ hj, Option.bind_some, if_neg (show ¬ (1 : Int32) = 0 by decide), sm_nat (j := j) (by omega), if_pos b52, e18, ff_O_assign_43, ff_M_assign_46]
      by_cases d2 : I0 18 j = -2
      · simp only [if_pos d2]
        by_cases d3 : y = -1
        · simp only [if_pos d3]
          exact ⟨_, _, Ev.pure _, Ev.pure _, rfl, s, ph, t, P, b, ac, c, h, r, m, w, RG_own gg j y⟩
        · simp only [if_neg d3]
          rcases sc (s := s) (by omega) y with ⟨k, hk, rfl⟩ | hy
          · simp only [O_seat1 _ J hs s4 hk, M_seat1 _ J' hs' s4 hk, Option.bind_some, if_neg (show ¬ (1 : Int32) = 0 by decide)]
            exact ⟨_, _, Ev.pure _, Ev.pure _, rfl, s, ph, t, P, b, ac, c, h, r, m, w, RG_own gg j _⟩
          · simp only [O_seat0 _ J hs s4 hy, M_seat0 _ J' hs' s4 hy, Option.bind_some, if_pos]
            exact ⟨_, _, Ev.pure _, Ev.pure _, rfl, R0⟩
      · simp only [if_neg d2]
        exact ⟨_, _, Ev.pure _, Ev.pure _, rfl, R0⟩
    · simp only [M_pl0 _ hx, O_pl0 _ hx, Option.bind_some, if_pos]
      exact ⟨_, _, Ev.pure _, Ev.pure _, rfl, R0⟩
  · simp only [if_neg (show ¬ Int32.ofNat ph = 4 by rw [c4]; exact d)]
    rcases sc (s := 52) (by omega) x with ⟨j, hj, rfl⟩ | hx
    · simp only [M_pl1 _ hj, Option.bind_some, if_neg (show ¬ (1 : Int32) = 0 by decide)]
      exact ⟨_, _, Ev.pure _, Ev.pure _, rfl, R0⟩
    · simp only [M_pl0 _ hx, Option.bind_some, if_pos]
      exact ⟨_, _, Ev.pure _, Ev.pure _, rfl, R0⟩
theorem bit_nz : ∀ j, j < 52 → (1 : Int64) <<< (Int32.toInt64 (Int32.ofNat j) &&& 63) ≠ 0 := by decide
theorem or_nz (x y : Int64) (h : y ≠ 0) : x ||| y ≠ 0 := fun g => h (by
  rw [← Int64.toBitVec_inj] at g ⊢
  rw [Int64.toBitVec_or] at g
  exact (BitVec.or_eq_zero_iff.mp g).2)
theorem RG_cheat {s ph t P b a : Nat} {c h r : Nat → Nat} {m : Nat → Int64} {w : Nat → Nat → Nat} {I I' I1' : MI} {J J' J1 J1' : MJ} (g : RG s ph t P b a c h r m w I J I' J') (hI : ∀ x, x ≠ 13 → x ≠ 14 → I1' x = I' x) (hJ : ∀ x, (∀ k, k < s → x ≠ 15 + 6 * k + 5) → J1 x = J x) (hJ' : ∀ x, x ≠ 10 → x ≠ 11 → x ≠ 12 → J1' x = J' x) (hD : RD s ph J1 I1' J1') : RG s ph t P b a c h r m w I J1 I1' J1' := by
  obtain ⟨g1, g2, g3, g4, g5, g6, g7⟩ := g
  have s4 : s ≤ 4 := g1.2.2.1
  have t8 := RS_t g1
  refine ⟨RS_fr g1 (fun _ _ => rfl) (fun y _ => by rw [hI 0 (by decide) (by decide)]), RB_fr g2 (fun _ _ _ _ => rfl) (fun k _ => ⟨by rw [hI 1 (by decide) (by decide)], by rw [hI 20 (by decide) (by decide)], by rw [hI 21 (by decide) (by decide)], by rw [hI 22 (by decide) (by decide)], by rw [hI 23 (by decide) (by decide)]⟩), RC_fr g3 (fun k _ => ⟨rfl, rfl, rfl, by rw [hJ _ (fun _ _ => by omega)], hJ _ (fun _ _ => by omega)⟩) ⟨hI 2 (by decide) (by decide), hI 4 (by decide) (by decide), hJ' 3 (by decide) (by decide) (by decide), hJ' 5 (by decide) (by decide) (by decide), hJ' 6 (by decide) (by decide) (by decide)⟩, hD, RE_fr g5 ⟨rfl, fun _ _ => ⟨rfl, rfl⟩⟩ ⟨hI 18 (by decide) (by decide), hI 19 (by decide) (by decide), hJ' 6 (by decide) (by decide) (by decide)⟩, RF_fr g6 t8 (fun _ _ => rfl) (fun k _ => ⟨rfl, rfl, hJ _ (fun _ _ => by omega)⟩) ⟨hI 15 (by decide) (by decide), hI 4 (by decide) (by decide), hJ' 5 (by decide) (by decide) (by decide), hJ' 6 (by decide) (by decide) (by decide)⟩ (hI 2 (by decide) (by decide)), RV_fr g7 rfl (fun k _ => ⟨rfl, rfl, hJ _ (fun _ _ => by omega)⟩) ⟨hI 4 (by decide) (by decide), hI 7 (by decide) (by decide), hI 8 (by decide) (by decide), hJ' 3 (by decide) (by decide) (by decide), hJ' 5 (by decide) (by decide) (by decide), hJ' 6 (by decide) (by decide) (by decide), hJ' 9 (by decide) (by decide) (by decide)⟩⟩
theorem call_cheat {I : MI} {J : MJ} {I' : MI} {J' : MJ} (g : R I J I' J') (x y z : Int32) : ∃ r r', Ev (fun n => ff_O_cheat n I J x y z) r ∧ Ev (fun n => ff_M_cheat n I' J' x y z) r' ∧ r.1 = r'.1 ∧ R r.2.1 r.2.2 r'.2.1 r'.2.2 := by
  obtain ⟨s, ph, t, P, b, ac, c, h, r, m, w, g⟩ := g
  have g := RG_th g 0
  unfold ff_M_cheat ff_O_cheat
  generalize ui I' 0 0 0 = I0 at g ⊢
  have gg := g
  obtain ⟨g1, g2, g3, g4, g5, g6, g7⟩ := g
  obtain ⟨hs, hs', s4, hph, hph', ph6, hP, hP', hTP, ht, t01, t2, t3, t4, hpp, hact, hb⟩ := g1
  have R0 : R I J I0 J' := ⟨s, ph, t, P, b, ac, c, h, r, m, w, gg⟩
  have c1 : (Int32.ofNat ph < 1) ↔ ph < 1 := q_lt (y := 1) (by omega) (by omega)
  have c5 : ((5 : Int32) < Int32.ofNat ph) ↔ 5 < ph := q_lt (x := 5) (by omega) (by omega)
  have c5' : (Int32.ofNat ph ≤ 5) ↔ ph ≤ 5 := nb_le (y := 5) (by omega) (by omega)
  rw [hph, hph']
  rcases sc (s := s) (by omega) x with ⟨k, hk, rfl⟩ | hx
  · simp only [O_seat1 _ J hs s4 hk, M_seat1 _ J' hs' s4 hk, Option.bind_some, if_neg (show ¬ (1 : Int32) = 0 by decide)]
    rcases sc (s := 5) (by omega) y with ⟨q, hq, rfl⟩ | hy
    · simp only [if_neg (sm_pos (j := q) (by omega)), if_neg (q5 hq), if_neg (show ¬ (4 : Int32) < Int32.ofNat q from fun hh => by have := (q_lt (x := 4) (by omega) (by omega)).mp hh; omega)]
      rcases sc (s := 52) (by omega) z with ⟨j, hj, rfl⟩ | hz
      · simp only [M_pl1 _ hj, O_pl1 _ hj, Option.bind_some, if_neg (show ¬ (1 : Int32) = 0 by decide)]
        by_cases d1 : ph < 1
        · simp only [if_pos (c1.mpr d1)]
          exact ⟨_, _, Ev.pure _, Ev.pure _, rfl, R0⟩
        · simp only [if_neg (show ¬ Int32.ofNat ph < 1 by rw [c1]; exact d1)]
          by_cases d5 : 5 < ph
          · simp only [if_pos (c5.mpr d5), if_neg (show ¬ Int32.ofNat ph ≤ 5 by rw [c5']; omega)]
            exact ⟨_, _, Ev.pure _, Ev.pure _, rfl, R0⟩
          · simp only [if_neg (show ¬ (5 : Int32) < Int32.ofNat ph by rw [c5]; exact d5), if_pos (c5'.mpr (show ph ≤ 5 by omega)), sm_nat (j := k) (by omega), sm_nat (j := q) (by omega), if_pos (sm_i2 (j := k) (N := 4) (by omega) (by omega)), if_pos (sm_i2 (j := q) (N := 5) (by omega) (by omega)), tl, ff_M_cheat_67, ff_M_cheat_83, ff_M_cheat_99, ff_M_cheat_111]
            have nz := bit_nz j hj
            generalize (1 : Int64) <<< (Int32.toInt64 (Int32.ofNat j) &&& 63) = bit at nz ⊢
            have hJ : ∀ x, (∀ k', k' < s → x ≠ 15 + 6 * k' + 5) → uj J (15 + 6 * k + 5) q (J (15 + 6 * k + 5) q ||| bit) x = J x := fun x hx => uj_else _ _ _ (hx k hk)
            have hc : q = 0 ∨ q = 1 ∨ q = 2 ∨ q = 3 ∨ q = 4 := by omega
            have g4 := g4 (by omega)
            rcases hc with rfl | rfl | rfl | rfl | rfl
            · simp only [show (Int32.ofNat 0 = (0 : Int32)) = True from eq_true rfl, show (Int32.ofNat 0 = (1 : Int32)) = False from eq_false (by decide), show (Int32.ofNat 0 = (2 : Int32)) = False from eq_false (by decide), show (Int32.ofNat 0 = (3 : Int32)) = False from eq_false (by decide), show (Int32.ofNat 0 = (4 : Int32)) = False from eq_false (by decide), if_true, if_false]
              refine ⟨_, _, Ev.pure _, Ev.pure _, rfl, s, ph, t, P, b, ac, c, h, r, m, w, RG_cheat gg (fun x _ _ => rfl) hJ (fun x h1 _ _ => uj_else _ _ _ h1) (fun _ i hi => ?_)⟩
              obtain ⟨y0, y1, y2, y3, y4⟩ := g4 i hi
              simp only [uj_at]
              grind
            · simp only [show (Int32.ofNat 1 = (0 : Int32)) = False from eq_false (by decide), show (Int32.ofNat 1 = (1 : Int32)) = True from eq_true rfl, show (Int32.ofNat 1 = (2 : Int32)) = False from eq_false (by decide), show (Int32.ofNat 1 = (3 : Int32)) = False from eq_false (by decide), show (Int32.ofNat 1 = (4 : Int32)) = False from eq_false (by decide), if_true, if_false]
              refine ⟨_, _, Ev.pure _, Ev.pure _, rfl, s, ph, t, P, b, ac, c, h, r, m, w, RG_cheat gg (fun x _ _ => rfl) hJ (fun x _ h1 _ => uj_else _ _ _ h1) (fun _ i hi => ?_)⟩
              obtain ⟨y0, y1, y2, y3, y4⟩ := g4 i hi
              simp only [uj_at]
              grind
            · simp only [show (Int32.ofNat 2 = (0 : Int32)) = False from eq_false (by decide), show (Int32.ofNat 2 = (1 : Int32)) = False from eq_false (by decide), show (Int32.ofNat 2 = (2 : Int32)) = True from eq_true rfl, show (Int32.ofNat 2 = (3 : Int32)) = False from eq_false (by decide), show (Int32.ofNat 2 = (4 : Int32)) = False from eq_false (by decide), if_true, if_false]
              refine ⟨_, _, Ev.pure _, Ev.pure _, rfl, s, ph, t, P, b, ac, c, h, r, m, w, RG_cheat gg (fun x _ _ => rfl) hJ (fun x _ _ h1 => uj_else _ _ _ h1) (fun _ i hi => ?_)⟩
              obtain ⟨y0, y1, y2, y3, y4⟩ := g4 i hi
              simp only [uj_at]
              grind
            · simp only [show (Int32.ofNat 3 = (0 : Int32)) = False from eq_false (by decide), show (Int32.ofNat 3 = (1 : Int32)) = False from eq_false (by decide), show (Int32.ofNat 3 = (2 : Int32)) = False from eq_false (by decide), show (Int32.ofNat 3 = (3 : Int32)) = True from eq_true rfl, show (Int32.ofNat 3 = (4 : Int32)) = False from eq_false (by decide), if_true, if_false]
              refine ⟨_, _, Ev.pure _, Ev.pure _, rfl, s, ph, t, P, b, ac, c, h, r, m, w, RG_cheat gg (fun x h1 _ => ui_else _ _ _ h1) hJ (fun x _ _ _ => rfl) (fun _ i hi => ?_)⟩
              obtain ⟨y0, y1, y2, y3, y4⟩ := g4 i hi
              have o := or_nz (J (15 + 6 * k + 5) 3) bit nz
              simp only [uj_at, ui_at]
              grind
            · simp only [show (Int32.ofNat 4 = (0 : Int32)) = False from eq_false (by decide), show (Int32.ofNat 4 = (1 : Int32)) = False from eq_false (by decide), show (Int32.ofNat 4 = (2 : Int32)) = False from eq_false (by decide), show (Int32.ofNat 4 = (3 : Int32)) = False from eq_false (by decide), show (Int32.ofNat 4 = (4 : Int32)) = True from eq_true rfl, if_true, if_false]
              refine ⟨_, _, Ev.pure _, Ev.pure _, rfl, s, ph, t, P, b, ac, c, h, r, m, w, RG_cheat gg (fun x _ h1 => ui_else _ _ _ h1) hJ (fun x _ _ _ => rfl) (fun _ i hi => ?_)⟩
              obtain ⟨y0, y1, y2, y3, y4⟩ := g4 i hi
              have o := or_nz (J (15 + 6 * k + 5) 4) bit nz
              simp only [uj_at, ui_at]
              grind
      · simp only [M_pl0 _ hz, O_pl0 _ hz, Option.bind_some, if_pos]
        by_cases d1 : ph < 1
        · simp only [if_pos (c1.mpr d1)]
          exact ⟨_, _, Ev.pure _, Ev.pure _, rfl, R0⟩
        · simp only [if_neg (show ¬ Int32.ofNat ph < 1 by rw [c1]; exact d1)]
          by_cases d5 : 5 < ph
          · simp only [if_pos (c5.mpr d5)]
            exact ⟨_, _, Ev.pure _, Ev.pure _, rfl, R0⟩
          · simp only [if_neg (show ¬ (5 : Int32) < Int32.ofNat ph by rw [c5]; exact d5)]
            exact ⟨_, _, Ev.pure _, Ev.pure _, rfl, R0⟩
    · have y5 : y < 0 ∨ ¬ y < 0 ∧ (4 : Int32) < y ∧ (5 : Int32) ≤ y := by
        rcases sc0 (by omega) hy with e | ⟨e, e2⟩
        · exact Or.inl e
        · exact Or.inr ⟨e, Int32.lt_of_lt_of_le (show (4 : Int32) < 5 by decide) e2, e2⟩
      rcases y5 with e | ⟨e, e1, e2⟩
      · simp only [if_pos e]
        by_cases d1 : ph < 1
        · simp only [if_pos (c1.mpr d1)]
          exact ⟨_, _, Ev.pure _, Ev.pure _, rfl, R0⟩
        · simp only [if_neg (show ¬ Int32.ofNat ph < 1 by rw [c1]; exact d1)]
          by_cases d5 : 5 < ph
          · simp only [if_pos (c5.mpr d5)]
            exact ⟨_, _, Ev.pure _, Ev.pure _, rfl, R0⟩
          · simp only [if_neg (show ¬ (5 : Int32) < Int32.ofNat ph by rw [c5]; exact d5)]
            exact ⟨_, _, Ev.pure _, Ev.pure _, rfl, R0⟩
      · simp only [if_neg e, if_pos e1, if_pos e2]
        by_cases d1 : ph < 1
        · simp only [if_pos (c1.mpr d1)]
          exact ⟨_, _, Ev.pure _, Ev.pure _, rfl, R0⟩
        · simp only [if_neg (show ¬ Int32.ofNat ph < 1 by rw [c1]; exact d1)]
          by_cases d5 : 5 < ph
          · simp only [if_pos (c5.mpr d5)]
            exact ⟨_, _, Ev.pure _, Ev.pure _, rfl, R0⟩
          · simp only [if_neg (show ¬ (5 : Int32) < Int32.ofNat ph by rw [c5]; exact d5)]
            exact ⟨_, _, Ev.pure _, Ev.pure _, rfl, R0⟩
  · simp only [O_seat0 _ J hs s4 hx, M_seat0 _ J' hs' s4 hx, Option.bind_some, if_pos]
    by_cases d1 : ph < 1
    · simp only [if_pos (c1.mpr d1)]
      exact ⟨_, _, Ev.pure _, Ev.pure _, rfl, R0⟩
    · simp only [if_neg (show ¬ Int32.ofNat ph < 1 by rw [c1]; exact d1)]
      by_cases d5 : 5 < ph
      · simp only [if_pos (c5.mpr d5)]
        exact ⟨_, _, Ev.pure _, Ev.pure _, rfl, R0⟩
      · simp only [if_neg (show ¬ (5 : Int32) < Int32.ofNat ph by rw [c5]; exact d5)]
        exact ⟨_, _, Ev.pure _, Ev.pure _, rfl, R0⟩
