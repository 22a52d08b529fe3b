/-! give -/
theorem RG_gave {s t P b a k j v : Nat} {c h r : Nat → Nat} {m : Nat → Int64} {w : Nat → Nat → Nat} {I I' I1' : MI} {J J' J1' : MJ} {x y : Int32} (g : RG s 4 t P b a c h r m w I J I' J') (hk : k < s) (hj : j < 52)
    (e0 : ∀ z, z ≠ 0 → I1' 0 z = I' 0 z) (eo : ∀ z, z ≠ 0 → z ≠ 16 → z ≠ 17 → z ≠ 19 → I1' z = I' z) (e19 : ∀ i, I1' 19 i = if i = 52 * k + j then y else I' 19 i) (ej : ∀ z, z ≠ 0 → J1' z = J' z)
    (hv : (v = 1 ∧ x = I (15 + 6 * k + 3) j ∧ y = LK P (J' 6 k) j) ∨ (v = 2 ∧ x = AB P (I (15 + 6 * k + 3) j) ∧ y = AB P (LK P (J' 6 k) j))) :
    RG s 4 t P b a c h r m (fun i l => if i = k ∧ l = j then v else w i l) (ui I (15 + 6 * k + 4) j x) J I1' J1' := by
  have t8 := RS_t g.1
  obtain ⟨g1, g2, g3, g4, g5, g6, g7⟩ := g
  have s4 : s ≤ 4 := g1.2.2.1
  have E : ∀ z, z ≠ 15 + 6 * k + 4 → ui I (15 + 6 * k + 4) j x z = I z := fun z hz => ui_else _ _ _ hz
  refine ⟨RS_fr g1 (fun z _ => by rw [E 0 (by omega)]) e0, RB_fr g2 (fun i _ z _ => by rw [E _ (by omega)]) (fun i _ => ⟨by rw [eo 1 (by decide) (by decide) (by decide) (by decide)], by rw [eo 20 (by decide) (by decide) (by decide) (by decide)], by rw [eo 21 (by decide) (by decide) (by decide) (by decide)], by rw [eo 22 (by decide) (by decide) (by decide) (by decide)], by rw [eo 23 (by decide) (by decide) (by decide) (by decide)]⟩), RC_fr g3 (fun i _ => ⟨by rw [E _ (by omega)], E _ (by omega), E _ (by omega), rfl, rfl⟩) ⟨eo 2 (by decide) (by decide) (by decide) (by decide), eo 4 (by decide) (by decide) (by decide) (by decide), ej 3 (by decide), ej 5 (by decide), ej 6 (by decide)⟩, RD_fr g4 (fun i _ => rfl) ⟨eo 13 (by decide) (by decide) (by decide) (by decide), eo 14 (by decide) (by decide) (by decide) (by decide), ej 10 (by decide), ej 11 (by decide), ej 12 (by decide)⟩, ?_, RF_fr g6 t8 (fun u _ => E _ (by omega)) (fun i _ => ⟨E _ (by omega), E _ (by omega), rfl⟩) ⟨eo 15 (by decide) (by decide) (by decide) (by decide), eo 4 (by decide) (by decide) (by decide) (by decide), ej 5 (by decide), ej 6 (by decide)⟩ (eo 2 (by decide) (by decide) (by decide) (by decide)), ?_⟩
  · obtain ⟨f1, f2, f3⟩ := g5
    refine ⟨fun _ i hi => ?_, fun i hi l hl => ?_, fun hh => absurd hh (by decide)⟩
    · rw [E 3 (by omega), eo 18 (by decide) (by decide) (by decide) (by decide)]; exact f1 (by decide) i hi
    · rw [E (15 + 6 * i + 3) (by omega), e19, ej 6 (by decide)]
      by_cases q : i = k ∧ l = j
      · obtain ⟨q1, q2⟩ := q
        subst q1 q2
        simp only [and_self, if_true]
        rw [ui_at, if_pos ⟨rfl, rfl⟩]
        rcases hv with hv | hv
        · exact Or.inr (Or.inl hv)
        · exact Or.inr (Or.inr hv)
      · rw [if_neg (by omega : ¬ 52 * i + l = 52 * k + j), ui_at, if_neg (by omega)]
        simp only [if_neg q]
        exact f2 i hi l hl
  · have g7' := RV_fr g7 (I1 := ui I (15 + 6 * k + 4) j x) (J1 := J) (I1' := I1') (J1' := J1') (by rw [E 0 (by omega)]) (fun i _ => ⟨by rw [E _ (by omega)], E _ (by omega), rfl⟩) ⟨eo 4 (by decide) (by decide) (by decide) (by decide), eo 7 (by decide) (by decide) (by decide) (by decide), eo 8 (by decide) (by decide) (by decide) (by decide), ej 3 (by decide), ej 5 (by decide), ej 6 (by decide), ej 9 (by decide)⟩
    exact ⟨g7'.1, fun hh => absurd hh (by decide)⟩
theorem M_lockOf {P : Nat} (hP : TP P) (I : MI) (J : MJ) {k j : Nat} (hk : k < 4) (hj : j < 52) (h1 : I 0 1 = Int32.ofNat P) (h2 : I 0 2 = Int32.ofNat ((P - 1) / 2)) : ∃ r, Ev (fun n => ff_M_lockOf n I J (Int32.ofNat k) (Int32.ofNat j)) r ∧ r.1 = LK P (J 6 k) j ∧ (∀ x, x ≠ 17 → r.2.1 x = I x) ∧ ∀ x, x ≠ 0 → r.2.2 x = J x := by
  obtain ⟨u, u1, u2, u3, u4⟩ := M_locks hP I J (J 6 k) h1 h2
  refine ⟨(u.1 17 j, u.1, u.2), ?_, u2 j hj, u3, fun x hx => by funext y; exact u4 x y (fun hh => hx hh.1)⟩
  unfold ff_M_lockOf
  simp only [sm_nat (j := k) (by omega), sm_nat (j := j) (by omega), if_pos (sm_i2 (j := k) (N := 4) hk (by omega)), if_pos (sm_i2 (j := j) (N := 52) hj (by omega))]
  exact Ev.bind u1 (Ev.pure _)
theorem call_give {I : MI} {J : MJ} {I' : MI} {J' : MJ} (g : R I J I' J') (x y : Int32) : ∃ r r', Ev (fun n => ff_O_give n I J x y) r ∧ Ev (fun n => ff_M_give n I' J' x y) r' ∧ r.1 = r'.1 ∧ R r.2.1 r.2.2 r'.2.1 r'.2.2 := by
  obtain ⟨s, ph, t, P, b, ac, c, h, r, m, w, g⟩ := g
  have g := RG_th g 0
  unfold ff_M_give ff_O_give
  generalize ui I' 0 0 0 = I0 at g ⊢
  have gg := g
  obtain ⟨g1, g2, g3, g4, g5, g6, g7⟩ := g
  obtain ⟨hs, hs', s4, hph, hph', ph6, hP, hP', hTP, ht, t01, t2, t3, t4, hpp, hact, hb⟩ := g1
  have R0 : R I J I0 J' := ⟨s, ph, t, P, b, ac, c, h, r, m, w, gg⟩
  have c4 : (Int32.ofNat ph = 4) ↔ ph = 4 := nb_inj (y := 4) (by omega) (by omega)
  rw [hph, hph']
  rcases sc (s := s) (by omega) x with ⟨k, hk, rfl⟩ | hx
  · simp only [O_seat1 _ J hs s4 hk, M_seat1 _ J' hs' s4 hk, Option.bind_some, if_neg (show ¬ (1 : Int32) = 0 by decide)]
    rcases sc (s := 52) (by omega) y with ⟨j, hj, rfl⟩ | hy
    · simp only [O_pl1 _ hj, M_pl1 _ hj, Option.bind_some, if_neg (show ¬ (1 : Int32) = 0 by decide)]
      by_cases d : ph = 4
      · have e18 : I 3 j = I0 18 j := g5.1 (by omega) j hj
        have b52 := sm_i2 (j := j) (N := 52) hj (by omega)
        obtain ⟨tp, seals⟩ := RG_seal gg (by omega)
        have tp2 : I0 0 2 = Int32.ofNat ((P - 1) / 2) := (hTP (hpp (by omega)).1).2.1
        obtain ⟨sq1, sq2, sq3, sq4, sq5, sq6, sq7⟩ := seals k hk
        obtain ⟨ch1, ch2, ch3, ch4, ch5⟩ := g4 (by omega) k hk
        obtain ⟨z1, z2⟩ := RG_given gg hk hj
        simp only [if_pos (c4.mpr d), sm_nat (j := k) (by omega), sm_nat (j := j) (by omega), if_pos (sm_i2 (j := k) (N := 4) (by omega) (by omega)), if_pos b52, e18, ix52, sm_nat (j := 52 * k + j) (by omega), if_pos (sm_i2 (j := 52 * k + j) (N := 208) (by omega) (by omega)), ff_P_hasGiven]
        by_cases d2 : I0 18 j = -2
        · simp only [if_pos d2]
          exact ⟨_, _, Ev.pure _, Ev.pure _, rfl, R0⟩
        · simp only [if_neg d2]
          by_cases d3 : I0 18 j = Int32.ofNat k
          · simp only [if_pos d3]
            exact ⟨_, _, Ev.pure _, Ev.pure _, rfl, R0⟩
          · simp only [if_neg d3]
            by_cases d4 : w k j = 0
            · simp only [if_pos (z1.mpr d4), if_pos (z2.mpr d4), Option.bind_some, if_true, tl]
              obtain ⟨q, q1, q2, q3, q4⟩ := M_lockOf tp I0 J' (k := k) (by omega) hj hP' tp2
              obtain ⟨e, he, xe⟩ := sq7 j hj
              obtain ⟨e', he', xe'⟩ := LK_XP tp (J' 6 k) j
              have pc : ∀ n, ff_P_cheatsAt n I J (15 + 6 * k) 2 (Int32.ofNat j) = some (if bt (J (15 + 6 * k + 5) 2) j then 1 else 0) := fun n => P_cheats n I J (15 + 6 * k) (k := 2) (by omega) hj
              simp only [pc, Option.bind_some]
              have q0 : q.2.1 0 = I0 0 := q3 0 (by decide)
              have q12 : q.2.2 12 k = J' 12 k := by rw [q4 12 (by decide)]
              subst d
              by_cases d5 : bt (J' 12 k) j = true
              · have d5' : bt (J (15 + 6 * k + 5) 2) j = true := by rw [ch3]; exact d5
                simp only [d5', if_true, if_neg (show ¬ (1 : Int32) = 0 by decide)]
                have aO := N_abv tp xe
                have aM := M_abv tp (I := q.2.1) (J := q.2.2) (by rw [q0]; exact hP') (by rw [q0]; exact tp2) xe'
                refine ⟨(1, ui I (15 + 6 * k + 4) j (Int32.ofNat (abN P e)), J), (1, ui q.2.1 19 (52 * k + j) (Int32.ofNat (abN P e')), q.2.2), ?_, ?_, rfl, s, 4, t, P, b, ac, c, h, r, m, _, RG_gave (v := 2) (x := Int32.ofNat (abN P e)) (y := Int32.ofNat (abN P e')) gg hk hj ?_ ?_ ?_ ?_ ?_⟩
                · rw [he, hP]
                  exact Ev.bind aO (Ev.pure _)
                · refine Ev.bind q1 ?_
                  rw [q12, q2, he']
                  simp only [if_pos ((bt_M1 _ hj).mpr d5)]
                  exact Ev.bind aM (Ev.pure _)
                · intro z hz; dsimp only; rw [ui_else _ _ _ (by decide), q0]
                · intro z z0 z16 z17 z19; dsimp only; rw [ui_else _ _ _ z19, q3 z z17]
                · intro i; dsimp only; rw [ui_at, q3 19 (by decide)]; simp
                · exact q4
                · refine Or.inr ⟨rfl, ?_, ?_⟩
                  · rw [he, AB_nat (by have := xe.2.1; have := tp.2.1; omega)]
                  · rw [he', AB_nat (by have := xe'.2.1; have := tp.2.1; omega)]
              · have d5' : bt (J (15 + 6 * k + 5) 2) j = false := by rw [ch3]; simpa using d5
                simp only [d5', if_false, Bool.false_eq_true, if_true]
                refine ⟨(1, ui I (15 + 6 * k + 4) j (I (15 + 6 * k + 3) j), J), (1, ui q.2.1 19 (52 * k + j) q.1, q.2.2), Ev.pure _, ?_, rfl, s, 4, t, P, b, ac, c, h, r, m, _, RG_gave (v := 1) (x := I (15 + 6 * k + 3) j) (y := q.1) gg hk hj ?_ ?_ ?_ ?_ (Or.inl ⟨rfl, rfl, q2⟩)⟩
                · refine Ev.bind q1 ?_
                  rw [q12]
                  simp only [if_neg (show ¬ lg_cmp (J' 12 k >>> (Int32.toInt64 (Int32.ofNat j) &&& 63) &&& 1) 1 = 0 by rw [bt_M1 _ hj]; exact d5)]
                  exact Ev.pure _
                · intro z hz; dsimp only; rw [ui_else _ _ _ (by decide), q0]
                · intro z z0 z16 z17 z19; dsimp only; rw [ui_else _ _ _ z19, q3 z z17]
                · intro i; dsimp only; rw [ui_at, q3 19 (by decide)]; simp
                · exact q4
            · simp only [if_neg (show ¬ I (15 + 6 * k + 4) j = 0 by rw [z1]; exact d4), if_neg (show ¬ I0 19 (52 * k + j) = 0 by rw [z2]; exact d4), Option.bind_some, if_neg (show ¬ (1 : Int32) = 0 by decide)]
              exact ⟨_, _, Ev.pure _, Ev.pure _, rfl, R0⟩
      · simp only [if_neg (show ¬ Int32.ofNat ph = 4 by rw [c4]; exact d)]
        exact ⟨_, _, Ev.pure _, Ev.pure _, rfl, R0⟩
    · simp only [O_pl0 _ hy, M_pl0 _ hy, Option.bind_some, if_pos]
      by_cases d : ph = 4
      · simp only [if_pos (c4.mpr d)]
        exact ⟨_, _, Ev.pure _, Ev.pure _, rfl, R0⟩
      · simp only [if_neg (show ¬ Int32.ofNat ph = 4 by rw [c4]; exact d)]
        exact ⟨_, _, Ev.pure _, Ev.pure _, rfl, R0⟩
  · simp only [O_seat0 _ J hs s4 hx, M_seat0 _ J' hs' s4 hx, Option.bind_some, if_pos]
    by_cases d : ph = 4
    · simp only [if_pos (c4.mpr d)]
      exact ⟨_, _, Ev.pure _, Ev.pure _, rfl, R0⟩
    · simp only [if_neg (show ¬ Int32.ofNat ph = 4 by rw [c4]; exact d)]
      exact ⟨_, _, Ev.pure _, Ev.pure _, rfl, R0⟩
