theorem call_bet {I : MI} {J : MJ} {I' : MI} {J' : MJ} (g : R I J I' J') (x y z : Int32) : ∃ r r', Ev (fun n => ff_O_bet n I J x y z) r ∧ Ev (fun n => ff_M_bet n I' J' x y z) r' ∧ r.1 = r'.1 ∧ R r.2.1 r.2.2 r'.2.1 r'.2.2 := by
  obtain ⟨s, ph, t, P, b, ac, c, h, r, m, w, g⟩ := g
  have g := RG_th g 0
  unfold ff_M_bet ff_O_bet
  generalize ui I' 0 0 0 = I0 at g ⊢
  have gg := g
  obtain ⟨g1, g2, g3, g4, g5, g6, g7⟩ := g
  obtain ⟨hs, hs', s4, hph, hph', ph6, hP, hP', hTP, ht, t01, t2, t3, t4, hpp, hact, hb⟩ := g1
  have R0 : R I J I0 J' := ⟨s, ph, t, P, b, ac, c, h, r, m, w, gg⟩
  rcases hb with ⟨b0, e30, e7⟩ | ⟨b1, e30, p4, as, e7⟩
  · simp only [if_pos e7, if_pos e30]
    exact ⟨_, _, Ev.pure _, Ev.pure _, rfl, R0⟩
  · subst b1 p4
    have na : ¬ Int32.ofNat ac = -1 := fun hh => absurd (show (Int32.ofNat ac) < 0 by rw [hh]; decide) (sm_pos (by omega))
    have e31 : I0 0 31 = Int32.ofNat ac := by rw [← hact]; exact e7
    simp only [e7, e31, e30, if_neg na, if_neg (show ¬ (1 : Int32) = 0 by decide)]
    by_cases d : x = Int32.ofNat ac
    · subst d
      have bd := RB_bd g2 s4 as
      obtain ⟨w1, w2, w3, w4, w5, w6, w7, w8, w9, w10⟩ := g2.1 ac as
      have w6 := w6 rfl
      have mO := O_most (r := r) J hs s4 (fun k hk => ⟨(g2.1 k hk).2.2.2.2.1, by have := RB_bd g2 s4 hk; omega⟩)
      have mM := M_most (r := r) J' hs' s4 (fun k hk => ⟨(g2.1 k hk).2.2.2.2.2.1 rfl, by have := RB_bd g2 s4 hk; omega⟩)
      have mx1 := le_mx r s ac as
      have mx2 := mx_le r (B := 400000) s (fun k hk => by have := RB_bd g2 s4 hk; omega)
      generalize hmis : mxN r s - r ac = mis
      have qs : Int32.ofNat (mxN r s) - Int32.ofNat (r ac) = Int32.ofNat mis := by rw [q_sub mx1, hmis]
      have i4 := sm_i2 (j := ac) (N := 4) (by omega) (by omega)
      simp only [if_true, sm_nat (j := ac) (by omega), if_pos i4]
      -- kinds that are none
      by_cases dk : y = 0 ∨ y = 1 ∨ y = 2
      · have yn : ¬ y < 0 ∧ y ≤ 2 := by rcases dk with rfl | rfl | rfl <;> decide
        simp only [if_neg yn.1, if_pos yn.2]
        have hO : ∀ (q : Int32 × MI × MJ), Ev (fun n => if y = 0 then ff_O_bet_132 n (ui I (15 + 6 * ac) 3 1) J (Int32.ofNat ac) y z (15 + 6 * ac) (Int32.ofNat mis) else if y = 1 then tl (if I (15 + 6 * ac) 0 < Int32.ofNat mis then I (15 + 6 * ac) 0 else Int32.ofNat mis) fun y9 => (ff_P_putIn n I J (15 + 6 * ac) y9).bind fun r10 => ff_O_bet_132 n r10.1 r10.2 (Int32.ofNat ac) y z (15 + 6 * ac) (Int32.ofNat mis) else if y = 2 then if z < 1 then some (0, I, J) else if z ≤ I (15 + 6 * ac) 0 - Int32.ofNat mis then (ff_P_putIn n I J (15 + 6 * ac) (Int32.ofNat mis + z)).bind fun r14 => (ff_O_awaitAll n r14.1 r14.2).bind fun r15 => ff_O_bet_132 n r15.1 r15.2 (Int32.ofNat ac) y z (15 + 6 * ac) (Int32.ofNat mis) else some (0, I, J) else some (0, I, J)) q → Ev (fun n => (ff_O_mostInRound n I J).bind fun r5 => tl (r5 - I (15 + 6 * ac) 2) fun y6 => if y = 0 then ff_O_bet_132 n (ui I (15 + 6 * ac) 3 1) J (Int32.ofNat ac) y z (15 + 6 * ac) y6 else if y = 1 then tl (if I (15 + 6 * ac) 0 < y6 then I (15 + 6 * ac) 0 else y6) fun y9 => (ff_P_putIn n I J (15 + 6 * ac) y9).bind fun r10 => ff_O_bet_132 n r10.1 r10.2 (Int32.ofNat ac) y z (15 + 6 * ac) y6 else if y = 2 then if z < 1 then some (0, I, J) else if z ≤ I (15 + 6 * ac) 0 - y6 then (ff_P_putIn n I J (15 + 6 * ac) (y6 + z)).bind fun r14 => (ff_O_awaitAll n r14.1 r14.2).bind fun r15 => ff_O_bet_132 n r15.1 r15.2 (Int32.ofNat ac) y z (15 + 6 * ac) y6 else some (0, I, J) else some (0, I, J)) q := fun q hq => by
          refine Ev.bind mO ?_
          unfold tl
          rw [w5, qs]
          exact hq
        have hM : ∀ (q : Int32 × MI × MJ), Ev (fun n => if y = 2 then if z < 1 then some (0, I0, J') else if z ≤ I0 1 ac - Int32.ofNat mis then ff_M_bet_69 n I0 J' (Int32.ofNat ac) y z (Int32.ofNat mis) else some (0, I0, J') else ff_M_bet_69 n I0 J' (Int32.ofNat ac) y z (Int32.ofNat mis)) q → Ev (fun n => (ff_M_most n I0 J').bind fun r18 => tl (r18 - I0 22 ac) fun y20 => if y = 2 then if z < 1 then some (0, I0, J') else if z ≤ I0 1 ac - y20 then ff_M_bet_69 n I0 J' (Int32.ofNat ac) y z y20 else some (0, I0, J') else ff_M_bet_69 n I0 J' (Int32.ofNat ac) y z y20) q := fun q hq => by
          refine Ev.bind mM ?_
          unfold tl
          rw [w6, qs]
          exact hq
        rcases dk with rfl | rfl | rfl
        · -- FOLD
          obtain ⟨q, q', q1, q2, q3, q4⟩ := bet_end (I2 := ui I (15 + 6 * ac) 3 1) (I2' := ui I0 20 ac 0) (c' := c) (h' := h) (r' := r) gg ⟨fun k hk => by
              obtain ⟨u1, u2, u3, u4, u5, u6, u7, u8, u9, u10⟩ := g2.1 k hk
              have e' : ∀ p, p ≠ 20 → (ui I0 20 ac 0) p = I0 p := fun p hp => ui_else _ _ _ hp
              rw [e' 1 (by decide), e' 21 (by decide), e' 22 (by decide), e' 23 (by decide)]
              have e : ∀ y, y ≠ 3 → (ui I (15 + 6 * ac) 3 1) (15 + 6 * k) y = I (15 + 6 * k) y := fun y hy => by rw [ui_at, if_neg (by omega)]
              rw [e 0 (by decide), e 1 (by decide), e 2 (by decide), e 4 (by decide)]
              refine ⟨u1, u2, u3, u4, u5, u6, u7, u8, fun hh => ?_, u10⟩
              rw [ui_at, ui_at]
              by_cases f : k = ac
              · rw [if_pos ⟨by omega, rfl⟩, if_pos ⟨rfl, f⟩]; exact Or.inr ⟨rfl, rfl⟩
              · rw [if_neg (by omega), if_neg (by omega)]; exact u9 hh, g2.2⟩
            (ui_else _ _ _ (by omega)) (fun k hk y hy => by rw [ui_at, if_neg (by omega)]) (fun x hx => ui_else _ _ _ (hx ac as)) (ui_else _ _ _ (by decide)) (fun x _ x20 _ _ _ => ui_else _ _ _ x20) (Int32.ofNat ac) 0 z (Int32.ofNat mis) 0 z (Int32.ofNat mis)
          refine ⟨q, q', hO q ?_, hM q' ?_, q3, q4⟩
          · simp only [if_true]; exact q1
          · simp only [if_neg (show ¬ (0 : Int32) = 2 by decide), ff_M_bet_69, ff_M_bet_80, ff_M_bet_112, if_true, sm_nat (j := ac) (by omega), if_pos i4, if_neg (show ¬ (0 : Int32) = 1 by decide)]
            exact q2
        · -- CALL
          have mn : ∃ a, a ≤ c ac ∧ (if I (15 + 6 * ac) 0 < Int32.ofNat mis then I (15 + 6 * ac) 0 else Int32.ofNat mis) = Int32.ofNat a ∧ ((I0 1 ac ≤ Int32.ofNat mis ∧ I0 1 ac = Int32.ofNat a) ∨ (¬ I0 1 ac ≤ Int32.ofNat mis ∧ a = mis)) := by
            rw [w1, w2]
            by_cases e : c ac ≤ mis
            · refine ⟨c ac, Nat.le_refl _, ?_, Or.inl ⟨(nb_le (by omega) (by omega)).mpr e, rfl⟩⟩
              by_cases e2 : c ac < mis
              · rw [if_pos ((q_lt (by omega) (by omega)).mpr e2)]
              · rw [if_neg (by rw [q_lt (by omega) (by omega)]; exact e2)]; congr 1; omega
            · refine ⟨mis, by omega, ?_, Or.inr ⟨by rw [nb_le (by omega) (by omega)]; exact e, rfl⟩⟩
              rw [if_neg (by rw [q_lt (by omega) (by omega)]; omega)]
          obtain ⟨a, ha, m1, m2⟩ := mn
          obtain ⟨q, q', q1, q2, q3, q4⟩ := bet_end gg (RB_put s4 as g2 ha) (by rw [ui_else _ _ _ (by omega), ui_else _ _ _ (by omega), ui_else _ _ _ (by omega)]) (fun k hk y hy => by rw [ui_at, if_neg (by omega), ui_at, if_neg (by omega), ui_at, if_neg (by omega)]) (fun x hx => by rw [ui_else _ _ _ (hx ac as), ui_else _ _ _ (hx ac as), ui_else _ _ _ (hx ac as)]) (by rw [ui_else _ _ _ (by decide), ui_else _ _ _ (by decide), ui_else _ _ _ (by decide)]) (fun x x1 _ x21 x22 _ => by rw [ui_else _ _ _ x22, ui_else _ _ _ x21, ui_else _ _ _ x1]) (Int32.ofNat ac) 1 z (Int32.ofNat mis) 1 z (Int32.ofNat mis)
          refine ⟨q, q', hO q ?_, hM q' ?_, q3, q4⟩
          · simp only [if_neg (show ¬ (1 : Int32) = 0 by decide), if_true, tl, m1, O_putIn J _ ac a w1 w3 w5, Option.bind_some]
            exact q1
          · simp only [if_neg (show ¬ (1 : Int32) = 2 by decide), ff_M_bet_69, ff_M_bet_80, ff_M_bet_112, ff_M_bet_109, if_true, sm_nat (j := ac) (by omega), if_pos i4, if_neg (show ¬ (1 : Int32) = 0 by decide)]
            rcases m2 with ⟨m2, m3⟩ | ⟨m2, rfl⟩
            · simp only [if_pos m2]
              rw [m3]
              simp only [M_pay J' _ (show ac < 4 by omega) a w2 w4 w6, Option.bind_some]
              exact q2
            · simp only [if_neg m2, M_pay J' _ (show ac < 4 by omega) a w2 w4 w6, Option.bind_some]
              exact q2
        · -- RAISE
          by_cases d1 : z < 1
          · refine ⟨(0, I, J), (0, I0, J'), hO _ ?_, hM _ ?_, rfl, R0⟩
            · simp only [if_neg (show ¬ (2 : Int32) = 0 by decide), if_neg (show ¬ (2 : Int32) = 1 by decide), if_true, if_pos d1]
              exact Ev.pure _
            · simp only [if_true, if_pos d1]
              exact Ev.pure _
          · by_cases d2 : z ≤ Int32.ofNat (c ac) - Int32.ofNat mis
            · obtain ⟨N, rfl, hN⟩ := q_nn (a := z) (fun hh => d1 (Int32.lt_trans hh (by decide)))
              have hN1 : 1 ≤ N := Nat.not_lt.mp fun hh => d1 ((q_lt (y := 1) hN (by omega)).mpr hh)
              have ha : N + mis ≤ c ac := q_up hN (by omega) (by omega) d2 hN1
              have ha : mis + N ≤ c ac := by omega
              have hB := RB_put s4 as g2 ha
              generalize hX : ui (ui (ui I (15 + 6 * ac) 0 (Int32.ofNat (c ac) - Int32.ofNat (mis + N))) (15 + 6 * ac) 2 (Int32.ofNat (r ac) + Int32.ofNat (mis + N))) (15 + 6 * ac) 1 (Int32.ofNat (h ac) + Int32.ofNat (mis + N)) = X at hB
              generalize hY : ui (ui (ui I0 1 ac (Int32.ofNat (c ac) - Int32.ofNat (mis + N))) 21 ac (Int32.ofNat (h ac) + Int32.ofNat (mis + N))) 22 ac (Int32.ofNat (r ac) + Int32.ofNat (mis + N)) = Y at hB
              have X0 : X 0 = I 0 := by rw [← hX, ui_else _ _ _ (by omega), ui_else _ _ _ (by omega), ui_else _ _ _ (by omega)]
              have Y0 : Y 0 = I0 0 := by rw [← hY, ui_else _ _ _ (by decide), ui_else _ _ _ (by decide), ui_else _ _ _ (by decide)]
              obtain ⟨v, v1, v2, v3, v4, v5⟩ := O_await X J (by rw [X0]; exact hs) s4
              obtain ⟨Z, z1, z2, z3⟩ := M_bet129 Y J' (by rw [Y0]; exact hs') s4 (Int32.ofNat ac) 2 (Int32.ofNat N) (Int32.ofNat mis)
              have hB2 : RB s 4 1 (upN c ac (c ac - (mis + N))) (upN h ac (h ac + (mis + N))) (upN r ac (r ac + (mis + N))) v.1 Z := by
                refine ⟨fun k hk => ?_, hB.2⟩
                obtain ⟨u1, u2, u3, u4, u5, u6, u7, u8, u9, u10⟩ := hB.1 k hk
                rw [v3 _ 0 (by decide), v3 _ 1 (by decide), v3 _ 2 (by decide), v3 _ 3 (by decide), z2 1 (by decide), z2 21 (by decide), z2 22 (by decide), z2 20 (by decide), v2 k hk, z1 k hk]
                exact ⟨u1, u2, u3, u4, u5, u6, u7, u8, u9, fun _ => rfl⟩
              obtain ⟨q, q', q1, q2, q3, q4⟩ := bet_end gg hB2 (by rw [v4 0 (fun k _ => by omega), X0]) (fun k hk y hy => by rw [v3 _ y (by omega), ← hX, ui_at, if_neg (by omega), ui_at, if_neg (by omega), ui_at, if_neg (by omega)]) (fun x hx => by rw [v4 x hx, ← hX, ui_else _ _ _ (hx ac as), ui_else _ _ _ (hx ac as), ui_else _ _ _ (hx ac as)]) (by rw [z2 0 (by decide), Y0]) (fun x x1 _ x21 x22 x23 => by rw [z2 x x23, ← hY, ui_else _ _ _ x22, ui_else _ _ _ x21, ui_else _ _ _ x1]) (Int32.ofNat ac) 2 (Int32.ofNat N) (Int32.ofNat mis) 2 (Int32.ofNat N) (Int32.ofNat mis)
              have mm : Int32.ofNat mis + Int32.ofNat N = Int32.ofNat (mis + N) := (Int32.ofNat_add _ _).symm
              refine ⟨q, q', hO q ?_, hM q' ?_, q3, q4⟩
              · simp only [if_neg (show ¬ (2 : Int32) = 0 by decide), if_neg (show ¬ (2 : Int32) = 1 by decide), if_true, if_neg d1, w1, if_pos d2, mm, O_putIn J _ ac (mis + N) w1 w3 w5, Option.bind_some, hX]
                refine Ev.bind v1 ?_
                rw [v5]
                exact q1
              · simp only [if_true, if_neg d1, w2, if_pos d2, ff_M_bet_69, ff_M_bet_80, ff_M_bet_112, if_neg (show ¬ (2 : Int32) = 0 by decide), if_neg (show ¬ (2 : Int32) = 1 by decide), mm, M_pay J' _ (show ac < 4 by omega) (mis + N) w2 w4 w6, Option.bind_some, hY]
                exact z3 _ q2
            · refine ⟨(0, I, J), (0, I0, J'), hO _ ?_, hM _ ?_, rfl, R0⟩
              · simp only [if_neg (show ¬ (2 : Int32) = 0 by decide), if_neg (show ¬ (2 : Int32) = 1 by decide), if_true, if_neg d1, w1, if_neg d2]
                exact Ev.pure _
              · simp only [if_true, if_neg d1, w2, if_neg d2]
                exact Ev.pure _
      · have n0 : ¬ y = 0 := fun hh => dk (Or.inl hh)
        have n1 : ¬ y = 1 := fun hh => dk (Or.inr (Or.inl hh))
        have n2 : ¬ y = 2 := fun hh => dk (Or.inr (Or.inr hh))
        have yo : y < 0 ∨ (¬ y < 0 ∧ ¬ y ≤ 2) := by
          by_cases e : y < 0
          · exact Or.inl e
          · refine Or.inr ⟨e, fun hh => ?_⟩
            obtain ⟨N, rfl, hN⟩ := q_nn e
            have := (nb_le (y := 2) hN (by omega)).mp hh
            have : N ≠ 0 := fun q => n0 (by rw [q]; rfl)
            have : N ≠ 1 := fun q => n1 (by rw [q]; rfl)
            have : N ≠ 2 := fun q => n2 (by rw [q]; rfl)
            omega
        simp only [if_neg n0, if_neg n1, if_neg n2]
        have oE : Ev (fun n => (ff_O_mostInRound n I J).bind fun r5 => tl (r5 - I (15 + 6 * ac) 2) fun y6 => some ((0 : Int32), I, J)) ((0 : Int32), I, J) := Ev.bind mO (Ev.pure _)
        rcases yo with e | ⟨e, e2⟩
        · simp only [if_pos e]
          exact ⟨_, _, oE, Ev.pure _, rfl, R0⟩
        · simp only [if_neg e, if_neg e2]
          exact ⟨_, _, oE, Ev.pure _, rfl, R0⟩
    · simp only [if_neg d]
      exact ⟨_, _, Ev.pure _, Ev.pure _, rfl, R0⟩
