theorem q_100k {N : Nat} (h : N < 2147483648) : (Int32.ofNat N ≤ 100000) ↔ N ≤ 100000 := nb_le (y := 100000) h (by omega)
theorem sum_up (f : Nat → Nat) (s : Nat) {f' : Nat → Nat} (h : ∀ k, k < s → f' k = f k) : sumN f' s = sumN f s := by
  induction s with
  | zero => rfl
  | succ s ih =>
    rw [sumN, sumN, ih (fun k hk => h k (by omega)), h s (by omega)]
theorem sum_le (f : Nat → Nat) (s : Nat) {f' : Nat → Nat} (h : ∀ k, k < s → f' k ≤ f k) : sumN f' s ≤ sumN f s := by
  induction s with
  | zero => exact Nat.le_refl _
  | succ s ih =>
    rw [sumN, sumN]
    have := ih (fun k hk => h k (by omega))
    have := h s (by omega)
    omega
def upN (f : Nat → Nat) (k v : Nat) : Nat → Nat := fun i => if i = k then v else f i
theorem call_seat {I : MI} {J : MJ} {I' : MI} {J' : MJ} (g : R I J I' J') (a : Int32) : ∃ r r', Ev (fun n => ff_O_seat n I J a) r ∧ Ev (fun n => ff_M_seat n I' J' a) r' ∧ r.1 = r'.1 ∧ R r.2.1 r.2.2 r'.2.1 r'.2.2 := by
  obtain ⟨s, ph, t, P, b, ac, c, h, r, m, w, g⟩ := g
  have g := RG_th g 0
  unfold ff_M_seat
  generalize ui I' 0 0 0 = I0 at g ⊢
  have gg := g
  obtain ⟨g1, g2, g3, g4, g5, g6, g7⟩ := g
  have g1' := g1
  obtain ⟨hs, hs', s4, hph, hph', ph6, hP, hP', hTP, ht, t01, t2, t3, t4, hpp, hact, hb⟩ := g1'
  unfold ff_O_seat
  rw [hs, hs', hph, hph']
  have c1 : (Int32.ofNat s = 4) ↔ s = 4 := nb_inj (y := 4) (by omega) (by omega)
  have c2 : ((4 : Int32) ≤ Int32.ofNat s) ↔ 4 ≤ s := nb_le (x := 4) (by omega) (by omega)
  have c3 : (Int32.ofNat ph = 0) ↔ ph = 0 := nb_inj (y := 0) (by omega) (by omega)
  have R0 : R I J I0 J' := ⟨s, ph, t, P, b, ac, c, h, r, m, w, gg⟩
  by_cases d1 : ph = 0
  · simp only [if_pos (c3.mpr d1)]
    by_cases d2 : s = 4
    · simp only [if_pos (c2.mpr (by omega)), if_pos (c1.mpr d2)]
      exact ⟨(-1, I, J), (-1, I0, J'), Ev.pure _, Ev.pure _, rfl, R0⟩
    · simp only [if_neg (show ¬ (4 : Int32) ≤ Int32.ofNat s by rw [c2]; omega), if_neg (show ¬ Int32.ofNat s = 4 by rw [c1]; exact d2)]
      by_cases d3 : a < 1
      · simp only [if_pos d3]
        exact ⟨(-1, I, J), (-1, I0, J'), Ev.pure _, Ev.pure _, rfl, R0⟩
      · simp only [if_neg d3]
        by_cases d4 : a ≤ 100000
        · simp only [if_pos d4]
          obtain ⟨N, rfl, hN⟩ := q_nn (a := a) (fun hh => d3 (Int32.lt_trans hh (by decide)))
          have hN1 : N ≤ 100000 := (q_100k hN).mp d4
          have b4 := sm_i2 (j := s) (N := 4) (by omega) (by omega)
          simp only [sm_nat (j := s) (by omega), if_pos b4]
          have e1 : (ui I (15 + 6 * s) 0 (Int32.ofNat N)) 0 2 = Int32.ofNat s := by rw [ui_at, if_neg (by omega), hs]
          have e2 : (ui I0 1 s (Int32.ofNat N)) 0 3 = Int32.ofNat s := by rw [ui_at, if_neg (by omega), hs']
          simp only [e1, e2, sm_nat (j := s) (by omega), if_pos b4]
          obtain ⟨q, q1, q2, q3, q4', q5', q6⟩ := P_begin (ui I (15 + 6 * s) 0 (Int32.ofNat N)) J (15 + 6 * s)
          have e3 : q.1 0 2 = Int32.ofNat s := by rw [q4' 0 (by omega) (by omega)]; exact e1
          have e4 : (ui (ui I0 1 s (Int32.ofNat N)) 21 s 0) 0 3 = Int32.ofNat s := by rw [ui_at, if_neg (by omega)]; exact e2
          have e5 : ∀ X : MI, ∀ y : Nat, (ui X 0 y (Int32.ofNat s + 1)) 0 y - 1 = Int32.ofNat s := fun X y => by
            rw [ui_at, if_pos ⟨rfl, rfl⟩, sm_suc, nb_pred (by omega)]; rfl
          rw [e4]
          refine ⟨(Int32.ofNat s, ui q.1 0 2 (Int32.ofNat s + 1), q.2), (Int32.ofNat s, ui (ui (ui I0 1 s (Int32.ofNat N)) 21 s 0) 0 3 (Int32.ofNat s + 1), J'), ?_, ?_, rfl, ?_⟩
          · refine Ev.bind q1 ?_
            rw [e3, e5]
            exact Ev.pure _
          · rw [e5]
            exact Ev.pure _
          · have b0 : b = 0 := by omega
            have t0 : t = 0 := t01 (by omega)
            subst b0 t0 d1
            refine ⟨s + 1, 0, 0, P, 0, ac, upN c s N, upN h s 0, upN r s 0, m, fun _ _ => 0, ?_, ?_, ?_, ?_, ?_, ?_, ?_⟩
            · unfold RS
              have k0 : ∀ y, y ≠ 2 → (ui q.1 0 2 (Int32.ofNat s + 1)) 0 y = I 0 y := fun y hy => by
                rw [ui_at, if_neg (by omega), q4' 0 (by omega) (by omega), ui_else _ _ _ (by omega)]
              have k1 : ∀ y, y ≠ 3 → (ui (ui (ui I0 1 s (Int32.ofNat N)) 21 s 0) 0 3 (Int32.ofNat s + 1)) 0 y = I0 0 y := fun y hy => by
                rw [ui_at, if_neg (by omega), ui_else _ _ _ (by omega), ui_else _ _ _ (by omega)]
              dsimp only
              rw [k0 1 (by decide), k0 0 (by decide), k0 4 (by decide), k0 7 (by decide), k1 4 (by decide), k1 1 (by decide), k1 2 (by decide), k1 20 (by decide), k1 30 (by decide), k1 31 (by decide)]
              refine ⟨by rw [ui_at, if_pos ⟨rfl, rfl⟩, sm_suc], by rw [ui_at, if_pos ⟨rfl, rfl⟩, sm_suc], by omega, hph, hph', by omega, hP, hP', hTP, ht, fun _ => rfl, fun hh => absurd hh (by decide), fun hh => absurd hh (by decide), fun hh => absurd hh (by decide), fun hh => absurd rfl hh, hact, ?_⟩
              rcases hb with hb | hb
              · exact Or.inl hb
              · exact absurd hb.1 (by decide)
            · obtain ⟨f1, f2⟩ := g2
              refine ⟨fun k hk => ?_, ?_⟩
              · dsimp only
                unfold upN
                by_cases e : k = s
                · subst e
                  simp only [if_pos]
                  rw [ui_else _ _ _ (by omega), q2, q2, q2, q2, q2]
                  simp only [bh, ui_at]
                  simp
                · obtain ⟨x1, x2, x3, x4, x5, x6, x7, x8, x9, x10⟩ := f1 k (by omega)
                  simp only [if_neg e]
                  have k0 : (ui q.1 0 2 (Int32.ofNat s + 1)) (15 + 6 * k) = I (15 + 6 * k) := by
                    rw [ui_else _ _ _ (by omega), q4' _ (by omega) (by omega), ui_else _ _ _ (by omega)]
                  rw [k0]
                  refine ⟨x1, ?_, x3, ?_, x5, fun hh => absurd hh (by decide), fun _ => x7 rfl, x8, fun hh => absurd hh (by decide), fun hh => absurd hh (by decide)⟩
                  · simp only [ui_at]; grind
                  · simp only [ui_at]; grind
              · rw [sumN, sum_up (fun k => c k + h k) s (fun k hk => by simp only [upN, if_neg (show ¬ k = s by omega)])]
                simp only [upN, if_pos]
                omega
            · refine ⟨fun k hk => ⟨?_, fun hh => absurd hh (by decide)⟩, fun _ k hk => ?_⟩
              · dsimp only
                have z : I0 2 k = 0 := g3.2 rfl k (by omega)
                have z2 : (ui (ui (ui I0 1 s (Int32.ofNat N)) 21 s 0) 0 3 (Int32.ofNat s + 1)) 2 k = 0 := by
                  rw [ui_else _ _ _ (by decide), ui_else _ _ _ (by decide), ui_else _ _ _ (by decide)]; exact z
                refine Or.inl ⟨?_, z2⟩
                rw [ui_else _ _ _ (by omega)]
                by_cases e : k = s
                · subst e; rw [q2]; rfl
                · rw [q4' _ (by omega) (by omega), ui_else _ _ _ (by omega)]
                  rcases (g3.1 k (by omega)).1 with y | y
                  · exact y.1
                  · exact absurd (z.symm.trans y.2.1) (by decide)
              · dsimp only
                rw [ui_else _ _ _ (by decide), ui_else _ _ _ (by decide), ui_else _ _ _ (by decide)]; exact g3.2 rfl k hk
            · exact fun hh => absurd hh (by decide)
            · obtain ⟨f1, f2, f3⟩ := g5
              have f4 := (f3 (by omega)).2
              have z : ∀ i, i < 208 → (ui (ui (ui I0 1 s (Int32.ofNat N)) 21 s 0) 0 3 (Int32.ofNat s + 1)) 19 i = 0 := fun i hi => by
                rw [ui_else _ _ _ (by decide), ui_else _ _ _ (by decide), ui_else _ _ _ (by decide)]; exact f4 i hi
              refine ⟨fun hh => absurd hh (by decide), fun k hk j hj => Or.inl ⟨rfl, ?_, z _ (by omega)⟩, fun _ => ⟨fun _ _ _ _ => rfl, z⟩⟩
              dsimp only
              rw [ui_else _ _ _ (by omega)]
              by_cases e : k = s
              · subst e; exact q3 j hj
              · rw [q4' _ (by omega) (by omega), ui_else _ _ _ (by omega)]
                rcases f2 k (by omega) j hj with y | y | y
                · exact y.2.1
                · exact absurd ((f3 (by omega)).1 k (by omega) j hj) (by rw [y.1]; decide)
                · exact absurd ((f3 (by omega)).1 k (by omega) j hj) (by rw [y.1]; decide)
            · refine ⟨fun u hu => absurd hu (by omega), fun hL => ⟨fun k hk q => ?_, fun hp => ?_⟩⟩
              · dsimp only at q
                rw [ui_else _ _ _ (by decide), ui_else _ _ _ (by decide), ui_else _ _ _ (by decide), g3.2 rfl k (by omega)] at q
                exact absurd q (by decide)
              · obtain ⟨_, x2⟩ := g6.2 hL
                obtain ⟨x2, x3⟩ := x2 hp
                dsimp only
                refine ⟨fun j hj => ?_, fun u hu j hj => ?_⟩
                · rw [ui_else _ _ _ (by omega), q4' _ (by omega) (by omega), ui_else _ _ _ (by omega)]; exact x2 j hj
                · rw [ui_else _ _ _ (by omega), q4' _ (by omega) (by omega), ui_else _ _ _ (by omega), ui_else _ _ _ (by decide), ui_else _ _ _ (by decide), ui_else _ _ _ (by decide)]; exact x3 u hu j hj
            · exact ⟨fun hh => absurd hh (by decide), fun hh => absurd hh (by decide)⟩
        · simp only [if_neg d4]
          exact ⟨(-1, I, J), (-1, I0, J'), Ev.pure _, Ev.pure _, rfl, R0⟩
  · simp only [if_neg (show ¬ Int32.ofNat ph = 0 by rw [c3]; exact d1)]
    by_cases d2 : s = 4
    · simp only [if_pos (c1.mpr d2)]
      exact ⟨(-1, I, J), (-1, I0, J'), Ev.pure _, Ev.pure _, rfl, R0⟩
    · simp only [if_neg (show ¬ Int32.ofNat s = 4 by rw [c1]; exact d2)]
      exact ⟨(-1, I, J), (-1, I0, J'), Ev.pure _, Ev.pure _, rfl, R0⟩
