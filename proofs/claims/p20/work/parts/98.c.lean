/-! state, player -/
def mxN (r : Nat → Nat) : Nat → Nat
  | 0 => 0
  | k + 1 => max (mxN r k) (r k)
theorem mx_le (r : Nat → Nat) {B : Nat} : ∀ s, (∀ k, k < s → r k ≤ B) → mxN r s ≤ B
  | 0, _ => Nat.zero_le _
  | s + 1, h => by
    rw [mxN]
    have := mx_le r s (fun k hk => h k (by omega))
    have := h s (by omega)
    omega
theorem le_mx (r : Nat → Nat) : ∀ s k, k < s → r k ≤ mxN r s
  | 0, k, h => absurd h (by omega)
  | s + 1, k, h => by
    rw [mxN]
    by_cases e : k = s
    · subst e; omega
    · have := le_mx r s k (by omega)
      omega
theorem le_sum (f : Nat → Nat) : ∀ s k, k < s → f k ≤ sumN f s
  | 0, k, h => absurd h (by omega)
  | s + 1, k, h => by
    rw [sumN]
    by_cases e : k = s
    · subst e; omega
    · have := le_sum f s k (by omega)
      omega
theorem RB_bd {s ph b : Nat} {c h r : Nat → Nat} {I I' : MI} (g : RB s ph b c h r I I') (hs : s ≤ 4) {k : Nat} (hk : k < s) : c k + h k ≤ 400000 ∧ r k ≤ h k := by
  have h1 := le_sum (fun k => c k + h k) s k hk
  have h2 := g.2
  have h3 := (g.1 k hk).2.2.2.2.2.2.2.1
  omega
theorem O_most {s : Nat} {r : Nat → Nat} {I : MI} (J : MJ) (hs : I 0 2 = Int32.ofNat s) (s4 : s ≤ 4) (hr : ∀ k, k < s → I (15 + 6 * k) 2 = Int32.ofNat (r k) ∧ r k ≤ 400000) : Ev (fun n => ff_O_mostInRound n I J) (Int32.ofNat (mxN r s)) := by
  have H := Ev.loop0 (α := Int32) (fun n x j => ff_O_mostInRound_4 I J n x (Int32.ofNat j)) s (fun j x => x = Int32.ofNat (mxN r j)) (fun v => v = Int32.ofNat (mxN r s)) 0 rfl ?_ ?_
  · obtain ⟨b, h1, h2⟩ := H
    rw [h2] at h1; exact h1
  · rintro x rfl
    exact ⟨_, Ev.suc (Ev.now fun n => by rw [ff_O_mostInRound_4, hs, if_pos ((q_cl s4 (by omega)).mpr (Nat.le_refl _))]), rfl⟩
  · rintro j x hj rfl
    obtain ⟨e1, e2⟩ := hr j hj
    have := mx_le r j (fun k hk => (hr k (by omega)).2)
    refine Or.inr ⟨_, rfl, 0, fun n _ => ?_⟩
    rw [ff_O_mostInRound_4, hs, if_neg (by rw [q_cl s4 (by omega)]; omega), if_pos (sm_in (N := 4) (by omega) (by omega)), sm_nat (by omega), e1, sm_suc]
    unfold tl
    congr 1
    rw [mxN]
    by_cases e : mxN r j < r j
    · rw [if_pos ((q_lt (by omega) (by omega)).mpr e)]; congr 1; omega
    · rw [if_neg (by rw [q_lt (by omega) (by omega)]; exact e)]; congr 1; omega
theorem M_most {s : Nat} {r : Nat → Nat} {I : MI} (J : MJ) (hs : I 0 3 = Int32.ofNat s) (s4 : s ≤ 4) (hr : ∀ k, k < s → I 22 k = Int32.ofNat (r k) ∧ r k ≤ 400000) : Ev (fun n => ff_M_most n I J) (Int32.ofNat (mxN r s)) := by
  have H := Ev.loop0 (α := Int32) (fun n x j => ff_M_most_4 I J n x (Int32.ofNat j)) s (fun j x => x = Int32.ofNat (mxN r j)) (fun v => v = Int32.ofNat (mxN r s)) 0 rfl ?_ ?_
  · obtain ⟨b, h1, h2⟩ := H
    rw [h2] at h1; exact h1
  · rintro x rfl
    exact ⟨_, Ev.suc (Ev.now fun n => by rw [ff_M_most_4, hs, if_pos ((q_cl s4 (by omega)).mpr (Nat.le_refl _))]), rfl⟩
  · rintro j x hj rfl
    obtain ⟨e1, e2⟩ := hr j hj
    have := mx_le r j (fun k hk => (hr k (by omega)).2)
    refine Or.inr ⟨_, rfl, 0, fun n _ => ?_⟩
    simp only [ff_M_most_4, hs, if_neg (show ¬ Int32.ofNat s ≤ Int32.ofNat j by rw [q_cl s4 (by omega)]; omega), if_pos (sm_i2 (j := j) (N := 4) (by omega) (by omega)), sm_nat (j := j) (by omega), e1, sm_suc, tl, mxN]
    by_cases e : r j ≤ mxN r j
    · rw [if_pos ((nb_le (by omega) (by omega)).mpr e)]; congr 2; omega
    · rw [if_neg (by rw [nb_le (by omega) (by omega)]; exact e)]; congr 2; omega
theorem O_sum {s : Nat} {h : Nat → Nat} {I : MI} (J : MJ) (hs : I 0 2 = Int32.ofNat s) (s4 : s ≤ 4) (hr : ∀ k, k < s → I (15 + 6 * k) 1 = Int32.ofNat (h k)) : Ev (fun n => ff_O_sumInHand n I J) (Int32.ofNat (sumN h s)) := by
  have H := Ev.loop0 (α := Int32) (fun n x j => ff_O_sumInHand_4 I J n x (Int32.ofNat j)) s (fun j x => x = Int32.ofNat (sumN h j)) (fun v => v = Int32.ofNat (sumN h s)) 0 rfl ?_ ?_
  · obtain ⟨b, h1, h2⟩ := H
    rw [h2] at h1; exact h1
  · rintro x rfl
    exact ⟨_, Ev.suc (Ev.now fun n => by rw [ff_O_sumInHand_4, hs, if_pos ((q_cl s4 (by omega)).mpr (Nat.le_refl _))]), rfl⟩
  · rintro j x hj rfl
    refine Or.inr ⟨_, rfl, 0, fun n _ => ?_⟩
    simp only [ff_O_sumInHand_4, hs, if_neg (show ¬ Int32.ofNat s ≤ Int32.ofNat j by rw [q_cl s4 (by omega)]; omega), if_pos (sm_i2 (j := j) (N := 4) (by omega) (by omega)), sm_nat (j := j) (by omega), hr j hj, sm_suc, tl, sumN, Int32.ofNat_add]
theorem O_next {s t ph : Nat} {I : MI} (J : MJ) (n : Nat) (hs : I 0 2 = Int32.ofNat s) (s4 : s ≤ 4) (hph : I 0 1 = Int32.ofNat ph) (ph6 : ph ≤ 6) (ht : I 0 4 = Int32.ofNat t) (t8 : t < 2 * s ∨ ¬ (ph = 2 ∨ ph = 3)) : ff_O_nextToTurn n I J = some (if ph = 2 ∨ ph = 3 then Int32.ofNat (if t < s then t else t - s) else -1) := by
  unfold ff_O_nextToTurn ff_O_nextToTurn_18 ff_O_playerOfTurn
  have c2 : (Int32.ofNat ph = 2) ↔ ph = 2 := nb_inj (y := 2) (by omega) (by omega)
  have c3 : (Int32.ofNat ph = 3) ↔ ph = 3 := nb_inj (y := 3) (by omega) (by omega)
  rw [hs, hph, ht]
  by_cases d : ph = 2 ∨ ph = 3
  · have t8 : t < 2 * s := by omega
    rw [if_pos d]
    have z : ((if Int32.ofNat s ≤ Int32.ofNat t then some (Int32.ofNat t - Int32.ofNat s) else some (Int32.ofNat t)).bind fun r1 => some r1) = some (Int32.ofNat (if t < s then t else t - s)) := by
      by_cases e : t < s
      · rw [if_neg (by rw [nb_le (by omega) (by omega)]; omega), if_pos e]; rfl
      · rw [if_pos (by rw [nb_le (by omega) (by omega)]; omega), if_neg e, q_sub (by omega)]; rfl
    rw [z]
    rcases d with d | d
    · rw [if_pos (c2.mpr d)]
    · rw [if_neg (by rw [c2]; omega), if_pos (c3.mpr d)]
  · rw [if_neg d, if_neg (by rw [c2]; omega), if_neg (by rw [c3]; omega)]
theorem call_state {I : MI} {J : MJ} {I' : MI} {J' : MJ} (g : R I J I' J') (x : Int32) : ∃ r r', Ev (fun n => ff_O_state n I J x) r ∧ Ev (fun n => ff_M_state n I' J' x) r' ∧ r = r'.1 ∧ R I J r'.2.1 r'.2.2 := by
  obtain ⟨s, ph, t, P, b, ac, c, h, r, m, w, g⟩ := g
  have g := RG_th g 0
  unfold ff_M_state
  generalize ui I' 0 0 0 = I0 at g ⊢
  have gg := g
  obtain ⟨g1, g2, g3, g4, g5, g6, g7⟩ := g
  have g1' := g1
  obtain ⟨hs, hs', s4, hph, hph', ph6, hP, hP', hTP, ht, t01, t2, t3, t4, hpp, hact, hb⟩ := g1'
  have R0 : R I J I0 J' := ⟨s, ph, t, P, b, ac, c, h, r, m, w, gg⟩
  have c2 : (Int32.ofNat ph = 2) ↔ ph = 2 := nb_inj (y := 2) (by omega) (by omega)
  have c3 : (Int32.ofNat ph = 3) ↔ ph = 3 := nb_inj (y := 3) (by omega) (by omega)
  -- what the object answers
  have hO : ∃ v, Ev (fun n => ff_O_state n I J x) v ∧ v = (if x = 0 then Int32.ofNat ph else if x = 1 then Int32.ofNat s else if x = 2 then (if ph = 2 ∨ ph = 3 then Int32.ofNat (t % s) else I 0 7) else if x = 3 then Int32.ofNat (sumN h s) else if x = 4 then Int32.ofNat (mxN r s) else -1) := by
    unfold ff_O_state
    by_cases x0 : x = 0
    · simp only [if_pos x0, hph]; exact ⟨_, Ev.pure _, rfl⟩
    by_cases x1 : x = 1
    · simp only [if_neg x0, if_pos x1, hs]; exact ⟨_, Ev.pure _, rfl⟩
    by_cases x2 : x = 2
    · simp only [if_neg x0, if_neg x1, if_pos x2]
      have nx := fun n => O_next (t := t) J n hs s4 hph ph6 ht (by omega)
      rcases hb with ⟨b0, _, e⟩ | ⟨b1, _, p4, a4, e⟩
      · rw [e]
        simp only [if_pos, nx, Option.bind_some]
        refine ⟨_, Ev.pure _, ?_⟩
        by_cases d : ph = 2 ∨ ph = 3
        · rw [if_pos d, if_pos d]
          congr 1
          by_cases e : t < s
          · rw [if_pos e, Nat.mod_eq_of_lt e]
          · rw [if_neg e, Nat.mod_eq_sub_mod (by omega), Nat.mod_eq_of_lt (by omega)]
        · rw [if_neg d, if_neg d]
      · have na : ¬ I 0 7 = -1 := by
          rw [e]
          exact fun hh => absurd (show (Int32.ofNat ac) < 0 by rw [hh]; decide) (sm_pos (by omega))
        simp only [if_neg na, if_neg (show ¬ (ph = 2 ∨ ph = 3) by omega)]
        exact ⟨_, Ev.pure _, rfl⟩
    by_cases x3 : x = 3
    · simp only [if_neg x0, if_neg x1, if_neg x2, if_pos x3]
      exact ⟨_, Ev.bind (O_sum J hs s4 (fun k hk => (g2.1 k hk).2.2.1)) (Ev.pure _), rfl⟩
    by_cases x4 : x = 4
    · simp only [if_neg x0, if_neg x1, if_neg x2, if_neg x3, if_pos x4]
      exact ⟨_, Ev.bind (O_most J hs s4 (fun k hk => ⟨(g2.1 k hk).2.2.2.2.1, by have := RB_bd g2 s4 hk; omega⟩)) (Ev.pure _), rfl⟩
    · simp only [if_neg x0, if_neg x1, if_neg x2, if_neg x3, if_neg x4]; exact ⟨_, Ev.pure _, rfl⟩
  have hM : ∃ q, Ev (fun n => ff_M_state_9 n I0 J' x 0 0) q ∧ (q.1 = (if x = 0 then Int32.ofNat ph else if x = 1 then Int32.ofNat s else if x = 2 then (if ph = 2 ∨ ph = 3 then Int32.ofNat (t % s) else I 0 7) else if x = 3 then Int32.ofNat (sumN h s) else if x = 4 then Int32.ofNat (mxN r s) else -1) ∧ q.2.1 = I0 ∧ q.2.2 = J') := by
    refine Ev.loop0 (α := Int32) (fun n y j => ff_M_state_9 n I0 J' x y (Int32.ofNat j)) s (fun j y => y = Int32.ofNat (sumN h j)) _ 0 rfl ?_ ?_
    · rintro y rfl
      have st : ∀ n, ff_M_state_9 (n + 1) I0 J' x (Int32.ofNat (sumN h s)) (Int32.ofNat s) = _ := fun n => by rw [ff_M_state_9, hs', if_pos ((q_cl s4 (by omega)).mpr (Nat.le_refl _))]
      by_cases x0 : x = 0
      · exact ⟨(Int32.ofNat ph, I0, J'), Ev.suc (Ev.now fun n => by rw [st n, if_pos x0, hph']), by rw [if_pos x0], rfl, rfl⟩
      by_cases x1 : x = 1
      · exact ⟨(Int32.ofNat s, I0, J'), Ev.suc (Ev.now fun n => by rw [st n, if_neg x0, if_pos x1]), by rw [if_neg x0, if_pos x1], rfl, rfl⟩
      by_cases x2 : x = 2
      · by_cases d : ph = 2 ∨ ph = 3
        · have hp := (hpp (by omega))
          have h20 : I0 0 20 = Int32.ofNat t := (hTP hp.1).2.2
          have nz : ¬ Int32.ofNat s = 0 := fun hh => by have := (nb_inj (y := 0) (by omega) (by omega)).mp hh; omega
          have z : ∀ n, ff_M_state_94 n I0 J' x (Int32.ofNat (sumN h s)) (Int32.ofNat s) = some (Int32.ofNat (t % s), I0, J') := fun n => by
            simp only [ff_M_state_94, hs', if_pos nz, tl, h20, mod_s hp.2 s4 (show t < 100 by omega)]
          refine ⟨(Int32.ofNat (t % s), I0, J'), Ev.suc (Ev.now fun n => ?_), by rw [if_neg x0, if_neg x1, if_pos x2, if_pos d], rfl, rfl⟩
          rw [st n, if_neg x0, if_neg x1, if_pos x2, hph', z]
          rcases d with d | d
          · rw [if_pos (c2.mpr d)]
          · rw [if_neg (by rw [c2]; omega), if_pos (c3.mpr d)]
        · refine ⟨(I0 0 31, I0, J'), Ev.suc (Ev.now fun n => ?_), by rw [if_neg x0, if_neg x1, if_pos x2, if_neg d, hact], rfl, rfl⟩
          rw [st n, if_neg x0, if_neg x1, if_pos x2, hph', if_neg (by rw [c2]; omega), if_neg (by rw [c3]; omega)]
      by_cases x3 : x = 3
      · exact ⟨(Int32.ofNat (sumN h s), I0, J'), Ev.suc (Ev.now fun n => by rw [st n, if_neg x0, if_neg x1, if_neg x2, if_pos x3]), by rw [if_neg x0, if_neg x1, if_neg x2, if_pos x3], rfl, rfl⟩
      by_cases x4 : x = 4
      · rcases hb with ⟨b0, e30, e⟩ | ⟨b1, e30, p4, a4, e⟩
        · have mz : mxN r s = 0 := Nat.le_zero.mp (mx_le r s (fun k hk => Nat.le_of_eq ((g2.1 k hk).2.2.2.2.2.2.1 b0)))
          exact ⟨(0, I0, J'), Ev.suc (Ev.now fun n => by rw [st n, if_neg x0, if_neg x1, if_neg x2, if_neg x3, if_pos x4, if_pos e30]), by rw [if_neg x0, if_neg x1, if_neg x2, if_neg x3, if_pos x4, mz]; rfl, rfl, rfl⟩
        · have hm := M_most (r := r) J' hs' s4 (fun k hk => ⟨(g2.1 k hk).2.2.2.2.2.1 b1, by have := RB_bd g2 s4 hk; omega⟩)
          refine ⟨(Int32.ofNat (mxN r s), I0, J'), ?_, by rw [if_neg x0, if_neg x1, if_neg x2, if_neg x3, if_pos x4], rfl, rfl⟩
          refine Ev.step (g := fun n => (ff_M_most n I0 J').bind fun r12 => some (r12, I0, J')) (fun n => ?_) (Ev.bind hm (Ev.pure _))
          rw [st n, if_neg x0, if_neg x1, if_neg x2, if_neg x3, if_pos x4, if_neg (by rw [e30]; decide)]
      · exact ⟨(-1, I0, J'), Ev.suc (Ev.now fun n => by rw [st n, if_neg x0, if_neg x1, if_neg x2, if_neg x3, if_neg x4]), by rw [if_neg x0, if_neg x1, if_neg x2, if_neg x3, if_neg x4], rfl, rfl⟩
    · rintro j y hj rfl
      refine Or.inr ⟨_, rfl, 0, fun n _ => ?_⟩
      simp only [ff_M_state_9, hs', if_neg (show ¬ Int32.ofNat s ≤ Int32.ofNat j by rw [q_cl s4 (by omega)]; omega), if_pos (sm_i2 (j := j) (N := 4) (by omega) (by omega)), sm_nat (j := j) (by omega), (g2.1 j hj).2.2.2.1, sm_suc, tl, sumN, Int32.ofNat_add]
  obtain ⟨v, o1, o2⟩ := hO
  obtain ⟨q, m1, m2, m3, m4⟩ := hM
  exact ⟨v, q, o1, m1, o2.trans m2.symm, by rw [m3, m4]; exact R0⟩
