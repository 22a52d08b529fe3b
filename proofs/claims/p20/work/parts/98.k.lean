/-! opening a place: both come to an end -/
theorem O_may {s j : Nat} {I : MI} (J : MJ) (hs : I 0 2 = Int32.ofNat s) (s4 : s ≤ 4) (hj : j < 52) (v1 v3 : Int32) : ∃ v, Ev (fun n => ff_O_mayOpen_28 I J n v1 (Int32.ofNat j) v3 0) v ∧ (v = 0 ∨ v = 1) := by
  refine Ev.loop0 (α := Unit) (fun n _ i => ff_O_mayOpen_28 I J n v1 (Int32.ofNat j) v3 (Int32.ofNat i)) s (fun _ _ => True) _ () trivial ?_ ?_
  · intro _ _
    exact ⟨1, Ev.suc (Ev.now fun n => by rw [ff_O_mayOpen_28, hs, if_pos ((q_cl s4 (by omega)).mpr (Nat.le_refl _))]), Or.inr rfl⟩
  · intro i _ hi _
    by_cases e : Int32.ofNat i = v3
    · exact Or.inr ⟨(), trivial, 0, fun n _ => by rw [ff_O_mayOpen_28, hs, if_neg (by rw [q_cl s4 (by omega)]; omega), if_pos e, sm_suc]⟩
    · by_cases z : I (15 + 6 * i + 4) j = 0
      · refine Or.inl ⟨0, Ev.suc (Ev.now fun n => ?_), Or.inl rfl⟩
        simp only [ff_O_mayOpen_28, hs, if_neg (show ¬ Int32.ofNat s ≤ Int32.ofNat i by rw [q_cl s4 (by omega)]; omega), if_neg e, sm_nat (j := i) (by omega), if_pos (sm_i2 (j := i) (N := 4) (by omega) (by omega)), ff_P_hasGiven, sm_nat (j := j) (by omega), if_pos (sm_i2 (j := j) (N := 52) hj (by omega)), if_pos z, Option.bind_some, if_true]
      · refine Or.inr ⟨(), trivial, 0, fun n _ => ?_⟩
        simp only [ff_O_mayOpen_28, hs, if_neg (show ¬ Int32.ofNat s ≤ Int32.ofNat i by rw [q_cl s4 (by omega)]; omega), if_neg e, sm_nat (j := i) (by omega), if_pos (sm_i2 (j := i) (N := 4) (by omega) (by omega)), ff_P_hasGiven, sm_nat (j := j) (by omega), if_pos (sm_i2 (j := j) (N := 52) hj (by omega)), if_neg z, Option.bind_some, if_neg (show ¬ (1 : Int32) = 0 by decide), sm_suc]
theorem O_card (I : MI) (J : MJ) (v : Int32) : ∃ r, Ev (fun n => ff_O_cardOf n I J v) r ∧ True := by
  refine Ev.loop0 (α := Unit) (fun n _ i => ff_O_cardOf_2 I J n v (Int32.ofNat i)) 52 (fun _ _ => True) _ () trivial ?_ ?_
  · intro _ _
    exact ⟨52, Ev.suc (Ev.now fun n => by rw [ff_O_cardOf_2, if_pos q52e]), trivial⟩
  · intro i _ hi _
    have z0 : ¬ ((0 : Int32) < 0 ∨ 9 ≤ (0 : Int32).toNatClampNeg) := by decide
    by_cases z : I (6 + (0 : Int32).toNatClampNeg) i = v
    · exact Or.inl ⟨_, Ev.suc (Ev.now fun n => by rw [ff_O_cardOf_2, if_neg (q52 hi), if_pos z0, if_pos (sm_in (N := 52) hi (by omega)), sm_nat (by omega), if_pos z]), trivial⟩
    · exact Or.inr ⟨(), trivial, 0, fun n _ => by rw [ff_O_cardOf_2, if_neg (q52 hi), if_pos z0, if_pos (sm_in (N := 52) hi (by omega)), sm_nat (by omega), if_neg z, sm_suc]⟩
theorem O_open49 {s j : Nat} {I : MI} (J : MJ) (hs : I 0 2 = Int32.ofNat s) (s4 : s ≤ 4) (hj : j < 52) (v1 v : Int32) : ∃ r, Ev (fun n => ff_O_open_49 I J n v1 (Int32.ofNat j) v 0) r ∧ True := by
  refine Ev.loop0 (α := Int32) (fun n x i => ff_O_open_49 I J n v1 (Int32.ofNat j) x (Int32.ofNat i)) s (fun _ _ => True) _ v trivial ?_ ?_
  · intro x _
    obtain ⟨r, h, _⟩ := O_card I J x
    refine ⟨r, Ev.step (g := fun n => (ff_O_cardOf n I J x).bind fun r4 => some r4) (fun n => ?_) (Ev.bind h (Ev.pure _)), trivial⟩
    rw [ff_O_open_49, hs, if_pos ((q_cl s4 (by omega)).mpr (Nat.le_refl _))]
  · intro i x hi _
    have gen : ∀ l : Int32, ∃ x', ∃ N, ∀ n, N ≤ n → ff_O_open_93 I J (ff_O_open_49 I J n) n v1 (Int32.ofNat j) x (Int32.ofNat i) (15 + 6 * i) l = ff_O_open_49 I J n v1 (Int32.ofNat j) x' (Int32.ofNat (i + 1)) := fun l => by
      obtain ⟨N1, h1⟩ := N_inv l (I 0 0)
      obtain ⟨N2, h2⟩ := N_pow x (ivO l (I 0 0)) (I 0 0)
      refine ⟨pwO x (ivO l (I 0 0)) (I 0 0), max N1 N2, fun n hn => ?_⟩
      have h1 : ff_N_inverse n l (I 0 0) = some _ := h1 n (by omega)
      have h2 : ff_N_power n x (ivO l (I 0 0)) (I 0 0) = some _ := h2 n (by omega)
      rw [ff_O_open_93, h1, Option.bind_some, h2, Option.bind_some, sm_suc]
    by_cases z : I (15 + 6 * i + 4) j = 0
    · obtain ⟨x', N, hN⟩ := gen (I (15 + 6 * i + 3) j)
      refine Or.inr ⟨x', trivial, N, fun n hn => ?_⟩
      rw [← hN n hn]
      simp only [ff_O_open_49, hs, if_neg (show ¬ Int32.ofNat s ≤ Int32.ofNat i by rw [q_cl s4 (by omega)]; omega), sm_nat (j := i) (by omega), if_pos (sm_i2 (j := i) (N := 4) (by omega) (by omega)), ff_P_hasGiven, sm_nat (j := j) (by omega), if_pos (sm_i2 (j := j) (N := 52) hj (by omega)), if_pos z, Option.bind_some, if_true]
    · obtain ⟨x', N, hN⟩ := gen (I (15 + 6 * i + 4) j)
      refine Or.inr ⟨x', trivial, N, fun n hn => ?_⟩
      rw [← hN n hn]
      simp only [ff_O_open_49, hs, if_neg (show ¬ Int32.ofNat s ≤ Int32.ofNat i by rw [q_cl s4 (by omega)]; omega), sm_nat (j := i) (by omega), if_pos (sm_i2 (j := i) (N := 4) (by omega) (by omega)), ff_P_hasGiven, sm_nat (j := j) (by omega), if_pos (sm_i2 (j := j) (N := 52) hj (by omega)), if_neg z, Option.bind_some, if_neg (show ¬ (1 : Int32) = 0 by decide)]
/-- the reference's memory, but for its scratch -/
def Scr (I I1 : MI) (J J1 : MJ) : Prop := (∀ x, x ≠ 16 → x ≠ 17 → I1 x = I x) ∧ ∀ x, x ≠ 0 → J1 x = J x
theorem M_open159 (I : MI) (J : MJ) (v1 v2 v : Int32) : ∃ r, Ev (fun n => ff_M_open_159 n I J v1 v2 v 0) r ∧ r.2.1 = I ∧ r.2.2 = J := by
  refine Ev.loop0 (α := Unit) (fun n _ i => ff_M_open_159 n I J v1 v2 v (Int32.ofNat i)) 52 (fun _ _ => True) _ () trivial ?_ ?_
  · intro _ _
    exact ⟨(52, I, J), Ev.suc (Ev.now fun n => by rw [ff_M_open_159, if_pos q52e]), rfl, rfl⟩
  · intro i _ hi _
    by_cases z : I 15 i = v
    · exact Or.inl ⟨(Int32.ofNat i, I, J), Ev.suc (Ev.now fun n => by rw [ff_M_open_159, if_neg (q52 hi), if_pos (sm_in (N := 468) (by omega) (by omega)), sm_nat (by omega), if_pos z]), rfl, rfl⟩
    · exact Or.inr ⟨(), trivial, 0, fun n _ => by rw [ff_M_open_159, if_neg (q52 hi), if_pos (sm_in (N := 468) (by omega) (by omega)), sm_nat (by omega), if_neg z, sm_suc]⟩
theorem M_open79 {P s j : Nat} (hP : TP P) (I : MI) (J : MJ) (hs : I 0 3 = Int32.ofNat s) (s4 : s ≤ 4) (hj : j < 52) (h1 : I 0 1 = Int32.ofNat P) (h2 : I 0 2 = Int32.ofNat ((P - 1) / 2)) (v1 v : Int32) : ∃ r, Ev (fun n => ff_M_open_79 n I J v1 (Int32.ofNat j) v 0) r ∧ Scr I r.2.1 J r.2.2 := by
  refine Ev.loop0 (α := Int32 × MI × MJ) (fun n x i => ff_M_open_79 n x.2.1 x.2.2 v1 (Int32.ofNat j) x.1 (Int32.ofNat i)) s (fun _ x => Scr I x.2.1 J x.2.2) _ (v, I, J) ⟨fun _ _ _ => rfl, fun _ _ => rfl⟩ ?_ ?_
  · rintro ⟨x, I1, J1⟩ ⟨a1, a2⟩
    obtain ⟨r, h, r1, r2⟩ := M_open159 I1 J1 v1 (Int32.ofNat j) x
    refine ⟨r, Ev.step (fun n => ?_) h, by rw [r1, r2]; exact ⟨a1, a2⟩⟩
    dsimp only
    have a0 : I1 0 = I 0 := a1 0 (by decide) (by decide)
    rw [ff_M_open_79, a0, hs, if_pos ((q_cl s4 (by omega)).mpr (Nat.le_refl _))]
  · rintro i ⟨x, I1, J1⟩ hi ⟨a1, a2⟩
    have a1 : ∀ x, x ≠ 16 → x ≠ 17 → I1 x = I x := a1
    have a2 : ∀ x, x ≠ 0 → J1 x = J x := a2
    have a0 : I1 0 = I 0 := a1 0 (by decide) (by decide)
    -- one step by a lock
    have one : ∀ (I2 : MI) (J2 : MJ) (l y : Int32), I2 0 = I 0 → ∃ x', ∃ N, ∀ n, N ≤ n → ff_M_open_139 (ff_M_open_79 n) n I2 J2 v1 (Int32.ofNat j) x (Int32.ofNat i) y x l = ff_M_open_79 n I2 J2 v1 (Int32.ofNat j) x' (Int32.ofNat (i + 1)) := fun I2 J2 l y e0 => by
      obtain ⟨N1, g1⟩ := M_inv hP (I := I2) J2 (by rw [e0]; exact h1) (by rw [e0]; exact h2) l
      obtain ⟨N2, g2⟩ := M_pow x (ivM l P) (Int32.ofNat P) (P_nz hP).1
      refine ⟨pwM x (ivM l P) (Int32.ofNat P), max N1 N2, fun n hn => ?_⟩
      have g1 : ff_M_inverse n I2 J2 l = some _ := g1 n (by omega)
      have g2 : ff_M_power n x (ivM l P) (Int32.ofNat P) = some _ := g2 n (by omega)
      rw [ff_M_open_139, g1, Option.bind_some, e0, h1, g2, Option.bind_some, sm_suc]
    have step : ∀ n, ff_M_open_79 (n + 1) I1 J1 v1 (Int32.ofNat j) x (Int32.ofNat i) = if I1 19 (52 * i + j) = 0 then (if I1 18 j = Int32.ofNat i then ff_M_open_120 (ff_M_open_79 n) n I1 J1 v1 (Int32.ofNat j) x (Int32.ofNat i) (I1 19 (52 * i + j)) else some (-1, I1, J1)) else ff_M_open_120 (ff_M_open_79 n) n I1 J1 v1 (Int32.ofNat j) x (Int32.ofNat i) (I1 19 (52 * i + j)) := fun n => by
      simp only [ff_M_open_79, a0, hs, if_neg (show ¬ Int32.ofNat s ≤ Int32.ofNat i by rw [q_cl s4 (by omega)]; omega), ix52, sm_nat (j := 52 * i + j) (by omega), if_pos (sm_i2 (j := 52 * i + j) (N := 208) (by omega) (by omega)), tl, sm_nat (j := j) (by omega), if_pos (sm_i2 (j := j) (N := 52) hj (by omega))]
    by_cases z : I1 19 (52 * i + j) = 0
    · by_cases z2 : I1 18 j = Int32.ofNat i
      · obtain ⟨u, ⟨N1, u1⟩, u2, u3, u4⟩ := M_lockOf hP I1 J1 (k := i) (by omega) hj (by rw [a0]; exact h1) (by rw [a0]; exact h2)
        obtain ⟨x', N2, hN⟩ := one u.2.1 u.2.2 u.1 (I1 19 (52 * i + j)) (by rw [u3 0 (by decide), a0])
        refine Or.inr ⟨(x', u.2.1, u.2.2), ⟨fun y h16 h17 => by rw [u3 y h17, a1 y h16 h17], fun y hy => by rw [u4 y hy, a2 y hy]⟩, max N1 N2, fun n hn => ?_⟩
        have u1 : ff_M_lockOf n I1 J1 (Int32.ofNat i) (Int32.ofNat j) = some u := u1 n (by omega)
        dsimp only
        rw [step n, if_pos z, if_pos z2, ff_M_open_120, if_pos z, u1, Option.bind_some]
        exact hN n (by omega)
      · refine Or.inl ⟨(-1, I1, J1), Ev.suc (Ev.now fun n => ?_), a1, a2⟩
        dsimp only
        rw [step n, if_pos z, if_neg z2]
    · obtain ⟨x', N2, hN⟩ := one I1 J1 (I1 19 (52 * i + j)) (I1 19 (52 * i + j)) a0
      refine Or.inr ⟨(x', I1, J1), ⟨a1, a2⟩, N2, fun n hn => ?_⟩
      dsimp only
      rw [step n, if_neg z, ff_M_open_120, if_neg z]
      exact hN n hn
theorem call_open {I : MI} {J : MJ} {I' : MI} {J' : MJ} (g : R I J I' J') (x y : Int32) : ∃ r r', Ev (fun n => ff_O_open n I J x y) r ∧ Ev (fun n => ff_M_open n I' J' x y) r' ∧ R I J r'.2.1 r'.2.2 := by
  obtain ⟨s, ph, t, P, b, ac, c, h, r, m, w, g⟩ := g
  have g := RG_th g 0
  unfold ff_M_open ff_O_open
  generalize ui I' 0 0 0 = I0 at g ⊢
  have gg := g
  have t8 := RS_t g.1
  obtain ⟨g1, g2, g3, g4, g5, g6, g7⟩ := g
  obtain ⟨hs, hs', s4, hph, hph', ph6, hP, hP', hTP, ht, t01, t2, t3, t4, hpp, hact, hb⟩ := g1
  have R0 : R I J I0 J' := ⟨s, ph, t, P, b, ac, c, h, r, m, w, gg⟩
  have c4 : (Int32.ofNat ph < 4) ↔ ph < 4 := q_lt (y := 4) (by omega) (by omega)
  rw [hph, hph']
  rcases sc (s := s) (by omega) x with ⟨k, hk, rfl⟩ | hx
  · simp only [O_seat1 _ J hs s4 hk, M_seat1 _ J' hs' s4 hk, Option.bind_some, if_neg (show ¬ (1 : Int32) = 0 by decide)]
    rcases sc (s := 52) (by omega) y with ⟨j, hj, rfl⟩ | hy
    · simp only [O_pl1 _ hj, M_pl1 _ hj, Option.bind_some, if_neg (show ¬ (1 : Int32) = 0 by decide)]
      by_cases d : ph < 4
      · simp only [if_pos (c4.mpr d)]
        exact ⟨_, _, Ev.pure _, Ev.pure _, R0⟩
      · obtain ⟨tp, tp2, tp20⟩ := hTP (hpp (by omega)).1
        have b52 := sm_i2 (j := j) (N := 52) hj (by omega)
        simp only [if_neg (show ¬ Int32.ofNat ph < 4 by rw [c4]; exact d), sm_nat (j := j) (by omega), if_pos b52, ht, sm_nat (j := t) (by omega), if_pos (sm_i2 (j := t) (N := 9) (by omega) (by omega)), tl]
        have hO : ∃ v, Ev (fun n => (ff_O_mayOpen n I J (Int32.ofNat k) (Int32.ofNat j)).bind fun r15 => if r15 = 0 then some (-1) else ff_O_open_49 I J n (Int32.ofNat k) (Int32.ofNat j) (I (6 + t) j) 0) v := by
          have hm : ∃ v, Ev (fun n => ff_O_mayOpen n I J (Int32.ofNat k) (Int32.ofNat j)) v ∧ (v = 0 ∨ v = 1) := by
            unfold ff_O_mayOpen
            simp only [sm_nat (j := j) (by omega), if_pos b52, tl]
            by_cases e1 : I 3 j = -2
            · simp only [if_pos e1]; exact ⟨_, Ev.pure _, Or.inl rfl⟩
            · simp only [if_neg e1]
              by_cases e2 : I 3 j = -1
              · simp only [if_pos e2]; exact O_may J hs s4 hj _ _
              · simp only [if_neg e2]
                by_cases e3 : I 3 j = Int32.ofNat k
                · simp only [if_pos e3]; exact O_may J hs s4 hj _ _
                · simp only [if_neg e3]; exact ⟨_, Ev.pure _, Or.inl rfl⟩
          obtain ⟨v, v1, v2⟩ := hm
          rcases v2 with rfl | rfl
          · refine ⟨-1, Ev.bind v1 ?_⟩
            simp only [if_true]; exact Ev.pure _
          · obtain ⟨q, q1, _⟩ := O_open49 J hs s4 hj (Int32.ofNat k) (I (6 + t) j)
            refine ⟨q, Ev.bind v1 ?_⟩
            simp only [if_neg (show ¬ (1 : Int32) = 0 by decide)]; exact q1
        have hM : ∃ q, Ev (fun n => ff_M_open_61 n I0 J' (Int32.ofNat k) (Int32.ofNat j)) q ∧ Scr I0 q.2.1 J' q.2.2 := by
          unfold ff_M_open_61
          simp only [tp20, ix52, sm_nat (j := 52 * t + j) (by omega), if_pos (sm_i2 (j := 52 * t + j) (N := 468) (by omega) (by omega)), tl]
          exact M_open79 tp I0 J' hs' s4 hj hP' tp2 _ _
        obtain ⟨v, v1⟩ := hO
        obtain ⟨q, q1, q2, q3⟩ := hM
        have Rq : R I J q.2.1 q.2.2 := ⟨s, ph, t, P, b, ac, c, h, r, m, w, RG_M gg (fun x _ x16 x17 => q2 x x16 x17) (fun y _ => by rw [q2 0 (by decide) (by decide)]) q3⟩
        by_cases e1 : I0 18 j = -2
        · simp only [if_pos e1]; exact ⟨_, _, v1, Ev.pure _, R0⟩
        · simp only [if_neg e1]
          by_cases e2 : I0 18 j = -1
          · simp only [if_pos e2]; exact ⟨_, _, v1, q1, Rq⟩
          · simp only [if_neg e2]
            by_cases e3 : I0 18 j = Int32.ofNat k
            · simp only [if_pos e3]; exact ⟨_, _, v1, q1, Rq⟩
            · simp only [if_neg e3]; exact ⟨_, _, v1, Ev.pure _, R0⟩
    · simp only [O_pl0 _ hy, M_pl0 _ hy, Option.bind_some, if_pos]
      by_cases d : ph < 4
      · simp only [if_pos (c4.mpr d)]
        exact ⟨_, _, Ev.pure _, Ev.pure _, R0⟩
      · simp only [if_neg (show ¬ Int32.ofNat ph < 4 by rw [c4]; exact d)]
        exact ⟨_, _, Ev.pure _, Ev.pure _, R0⟩
  · simp only [O_seat0 _ J hs s4 hx, M_seat0 _ J' hs' s4 hx, Option.bind_some, if_pos]
    by_cases d : ph < 4
    · simp only [if_pos (c4.mpr d)]
      exact ⟨_, _, Ev.pure _, Ev.pure _, R0⟩
    · simp only [if_neg (show ¬ Int32.ofNat ph < 4 by rw [c4]; exact d)]
      exact ⟨_, _, Ev.pure _, Ev.pure _, R0⟩
