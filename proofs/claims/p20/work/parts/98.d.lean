/-! player, sealOf, laid, assign, cheat -/
theorem XP_nz {P : Nat} (hP : TP P) {x : Int32} (h : XP P x) : x ≠ 0 ∧ AB P x ≠ 0 ∧ AB P x ≠ x := by
  obtain ⟨e, rfl, he⟩ := h
  have hP' := hP
  obtain ⟨p1, p2, _⟩ := hP'
  obtain ⟨a1, a2⟩ := abN_XN hP he
  have l1 := he.2.1
  have l2 := a1.2.1
  rw [AB_nat (by omega)]
  have u1 := he.1
  have u2 := a1.1
  refine ⟨fun h => ?_, fun h => ?_, fun h => ?_⟩
  · have := (nb_inj (y := 0) (by omega) (by omega)).mp h; omega
  · have := (nb_inj (y := 0) (by omega) (by omega)).mp h; omega
  · exact a2 ((nb_inj (by omega) (by omega)).mp h)
theorem RG_seal {s ph t P b a : Nat} {c h r : Nat → Nat} {m : Nat → Int64} {w : Nat → Nat → Nat} {I I' : MI} {J J' : MJ} (g : RG s ph t P b a c h r m w I J I' J') (hp : 2 ≤ ph) : TP P ∧ ∀ k, k < s → RQ P k I J I' J' := by
  obtain ⟨g1, g2, g3, _⟩ := g
  obtain ⟨hs, hs', s4, hph, hph', ph6, hP, hP', hTP, ht, t01, t2, t3, t4, hpp, hact, hb⟩ := g1
  refine ⟨(hTP (hpp (by omega)).1).1, fun k hk => ?_⟩
  obtain ⟨x, y⟩ := g3.1 k hk
  rcases x with x | x
  · exact absurd (x.2.symm.trans (y hp)) (by decide)
  · exact x.2.2
theorem RG_given {s ph t P b a : Nat} {c h r : Nat → Nat} {m : Nat → Int64} {w : Nat → Nat → Nat} {I I' : MI} {J J' : MJ} (g : RG s ph t P b a c h r m w I J I' J') {k j : Nat} (hk : k < s) (hj : j < 52) : (I (15 + 6 * k + 4) j = 0 ↔ w k j = 0) ∧ (I' 19 (52 * k + j) = 0 ↔ w k j = 0) := by
  have g5 := g.2.2.2.2.1
  rcases g5.2.1 k hk j hj with x | x | x
  · exact ⟨⟨fun _ => x.1, fun _ => x.2.1⟩, ⟨fun _ => x.1, fun _ => x.2.2⟩⟩
  · have hp : 2 ≤ ph := by
      by_cases q : ph ≤ 3
      · have := (g5.2.2 q).1 k hk j hj; omega
      · omega
    obtain ⟨hP, hq⟩ := RG_seal g hp
    have n1 := XP_nz hP ((hq k hk).2.2.2.2.2.2 j hj)
    have n2 := XP_nz hP (LK_XP hP (J' 6 k) j)
    rw [x.1, x.2.1, x.2.2]
    exact ⟨⟨fun h => absurd h n1.1, fun h => absurd h (by decide)⟩, ⟨fun h => absurd h n2.1, fun h => absurd h (by decide)⟩⟩
  · have hp : 2 ≤ ph := by
      by_cases q : ph ≤ 3
      · have := (g5.2.2 q).1 k hk j hj; omega
      · omega
    obtain ⟨hP, hq⟩ := RG_seal g hp
    have n1 := XP_nz hP ((hq k hk).2.2.2.2.2.2 j hj)
    have n2 := XP_nz hP (LK_XP hP (J' 6 k) j)
    rw [x.1, x.2.1, x.2.2]
    exact ⟨⟨fun h => absurd h n1.2.1, fun h => absurd h (by decide)⟩, ⟨fun h => absurd h n2.2.1, fun h => absurd h (by decide)⟩⟩
def gvN (w : Nat → Nat → Nat) (k : Nat) : Nat → Nat := sumN fun j => if w k j = 0 then 0 else 1
theorem O_cg {w : Nat → Nat → Nat} {k : Nat} {I : MI} (J : MJ) (hw : ∀ j, j < 52 → (I (15 + 6 * k + 4) j = 0 ↔ w k j = 0)) : Ev (fun n => ff_P_countGiven n I J (15 + 6 * k)) (Int32.ofNat (gvN w k 52)) := by
  have H := Ev.loop0 (α := Int32) (fun n x j => ff_P_countGiven_4 I J n (15 + 6 * k) x (Int32.ofNat j)) 52 (fun j x => x = Int32.ofNat (gvN w k j)) (fun v => v = Int32.ofNat (gvN w k 52)) 0 rfl ?_ ?_
  · obtain ⟨b, h1, h2⟩ := H
    rw [h2] at h1; exact h1
  · rintro x rfl
    exact ⟨_, Ev.suc (Ev.now fun n => by rw [ff_P_countGiven_4, if_pos q52e]), rfl⟩
  · rintro j x hj rfl
    refine Or.inr ⟨_, rfl, 0, fun n _ => ?_⟩
    by_cases e : w k j = 0
    · have : I (15 + 6 * k + 4) j = 0 := (hw j hj).mpr e
      simp only [ff_P_countGiven_4, if_neg (q52 hj), ff_P_hasGiven, if_pos (sm_i2 (j := j) (N := 52) hj (by omega)), sm_nat (j := j) (by omega), this, if_pos, Option.bind_some, sm_suc, gvN, sumN, e, Nat.add_zero]
    · have : ¬ I (15 + 6 * k + 4) j = 0 := fun h => e ((hw j hj).mp h)
      simp only [ff_P_countGiven_4, if_neg (q52 hj), ff_P_hasGiven, if_pos (sm_i2 (j := j) (N := 52) hj (by omega)), sm_nat (j := j) (by omega), if_neg this, Option.bind_some, sm_suc, gvN, sumN, if_neg e, if_neg (show ¬ (1 : Int32) = 0 by decide)]
theorem call_player {I : MI} {J : MJ} {I' : MI} {J' : MJ} (g : R I J I' J') (x y : Int32) : ∃ r r', Ev (fun n => ff_O_player n I J x y) r ∧ Ev (fun n => ff_M_player n I' J' x y) r' ∧ r = r'.1 ∧ R I J r'.2.1 r'.2.2 := by
  obtain ⟨s, ph, t, P, b, ac, c, h, r, m, w, g⟩ := g
  have g := RG_th g 0
  unfold ff_M_player
  generalize ui I' 0 0 0 = I0 at g ⊢
  have gg := g
  obtain ⟨g1, g2, g3, g4, g5, g6, g7⟩ := g
  have g1' := g1
  obtain ⟨hs, hs', s4, hph, hph', ph6, hP, hP', hTP, ht, t01, t2, t3, t4, hpp, hact, hb⟩ := g1'
  have R0 : R I J I0 J' := ⟨s, ph, t, P, b, ac, c, h, r, m, w, gg⟩
  unfold ff_O_player
  rcases sc (s := s) (by omega) x with ⟨k, hk, rfl⟩ | hx
  · simp only [O_seat1 _ J hs s4 hk, M_seat1 _ J' hs' s4 hk, Option.bind_some, if_neg (show ¬ (1 : Int32) = 0 by decide), sm_nat (j := k) (by omega), if_pos (sm_i2 (j := k) (N := 4) (by omega) (by omega))]
    obtain ⟨x1, x2, x3, x4, x5, x6, x7, x8, x9, x10⟩ := g2.1 k hk
    have hg := fun j hj => RG_given gg hk (j := j) hj
    have fin : ∀ v : Int32, (∀ n : Nat, (if y = 0 then some (I0 1 k, I0, J') else if y = 1 then some (I0 21 k, I0, J') else if y = 2 then (if I0 0 30 = 0 then some (0, I0, J') else some (I0 22 k, I0, J')) else if y = 3 then (if I0 0 4 ≤ 3 then some (0, I0, J') else if I0 20 k = 0 then some (0, I0, J') else some (1, I0, J')) else if y = 4 then some (Int32.ofNat (gvN w k 52), I0, J') else some ((-1 : Int32), I0, J')) = some (v, I0, J')) → Ev (fun n => ff_M_player_20 n I0 J' (Int32.ofNat k) y 0 0) (v, I0, J') := by
      intro v hv
      have H := Ev.loop0 (α := Int32) (fun n x j => ff_M_player_20 n I0 J' (Int32.ofNat k) y x (Int32.ofNat j)) 52 (fun j x => x = Int32.ofNat (gvN w k j)) (fun q => q = (v, I0, J')) 0 rfl ?_ ?_
      · obtain ⟨b, h1, h2⟩ := H
        rw [h2] at h1; exact h1
      · rintro x rfl
        refine ⟨_, Ev.suc (Ev.now fun n => ?_), rfl⟩
        rw [← hv n]
        simp only [ff_M_player_20, if_pos q52e, sm_nat (j := k) (by omega), if_pos (sm_i2 (j := k) (N := 4) (by omega) (by omega))]
      · rintro j x hj rfl
        refine Or.inr ⟨_, rfl, 0, fun n _ => ?_⟩
        by_cases e : w k j = 0
        · have : I0 19 (52 * k + j) = 0 := (hg j hj).2.mpr e
          simp only [ff_M_player_20, if_neg (q52 hj), ix52, if_pos (sm_i2 (j := 52 * k + j) (N := 208) (by omega) (by omega)), sm_nat (j := 52 * k + j) (by omega), this, if_pos, tl, sm_suc, gvN, sumN, e, Nat.add_zero, Int32.add_zero]
        · have : ¬ I0 19 (52 * k + j) = 0 := fun h => e ((hg j hj).2.mp h)
          simp only [ff_M_player_20, if_neg (q52 hj), ix52, if_pos (sm_i2 (j := 52 * k + j) (N := 208) (by omega) (by omega)), sm_nat (j := 52 * k + j) (by omega), if_neg this, tl, sm_suc, gvN, sumN, if_neg e]
    have c3 : (Int32.ofNat ph ≤ 3) ↔ ph ≤ 3 := nb_le (y := 3) (by omega) (by omega)
    have c4 : (Int32.ofNat ph < 4) ↔ ph < 4 := q_lt (y := 4) (by omega) (by omega)
    by_cases y0 : y = 0
    · simp only [if_pos y0]
      exact ⟨_, _, Ev.pure _, fin (I0 1 k) (fun n => by rw [if_pos y0]), by rw [x1, x2], R0⟩
    by_cases y1 : y = 1
    · simp only [if_neg y0, if_pos y1]
      exact ⟨_, _, Ev.pure _, fin (I0 21 k) (fun n => by rw [if_neg y0, if_pos y1]), by rw [x3, x4], R0⟩
    by_cases y2 : y = 2
    · simp only [if_neg y0, if_neg y1, if_pos y2]
      rcases hb with ⟨b0, e30, e⟩ | ⟨b1, e30, p4, a4, e⟩
      · exact ⟨_, _, Ev.pure _, fin 0 (fun n => by rw [if_neg y0, if_neg y1, if_pos y2, if_pos e30]), by rw [x5, x7 b0]; rfl, R0⟩
      · exact ⟨_, _, Ev.pure _, fin (I0 22 k) (fun n => by rw [if_neg y0, if_neg y1, if_pos y2, if_neg (by rw [e30]; decide)]), by rw [x5, x6 b1], R0⟩
    by_cases y3 : y = 3
    · simp only [if_neg y0, if_neg y1, if_neg y2, if_pos y3, hph]
      by_cases d : ph ≤ 3
      · simp only [if_pos (c4.mpr (show ph < 4 by omega))]
        exact ⟨_, _, Ev.pure _, fin 0 (fun n => by rw [if_neg y0, if_neg y1, if_neg y2, if_pos y3, hph', if_pos (c3.mpr d)]), rfl, R0⟩
      · simp only [if_neg (show ¬ Int32.ofNat ph < 4 by rw [c4]; omega)]
        rcases x9 (by omega) with ⟨z1, z2⟩ | ⟨z1, z2⟩
        · simp only [if_pos z1]
          exact ⟨_, _, Ev.pure _, fin 1 (fun n => by rw [if_neg y0, if_neg y1, if_neg y2, if_pos y3, hph', if_neg (by rw [c3]; exact d), if_neg (by rw [z2]; decide)]), rfl, R0⟩
        · simp only [z1, if_neg (show ¬ (1 : Int32) = 0 by decide)]
          exact ⟨_, _, Ev.pure _, fin 0 (fun n => by rw [if_neg y0, if_neg y1, if_neg y2, if_pos y3, hph', if_neg (by rw [c3]; exact d), if_pos z2]), rfl, R0⟩
    by_cases y4 : y = 4
    · simp only [if_neg y0, if_neg y1, if_neg y2, if_neg y3, if_pos y4]
      exact ⟨_, _, Ev.bind (O_cg J (fun j hj => (hg j hj).1)) (Ev.pure _), fin (Int32.ofNat (gvN w k 52)) (fun n => by rw [if_neg y0, if_neg y1, if_neg y2, if_neg y3, if_pos y4]), rfl, R0⟩
    · simp only [if_neg y0, if_neg y1, if_neg y2, if_neg y3, if_neg y4]
      exact ⟨_, _, Ev.pure _, fin (-1) (fun n => by rw [if_neg y0, if_neg y1, if_neg y2, if_neg y3, if_neg y4]), rfl, R0⟩
  · simp only [O_seat0 _ J hs s4 hx, M_seat0 _ J' hs' s4 hx, Option.bind_some, if_pos]
    exact ⟨_, _, Ev.pure _, Ev.pure _, rfl, R0⟩
theorem call_sealOf {I : MI} {J : MJ} {I' : MI} {J' : MJ} (g : R I J I' J') (x : Int32) : (∃ v r', Ev (fun n => ff_O_sealOf n I J x) (some v) ∧ Ev (fun n => ff_M_sealOf2 n I' J' x) r' ∧ v = r'.1 ∧ r'.2.1 0 0 = 0 ∧ R I J r'.2.1 r'.2.2) ∨ (∃ r', Ev (fun n => ff_O_sealOf n I J x) none ∧ Ev (fun n => ff_M_sealOf2 n I' J' x) r' ∧ r'.2.1 0 0 = 1 ∧ R I J r'.2.1 r'.2.2) := by
  obtain ⟨s, ph, t, P, b, ac, c, h, r, m, w, g⟩ := g
  have R0 : ∀ v, R I J (ui I' 0 0 v) J' := fun v => ⟨s, ph, t, P, b, ac, c, h, r, m, w, RG_th g v⟩
  have z : ∀ v, (ui I' 0 0 v) 0 0 = v := fun v => by rw [ui_at, if_pos ⟨rfl, rfl⟩]
  obtain ⟨g1, g2, g3, g4, g5, g6, g7⟩ := g
  obtain ⟨hs, hs', s4, _⟩ := g1
  unfold ff_O_sealOf ff_M_sealOf2 ff_O_sealOf_20 ff_M_sealOf2_17 ff_M_raise
  rcases sc (s := s) (by omega) x with ⟨k, hk, rfl⟩ | hx
  · simp only [O_seat1 _ J hs s4 hk, M_seat1 _ J' hs' s4 hk, Option.bind_some, if_neg (show ¬ (1 : Int32) = 0 by decide), sm_nat (j := k) (by omega), if_pos (sm_i2 (j := k) (N := 4) (by omega) (by omega))]
    rcases (g3.1 k hk).1 with ⟨e1, e2⟩ | ⟨e1, e2, q⟩
    · simp only [if_pos e1, if_pos e2]
      exact Or.inr ⟨_, Ev.pure _, Ev.pure _, z _, R0 _⟩
    · simp only [e1, e2, if_neg (show ¬ (1 : Int32) = 0 by decide)]
      exact Or.inl ⟨_, _, Ev.pure _, Ev.pure _, q.1, z _, R0 _⟩
  · simp only [O_seat0 _ J hs s4 hx, M_seat0 _ J' hs' s4 hx, Option.bind_some, if_pos]
    exact Or.inr ⟨_, Ev.pure _, Ev.pure _, z _, R0 _⟩
theorem call_laid {I : MI} {J : MJ} {I' : MI} {J' : MJ} (g : R I J I' J') (x : Int32) : (∃ v r', Ev (fun n => ff_O_laid n I J x) (some v) ∧ Ev (fun n => ff_M_laid n I' J' x) r' ∧ r'.2.1 0 0 = 0 ∧ R I J r'.2.1 r'.2.2) ∨ (∃ r', Ev (fun n => ff_O_laid n I J x) none ∧ Ev (fun n => ff_M_laid n I' J' x) r' ∧ r'.2.1 0 0 = 1 ∧ R I J r'.2.1 r'.2.2) := by
  obtain ⟨s, ph, t, P, b, ac, c, h, r, m, w, g⟩ := g
  have R0 : ∀ v, R I J (ui I' 0 0 v) J' := fun v => ⟨s, ph, t, P, b, ac, c, h, r, m, w, RG_th g v⟩
  have z : ∀ v, (ui I' 0 0 v) 0 0 = v := fun v => by rw [ui_at, if_pos ⟨rfl, rfl⟩]
  have t8 := RS_t g.1
  obtain ⟨g1, g2, g3, g4, g5, g6, g7⟩ := g
  obtain ⟨hs, hs', s4, hph, hph', ph6, hP, hP', hTP, ht, t01, t2, t3, t4, hpp, hact, hb⟩ := g1
  unfold ff_O_laid ff_M_laid ff_O_laid_14 ff_M_laid_14 ff_M_raise
  by_cases p0 : P = 0
  · have e1 : I 0 0 = 0 := by rw [hP, p0]; rfl
    have e2 : I' 0 1 = 0 := by rw [hP', p0]; rfl
    simp only [if_pos e1, if_pos e2]
    rcases sc (s := 52) (by omega) x with ⟨k, hk, rfl⟩ | hx
    · simp only [M_pl1 _ hk, Option.bind_some, if_neg (show ¬ (1 : Int32) = 0 by decide)]
      exact Or.inr ⟨_, Ev.pure _, Ev.pure _, z _, R0 _⟩
    · simp only [M_pl0 _ hx, Option.bind_some, if_pos]
      exact Or.inr ⟨_, Ev.pure _, Ev.pure _, z _, R0 _⟩
  · have q := hTP p0
    have e1 : ¬ I 0 0 = 0 := by rw [hP]; exact (P_nz q.1).1
    have e2 : ¬ I' 0 1 = 0 := by rw [hP']; exact (P_nz q.1).1
    simp only [if_neg e1, if_neg e2]
    rcases sc (s := 52) (by omega) x with ⟨k, hk, rfl⟩ | hx
    · have e3 : (ui I' 0 0 0) 0 20 = Int32.ofNat t := by rw [ui_at, if_neg (by omega)]; exact q.2.2
      simp only [M_pl1 _ hk, O_pl1 _ hk, Option.bind_some, if_neg (show ¬ (1 : Int32) = 0 by decide), ht, e3, ix52, sm_nat (j := t) (by omega), sm_nat (j := k) (by omega), if_pos (sm_i2 (j := t) (N := 9) (by omega) (by omega)), if_pos (sm_i2 (j := k) (N := 52) hk (by omega)), sm_nat (j := 52 * t + k) (by omega), if_pos (sm_i2 (j := 52 * t + k) (N := 468) (by omega) (by omega))]
      exact Or.inl ⟨_, _, Ev.pure _, Ev.pure _, z _, R0 _⟩
    · simp only [M_pl0 _ hx, O_pl0 _ hx, Option.bind_some, if_pos]
      exact Or.inr ⟨_, Ev.pure _, Ev.pure _, z _, R0 _⟩
