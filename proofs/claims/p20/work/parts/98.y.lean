/-! laid and opening a place, if an EXPONENT always comes in time -/
theorem call_laid2 (hL : LOCKS) {I : MI} {J : MJ} {I' : MI} {J' : MJ} (g : R I J I' J') (x : Int32) : (∃ v r', Ev (fun n => ff_O_laid n I J x) (some v) ∧ Ev (fun n => ff_M_laid n I' J' x) r' ∧ v = r'.1 ∧ r'.2.1 0 0 = 0 ∧ R I J r'.2.1 r'.2.2) ∨ (∃ r', Ev (fun n => ff_O_laid n I J x) none ∧ Ev (fun n => ff_M_laid n I' J' x) r' ∧ r'.2.1 0 0 = 1 ∧ R I J r'.2.1 r'.2.2) := by
  obtain ⟨s, ph, t, P, b, ac, c, h, r, m, w, g⟩ := g
  have R0 : ∀ v, R I J (ui I' 0 0 v) J' := fun v => ⟨s, ph, t, P, b, ac, c, h, r, m, w, RG_th g v⟩
  have z : ∀ v, (ui I' 0 0 v) 0 0 = v := fun v => by rw [ui_at, if_pos ⟨rfl, rfl⟩]
  have t8 := RS_t g.1
  obtain ⟨g1, g2, g3, g4, g5, g6, g7⟩ := g
  obtain ⟨hs, hs', s4, hph, hph', ph6, hP, hP', hTP, ht, t01, t2, t3, t4, hpp, hact, hb⟩ := g1
  unfold ff_O_laid ff_M_laid ff_O_laid_14 ff_M_laid_14 ff_M_raise
  by_cases p0 : P = 0
  · have e1 : I 0 0 = 0 := by rw [hP, p0]; rfl
    have e2 : I' 0 1 = 0 := by rw [hP', p0]; rfl
    simp only [if_pos e1, if_pos e2]
    rcases sc (s := 52) (by omega) x with ⟨k, hk, rfl⟩ | hx
    · simp only [M_pl1 _ hk, Option.bind_some, if_neg (show ¬ (1 : Int32) = 0 by decide)]
      exact Or.inr ⟨_, Ev.pure _, Ev.pure _, z _, R0 _⟩
    · simp only [M_pl0 _ hx, Option.bind_some, if_pos]
      exact Or.inr ⟨_, Ev.pure _, Ev.pure _, z _, R0 _⟩
  · have q := hTP p0
    have e1 : ¬ I 0 0 = 0 := by rw [hP]; exact (P_nz q.1).1
    have e2 : ¬ I' 0 1 = 0 := by rw [hP']; exact (P_nz q.1).1
    simp only [if_neg e1, if_neg e2]
    rcases sc (s := 52) (by omega) x with ⟨k, hk, rfl⟩ | hx
    · have e3 : (ui I' 0 0 0) 0 20 = Int32.ofNat t := by rw [ui_at, if_neg (by omega)]; exact q.2.2
      simp only [M_pl1 _ hk, O_pl1 _ hk, Option.bind_some, if_neg (show ¬ (1 : Int32) = 0 by decide), ht, e3, ix52, sm_nat (j := t) (by omega), sm_nat (j := k) (by omega), if_pos (sm_i2 (j := t) (N := 9) (by omega) (by omega)), if_pos (sm_i2 (j := k) (N := 52) hk (by omega)), sm_nat (j := 52 * t + k) (by omega), if_pos (sm_i2 (j := 52 * t + k) (N := 468) (by omega) (by omega))]
      refine Or.inl ⟨_, _, Ev.pure _, Ev.pure _, ?_, z _, R0 _⟩
      dsimp only
      rw [ui_else _ _ _ (by decide)]
      exact (((g6.2 hL).2 p0).2 t (Nat.le_refl _) k hk).1
    · simp only [M_pl0 _ hx, O_pl0 _ hx, Option.bind_some, if_pos]
      exact Or.inr ⟨_, Ev.pure _, Ev.pure _, z _, R0 _⟩
/-- the first card of this number -/
def cdP (row : Nat → Int32) (v r : Int32) : Prop := (∃ i, i < 52 ∧ row i = v ∧ (∀ i', i' < i → row i' ≠ v) ∧ r = Int32.ofNat i) ∨ ((∀ i, i < 52 → row i ≠ v) ∧ r = 52)
theorem cdP_one {row : Nat → Int32} {v r r' : Int32} (h : cdP row v r) (h' : cdP row v r') : r = r' := by
  rcases h with ⟨i, hi, a1, a2, rfl⟩ | ⟨a1, rfl⟩ <;> rcases h' with ⟨i', hi', b1, b2, rfl⟩ | ⟨b1, rfl⟩
  · rw [lst_one (p := fun i => row i = v) a1 a2 b1 b2]
  · exact absurd a1 (b1 i hi)
  · exact absurd b1 (a1 i' hi')
  · rfl
theorem O_card2 (I : MI) (J : MJ) (v : Int32) : ∃ r, Ev (fun n => ff_O_cardOf n I J v) r ∧ cdP (I 6) v r := by
  refine Ev.loop0 (α := Unit) (fun n _ i => ff_O_cardOf_2 I J n v (Int32.ofNat i)) 52 (fun j _ => ∀ i, i < j → I 6 i ≠ v) _ () (fun i hi => absurd hi (by omega)) ?_ ?_
  · intro _ a
    exact ⟨52, Ev.suc (Ev.now fun n => by rw [ff_O_cardOf_2, if_pos q52e]), Or.inr ⟨a, rfl⟩⟩
  · intro i _ hi a
    have z0 : ¬ ((0 : Int32) < 0 ∨ 9 ≤ (0 : Int32).toNatClampNeg) := by decide
    have z6 : 6 + (0 : Int32).toNatClampNeg = 6 := by decide
    by_cases z : I 6 i = v
    · exact Or.inl ⟨_, Ev.suc (Ev.now fun n => by rw [ff_O_cardOf_2, if_neg (q52 hi), if_pos z0, if_pos (sm_in (N := 52) hi (by omega)), sm_nat (by omega), z6, if_pos z]), Or.inl ⟨i, hi, z, a, rfl⟩⟩
    · refine Or.inr ⟨(), fun i' hi' => ?_, 0, fun n _ => by rw [ff_O_cardOf_2, if_neg (q52 hi), if_pos z0, if_pos (sm_in (N := 52) hi (by omega)), sm_nat (by omega), z6, if_neg z, sm_suc]⟩
      by_cases q : i' = i
      · subst q; exact z
      · exact a i' (by omega)
theorem M_card2 (I : MI) (J : MJ) (v1 v2 v : Int32) : ∃ r, Ev (fun n => ff_M_open_159 n I J v1 v2 v 0) r ∧ cdP (I 15) v r.1 ∧ r.2.1 = I ∧ r.2.2 = J := by
  refine Ev.loop0 (α := Unit) (fun n _ i => ff_M_open_159 n I J v1 v2 v (Int32.ofNat i)) 52 (fun j _ => ∀ i, i < j → I 15 i ≠ v) _ () (fun i hi => absurd hi (by omega)) ?_ ?_
  · intro _ a
    exact ⟨(52, I, J), Ev.suc (Ev.now fun n => by rw [ff_M_open_159, if_pos q52e]), Or.inr ⟨a, rfl⟩, rfl, rfl⟩
  · intro i _ hi a
    by_cases z : I 15 i = v
    · exact Or.inl ⟨(Int32.ofNat i, I, J), Ev.suc (Ev.now fun n => by rw [ff_M_open_159, if_neg (q52 hi), if_pos (sm_in (N := 468) (by omega) (by omega)), sm_nat (by omega), if_pos z]), Or.inl ⟨i, hi, z, a, rfl⟩, rfl, rfl⟩
    · refine Or.inr ⟨(), fun i' hi' => ?_, 0, fun n _ => by rw [ff_M_open_159, if_neg (q52 hi), if_pos (sm_in (N := 468) (by omega) (by omega)), sm_nat (by omega), if_neg z, sm_suc]⟩
      by_cases q : i' = i
      · subst q; exact z
      · exact a i' (by omega)
/-- the number behind i locks -/
noncomputable def vF (P : Nat) (lk : Nat → Int32) (v : Int32) : Nat → Int32
  | 0 => v
  | i + 1 => pwO (vF P lk v i) (ivO (lk i) (Int32.ofNat P)) (Int32.ofNat P)
theorem iv_lt {P e : Nat} (hP : TP P) (he : e < 2147483648) : ∃ i, i < 2147483648 ∧ ivO (Int32.ofNat e) (Int32.ofNat P) = Int32.ofNat i ∧ ivM (Int32.ofNat e) P = Int32.ofNat i := by
  obtain ⟨a, b⟩ := inv_nat hP he
  obtain ⟨p1, p2, _⟩ := hP
  have : e ^ ((P - 1) / 2 - 2) % (P - 1) < P - 1 := Nat.mod_lt _ (by omega)
  exact ⟨_, by omega, a, b⟩
theorem vF_in {P : Nat} (hP : TP P) {lk : Nat → Int32} {v : Int32} (hv : inP P v) {s : Nat} (hl : ∀ i, i < s → XP P (lk i)) : ∀ i, i ≤ s → inP P (vF P lk v i)
  | 0, _ => hv
  | i + 1, h => by
    obtain ⟨e, ee, xe⟩ := hl i (by omega)
    have := xe.2.1
    have := hP.2.1
    obtain ⟨q, hq, e1, _⟩ := iv_lt hP (e := e) (by omega)
    rw [vF, ee, e1]
    exact (pw_eq hP (vF_in hP hv hl i (by omega)) hq).2
theorem vF_M {P : Nat} (hP : TP P) {lk : Nat → Int32} {v : Int32} (hv : inP P v) {s : Nat} (hl : ∀ i, i < s → XP P (lk i)) {i : Nat} (hi : i < s) : pwM (vF P lk v i) (ivM (lk i) P) (Int32.ofNat P) = vF P lk v (i + 1) := by
  obtain ⟨e, ee, xe⟩ := hl i hi
  have := xe.2.1
  have := hP.2.1
  obtain ⟨q, hq, e1, e2⟩ := iv_lt hP (e := e) (by omega)
  rw [vF, ee, e1, e2]
  exact (pw_eq hP (vF_in hP hv hl i (by omega)) hq).1.symm
theorem call_open2 (hL : LOCKS) {I : MI} {J : MJ} {I' : MI} {J' : MJ} (g : R I J I' J') (x y : Int32) : ∃ r r', Ev (fun n => ff_O_open n I J x y) r ∧ Ev (fun n => ff_M_open n I' J' x y) r' ∧ r = r'.1 ∧ R I J r'.2.1 r'.2.2 := by
  obtain ⟨s, ph, t, P, b, ac, c, h, r, m, w, g⟩ := g
  have g := RG_th g 0
  unfold ff_M_open ff_O_open
  generalize ui I' 0 0 0 = I0 at g ⊢
  have gg := g
  have t8 := RS_t g.1
  obtain ⟨g1, g2, g3, g4, g5, g6, g7⟩ := g
  obtain ⟨hs, hs', s4, hph, hph', ph6, hP, hP', hTP, ht, t01, t2, t3, t4, hpp, hact, hb⟩ := g1
  have R0 : R I J I0 J' := ⟨s, ph, t, P, b, ac, c, h, r, m, w, gg⟩
  have c4 : (Int32.ofNat ph < 4) ↔ ph < 4 := q_lt (y := 4) (by omega) (by omega)
  rw [hph, hph']
  rcases sc (s := s) (by omega) x with ⟨k, hk, rfl⟩ | hx
  · simp only [O_seat1 _ J hs s4 hk, M_seat1 _ J' hs' s4 hk, Option.bind_some, if_neg (show ¬ (1 : Int32) = 0 by decide)]
    rcases sc (s := 52) (by omega) y with ⟨j, hj, rfl⟩ | hy
    · simp only [O_pl1 _ hj, M_pl1 _ hj, Option.bind_some, if_neg (show ¬ (1 : Int32) = 0 by decide)]
      by_cases d : ph < 4
      · simp only [if_pos (c4.mpr d)]
        exact ⟨_, _, Ev.pure _, Ev.pure _, rfl, R0⟩
      · obtain ⟨p0, _⟩ := hpp (by omega)
        obtain ⟨tp, tp2, tp20⟩ := hTP p0
        obtain ⟨_, seals⟩ := RG_seal gg (by omega)
        have b52 := sm_i2 (j := j) (N := 52) hj (by omega)
        have e18 : I 3 j = I0 18 j := g5.1 (by omega) j hj
        obtain ⟨xl, xd⟩ := g6.2 hL
        obtain ⟨x0, xr⟩ := xd p0
        have lock : ∀ i, i < s → I (15 + 6 * i + 3) j = LK P (J' 6 i) j := fun i hi => xl i hi ((g3.1 i hi).2 (by omega)) j hj
        -- what opens each
        generalize hlk : (fun i => if w i j = 2 then AB P (LK P (J' 6 i) j) else LK P (J' 6 i) j) = lk
        have lkX : ∀ i, i < s → XP P (lk i) := fun i hi => by
          rw [← hlk]
          dsimp only
          obtain ⟨e, ee, xe⟩ := LK_XP tp (J' 6 i) j
          split
          · have b1 := xe.2.1
            have b2 := tp.2.1
            rw [ee, AB_nat (by omega)]
            exact ⟨_, rfl, (abN_XN tp xe).1⟩
          · exact ⟨e, ee, xe⟩
        have vin : inP P (I (6 + t) j) := (xr t (Nat.le_refl _) j hj).2
        have veq : I (6 + t) j = I0 15 (52 * t + j) := (xr t (Nat.le_refl _) j hj).1
        simp only [if_neg (show ¬ Int32.ofNat ph < 4 by rw [c4]; exact d), sm_nat (j := j) (by omega), if_pos b52, ht, sm_nat (j := t) (by omega), if_pos (sm_i2 (j := t) (N := 9) (by omega) (by omega)), tl]
        -- the object
        have mayE : ∃ v, Ev (fun n => ff_O_mayOpen_28 I J n (Int32.ofNat k) (Int32.ofNat j) (I 3 j) 0) v ∧ ((v = 1 ∧ ∀ i, i < s → w i j ≠ 0 ∨ I0 18 j = Int32.ofNat i) ∨ (v = 0 ∧ ¬ ∀ i, i < s → w i j ≠ 0 ∨ I0 18 j = Int32.ofNat i)) := by
          refine Ev.loop0 (α := Unit) (fun n _ i => ff_O_mayOpen_28 I J n (Int32.ofNat k) (Int32.ofNat j) (I 3 j) (Int32.ofNat i)) s (fun l _ => ∀ i, i < l → w i j ≠ 0 ∨ I0 18 j = Int32.ofNat i) _ () (fun i hi => absurd hi (by omega)) ?_ ?_
          · intro _ a
            exact ⟨1, Ev.suc (Ev.now fun n => by rw [ff_O_mayOpen_28, hs, if_pos ((q_cl s4 (by omega)).mpr (Nat.le_refl _))]), Or.inl ⟨rfl, a⟩⟩
          · intro i _ hi a
            have gv := (RG_given gg hi hj).1
            have nxt : (w i j ≠ 0 ∨ I0 18 j = Int32.ofNat i) → ∀ i', i' < i + 1 → w i' j ≠ 0 ∨ I0 18 j = Int32.ofNat i' := fun q i' hi' => by
              by_cases f : i' = i
              · subst f; exact q
              · exact a i' (by omega)
            by_cases e : Int32.ofNat i = I 3 j
            · exact Or.inr ⟨(), nxt (Or.inr (by rw [← e18, e])), 0, fun n _ => by rw [ff_O_mayOpen_28, hs, if_neg (by rw [q_cl s4 (by omega)]; omega), if_pos e, sm_suc]⟩
            · by_cases z : I (15 + 6 * i + 4) j = 0
              · refine Or.inl ⟨0, Ev.suc (Ev.now fun n => ?_), Or.inr ⟨rfl, fun q => ?_⟩⟩
                · simp only [ff_O_mayOpen_28, hs, if_neg (show ¬ Int32.ofNat s ≤ Int32.ofNat i by rw [q_cl s4 (by omega)]; omega), if_neg e, sm_nat (j := i) (by omega), if_pos (sm_i2 (j := i) (N := 4) (by omega) (by omega)), ff_P_hasGiven, sm_nat (j := j) (by omega), if_pos (sm_i2 (j := j) (N := 52) hj (by omega)), if_pos z, Option.bind_some, if_true]
                · rcases q i hi with f | f
                  · exact f (gv.mp z)
                  · exact e (by rw [e18, f])
              · refine Or.inr ⟨(), nxt (Or.inl fun f => z (gv.mpr f)), 0, fun n _ => ?_⟩
                simp only [ff_O_mayOpen_28, hs, if_neg (show ¬ Int32.ofNat s ≤ Int32.ofNat i by rw [q_cl s4 (by omega)]; omega), if_neg e, sm_nat (j := i) (by omega), if_pos (sm_i2 (j := i) (N := 4) (by omega) (by omega)), ff_P_hasGiven, sm_nat (j := j) (by omega), if_pos (sm_i2 (j := j) (N := 52) hj (by omega)), if_neg z, Option.bind_some, if_neg (show ¬ (1 : Int32) = 0 by decide), sm_suc]
        have opO : ∃ v, Ev (fun n => ff_O_open_49 I J n (Int32.ofNat k) (Int32.ofNat j) (I (6 + t) j) 0) v ∧ cdP (I 6) (vF P lk (I (6 + t) j) s) v := by
          refine Ev.loop0 (α := Int32) (fun n x i => ff_O_open_49 I J n (Int32.ofNat k) (Int32.ofNat j) x (Int32.ofNat i)) s (fun i x => x = vF P lk (I (6 + t) j) i) _ (I (6 + t) j) rfl ?_ ?_
          · rintro x rfl
            obtain ⟨q, q1, q2⟩ := O_card2 I J (vF P lk (I (6 + t) j) s)
            refine ⟨q, Ev.step (g := fun n => (ff_O_cardOf n I J (vF P lk (I (6 + t) j) s)).bind fun r4 => some r4) (fun n => ?_) (Ev.bind q1 (Ev.pure _)), q2⟩
            rw [ff_O_open_49, hs, if_pos ((q_cl s4 (by omega)).mpr (Nat.le_refl _))]
          · rintro i x hi rfl
            obtain ⟨N1, h1⟩ := N_inv (lk i) (Int32.ofNat P)
            obtain ⟨N2, h2⟩ := N_pow (vF P lk (I (6 + t) j) i) (ivO (lk i) (Int32.ofNat P)) (Int32.ofNat P)
            refine Or.inr ⟨_, rfl, max N1 N2, fun n hn => ?_⟩
            have h1 : ff_N_inverse n (lk i) (Int32.ofNat P) = some _ := h1 n (by omega)
            have h2 : ff_N_power n (vF P lk (I (6 + t) j) i) (ivO (lk i) (Int32.ofNat P)) (Int32.ofNat P) = some _ := h2 n (by omega)
            have lki : lk i = if w i j = 2 then AB P (LK P (J' 6 i) j) else LK P (J' 6 i) j := by rw [← hlk]
            have gv := (RG_given gg hi hj).1
            have fin : ff_O_open_93 I J (ff_O_open_49 I J n) n (Int32.ofNat k) (Int32.ofNat j) (vF P lk (I (6 + t) j) i) (Int32.ofNat i) (15 + 6 * i) (lk i) = ff_O_open_49 I J n (Int32.ofNat k) (Int32.ofNat j) (vF P lk (I (6 + t) j) (i + 1)) (Int32.ofNat (i + 1)) := by
              rw [ff_O_open_93, hP, h1, Option.bind_some, h2, Option.bind_some, sm_suc, vF]
            rw [← fin]
            by_cases z : w i j = 0
            · have z1 := gv.mpr z
              have l1 : I (15 + 6 * i + 3) j = lk i := by rw [lki, if_neg (by omega), lock i hi]
              simp only [ff_O_open_49, hs, if_neg (show ¬ Int32.ofNat s ≤ Int32.ofNat i by rw [q_cl s4 (by omega)]; omega), sm_nat (j := i) (by omega), if_pos (sm_i2 (j := i) (N := 4) (by omega) (by omega)), ff_P_hasGiven, sm_nat (j := j) (by omega), if_pos (sm_i2 (j := j) (N := 52) hj (by omega)), if_pos z1, Option.bind_some, if_true, l1]
            · have z1 : ¬ I (15 + 6 * i + 4) j = 0 := fun q => z (gv.mp q)
              have l1 : I (15 + 6 * i + 4) j = lk i := by
                rw [lki]
                rcases g5.2.1 i hi j hj with u | u | u
                · exact absurd u.1 z
                · rw [u.2.1, if_neg (by omega), lock i hi]
                · rw [u.2.1, if_pos u.1, lock i hi]
              have z2 : ¬ lk i = 0 := by rw [← l1]; exact z1
              simp only [ff_O_open_49, hs, if_neg (show ¬ Int32.ofNat s ≤ Int32.ofNat i by rw [q_cl s4 (by omega)]; omega), sm_nat (j := i) (by omega), if_pos (sm_i2 (j := i) (N := 4) (by omega) (by omega)), ff_P_hasGiven, sm_nat (j := j) (by omega), if_pos (sm_i2 (j := j) (N := 52) hj (by omega)), l1, if_neg z2, Option.bind_some, if_neg (show ¬ (1 : Int32) = 0 by decide)]
        -- the reference
        have opM : ∃ q, Ev (fun n => ff_M_open_61 n I0 J' (Int32.ofNat k) (Int32.ofNat j)) q ∧ Scr I0 q.2.1 J' q.2.2 ∧ (((∀ i, i < s → w i j ≠ 0 ∨ I0 18 j = Int32.ofNat i) ∧ cdP (I0 15) (vF P lk (I (6 + t) j) s) q.1) ∨ ((¬ ∀ i, i < s → w i j ≠ 0 ∨ I0 18 j = Int32.ofNat i) ∧ q.1 = -1)) := by
          unfold ff_M_open_61
          simp only [tp20, ix52, sm_nat (j := 52 * t + j) (by omega), if_pos (sm_i2 (j := 52 * t + j) (N := 468) (by omega) (by omega)), tl, ← veq]
          refine Ev.loop0 (α := Int32 × MI × MJ) (fun n x i => ff_M_open_79 n x.2.1 x.2.2 (Int32.ofNat k) (Int32.ofNat j) x.1 (Int32.ofNat i)) s (fun i x => x.1 = vF P lk (I (6 + t) j) i ∧ Scr I0 x.2.1 J' x.2.2 ∧ ∀ i', i' < i → w i' j ≠ 0 ∨ I0 18 j = Int32.ofNat i') _ (I (6 + t) j, I0, J') ⟨rfl, ⟨fun _ _ _ => rfl, fun _ _ => rfl⟩, fun i hi => absurd hi (by omega)⟩ ?_ ?_
          · rintro ⟨v, I1, J1⟩ ⟨a1, a2, a3⟩
            have a1 : v = vF P lk (I (6 + t) j) s := a1
            have sc2 : Scr I0 I1 J' J1 := a2
            subst a1
            obtain ⟨q, q1, q2, q3, q4⟩ := M_card2 I1 J1 (Int32.ofNat k) (Int32.ofNat j) (vF P lk (I (6 + t) j) s)
            rw [sc2.1 15 (by decide) (by decide)] at q2
            refine ⟨q, Ev.step (fun n => ?_) q1, by rw [q3, q4]; exact sc2, Or.inl ⟨a3, q2⟩⟩
            dsimp only
            rw [ff_M_open_79, sc2.1 0 (by decide) (by decide), hs', if_pos ((q_cl s4 (by omega)).mpr (Nat.le_refl _))]
          · rintro i ⟨v, I1, J1⟩ hi ⟨a1, a2, a3⟩
            have a1 : v = vF P lk (I (6 + t) j) i := a1
            have sc2 : Scr I0 I1 J' J1 := a2
            subst a1
            have i0 : I1 0 = I0 0 := sc2.1 0 (by decide) (by decide)
            have i19 : I1 19 = I0 19 := sc2.1 19 (by decide) (by decide)
            have i18 : I1 18 = I0 18 := sc2.1 18 (by decide) (by decide)
            have gv := (RG_given gg hi hj).2
            have lki : lk i = if w i j = 2 then AB P (LK P (J' 6 i) j) else LK P (J' 6 i) j := by rw [← hlk]
            have nxt : (w i j ≠ 0 ∨ I0 18 j = Int32.ofNat i) → ∀ i', i' < i + 1 → w i' j ≠ 0 ∨ I0 18 j = Int32.ofNat i' := fun q i' hi' => by
              by_cases f : i' = i
              · subst f; exact q
              · exact a3 i' (by omega)
            have one : ∀ (I2 : MI) (J2 : MJ) (yy : Int32), I2 0 = I0 0 → ∃ N, ∀ n, N ≤ n → ff_M_open_139 (ff_M_open_79 n) n I2 J2 (Int32.ofNat k) (Int32.ofNat j) (vF P lk (I (6 + t) j) i) (Int32.ofNat i) yy (vF P lk (I (6 + t) j) i) (lk i) = ff_M_open_79 n I2 J2 (Int32.ofNat k) (Int32.ofNat j) (vF P lk (I (6 + t) j) (i + 1)) (Int32.ofNat (i + 1)) := fun I2 J2 yy e0 => by
              obtain ⟨N1, h1⟩ := M_inv tp (I := I2) J2 (by rw [e0]; exact hP') (by rw [e0]; exact tp2) (lk i)
              obtain ⟨N2, h2⟩ := M_pow (vF P lk (I (6 + t) j) i) (ivM (lk i) P) (Int32.ofNat P) (P_nz tp).1
              refine ⟨max N1 N2, fun n hn => ?_⟩
              have h1 : ff_M_inverse n I2 J2 (lk i) = some _ := h1 n (by omega)
              have h2 : ff_M_power n (vF P lk (I (6 + t) j) i) (ivM (lk i) P) (Int32.ofNat P) = some _ := h2 n (by omega)
              rw [vF_M tp vin lkX hi] at h2
              rw [ff_M_open_139, h1, Option.bind_some, e0, hP', h2, Option.bind_some, sm_suc]
            have step : ∀ n, ff_M_open_79 (n + 1) I1 J1 (Int32.ofNat k) (Int32.ofNat j) (vF P lk (I (6 + t) j) i) (Int32.ofNat i) = if I0 19 (52 * i + j) = 0 then (if I0 18 j = Int32.ofNat i then ff_M_open_120 (ff_M_open_79 n) n I1 J1 (Int32.ofNat k) (Int32.ofNat j) (vF P lk (I (6 + t) j) i) (Int32.ofNat i) (I0 19 (52 * i + j)) else some (-1, I1, J1)) else ff_M_open_120 (ff_M_open_79 n) n I1 J1 (Int32.ofNat k) (Int32.ofNat j) (vF P lk (I (6 + t) j) i) (Int32.ofNat i) (I0 19 (52 * i + j)) := fun n => by
              simp only [ff_M_open_79, i0, hs', if_neg (show ¬ Int32.ofNat s ≤ Int32.ofNat i by rw [q_cl s4 (by omega)]; omega), ix52, sm_nat (j := 52 * i + j) (by omega), if_pos (sm_i2 (j := 52 * i + j) (N := 208) (by omega) (by omega)), tl, sm_nat (j := j) (by omega), if_pos (sm_i2 (j := j) (N := 52) hj (by omega)), i19, i18]
            by_cases z : w i j = 0
            · have z1 := gv.mpr z
              by_cases z2 : I0 18 j = Int32.ofNat i
              · obtain ⟨u, ⟨N1, u1⟩, u2, u3, u4⟩ := M_lockOf tp I1 J1 (k := i) (by omega) hj (by rw [i0]; exact hP') (by rw [i0]; exact tp2)
                have u2 : u.1 = lk i := by rw [u2, sc2.2 6 (by decide), lki, if_neg (by omega)]
                obtain ⟨N2, hN⟩ := one u.2.1 u.2.2 (I0 19 (52 * i + j)) (by rw [u3 0 (by decide), i0])
                refine Or.inr ⟨(vF P lk (I (6 + t) j) (i + 1), u.2.1, u.2.2), ⟨rfl, ⟨fun y h16 h17 => by rw [u3 y h17, sc2.1 y h16 h17], fun y hy => by rw [u4 y hy, sc2.2 y hy]⟩, nxt (Or.inr z2)⟩, max N1 N2, fun n hn => ?_⟩
                have u1 : ff_M_lockOf n I1 J1 (Int32.ofNat i) (Int32.ofNat j) = some u := u1 n (by omega)
                dsimp only
                rw [step n, if_pos z1, if_pos z2, ff_M_open_120, if_pos z1, u1, Option.bind_some, u2]
                exact hN n (by omega)
              · refine Or.inl ⟨(-1, I1, J1), Ev.suc (Ev.now fun n => ?_), sc2, Or.inr ⟨fun q => ?_, rfl⟩⟩
                · dsimp only
                  rw [step n, if_pos z1, if_neg z2]
                · rcases q i hi with f | f
                  · exact f z
                  · exact z2 f
            · have z1 : ¬ I0 19 (52 * i + j) = 0 := fun q => z (gv.mp q)
              have l1 : I0 19 (52 * i + j) = lk i := by
                rw [lki]
                rcases g5.2.1 i hi j hj with u | u | u
                · exact absurd u.1 z
                · rw [u.2.2, if_neg (by omega)]
                · rw [u.2.2, if_pos u.1]
              obtain ⟨N2, hN⟩ := one I1 J1 (I0 19 (52 * i + j)) i0
              refine Or.inr ⟨(vF P lk (I (6 + t) j) (i + 1), I1, J1), ⟨rfl, sc2, nxt (Or.inl z)⟩, N2, fun n hn => ?_⟩
              dsimp only
              rw [step n, if_neg z1, ff_M_open_120, if_neg z1]
              have := hN n hn
              rw [← l1] at this
              exact this
        obtain ⟨v, v1, v2⟩ := mayE
        obtain ⟨o, o1, o2⟩ := opO
        obtain ⟨q, q1, q2, q3⟩ := opM
        have row0 : ∀ i, i < 52 → I 6 i = I0 15 i := fun i hi => by
          have := (xr 0 (Nat.zero_le _) i hi).1
          rw [show 52 * 0 + i = i by omega] at this
          exact this
        have cdt : ∀ vv rr, cdP (I0 15) vv rr → cdP (I 6) vv rr := fun vv rr hc => by
          rcases hc with ⟨i, hi, a1, a2, a3⟩ | ⟨a1, a2⟩
          · exact Or.inl ⟨i, hi, by rw [row0 i hi]; exact a1, fun i' hi' => by rw [row0 i' (by omega)]; exact a2 i' hi', a3⟩
          · exact Or.inr ⟨fun i hi => by rw [row0 i hi]; exact a1 i hi, a2⟩
        have Rq : R I J q.2.1 q.2.2 := ⟨s, ph, t, P, b, ac, c, h, r, m, w, RG_M gg (fun x _ x16 x17 => q2.1 x x16 x17) (fun y _ => by rw [q2.1 0 (by decide) (by decide)]) q2.2⟩
        unfold ff_O_mayOpen
        simp only [sm_nat (j := j) (by omega), if_pos b52, tl]
        rw [e18] at v1 ⊢
        by_cases e1 : I0 18 j = -2
        · simp only [if_pos e1, Option.bind_some, if_true]; exact ⟨_, _, Ev.pure _, Ev.pure _, rfl, R0⟩
        · have both : ∃ rO, Ev (fun n => (ff_O_mayOpen_28 I J n (Int32.ofNat k) (Int32.ofNat j) (I0 18 j) 0).bind fun r15 => if r15 = 0 then some (-1) else ff_O_open_49 I J n (Int32.ofNat k) (Int32.ofNat j) (I (6 + t) j) 0) rO ∧ rO = q.1 := by
            rcases v2 with ⟨rfl, v2⟩ | ⟨rfl, v2⟩
            · refine ⟨o, ?_, ?_⟩
              · refine Ev.bind v1 ?_
                simp only [if_neg (show ¬ (1 : Int32) = 0 by decide)]; exact o1
              · rcases q3 with ⟨_, q3⟩ | ⟨q3, _⟩
                · exact cdP_one o2 (cdt _ _ q3)
                · exact absurd v2 q3
            · refine ⟨-1, ?_, ?_⟩
              · refine Ev.bind v1 ?_
                simp only [if_true]; exact Ev.pure _
              · rcases q3 with ⟨q3, _⟩ | ⟨_, q3⟩
                · exact absurd q3 v2
                · exact q3.symm
          obtain ⟨rO, y1, y2⟩ := both
          simp only [if_neg e1]
          by_cases e2 : I0 18 j = -1
          · simp only [if_pos e2]; exact ⟨_, _, y1, q1, y2, Rq⟩
          · simp only [if_neg e2]
            by_cases e3 : I0 18 j = Int32.ofNat k
            · simp only [if_pos e3]; exact ⟨_, _, y1, q1, y2, Rq⟩
            · simp only [if_neg e3, Option.bind_some, if_true]; exact ⟨_, _, Ev.pure _, Ev.pure _, rfl, R0⟩
    · simp only [O_pl0 _ hy, M_pl0 _ hy, Option.bind_some, if_pos]
      by_cases d : ph < 4
      · simp only [if_pos (c4.mpr d)]
        exact ⟨_, _, Ev.pure _, Ev.pure _, rfl, R0⟩
      · simp only [if_neg (show ¬ Int32.ofNat ph < 4 by rw [c4]; exact d)]
        exact ⟨_, _, Ev.pure _, Ev.pure _, rfl, R0⟩
  · simp only [O_seat0 _ J hs s4 hx, M_seat0 _ J' hs' s4 hx, Option.bind_some, if_pos]
    by_cases d : ph < 4
    · simp only [if_pos (c4.mpr d)]
      exact ⟨_, _, Ev.pure _, Ev.pure _, rfl, R0⟩
    · simp only [if_neg (show ¬ Int32.ofNat ph < 4 by rw [c4]; exact d)]
      exact ⟨_, _, Ev.pure _, Ev.pure _, rfl, R0⟩
