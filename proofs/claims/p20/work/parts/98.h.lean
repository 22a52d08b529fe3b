/-! seal -/
theorem S_mark (n : Nat) (I : MI) (J : MJ) (q : Nat) : ff_S_mark n I J q = some (MK (I q 0) (J q 1) (J q 2)) := by
  unfold ff_S_mark MK MKs tl
  rfl
theorem M_mark (n : Nat) (e : Int32) (o l : Int64) : ff_M_sealOf n e o l = some (MK e o l) := by
  unfold ff_M_sealOf MK MKs tl
  rfl
theorem O_allSealed {s : Nat} {f : Nat → Int32} {I : MI} (J : MJ) (hs : I 0 2 = Int32.ofNat s) (s4 : s ≤ 4) (hf : ∀ k, k < s → I (15 + 6 * k) 5 = f k ∧ (f k = 0 ∨ f k = 1)) : ∃ v, Ev (fun n => ff_O_allSealed n I J) v ∧ ((v = 1 ∧ ∀ k, k < s → f k = 1) ∨ (v = 0 ∧ ¬ ∀ k, k < s → f k = 1)) := by
  refine Ev.loop0 (α := Unit) (fun n _ j => ff_O_allSealed_2 I J n (Int32.ofNat j)) s (fun j _ => ∀ k, k < j → f k = 1) _ () (fun k hk => absurd hk (by omega)) ?_ ?_
  · intro _ h
    exact ⟨1, Ev.suc (Ev.now fun n => by rw [ff_O_allSealed_2, hs, if_pos ((q_cl s4 (by omega)).mpr (Nat.le_refl _))]), Or.inl ⟨rfl, h⟩⟩
  · intro j _ hj h
    obtain ⟨e1, e2⟩ := hf j hj
    rcases e2 with e2 | e2
    · exact Or.inl ⟨0, Ev.suc (Ev.now fun n => by rw [ff_O_allSealed_2, hs, if_neg (by rw [q_cl s4 (by omega)]; omega), if_pos (sm_in (N := 4) (by omega) (by omega)), sm_nat (by omega), e1, if_pos e2]), Or.inr ⟨rfl, fun g => absurd (e2.symm.trans (g j hj)) (by decide)⟩⟩
    · refine Or.inr ⟨(), fun k hk => ?_, 0, fun n _ => ?_⟩
      · by_cases e : k = j
        · subst e; exact e2
        · exact h k (by omega)
      · rw [ff_O_allSealed_2, hs, if_neg (by rw [q_cl s4 (by omega)]; omega), if_pos (sm_in (N := 4) (by omega) (by omega)), sm_nat (by omega), e1, if_neg (by rw [e2]; decide), sm_suc]
theorem M_seal88 {s : Nat} {f : Nat → Int32} {I : MI} (J : MJ) (v1 v2 : Int32) (v3 v5 : Int64) (hs : I 0 3 = Int32.ofNat s) (s4 : s ≤ 4) (hf : ∀ k, k < s → I 2 k = f k ∧ (f k = 0 ∨ f k = 1)) : ∃ r, Ev (fun n => ff_M_seal_88 n I J v1 v2 v3 v5 1 0) r ∧ (((∀ k, k < s → f k = 1) ∧ r = (1, ui I 0 4 2, J)) ∨ ((¬ ∀ k, k < s → f k = 1) ∧ r = (1, I, J))) := by
  refine Ev.loop0 (α := Int32) (fun n x j => ff_M_seal_88 n I J v1 v2 v3 v5 x (Int32.ofNat j)) s (fun j x => (x = 1 ∧ ∀ k, k < j → f k = 1) ∨ (x = 0 ∧ ¬ ∀ k, k < s → f k = 1)) _ 1 (Or.inl ⟨rfl, fun k hk => absurd hk (by omega)⟩) ?_ ?_
  · rintro x (⟨rfl, h⟩ | ⟨rfl, h⟩)
    · exact ⟨_, Ev.suc (Ev.now fun n => by rw [ff_M_seal_88, hs, if_pos ((q_cl s4 (by omega)).mpr (Nat.le_refl _)), if_neg (by decide)]), Or.inl ⟨h, rfl⟩⟩
    · exact ⟨_, Ev.suc (Ev.now fun n => by rw [ff_M_seal_88, hs, if_pos ((q_cl s4 (by omega)).mpr (Nat.le_refl _)), if_pos rfl]), Or.inr ⟨h, rfl⟩⟩
  · rintro j x hj (⟨rfl, h⟩ | ⟨rfl, h⟩)
    · obtain ⟨e1, e2⟩ := hf j hj
      rcases e2 with e2 | e2
      · refine Or.inr ⟨0, Or.inr ⟨rfl, fun g => absurd (e2.symm.trans (g j hj)) (by decide)⟩, 0, fun n _ => ?_⟩
        rw [ff_M_seal_88, hs, if_neg (by rw [q_cl s4 (by omega)]; omega), if_neg (by decide), if_pos (sm_in (N := 4) (by omega) (by omega)), sm_nat (by omega), e1, if_pos e2, sm_suc]
      · refine Or.inr ⟨1, Or.inl ⟨rfl, fun k hk => ?_⟩, 0, fun n _ => ?_⟩
        · by_cases e : k = j
          · subst e; exact e2
          · exact h k (by omega)
        · rw [ff_M_seal_88, hs, if_neg (by rw [q_cl s4 (by omega)]; omega), if_neg (by decide), if_pos (sm_in (N := 4) (by omega) (by omega)), sm_nat (by omega), e1, if_neg (by rw [e2]; decide), sm_suc]
    · refine Or.inr ⟨0, Or.inr ⟨rfl, h⟩, 0, fun n _ => ?_⟩
      rw [ff_M_seal_88, hs, if_neg (by rw [q_cl s4 (by omega)]; omega), if_pos rfl, sm_suc]
/-- the relation behind a seal -/
theorem RG_sealed {s P b a k : Nat} {c h r : Nat → Nat} {m : Nat → Int64} {w : Nat → Nat → Nat} {I I' I1 I1' : MI} {J J' J1 J1' : MJ} {e : Int32} {o l : Int64} {ph' : Nat} (g : RG s 1 0 P b a c h r m w I J I' J') (hk : k < s)
    (e0 : ∀ y, y ≠ 1 → I1 0 y = I 0 y) (e01 : I1 0 1 = Int32.ofNat ph') (e3 : I1 3 = I 3) (eP : ∀ i y, i < s → (i ≠ k ∨ y ≠ 5) → I1 (15 + 6 * i) y = I (15 + 6 * i) y) (e5 : I1 (15 + 6 * k) 5 = 1)
    (eS : I1 (15 + 6 * k + 1) 0 = e) (eS2 : ∀ i, i < s → i ≠ k → I1 (15 + 6 * i + 1) = I (15 + 6 * i + 1) ∧ I1 (15 + 6 * i + 3) = I (15 + 6 * i + 3)) (eL : ∀ j, j < 52 → XP P (I1 (15 + 6 * k + 3) j)) (eG : ∀ i, i < s → I1 (15 + 6 * i + 4) = I (15 + 6 * i + 4))
    (j6 : J1 (15 + 6 * k) 6 = MK e o l) (jS : J1 (15 + 6 * k + 1) 1 = o ∧ J1 (15 + 6 * k + 1) 2 = l) (jo : ∀ i, i < s → i ≠ k → J1 (15 + 6 * i) = J (15 + 6 * i) ∧ J1 (15 + 6 * i + 1) = J (15 + 6 * i + 1)) (jc : ∀ i, i < s → J1 (15 + 6 * i + 5) = J (15 + 6 * i + 5))
    (f0 : ∀ y, y ≠ 4 → I1' 0 y = I' 0 y) (f04 : I1' 0 4 = Int32.ofNat ph') (f2 : I1' 2 k = 1) (f2' : ∀ i, i ≠ k → I1' 2 i = I' 2 i) (f4 : I1' 4 k = e) (f4' : ∀ i, i ≠ k → I1' 4 i = I' 4 i) (fo : ∀ x, x ≠ 0 → x ≠ 2 → x ≠ 4 → I1' x = I' x)
    (p3 : J1' 3 k = MK e o l) (p5 : J1' 5 k = o) (p6 : J1' 6 k = l) (po : ∀ i, i ≠ k → J1' 3 i = J' 3 i ∧ J1' 5 i = J' 5 i ∧ J1' 6 i = J' 6 i) (pr : ∀ x, x ≠ 3 → x ≠ 5 → x ≠ 6 → J1' x = J' x) (hx : XP P e)
    (hp : ph' = 1 ∨ (ph' = 2 ∧ ∀ i, i < s → I1' 2 i = 1)) (e6 : I1 6 = I 6) (hLk : LOCKS → ∀ j, j < 52 → I1 (15 + 6 * k + 3) j = LK P l j) : RG s ph' 0 P b a c h r m w I1 J1 I1' J1' := by
  obtain ⟨g1, g2, g3, g4, g5, g6, g7⟩ := g
  obtain ⟨hs, hs', s4, hph, hph', ph6, hP, hP', hTP, ht, t01, t2, t3, t4, hpp, hact, hb⟩ := g1
  have hb0 : b = 0 ∧ I' 0 30 = 0 ∧ I 0 7 = -1 := by
    rcases hb with x | x
    · exact x
    · exact absurd x.2.2.1 (by decide)
  have w0 := g5.2.2 (by omega)
  refine ⟨?_, ?_, ?_, ?_, ?_, ⟨fun u hu => absurd hu (by omega), ?_⟩, ?_⟩
  · exact ⟨by rw [e0 2 (by decide)]; exact hs, by rw [f0 3 (by decide)]; exact hs', s4, e01, f04, by omega, by rw [e0 0 (by decide)]; exact hP, by rw [f0 1 (by decide)]; exact hP', by rw [f0 2 (by decide), f0 20 (by decide)]; exact hTP, by rw [e0 4 (by decide)]; exact ht, fun _ => rfl, fun _ => by omega, fun hh => by omega, fun hh => by omega, fun _ => hpp (by decide), by rw [e0 7 (by decide), f0 31 (by decide)]; exact hact, Or.inl ⟨hb0.1, by rw [f0 30 (by decide)]; exact hb0.2.1, by rw [e0 7 (by decide)]; exact hb0.2.2⟩⟩
  · refine ⟨fun i hi => ?_, g2.2⟩
    obtain ⟨x1, x2, x3, x4, x5, x6, x7, x8, x9, x10⟩ := g2.1 i hi
    rw [eP i 0 hi (Or.inr (by decide)), eP i 1 hi (Or.inr (by decide)), eP i 2 hi (Or.inr (by decide)), eP i 3 hi (Or.inr (by decide)), eP i 4 hi (Or.inr (by decide)), fo 1 (by decide) (by decide) (by decide), fo 21 (by decide) (by decide) (by decide), fo 22 (by decide) (by decide) (by decide), fo 20 (by decide) (by decide) (by decide), fo 23 (by decide) (by decide) (by decide)]
    exact ⟨x1, x2, x3, x4, x5, x6, x7, x8, fun _ => x9 (by decide), x10⟩
  · refine ⟨fun i hi => ⟨?_, fun hh => ?_⟩, fun hh => by omega⟩
    · by_cases q : i = k
      · subst q
        exact Or.inr ⟨e5, f2, by rw [j6, p3], by rw [eS, f4], by rw [jS.1, p5], by rw [jS.2, p6], by rw [p3, f4, p5, p6], by rw [f4]; exact hx, eL⟩
      · unfold RQ
        rw [eP i 5 hi (Or.inl q), f2' i q, (jo i hi q).1, (po i q).1, (eS2 i hi q).1, f4' i q, (jo i hi q).2, (po i q).2.1, (po i q).2.2, (eS2 i hi q).2]
        exact (g3.1 i hi).1
    · rcases hp with x | x
      · omega
      · exact x.2 i hi
  · intro _ i hi
    rw [jc i hi, pr 10 (by decide) (by decide) (by decide), pr 11 (by decide) (by decide) (by decide), pr 12 (by decide) (by decide) (by decide), fo 13 (by decide) (by decide) (by decide), fo 14 (by decide) (by decide) (by decide)]
    exact g4 (by decide) i hi
  · refine ⟨fun _ => ?_, fun i hi j hj => ?_, fun _ => ⟨w0.1, ?_⟩⟩
    · rw [e3, fo 18 (by decide) (by decide) (by decide)]; exact g5.1 (by decide)
    · rw [eG i hi, fo 19 (by decide) (by decide) (by decide)]
      have z := w0.1 i hi j hj
      rcases g5.2.1 i hi j hj with y | y | y
      · exact Or.inl y
      · exact absurd (z.symm.trans y.1) (by decide)
      · exact absurd (z.symm.trans y.1) (by decide)
    · rw [fo 19 (by decide) (by decide) (by decide)]; exact w0.2
  · intro hL
    obtain ⟨x1, x2⟩ := g6.2 hL
    refine ⟨fun i hi q j hj => ?_, fun hp0 => ⟨fun j hj => ?_, fun u hu j hj => ?_⟩⟩
    · by_cases f : i = k
      · subst f; rw [p6]; exact hLk hL j hj
      · rw [f2' i f] at q
        rw [(eS2 i hi f).2, (po i f).2.2]
        exact x1 i hi q j hj
    · rw [show 6 + 0 = 6 from rfl, e6]; exact (x2 hp0).1 j hj
    · obtain rfl : u = 0 := by omega
      rw [show 6 + 0 = 6 from rfl, e6, fo 15 (by decide) (by decide) (by decide)]; exact (x2 hp0).2 0 (Nat.zero_le _) j hj
  · refine ⟨fun _ i hi => ?_, fun hh => by omega⟩
    rw [eP i 7 hi (Or.inr (by decide)), fo 7 (by decide) (by decide) (by decide)]
    rcases g7.1 (by decide) i hi with y | y
    · exact Or.inl y
    · exact absurd y.1 (by decide)
theorem call_seal {I : MI} {J : MJ} {I' : MI} {J' : MJ} (g : R I J I' J') (x y : Int32) (o l : Int64) : ∃ r r', Ev (fun n => ff_O_seal n I J x y o l) r ∧ Ev (fun n => ff_M_seal n I' J' x y o l) r' ∧ r.1 = r'.1 ∧ R r.2.1 r.2.2 r'.2.1 r'.2.2 := by
  obtain ⟨s, ph, t, P, b, ac, c, h, r, m, w, g⟩ := g
  have g := RG_th g 0
  unfold ff_M_seal ff_O_seal
  generalize ui I' 0 0 0 = I0 at g ⊢
  have gg := g
  obtain ⟨g1, g2, g3, g4, g5, g6, g7⟩ := g
  obtain ⟨hs, hs', s4, hph, hph', ph6, hP, hP', hTP, ht, t01, t2, t3, t4, hpp, hact, hb⟩ := g1
  have R0 : R I J I0 J' := ⟨s, ph, t, P, b, ac, c, h, r, m, w, gg⟩
  have c1 : (Int32.ofNat ph = 1) ↔ ph = 1 := nb_inj (y := 1) (by omega) (by omega)
  rw [hph, hph']
  by_cases d : ph = 1
  · simp only [if_pos (c1.mpr d)]
    rcases sc (s := s) (by omega) x with ⟨k, hk, rfl⟩ | hx
    · obtain ⟨tp, tp2, tp3⟩ := hTP (hpp (by omega)).1
      simp only [O_seat1 _ J hs s4 hk, M_seat1 _ J' hs' s4 hk, Option.bind_some, if_neg (show ¬ (1 : Int32) = 0 by decide), sm_nat (j := k) (by omega), if_pos (sm_i2 (j := k) (N := 4) (by omega) (by omega)), hP, fun n => M_isExp tp n (J := J') hP' tp2 y]
      by_cases hx : XP P y
      · have ex : ∀ n, ff_N_isExponent n y (Int32.ofNat P) = some 1 := fun n => by
          rcases N_isExp tp n y with q | q
          · exact q.2
          · exact absurd hx q.1
        simp only [ex, Option.bind_some, if_neg (show ¬ (1 : Int32) = 0 by decide)]
        rcases (g3.1 k hk).1 with ⟨e1, e2⟩ | ⟨e1, e2, q⟩
        · simp only [if_pos e1, if_pos e2, ff_S_keep, Option.bind_some, S_mark, M_mark]
          -- what is kept
          have u1 : (ui I (15 + 6 * k + 1) 0 y) (15 + 6 * k + 1) 0 = y := by rw [ui_at, if_pos ⟨rfl, rfl⟩]
          have u2 : (uj (uj J (15 + 6 * k + 1) 1 o) (15 + 6 * k + 1) 2 l) (15 + 6 * k + 1) 1 = o := by rw [uj_at, if_neg (by omega), uj_at, if_pos ⟨rfl, rfl⟩]
          have u3 : (uj (uj J (15 + 6 * k + 1) 1 o) (15 + 6 * k + 1) 2 l) (15 + 6 * k + 1) 2 = l := by rw [uj_at, if_pos ⟨rfl, rfl⟩]
          have u4 : (ui (ui I (15 + 6 * k + 1) 0 y) (15 + 6 * k) 5 1) 0 0 = Int32.ofNat P := by rw [ui_else _ _ _ (by omega), ui_else _ _ _ (by omega)]; exact hP
          simp only [u1, u2, u3, u4]
          obtain ⟨q, q1, q2, q3, q4⟩ := D_locks tp (ui (ui I (15 + 6 * k + 1) 0 y) (15 + 6 * k) 5 1) (uj (uj (uj J (15 + 6 * k + 1) 1 o) (15 + 6 * k + 1) 2 l) (15 + 6 * k) 6 (MK y o l)) l (15 + 6 * k + 3)
          have k0 : q.1 0 = I 0 := by rw [q3 0 (by omega), ui_else _ _ _ (by omega), ui_else _ _ _ (by omega)]
          obtain ⟨v, v1, v2⟩ := O_allSealed (s := s) (f := fun i => if i = k then 1 else I0 2 i) (I := q.1) q.2 (by rw [k0]; exact hs) s4 (fun i hi => by
            rw [q3 _ (by omega)]
            by_cases e : i = k
            · subst e
              rw [ui_at, if_pos ⟨rfl, rfl⟩]; simp only [if_true]; exact ⟨trivial, Or.inr trivial⟩
            · rw [ui_else _ _ _ (by omega), ui_else _ _ _ (by omega)]
              simp only [if_neg e]
              rcases (g3.1 i hi).1 with z | z
              · exact ⟨by rw [z.1, z.2], Or.inl z.2⟩
              · exact ⟨by rw [z.1, z.2.1], Or.inr z.2.1⟩)
          obtain ⟨z, z1, z2⟩ := M_seal88 (s := s) (f := fun i => if i = k then 1 else I0 2 i) (I := ui (ui I0 2 k 1) 4 k y) (uj (uj (uj J' 5 k o) 6 k l) 3 k (MK y o l)) (Int32.ofNat k) y o l (by rw [ui_else _ _ _ (by decide), ui_else _ _ _ (by decide)]; exact hs') s4 (fun i hi => by
            rw [ui_else _ _ _ (by decide), ui_at]
            by_cases e : i = k
            · subst e; rw [if_pos ⟨rfl, rfl⟩]; simp only [if_true]; exact ⟨trivial, Or.inr trivial⟩
            · rw [if_neg (fun hh => e hh.2)]
              simp only [if_neg e]
              rcases (g3.1 i hi).1 with z | z
              · exact ⟨trivial, Or.inl z.2⟩
              · exact ⟨trivial, Or.inr z.2.1⟩)
          have t0 : t = 0 := t01 (by omega)
          subst t0 d
          have eqs := fun (ph' : Nat) (I1 I1' : MI) (a0 : ∀ y, y ≠ 1 → I1 0 y = q.1 0 y) (a1 : I1 0 1 = Int32.ofNat ph') (a2 : ∀ x, x ≠ 0 → I1 x = q.1 x) (b0 : ∀ y, y ≠ 4 → I1' 0 y = I0 0 y) (b1 : I1' 0 4 = Int32.ofNat ph') (b2 : ∀ x, x ≠ 0 → I1' x = (ui (ui I0 2 k 1) 4 k y) x) (hp : ph' = 1 ∨ (ph' = 2 ∧ ∀ i, i < s → I1' 2 i = 1)) =>
            RG_sealed (I1 := I1) (I1' := I1') (J1 := q.2) (J1' := uj (uj (uj J' 5 k o) 6 k l) 3 k (MK y o l)) (e := y) (o := o) (l := l) (ph' := ph') gg hk
              (fun y hy => by rw [a0 y hy, k0]) a1 (by rw [a2 3 (by decide), q3 3 (by omega), ui_else _ _ _ (by omega), ui_else _ _ _ (by omega)])
              (fun i y hi hy => by rw [a2 _ (by omega), q3 _ (by omega), ui_at, if_neg (by omega), ui_else _ _ _ (by omega)])
              (by rw [a2 _ (by omega), q3 _ (by omega), ui_at, if_pos ⟨rfl, rfl⟩])
              (by rw [a2 _ (by omega), q3 _ (by omega), ui_else _ _ _ (by omega), ui_at, if_pos ⟨rfl, rfl⟩])
              (fun i hi e => ⟨by rw [a2 _ (by omega), q3 _ (by omega), ui_else _ _ _ (by omega), ui_else _ _ _ (by omega)], by rw [a2 _ (by omega), q3 _ (by omega), ui_else _ _ _ (by omega), ui_else _ _ _ (by omega)]⟩)
              (fun j hj => by rw [a2 _ (by omega)]; exact q2 j hj)
              (fun i hi => by rw [a2 _ (by omega), q3 _ (by omega), ui_else _ _ _ (by omega), ui_else _ _ _ (by omega)])
              (by rw [q4 _ (by omega), uj_at, if_pos ⟨rfl, rfl⟩])
              (by rw [q4 _ (by omega), uj_else _ _ _ (by omega)]; exact ⟨u2, u3⟩)
              (fun i hi e => ⟨by rw [q4 _ (by omega), uj_else _ _ _ (by omega), uj_else _ _ _ (by omega), uj_else _ _ _ (by omega)], by rw [q4 _ (by omega), uj_else _ _ _ (by omega), uj_else _ _ _ (by omega), uj_else _ _ _ (by omega)]⟩)
              (fun i hi => by rw [q4 _ (by omega), uj_else _ _ _ (by omega), uj_else _ _ _ (by omega), uj_else _ _ _ (by omega)])
              b0 b1 (by rw [b2 2 (by decide), ui_else _ _ _ (by decide), ui_at, if_pos ⟨rfl, rfl⟩])
              (fun i e => by rw [b2 2 (by decide), ui_else _ _ _ (by decide), ui_at, if_neg (fun hh => e hh.2)])
              (by rw [b2 4 (by decide), ui_at, if_pos ⟨rfl, rfl⟩])
              (fun i e => by rw [b2 4 (by decide), ui_at, if_neg (fun hh => e hh.2), ui_else _ _ _ (by decide)])
              (fun x x0 x2 x4 => by rw [b2 x x0, ui_else _ _ _ x4, ui_else _ _ _ x2])
              (by rw [uj_at, if_pos ⟨rfl, rfl⟩])
              (by rw [uj_else _ _ _ (by decide), uj_else _ _ _ (by decide), uj_at, if_pos ⟨rfl, rfl⟩])
              (by rw [uj_else _ _ _ (by decide), uj_at, if_pos ⟨rfl, rfl⟩])
              (fun i e => ⟨by rw [uj_at, if_neg (fun hh => e hh.2), uj_else _ _ _ (by decide), uj_else _ _ _ (by decide)], by rw [uj_else _ _ _ (by decide), uj_else _ _ _ (by decide), uj_at, if_neg (fun hh => e hh.2)], by rw [uj_else _ _ _ (by decide), uj_at, if_neg (fun hh => e hh.2), uj_else _ _ _ (by decide)]⟩)
              (fun x x3 x5 x6 => by rw [uj_else _ _ _ x3, uj_else _ _ _ x6, uj_else _ _ _ x5]) hx hp
              (by rw [a2 6 (by decide), q3 6 (by omega), ui_else _ _ _ (by omega), ui_else _ _ _ (by omega)])
              (fun hL j hj => by
                obtain ⟨q', q1', q2'⟩ := D_lk2 hL tp (ui (ui I (15 + 6 * k + 1) 0 y) (15 + 6 * k) 5 1) (uj (uj (uj J (15 + 6 * k + 1) 1 o) (15 + 6 * k + 1) 2 l) (15 + 6 * k) 6 (MK y o l)) l (15 + 6 * k + 3)
                obtain rfl := Ev.one q1 q1'
                rw [a2 _ (by omega)]; exact q2' j hj)
          rcases v2 with ⟨rfl, all⟩ | ⟨rfl, all⟩
          · rcases z2 with ⟨_, rfl⟩ | ⟨nall, _⟩
            · refine ⟨(1, ui q.1 0 1 2, q.2), _, ?_, z1, rfl, s, 2, 0, P, b, ac, c, h, r, m, w, ?_⟩
              · refine Ev.bind q1 ?_
                refine Ev.bind v1 ?_
                simp only [if_neg (show ¬ (1 : Int32) = 0 by decide)]
                exact Ev.pure _
              · dsimp only
                refine eqs 2 _ _ (fun y hy => by rw [ui_at, if_neg (by omega)]) (by rw [ui_at, if_pos ⟨rfl, rfl⟩]; rfl) (fun x hx => ui_else _ _ _ hx) (fun y hy => by rw [ui_at, if_neg (by omega), ui_else _ _ _ (by decide), ui_else _ _ _ (by decide)]) (by rw [ui_at, if_pos ⟨rfl, rfl⟩]; rfl) (fun x hx => ui_else _ _ _ hx) (Or.inr ⟨rfl, fun i hi => ?_⟩)
                have := all i hi
                rw [ui_else _ _ _ (by decide), ui_else _ _ _ (by decide), ui_at]
                by_cases e : i = k
                · rw [if_pos ⟨rfl, e⟩]
                · rw [if_neg (fun hh => e hh.2)]; rw [if_neg e] at this; exact this
            · exact absurd all nall
          · rcases z2 with ⟨nall, _⟩ | ⟨_, rfl⟩
            · exact absurd nall all
            · refine ⟨(1, q.1, q.2), _, ?_, z1, rfl, s, 1, 0, P, b, ac, c, h, r, m, w, ?_⟩
              · refine Ev.bind q1 ?_
                refine Ev.bind v1 ?_
                simp only [if_pos]
                exact Ev.pure _
              · dsimp only
                exact eqs 1 _ _ (fun _ _ => rfl) (by rw [k0]; exact hph) (fun _ _ => rfl) (fun y hy => by rw [ui_else _ _ _ (by decide), ui_else _ _ _ (by decide)]) (by rw [ui_else _ _ _ (by decide), ui_else _ _ _ (by decide)]; exact hph') (fun _ _ => rfl) (Or.inl rfl)
        · simp only [e1, e2, if_neg (show ¬ (1 : Int32) = 0 by decide)]
          exact ⟨_, _, Ev.pure _, Ev.pure _, rfl, R0⟩
      · have ex : ∀ n, ff_N_isExponent n y (Int32.ofNat P) = some 0 := fun n => by
          rcases N_isExp tp n y with q | q
          · exact absurd q.1 hx
          · exact q.2
        simp only [ex, Option.bind_some, if_pos]
        rcases (g3.1 k hk).1 with ⟨e1, e2⟩ | ⟨e1, e2, q⟩
        · simp only [if_pos e2]
          exact ⟨_, _, Ev.pure _, Ev.pure _, rfl, R0⟩
        · simp only [e2, if_neg (show ¬ (1 : Int32) = 0 by decide)]
          exact ⟨_, _, Ev.pure _, Ev.pure _, rfl, R0⟩
    · simp only [O_seat0 _ J hs s4 hx, M_seat0 _ J' hs' s4 hx, Option.bind_some, if_pos]
      exact ⟨_, _, Ev.pure _, Ev.pure _, rfl, R0⟩
  · simp only [if_neg (show ¬ Int32.ofNat ph = 1 by rw [c1]; exact d)]
    rcases sc (s := s) (by omega) x with ⟨k, hk, rfl⟩ | hx
    · simp only [M_seat1 _ J' hs' s4 hk, Option.bind_some, if_neg (show ¬ (1 : Int32) = 0 by decide)]
      exact ⟨_, _, Ev.pure _, Ev.pure _, rfl, R0⟩
    · simp only [M_seat0 _ J' hs' s4 hx, Option.bind_some, if_pos]
      exact ⟨_, _, Ev.pure _, Ev.pure _, rfl, R0⟩
