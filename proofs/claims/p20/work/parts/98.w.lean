/-! show, audit -/
theorem RG_AUD {s t P b a : Nat} {c h r : Nat → Nat} {m : Nat → Int64} {w : Nat → Nat → Nat} {I I' : MI} {J J' : MJ} {ph : Nat} (g : RG s ph t P b a c h r m w I J I' J') (hp : 5 ≤ ph) (hsh : ∀ k, k < s → I' 7 k = 1) : AUD s P m w I J I' J' := by
  have gg := g
  obtain ⟨g1, g2, g3, g4, g5, g6, g7⟩ := g
  obtain ⟨hs, hs', s4, hph, hph', ph6, hP, hP', hTP, ht, t01, t2, t3, t4, hpp, hact, hb⟩ := g1
  obtain ⟨p0, s2⟩ := hpp (by omega)
  obtain ⟨tp, tp2, tp20⟩ := hTP p0
  have t8 : t = 2 * s := t4 (by omega)
  subst t8
  refine ⟨s2, s4, tp, hs, hP, hs', hP', tp2, fun k hk => ⟨(RG_seal gg (by omega)).2 k hk, ?_⟩, g6.1, g5.2.1⟩
  rcases g7.1 (by omega) k hk with x | x
  · exact absurd (x.2.symm.trans (hsh k hk)) (by decide)
  · exact x.2.2.2
theorem call_audit {I : MI} {J : MJ} {I' : MI} {J' : MJ} (g : R I J I' J') : (∃ v r', Ev (fun n => ff_O_audit n I J) (some v) ∧ Ev (fun n => ff_M_audit n I' J') r' ∧ v = r'.1 ∧ r'.2.1 0 0 = 0 ∧ R I J r'.2.1 r'.2.2) ∨ (∃ r', Ev (fun n => ff_O_audit n I J) none ∧ Ev (fun n => ff_M_audit n I' J') r' ∧ r'.2.1 0 0 = 1 ∧ R I J r'.2.1 r'.2.2) := by
  obtain ⟨s, ph, t, P, b, ac, c, h, r, m, w, g⟩ := g
  have R1 : ∀ v, R I J (ui I' 0 0 v) J' := fun v => ⟨s, ph, t, P, b, ac, c, h, r, m, w, RG_th g v⟩
  have z : ∀ v, (ui I' 0 0 v) 0 0 = v := fun v => by rw [ui_at, if_pos ⟨rfl, rfl⟩]
  have g0 := RG_th g 0
  obtain ⟨g1, g2, g3, g4, g5, g6, g7⟩ := g
  obtain ⟨hs, hs', s4, hph, hph', ph6, hP, hP', hTP, ht, t01, t2, t3, t4, hpp, hact, hb⟩ := g1
  have c6 : (Int32.ofNat ph = 6) ↔ ph = 6 := nb_inj (y := 6) (by omega) (by omega)
  unfold ff_O_audit ff_M_audit ff_M_raise
  rw [hph, hph']
  by_cases d : ph = 6
  · simp only [if_pos (c6.mpr d)]
    have g7' := g0.2.2.2.2.2.2
    obtain ⟨sh, av⟩ := g7'.2 d
    obtain ⟨q, q1, q2, q3⟩ := M_audit (RG_AUD g0 (by omega) sh)
    refine Or.inl ⟨_, q, Ev.pure _, q1, IsAV_one av q2, by rw [q3.1 0 (by decide) (by decide)]; exact z 0, s, ph, t, P, b, ac, c, h, r, m, w, RG_M g0 (fun x _ x16 x17 => q3.1 x x16 x17) (fun y _ => by rw [q3.1 0 (by decide) (by decide)]) q3.2⟩
  · simp only [if_neg (show ¬ Int32.ofNat ph = 6 by rw [c6]; exact d), Option.bind_some]
    exact Or.inr ⟨_, Ev.pure _, Ev.pure _, z _, R1 _⟩
theorem O_allShown {s : Nat} {f : Nat → Int32} {I : MI} (J : MJ) (hs : I 0 2 = Int32.ofNat s) (s4 : s ≤ 4) (hf : ∀ k, k < s → I (15 + 6 * k) 7 = f k ∧ (f k = 0 ∨ f k = 1)) : ∃ v, Ev (fun n => ff_O_allShown n I J) v ∧ ((v = 1 ∧ ∀ k, k < s → f k = 1) ∨ (v = 0 ∧ ¬ ∀ k, k < s → f k = 1)) := by
  refine Ev.loop0 (α := Unit) (fun n _ j => ff_O_allShown_2 I J n (Int32.ofNat j)) s (fun j _ => ∀ k, k < j → f k = 1) _ () (fun k hk => absurd hk (by omega)) ?_ ?_
  · intro _ h
    exact ⟨1, Ev.suc (Ev.now fun n => by rw [ff_O_allShown_2, hs, if_pos ((q_cl s4 (by omega)).mpr (Nat.le_refl _))]), Or.inl ⟨rfl, h⟩⟩
  · intro j _ hj h
    obtain ⟨e1, e2⟩ := hf j hj
    rcases e2 with e2 | e2
    · exact Or.inl ⟨0, Ev.suc (Ev.now fun n => by rw [ff_O_allShown_2, hs, if_neg (by rw [q_cl s4 (by omega)]; omega), if_pos (sm_in (N := 4) (by omega) (by omega)), sm_nat (by omega), e1, if_pos e2]), Or.inr ⟨rfl, fun g => absurd (e2.symm.trans (g j hj)) (by decide)⟩⟩
    · refine Or.inr ⟨(), fun k hk => ?_, 0, fun n _ => ?_⟩
      · by_cases e : k = j
        · subst e; exact e2
        · exact h k (by omega)
      · rw [ff_O_allShown_2, hs, if_neg (by rw [q_cl s4 (by omega)]; omega), if_pos (sm_in (N := 4) (by omega) (by omega)), sm_nat (by omega), e1, if_neg (by rw [e2]; decide), sm_suc]
theorem M_show104 {s : Nat} {f : Nat → Int32} {I : MI} (J : MJ) (v1 : Int32) (hs : I 0 3 = Int32.ofNat s) (s4 : s ≤ 4) (hf : ∀ k, k < s → I 7 k = f k ∧ (f k = 0 ∨ f k = 1)) : ∃ r, Ev (fun n => ff_M_show_104 n I J v1 1 0) r ∧ (((∀ k, k < s → f k = 1) ∧ r = (1, ui I 0 4 6, J)) ∨ ((¬ ∀ k, k < s → f k = 1) ∧ r = (1, I, J))) := by
  refine Ev.loop0 (α := Int32) (fun n x j => ff_M_show_104 n I J v1 x (Int32.ofNat j)) s (fun j x => (x = 1 ∧ ∀ k, k < j → f k = 1) ∨ (x = 0 ∧ ¬ ∀ k, k < s → f k = 1)) _ 1 (Or.inl ⟨rfl, fun k hk => absurd hk (by omega)⟩) ?_ ?_
  · rintro x (⟨rfl, h⟩ | ⟨rfl, h⟩)
    · exact ⟨_, Ev.suc (Ev.now fun n => by rw [ff_M_show_104, hs, if_pos ((q_cl s4 (by omega)).mpr (Nat.le_refl _)), if_neg (by decide)]), Or.inl ⟨h, rfl⟩⟩
    · exact ⟨_, Ev.suc (Ev.now fun n => by rw [ff_M_show_104, hs, if_pos ((q_cl s4 (by omega)).mpr (Nat.le_refl _)), if_pos rfl]), Or.inr ⟨h, rfl⟩⟩
  · rintro j x hj (⟨rfl, h⟩ | ⟨rfl, h⟩)
    · obtain ⟨e1, e2⟩ := hf j hj
      rcases e2 with e2 | e2
      · refine Or.inr ⟨0, Or.inr ⟨rfl, fun g => absurd (e2.symm.trans (g j hj)) (by decide)⟩, 0, fun n _ => ?_⟩
        rw [ff_M_show_104, hs, if_neg (by rw [q_cl s4 (by omega)]; omega), if_neg (by decide), if_pos (sm_in (N := 4) (by omega) (by omega)), sm_nat (by omega), e1, if_pos e2, sm_suc]
      · refine Or.inr ⟨1, Or.inl ⟨rfl, fun k hk => ?_⟩, 0, fun n _ => ?_⟩
        · by_cases e : k = j
          · subst e; exact e2
          · exact h k (by omega)
        · rw [ff_M_show_104, hs, if_neg (by rw [q_cl s4 (by omega)]; omega), if_neg (by decide), if_pos (sm_in (N := 4) (by omega) (by omega)), sm_nat (by omega), e1, if_neg (by rw [e2]; decide), sm_suc]
    · refine Or.inr ⟨0, Or.inr ⟨rfl, h⟩, 0, fun n _ => ?_⟩
      rw [ff_M_show_104, hs, if_neg (by rw [q_cl s4 (by omega)]; omega), if_pos rfl, sm_suc]
/-- the relation behind a show, verdict aside -/
theorem RG_shown {s t P b a k : Nat} {c h r : Nat → Nat} {m : Nat → Int64} {w : Nat → Nat → Nat} {I I' I1 I1' : MI} {J J' J1 J1' : MJ} {e : Int32} {o : Int64} (g : RG s 5 t P b a c h r m w I J I' J') (hk : k < s)
    (e0 : I1 0 = I 0) (eP : ∀ i y, (i ≠ k ∨ y ≠ 7) → I1 (15 + 6 * i) y = I (15 + 6 * i) y) (e7 : I1 (15 + 6 * k) 7 = 1) (eS : I1 (15 + 6 * k + 2) 0 = e) (eo : ∀ x, x ≠ 15 + 6 * k → x ≠ 15 + 6 * k + 2 → I1 x = I x)
    (j1 : J1 (15 + 6 * k + 2) 1 = o) (j2 : J1 (15 + 6 * k + 2) 2 = J' 6 k) (jo : ∀ x, x ≠ 15 + 6 * k + 2 → J1 x = J x)
    (f0 : I1' 0 = I' 0) (f7 : ∀ i, I1' 7 i = if i = k then 1 else I' 7 i) (f8 : ∀ i, I1' 8 i = if i = k then e else I' 8 i) (fo : ∀ x, x ≠ 7 → x ≠ 8 → I1' x = I' x)
    (p9 : ∀ i, J1' 9 i = if i = k then o else J' 9 i) (po : ∀ x, x ≠ 9 → J1' x = J' x) (he : e = I' 4 k ∨ e = AB P (I' 4 k)) (ho : o = J' 5 k ∨ o = J' 5 k + 1) : RG s 5 t P b a c h r m w I1 J1 I1' J1' := by
  have t8 := RS_t g.1
  obtain ⟨g1, g2, g3, g4, g5, g6, g7⟩ := g
  have s4 : s ≤ 4 := g1.2.2.1
  refine ⟨RS_fr g1 (fun y _ => by rw [e0]) (fun y _ => by rw [f0]), RB_fr g2 (fun i _ y hy => eP i y (Or.inr (by omega))) (fun i _ => ⟨by rw [fo 1 (by decide) (by decide)], by rw [fo 20 (by decide) (by decide)], by rw [fo 21 (by decide) (by decide)], by rw [fo 22 (by decide) (by decide)], by rw [fo 23 (by decide) (by decide)]⟩), RC_fr g3 (fun i _ => ⟨eP i 5 (Or.inr (by decide)), eo _ (by omega) (by omega), eo _ (by omega) (by omega), by rw [jo _ (by omega)], jo _ (by omega)⟩) ⟨fo 2 (by decide) (by decide), fo 4 (by decide) (by decide), po 3 (by decide), po 5 (by decide), po 6 (by decide)⟩, RD_fr g4 (fun i _ => jo _ (by omega)) ⟨fo 13 (by decide) (by decide), fo 14 (by decide) (by decide), po 10 (by decide), po 11 (by decide), po 12 (by decide)⟩, RE_fr g5 ⟨eo 3 (by omega) (by omega), fun i _ => ⟨eo _ (by omega) (by omega), eo _ (by omega) (by omega)⟩⟩ ⟨fo 18 (by decide) (by decide), fo 19 (by decide) (by decide), po 6 (by decide)⟩, RF_fr g6 t8 (fun u _ => eo _ (by omega) (by omega)) (fun i _ => ⟨eo _ (by omega) (by omega), eo _ (by omega) (by omega), jo _ (by omega)⟩) ⟨fo 15 (by decide) (by decide), fo 4 (by decide) (by decide), po 5 (by decide), po 6 (by decide)⟩ (fo 2 (by decide) (by decide)), fun _ i hi => ?_, fun hh => absurd hh (by decide)⟩
  by_cases q : i = k
  · subst q
    refine Or.inr ⟨by decide, e7, by rw [f7, if_pos rfl], ?_⟩
    unfold SHW
    rw [eS, j1, j2, f8, if_pos rfl, p9, if_pos rfl, po 6 (by decide), po 5 (by decide), fo 4 (by decide) (by decide)]
    exact ⟨rfl, rfl, rfl, he, ho⟩
  · unfold SHW
    rw [eP i 7 (Or.inl q), f7, if_neg q, eo (15 + 6 * i + 2) (by omega) (by omega), jo (15 + 6 * i + 2) (by omega), f8, if_neg q, p9, if_neg q, po 6 (by decide), po 5 (by decide), fo 4 (by decide) (by decide)]
    exact g7.1 (by decide) i hi
/-- the hand is over -/
theorem RG_over {s t P b a : Nat} {c h r : Nat → Nat} {m : Nat → Int64} {w : Nat → Nat → Nat} {I I' I1 I1' : MI} {J J' J1 : MJ} (g : RG s 5 t P b a c h r m w I J I' J') (hsh : ∀ k, k < s → I' 7 k = 1)
    (e0 : ∀ y, y ≠ 1 → y ≠ 8 → I1 0 y = I 0 y) (e1 : I1 0 1 = 6) (e8 : IsAV s m w I' J' (I1 0 8)) (eo : ∀ x, x ≠ 0 → x ≠ 4 → x ≠ 5 → I1 x = I x) (jo : ∀ x, x ≠ 39 → J1 x = J x)
    (f0 : ∀ y, y ≠ 4 → I1' 0 y = I' 0 y) (f4 : I1' 0 4 = 6) (fo : ∀ x, x ≠ 0 → I1' x = I' x) : RG s 6 t P b a c h r m w I1 J1 I1' J' := by
  have t8 := RS_t g.1
  obtain ⟨g1, g2, g3, g4, g5, g6, g7⟩ := g
  obtain ⟨hs, hs', s4, hph, hph', ph6, hP, hP', hTP, ht, t01, t2, t3, t4, hpp, hact, hb⟩ := g1
  refine ⟨⟨by rw [e0 2 (by decide) (by decide)]; exact hs, by rw [f0 3 (by decide)]; exact hs', s4, e1, f4, by decide, by rw [e0 0 (by decide) (by decide)]; exact hP, by rw [f0 1 (by decide)]; exact hP', by rw [f0 2 (by decide), f0 20 (by decide)]; exact hTP, by rw [e0 4 (by decide) (by decide)]; exact ht, fun hh => absurd hh (by decide), fun hh => absurd hh (by decide), fun hh => absurd hh (by decide), fun _ => t4 (by decide), fun _ => hpp (by decide), by rw [e0 7 (by decide) (by decide), f0 31 (by decide)]; exact hact, ?_⟩, ?_, ?_, ?_, ?_, RF_fr g6 t8 (fun u _ => eo _ (by omega) (by omega) (by omega)) (fun i _ => ⟨eo _ (by omega) (by omega) (by omega), eo _ (by omega) (by omega) (by omega), jo _ (by omega)⟩) ⟨fo 15 (by decide), fo 4 (by decide), rfl, rfl⟩ (fo 2 (by decide)), ?_⟩
  · rcases hb with x | x
    · exact Or.inl ⟨x.1, by rw [f0 30 (by decide)]; exact x.2.1, by rw [e0 7 (by decide) (by decide)]; exact x.2.2⟩
    · exact absurd x.2.2.1 (by decide)
  · have z := RB_fr g2 (I1 := I1) (I1' := I1') (fun i _ y hy => by rw [eo _ (by omega) (by omega) (by omega)]) (fun i _ => ⟨by rw [fo 1 (by decide)], by rw [fo 20 (by decide)], by rw [fo 21 (by decide)], by rw [fo 22 (by decide)], by rw [fo 23 (by decide)]⟩)
    refine ⟨fun i hi => ?_, z.2⟩
    obtain ⟨x1, x2, x3, x4, x5, x6, x7, x8, x9, x10⟩ := z.1 i hi
    exact ⟨x1, x2, x3, x4, x5, x6, x7, x8, fun _ => x9 (by decide), x10⟩
  · have z := RC_fr g3 (I1 := I1) (I1' := I1') (J1 := J1) (J1' := J') (fun i _ => ⟨by rw [eo _ (by omega) (by omega) (by omega)], eo _ (by omega) (by omega) (by omega), eo _ (by omega) (by omega) (by omega), by rw [jo _ (by omega)], jo _ (by omega)⟩) ⟨fo 2 (by decide), fo 4 (by decide), rfl, rfl, rfl⟩
    exact ⟨fun i hi => ⟨(z.1 i hi).1, fun _ => (z.1 i hi).2 (by decide)⟩, fun hh => absurd hh (by decide)⟩
  · have z := RD_fr g4 (I1' := I1') (J1 := J1) (J1' := J') (fun i _ => jo _ (by omega)) ⟨fo 13 (by decide), fo 14 (by decide), rfl, rfl, rfl⟩
    exact fun _ => z (by decide)
  · have z := RE_fr g5 (I1 := I1) (I1' := I1') (J1' := J') ⟨eo 3 (by decide) (by decide) (by decide), fun i _ => ⟨eo _ (by omega) (by omega) (by omega), eo _ (by omega) (by omega) (by omega)⟩⟩ ⟨fo 18 (by decide), fo 19 (by decide), rfl⟩
    exact ⟨fun _ => z.1 (by decide), z.2.1, fun hh => absurd hh (by decide)⟩
  · refine ⟨fun _ i hi => ?_, fun _ => ⟨fun k hk => by rw [fo 7 (by decide)]; exact hsh k hk, ?_⟩⟩
    · unfold SHW
      rw [eo (15 + 6 * i) (by omega) (by omega) (by omega), eo (15 + 6 * i + 2) (by omega) (by omega) (by omega), jo (15 + 6 * i + 2) (by omega), fo 7 (by decide), fo 8 (by decide), fo 4 (by decide)]
      rcases g7.1 (by decide) i hi with y | y
      · exact Or.inl y
      · exact Or.inr ⟨by decide, y.2⟩
    · unfold IsAV bad1 at *
      rw [fo 8 (by decide)]
      exact e8
