/-! turn -/
/-- the relation behind a turn -/
theorem RG_turned {s ph t P b a k ph' : Nat} {c h r : Nat → Nat} {m : Nat → Int64} {w : Nat → Nat → Nat} {I I' I1 I1' : MI} {J J' J1 J1' : MJ} {mk : Int64} (g : RG s ph t P b a c h r m w I J I' J') (hph2 : ph = 2 ∨ ph = 3) (hk : k = if t < s then t else t - s) (hp : ph' = if t + 1 = s then 3 else if t + 1 = 2 * s then 4 else ph)
    (e0 : ∀ y, y ≠ 1 → y ≠ 4 → I1 0 y = I 0 y) (e01 : I1 0 1 = Int32.ofNat ph') (e04 : I1 0 4 = Int32.ofNat (t + 1)) (eo : ∀ x, x ≠ 0 → x ≠ 4 → x ≠ 6 + (t + 1) → I1 x = I x) (jo : ∀ x, x ≠ 39 → J1 x = J x)
    (er1 : t < s → ∀ j, j < 52 → I1 (6 + (t + 1)) j = spo P mk j (lockO P (I (6 + t)) (J (15 + 6 * k + 1) 1) (I (15 + 6 * k + 1) 0) j)) (er2 : s ≤ t → ∀ j, j < 52 → I1 (6 + (t + 1)) j = spo P mk j (relO P (I (6 + t)) (I (15 + 6 * k + 1) 0) (I (15 + 6 * k + 3)) j))
    (f0 : ∀ y, y ≠ 0 → y ≠ 4 → y ≠ 20 → I1' 0 y = I' 0 y) (f04 : I1' 0 4 = Int32.ofNat ph') (f20 : I1' 0 20 = Int32.ofNat (t + 1)) (fo : ∀ x, x ≠ 0 → x ≠ 15 → x ≠ 16 → x ≠ 17 → I1' x = I' x) (f15 : ∀ i, i < 52 * (t + 1) ∨ 52 * (t + 2) ≤ i → I1' 15 i = I' 15 i) (po : ∀ x, x ≠ 0 → J1' x = J' x)
    (fr1 : t < s → ∀ j, j < 52 → I1' 15 (52 * (t + 1) + j) = spo P mk j (lockM P (fun i => I' 15 (52 * t + i)) (J' 5 k) (I' 4 k) j)) (fr2 : s ≤ t → ∀ j, j < 52 → I1' 15 (52 * (t + 1) + j) = spo P mk j (relM P (fun i => I' 15 (52 * t + i)) (I' 4 k) (LK P (J' 6 k)) j)) (hQ : RQ P k I J I' J') (hs2 : I' 2 k = 1) :
    RG s ph' (t + 1) P b a c h r (fun u => if u = t then mk else m u) w I1 J1 I1' J1' := by
  have t8 := RS_t g.1
  obtain ⟨g1, g2, g3, g4, g5, g6, g7⟩ := g
  obtain ⟨hs, hs', s4, hph, hph', ph6, hP, hP', hTP, ht, t01, t2, t3, t4, hpp, hact, hb⟩ := g1
  have hb0 : b = 0 ∧ I' 0 30 = 0 ∧ I 0 7 = -1 := by
    rcases hb with x | x
    · exact x
    · have := x.2.2.1; omega
  have w0 := g5.2.2 (by omega)
  have hpp2 := hpp (by omega)
  have tt : t < 2 * s := by omega
  have p34 : 2 ≤ ph' ∧ ph' ≤ 4 ∧ (ph' = 2 → t + 1 < s) ∧ (ph' = 3 → s ≤ t + 1 ∧ t + 1 < 2 * s) ∧ (4 ≤ ph' → t + 1 = 2 * s) := by
    rw [hp]
    split
    · omega
    · split <;> omega
  refine ⟨?_, ?_, ?_, ?_, ?_, ?_, ?_⟩
  · exact ⟨by rw [e0 2 (by decide) (by decide)]; exact hs, by rw [f0 3 (by decide) (by decide) (by decide)]; exact hs', s4, e01, f04, by omega, by rw [e0 0 (by decide) (by decide)]; exact hP, by rw [f0 1 (by decide) (by decide) (by decide)]; exact hP', fun hh => ⟨(hTP hh).1, by rw [f0 2 (by decide) (by decide) (by decide)]; exact (hTP hh).2.1, f20⟩, e04, fun hh => by omega, p34.2.2.1, p34.2.2.2.1, p34.2.2.2.2, fun _ => hpp2, by rw [e0 7 (by decide) (by decide), f0 31 (by decide) (by decide) (by decide)]; exact hact, Or.inl ⟨hb0.1, by rw [f0 30 (by decide) (by decide) (by decide)]; exact hb0.2.1, by rw [e0 7 (by decide) (by decide)]; exact hb0.2.2⟩⟩
  · refine ⟨fun i hi => ?_, g2.2⟩
    obtain ⟨x1, x2, x3, x4, x5, x6, x7, x8, x9, x10⟩ := g2.1 i hi
    rw [eo _ (by omega) (by omega) (by omega), fo 1 (by decide) (by decide) (by decide) (by decide), fo 21 (by decide) (by decide) (by decide) (by decide), fo 22 (by decide) (by decide) (by decide) (by decide), fo 20 (by decide) (by decide) (by decide) (by decide), fo 23 (by decide) (by decide) (by decide) (by decide)]
    exact ⟨x1, x2, x3, x4, x5, x6, x7, x8, fun _ => x9 (by omega), x10⟩
  · have g3' := RC_fr g3 (I1 := I1) (J1 := J1) (I1' := I1') (J1' := J1') (fun i hi => ⟨by rw [eo _ (by omega) (by omega) (by omega)], eo _ (by omega) (by omega) (by omega), eo _ (by omega) (by omega) (by omega), by rw [jo _ (by omega)], jo _ (by omega)⟩) ⟨fo 2 (by decide) (by decide) (by decide) (by decide), fo 4 (by decide) (by decide) (by decide) (by decide), po 3 (by decide), po 5 (by decide), po 6 (by decide)⟩
    exact ⟨fun i hi => ⟨(g3'.1 i hi).1, fun _ => (g3'.1 i hi).2 (by omega)⟩, fun hh => by omega⟩
  · have g4' := RD_fr g4 (I1' := I1') (J1 := J1) (J1' := J1') (fun i hi => jo _ (by omega)) ⟨fo 13 (by decide) (by decide) (by decide) (by decide), fo 14 (by decide) (by decide) (by decide) (by decide), po 10 (by decide), po 11 (by decide), po 12 (by decide)⟩
    exact fun _ => g4' (by omega)
  · have g5' := RE_fr g5 (I1 := I1) (I1' := I1') (J1' := J1') ⟨eo 3 (by decide) (by decide) (by omega), fun i hi => ⟨eo _ (by omega) (by omega) (by omega), eo _ (by omega) (by omega) (by omega)⟩⟩ ⟨fo 18 (by decide) (by decide) (by decide) (by decide), fo 19 (by decide) (by decide) (by decide) (by decide), po 6 (by decide)⟩
    exact ⟨fun _ => g5'.1 (by omega), g5'.2.1, fun _ => g5'.2.2 (by omega)⟩
  · refine ⟨?_, fun hL => ?_⟩
    rotate_left
    · obtain ⟨y1, y2⟩ := g6.2 hL
      have ks : k < s := by rw [hk]; split <;> omega
      have tp := (hTP hpp2.1).1
      obtain ⟨y3, y4⟩ := y2 hpp2.1
      refine ⟨fun i hi q j hj => ?_, fun hp0 => ⟨fun j hj => ?_, fun u hu j hj => ?_⟩⟩
      · rw [fo 2 (by decide) (by decide) (by decide) (by decide)] at q
        rw [eo _ (by omega) (by omega) (by omega), po 6 (by decide)]
        exact y1 i hi q j hj
      · rw [eo (6 + 0) (by omega) (by omega) (by omega)]; exact y3 j hj
      · by_cases q : u = t + 1
        · subst q
          obtain ⟨e, ee, xe⟩ := hQ.2.2.2.2.2.1
          have b1 := xe.2.1
          have b2 := tp.2.1
          have e4 : I (15 + 6 * k + 1) 0 = Int32.ofNat e := by rw [hQ.2.1, ee]
          by_cases f : t < s
          · rw [er1 f j hj, fr1 f j hj]
            obtain ⟨x, hx, ex⟩ := PR_in (J' 5 k) hj
            unfold lockO lockM
            rw [hQ.2.2.1, ex, sm_nat (by omega), e4, ee]
            obtain ⟨r1, r2⟩ := y4 t (Nat.le_refl _) x hx
            obtain ⟨p1, p2⟩ := pw_eq tp (e := e) r2 (by omega)
            rw [p1, r1]
            rw [p1, r1] at p2
            exact ⟨rfl, spo_in tp p2⟩
          · rw [er2 (by omega) j hj, fr2 (by omega) j hj]
            unfold relO relM
            obtain ⟨l, el, xl⟩ := LK_XP tp (J' 6 k) j
            have b3 := xl.2.1
            obtain ⟨r1, r2⟩ := y4 t (Nat.le_refl _) j hj
            obtain ⟨p1, p2⟩ := rel_eq tp (e := e) (l := l) r2 (by omega) (by omega)
            rw [y1 k ks hs2 j hj, el, e4, ee]
            rw [p1, r1]
            rw [p1, r1] at p2
            exact ⟨rfl, spo_in tp p2⟩
        · rw [eo (6 + u) (by omega) (by omega) (by omega), f15 _ (by omega)]
          exact y4 u (by omega) j hj
    intro u hu j hj
    by_cases q : u = t
    · subst q
      simp only [if_true]
      refine ⟨fun hh => ?_, fun hh => ?_⟩
      · have hk2 : k = u := by rw [hk, if_pos hh]
        subst hk2
        refine ⟨?_, ?_⟩
        · rw [er1 hh j hj, eo (6 + k) (by omega) (by omega) (by omega), eo (15 + 6 * k + 1) (by omega) (by omega) (by omega), jo _ (by omega)]
        · rw [fr1 hh j hj, fo 4 (by decide) (by decide) (by decide) (by decide), po 5 (by decide)]
          unfold lockM
          obtain ⟨x, hx, ex⟩ := PR_in (J' 5 k) hj
          rw [ex, sm_nat (by omega)]
          dsimp only
          rw [f15 _ (by omega)]
      · have hk2 : k = u - s := by rw [hk, if_neg (by omega)]
        rw [← hk2]
        refine ⟨?_, ?_⟩
        · rw [er2 hh j hj, eo (6 + u) (by omega) (by omega) (by omega), eo (15 + 6 * k + 1) (by omega) (by omega) (by omega), eo (15 + 6 * k + 3) (by omega) (by omega) (by omega)]
        · rw [fr2 hh j hj, fo 4 (by decide) (by decide) (by decide) (by decide), po 6 (by decide)]
          unfold relM
          dsimp only
          rw [f15 _ (by omega)]
    · have g6 := g6.1 u (by omega) j hj
      simp only [if_neg q]
      rw [eo (6 + (u + 1)) (by omega) (by omega) (by omega), eo (6 + u) (by omega) (by omega) (by omega), fo 4 (by decide) (by decide) (by decide) (by decide), po 5 (by decide), po 6 (by decide), f15 _ (by omega)]
      refine ⟨fun hh => ?_, fun hh => ?_⟩
      · obtain ⟨y1, y2⟩ := g6.1 hh
        rw [eo (15 + 6 * u + 1) (by omega) (by omega) (by omega), jo _ (by omega)]
        refine ⟨y1, ?_⟩
        rw [y2]
        unfold lockM
        obtain ⟨x, hx, ex⟩ := PR_in (J' 5 u) hj
        rw [ex, sm_nat (by omega)]
        dsimp only
        rw [f15 _ (by omega)]
      · obtain ⟨y1, y2⟩ := g6.2 hh
        rw [eo (15 + 6 * (u - s) + 1) (by omega) (by omega) (by omega), eo (15 + 6 * (u - s) + 3) (by omega) (by omega) (by omega)]
        refine ⟨y1, ?_⟩
        rw [y2]
        unfold relM
        dsimp only
        rw [f15 _ (by omega)]
  · refine ⟨fun _ i hi => ?_, fun hh => by omega⟩
    rw [eo _ (by omega) (by omega) (by omega), fo 7 (by decide) (by decide) (by decide) (by decide)]
    rcases g7.1 (by omega) i hi with y | y
    · exact Or.inl y
    · exact absurd y.1 (by omega)
theorem call_turn {I : MI} {J : MJ} {I' : MI} {J' : MJ} (g : R I J I' J') (x : Int32) : ∃ r r', Ev (fun n => ff_O_turn n I J x) r ∧ Ev (fun n => ff_M_turn n I' J' x) r' ∧ r.1 = r'.1 ∧ R r.2.1 r.2.2 r'.2.1 r'.2.2 := by
  obtain ⟨s, ph, t, P, b, ac, c, h, r, m, w, g⟩ := g
  have g := RG_th g 0
  unfold ff_M_turn ff_O_turn
  generalize ui I' 0 0 0 = I0 at g ⊢
  have gg := g
  have t8 := RS_t g.1
  obtain ⟨g1, g2, g3, g4, g5, g6, g7⟩ := g
  have g1' := g1
  obtain ⟨hs, hs', s4, hph, hph', ph6, hP, hP', hTP, ht, t01, t2, t3, t4, hpp, hact, hb⟩ := g1
  have R0 : R I J I0 J' := ⟨s, ph, t, P, b, ac, c, h, r, m, w, gg⟩
  have c2 : (Int32.ofNat ph = 2) ↔ ph = 2 := nb_inj (y := 2) (by omega) (by omega)
  have c3 : (Int32.ofNat ph = 3) ↔ ph = 3 := nb_inj (y := 3) (by omega) (by omega)
  simp only [fun n => O_next (t := t) J n hs s4 hph ph6 ht (by omega), Option.bind_some, hph']
  by_cases d : ph = 2 ∨ ph = 3
  · have tt : t < 2 * s := by omega
    obtain ⟨p0, s2⟩ := hpp (by omega)
    obtain ⟨tp, tp2, tp20⟩ := hTP p0
    simp only [if_pos d]
    generalize hk : (if t < s then t else t - s) = k
    have ks : k < s := by rw [← hk]; split <;> omega
    have kmod : t % s = k := by
      rw [← hk]
      split
      · rw [Nat.mod_eq_of_lt (by assumption)]
      · rw [Nat.mod_eq_sub_mod (by omega), Nat.mod_eq_of_lt (by omega)]
    have nn : ¬ Int32.ofNat k = -1 := fun hh => absurd (show (Int32.ofNat k) < 0 by rw [hh]; decide) (sm_pos (by omega))
    simp only [if_neg nn]
    -- the reference's head
    have hM : ∀ n, (if Int32.ofNat ph = 2 then ff_M_turn_21 n I0 J' x else if Int32.ofNat ph = 3 then ff_M_turn_21 n I0 J' x else some (0, I0, J')) = ff_M_turn_21 n I0 J' x := fun n => by
      rcases d with d | d
      · rw [if_pos (c2.mpr d)]
      · rw [if_neg (by rw [c2]; omega), if_pos (c3.mpr d)]
    simp only [hM]
    unfold ff_M_turn_21
    have s0 : ¬ Int32.ofNat s = 0 := fun hh => by have := (nb_inj (y := 0) (by omega) (by omega)).mp hh; omega
    simp only [hs', if_pos s0, tl, tp20, mod_s s2 s4 (show t < 100 by omega), kmod]
    by_cases hx : x = Int32.ofNat k
    · subst hx
      have it : Int32.ofNat t + 1 = Int32.ofNat (t + 1) := sm_suc
      simp only [if_true, M_seat1 _ J' hs' s4 ks, Option.bind_some, if_neg (show ¬ (1 : Int32) = 0 by decide), sm_nat (j := k) (by omega), if_pos (sm_i2 (j := k) (N := 4) (by omega) (by omega)), ht, it, sm_nat (j := t + 1) (by omega), if_pos (sm_i2 (j := t + 1) (N := 9) (by omega) (by omega)), hph']
      obtain ⟨_, seals⟩ := RG_seal gg (by omega)
      obtain ⟨sq1, sq2, sq3, sq4, sq5, sq6, sq7⟩ := seals k ks
      have sk1 : I0 2 k = 1 := (g3.1 k ks).2 (by omega)
      obtain ⟨ch1, ch2, ch3, ch4, ch5⟩ := g4 (by omega) k ks
      -- the mask
      generalize hmk : (if ph = 2 then J' 10 k else J' 11 k) = mk
      have hkd : J (15 + 6 * k + 5) (if ph = 2 then 0 else 1) = mk := by rw [← hmk]; split <;> assumption
      -- the object: the row
      have hrow : ∃ q, Ev (fun n => ff_O_reckonTurn n I J (Int32.ofNat t) (15 + 6 * k + 1) (6 + (t + 1))) q ∧ (t < s → ∀ j, j < 52 → q.1 (6 + (t + 1)) j = lockO P (I (6 + t)) (J (15 + 6 * k + 1) 1) (I (15 + 6 * k + 1) 0) j) ∧ (s ≤ t → ∀ j, j < 52 → q.1 (6 + (t + 1)) j = relO P (I (6 + t)) (I (15 + 6 * k + 1) 0) (I (15 + 6 * k + 3)) j) ∧ (∀ x, x ≠ 6 + (t + 1) → x ≠ 4 → q.1 x = I x) ∧ ∀ x, x ≠ 39 → q.2 x = J x := by
        by_cases e : t < s
        · obtain ⟨q, q1, q2, q3, q4⟩ := O_reckon1 (a2 := 15 + 6 * k + 1) (a3 := 6 + (t + 1)) J hP hs s4 e (by omega) (by omega) (by omega) (by omega) (by omega)
          exact ⟨q, q1, fun _ => q2, fun hh => absurd hh (by omega), q3, q4⟩
        · have hk2 : k = t - s := by rw [← hk, if_neg e]
          obtain ⟨q, q1, q2, q3, q4⟩ := O_reckon2 (a2 := 15 + 6 * k + 1) (a3 := 6 + (t + 1)) J hP hs s4 (by omega) tt (by omega) (by omega) (by omega)
          rw [← hk2] at q2
          exact ⟨q, q1, fun hh => absurd hh (by omega), fun _ => q2, q3, q4⟩
      obtain ⟨q, q1, q2, q3, q4, q5⟩ := hrow
      have q01 : q.1 0 = I 0 := q4 0 (by omega) (by omega)
      obtain ⟨v, v1, v2, v3, v4⟩ := O_spoil (P := P) (I := q.1) q.2 (6 + (t + 1)) (15 + 6 * k) (k := if ph = 2 then 0 else 1) (by split <;> omega) (by rw [q01]; exact hP) (by omega)
      have v01 : v.1 0 = I 0 := by rw [v3 0 (by omega), q01]
      generalize hp' : (if t + 1 = s then 3 else if t + 1 = 2 * s then 4 else ph) = ph'
      have hO : ∃ I1, Ev (fun n => (ff_O_reckonTurn n I J (Int32.ofNat t) (15 + 6 * k + 1) (6 + (t + 1))).bind fun r9 => if r9.1 0 1 = 2 then ff_O_turn_68 n r9.1 r9.2 (Int32.ofNat k) (Int32.ofNat k) (15 + 6 * k) (6 + (t + 1)) (6 + (t + 1)) (15 + 6 * k) 0 else ff_O_turn_68 n r9.1 r9.2 (Int32.ofNat k) (Int32.ofNat k) (15 + 6 * k) (6 + (t + 1)) (6 + (t + 1)) (15 + 6 * k) 1) (1, I1, v.2) ∧ (∀ y, y ≠ 1 → y ≠ 4 → I1 0 y = I 0 y) ∧ I1 0 1 = Int32.ofNat ph' ∧ I1 0 4 = Int32.ofNat (t + 1) ∧ ∀ x, x ≠ 0 → I1 x = v.1 x := by
        have u1 : v.1 0 4 + 1 = Int32.ofNat (t + 1) := by rw [v01, ht, sm_suc]
        have u2 : (ui v.1 0 4 (Int32.ofNat (t + 1))) 0 4 = Int32.ofNat (t + 1) := by rw [ui_at, if_pos ⟨rfl, rfl⟩]
        have u3 : (ui v.1 0 4 (Int32.ofNat (t + 1))) 0 2 = Int32.ofNat s := by rw [ui_at, if_neg (by omega), v01, hs]
        have u4 : (2 : Int32) * Int32.ofNat s = Int32.ofNat (2 * s) := by rw [Int32.ofNat_mul]; rfl
        have d1 : (Int32.ofNat (t + 1) = Int32.ofNat s) ↔ t + 1 = s := nb_inj (by omega) (by omega)
        have d2 : (Int32.ofNat (t + 1) = Int32.ofNat (2 * s)) ↔ t + 1 = 2 * s := nb_inj (by omega) (by omega)
        have tail : ∃ I1, Ev (fun n => (ff_O_spoil n q.1 q.2 (6 + (t + 1)) (15 + 6 * k) (Int32.ofNat (if ph = 2 then 0 else 1))).bind fun r1 => if ((ui r1.1 0 4 ((r1.1 0 4) + (1 : Int32))) 0 4) = ((ui r1.1 0 4 ((r1.1 0 4) + (1 : Int32))) 0 2) then (some ((1 : Int32), ui (ui r1.1 0 4 ((r1.1 0 4) + (1 : Int32))) 0 1 (3 : Int32), r1.2)) else (if ((ui r1.1 0 4 ((r1.1 0 4) + (1 : Int32))) 0 4) = ((2 : Int32) * ((ui r1.1 0 4 ((r1.1 0 4) + (1 : Int32))) 0 2)) then (some ((1 : Int32), ui (ui r1.1 0 4 ((r1.1 0 4) + (1 : Int32))) 0 1 (4 : Int32), r1.2)) else (some ((1 : Int32), ui r1.1 0 4 ((r1.1 0 4) + (1 : Int32)), r1.2)))) (1, I1, v.2) ∧ (∀ y, y ≠ 1 → y ≠ 4 → I1 0 y = I 0 y) ∧ I1 0 1 = Int32.ofNat ph' ∧ I1 0 4 = Int32.ofNat (t + 1) ∧ ∀ x, x ≠ 0 → I1 x = v.1 x := by
          rw [← hp']
          by_cases e1 : t + 1 = s
          · refine ⟨ui (ui v.1 0 4 (Int32.ofNat (t + 1))) 0 1 3, ?_, fun y y1 y4 => by rw [ui_at, if_neg (by omega), ui_at, if_neg (by omega), v01], by rw [ui_at, if_pos ⟨rfl, rfl⟩, if_pos e1]; rfl, by rw [ui_at, if_neg (by omega)]; exact u2, fun x hx => by rw [ui_else _ _ _ hx, ui_else _ _ _ hx]⟩
            refine Ev.bind v1 ?_
            simp only [u1, u2, u3, if_pos (d1.mpr e1)]
            exact Ev.pure _
          · by_cases e2 : t + 1 = 2 * s
            · refine ⟨ui (ui v.1 0 4 (Int32.ofNat (t + 1))) 0 1 4, ?_, fun y y1 y4 => by rw [ui_at, if_neg (by omega), ui_at, if_neg (by omega), v01], by rw [ui_at, if_pos ⟨rfl, rfl⟩, if_neg e1, if_pos e2]; rfl, by rw [ui_at, if_neg (by omega)]; exact u2, fun x hx => by rw [ui_else _ _ _ hx, ui_else _ _ _ hx]⟩
              refine Ev.bind v1 ?_
              simp only [u1, u2, u3, u4, if_neg (show ¬ Int32.ofNat (t + 1) = Int32.ofNat s by rw [d1]; exact e1), if_pos (d2.mpr e2)]
              exact Ev.pure _
            · refine ⟨ui v.1 0 4 (Int32.ofNat (t + 1)), ?_, fun y y1 y4 => by rw [ui_at, if_neg (by omega), v01], by rw [ui_at, if_neg (by omega), if_neg e1, if_neg e2, v01]; exact hph, u2, fun x hx => by rw [ui_else _ _ _ hx]⟩
              refine Ev.bind v1 ?_
              simp only [u1, u2, u3, u4, if_neg (show ¬ Int32.ofNat (t + 1) = Int32.ofNat s by rw [d1]; exact e1), if_neg (show ¬ Int32.ofNat (t + 1) = Int32.ofNat (2 * s) by rw [d2]; exact e2)]
              exact Ev.pure _
        obtain ⟨I1, i1, i2⟩ := tail
        refine ⟨I1, ?_, i2⟩
        refine Ev.bind q1 ?_
        rw [q01, hph]
        unfold ff_O_turn_68
        rcases d with d | d
        · simp only [if_pos (c2.mpr d)]
          rw [if_pos d] at i1
          exact i1
        · simp only [if_neg (show ¬ Int32.ofNat ph = 2 by rw [c2]; omega)]
          rw [if_neg (show ¬ ph = 2 by omega)] at i1
          exact i1
      obtain ⟨I1, o1, o2, o3, o4, o5⟩ := hO
      have oJ : ∀ x, x ≠ 39 → v.2 x = J x := fun x hx => by rw [v4, q5 x hx]
      have oR : ∀ j, j < 52 → I1 (6 + (t + 1)) j = spo P mk j (q.1 (6 + (t + 1)) j) := fun j hj => by
        rw [o5 _ (by omega), v2 j hj, q5 _ (by omega), hkd]
      have oX : ∀ x, x ≠ 0 → x ≠ 4 → x ≠ 6 + (t + 1) → I1 x = I x := fun x x0 x4 xr => by rw [o5 x x0, v3 x xr, q4 x xr x4]
      have pmod : (if (t + 1) % s = 0 then ph + 1 else ph) = ph' := by
        rw [← hp']
        by_cases e1 : t + 1 = s
        · rw [if_pos e1, e1, Nat.mod_self, if_pos rfl]; omega
        · rw [if_neg e1]
          by_cases e2 : t + 1 = 2 * s
          · rw [if_pos e2, e2, Nat.mul_mod_left, if_pos rfl]; omega
          · rw [if_neg e2, if_neg]
            by_cases e3 : t + 1 < s
            · rw [Nat.mod_eq_of_lt e3]; omega
            · rw [Nat.mod_eq_sub_mod (by omega), Nat.mod_eq_of_lt (by omega)]; omega
      by_cases e : t < s
      · have ph2 : ph = 2 := by omega
        simp only [if_pos (c2.mpr ph2)]
        obtain ⟨u, u1, u2, u3, u4⟩ := M_order I0 J' (J' 5 k)
        have u0 : u.1 0 = I0 0 := u3 0 (by decide)
        obtain ⟨z, z1, z2, z3, z4, z5, z6, z7, z8, z9⟩ := M_turn77 (s := s) (ph := ph) (t := t) (k := k) tp u.1 u.2 (by rw [u0]; exact hP') (by rw [u0]; exact tp2) (by rw [u0]; exact hs') s2 s4 (by rw [u0]; exact hph') d (by rw [u0]; exact tp20) (by omega) (by omega) (fun j => lockM P (fun i => u.1 15 (52 * t + i)) (J' 5 k) (u.1 4 k) j) (fun _ => ⟨J' 5 k, u2, fun j hj => rfl⟩) (fun hh => absurd hh (by omega))
        refine ⟨_, z, o1, Ev.bind u1 z1, z2.symm, s, ph', t + 1, P, b, ac, c, h, r, _, w, RG_turned (k := k) (mk := mk) gg d hk.symm hp'.symm o2 o3 o4 oX oJ (fun hh j hj => (oR j hj).trans (by rw [q2 hh j hj])) (fun hh j hj => (oR j hj).trans (by rw [q3 hh j hj])) (fun y y0 y4 y20 => by rw [z9 y y20 y4, u0]) (by rw [z8, pmod]) z7 (fun x x0 x15 x16 x17 => by rw [z6 x x15 x0, u3 x x16]) (fun i hi => by rw [z5 i hi, u3 15 (by decide)]) (fun x x0 => by rw [z3]; funext y; exact u4 x y (fun hh => x0 hh.1)) (fun hh j hj => ?_) (fun hh => absurd hh (by omega)) (seals k ks) sk1⟩
        rw [z4 j hj, u3 15 (by decide), u3 4 (by decide), u4 10 k (by omega), u4 11 k (by omega), hmk]
      · have ph3 : ph = 3 := by omega
        simp only [if_neg (show ¬ Int32.ofNat ph = 2 by rw [c2]; omega)]
        obtain ⟨u, u1, u2, u3, u4⟩ := M_locks tp I0 J' (J' 6 k) hP' tp2
        have u0 : u.1 0 = I0 0 := u3 0 (by decide)
        obtain ⟨z, z1, z2, z3, z4, z5, z6, z7, z8, z9⟩ := M_turn77 (s := s) (ph := ph) (t := t) (k := k) tp u.1 u.2 (by rw [u0]; exact hP') (by rw [u0]; exact tp2) (by rw [u0]; exact hs') s2 s4 (by rw [u0]; exact hph') d (by rw [u0]; exact tp20) (by omega) (by omega) (fun j => relM P (fun i => u.1 15 (52 * t + i)) (u.1 4 k) (u.1 17) j) (fun hh => absurd hh (by omega)) (fun _ j hj => rfl)
        refine ⟨_, z, o1, Ev.bind u1 z1, z2.symm, s, ph', t + 1, P, b, ac, c, h, r, _, w, RG_turned (k := k) (mk := mk) gg d hk.symm hp'.symm o2 o3 o4 oX oJ (fun hh j hj => (oR j hj).trans (by rw [q2 hh j hj])) (fun hh j hj => (oR j hj).trans (by rw [q3 hh j hj])) (fun y y0 y4 y20 => by rw [z9 y y20 y4, u0]) (by rw [z8, pmod]) z7 (fun x x0 x15 x16 x17 => by rw [z6 x x15 x0, u3 x x17]) (fun i hi => by rw [z5 i hi, u3 15 (by decide)]) (fun x x0 => by rw [z3]; funext y; exact u4 x y (fun hh => x0 hh.1)) (fun hh => absurd hh (by omega)) (fun hh j hj => ?_) (seals k ks) sk1⟩
        rw [z4 j hj, u3 15 (by decide), u3 4 (by decide), u4 10 k (by omega), u4 11 k (by omega), hmk]
        unfold relM
        rw [u2 j hj]
    · simp only [if_neg hx]
      rcases sc (s := s) (by omega) x with ⟨i, hi, rfl⟩ | hx2
      · simp only [M_seat1 _ J' hs' s4 hi, Option.bind_some, if_neg (show ¬ (1 : Int32) = 0 by decide), if_neg (show ¬ Int32.ofNat k = Int32.ofNat i from fun hh => hx hh.symm)]
        exact ⟨_, _, Ev.pure _, Ev.pure _, rfl, R0⟩
      · simp only [M_seat0 _ J' hs' s4 hx2, Option.bind_some, if_pos]
        exact ⟨_, _, Ev.pure _, Ev.pure _, rfl, R0⟩
  · simp only [if_neg d, if_neg (show ¬ Int32.ofNat ph = 2 by rw [c2]; omega), if_neg (show ¬ Int32.ofNat ph = 3 by rw [c3]; omega), if_true]
    exact ⟨_, _, Ev.pure _, Ev.pure _, rfl, R0⟩
