/-! deal, prime -/
theorem M_deck {P : Nat} (I : MI) (J : MJ) (hP : TP P) (h1 : I 0 1 = Int32.ofNat P) : ∃ r, Ev (fun n => ff_M_beginDeck n I J) r ∧ (∀ j, j < 52 → r.1 15 j = Int32.ofNat ((j + 2) * (j + 2))) ∧ (∀ j, 52 ≤ j → r.1 15 j = I 15 j) ∧ (∀ x, x ≠ 15 → x ≠ 0 → r.1 x = I x) ∧ r.1 0 20 = 0 ∧ (∀ y, y ≠ 20 → r.1 0 y = I 0 y) ∧ r.2 = J := by
  refine Ev.loop0 (α := MI) (fun n x j => ff_M_beginDeck_2 n x J (Int32.ofNat j)) 52 (fun j x => (∀ i, i < j → x 15 i = Int32.ofNat ((i + 2) * (i + 2))) ∧ (∀ i, 52 ≤ i → x 15 i = I 15 i) ∧ ∀ y, y ≠ 15 → x y = I y) _ I ⟨fun i hi => absurd hi (by omega), fun _ _ => rfl, fun _ _ => rfl⟩ ?_ ?_
  · rintro I1 ⟨a1, a2, a3⟩
    refine ⟨(ui I1 0 20 0, J), Ev.suc (Ev.now fun n => by rw [ff_M_beginDeck_2, if_pos q52e]), fun j hj => ?_, fun j hj => ?_, fun x h1 h2 => ?_, ?_, fun y hy => ?_, rfl⟩
    · dsimp only; rw [ui_else _ _ _ (by decide)]; exact a1 j hj
    · dsimp only; rw [ui_else _ _ _ (by decide)]; exact a2 j hj
    · dsimp only; rw [ui_else _ _ _ h2]; exact a3 x h1
    · dsimp only; rw [ui_at, if_pos ⟨rfl, rfl⟩]
    · dsimp only; rw [ui_at, if_neg (by omega), a3 0 (by decide)]
  · rintro j I1 hj ⟨a1, a2, a3⟩
    have hP' := hP
    obtain ⟨p1, p2, _⟩ := hP'
    refine Or.inr ⟨ui I1 15 j (Int32.ofNat ((j + 2) * (j + 2))), ⟨fun i hi => ?_, fun i hi => ?_, fun y hy => ?_⟩, 0, fun n _ => ?_⟩
    · rw [ui_at]
      by_cases e : i = j
      · rw [if_pos ⟨rfl, e⟩, e]
      · rw [if_neg (fun h => e h.2)]; exact a1 i (by omega)
    · rw [ui_at, if_neg (by omega)]; exact a2 i hi
    · rw [ui_else _ _ _ hy]; exact a3 y hy
    · have e1 : I1 0 1 = Int32.ofNat P := by rw [a3 0 (by decide)]; exact h1
      have e2 : Int32.ofNat j + 2 = Int32.ofNat (j + 2) := (Int32.ofNat_add j 2).symm
      have e3 : (j + 2) * (j + 2) < 2147483648 := by
        have : (j + 2) * (j + 2) ≤ 54 * 54 := Nat.mul_le_mul (by omega) (by omega)
        omega
      have e4 : (j + 2) * (j + 2) % P = (j + 2) * (j + 2) := Nat.mod_eq_of_lt (by
        have : (j + 2) * (j + 2) ≤ 54 * 54 := Nat.mul_le_mul (by omega) (by omega)
        omega)
      simp only [ff_M_beginDeck_2, if_neg (q52 hj), e1, if_pos (show ¬ Int32.ofNat P = 0 from (P_nz hP).1), tl, e2, ← Int32.ofNat_mul]
      rw [tr_mod e3 p2, e4, if_pos (sm_in (j := j) (N := 468) (by omega) (by omega)), sm_nat (by omega), sm_suc]
theorem O_p23 {P : Nat} (I : MI) (J : MJ) (hP : TP P) : ∃ r, Ev (fun n => ff_O_prime_23 n I J (Int32.ofNat P) 0) r ∧ r.1 = 1 ∧ (∀ j, j < 52 → r.2.1 6 j = Int32.ofNat ((j + 2) * (j + 2))) ∧ (∀ x, x ≠ 6 → r.2.1 x = I x) ∧ r.2.2 = J := by
  refine Ev.loop0 (α := MI) (fun n x j => ff_O_prime_23 n x J (Int32.ofNat P) (Int32.ofNat j)) 52 (fun j x => (∀ i, i < j → x 6 i = Int32.ofNat ((i + 2) * (i + 2))) ∧ ∀ y, y ≠ 6 → x y = I y) _ I ⟨fun i hi => absurd hi (by omega), fun _ _ => rfl⟩ ?_ ?_
  · rintro I1 ⟨a1, a2⟩
    exact ⟨(1, I1, J), Ev.suc (Ev.now fun n => by rw [ff_O_prime_23, if_pos q52e]), rfl, a1, a2, rfl⟩
  · rintro j I1 hj ⟨a1, a2⟩
    have hP' := hP
    obtain ⟨p1, p2, _⟩ := hP'
    refine Or.inr ⟨ui I1 6 j (Int32.ofNat ((j + 2) * (j + 2))), ⟨fun i hi => ?_, fun y hy => ?_⟩, 0, fun n _ => ?_⟩
    · rw [ui_at]
      by_cases e : i = j
      · rw [if_pos ⟨rfl, e⟩, e]
      · rw [if_neg (fun h => e h.2)]; exact a1 i (by omega)
    · rw [ui_else _ _ _ hy]; exact a2 y hy
    · have e2 : Int32.ofNat j + 2 = Int32.ofNat (j + 2) := (Int32.ofNat_add j 2).symm
      have e4 : (j + 2) * (j + 2) % P = (j + 2) * (j + 2) := Nat.mod_eq_of_lt (by
        have : (j + 2) * (j + 2) ≤ 54 * 54 := Nat.mul_le_mul (by omega) (by omega)
        omega)
      rw [ff_O_prime_23, if_neg (q52 hj), if_pos (by decide)]
      unfold ff_N_ofCard
      rw [e2, nb_times (by omega) (by omega) (by omega) p2, Option.bind_some, Option.bind_some, if_pos (sm_in (j := j) (N := 52) (by omega) (by omega)), sm_nat (by omega), sm_suc, e4]
      rfl
theorem pq_On {N n : Nat} (hn : 400 < n) (h1 : 65536 < N) (hN : N < 2147483648) : ∃ r : Int32, ff_N_isTablePrime n (Int32.ofNat N) = some r ∧ ((r = 1 ∧ N % 2 = 1 ∧ np_pr N ∧ np_pr ((N - 1) / 2)) ∨ (r = 0 ∧ ¬ (N % 2 = 1 ∧ np_pr N ∧ np_pr ((N - 1) / 2)))) := by
  unfold ff_N_isTablePrime
  have hq : (Int32.ofNat N - 1) / 2 = Int32.ofNat ((N - 1) / 2) := by rw [nb_pred (by omega), nb_half (by omega)]
  rw [if_neg (show ¬ Int32.ofNat N ≤ 65536 from fun h => by have := (nb_le (y := 65536) hN (by omega)).mp h; omega), hq]
  by_cases ho : N % 2 = 1
  · obtain ⟨r2, e2, f2⟩ := tp_isPrime (n := n) (by omega) ho hN (by omega)
    rw [e2, Option.bind_some]
    rcases f2.symm with ⟨hr, hp⟩ | ⟨hr, hp⟩
    · rw [if_pos hr]; exact ⟨0, rfl, Or.inr ⟨rfl, fun h => hp h.2.1⟩⟩
    · rw [if_neg (by rw [hr]; decide)]
      by_cases hqo : (N - 1) / 2 % 2 = 1
      · obtain ⟨r4, e4, f4⟩ := tp_isPrime (N := (N - 1) / 2) (n := n) (by omega) hqo (by omega) (by omega)
        rw [e4, Option.bind_some]
        rcases f4.symm with ⟨hr4, hp4⟩ | ⟨hr4, hp4⟩
        · rw [if_pos hr4]; exact ⟨0, rfl, Or.inr ⟨rfl, fun h => hp4 h.2.2⟩⟩
        · rw [if_neg (by rw [hr4]; decide)]
          have hN2 : N = 2 * ((N - 1) / 2) + 1 := by omega
          have hb := tp_both (q := (N - 1) / 2) (by omega) (by omega) hqo (by rw [← hN2]; exact hp) hp4
          rw [← hN2] at hb
          exact ⟨1, rfl, Or.inl ⟨rfl, ho, hb.2, hb.1⟩⟩
      · rw [tp_even (by omega) (by omega) (by omega) (by omega), Option.bind_some, if_pos rfl]
        exact ⟨0, rfl, Or.inr ⟨rfl, fun h => pq_odd2 (by omega) (by omega) h.2.2⟩⟩
  · rw [tp_even (by omega) (by omega) hN (by omega), Option.bind_some, if_pos rfl]
    exact ⟨0, rfl, Or.inr ⟨rfl, fun h => ho h.1⟩⟩
theorem tr_n {N n : Nat} (hn : 50000 ≤ n) (hN : N < 2147483648) : (np_pr N → ff_M_isPrime n (Int32.ofNat N) = some 1) ∧ (¬ np_pr N → ff_M_isPrime n (Int32.ofNat N) = some 0) := by
  obtain ⟨r, e, f⟩ := tr_2 hN 46340 n 2 (by omega) (by omega) (by omega) (fun d h1 h2 => by omega)
  have e : ff_M_isPrime n (Int32.ofNat N) = some r := e
  rcases f with ⟨f1, f2⟩ | ⟨f1, f2⟩
  · exact ⟨fun _ => by rw [e, f1], fun h => absurd f2 h⟩
  · exact ⟨fun h => absurd h f2, fun _ => by rw [e, f1]⟩
theorem RG_prime {s t b a : Nat} {c h r : Nat → Nat} {m : Nat → Int64} {w : Nat → Nat → Nat} {I I' I1 I1' : MI} {J J' : MJ} {N : Nat} (hN : TP N) (g : RG s 0 t 0 b a c h r m w I J I' J') (e1 : ∀ x, x ≠ 0 → x ≠ 6 → I1 x = I x) (e2 : ∀ y, y ≠ 0 → I1 0 y = I 0 y) (e3 : I1 0 0 = Int32.ofNat N) (f1 : ∀ x, x ≠ 0 → x ≠ 15 → I1' x = I' x) (f2 : ∀ y, y ≠ 0 → y ≠ 1 → y ≠ 2 → y ≠ 20 → I1' 0 y = I' 0 y) (f3 : I1' 0 1 = Int32.ofNat N) (f4 : I1' 0 2 = Int32.ofNat ((N - 1) / 2)) (f5 : I1' 0 20 = 0) (e6 : ∀ j, j < 52 → I1 6 j = Int32.ofNat ((j + 2) * (j + 2))) (f15 : ∀ j, j < 52 → I1' 15 j = Int32.ofNat ((j + 2) * (j + 2))) : RG s 0 t N b a c h r m w I1 J I1' J' := by
  obtain ⟨g1, g2, g3, g4, g5, g6, g7⟩ := g
  obtain ⟨hs, hs', s4, hph, hph', ph6, hP, hP', hTP, ht, t01, t2, t3, t4, hpp, hact, hb⟩ := g1
  have t0 : t = 0 := t01 (by omega)
  subst t0
  refine ⟨?_, RB_fr g2 (fun k _ y _ => by rw [e1 _ (by omega) (by omega)]) (fun k _ => ⟨by rw [f1 1 (by decide) (by decide)], by rw [f1 20 (by decide) (by decide)], by rw [f1 21 (by decide) (by decide)], by rw [f1 22 (by decide) (by decide)], by rw [f1 23 (by decide) (by decide)]⟩), ?_, fun hh => absurd hh (by decide), ⟨fun hh => absurd hh (by decide), fun k hk j hj => Or.inl ?_, fun _ => ⟨(g5.2.2 (by omega)).1, by rw [f1 19 (by decide) (by decide)]; exact (g5.2.2 (by omega)).2⟩⟩, ⟨fun u hu => absurd hu (by omega), fun hL => ⟨fun k hk q => ?_, fun _ => ⟨e6, fun u hu j hj => ?_⟩⟩⟩, fun hh => absurd hh (by decide), fun hh => absurd hh (by decide)⟩
  · refine ⟨by rw [e2 2 (by decide)]; exact hs, by rw [f2 3 (by decide) (by decide) (by decide) (by decide)]; exact hs', s4, by rw [e2 1 (by decide)]; exact hph, by rw [f2 4 (by decide) (by decide) (by decide) (by decide)]; exact hph', ph6, e3, f3, fun _ => ⟨hN, f4, f5⟩, by rw [e2 4 (by decide)]; exact ht, t01, t2, t3, t4, fun hh => absurd rfl hh, by rw [e2 7 (by decide), f2 31 (by decide) (by decide) (by decide) (by decide)]; exact hact, by rw [e2 7 (by decide), f2 30 (by decide) (by decide) (by decide) (by decide)]; exact hb⟩
  · have z : ∀ k, k < 4 → I1' 2 k = 0 := fun k hk => by rw [f1 2 (by decide) (by decide)]; exact g3.2 rfl k hk
    refine ⟨fun k hk => ⟨Or.inl ⟨?_, z k (by omega)⟩, fun hh => absurd hh (by decide)⟩, fun _ => z⟩
    rw [e1 _ (by omega) (by omega)]
    rcases (g3.1 k hk).1 with y | y
    · exact y.1
    · exact absurd ((g3.2 rfl k (by omega)).symm.trans y.2.1) (by decide)
  · have z := (g5.2.2 (by omega)).1 k hk j hj
    rw [e1 _ (by omega) (by omega), f1 19 (by decide) (by decide)]
    rcases g5.2.1 k hk j hj with y | y | y
    · exact y
    · exact absurd (z.symm.trans y.1) (by decide)
    · exact absurd (z.symm.trans y.1) (by decide)
  · rw [f1 2 (by decide) (by decide), g3.2 rfl k (by omega)] at q
    exact absurd q (by decide)
  · obtain rfl : u = 0 := by omega
    rw [show 6 + 0 = 6 from rfl, show 52 * 0 + j = j by omega, e6 j hj, f15 j hj]
    have : (j + 2) * (j + 2) ≤ 54 * 54 := Nat.mul_le_mul (by omega) (by omega)
    have h0 : 0 < (j + 2) * (j + 2) := Nat.mul_pos (by omega) (by omega)
    have := hN.1
    exact ⟨rfl, _, rfl, h0, by omega⟩
theorem call_prime {I : MI} {J : MJ} {I' : MI} {J' : MJ} (g : R I J I' J') (x : Int32) : ∃ r r', Ev (fun n => ff_O_prime n I J x) r ∧ Ev (fun n => ff_M_prime n I' J' x) r' ∧ r.1 = r'.1 ∧ R r.2.1 r.2.2 r'.2.1 r'.2.2 := by
  obtain ⟨s, ph, t, P, b, ac, c, h, r, m, w, g⟩ := g
  have g := RG_th g 0
  unfold ff_M_prime
  generalize ui I' 0 0 0 = I0 at g ⊢
  have gg := g
  obtain ⟨g1, g2, g3, g4, g5, g6, g7⟩ := g
  obtain ⟨hs, hs', s4, hph, hph', ph6, hP, hP', hTP, ht, t01, t2, t3, t4, hpp, hact, hb⟩ := g1
  have R0 : R I J I0 J' := ⟨s, ph, t, P, b, ac, c, h, r, m, w, gg⟩
  unfold ff_O_prime
  by_cases p0 : P = 0
  · have e1 : I 0 0 = 0 := by rw [hP, p0]; rfl
    have e2 : I0 0 1 = 0 := by rw [hP', p0]; rfl
    simp only [if_pos e1, if_pos e2]
    by_cases hx : x ≤ 65536
    · simp only [if_pos hx, ff_N_isTablePrime, Option.bind_some, if_pos]
      exact ⟨_, _, Ev.pure _, Ev.pure _, rfl, R0⟩
    · obtain ⟨N, rfl, h1, h2⟩ := pq_nat hx
      simp only [if_neg hx, tl]
      have hq : (Int32.ofNat N - 1) / 2 = Int32.ofNat ((N - 1) / 2) := by rw [nb_pred (by omega), nb_half (by omega)]
      have oc1 : (N % 2 = 1 ∧ np_pr N ∧ np_pr ((N - 1) / 2)) → ∀ n, 401 ≤ n → ff_N_isTablePrime n (Int32.ofNat N) = some 1 := fun hT n hn => by
        obtain ⟨q, q1, q2⟩ := pq_On (n := n) (by omega) h1 h2
        rcases q2 with ⟨q2, q3⟩ | ⟨q2, q3⟩
        · rw [q1, q2]
        · exact absurd hT q3
      have oc0 : ¬ (N % 2 = 1 ∧ np_pr N ∧ np_pr ((N - 1) / 2)) → ∀ n, 401 ≤ n → ff_N_isTablePrime n (Int32.ofNat N) = some 0 := fun hT n hn => by
        obtain ⟨q, q1, q2⟩ := pq_On (n := n) (by omega) h1 h2
        rcases q2 with ⟨q2, q3⟩ | ⟨q2, q3⟩
        · exact absurd q3 hT
        · rw [q1, q2]
      rw [nb_odd h2, hq]
      have m2 : (Int32.ofNat (N % 2) = 0) ↔ N % 2 = 0 := nb_inj (y := 0) (by omega) (by omega)
      by_cases hT : N % 2 = 1 ∧ np_pr N ∧ np_pr ((N - 1) / 2)
      · have tp : TP N := ⟨h1, h2, hT.1, hT.2.1, hT.2.2⟩
        have ph0 : ph = 0 := by
          by_cases q : ph = 0
          · exact q
          · exact absurd p0 (hpp q).1
        subst ph0 p0
        obtain ⟨q, q1, q2, q3, q4, q5⟩ := O_p23 (P := N) (ui I 0 0 (Int32.ofNat N)) J tp
        obtain ⟨v, v1, v2, v3, v4, v5, v6, v7⟩ := M_deck (P := N) (ui (ui I0 0 1 (Int32.ofNat N)) 0 2 (Int32.ofNat ((N - 1) / 2))) J' tp (by rw [ui_at, if_neg (by omega), ui_at, if_pos ⟨rfl, rfl⟩])
        refine ⟨q, (1, v.1, v.2), ?_, ?_, q2, s, 0, t, N, b, ac, c, h, r, m, w, ?_⟩
        · refine Ev.bind (f := fun n => ff_N_isTablePrime n (Int32.ofNat N)) (a := 1) ⟨401, oc1 hT⟩ ?_
          simp only [if_neg (show ¬ (1 : Int32) = 0 by decide)]
          exact q1
        · simp only [if_neg (show ¬ Int32.ofNat (N % 2) = 0 by rw [m2]; omega)]
          refine Ev.bind (f := fun n => ff_M_isPrime n (Int32.ofNat N)) (a := 1) ⟨50000, fun n hn => (tr_n hn h2).1 hT.2.1⟩ ?_
          simp only [if_neg (show ¬ (1 : Int32) = 0 by decide)]
          refine Ev.bind (f := fun n => ff_M_isPrime n (Int32.ofNat ((N - 1) / 2))) (a := 1) ⟨50000, fun n hn => (tr_n hn (by omega)).1 hT.2.2⟩ ?_
          simp only [if_neg (show ¬ (1 : Int32) = 0 by decide)]
          exact Ev.bind v1 (Ev.pure _)
        · dsimp only
          rw [q5, v7]
          refine RG_prime tp gg (fun x hx hx6 => ?_) (fun y hy => ?_) ?_ (fun x hx hx15 => ?_) (fun y hy1 hy2 hy3 hy4 => ?_) ?_ ?_ v5 q3 v2
          · rw [q4 x hx6, ui_else _ _ _ hx]
          · rw [q4 0 (by decide), ui_at, if_neg (by omega)]
          · rw [q4 0 (by decide), ui_at, if_pos ⟨rfl, rfl⟩]
          · rw [v4 x hx15 hx, ui_else _ _ _ hx, ui_else _ _ _ hx]
          · rw [v6 y hy4, ui_at, if_neg (by omega), ui_at, if_neg (by omega)]
          · rw [v6 1 (by decide), ui_at, if_neg (by omega), ui_at, if_pos ⟨rfl, rfl⟩]
          · rw [v6 2 (by decide), ui_at, if_pos ⟨rfl, rfl⟩]
      · have oE : Ev (fun n => (ff_N_isTablePrime n (Int32.ofNat N)).bind fun r2 => if r2 = 0 then some ((0 : Int32), I, J) else ff_O_prime_23 n (ui I 0 0 (Int32.ofNat N)) J (Int32.ofNat N) 0) ((0 : Int32), I, J) := by
          refine Ev.bind (f := fun n => ff_N_isTablePrime n (Int32.ofNat N)) (a := 0) ⟨401, oc0 hT⟩ ?_
          simp only [if_pos]
          exact Ev.pure _
        by_cases ho : N % 2 = 0
        · simp only [if_pos (m2.mpr ho)]
          exact ⟨_, _, oE, Ev.pure _, rfl, R0⟩
        · simp only [if_neg (show ¬ Int32.ofNat (N % 2) = 0 by rw [m2]; exact ho)]
          refine ⟨_, (0, I0, J'), oE, ?_, rfl, R0⟩
          by_cases hp : np_pr N
          · refine Ev.bind (f := fun n => ff_M_isPrime n (Int32.ofNat N)) (a := 1) ⟨50000, fun n hn => (tr_n hn h2).1 hp⟩ ?_
            simp only [if_neg (show ¬ (1 : Int32) = 0 by decide)]
            refine Ev.bind (f := fun n => ff_M_isPrime n (Int32.ofNat ((N - 1) / 2))) (a := 0) ⟨50000, fun n hn => (tr_n hn (by omega)).2 (fun hp2 => hT ⟨by omega, hp, hp2⟩)⟩ ?_
            simp only [if_pos]
            exact Ev.pure _
          · refine Ev.bind (f := fun n => ff_M_isPrime n (Int32.ofNat N)) (a := 0) ⟨50000, fun n hn => (tr_n hn h2).2 hp⟩ ?_
            simp only [if_pos]
            exact Ev.pure _
  · have q := hTP p0
    have e1 : ¬ I 0 0 = 0 := by rw [hP]; exact (P_nz q.1).1
    have e2 : ¬ I0 0 1 = 0 := by rw [hP']; exact (P_nz q.1).1
    simp only [if_neg e1, if_neg e2]
    exact ⟨_, _, Ev.pure _, Ev.pure _, rfl, R0⟩
