/-! round, bet -/
theorem RG_money {s t P b a b' a' ph' : Nat} {c h r c' h' r' : Nat → Nat} {m : Nat → Int64} {w : Nat → Nat → Nat} {I I' I1 I1' : MI} {J J' : MJ} (g : RG s 4 t P b a c h r m w I J I' J') (hp : ph' = 4 ∨ ph' = 5)
    (e0 : ∀ y, y ≠ 1 → y ≠ 7 → I1 0 y = I 0 y) (e01 : I1 0 1 = Int32.ofNat ph') (eP : ∀ k, k < s → ∀ y, 5 ≤ y → I1 (15 + 6 * k) y = I (15 + 6 * k) y) (eo : ∀ x, x ≠ 0 → (∀ k, k < s → x ≠ 15 + 6 * k) → I1 x = I x)
    (f0 : ∀ y, y ≠ 0 → y ≠ 4 → y ≠ 30 → y ≠ 31 → I1' 0 y = I' 0 y) (f04 : I1' 0 4 = Int32.ofNat ph') (fo : ∀ x, x ≠ 0 → x ≠ 1 → x ≠ 20 → x ≠ 21 → x ≠ 22 → x ≠ 23 → I1' x = I' x)
    (ha : I1 0 7 = I1' 0 31) (hb' : (b' = 0 ∧ I1' 0 30 = 0 ∧ I1 0 7 = -1) ∨ (b' = 1 ∧ I1' 0 30 = 1 ∧ ph' = 4 ∧ a' < s ∧ I1 0 7 = Int32.ofNat a')) (hB : RB s ph' b' c' h' r' I1 I1') : RG s ph' t P b' a' c' h' r' m w I1 J I1' J' := by
  have t8 := RS_t g.1
  obtain ⟨g1, g2, g3, g4, g5, g6, g7⟩ := g
  obtain ⟨hs, hs', s4, hph, hph', ph6, hP, hP', hTP, ht, t01, t2, t3, t4, hpp, hact, hb⟩ := g1
  refine ⟨⟨by rw [e0 2 (by decide) (by decide)]; exact hs, by rw [f0 3 (by decide) (by decide) (by decide) (by decide)]; exact hs', s4, e01, f04, by omega, by rw [e0 0 (by decide) (by decide)]; exact hP, by rw [f0 1 (by decide) (by decide) (by decide) (by decide)]; exact hP', by rw [f0 2 (by decide) (by decide) (by decide) (by decide), f0 20 (by decide) (by decide) (by decide) (by decide)]; exact hTP, by rw [e0 4 (by decide) (by decide)]; exact ht, fun hh => by omega, fun hh => by omega, fun hh => by omega, fun _ => t4 (by decide), fun _ => hpp (by decide), ha, hb'⟩, hB, ?_, ?_, ?_, RF_fr g6 t8 (fun u _ => eo _ (by omega) (fun k _ => by omega)) (fun i _ => ⟨eo _ (by omega) (fun k _ => by omega), eo _ (by omega) (fun k _ => by omega), rfl⟩) ⟨fo 15 (by decide) (by decide) (by decide) (by decide) (by decide) (by decide), fo 4 (by decide) (by decide) (by decide) (by decide) (by decide) (by decide), rfl, rfl⟩ (fo 2 (by decide) (by decide) (by decide) (by decide) (by decide) (by decide)), ?_⟩
  · have z := RC_fr g3 (I1 := I1) (I1' := I1') (J1 := J) (J1' := J') (fun i hi => ⟨eP i hi 5 (by decide), eo _ (by omega) (fun k _ => by omega), eo _ (by omega) (fun k _ => by omega), rfl, rfl⟩) ⟨fo 2 (by decide) (by decide) (by decide) (by decide) (by decide) (by decide), fo 4 (by decide) (by decide) (by decide) (by decide) (by decide) (by decide), rfl, rfl, rfl⟩
    exact ⟨fun i hi => ⟨(z.1 i hi).1, fun _ => (z.1 i hi).2 (by decide)⟩, fun hh => by omega⟩
  · have z := RD_fr g4 (I1' := I1') (J1 := J) (J1' := J') (fun i hi => rfl) ⟨fo 13 (by decide) (by decide) (by decide) (by decide) (by decide) (by decide), fo 14 (by decide) (by decide) (by decide) (by decide) (by decide) (by decide), rfl, rfl, rfl⟩
    exact fun _ => z (by decide)
  · have z := RE_fr g5 (I1 := I1) (I1' := I1') (J1' := J') ⟨eo 3 (by decide) (fun k _ => by omega), fun i hi => ⟨eo _ (by omega) (fun k _ => by omega), eo _ (by omega) (fun k _ => by omega)⟩⟩ ⟨fo 18 (by decide) (by decide) (by decide) (by decide) (by decide) (by decide), fo 19 (by decide) (by decide) (by decide) (by decide) (by decide) (by decide), rfl⟩
    exact ⟨fun _ => z.1 (by decide), z.2.1, fun hh => by omega⟩
  · refine ⟨fun _ i hi => ?_, fun hh => by omega⟩
    rw [eP i hi 7 (by decide), fo 7 (by decide) (by decide) (by decide) (by decide) (by decide) (by decide)]
    rcases g7.1 (by decide) i hi with y | y
    · exact Or.inl y
    · exact absurd y.1 (by decide)
theorem O_await {s : Nat} (I : MI) (J : MJ) (hs : I 0 2 = Int32.ofNat s) (s4 : s ≤ 4) : ∃ r, Ev (fun n => ff_O_awaitAll n I J) r ∧ (∀ k, k < s → r.1 (15 + 6 * k) 4 = 0) ∧ (∀ x y, y ≠ 4 → r.1 x y = I x y) ∧ (∀ x, (∀ k, k < s → x ≠ 15 + 6 * k) → r.1 x = I x) ∧ r.2 = J := by
  refine Ev.loop0 (α := MI) (fun n x j => ff_O_awaitAll_2 n x J (Int32.ofNat j)) s (fun j x => (∀ k, k < j → x (15 + 6 * k) 4 = 0) ∧ (∀ p y, y ≠ 4 → x p y = I p y) ∧ (∀ p, (∀ k, k < s → p ≠ 15 + 6 * k) → x p = I p)) _ I ⟨fun k hk => absurd hk (by omega), fun _ _ _ => rfl, fun _ _ => rfl⟩ ?_ ?_
  · rintro I1 ⟨a1, a2, a3⟩
    refine ⟨(I1, J), Ev.suc (Ev.now fun n => ?_), a1, a2, a3, rfl⟩
    rw [ff_O_awaitAll_2, a2 0 2 (by decide), hs, if_pos ((q_cl s4 (by omega)).mpr (Nat.le_refl _))]
  · rintro j I1 hj ⟨a1, a2, a3⟩
    refine Or.inr ⟨ui I1 (15 + 6 * j) 4 0, ⟨fun k hk => ?_, fun p y hy => ?_, fun p hp => ?_⟩, 0, fun n _ => ?_⟩
    · rw [ui_at]
      by_cases e : k = j
      · rw [if_pos ⟨by omega, rfl⟩]
      · rw [if_neg (by omega)]; exact a1 k (by omega)
    · rw [ui_at, if_neg (by omega)]; exact a2 p y hy
    · rw [ui_else _ _ _ (hp j hj)]; exact a3 p hp
    · rw [ff_O_awaitAll_2, a2 0 2 (by decide), hs, if_neg (by rw [q_cl s4 (by omega)]; omega), if_pos (sm_in (N := 4) (by omega) (by omega)), sm_nat (by omega), sm_suc]
/-- folded, as the reference tells it -/
theorem RB_fo {s b : Nat} {c h r : Nat → Nat} {I I' : MI} (g : RB s 4 b c h r I I') {k : Nat} (hk : k < s) : (I (15 + 6 * k) 3 = 0 ↔ ¬ I' 20 k = 0) := by
  rcases (g.1 k hk).2.2.2.2.2.2.2.2.1 (by decide) with ⟨x1, x2⟩ | ⟨x1, x2⟩
  · rw [x1, x2]; decide
  · rw [x1, x2]; decide
theorem M_round26 {s : Nat} {fo : Nat → Int32} {c : Nat → Nat} (I : MI) (J : MJ) (hs : I 0 3 = Int32.ofNat s) (s2 : 2 ≤ s) (s4 : s ≤ 4) (h : ∀ k, k < s → (fo k = 0 ↔ ¬ I 20 k = 0) ∧ I 1 k = Int32.ofNat (c k) ∧ c k ≤ 400000) : ∃ X : MI, (∀ k, k < s → X 23 k = 0 ∧ X 22 k = 0) ∧ (∀ x, x ≠ 22 → x ≠ 23 → X x = I x) ∧ ∃ r, Ev (fun n => ff_M_round_26 n I J 0 0) r ∧ ((cnB (caB fo c) s < 2 ∧ r = (1, ui X 0 30 0, J)) ∨ (2 ≤ cnB (caB fo c) s ∧ ∃ q, Ev (fun n => ff_M_findNext n (ui X 0 30 1) J 0) q ∧ r = (1, q.1, q.2))) := by
  have cl := cnB_le (caB fo c)
  have H := Ev.loop0 (α := Int32 × MI) (fun n x j => ff_M_round_26 n x.2 J x.1 (Int32.ofNat j)) s (fun j x => x.1 = Int32.ofNat (cnB (caB fo c) j) ∧ (∀ k, k < j → x.2 23 k = 0 ∧ x.2 22 k = 0) ∧ (∀ p, p ≠ 22 → p ≠ 23 → x.2 p = I p))
    (fun r => ∃ X : MI, (∀ k, k < s → X 23 k = 0 ∧ X 22 k = 0) ∧ (∀ x, x ≠ 22 → x ≠ 23 → X x = I x) ∧ ((cnB (caB fo c) s < 2 ∧ r = (1, ui X 0 30 0, J)) ∨ (2 ≤ cnB (caB fo c) s ∧ ∃ q, Ev (fun n => ff_M_findNext n (ui X 0 30 1) J 0) q ∧ r = (1, q.1, q.2)))) (0, I) ⟨rfl, fun k hk => absurd hk (by omega), fun _ _ _ => rfl⟩ ?_ ?_
  · obtain ⟨r, r1, X, x1, x2, x3⟩ := H
    exact ⟨X, x1, x2, r, r1, x3⟩
  · rintro ⟨v, X⟩ ⟨a1, a2, a3⟩
    have a1 : v = Int32.ofNat (cnB (caB fo c) s) := a1
    have a2 : ∀ k, k < s → X 23 k = 0 ∧ X 22 k = 0 := a2
    have a3 : ∀ p, p ≠ 22 → p ≠ 23 → X p = I p := a3
    have cs := cl s
    have cc : (Int32.ofNat (cnB (caB fo c) s) ≤ 1) ↔ cnB (caB fo c) s ≤ 1 := nb_le (y := 1) (by omega) (by omega)
    have x0 : X 0 = I 0 := a3 0 (by decide) (by decide)
    have hd : ∀ n, ff_M_round_26 (n + 1) X J v (Int32.ofNat s) = if Int32.ofNat (cnB (caB fo c) s) ≤ 1 then ff_M_round_81 n X J v (Int32.ofNat s) 0 else ff_M_round_81 n X J v (Int32.ofNat s) 1 := fun n => by
      rw [ff_M_round_26, x0, hs, if_pos ((q_cl s4 (by omega)).mpr (Nat.le_refl _)), a1]
    by_cases q : cnB (caB fo c) s ≤ 1
    · refine ⟨(1, ui X 0 30 0, J), Ev.suc (Ev.now fun n => ?_), X, a2, a3, Or.inl ⟨by omega, rfl⟩⟩
      dsimp only
      rw [hd n, if_pos (cc.mpr q), ff_M_round_81, if_pos (by decide), if_pos (by rw [ui_at, if_pos ⟨rfl, rfl⟩])]
    · obtain ⟨z, zv, z1, z2, z3, z4⟩ := M_fn (fr := 0) (fo := fo) (at' := fun _ => 0) (c := c) (I := ui X 0 30 1) J (by rw [ui_at, if_neg (by omega), x0]; exact hs) s2 s4 (by omega) (fun k hk => by
        rw [ui_else _ _ _ (by decide), ui_else _ _ _ (by decide), ui_else _ _ _ (by decide), a3 20 (by decide) (by decide), a3 1 (by decide) (by decide)]
        exact ⟨(h k hk).1, (h k hk).2.1, (h k hk).2.2, (a2 k hk).1⟩)
      refine ⟨(1, z.1, z.2), ?_, X, a2, a3, Or.inr ⟨by omega, z, z1, rfl⟩⟩
      refine Ev.step (g := fun n => (ff_M_findNext n (ui X 0 30 1) J 0).bind fun r3 => some ((1 : Int32), r3.1, r3.2)) (fun n => ?_) (Ev.bind z1 (Ev.pure _))
      dsimp only
      rw [hd n, if_neg (by rw [cc]; exact q), ff_M_round_81, if_pos (by decide), if_neg (by rw [ui_at, if_pos ⟨rfl, rfl⟩]; decide)]
  · rintro j ⟨v, X⟩ hj ⟨a1, a2, a3⟩
    have a1 : v = Int32.ofNat (cnB (caB fo c) j) := a1
    have a2 : ∀ k, k < j → X 23 k = 0 ∧ X 22 k = 0 := a2
    have a3 : ∀ p, p ≠ 22 → p ≠ 23 → X p = I p := a3
    have x0 : X 0 = I 0 := a3 0 (by decide) (by decide)
    obtain ⟨e1, e2, e3⟩ := h j hj
    refine Or.inr ⟨(Int32.ofNat (cnB (caB fo c) (j + 1)), ui (ui X 23 j 0) 22 j 0), ⟨rfl, fun k hk => ?_, fun p p1 p2 => ?_⟩, 0, fun n _ => ?_⟩
    · dsimp only
      simp only [ui_at]
      by_cases e : k = j
      · subst e; simp
      · have := a2 k (by omega)
        simp [e]
        exact this
    · dsimp only
      rw [ui_else _ _ _ p1, ui_else _ _ _ p2]; exact a3 p p1 p2
    · have ca := M_can (I := ui (ui X 23 j 0) 22 j 0) J n (fo := fo) (c := c) (k := j) (by omega) (by rw [ui_else _ _ _ (by decide), ui_else _ _ _ (by decide), a3 20 (by decide) (by decide)]; exact e1) (by rw [ui_else _ _ _ (by decide), ui_else _ _ _ (by decide), a3 1 (by decide) (by decide)]; exact e2) e3
      simp only [ff_M_round_26, x0, hs, if_neg (show ¬ Int32.ofNat s ≤ Int32.ofNat j by rw [q_cl s4 (by omega)]; omega), if_pos (sm_i2 (j := j) (N := 4) (by omega) (by omega)), sm_nat (j := j) (by omega), ca, Option.bind_some, tl, sm_suc, a1, cnB, sumN]
      cases caB fo c j <;> simp
theorem hv_neg (i : Nat) : (-1 : Int32) + Int32.ofNat (i + 1) = Int32.ofNat (0 + i) := by
  rw [Int32.add_comm, dec_k, Nat.zero_add]
theorem hv_a (a i : Nat) : Int32.ofNat a + Int32.ofNat (i + 1) = Int32.ofNat (a + 1 + i) := by
  rw [← Int32.ofNat_add]; congr 1; omega
theorem cnB_pos (f : Nat → Bool) : ∀ s, 0 < cnB f s → ∃ k, k < s ∧ f k = true
  | 0, h => absurd h (Nat.lt_irrefl 0)
  | s + 1, h => by
    cases e : f s with
    | true => exact ⟨s, by omega, e⟩
    | false =>
      have : cnB f (s + 1) = cnB f s := by unfold cnB; rw [sumN, e]; simp
      obtain ⟨k, hk, ek⟩ := cnB_pos f s (by omega)
      exact ⟨k, by omega, ek⟩
theorem call_round {I : MI} {J : MJ} {I' : MI} {J' : MJ} (g : R I J I' J') : ∃ r r', Ev (fun n => ff_O_round n I J) r ∧ Ev (fun n => ff_M_round n I' J') r' ∧ r.1 = r'.1 ∧ R r.2.1 r.2.2 r'.2.1 r'.2.2 := by
  obtain ⟨s, ph, t, P, b, ac, c, h, r, m, w, g⟩ := g
  have g := RG_th g 0
  unfold ff_M_round ff_O_round
  generalize ui I' 0 0 0 = I0 at g ⊢
  have gg := g
  obtain ⟨g1, g2, g3, g4, g5, g6, g7⟩ := g
  obtain ⟨hs, hs', s4, hph, hph', ph6, hP, hP', hTP, ht, t01, t2, t3, t4, hpp, hact, hb⟩ := g1
  have R0 : R I J I0 J' := ⟨s, ph, t, P, b, ac, c, h, r, m, w, gg⟩
  have c4 : (Int32.ofNat ph = 4) ↔ ph = 4 := nb_inj (y := 4) (by omega) (by omega)
  rw [hph, hph']
  by_cases d : ph = 4
  · simp only [if_pos (c4.mpr d)]
    rcases hb with ⟨b0, e30, e7⟩ | ⟨b1, e30, _, a4, e7⟩
    · subst d b0
      obtain ⟨_, s2⟩ := hpp (by decide)
      simp only [if_pos e7, if_pos e30]
      obtain ⟨q, q1, q2, q3, q4, q5⟩ := O_await I J hs s4
      have bd : ∀ k, k < s → c k ≤ 400000 := fun k hk => by have := RB_bd g2 s4 hk; omega
      have q0 : q.1 0 = I 0 := q4 0 (fun k _ => by omega)
      have hO : ∀ k, k < s → q.1 (15 + 6 * k) 3 = I (15 + 6 * k) 3 ∧ q.1 (15 + 6 * k) 0 = Int32.ofNat (c k) ∧ c k ≤ 400000 := fun k hk => ⟨q3 _ _ (by decide), by rw [q3 _ _ (by decide)]; exact (g2.1 k hk).1, bd k hk⟩
      have able := O_able (fo := fun k => I (15 + 6 * k) 3) (c := c) (I := q.1) q.2 (by rw [q0]; exact hs) s4 hO
      obtain ⟨X, x1, x2, z, z1, z2⟩ := M_round26 (fo := fun k => I (15 + 6 * k) 3) (c := c) I0 J' hs' s2 s4 (fun k hk => ⟨RB_fo g2 hk, (g2.1 k hk).2.1, bd k hk⟩)
      have cl := cnB_le (caB (fun k => I (15 + 6 * k) 3) c) s
      have cc : (Int32.ofNat (cnB (caB (fun k => I (15 + 6 * k) 3) c) s) < 2) ↔ cnB (caB (fun k => I (15 + 6 * k) 3) c) s < 2 := q_lt (y := 2) (by omega) (by omega)
      have x0 : X 0 = I0 0 := x2 0 (by decide) (by decide)
      rcases z2 with ⟨z2, rfl⟩ | ⟨z2, u, u1, rfl⟩
      · refine ⟨(1, q.1, q.2), _, ?_, z1, rfl, s, 4, t, P, 0, ac, c, h, r, m, w, ?_⟩
        · refine Ev.bind q1 ?_
          refine Ev.bind able ?_
          simp only [if_pos (cc.mpr z2)]
          exact Ev.pure _
        · dsimp only
          rw [q5]
          refine RG_money gg (Or.inl rfl) (fun y _ _ => by rw [q0]) (by rw [q0]; exact hph) (fun k _ y hy => q3 _ _ (by omega)) (fun x _ hx => q4 x hx) (fun y _ _ y30 _ => by rw [ui_at, if_neg (by omega), x0]) (by rw [ui_at, if_neg (by omega), x0]; exact hph') (fun x x0 _ _ _ x22 x23 => by rw [ui_else _ _ _ x0, x2 x x22 x23]) (by rw [q0, ui_at, if_neg (by omega), x0]; exact hact) (Or.inl ⟨rfl, by rw [ui_at, if_pos ⟨rfl, rfl⟩], by rw [q0]; exact e7⟩) ⟨fun k hk => ?_, g2.2⟩
          obtain ⟨y1, y2, y3, y4, y5, y6, y7, y8, y9, y10⟩ := g2.1 k hk
          rw [q3 _ _ (by decide), q3 _ _ (by decide), q3 _ _ (by decide), q3 _ 3 (by decide), ui_else _ _ _ (by decide), x2 1 (by decide) (by decide), ui_else _ _ _ (by decide), x2 21 (by decide) (by decide), ui_else _ _ _ (by decide), ui_else _ _ _ (by decide), x2 20 (by decide) (by decide)]
          exact ⟨y1, y2, y3, y4, y5, fun hh => absurd hh (by decide), y7, y8, y9, fun hh => absurd hh (by decide)⟩
      · -- a ROUND begins
        have hfn := M_fn (fr := 0) (fo := fun k => I (15 + 6 * k) 3) (at' := fun _ => 0) (c := c) (I := ui X 0 30 1) J' (by rw [ui_at, if_neg (by omega), x0]; exact hs') s2 s4 (by omega) (fun k hk => by
          rw [ui_else _ _ _ (by decide), ui_else _ _ _ (by decide), ui_else _ _ _ (by decide), x2 20 (by decide) (by decide), x2 1 (by decide) (by decide)]
          exact ⟨RB_fo g2 hk, (g2.1 k hk).2.1, bd k hk, (x1 k hk).1⟩)
        obtain ⟨u', v', f1, f2, f3, f4⟩ := hfn
        have f1 : Ev (fun n => ff_M_findNext n (ui X 0 30 1) J' 0) u' := f1
        obtain rfl := Ev.one u1 f1
        obtain ⟨v, v1, v2⟩ := O_nx (fr := 0) (fo := fun k => I (15 + 6 * k) 3) (at' := fun _ => 0) (c := c) (I := q.1) q.2 (by rw [q0]; exact hs) s4 (by omega) (fun k hk => ⟨(hO k hk).1, (hO k hk).2.1, (hO k hk).2.2, q2 k hk⟩) (-1) hv_neg
        have vv := nxP_one v2 f2
        subst vv
        have fm : cnB (caB (fun k => I (15 + 6 * k) 3) c) s ≤ cnB (fun k => decide (I (15 + 6 * k) 3 = 0)) s := cnB_mono _ _ s (fun k _ hk => by unfold caB at hk; simp at hk; simp [hk.1])
        have vn : v ≠ -1 ∧ ∃ a', a' < s ∧ v = Int32.ofNat a' := by
          rcases v2 with ⟨i, hi, y1, y2, rfl⟩ | ⟨y1, rfl⟩
          · have ms := Nat.mod_lt (0 + i) (show 0 < s by omega)
            exact ⟨fun hh => absurd (show (Int32.ofNat ((0 + i) % s)) < 0 by rw [hh]; decide) (sm_pos (by omega)), _, ms, rfl⟩
          · obtain ⟨k, hk, ek⟩ := cnB_pos (caB (fun k => I (15 + 6 * k) 3) c) s (by omega)
            have := y1 k hk
            rw [Nat.zero_add, Nat.mod_eq_of_lt hk] at this
            unfold yaB at this
            rw [ek] at this
            simp at this
        obtain ⟨vn, a', ha', va⟩ := vn
        rcases f4 with ⟨_, _, f5⟩ | ⟨f5, _⟩
        · refine ⟨(1, ui q.1 0 7 v, q.2), _, ?_, z1, rfl, s, 4, t, P, 1, a', c, h, r, m, w, ?_⟩
          · refine Ev.bind q1 ?_
            refine Ev.bind able ?_
            simp only [if_neg (show ¬ Int32.ofNat (cnB (caB (fun k => I (15 + 6 * k) 3) c) s) < 2 by rw [cc]; omega)]
            exact Ev.bind v1 (Ev.pure _)
          · dsimp only
            rw [q5, f3, f5]
            have m0 : ∀ y, y ≠ 30 → y ≠ 31 → (ui (ui (ui X 0 30 1) 0 31 (-1)) 0 31 v) 0 y = I0 0 y := fun y y30 y31 => by rw [ui_at, if_neg (by omega), ui_at, if_neg (by omega), ui_at, if_neg (by omega), x0]
            have mo : ∀ x, x ≠ 0 → x ≠ 22 → x ≠ 23 → (ui (ui (ui X 0 30 1) 0 31 (-1)) 0 31 v) x = I0 x := fun x h0 h22 h23 => by rw [ui_else _ _ _ h0, ui_else _ _ _ h0, ui_else _ _ _ h0, x2 x h22 h23]
            refine RG_money gg (Or.inl rfl) (fun y _ y7 => by rw [ui_at, if_neg (by omega), q0]) (by rw [ui_at, if_neg (by omega), q0]; exact hph) (fun k _ y hy => by rw [ui_else _ _ _ (by omega)]; exact q3 _ _ (by omega)) (fun x x0 hx => by rw [ui_else _ _ _ x0]; exact q4 x hx) (fun y _ _ y30 y31 => m0 y y30 y31) (by rw [m0 4 (by decide) (by decide)]; exact hph') (fun x x0 _ _ _ x22 x23 => mo x x0 x22 x23) (by rw [ui_at, if_pos ⟨rfl, rfl⟩, ui_at, if_pos ⟨rfl, rfl⟩]) (Or.inr ⟨rfl, by rw [ui_at, if_neg (by omega), ui_at, if_neg (by omega), ui_at, if_pos ⟨rfl, rfl⟩], rfl, ha', by rw [ui_at, if_pos ⟨rfl, rfl⟩]; exact va⟩) ⟨fun k hk => ?_, g2.2⟩
            obtain ⟨y1, y2, y3, y4, y5, y6, y7, y8, y9, y10⟩ := g2.1 k hk
            rw [ui_else _ _ _ (by omega), q3 _ _ (by decide), q3 _ _ (by decide), q3 _ _ (by decide), q3 _ 3 (by decide), mo 1 (by decide) (by decide) (by decide), mo 21 (by decide) (by decide) (by decide), mo 20 (by decide) (by decide) (by decide), q2 k hk]
            have z22 : (ui (ui (ui X 0 30 1) 0 31 (-1)) 0 31 v) 22 k = 0 := by rw [ui_else _ _ _ (by decide), ui_else _ _ _ (by decide), ui_else _ _ _ (by decide)]; exact (x1 k hk).2
            have z23 : (ui (ui (ui X 0 30 1) 0 31 (-1)) 0 31 v) 23 k = 0 := by rw [ui_else _ _ _ (by decide), ui_else _ _ _ (by decide), ui_else _ _ _ (by decide)]; exact (x1 k hk).1
            exact ⟨y1, y2, y3, y4, y5, fun _ => by rw [z22, y7 rfl]; rfl, fun hh => absurd hh (by decide), y8, y9, fun _ => by rw [z23]⟩
        · rcases f5 with f5 | f5
          · exact absurd f5 vn
          · omega
    · have na : ¬ I 0 7 = -1 := by
        rw [e7]
        exact fun hh => absurd (show (Int32.ofNat ac) < 0 by rw [hh]; decide) (sm_pos (by omega))
      simp only [if_neg na, e30, if_neg (show ¬ (1 : Int32) = 0 by decide)]
      exact ⟨_, _, Ev.pure _, Ev.pure _, rfl, R0⟩
  · simp only [if_neg (show ¬ Int32.ofNat ph = 4 by rw [c4]; exact d)]
    exact ⟨_, _, Ev.pure _, Ev.pure _, rfl, R0⟩
