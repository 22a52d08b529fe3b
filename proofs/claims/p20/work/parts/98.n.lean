/-! bet -/
theorem O_zero35 {s : Nat} (I : MI) (J : MJ) (hs : I 0 2 = Int32.ofNat s) (s4 : s ≤ 4) : ∃ r, Ev (fun n => ff_O_goOnWithRound_35 n I J 0) r ∧ (∀ k, k < s → r.1 (15 + 6 * k) 2 = 0) ∧ (∀ x y, y ≠ 2 → r.1 x y = I x y) ∧ (∀ x, (∀ k, k < s → x ≠ 15 + 6 * k) → r.1 x = I x) ∧ r.2 = J := by
  refine Ev.loop0 (α := MI) (fun n x j => ff_O_goOnWithRound_35 n x J (Int32.ofNat j)) s (fun j x => (∀ k, k < j → x (15 + 6 * k) 2 = 0) ∧ (∀ p y, y ≠ 2 → x p y = I p y) ∧ (∀ p, (∀ k, k < s → p ≠ 15 + 6 * k) → x p = I p)) _ I ⟨fun k hk => absurd hk (by omega), fun _ _ _ => rfl, fun _ _ => rfl⟩ ?_ ?_
  · rintro I1 ⟨a1, a2, a3⟩
    refine ⟨(I1, J), Ev.suc (Ev.now fun n => ?_), a1, a2, a3, rfl⟩
    rw [ff_O_goOnWithRound_35, a3 0 (fun k _ => by omega), hs, if_pos ((q_cl s4 (by omega)).mpr (Nat.le_refl _))]
  · rintro j I1 hj ⟨a1, a2, a3⟩
    refine Or.inr ⟨ui I1 (15 + 6 * j) 2 0, ⟨fun k hk => ?_, fun p y hy => ?_, fun p hp => ?_⟩, 0, fun n _ => ?_⟩
    · rw [ui_at]
      by_cases e : k = j
      · rw [if_pos ⟨by omega, rfl⟩]
      · rw [if_neg (by omega)]; exact a1 k (by omega)
    · rw [ui_at, if_neg (by omega)]; exact a2 p y hy
    · rw [ui_else _ _ _ (hp j hj)]; exact a3 p hp
    · rw [ff_O_goOnWithRound_35, a3 0 (fun k _ => by omega), hs, if_neg (by rw [q_cl s4 (by omega)]; omega), if_pos (sm_in (N := 4) (by omega) (by omega)), sm_nat (by omega), sm_suc]
theorem O_go {s a : Nat} {fo at' : Nat → Int32} {c : Nat → Nat} {I : MI} (J : MJ) (hs : I 0 2 = Int32.ofNat s) (s4 : s ≤ 4) (ha : a < s) (h7 : I 0 7 = Int32.ofNat a) (h : ∀ k, k < s → I (15 + 6 * k) 3 = fo k ∧ I (15 + 6 * k) 0 = Int32.ofNat (c k) ∧ c k ≤ 400000 ∧ I (15 + 6 * k) 4 = at' k) (v : Int32) (hv : nxP (yaB fo at' c) (a + 1) s v) : ∃ r, Ev (fun n => ff_O_goOnWithRound n I J) r ∧ r.2 = J ∧ ((v ≠ -1 ∧ 2 ≤ cnB (fun k => decide (fo k = 0)) s → r.1 = ui I 0 7 v) ∧ (v = -1 ∨ cnB (fun k => decide (fo k = 0)) s < 2 → r.1 0 7 = -1 ∧ (∀ y, y ≠ 7 → r.1 0 y = I 0 y) ∧ (∀ k, k < s → r.1 (15 + 6 * k) 2 = 0) ∧ (∀ x y, x ≠ 0 → y ≠ 2 → r.1 x y = I x y) ∧ (∀ x, x ≠ 0 → (∀ k, k < s → x ≠ 15 + 6 * k) → r.1 x = I x))) := by
  have cl := cnB_le (fun k => decide (fo k = 0)) s
  have cc : ((2 : Int32) ≤ Int32.ofNat (cnB (fun k => decide (fo k = 0)) s)) ↔ 2 ≤ cnB (fun k => decide (fo k = 0)) s := nb_le (x := 2) (by omega) (by omega)
  have hin := O_in J hs s4 (fun k hk => (h k hk).1)
  have fin : ∃ r, Ev (fun n => ff_O_goOnWithRound_21 n I J (-1)) r ∧ r.2 = J ∧ (r.1 0 7 = -1 ∧ (∀ y, y ≠ 7 → r.1 0 y = I 0 y) ∧ (∀ k, k < s → r.1 (15 + 6 * k) 2 = 0) ∧ (∀ x y, x ≠ 0 → y ≠ 2 → r.1 x y = I x y) ∧ (∀ x, x ≠ 0 → (∀ k, k < s → x ≠ 15 + 6 * k) → r.1 x = I x)) := by
    obtain ⟨q, q1, q2, q3, q4, q5⟩ := O_zero35 (s := s) (ui I 0 7 (-1)) J (by rw [ui_at, if_neg (by omega)]; exact hs) s4
    have q0 : q.1 0 = (ui I 0 7 (-1)) 0 := q4 0 (fun k _ => by omega)
    refine ⟨q, ?_, q5, by rw [q0, ui_at, if_pos ⟨rfl, rfl⟩], fun y hy => by rw [q0, ui_at, if_neg (by omega)], q2, fun x y x0 hy => by rw [q3 x y hy, ui_else _ _ _ x0], fun x x0 hx => by rw [q4 x hx, ui_else _ _ _ x0]⟩
    unfold ff_O_goOnWithRound_21
    rw [show (ui I 0 7 (-1)) 0 7 = -1 by rw [ui_at, if_pos ⟨rfl, rfl⟩]]
    simp only [if_true]
    exact q1
  unfold ff_O_goOnWithRound
  by_cases q : 2 ≤ cnB (fun k => decide (fo k = 0)) s
  · obtain ⟨v', v1, v2⟩ := O_nx (fr := a + 1) J hs s4 (by omega) h (Int32.ofNat a) (hv_a a)
    obtain rfl := nxP_one hv v2
    by_cases e : v = -1
    · obtain ⟨r, r1, r2, r3⟩ := fin
      refine ⟨r, ?_, r2, fun hh => absurd e hh.1, fun _ => r3⟩
      refine Ev.bind hin ?_
      simp only [if_pos (cc.mpr q), h7]
      rw [e] at v1
      exact Ev.bind v1 r1
    · refine ⟨(ui I 0 7 v, J), ?_, rfl, fun _ => rfl, fun hh => hh.elim (fun x => absurd x e) (fun x => absurd x (by omega))⟩
      refine Ev.bind hin ?_
      simp only [if_pos (cc.mpr q), h7]
      refine Ev.bind v1 ?_
      unfold ff_O_goOnWithRound_21
      rw [show (ui I 0 7 v) 0 7 = v by rw [ui_at, if_pos ⟨rfl, rfl⟩]]
      simp only [if_neg e]
      exact Ev.pure _
  · obtain ⟨r, r1, r2, r3⟩ := fin
    refine ⟨r, ?_, r2, fun hh => absurd hh.2 q, fun _ => r3⟩
    refine Ev.bind hin ?_
    simp only [if_neg (show ¬ (2 : Int32) ≤ Int32.ofNat (cnB (fun k => decide (fo k = 0)) s) by rw [cc]; exact q)]
    exact r1
theorem bet_end {s t P a : Nat} {c h r c' h' r' : Nat → Nat} {m : Nat → Int64} {w : Nat → Nat → Nat} {I I' I2 I2' : MI} {J J' : MJ} (g : RG s 4 t P 1 a c h r m w I J I' J') (hB : RB s 4 1 c' h' r' I2 I2')
    (e0 : I2 0 = I 0) (eP : ∀ k, k < s → ∀ y, 5 ≤ y → I2 (15 + 6 * k) y = I (15 + 6 * k) y) (eo : ∀ x, (∀ k, k < s → x ≠ 15 + 6 * k) → I2 x = I x)
    (f0 : I2' 0 = I' 0) (fo : ∀ x, x ≠ 1 → x ≠ 20 → x ≠ 21 → x ≠ 22 → x ≠ 23 → I2' x = I' x) (v1 v2 v3 v5 w2 w3 w4 : Int32) :
    ∃ r r', Ev (fun n => ff_O_bet_132 n I2 J v1 v2 v3 (15 + 6 * a) v5) r ∧ Ev (fun n => ff_M_bet_152 n I2' J' (Int32.ofNat a) w2 w3 w4) r' ∧ r.1 = r'.1 ∧ R r.2.1 r.2.2 r'.2.1 r'.2.2 := by
  have gg := g
  obtain ⟨g1, g2, g3, g4, g5, g6, g7⟩ := g
  obtain ⟨hs, hs', s4, hph, hph', ph6, hP, hP', hTP, ht, t01, t2, t3, t4, hpp, hact, hb⟩ := g1
  obtain ⟨_, s2⟩ := hpp (by decide)
  have hb : I' 0 30 = 1 ∧ a < s ∧ I 0 7 = Int32.ofNat a := by
    rcases hb with x | x
    · exact absurd x.1 (by decide)
    · exact ⟨x.2.1, x.2.2.2.1, x.2.2.2.2⟩
  obtain ⟨e30, as, e7⟩ := hb
  have bd : ∀ k, k < s → c' k ≤ 400000 := fun k hk => by have := RB_bd hB s4 hk; omega
  have X0 : (ui I2 (15 + 6 * a) 4 1) 0 = I 0 := by rw [ui_else _ _ _ (by omega), e0]
  have Y0 : (ui I2' 23 a 1) 0 = I' 0 := by rw [ui_else _ _ _ (by decide), f0]
  have X4 : ∀ k, k < s → (ui I2 (15 + 6 * a) 4 1) (15 + 6 * k) 4 = (ui I2' 23 a 1) 23 k := fun k hk => by
    rw [ui_at, ui_at]
    by_cases e : k = a
    · rw [if_pos ⟨by omega, rfl⟩, if_pos ⟨rfl, e⟩]
    · rw [if_neg (by omega), if_neg (by omega)]; exact (hB.1 k hk).2.2.2.2.2.2.2.2.2 rfl
  have XP' : ∀ k y, y ≠ 4 → (ui I2 (15 + 6 * a) 4 1) (15 + 6 * k) y = I2 (15 + 6 * k) y := fun k y hy => by rw [ui_at, if_neg (by omega)]
  obtain ⟨u, v, u1, u2, u3, u4⟩ := M_fn (fr := a + 1) (fo := fun k => I2 (15 + 6 * k) 3) (at' := fun k => (ui I2' 23 a 1) 23 k) (c := c') (I := ui I2' 23 a 1) J' (by rw [Y0]; exact hs') s2 s4 (by omega) (fun k hk => by
    rw [ui_else _ _ _ (by decide), ui_else _ _ _ (by decide)]
    exact ⟨RB_fo hB hk, (hB.1 k hk).2.1, bd k hk, rfl⟩)
  obtain ⟨q, q1, q2, q3, q4⟩ := O_go (a := a) (fo := fun k => I2 (15 + 6 * k) 3) (at' := fun k => (ui I2' 23 a 1) 23 k) (c := c') (I := ui I2 (15 + 6 * a) 4 1) J (by rw [X0]; exact hs) s4 as (by rw [X0]; exact e7) (fun k hk => ⟨XP' k 3 (by decide), by rw [XP' k 0 (by decide)]; exact (hB.1 k hk).1, bd k hk, X4 k hk⟩) v u2
  refine ⟨(1, q.1, q.2), (1, u.1, u.2), ?_, ?_, rfl, ?_⟩
  · unfold ff_O_bet_132
    exact Ev.bind q1 (Ev.pure _)
  · unfold ff_M_bet_152
    simp only [sm_nat (j := a) (by omega), if_pos (sm_i2 (j := a) (N := 4) (by omega) (by omega)), sm_suc]
    exact Ev.bind u1 (Ev.pure _)
  · dsimp only
    rw [q2, u3]
    rcases u4 with ⟨y1, y2, y3⟩ | ⟨y1, y2, y3, y4, y5⟩
    · have q3 := q3 ⟨y1, y2⟩
      have va : ∃ a', a' < s ∧ v = Int32.ofNat a' := by
        rcases u2 with ⟨i, hi, z1, z2, rfl⟩ | ⟨z1, rfl⟩
        · exact ⟨_, Nat.mod_lt _ (by omega), rfl⟩
        · exact absurd rfl y1
      obtain ⟨a', ha', va⟩ := va
      rw [q3, y3]
      have m0 : ∀ y, y ≠ 31 → (ui (ui (ui I2' 23 a 1) 0 31 (-1)) 0 31 v) 0 y = I' 0 y := fun y hy => by rw [ui_at, if_neg (by omega), ui_at, if_neg (by omega), Y0]
      have mo : ∀ x, x ≠ 0 → (ui (ui (ui I2' 23 a 1) 0 31 (-1)) 0 31 v) x = (ui I2' 23 a 1) x := fun x hx => by rw [ui_else _ _ _ hx, ui_else _ _ _ hx]
      refine ⟨s, 4, t, P, 1, a', c', h', r', m, w, RG_money gg (Or.inl rfl) (fun y _ y7 => by rw [ui_at, if_neg (by omega), X0]) (by rw [ui_at, if_neg (by omega), X0]; exact hph) (fun k hk y hy => by rw [ui_else _ _ _ (by omega), XP' k y (by omega)]; exact eP k hk y hy) (fun x x0 hx => by rw [ui_else _ _ _ x0, ui_else _ _ _ (hx a as)]; exact eo x hx) (fun y _ _ _ y31 => m0 y y31) (by rw [m0 4 (by decide)]; exact hph') (fun x x0 x1 x20 x21 x22 x23 => by rw [mo x x0, ui_else _ _ _ x23]; exact fo x x1 x20 x21 x22 x23) (by rw [ui_at, if_pos ⟨rfl, rfl⟩, ui_at, if_pos ⟨rfl, rfl⟩]) (Or.inr ⟨rfl, by rw [m0 30 (by decide)]; exact e30, rfl, ha', by rw [ui_at, if_pos ⟨rfl, rfl⟩]; exact va⟩) ⟨fun k hk => ?_, hB.2⟩⟩
      obtain ⟨w1, w2, w3, w4, w5, w6, w7, w8, w9, w10⟩ := hB.1 k hk
      rw [ui_else _ _ _ (by omega), XP' k 0 (by decide), XP' k 1 (by decide), XP' k 2 (by decide), XP' k 3 (by decide), X4 k hk, mo 1 (by decide), mo 21 (by decide), mo 22 (by decide), mo 20 (by decide), mo 23 (by decide), ui_else _ _ _ (by decide), ui_else _ _ _ (by decide), ui_else _ _ _ (by decide), ui_else _ _ _ (by decide)]
      exact ⟨w1, w2, w3, w4, w5, w6, w7, w8, w9, fun _ => rfl⟩
    · obtain ⟨p1, p2, p3, p4, p5⟩ := q4 y1
      refine ⟨s, 4, t, P, 0, a, c', h', fun _ => 0, m, w, RG_money gg (Or.inl rfl) (fun y _ y7 => by rw [p2 y y7, X0]) (by rw [p2 1 (by decide), X0]; exact hph) (fun k hk y hy => by rw [p4 _ y (by omega) (by omega), XP' k y (by omega)]; exact eP k hk y hy) (fun x x0 hx => by rw [p5 x x0 hx, ui_else _ _ _ (hx a as)]; exact eo x hx) (fun y _ _ y30 y31 => by rw [y4 y y30 y31, Y0]) (by rw [y4 4 (by decide) (by decide), Y0]; exact hph') (fun x x0 x1 x20 x21 x22 x23 => by rw [y5 x x0 x22, ui_else _ _ _ x23]; exact fo x x1 x20 x21 x22 x23) (by rw [p1, y3]) (Or.inl ⟨rfl, y2, p1⟩) ⟨fun k hk => ?_, hB.2⟩⟩
      obtain ⟨w1, w2, w3, w4, w5, w6, w7, w8, w9, w10⟩ := hB.1 k hk
      rw [p4 _ 0 (by omega) (by decide), p4 _ 1 (by omega) (by decide), p4 _ 3 (by omega) (by decide), XP' k 0 (by decide), XP' k 1 (by decide), XP' k 3 (by decide), p3 k hk, y5 1 (by decide) (by decide), y5 21 (by decide) (by decide), y5 20 (by decide) (by decide), ui_else _ _ _ (by decide), ui_else _ _ _ (by decide), ui_else _ _ _ (by decide)]
      exact ⟨w1, w2, w3, w4, rfl, fun hh => absurd hh (by decide), fun _ => rfl, Nat.zero_le _, w9, fun hh => absurd hh (by decide)⟩
/-- one puts in: both memories -/
theorem RB_put {s a q : Nat} {c h r : Nat → Nat} {I I' : MI} (s4 : s ≤ 4) (as : a < s) (g : RB s 4 1 c h r I I') (hq : q ≤ c a) : RB s 4 1 (upN c a (c a - q)) (upN h a (h a + q)) (upN r a (r a + q)) (ui (ui (ui I (15 + 6 * a) 0 (Int32.ofNat (c a) - Int32.ofNat q)) (15 + 6 * a) 2 (Int32.ofNat (r a) + Int32.ofNat q)) (15 + 6 * a) 1 (Int32.ofNat (h a) + Int32.ofNat q)) (ui (ui (ui I' 1 a (Int32.ofNat (c a) - Int32.ofNat q)) 21 a (Int32.ofNat (h a) + Int32.ofNat q)) 22 a (Int32.ofNat (r a) + Int32.ofNat q)) := by
  refine ⟨fun k hk => ?_, ?_⟩
  · obtain ⟨w1, w2, w3, w4, w5, w6, w7, w8, w9, w10⟩ := g.1 k hk
    rw [q_sub hq, ← Int32.ofNat_add, ← Int32.ofNat_add]
    by_cases e : k = a
    · subst e
      have z : ∀ y, y ≠ 0 → y ≠ 1 → y ≠ 2 → (ui (ui (ui I (15 + 6 * k) 0 (Int32.ofNat (c k - q))) (15 + 6 * k) 2 (Int32.ofNat (r k + q))) (15 + 6 * k) 1 (Int32.ofNat (h k + q))) (15 + 6 * k) y = I (15 + 6 * k) y := fun y y0 y1 y2 => by rw [ui_at, if_neg (by omega), ui_at, if_neg (by omega), ui_at, if_neg (by omega)]
      rw [z 3 (by decide) (by decide) (by decide), z 4 (by decide) (by decide) (by decide)]
      simp only [upN, if_true]
      refine ⟨by rw [ui_at, if_neg (by omega), ui_at, if_neg (by omega), ui_at, if_pos ⟨rfl, rfl⟩], by rw [ui_else _ _ _ (by decide), ui_else _ _ _ (by decide), ui_at, if_pos ⟨rfl, rfl⟩], by rw [ui_at, if_pos ⟨rfl, rfl⟩], by rw [ui_else _ _ _ (by decide), ui_at, if_pos ⟨rfl, rfl⟩], by rw [ui_at, if_neg (by omega), ui_at, if_pos ⟨rfl, rfl⟩], fun _ => by rw [ui_at, if_pos ⟨rfl, rfl⟩], fun hh => absurd hh (by decide), by omega, fun hh => ?_, fun hh => ?_⟩
      · rw [ui_else _ _ _ (by decide), ui_else _ _ _ (by decide), ui_else _ _ _ (by decide)]; exact w9 hh
      · rw [ui_else _ _ _ (by decide), ui_else _ _ _ (by decide), ui_else _ _ _ (by decide)]; exact w10 rfl
    · rw [ui_else _ _ _ (by omega), ui_else _ _ _ (by omega), ui_else _ _ _ (by omega)]
      simp only [upN, if_neg e]
      have z : ∀ x, (ui (ui (ui I' 1 a (Int32.ofNat (c a - q))) 21 a (Int32.ofNat (h a + q))) 22 a (Int32.ofNat (r a + q))) x k = I' x k := fun x => by rw [ui_at, if_neg (by omega), ui_at, if_neg (by omega), ui_at, if_neg (by omega)]
      rw [z, z, z, z, z]
      exact ⟨w1, w2, w3, w4, w5, fun _ => w6 rfl, w7, w8, w9, fun _ => w10 rfl⟩
  · rw [sum_up (fun k => c k + h k) s (fun k hk => ?_)]
    · exact g.2
    · simp only [upN]
      split
      · next e => subst e; omega
      · rfl
theorem O_putIn {I : MI} (J : MJ) (n a q : Nat) {c h r : Nat → Nat} (h0 : I (15 + 6 * a) 0 = Int32.ofNat (c a)) (h1 : I (15 + 6 * a) 1 = Int32.ofNat (h a)) (h2 : I (15 + 6 * a) 2 = Int32.ofNat (r a)) : ff_P_putIn n I J (15 + 6 * a) (Int32.ofNat q) = some (ui (ui (ui I (15 + 6 * a) 0 (Int32.ofNat (c a) - Int32.ofNat q)) (15 + 6 * a) 2 (Int32.ofNat (r a) + Int32.ofNat q)) (15 + 6 * a) 1 (Int32.ofNat (h a) + Int32.ofNat q), J) := by
  unfold ff_P_putIn
  rw [h0]
  rw [show (ui I (15 + 6 * a) 0 (Int32.ofNat (c a) - Int32.ofNat q)) (15 + 6 * a) 2 = Int32.ofNat (r a) by rw [ui_at, if_neg (by omega)]; exact h2]
  rw [show (ui (ui I (15 + 6 * a) 0 (Int32.ofNat (c a) - Int32.ofNat q)) (15 + 6 * a) 2 (Int32.ofNat (r a) + Int32.ofNat q)) (15 + 6 * a) 1 = Int32.ofNat (h a) by rw [ui_at, if_neg (by omega), ui_at, if_neg (by omega)]; exact h1]
theorem M_pay {I : MI} (J : MJ) (n : Nat) {a : Nat} (ha : a < 4) (q : Nat) {c h r : Nat → Nat} (h0 : I 1 a = Int32.ofNat (c a)) (h1 : I 21 a = Int32.ofNat (h a)) (h2 : I 22 a = Int32.ofNat (r a)) : ff_M_pay n I J (Int32.ofNat a) (Int32.ofNat q) = some (ui (ui (ui I 1 a (Int32.ofNat (c a) - Int32.ofNat q)) 21 a (Int32.ofNat (h a) + Int32.ofNat q)) 22 a (Int32.ofNat (r a) + Int32.ofNat q), J) := by
  unfold ff_M_pay
  simp only [sm_nat (j := a) (by omega), if_pos (sm_i2 (j := a) (N := 4) ha (by omega)), h0]
  rw [show (ui I 1 a (Int32.ofNat (c a) - Int32.ofNat q)) 21 a = Int32.ofNat (h a) by rw [ui_else _ _ _ (by decide)]; exact h1]
  rw [show (ui (ui I 1 a (Int32.ofNat (c a) - Int32.ofNat q)) 21 a (Int32.ofNat (h a) + Int32.ofNat q)) 22 a = Int32.ofNat (r a) by rw [ui_else _ _ _ (by decide), ui_else _ _ _ (by decide)]; exact h2]
theorem M_bet129 {s : Nat} (I : MI) (J : MJ) (hs : I 0 3 = Int32.ofNat s) (s4 : s ≤ 4) (v1 v2 v3 v4 : Int32) : ∃ X : MI, (∀ k, k < s → X 23 k = 0) ∧ (∀ x, x ≠ 23 → X x = I x) ∧ ∀ r, Ev (fun n => ff_M_bet_152 n X J v1 v2 v3 v4) r → Ev (fun n => ff_M_bet_129 n I J v1 v2 v3 v4 0) r := by
  have H : ∀ k j (Y : MI), j + k = s → (∀ i, i < j → Y 23 i = 0) → (∀ x, x ≠ 23 → Y x = I x) → ∃ X : MI, (∀ k, k < s → X 23 k = 0) ∧ (∀ x, x ≠ 23 → X x = I x) ∧ ∀ r, Ev (fun n => ff_M_bet_152 n X J v1 v2 v3 v4) r → Ev (fun n => ff_M_bet_129 n Y J v1 v2 v3 v4 (Int32.ofNat j)) r := by
    intro k
    induction k with
    | zero =>
      intro j Y hj a1 a2
      obtain rfl : j = s := by omega
      refine ⟨Y, a1, a2, fun r hr => Ev.step (fun n => ?_) hr⟩
      rw [ff_M_bet_129, a2 0 (by decide), hs, if_pos ((q_cl s4 (by omega)).mpr (Nat.le_refl _))]
    | succ k ih =>
      intro j Y hj a1 a2
      obtain ⟨X, x1, x2, x3⟩ := ih (j + 1) (ui Y 23 j 0) (by omega) (fun i hi => by
        rw [ui_at]
        by_cases e : i = j
        · rw [if_pos ⟨rfl, e⟩]
        · rw [if_neg (by omega)]; exact a1 i (by omega)) (fun x hx => by rw [ui_else _ _ _ hx]; exact a2 x hx)
      refine ⟨X, x1, x2, fun r hr => Ev.step (fun n => ?_) (x3 r hr)⟩
      rw [ff_M_bet_129, a2 0 (by decide), hs, if_neg (by rw [q_cl s4 (by omega)]; omega), if_pos (sm_in (N := 4) (by omega) (by omega)), sm_nat (by omega), sm_suc]
  exact H s 0 I (by omega) (fun i hi => absurd hi (by omega)) (fun _ _ => rfl)
theorem q_up {N mis x : Nat} (hN : N < 2147483648) (hm : mis ≤ 400000) (hx : x ≤ 400000) (h : Int32.ofNat N ≤ Int32.ofNat x - Int32.ofNat mis) (h1 : 1 ≤ N) : N + mis ≤ x := by
  rw [Int32.le_iff_toInt_le, Int32.toInt_sub, Int32.toInt_ofNat_of_lt (by omega), Int32.toInt_ofNat_of_lt (by omega), Int32.toInt_ofNat_of_lt (by omega), Int.bmod_def] at h
  omega
