theorem M_payL {s : Nat} {fo : Nat → Int32} {c h : Nat → Nat} (I : MI) (J : MJ) (hM : MM s fo c h I) (hs : I 0 3 = Int32.ofNat s) (s4 : s ≤ 4) (ht : tot c h s ≤ 400000) (v : Int32) : ∃ r, Ev (fun n => ff_M_payLayer n I J v) r ∧ ((lsN h s = 0 ∧ r = (0, I, J)) ∨ (0 < lsN h s ∧ r.1 = 1 ∧ r.2.2 = J ∧ MM s fo (layC fo h v s c) (layH h s) r.2.1 ∧ (∀ x, x ≠ 21 → x ≠ 1 → r.2.1 x = I x))) := by
  have hh := h_bd ht
  have pl := pot_le h s
  have hl := h_le_tot c h s
  have bd : ∀ j, j ≤ s → lsN h j ≤ 400000 := fun j hj => by
    by_cases q : 0 < lsN h j
    · obtain ⟨k, hk, ek⟩ := (ls_sp h j).2.2 q
      have := hh k (by omega); omega
    · omega
  have lsb := bd s (Nat.le_refl _)
  have l206 := M_lay206 I J hM hs s4 ht v
  have z0 : ∀ j, j < s → ((Int32.ofNat (h j) = 0) ↔ h j = 0) := fun j hj => nb_inj (y := 0) (by have := hh j hj; omega) (by omega)
  have cl := cnB_le (wnB fo h v (bsF fo h v s))
  -- winners
  have l141 : ∃ r, Ev (fun n => ff_M_payLayer_141 n I J v (Int32.ofNat (lsN h s)) (Int32.ofNat (potN h (lsN h s) s)) (bsF fo h v s) 0 0) r ∧ (r.1 = 1 ∧ r.2.2 = J ∧ MM s fo (layC fo h v s c) (layH h s) r.2.1 ∧ (∀ x, x ≠ 21 → x ≠ 1 → r.2.1 x = I x)) := by
    generalize hB : bsF fo h v s = B at l206 ⊢
    generalize hW : wnB fo h v B = wn at l206 ⊢
    refine Ev.loop0 (α := Int32) (fun n x j => ff_M_payLayer_141 n I J v (Int32.ofNat (lsN h s)) (Int32.ofNat (potN h (lsN h s) s)) B x (Int32.ofNat j)) s (fun j x => x = Int32.ofNat (cnB wn j)) _ 0 rfl ?_ ?_
    · rintro x rfl
      obtain ⟨r, r1, r2⟩ := l206
      refine ⟨r, Ev.step (fun n => ?_) r1, r2⟩
      rw [ff_M_payLayer_141, hs, if_pos ((q_cl s4 (by omega)).mpr (Nat.le_refl _))]
    · rintro j x hj rfl
      obtain ⟨m1, m2, m3⟩ := hM j hj
      have hj4 := hh j hj
      refine Or.inr ⟨_, rfl, 0, fun n _ => ?_⟩
      have cj : cnB wn (j + 1) = cnB wn j + if wn j then 1 else 0 := by unfold cnB; rw [sumN]
      have wj : wn j = (decide (fo j = 0) && decide (0 < h j) && decide (rkF v j = B)) := by rw [← hW]; rfl
      rw [cj, wj]
      simp only [ff_M_payLayer_141, hs, if_neg (show ¬ Int32.ofNat s ≤ Int32.ofNat j by rw [q_cl s4 (by omega)]; omega), if_pos (sm_i2 (j := j) (N := 4) (by omega) (by omega)), sm_nat (j := j) (by omega), m2, tl, sm_suc, Int32.add_zero]
      by_cases z : h j = 0
      · rw [if_pos ((q_le0 (by omega)).mpr z)]; simp [z]
      · rw [if_neg (by rw [q_le0 (by omega)]; exact z)]
        by_cases f : I 20 j = 0
        · rw [if_pos f]; simp [show ¬ fo j = 0 from fun q => m3.mp q f]
        · rw [if_neg f]
          by_cases g : rkF v j = B
          · rw [if_pos (show (v >>> ((4 * Int32.ofNat j) &&& 31)) &&& 15 = B from g)]; simp [m3.mpr f, show 0 < h j by omega, g]
          · rw [if_neg (show ¬ (v >>> ((4 * Int32.ofNat j) &&& 31)) &&& 15 = B from g)]; simp [g]
  have l66 : ∃ r, Ev (fun n => ff_M_payLayer_66 n I J v (Int32.ofNat (lsN h s)) 0 (-1) 0) r ∧ (r.1 = 1 ∧ r.2.2 = J ∧ MM s fo (layC fo h v s c) (layH h s) r.2.1 ∧ (∀ x, x ≠ 21 → x ≠ 1 → r.2.1 x = I x)) := by
    refine Ev.loop0 (α := Int32 × Int32) (fun n x j => ff_M_payLayer_66 n I J v (Int32.ofNat (lsN h s)) x.1 x.2 (Int32.ofNat j)) s (fun j x => x = (Int32.ofNat (potN h (lsN h s) j), bsF fo h v j)) _ (0, -1) rfl ?_ ?_
    · rintro x rfl
      obtain ⟨r, r1, r2⟩ := l141
      refine ⟨r, Ev.step (fun n => ?_) r1, r2⟩
      dsimp only
      rw [ff_M_payLayer_66, hs, if_pos ((q_cl s4 (by omega)).mpr (Nat.le_refl _))]
    · rintro j x hj rfl
      obtain ⟨m1, m2, m3⟩ := hM j hj
      have hj4 := hh j hj
      refine Or.inr ⟨_, rfl, 0, fun n _ => ?_⟩
      have pj : potN h (lsN h s) (j + 1) = potN h (lsN h s) j + if 0 < h j then lsN h s else 0 := by unfold potN; rw [sumN]
      dsimp only
      rw [pj, bs_le]
      have ij : inf fo h j = (decide (fo j = 0) && decide (0 < h j)) := rfl
      generalize hb : bsF fo h v j = bb
      have rk : (v >>> ((4 * Int32.ofNat j) &&& 31)) &&& 15 = rkF v j := rfl
      simp only [ff_M_payLayer_66, hs, if_neg (show ¬ Int32.ofNat s ≤ Int32.ofNat j by rw [q_cl s4 (by omega)]; omega), if_pos (sm_i2 (j := j) (N := 4) (by omega) (by omega)), sm_nat (j := j) (by omega), m2, tl, sm_suc, rk, ij]
      generalize rkF v j = kk
      by_cases z : h j = 0
      · rw [if_pos ((z0 j hj).mpr z)]; simp [z]
      · rw [if_neg (by rw [z0 j hj]; exact z), if_pos (show 0 < h j by omega), ← Int32.ofNat_add]
        by_cases f : I 20 j = 0
        · rw [if_pos f]; simp [show ¬ fo j = 0 from fun q => m3.mp q f]
        · rw [if_neg f]
          simp only [m3.mpr f, show 0 < h j by omega, decide_true, Bool.and_self, if_true]
          by_cases g : kk ≤ bb
          · rw [if_pos g, if_pos g]
          · rw [if_neg g, if_neg g]
  refine Ev.loop0 (α := Int32) (fun n x j => ff_M_payLayer_4 n I J v x (Int32.ofNat j)) s (fun j x => x = Int32.ofNat (lsN h j)) _ 0 rfl ?_ ?_
  · rintro x rfl
    by_cases z : lsN h s = 0
    · refine ⟨(0, I, J), Ev.suc (Ev.now fun n => ?_), Or.inl ⟨z, rfl⟩⟩
      rw [ff_M_payLayer_4, hs, if_pos ((q_cl s4 (by omega)).mpr (Nat.le_refl _)), if_pos (by rw [z]; rfl)]
    · obtain ⟨r, r1, r2⟩ := l66
      refine ⟨r, Ev.step (fun n => ?_) r1, Or.inr ⟨by omega, r2⟩⟩
      rw [ff_M_payLayer_4, hs, if_pos ((q_cl s4 (by omega)).mpr (Nat.le_refl _)), if_neg (show ¬ Int32.ofNat (lsN h s) = 0 from fun q => z ((nb_inj (y := 0) (by omega) (by omega)).mp q))]
  · rintro j x hj rfl
    obtain ⟨m1, m2, m3⟩ := hM j hj
    have b1 := hh j hj
    have b2 := bd j (by omega)
    refine Or.inr ⟨_, rfl, 0, fun n _ => ?_⟩
    simp only [ff_M_payLayer_4, ff_M_payLayer_35, hs, if_neg (show ¬ Int32.ofNat s ≤ Int32.ofNat j by rw [q_cl s4 (by omega)]; omega), if_pos (sm_i2 (j := j) (N := 4) (by omega) (by omega)), sm_nat (j := j) (by omega), m2, sm_suc, tl, lsN]
    by_cases e : h j = 0
    · rw [if_pos ((q_le0 (by omega)).mpr e), if_pos e]
    · rw [if_neg (by rw [q_le0 (by omega)]; exact e), if_neg e]
      have z0 : (Int32.ofNat (lsN h j) = 0) ↔ lsN h j = 0 := nb_inj (y := 0) (by omega) (by omega)
      by_cases z : lsN h j = 0
      · rw [if_pos (z0.mpr z), if_pos z]
      · rw [if_neg (by rw [z0]; exact z), if_neg z]
        by_cases q : lsN h j ≤ h j
        · rw [if_pos ((nb_le (by omega) (by omega)).mpr q)]; congr 2; omega
        · rw [if_neg (by rw [nb_le (by omega) (by omega)]; exact q)]; congr 2; omega
/-- how many have something in -/
def cpN (h : Nat → Nat) (s : Nat) : Nat := cnB (fun k => decide (0 < h k)) s
theorem cp_s (h : Nat → Nat) (j : Nat) : cpN h (j + 1) = cpN h j + if 0 < h j then 1 else 0 := by
  unfold cpN cnB
  rw [sumN]
  by_cases z : 0 < h j
  · simp [z]
  · simp [z]
theorem cp_dec (h : Nat → Nat) (s : Nat) (hl : 0 < lsN h s) : cpN (layH h s) s < cpN h s := by
  obtain ⟨k, hk, ek⟩ := (ls_sp h s).2.2 hl
  have lt : ∀ j, j ≤ s → cpN (layH h s) j + (if k < j then 1 else 0) ≤ cpN h j := by
    intro j hj
    induction j with
    | zero => exact Nat.le_refl _
    | succ j ih =>
      have ih := ih (by omega)
      rw [cp_s, cp_s]
      by_cases e : j = k
      · subst e
        have e1 : layH h s j = 0 := by unfold layH; rw [if_pos ⟨hk, by omega⟩]; omega
        rw [if_neg (by omega)] at ih
        rw [e1, if_neg (by omega), if_pos (show j < j + 1 by omega), if_pos (show 0 < h j by omega)]
        omega
      · have e2 : (if 0 < layH h s j then 1 else 0) ≤ (if 0 < h j then 1 else 0) := by
          by_cases z : 0 < h j
          · rw [if_pos z]; split <;> omega
          · have : layH h s j = h j := by unfold layH; rw [if_neg (by omega)]
            rw [this]; exact Nat.le_refl _
        by_cases f : k < j
        · rw [if_pos f] at ih; rw [if_pos (show k < j + 1 by omega)]; omega
        · rw [if_neg f] at ih; rw [if_neg (show ¬ k < j + 1 by omega)]; omega
  have := lt s (Nat.le_refl _)
  rw [if_pos hk] at this
  omega
theorem lay_id (fo : Nat → Int32) (v : Int32) (s : Nat) (c h : Nat → Nat) (hl : lsN h s = 0) : layC fo h v s c = c ∧ layH h s = h := by
  have z := (ls_sp h s).1 hl
  refine ⟨funext fun k => ?_, funext fun k => ?_⟩
  · unfold layC
    rw [if_neg]
    exact fun q => by have := z k q.1; omega
  · unfold layH
    rw [if_neg]
    exact fun q => by have := z k q.1; omega
theorem itr_id (fo : Nat → Int32) (v : Int32) (s : Nat) (c h : Nat → Nat) (hl : lsN h s = 0) : ∀ k, itr fo v s k (c, h) = (c, h)
  | 0 => rfl
  | k + 1 => by
    obtain ⟨e1, e2⟩ := lay_id fo v s c h hl
    rw [itr]
    dsimp only
    rw [e1, e2]
    exact itr_id fo v s c h hl k
theorem itr_tot (fo : Nat → Int32) (v : Int32) (s : Nat) : ∀ k (c h : Nat → Nat), tot (itr fo v s k (c, h)).1 (itr fo v s k (c, h)).2 s = tot c h s
  | 0, c, h => rfl
  | k + 1, c, h => by
    rw [itr]
    dsimp only
    rw [itr_tot fo v s k, lay_tot]
theorem cp_le (h : Nat → Nat) (s : Nat) : cpN h s ≤ s := cnB_le _ s
theorem cp_zero {h : Nat → Nat} {s : Nat} (hz : cpN h s = 0) : lsN h s = 0 := by
  by_cases q : 0 < lsN h s
  · have := cp_dec h s q; omega
  · omega
theorem M_settle24 {s : Nat} {fo : Nat → Int32} (s4 : s ≤ 4) (J : MJ) (v : Int32) : ∀ (k : Nat) (I : MI) (c h : Nat → Nat), cpN h s ≤ k → MM s fo c h I → I 0 3 = Int32.ofNat s → tot c h s ≤ 400000 → ∃ r, Ev (fun n => ff_M_settle_24 n I J v 1) r ∧ r.1 = 1 ∧ r.2.2 = J ∧ MM s fo (itr fo v s k (c, h)).1 (itr fo v s k (c, h)).2 r.2.1 ∧ r.2.1 0 4 = 5 ∧ (∀ y, y ≠ 4 → r.2.1 0 y = I 0 y) ∧ (∀ x, x ≠ 0 → x ≠ 21 → x ≠ 1 → r.2.1 x = I x) := by
  intro k
  induction k with
  | zero =>
    intro I c h hc hM hs ht
    have lz := cp_zero (Nat.le_zero.mp hc)
    obtain ⟨q, q1, q2⟩ := M_payL I J hM hs s4 ht v
    rcases q2 with ⟨_, rfl⟩ | q2
    · refine ⟨(1, ui I 0 4 5, J), ?_, rfl, rfl, fun i hi => ?_, by dsimp only; rw [ui_at, if_pos ⟨rfl, rfl⟩], fun y hy => by dsimp only; rw [ui_at, if_neg (by omega)], fun x x0 _ _ => by dsimp only; rw [ui_else _ _ _ x0]⟩
      · refine Ev.step (g := fun n => (ff_M_payLayer n I J v).bind fun r2 => ff_M_settle_24 n r2.2.1 r2.2.2 v r2.1) (fun n => by rw [ff_M_settle_24, if_neg (by decide)]) ?_
        refine Ev.bind q1 ?_
        exact Ev.suc (Ev.now fun n => by rw [ff_M_settle_24, if_pos rfl])
      · dsimp only
        rw [ui_else _ _ _ (by decide), ui_else _ _ _ (by decide), ui_else _ _ _ (by decide)]
        exact hM i hi
    · omega
  | succ k ih =>
    intro I c h hc hM hs ht
    obtain ⟨q, q1, q2⟩ := M_payL I J hM hs s4 ht v
    rcases q2 with ⟨lz, rfl⟩ | ⟨lp, q2, q3, q4, q5⟩
    · rw [itr_id fo v s c h lz]
      refine ⟨(1, ui I 0 4 5, J), ?_, rfl, rfl, fun i hi => ?_, by dsimp only; rw [ui_at, if_pos ⟨rfl, rfl⟩], fun y hy => by dsimp only; rw [ui_at, if_neg (by omega)], fun x x0 _ _ => by dsimp only; rw [ui_else _ _ _ x0]⟩
      · refine Ev.step (g := fun n => (ff_M_payLayer n I J v).bind fun r2 => ff_M_settle_24 n r2.2.1 r2.2.2 v r2.1) (fun n => by rw [ff_M_settle_24, if_neg (by decide)]) ?_
        refine Ev.bind q1 ?_
        exact Ev.suc (Ev.now fun n => by rw [ff_M_settle_24, if_pos rfl])
      · dsimp only
        rw [ui_else _ _ _ (by decide), ui_else _ _ _ (by decide), ui_else _ _ _ (by decide)]
        exact hM i hi
    · have cd := cp_dec h s lp
      obtain ⟨r, r1, r2, r3, r4, r5, r6, r7⟩ := ih q.2.1 (layC fo h v s c) (layH h s) (by omega) q4 (by rw [q5 0 (by decide) (by decide)]; exact hs) (by rw [lay_tot]; exact ht)
      refine ⟨r, ?_, r2, r3, r4, r5, fun y hy => by rw [r6 y hy, q5 0 (by decide) (by decide)], fun x x0 x21 x1 => by rw [r7 x x0 x21 x1, q5 x x21 x1]⟩
      refine Ev.step (g := fun n => (ff_M_payLayer n I J v).bind fun r2 => ff_M_settle_24 n r2.2.1 r2.2.2 v r2.1) (fun n => by rw [ff_M_settle_24, if_neg (by decide)]) ?_
      refine Ev.bind q1 ?_
      rw [q2, q3]
      exact r1
theorem call_settle {I : MI} {J : MJ} {I' : MI} {J' : MJ} (g : R I J I' J') (v : Int32) : ∃ r r', Ev (fun n => ff_O_settle n I J v) r ∧ Ev (fun n => ff_M_settle n I' J' v) r' ∧ r.1 = r'.1 ∧ R r.2.1 r.2.2 r'.2.1 r'.2.2 := by
  obtain ⟨s, ph, t, P, b, ac, c, h, r, m, w, g⟩ := g
  have g := RG_th g 0
  unfold ff_M_settle ff_O_settle
  generalize ui I' 0 0 0 = I0 at g ⊢
  have gg := g
  obtain ⟨g1, g2, g3, g4, g5, g6, g7⟩ := g
  obtain ⟨hs, hs', s4, hph, hph', ph6, hP, hP', hTP, ht, t01, t2, t3, t4, hpp, hact, hb⟩ := g1
  have R0 : R I J I0 J' := ⟨s, ph, t, P, b, ac, c, h, r, m, w, gg⟩
  have c4 : (Int32.ofNat ph = 4) ↔ ph = 4 := nb_inj (y := 4) (by omega) (by omega)
  rw [hph, hph']
  by_cases d : ph = 4
  · simp only [if_pos (c4.mpr d)]
    rcases hb with ⟨b0, e30, e7⟩ | ⟨b1, e30, _, a4, e7⟩
    · subst d b0
      simp only [if_pos e7, if_pos e30]
      have tt : tot c h s ≤ 400000 := by
        have := g2.2
        unfold tot
        omega
      obtain ⟨q, q1, q2, q3, q4, q5, q6, q7, q8⟩ := O_settle20 (fo := fun k => I (15 + 6 * k) 3) s4 J v s 0 I c h (by omega) (fun k hk => ⟨(g2.1 k hk).1, (g2.1 k hk).2.2.1, rfl⟩) hs tt
      obtain ⟨z, z1, z2, z3, z4, z5, z6, z7⟩ := M_settle24 (fo := fun k => I (15 + 6 * k) 3) s4 J' v s I0 c h (cp_le h s) (fun k hk => ⟨(g2.1 k hk).2.1, (g2.1 k hk).2.2.2.1, RB_fo g2 hk⟩) hs' tt
      have it := itr_tot (fun k => I (15 + 6 * k) 3) v s s c h
      refine ⟨q, z, q1, z1, q2.trans z2.symm, s, 5, t, P, 0, ac, (itr (fun k => I (15 + 6 * k) 3) v s s (c, h)).1, (itr (fun k => I (15 + 6 * k) 3) v s s (c, h)).2, fun _ => 0, m, w, ?_⟩
      rw [q3, z3]
      refine RG_money gg (Or.inr rfl) (fun y y1 _ => q6 y y1) q5 (fun k hk y hy => q7 _ y (by omega) (by omega)) (fun x x0 hx => q8 x x0 hx) (fun y _ y4 _ _ => z6 y y4) z5 (fun x x0 x1 _ x21 _ _ => z7 x x0 x21 x1) (by rw [q6 7 (by decide), z6 31 (by decide)]; exact hact) (Or.inl ⟨rfl, by rw [z6 30 (by decide)]; exact e30, by rw [q6 7 (by decide)]; exact e7⟩) ⟨fun k hk => ?_, ?_⟩
      · obtain ⟨y1, y2, y3, y4, y5, y6, y7, y8, y9, y10⟩ := g2.1 k hk
        obtain ⟨u1, u2, u3⟩ := q4 k hk
        obtain ⟨u4, u5, u6⟩ := z4 k hk
        refine ⟨u1, u4, u2, u5, ?_, fun hh => absurd hh (by decide), fun _ => rfl, Nat.zero_le _, fun _ => ?_, fun hh => absurd hh (by decide)⟩
        · rw [q7 _ 2 (by omega) (by decide), y5, y7 rfl]
        · rw [q7 _ 3 (by omega) (by decide), z7 20 (by decide) (by decide) (by decide)]; exact y9 (by decide)
      · have e : sumN (fun k => c k + h k) s ≤ 100000 * s := g2.2
        have e2 : sumN (fun k => (itr (fun k => I (15 + 6 * k) 3) v s s (c, h)).1 k + (itr (fun k => I (15 + 6 * k) 3) v s s (c, h)).2 k) s = sumN (fun k => c k + h k) s := it
        rw [e2]; exact e
    · have na : ¬ I 0 7 = -1 := by
        rw [e7]
        exact fun hh => absurd (show (Int32.ofNat ac) < 0 by rw [hh]; decide) (sm_pos (by omega))
      simp only [if_neg na, e30, if_neg (show ¬ (1 : Int32) = 0 by decide)]
      exact ⟨_, _, Ev.pure _, Ev.pure _, rfl, R0⟩
  · simp only [if_neg (show ¬ Int32.ofNat ph = 4 by rw [c4]; exact d)]
    exact ⟨_, _, Ev.pure _, Ev.pure _, rfl, R0⟩
