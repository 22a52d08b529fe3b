/-! the AUDIT -/
def AUD (s P : Nat) (m : Nat → Int64) (w : Nat → Nat → Nat) (I : MI) (J : MJ) (I' : MI) (J' : MJ) : Prop :=
  2 ≤ s ∧ s ≤ 4 ∧ TP P ∧ I 0 2 = Int32.ofNat s ∧ I 0 0 = Int32.ofNat P ∧ I' 0 3 = Int32.ofNat s ∧ I' 0 1 = Int32.ofNat P ∧ I' 0 2 = Int32.ofNat ((P - 1) / 2) ∧ (∀ k, k < s → RQ P k I J I' J' ∧ SHW P k I J I' J') ∧ RF0 s (2 * s) P m I J I' J' ∧ (∀ k, k < s → ∀ j, j < 52 → (w k j = 0 ∧ I (15 + 6 * k + 4) j = 0 ∧ I' 19 (52 * k + j) = 0) ∨ (w k j = 1 ∧ I (15 + 6 * k + 4) j = I (15 + 6 * k + 3) j ∧ I' 19 (52 * k + j) = LK P (J' 6 k) j) ∨ (w k j = 2 ∧ I (15 + 6 * k + 4) j = AB P (I (15 + 6 * k + 3) j) ∧ I' 19 (52 * k + j) = AB P (LK P (J' 6 k) j)))
theorem AUD_one {s P : Nat} {m : Nat → Int64} {w : Nat → Nat → Nat} {I I' : MI} {J J' : MJ} (h : AUD s P m w I J I' J') {k : Nat} (hk : k < s) (hb : ¬ bad1 I' J' k) : I' 8 k = I' 4 k ∧ J' 9 k = J' 5 k := by
  obtain ⟨s2, s4, tp, _, _, _, _, _, hq, _, _⟩ := h
  obtain ⟨⟨q1, q2, q3, q4, q5, q6, q7⟩, ⟨h1, h2, h3, h4, h5⟩⟩ := hq k hk
  have hb : J' 3 k = MK (I' 8 k) (J' 9 k) (J' 6 k) := Classical.byContradiction fun x => hb x
  rw [q5] at hb
  exact seal_one tp q6 h4 h5 hb
theorem O_same (I : MI) (J : MJ) (a b : Nat) : ∃ v, Ev (fun n => ff_O_isSameDeck n I J a b) v ∧ ((v = 1 ∧ ∀ j, j < 52 → I a j = I b j) ∨ (v = 0 ∧ ¬ ∀ j, j < 52 → I a j = I b j)) := by
  refine Ev.loop0 (α := Unit) (fun n _ j => ff_O_isSameDeck_2 I J n a b (Int32.ofNat j)) 52 (fun j _ => ∀ i, i < j → I a i = I b i) _ () (fun i hi => absurd hi (by omega)) ?_ ?_
  · intro _ h
    exact ⟨1, Ev.suc (Ev.now fun n => by rw [ff_O_isSameDeck_2, if_pos q52e]), Or.inl ⟨rfl, h⟩⟩
  · intro j _ hj h
    have hb := sm_in (j := j) (N := 52) hj (by omega)
    by_cases e : I a j = I b j
    · refine Or.inr ⟨(), fun i hi => ?_, 0, fun n _ => ?_⟩
      · by_cases q : i = j
        · subst q; exact e
        · exact h i (by omega)
      · rw [ff_O_isSameDeck_2, if_neg (q52 hj), if_pos hb, if_pos hb, sm_nat (by omega), if_pos e, sm_suc]
    · exact Or.inl ⟨0, Ev.suc (Ev.now fun n => by rw [ff_O_isSameDeck_2, if_neg (q52 hj), if_pos hb, if_pos hb, sm_nat (by omega), if_neg e]), Or.inr ⟨rfl, fun g => e (g j hj)⟩⟩
def scrO (I I1 : MI) (J J1 : MJ) : Prop := (∀ x, x ≠ 4 → x ≠ 5 → I1 x = I x) ∧ ∀ x, x ≠ 39 → J1 x = J x
theorem spo_all {P : Nat} (hP : TP P) {m : Int64} {f g : Nat → Int32} (h : ∀ j, j < 52 → g j = spo P m j (f j)) : (∀ j, j < 52 → f j = g j) ↔ ¬ ∃ j, j < 52 ∧ bt m j = true := by
  constructor
  · rintro a ⟨j, hj, b⟩
    have := a j hj
    rw [h j hj] at this
    rw [(spo_ne hP (f j)).mp this.symm] at b
    exact absurd b (by decide)
  · intro a j hj
    rw [h j hj]
    exact ((spo_ne hP (f j)).mpr (by cases e : bt m j with
      | false => rfl
      | true => exact absurd ⟨j, hj, e⟩ a)).symm
theorem gv_wrong {s P : Nat} {m : Nat → Int64} {w : Nat → Nat → Nat} {I I' : MI} {J J' : MJ} (h : AUD s P m w I J I' J') {k j : Nat} (hk : k < s) (hj : j < 52) : ((¬ I (15 + 6 * k + 4) j = 0 ∧ ¬ I (15 + 6 * k + 4) j = I (15 + 6 * k + 3) j) ↔ w k j = 2) ∧ ((¬ I' 19 (52 * k + j) = 0 ∧ ¬ I' 19 (52 * k + j) = LK P (J' 6 k) j) ↔ w k j = 2) := by
  obtain ⟨s2, s4, tp, _, _, _, _, _, hq, _, hw⟩ := h
  have n1 := XP_nz tp ((hq k hk).1.2.2.2.2.2.2 j hj)
  have n2 := XP_nz tp (LK_XP tp (J' 6 k) j)
  rcases hw k hk j hj with ⟨x1, x2, x3⟩ | ⟨x1, x2, x3⟩ | ⟨x1, x2, x3⟩
  · rw [x1, x2, x3]; exact ⟨⟨fun a => absurd rfl a.1, fun a => absurd a (by decide)⟩, ⟨fun a => absurd rfl a.1, fun a => absurd a (by decide)⟩⟩
  · rw [x1, x2, x3]; exact ⟨⟨fun a => absurd rfl a.2, fun a => absurd a (by decide)⟩, ⟨fun a => absurd rfl a.2, fun a => absurd a (by decide)⟩⟩
  · rw [x1, x2, x3]; exact ⟨⟨fun _ => rfl, fun _ => ⟨n1.2.1, n1.2.2⟩⟩, ⟨fun _ => rfl, fun _ => ⟨n2.2.1, n2.2.2⟩⟩⟩
theorem a16 (k i : Nat) : (16 : Int32) * Int32.ofNat k + Int32.ofNat i = Int32.ofNat (16 * k + i) := by
  rw [Int32.ofNat_add, Int32.ofNat_mul]; rfl
/-- the object's: the last part -/
theorem O_aud137 {s P : Nat} {m : Nat → Int64} {w : Nat → Nat → Nat} {I I' I1 : MI} {J J' : MJ} (J1 : MJ) (h : AUD s P m w I J I' J') (hI : ∀ x, x ≠ 4 → x ≠ 5 → I1 x = I x) (kk : MI → MJ → Nat → Int32 → Option (Int32 × MI × MJ)) (cn : Nat) {j : Nat} (hj : j < 52) : ∀ (d i n : Nat), i + d = s → d < n → (∀ k, k < i → w k j ≠ 2) → ((∃ k, k < s ∧ w k j = 2 ∧ (∀ k', k' < k → w k' j ≠ 2) ∧ ff_O_reckonAudit_137 kk n I1 J1 cn (Int32.ofNat j) (Int32.ofNat i) = some (Int32.ofNat (16 * k + 4), I1, J1)) ∨ ((∀ k, k < s → w k j ≠ 2) ∧ ff_O_reckonAudit_137 kk n I1 J1 cn (Int32.ofNat j) (Int32.ofNat i) = kk I1 J1 cn (Int32.ofNat (j + 1)))) := by
  have hs : I1 0 2 = Int32.ofNat s := by rw [hI 0 (by decide) (by decide)]; exact h.2.2.2.1
  have s4 := h.2.1
  intro d
  induction d with
  | zero =>
    intro i n hi hn a
    obtain ⟨n, rfl⟩ : ∃ q, n = q + 1 := ⟨n - 1, by omega⟩
    obtain rfl : i = s := by omega
    refine Or.inr ⟨a, ?_⟩
    rw [ff_O_reckonAudit_137, hs, if_pos ((q_cl s4 (by omega)).mpr (Nat.le_refl _)), sm_suc]
  | succ d ih =>
    intro i n hi hn a
    obtain ⟨n, rfl⟩ : ∃ q, n = q + 1 := ⟨n - 1, by omega⟩
    have gw := (gv_wrong h (show i < s by omega) hj).1
    have step : ff_O_reckonAudit_137 kk (n + 1) I1 J1 cn (Int32.ofNat j) (Int32.ofNat i) = if w i j = 2 then some (Int32.ofNat (16 * i + 4), I1, J1) else ff_O_reckonAudit_137 kk n I1 J1 cn (Int32.ofNat j) (Int32.ofNat (i + 1)) := by
      have a4 : (16 : Int32) * Int32.ofNat i + 4 = Int32.ofNat (16 * i + 4) := a16 i 4
      simp only [ff_O_reckonAudit_137, hs, if_neg (show ¬ Int32.ofNat s ≤ Int32.ofNat i by rw [q_cl s4 (by omega)]; omega), sm_nat (j := i) (by omega), if_pos (sm_i2 (j := i) (N := 4) (by omega) (by omega)), ff_P_gaveWrong, ff_P_hasGiven, sm_nat (j := j) (by omega), if_pos (sm_i2 (j := j) (N := 52) hj (by omega)), hI (15 + 6 * i + 4) (by omega) (by omega), hI (15 + 6 * i + 3) (by omega) (by omega), sm_suc, a4]
      by_cases e1 : I (15 + 6 * i + 4) j = 0
      · rw [if_pos e1, if_neg (fun q => (gw.mpr q).1 e1)]
        simp
      · rw [if_neg e1]
        simp only [Option.bind_some, if_neg (show ¬ (1 : Int32) = 0 by decide)]
        by_cases e2 : I (15 + 6 * i + 4) j = I (15 + 6 * i + 3) j
        · rw [if_pos e2, if_neg (fun q => (gw.mpr q).2 e2)]
          simp
        · rw [if_neg e2, if_pos (gw.mp ⟨e1, e2⟩)]
          simp
    rw [step]
    by_cases e : w i j = 2
    · exact Or.inl ⟨i, by omega, e, a, by rw [if_pos e]⟩
    · rw [if_neg e]
      exact ih (i + 1) n (by omega) (by omega) (fun k hk => by
        by_cases q : k = i
        · subst q; exact e
        · exact a k (by omega))
theorem O_audit {s P : Nat} {m : Nat → Int64} {w : Nat → Nat → Nat} {I I' : MI} {J J' : MJ} (h : AUD s P m w I J I' J') : ∃ r, Ev (fun n => ff_O_reckonAudit n I J) r ∧ IsAV s m w I' J' r.1 ∧ scrO I r.2.1 J r.2.2 := by
  have h' := h
  obtain ⟨s2, s4, tp, hs, hP, hs', hP', hh', hq, hF, hw⟩ := h'
  -- the last part
  have p3 : ∀ (I1 : MI) (J1 : MJ) (cn : Nat), (∀ k, k < s → ¬ bad1 I' J' k) → (∀ u, u < 2 * s → ¬ bad2 m u) → scrO I I1 J J1 → ∃ r, Ev (fun n => ff_O_reckonAudit_129 n I1 J1 cn 0) r ∧ IsAV s m w I' J' r.1 ∧ scrO I r.2.1 J r.2.2 := by
    intro I1 J1 cn b1 b2 sc
    refine Ev.loop0 (α := Unit) (fun n _ j => ff_O_reckonAudit_129 n I1 J1 cn (Int32.ofNat j)) 52 (fun j _ => ∀ j' k, j' < j → k < s → w k j' ≠ 2) _ () (fun j' k hj => absurd hj (by omega)) ?_ ?_
    · intro _ a
      exact ⟨(0, I1, J1), Ev.suc (Ev.now fun n => by rw [ff_O_reckonAudit_129, if_pos q52e]), Or.inr (Or.inr (Or.inr ⟨b1, b2, fun j k hj hk => a j k hj hk, rfl⟩)), sc⟩
    · intro j _ hj a
      by_cases e : ∃ k, k < s ∧ w k j = 2
      · obtain ⟨k0, hk0, ek0⟩ := e
        obtain ⟨k, ⟨hk, ek⟩, kl⟩ := least (p := fun k => k < s ∧ w k j = 2) k0 ⟨hk0, ek0⟩
        refine Or.inl ⟨(Int32.ofNat (16 * k + 4), I1, J1), ⟨s + 2, fun n hn => ?_⟩, Or.inr (Or.inr (Or.inl ⟨b1, b2, j, k, hj, hk, ek, a, fun k' hk' q => kl k' hk' ⟨by omega, q⟩, rfl⟩)), sc⟩
        obtain ⟨n, rfl⟩ : ∃ q, n = q + 1 := ⟨n - 1, by omega⟩
        dsimp only
        rw [ff_O_reckonAudit_129, if_neg (q52 hj)]
        rcases O_aud137 J1 h sc.1 (ff_O_reckonAudit_129 n) cn hj s 0 n (by omega) (by omega) (fun k hk => absurd hk (by omega)) with ⟨k2, x1, x2, x3, x4⟩ | ⟨x1, x2⟩
        · have : k2 = k := lst_one (p := fun k => k < s ∧ w k j = 2) ⟨x1, x2⟩ (fun i hi q => x3 i hi q.2) ⟨hk, ek⟩ kl
          rw [this] at x4
          exact x4
        · exact absurd ek (x1 k hk)
      · refine Or.inr ⟨(), fun j' k hj' hk q => ?_, s + 2, fun n hn => ?_⟩
        · by_cases f : j' = j
          · subst f; exact e ⟨k, hk, q⟩
          · exact a j' k (by omega) hk q
        · rw [ff_O_reckonAudit_129, if_neg (q52 hj)]
          rcases O_aud137 J1 h sc.1 (ff_O_reckonAudit_129 n) cn hj s 0 n (by omega) (by omega) (fun k hk => absurd hk (by omega)) with ⟨k2, x1, x2, x3, x4⟩ | ⟨x1, x2⟩
          · exact absurd ⟨k2, x1, x2⟩ e
          · exact x2
  -- the turns
  have p2 : (∀ k, k < s → ¬ bad1 I' J' k) → ∃ r, Ev (fun n => ff_O_reckonAudit_50 n I J 0 0) r ∧ IsAV s m w I' J' r.1 ∧ scrO I r.2.1 J r.2.2 := by
    intro b1
    refine Ev.loop0 (α := MI × MJ) (fun n x j => ff_O_reckonAudit_50 n x.1 x.2 j (Int32.ofNat j)) (2 * s) (fun u x => scrO I x.1 J x.2 ∧ ∀ i, i < u → ¬ bad2 m i) _ (I, J) ⟨⟨fun _ _ _ => rfl, fun _ _ => rfl⟩, fun i hi => absurd hi (by omega)⟩ ?_ ?_
    · rintro ⟨I1, J1⟩ ⟨sc, a⟩
      have sc : scrO I I1 J J1 := sc
      obtain ⟨r, r1, r2⟩ := p3 I1 J1 (2 * s) b1 a sc
      refine ⟨r, Ev.step (fun n => ?_) r1, r2⟩
      dsimp only
      have e2 : (2 : Int32) * Int32.ofNat s = Int32.ofNat (2 * s) := by rw [Int32.ofNat_mul]; rfl
      rw [ff_O_reckonAudit_50, sc.1 0 (by decide) (by decide), hs, e2, if_pos ((nb_le (by omega) (by omega)).mpr (Nat.le_refl _))]
    · rintro u ⟨I1, J1⟩ hu ⟨sc, a⟩
      have sc : scrO I I1 J J1 := sc
      have i0 : I1 0 = I 0 := sc.1 0 (by decide) (by decide)
      have e2 : (2 : Int32) * Int32.ofNat s = Int32.ofNat (2 * s) := by rw [Int32.ofNat_mul]; rfl
      generalize hk : (if u < s then u else u - s) = k
      have ks : k < s := by rw [← hk]; split <;> omega
      have pt : ∀ n, ff_O_playerOfTurn n I1 J1 (Int32.ofNat u) = some (Int32.ofNat k) := fun n => by
        unfold ff_O_playerOfTurn
        rw [i0, hs, ← hk]
        by_cases f : u < s
        · rw [if_neg (by rw [nb_le (by omega) (by omega)]; omega), if_pos f]
        · rw [if_pos ((nb_le (by omega) (by omega)).mpr (by omega)), if_neg f, q_sub (by omega)]
      obtain ⟨s1, s2'⟩ := AUD_one h ks (b1 k ks)
      obtain ⟨⟨q1, q2, q3, q4, q5, q6, q7⟩, ⟨h1, h2, h3, h4, h5⟩⟩ := hq k ks
      have x1 : I1 (15 + 6 * k + 2) 0 = I (15 + 6 * k + 1) 0 := by rw [sc.1 _ (by omega) (by omega), h1, s1, q2]
      have x2 : J1 (15 + 6 * k + 2) 1 = J (15 + 6 * k + 1) 1 := by rw [sc.2 _ (by omega), h2, s2', q3]
      have r6 : I1 (6 + u) = I (6 + u) := sc.1 _ (by omega) (by omega)
      have r7 : I1 (6 + (u + 1)) = I (6 + (u + 1)) := sc.1 _ (by omega) (by omega)
      -- the row made again
      have hrow : ∃ q, Ev (fun n => ff_O_reckonTurn n I1 J1 (Int32.ofNat u) (15 + 6 * k + 2) 5) q ∧ (∃ f : Nat → Int32, (∀ j, j < 52 → q.1 5 j = f j) ∧ ∀ j, j < 52 → I (6 + (u + 1)) j = spo P (m u) j (f j)) ∧ (∀ x, x ≠ 5 → x ≠ 4 → q.1 x = I1 x) ∧ ∀ x, x ≠ 39 → q.2 x = J1 x := by
        by_cases f : u < s
        · have ku : k = u := by rw [← hk, if_pos f]
          obtain ⟨q, z1, z2, z3, z4⟩ := O_reckon1 (P := P) (s := s) (t := u) (I := I1) (a2 := 15 + 6 * k + 2) (a3 := 5) J1 (by rw [i0]; exact hP) (by rw [i0]; exact hs) s4 f (by omega) (by omega) (by omega) (by omega) (by omega)
          refine ⟨q, z1, ⟨_, z2, fun j hj => ?_⟩, z3, z4⟩
          rw [r6, x1, x2]
          have := (hF u hu j hj).1 f
          rw [ku]
          exact this.1
        · have ku : k = u - s := by rw [← hk, if_neg f]
          obtain ⟨q, z1, z2, z3, z4⟩ := O_reckon2 (P := P) (s := s) (t := u) (I := I1) (a2 := 15 + 6 * k + 2) (a3 := 5) J1 (by rw [i0]; exact hP) (by rw [i0]; exact hs) s4 (by omega) hu (by omega) (by omega) (by omega)
          refine ⟨q, z1, ⟨_, z2, fun j hj => ?_⟩, z3, z4⟩
          rw [r6, x1, sc.1 _ (by omega) (by omega)]
          have := (hF u hu j hj).2 (by omega)
          rw [ku]
          exact this.1
      obtain ⟨q, z1, ⟨f, z2, z5⟩, z3, z4⟩ := hrow
      have scq : scrO I q.1 J q.2 := ⟨fun x x4 x5 => by rw [z3 x x5 x4, sc.1 x x4 x5], fun x hx => by rw [z4 x hx, sc.2 x hx]⟩
      obtain ⟨v, v1, v2⟩ := O_same q.1 q.2 5 (6 + (u + 1))
      have eqv : (∀ j, j < 52 → q.1 5 j = q.1 (6 + (u + 1)) j) ↔ ¬ bad2 m u := by
        unfold bad2
        refine Iff.trans ?_ (spo_all tp z5)
        constructor
        · intro g j hj
          rw [← z2 j hj, g j hj, scq.1 _ (by omega) (by omega)]
        · intro g j hj
          rw [z2 j hj, g j hj, scq.1 _ (by omega) (by omega)]
      have q0 : q.1 0 = I 0 := scq.1 0 (by decide) (by decide)
      have i9 := sm_i2 (j := u + 1) (N := 9) (by omega) (by omega)
      have i4 := sm_i2 (j := k) (N := 4) (by omega) (by omega)
      have hd : ∀ n, ff_O_reckonAudit_50 (n + 1) I1 J1 u (Int32.ofNat u) = (ff_O_reckonTurn n I1 J1 (Int32.ofNat u) (15 + 6 * k + 2) 5).bind fun r9 => (ff_O_isSameDeck n r9.1 r9.2 5 (6 + (u + 1))).bind fun r12 => if r12 = 0 then (if (r9.1 0 2) ≤ Int32.ofNat u then some ((16 : Int32) * Int32.ofNat k + 3, r9.1, r9.2) else some ((16 : Int32) * Int32.ofNat k + 2, r9.1, r9.2)) else ff_O_reckonAudit_50 n r9.1 r9.2 (u + 1) (Int32.ofNat (u + 1)) := fun n => by
        simp only [ff_O_reckonAudit_50, i0, hs, e2, if_neg (show ¬ Int32.ofNat (2 * s) ≤ Int32.ofNat u by rw [nb_le (by omega) (by omega)]; omega), pt, Option.bind_some, sm_nat (j := k) (by omega), if_pos i4, if_pos (show u + 1 ≤ 8 by omega), sm_suc, sm_nat (j := u + 1) (by omega), if_pos i9]
      rcases v2 with ⟨rfl, v2⟩ | ⟨rfl, v2⟩
      · obtain ⟨N1, z1⟩ := z1
        obtain ⟨N2, v1⟩ := v1
        refine Or.inr ⟨q, ⟨scq, fun i hi => ?_⟩, max N1 N2, fun n hn => ?_⟩
        · by_cases g : i = u
          · subst g; exact eqv.mp v2
          · exact a i (by omega)
        · have z1 : ff_O_reckonTurn n I1 J1 (Int32.ofNat u) (15 + 6 * k + 2) 5 = some q := z1 n (by omega)
          have v1 : ff_O_isSameDeck n q.1 q.2 5 (6 + (u + 1)) = some 1 := v1 n (by omega)
          dsimp only
          rw [hd n, z1, Option.bind_some, v1, Option.bind_some, if_neg (by decide)]
      · have b2 : bad2 m u := Classical.byContradiction fun g => v2 (eqv.mpr g)
        refine Or.inl ⟨(Int32.ofNat (if u < s then 16 * u + 2 else 16 * (u - s) + 3), q.1, q.2), ?_, Or.inr (Or.inl ⟨b1, u, hu, b2, a, rfl⟩), scq⟩
        refine Ev.step (fun n => hd n) ?_
        refine Ev.bind z1 ?_
        refine Ev.bind v1 ?_
        simp only [if_true, q0, hs]
        by_cases f : u < s
        · simp only [if_neg (show ¬ Int32.ofNat s ≤ Int32.ofNat u by rw [nb_le (by omega) (by omega)]; omega), if_pos f]
          have ku : k = u := by rw [← hk, if_pos f]
          rw [show (16 : Int32) * Int32.ofNat k + 2 = Int32.ofNat (16 * u + 2) by rw [ku]; exact a16 u 2]
          exact Ev.pure _
        · simp only [if_pos ((nb_le (by omega) (by omega)).mpr (show s ≤ u by omega)), if_neg f]
          have ku : k = u - s := by rw [← hk, if_neg f]
          rw [show (16 : Int32) * Int32.ofNat k + 3 = Int32.ofNat (16 * (u - s) + 3) by rw [ku]; exact a16 (u - s) 3]
          exact Ev.pure _
  refine Ev.loop0 (α := Unit) (fun n _ j => ff_O_reckonAudit_2 n I J 0 (Int32.ofNat j)) s (fun j _ => ∀ k, k < j → ¬ bad1 I' J' k) _ () (fun k hk => absurd hk (by omega)) ?_ ?_
  · intro _ b1
    obtain ⟨r, r1, r2⟩ := p2 b1
    refine ⟨r, Ev.step (fun n => ?_) r1, r2⟩
    rw [ff_O_reckonAudit_2, hs, if_pos ((q_cl s4 (by omega)).mpr (Nat.le_refl _))]
  · intro j _ hj a
    obtain ⟨⟨q1, q2, q3, q4, q5, q6, q7⟩, ⟨h1, h2, h3, h4, h5⟩⟩ := hq j hj
    have hd : ∀ n, ff_O_reckonAudit_2 (n + 1) I J 0 (Int32.ofNat j) = if lg_cmp (J' 3 j) (MK (I' 8 j) (J' 9 j) (J' 6 j)) = 0 then ff_O_reckonAudit_2 n I J 0 (Int32.ofNat (j + 1)) else some ((16 : Int32) * Int32.ofNat j + 1, I, J) := fun n => by
      simp only [ff_O_reckonAudit_2, hs, if_neg (show ¬ Int32.ofNat s ≤ Int32.ofNat j by rw [q_cl s4 (by omega)]; omega), sm_nat (j := j) (by omega), if_pos (sm_i2 (j := j) (N := 4) (by omega) (by omega)), S_mark, Option.bind_some, q1, h1, h2, h3, sm_suc]
    by_cases e : bad1 I' J' j
    · refine Or.inl ⟨(Int32.ofNat (16 * j + 1), I, J), Ev.suc (Ev.now fun n => ?_), Or.inl ⟨j, hj, e, a, rfl⟩, ⟨fun _ _ _ => rfl, fun _ _ => rfl⟩⟩
      rw [hd n, if_neg (by rw [cmp0]; exact e), show (16 : Int32) * Int32.ofNat j + 1 = Int32.ofNat (16 * j + 1) from a16 j 1]
    · refine Or.inr ⟨(), fun k hk => ?_, 0, fun n _ => ?_⟩
      · by_cases f : k = j
        · subst f; exact e
        · exact a k (by omega)
      · rw [hd n, if_pos (by rw [cmp0]; exact Classical.byContradiction fun g => e g)]
