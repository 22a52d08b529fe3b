/-! the AUDIT of the reference -/
theorem M_fitL {s P : Nat} {m : Nat → Int64} {w : Nat → Nat → Nat} {I I' I1 : MI} {J J' J1 : MJ} (h : AUD s P m w I J I' J') (sc : Scr I' I1 J' J1) {k : Nat} (hk : k < s) (nb : ¬ bad1 I' J' k) : ∃ r, Ev (fun n => ff_M_fitsLocked n I1 J1 (Int32.ofNat k)) r ∧ Scr I' r.2.1 J' r.2.2 ∧ ((r.1 = 1 ∧ ¬ bad2 m k) ∨ (r.1 = 0 ∧ bad2 m k)) := by
  obtain ⟨o8, o9⟩ := AUD_one h hk nb
  obtain ⟨s2, s4, tp, hs, hP, hs', hP', hh', hq, hF, hw⟩ := h
  obtain ⟨u, u1, u2, u3, u4⟩ := M_order I1 J1 (J1 9 k)
  have key : J1 9 k = J' 5 k := by rw [sc.2 9 (by decide), o9]
  have scu : Scr I' u.1 J' u.2 := ⟨fun x x16 x17 => by rw [u3 x x16, sc.1 x x16 x17], fun x x0 => by funext y; rw [u4 x y (fun q => x0 q.1), sc.2 x x0]⟩
  have c0 : u.1 0 = I' 0 := scu.1 0 (by decide) (by decide)
  have c15 : u.1 15 = I' 15 := scu.1 15 (by decide) (by decide)
  have c8 : u.1 8 k = I' 4 k := by rw [scu.1 8 (by decide) (by decide), o8]
  have val : ∀ j, j < 52 → I' 15 (52 * (k + 1) + j) = spo P (m k) j (lockM P (fun i => I' 15 (52 * k + i)) (J' 5 k) (I' 4 k) j) := fun j hj => ((hF k (by omega) j hj).1 hk).2
  have one : ∀ j, j < 52 → Ev (fun n => ff_M_lockedAt n u.1 u.2 (Int32.ofNat k) (Int32.ofNat j) (I' 4 k)) (lockM P (fun i => I' 15 (52 * k + i)) (J' 5 k) (I' 4 k) j) := fun j hj => by
    obtain ⟨x, hx, ex⟩ := PR_in (J' 5 k) hj
    have := M_lockedAt tp (I := u.1) u.2 (by rw [c0]; exact hP') (t := k) (j := j) (x := x) (by omega) hj hx (by omega) (by rw [u2 j hj, key, ex]) (I' 4 k)
    rw [c15] at this
    unfold lockM
    rw [ex, sm_nat (by omega)]
    exact this
  have eqv : (∀ j, j < 52 → lockM P (fun i => I' 15 (52 * k + i)) (J' 5 k) (I' 4 k) j = I' 15 (52 * (k + 1) + j)) ↔ ¬ bad2 m k := spo_all tp val
  have H : ∃ r, Ev (fun n => ff_M_fitsLocked_12 n u.1 u.2 (Int32.ofNat k) 0) r ∧ Scr I' r.2.1 J' r.2.2 ∧ ((r.1 = 1 ∧ ¬ bad2 m k) ∨ (r.1 = 0 ∧ bad2 m k)) := by
    refine Ev.loop0 (α := Unit) (fun n _ j => ff_M_fitsLocked_12 n u.1 u.2 (Int32.ofNat k) (Int32.ofNat j)) 52 (fun j _ => ∀ i, i < j → lockM P (fun i => I' 15 (52 * k + i)) (J' 5 k) (I' 4 k) i = I' 15 (52 * (k + 1) + i)) _ () (fun i hi => absurd hi (by omega)) ?_ ?_
    · intro _ a
      exact ⟨(1, u.1, u.2), Ev.suc (Ev.now fun n => by rw [ff_M_fitsLocked_12, if_pos q52e]), scu, Or.inl ⟨rfl, eqv.mp a⟩⟩
    · intro j _ hj a
      obtain ⟨N, hN⟩ := one j hj
      have hd : ∀ n, N ≤ n → ff_M_fitsLocked_12 (n + 1) u.1 u.2 (Int32.ofNat k) (Int32.ofNat j) = if I' 15 (52 * (k + 1) + j) = lockM P (fun i => I' 15 (52 * k + i)) (J' 5 k) (I' 4 k) j then ff_M_fitsLocked_12 n u.1 u.2 (Int32.ofNat k) (Int32.ofNat (j + 1)) else some (0, u.1, u.2) := fun n hn => by
        have hN : ff_M_lockedAt n u.1 u.2 (Int32.ofNat k) (Int32.ofNat j) (I' 4 k) = some _ := hN n hn
        simp only [ff_M_fitsLocked_12, if_neg (q52 hj), sm_suc, ix52, sm_nat (j := 52 * (k + 1) + j) (by omega), if_pos (sm_i2 (j := 52 * (k + 1) + j) (N := 468) (by omega) (by omega)), sm_nat (j := k) (by omega), if_pos (sm_i2 (j := k) (N := 4) (by omega) (by omega)), c8, hN, Option.bind_some, c15]
      by_cases e : lockM P (fun i => I' 15 (52 * k + i)) (J' 5 k) (I' 4 k) j = I' 15 (52 * (k + 1) + j)
      · refine Or.inr ⟨(), fun i hi => ?_, N, fun n hn => by rw [hd n hn, if_pos e.symm]⟩
        by_cases f : i = j
        · subst f; exact e
        · exact a i (by omega)
      · refine Or.inl ⟨(0, u.1, u.2), ⟨N + 1, fun n hn => ?_⟩, scu, Or.inr ⟨rfl, Classical.byContradiction fun g => e (eqv.mpr g j hj)⟩⟩
        obtain ⟨n, rfl⟩ : ∃ q, n = q + 1 := ⟨n - 1, by omega⟩
        dsimp only
        rw [hd n (by omega), if_neg (fun g => e g.symm)]
  obtain ⟨r, r1, r2⟩ := H
  refine ⟨r, ?_, r2⟩
  unfold ff_M_fitsLocked
  simp only [sm_nat (j := k) (by omega), if_pos (sm_i2 (j := k) (N := 4) (by omega) (by omega))]
  exact Ev.bind u1 r1
theorem M_fitR {s P : Nat} {m : Nat → Int64} {w : Nat → Nat → Nat} {I I' I1 : MI} {J J' J1 : MJ} (h : AUD s P m w I J I' J') (sc : Scr I' I1 J' J1) {k : Nat} (hk : k < s) (nb : ¬ bad1 I' J' k) : ∃ r, Ev (fun n => ff_M_fitsRelocked n I1 J1 (Int32.ofNat k)) r ∧ Scr I' r.2.1 J' r.2.2 ∧ ((r.1 = 1 ∧ ¬ bad2 m (s + k)) ∨ (r.1 = 0 ∧ bad2 m (s + k))) := by
  obtain ⟨o8, o9⟩ := AUD_one h hk nb
  obtain ⟨s2, s4, tp, hs, hP, hs', hP', hh', hq, hF, hw⟩ := h
  have i0 : I1 0 = I' 0 := sc.1 0 (by decide) (by decide)
  obtain ⟨u, u1, u2, u3, u4⟩ := M_locks tp I1 J1 (J1 6 k) (by rw [i0]; exact hP') (by rw [i0]; exact hh')
  have key : J1 6 k = J' 6 k := by rw [sc.2 6 (by decide)]
  have scu : Scr I' u.1 J' u.2 := ⟨fun x x16 x17 => by rw [u3 x x17, sc.1 x x16 x17], fun x x0 => by funext y; rw [u4 x y (fun q => x0 q.1), sc.2 x x0]⟩
  have c0 : u.1 0 = I' 0 := scu.1 0 (by decide) (by decide)
  have c15 : u.1 15 = I' 15 := scu.1 15 (by decide) (by decide)
  have c8 : u.1 8 k = I' 4 k := by rw [scu.1 8 (by decide) (by decide), o8]
  have val : ∀ j, j < 52 → I' 15 (52 * (s + k + 1) + j) = spo P (m (s + k)) j (relM P (fun i => I' 15 (52 * (s + k) + i)) (I' 4 k) (LK P (J' 6 k)) j) := fun j hj => by
    have := ((hF (s + k) (by omega) j hj).2 (by omega)).2
    rw [show s + k - s = k by omega] at this
    exact this
  have one : ∀ j, j < 52 → Ev (fun n => ff_M_relockedAt n u.1 u.2 (Int32.ofNat (s + k)) (Int32.ofNat j) (I' 4 k)) (relM P (fun i => I' 15 (52 * (s + k) + i)) (I' 4 k) (LK P (J' 6 k)) j) := fun j hj => by
    have := M_relockedAt tp (I := u.1) u.2 (by rw [c0]; exact hP') (by rw [c0]; exact hh') (t := s + k) (j := j) (by omega) hj (by omega) (I' 4 k)
    rw [c15, u2 j hj, key] at this
    exact this
  have eqv : (∀ j, j < 52 → relM P (fun i => I' 15 (52 * (s + k) + i)) (I' 4 k) (LK P (J' 6 k)) j = I' 15 (52 * (s + k + 1) + j)) ↔ ¬ bad2 m (s + k) := spo_all tp val
  have H : ∃ r, Ev (fun n => ff_M_fitsRelocked_12 n u.1 u.2 (Int32.ofNat k) 0) r ∧ Scr I' r.2.1 J' r.2.2 ∧ ((r.1 = 1 ∧ ¬ bad2 m (s + k)) ∨ (r.1 = 0 ∧ bad2 m (s + k))) := by
    refine Ev.loop0 (α := Unit) (fun n _ j => ff_M_fitsRelocked_12 n u.1 u.2 (Int32.ofNat k) (Int32.ofNat j)) 52 (fun j _ => ∀ i, i < j → relM P (fun i => I' 15 (52 * (s + k) + i)) (I' 4 k) (LK P (J' 6 k)) i = I' 15 (52 * (s + k + 1) + i)) _ () (fun i hi => absurd hi (by omega)) ?_ ?_
    · intro _ a
      exact ⟨(1, u.1, u.2), Ev.suc (Ev.now fun n => by rw [ff_M_fitsRelocked_12, if_pos q52e]), scu, Or.inl ⟨rfl, eqv.mp a⟩⟩
    · intro j _ hj a
      obtain ⟨N, hN⟩ := one j hj
      have hd : ∀ n, N ≤ n → ff_M_fitsRelocked_12 (n + 1) u.1 u.2 (Int32.ofNat k) (Int32.ofNat j) = if I' 15 (52 * (s + k + 1) + j) = relM P (fun i => I' 15 (52 * (s + k) + i)) (I' 4 k) (LK P (J' 6 k)) j then ff_M_fitsRelocked_12 n u.1 u.2 (Int32.ofNat k) (Int32.ofNat (j + 1)) else some (0, u.1, u.2) := fun n hn => by
        have hN : ff_M_relockedAt n u.1 u.2 (Int32.ofNat (s + k)) (Int32.ofNat j) (I' 4 k) = some _ := hN n hn
        simp only [ff_M_fitsRelocked_12, if_neg (q52 hj), c0, hs', ← Int32.ofNat_add, sm_suc, ix52, sm_nat (j := 52 * (s + k + 1) + j) (by omega), if_pos (sm_i2 (j := 52 * (s + k + 1) + j) (N := 468) (by omega) (by omega)), sm_nat (j := k) (by omega), if_pos (sm_i2 (j := k) (N := 4) (by omega) (by omega)), c8, hN, Option.bind_some, c15]
      by_cases e : relM P (fun i => I' 15 (52 * (s + k) + i)) (I' 4 k) (LK P (J' 6 k)) j = I' 15 (52 * (s + k + 1) + j)
      · refine Or.inr ⟨(), fun i hi => ?_, N, fun n hn => by rw [hd n hn, if_pos e.symm]⟩
        by_cases f : i = j
        · subst f; exact e
        · exact a i (by omega)
      · refine Or.inl ⟨(0, u.1, u.2), ⟨N + 1, fun n hn => ?_⟩, scu, Or.inr ⟨rfl, Classical.byContradiction fun g => e (eqv.mpr g j hj)⟩⟩
        obtain ⟨n, rfl⟩ : ∃ q, n = q + 1 := ⟨n - 1, by omega⟩
        dsimp only
        rw [hd n (by omega), if_neg (fun g => e g.symm)]
  obtain ⟨r, r1, r2⟩ := H
  refine ⟨r, ?_, r2⟩
  unfold ff_M_fitsRelocked
  simp only [sm_nat (j := k) (by omega), if_pos (sm_i2 (j := k) (N := 4) (by omega) (by omega))]
  exact Ev.bind u1 r1
/-- one place's row of givers -/
theorem M_aud146 {s P : Nat} {m : Nat → Int64} {w : Nat → Nat → Nat} {I I' : MI} {J J' : MJ} (h : AUD s P m w I J I' J') {j : Nat} (hj : j < 52) : ∀ (d i : Nat) (I1 : MI) (J1 : MJ), i + d = s → Scr I' I1 J' J1 → (∀ k, k < i → w k j ≠ 2) → ∃ (I2 : MI) (J2 : MJ) (N : Nat), Scr I' I2 J' J2 ∧ ((∃ k, k < s ∧ w k j = 2 ∧ (∀ k', k' < k → w k' j ≠ 2) ∧ ∀ n kk, N ≤ n → ff_M_audit_146 kk n I1 J1 (Int32.ofNat j) (Int32.ofNat i) = some (Int32.ofNat (16 * k + 4), I2, J2)) ∨ ((∀ k, k < s → w k j ≠ 2) ∧ ∀ n kk, N ≤ n → ff_M_audit_146 kk n I1 J1 (Int32.ofNat j) (Int32.ofNat i) = kk I2 J2 (Int32.ofNat (j + 1)))) := by
  have h' := h
  obtain ⟨s2, s4, tp, hs, hP, hs', hP', hh', hq, hF, hw⟩ := h'
  intro d
  induction d with
  | zero =>
    intro i I1 J1 hi sc a
    obtain rfl : i = s := by omega
    refine ⟨I1, J1, 1, sc, Or.inr ⟨a, fun n kk hn => ?_⟩⟩
    obtain ⟨n, rfl⟩ : ∃ q, n = q + 1 := ⟨n - 1, by omega⟩
    rw [ff_M_audit_146, sc.1 0 (by decide) (by decide), hs', if_pos ((q_cl s4 (by omega)).mpr (Nat.le_refl _)), sm_suc]
  | succ d ih =>
    intro i I1 J1 hi sc a
    have i0 : I1 0 = I' 0 := sc.1 0 (by decide) (by decide)
    have i19 : I1 19 = I' 19 := sc.1 19 (by decide) (by decide)
    have gw := (gv_wrong h (show i < s by omega) hj).2
    have hd : ∀ n kk, ff_M_audit_146 kk (n + 1) I1 J1 (Int32.ofNat j) (Int32.ofNat i) = if I' 19 (52 * i + j) = 0 then ff_M_audit_146 kk n I1 J1 (Int32.ofNat j) (Int32.ofNat (i + 1)) else ((ff_M_lockOf n I1 J1 (Int32.ofNat i) (Int32.ofNat j)).bind fun r5 => if I' 19 (52 * i + j) = r5.1 then (ff_M_audit_146 kk n r5.2.1 r5.2.2 (Int32.ofNat j) (Int32.ofNat (i + 1))) else (some ((16 : Int32) * Int32.ofNat i + 4, r5.2.1, r5.2.2))) := fun n kk => by
      simp only [ff_M_audit_146, i0, hs', if_neg (show ¬ Int32.ofNat s ≤ Int32.ofNat i by rw [q_cl s4 (by omega)]; omega), ix52, sm_nat (j := 52 * i + j) (by omega), if_pos (sm_i2 (j := 52 * i + j) (N := 208) (by omega) (by omega)), tl, i19, sm_suc]
    by_cases z : I' 19 (52 * i + j) = 0
    · have ni : w i j ≠ 2 := fun q => (gw.mpr q).1 z
      obtain ⟨I2, J2, N, sc2, r⟩ := ih (i + 1) I1 J1 (by omega) sc (fun k hk => by
        by_cases q : k = i
        · subst q; exact ni
        · exact a k (by omega))
      refine ⟨I2, J2, N + 1, sc2, ?_⟩
      rcases r with ⟨k, k1, k2, k3, k4⟩ | ⟨k1, k2⟩
      · refine Or.inl ⟨k, k1, k2, k3, fun n kk hn => ?_⟩
        obtain ⟨n, rfl⟩ : ∃ q, n = q + 1 := ⟨n - 1, by omega⟩
        rw [hd n kk, if_pos z]; exact k4 n kk (by omega)
      · refine Or.inr ⟨k1, fun n kk hn => ?_⟩
        obtain ⟨n, rfl⟩ : ∃ q, n = q + 1 := ⟨n - 1, by omega⟩
        rw [hd n kk, if_pos z]; exact k2 n kk (by omega)
    · obtain ⟨u, ⟨N1, u1⟩, u2, u3, u4⟩ := M_lockOf tp I1 J1 (k := i) (j := j) (by omega) hj (by rw [i0]; exact hP') (by rw [i0]; exact hh')
      have u2 : u.1 = LK P (J' 6 i) j := by rw [u2, sc.2 6 (by decide)]
      have scu : Scr I' u.2.1 J' u.2.2 := ⟨fun x x16 x17 => by rw [u3 x x17, sc.1 x x16 x17], fun x x0 => by rw [u4 x x0, sc.2 x x0]⟩
      by_cases y : I' 19 (52 * i + j) = u.1
      · have ni : w i j ≠ 2 := fun q => (gw.mpr q).2 (by rw [y, u2])
        obtain ⟨I2, J2, N, sc2, r⟩ := ih (i + 1) u.2.1 u.2.2 (by omega) scu (fun k hk => by
          by_cases q : k = i
          · subst q; exact ni
          · exact a k (by omega))
        refine ⟨I2, J2, max N N1 + 1, sc2, ?_⟩
        rcases r with ⟨k, k1, k2, k3, k4⟩ | ⟨k1, k2⟩
        · refine Or.inl ⟨k, k1, k2, k3, fun n kk hn => ?_⟩
          obtain ⟨n, rfl⟩ : ∃ q, n = q + 1 := ⟨n - 1, by omega⟩
          have u1 : ff_M_lockOf n I1 J1 (Int32.ofNat i) (Int32.ofNat j) = some u := u1 n (by omega)
          rw [hd n kk, if_neg z, u1, Option.bind_some, if_pos y]; exact k4 n kk (by omega)
        · refine Or.inr ⟨k1, fun n kk hn => ?_⟩
          obtain ⟨n, rfl⟩ : ∃ q, n = q + 1 := ⟨n - 1, by omega⟩
          have u1 : ff_M_lockOf n I1 J1 (Int32.ofNat i) (Int32.ofNat j) = some u := u1 n (by omega)
          rw [hd n kk, if_neg z, u1, Option.bind_some, if_pos y]; exact k2 n kk (by omega)
      · have wi : w i j = 2 := gw.mp ⟨z, by rw [← u2]; exact y⟩
        refine ⟨u.2.1, u.2.2, N1 + 1, scu, Or.inl ⟨i, by omega, wi, a, fun n kk hn => ?_⟩⟩
        obtain ⟨n, rfl⟩ : ∃ q, n = q + 1 := ⟨n - 1, by omega⟩
        have u1 : ff_M_lockOf n I1 J1 (Int32.ofNat i) (Int32.ofNat j) = some u := u1 n (by omega)
        rw [hd n kk, if_neg z, u1, Option.bind_some, if_neg y, show (16 : Int32) * Int32.ofNat i + 4 = Int32.ofNat (16 * i + 4) from a16 i 4]
theorem M_audit {s P : Nat} {m : Nat → Int64} {w : Nat → Nat → Nat} {I I' : MI} {J J' : MJ} (h : AUD s P m w I J I' J') : ∃ r, Ev (fun n => ff_M_audit_22 n I' J' 0) r ∧ IsAV s m w I' J' r.1 ∧ Scr I' r.2.1 J' r.2.2 := by
  have h' := h
  obtain ⟨s2, s4, tp, hs, hP, hs', hP', hh', hq, hF, hw⟩ := h'
  have s0 : ∀ {I1 : MI} {J1 : MJ}, Scr I' I1 J' J1 → I1 0 3 = Int32.ofNat s := fun sc => by rw [sc.1 0 (by decide) (by decide)]; exact hs'
  have p4 : ∀ (I1 : MI) (J1 : MJ), (∀ k, k < s → ¬ bad1 I' J' k) → (∀ u, u < 2 * s → ¬ bad2 m u) → Scr I' I1 J' J1 → ∃ r, Ev (fun n => ff_M_audit_138 n I1 J1 0) r ∧ IsAV s m w I' J' r.1 ∧ Scr I' r.2.1 J' r.2.2 := by
    intro I1 J1 b1 b2 sc
    refine Ev.loop0 (α := MI × MJ) (fun n x j => ff_M_audit_138 n x.1 x.2 (Int32.ofNat j)) 52 (fun j x => Scr I' x.1 J' x.2 ∧ ∀ j' k, j' < j → k < s → w k j' ≠ 2) _ (I1, J1) ⟨sc, fun j' k hj => absurd hj (by omega)⟩ ?_ ?_
    · rintro ⟨I2, J2⟩ ⟨sc2, a⟩
      have sc2 : Scr I' I2 J' J2 := sc2
      exact ⟨(0, I2, J2), Ev.suc (Ev.now fun n => by rw [ff_M_audit_138, if_pos q52e]), Or.inr (Or.inr (Or.inr ⟨b1, b2, fun j k hj hk => a j k hj hk, rfl⟩)), sc2⟩
    · rintro j ⟨I2, J2⟩ hj ⟨sc2, a⟩
      have sc2 : Scr I' I2 J' J2 := sc2
      obtain ⟨I3, J3, N, sc3, r⟩ := M_aud146 h hj s 0 I2 J2 (by omega) sc2 (fun k hk => absurd hk (by omega))
      rcases r with ⟨k, k1, k2, k3, k4⟩ | ⟨k1, k2⟩
      · refine Or.inl ⟨(Int32.ofNat (16 * k + 4), I3, J3), ⟨N + 1, fun n hn => ?_⟩, Or.inr (Or.inr (Or.inl ⟨b1, b2, j, k, hj, k1, k2, a, k3, rfl⟩)), sc3⟩
        obtain ⟨n, rfl⟩ : ∃ q, n = q + 1 := ⟨n - 1, by omega⟩
        dsimp only
        rw [ff_M_audit_138, if_neg (q52 hj)]
        exact k4 n _ (by omega)
      · refine Or.inr ⟨(I3, J3), ⟨sc3, fun j' k hj' hk q => ?_⟩, N, fun n hn => ?_⟩
        · by_cases f : j' = j
          · subst f; exact k1 k hk q
          · exact a j' k (by omega) hk q
        · dsimp only
          rw [ff_M_audit_138, if_neg (q52 hj)]
          exact k2 n _ hn
  have p3 : ∀ (I1 : MI) (J1 : MJ), (∀ k, k < s → ¬ bad1 I' J' k) → (∀ u, u < s → ¬ bad2 m u) → Scr I' I1 J' J1 → ∃ r, Ev (fun n => ff_M_audit_107 n I1 J1 0) r ∧ IsAV s m w I' J' r.1 ∧ Scr I' r.2.1 J' r.2.2 := by
    intro I1 J1 b1 b2 sc
    refine Ev.loop0 (α := MI × MJ) (fun n x j => ff_M_audit_107 n x.1 x.2 (Int32.ofNat j)) s (fun j x => Scr I' x.1 J' x.2 ∧ ∀ u, u < s + j → ¬ bad2 m u) _ (I1, J1) ⟨sc, fun u hu => b2 u (by omega)⟩ ?_ ?_
    · rintro ⟨I2, J2⟩ ⟨sc2, a⟩
      have sc2 : Scr I' I2 J' J2 := sc2
      obtain ⟨r, r1, r2⟩ := p4 I2 J2 b1 (fun u hu => a u (by omega)) sc2
      refine ⟨r, Ev.step (fun n => ?_) r1, r2⟩
      dsimp only
      rw [ff_M_audit_107, s0 sc2, if_pos ((q_cl s4 (by omega)).mpr (Nat.le_refl _))]
    · rintro k ⟨I2, J2⟩ hk ⟨sc2, a⟩
      have sc2 : Scr I' I2 J' J2 := sc2
      obtain ⟨f, f1, f2, f3⟩ := M_fitR h sc2 hk (b1 k hk)
      have hd : ∀ n, ff_M_audit_107 (n + 1) I2 J2 (Int32.ofNat k) = (ff_M_fitsRelocked n I2 J2 (Int32.ofNat k)).bind fun r9 => if r9.1 = 0 then (some ((16 : Int32) * Int32.ofNat k + 3, r9.2.1, r9.2.2)) else ff_M_audit_107 n r9.2.1 r9.2.2 (Int32.ofNat (k + 1)) := fun n => by
        rw [ff_M_audit_107, s0 sc2, if_neg (by rw [q_cl s4 (by omega)]; omega), sm_suc]
      rcases f3 with ⟨e, nb⟩ | ⟨e, bb⟩
      · obtain ⟨N, f1⟩ := f1
        refine Or.inr ⟨(f.2.1, f.2.2), ⟨f2, fun u hu => ?_⟩, N, fun n hn => ?_⟩
        · by_cases g : u = s + k
          · subst g; exact nb
          · exact a u (by omega)
        · have f1 : ff_M_fitsRelocked n I2 J2 (Int32.ofNat k) = some f := f1 n hn
          dsimp only
          rw [hd n, f1, Option.bind_some, if_neg (by rw [e]; decide)]
      · refine Or.inl ⟨(Int32.ofNat (16 * k + 3), f.2.1, f.2.2), ?_, Or.inr (Or.inl ⟨b1, s + k, by omega, bb, a, ?_⟩), f2⟩
        · refine Ev.step (fun n => hd n) ?_
          refine Ev.bind f1 ?_
          simp only [e, if_true]
          rw [show (16 : Int32) * Int32.ofNat k + 3 = Int32.ofNat (16 * k + 3) from a16 k 3]
          exact Ev.pure _
        · rw [if_neg (by omega), show s + k - s = k by omega]
  have p2 : (∀ k, k < s → ¬ bad1 I' J' k) → ∃ r, Ev (fun n => ff_M_audit_76 n I' J' 0) r ∧ IsAV s m w I' J' r.1 ∧ Scr I' r.2.1 J' r.2.2 := by
    intro b1
    refine Ev.loop0 (α := MI × MJ) (fun n x j => ff_M_audit_76 n x.1 x.2 (Int32.ofNat j)) s (fun j x => Scr I' x.1 J' x.2 ∧ ∀ u, u < j → ¬ bad2 m u) _ (I', J') ⟨⟨fun _ _ _ => rfl, fun _ _ => rfl⟩, fun u hu => absurd hu (by omega)⟩ ?_ ?_
    · rintro ⟨I2, J2⟩ ⟨sc2, a⟩
      have sc2 : Scr I' I2 J' J2 := sc2
      obtain ⟨r, r1, r2⟩ := p3 I2 J2 b1 a sc2
      refine ⟨r, Ev.step (fun n => ?_) r1, r2⟩
      dsimp only
      rw [ff_M_audit_76, s0 sc2, if_pos ((q_cl s4 (by omega)).mpr (Nat.le_refl _))]
    · rintro k ⟨I2, J2⟩ hk ⟨sc2, a⟩
      have sc2 : Scr I' I2 J' J2 := sc2
      obtain ⟨f, f1, f2, f3⟩ := M_fitL h sc2 hk (b1 k hk)
      have hd : ∀ n, ff_M_audit_76 (n + 1) I2 J2 (Int32.ofNat k) = (ff_M_fitsLocked n I2 J2 (Int32.ofNat k)).bind fun r9 => if r9.1 = 0 then (some ((16 : Int32) * Int32.ofNat k + 2, r9.2.1, r9.2.2)) else ff_M_audit_76 n r9.2.1 r9.2.2 (Int32.ofNat (k + 1)) := fun n => by
        rw [ff_M_audit_76, s0 sc2, if_neg (by rw [q_cl s4 (by omega)]; omega), sm_suc]
      rcases f3 with ⟨e, nb⟩ | ⟨e, bb⟩
      · obtain ⟨N, f1⟩ := f1
        refine Or.inr ⟨(f.2.1, f.2.2), ⟨f2, fun u hu => ?_⟩, N, fun n hn => ?_⟩
        · by_cases g : u = k
          · subst g; exact nb
          · exact a u (by omega)
        · have f1 : ff_M_fitsLocked n I2 J2 (Int32.ofNat k) = some f := f1 n hn
          dsimp only
          rw [hd n, f1, Option.bind_some, if_neg (by rw [e]; decide)]
      · refine Or.inl ⟨(Int32.ofNat (16 * k + 2), f.2.1, f.2.2), ?_, Or.inr (Or.inl ⟨b1, k, by omega, bb, a, ?_⟩), f2⟩
        · refine Ev.step (fun n => hd n) ?_
          refine Ev.bind f1 ?_
          simp only [e, if_true]
          rw [show (16 : Int32) * Int32.ofNat k + 2 = Int32.ofNat (16 * k + 2) from a16 k 2]
          exact Ev.pure _
        · rw [if_pos hk]
  refine Ev.loop0 (α := Unit) (fun n _ j => ff_M_audit_22 n I' J' (Int32.ofNat j)) s (fun j _ => ∀ k, k < j → ¬ bad1 I' J' k) _ () (fun k hk => absurd hk (by omega)) ?_ ?_
  · intro _ b1
    obtain ⟨r, r1, r2⟩ := p2 b1
    refine ⟨r, Ev.step (fun n => ?_) r1, r2⟩
    rw [ff_M_audit_22, hs', if_pos ((q_cl s4 (by omega)).mpr (Nat.le_refl _))]
  · intro j _ hj a
    have hd : ∀ n, ff_M_audit_22 (n + 1) I' J' (Int32.ofNat j) = if lg_cmp (J' 3 j) (MK (I' 8 j) (J' 9 j) (J' 6 j)) = 0 then ff_M_audit_22 n I' J' (Int32.ofNat (j + 1)) else some ((16 : Int32) * Int32.ofNat j + 1, I', J') := fun n => by
      simp only [ff_M_audit_22, hs', if_neg (show ¬ Int32.ofNat s ≤ Int32.ofNat j by rw [q_cl s4 (by omega)]; omega), sm_nat (j := j) (by omega), if_pos (sm_i2 (j := j) (N := 4) (by omega) (by omega)), M_mark, Option.bind_some, sm_suc]
    by_cases e : bad1 I' J' j
    · refine Or.inl ⟨(Int32.ofNat (16 * j + 1), I', J'), Ev.suc (Ev.now fun n => ?_), Or.inl ⟨j, hj, e, a, rfl⟩, ⟨fun _ _ _ => rfl, fun _ _ => rfl⟩⟩
      rw [hd n, if_neg (by rw [cmp0]; exact e), show (16 : Int32) * Int32.ofNat j + 1 = Int32.ofNat (16 * j + 1) from a16 j 1]
    · refine Or.inr ⟨(), fun k hk => ?_, 0, fun n _ => ?_⟩
      · by_cases f : k = j
        · subst f; exact e
        · exact a k (by omega)
      · rw [hd n, if_pos (by rw [cmp0]; exact Classical.byContradiction fun g => e g)]
