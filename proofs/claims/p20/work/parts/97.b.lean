/-! a turn reckoned: the object -/
noncomputable def lockO (P : Nat) (row : Nat → Int32) (K : Int64) (e : Int32) (j : Nat) : Int32 := pwO (row (PR K j).toNatClampNeg) e (Int32.ofNat P)
noncomputable def relO (P : Nat) (row : Nat → Int32) (e : Int32) (lk : Nat → Int32) (j : Nat) : Int32 := pwO (row j) (tmO (ivO e (Int32.ofNat P)) (lk j) (Int32.ofNat P - 1)) (Int32.ofNat P)
theorem q52 {j : Nat} (h : j < 52) : ¬ (52 : Int32) ≤ Int32.ofNat j := fun g => by have := (nb_le (x := 52) (by omega) (by omega)).mp g; omega
theorem q52e : (52 : Int32) ≤ Int32.ofNat 52 := by decide
theorem O_rk30 {P : Nat} (I : MI) (J : MJ) (K : Int64) (v1 : Int32) (v2 v3 v4 : Nat) (hP : I 0 0 = Int32.ofNat P) (h4 : ∀ j, j < 52 → I 4 j = PR K j) (n1 : v3 ≠ 0) (n2 : v3 ≠ v2) (n3 : v3 ≠ v4) (n4 : v3 ≠ 4) : ∃ r, Ev (fun n => ff_O_reckonTurn_30 n I J v1 v2 v3 v4 0) r ∧ (∀ j, j < 52 → r.1 v3 j = lockO P (I v4) K (I v2 0) j) ∧ (∀ x, x ≠ v3 → r.1 x = I x) ∧ r.2 = J := by
  refine Ev.loop0 (α := MI) (fun n x j => ff_O_reckonTurn_30 n x J v1 v2 v3 v4 (Int32.ofNat j)) 52
    (fun j x => (∀ i, i < j → x v3 i = lockO P (I v4) K (I v2 0) i) ∧ (∀ q, q ≠ v3 → x q = I q))
    _ I ⟨fun i hi => absurd hi (by omega), fun q _ => rfl⟩ ?_ ?_
  · rintro I1 ⟨a1, a2⟩
    exact ⟨(I1, J), Ev.suc (Ev.now fun n => by rw [ff_O_reckonTurn_30, if_pos q52e]), a1, a2, rfl⟩
  · rintro j I1 hj ⟨a1, a2⟩
    obtain ⟨x, hx, ex⟩ := PR_in K hj
    obtain ⟨N, hN⟩ := N_pow (I v4 x) (I v2 0) (Int32.ofNat P)
    have hN : ∀ n, N ≤ n → ff_N_power n (I v4 x) (I v2 0) (Int32.ofNat P) = some (lockO P (I v4) K (I v2 0) j) := fun n hn => (hN n hn).trans (by unfold lockO; rw [ex, sm_nat (by omega)])
    refine Or.inr ⟨ui I1 v3 j (lockO P (I v4) K (I v2 0) j), ⟨fun i hi => ?_, fun q hq => ?_⟩, N, fun n hn => ?_⟩
    · rw [ui_at]
      by_cases e : i = j
      · rw [if_pos ⟨rfl, e⟩, e]
      · rw [if_neg (fun h => e h.2)]; exact a1 i (by omega)
    · rw [ui_else _ _ _ hq]; exact a2 q hq
    · have hb := sm_in (j := j) (N := 52) hj (by omega)
      have hb2 := sm_in (j := x) (N := 52) hx (by omega)
      have e4 : I1 4 j = Int32.ofNat x := by rw [a2 4 n4.symm, h4 j hj, ex]
      show ff_O_reckonTurn_30 (n + 1) I1 J v1 v2 v3 v4 (Int32.ofNat j) = _
      simp only [ff_O_reckonTurn_30, if_neg (q52 hj), if_pos (sm_i2 (j := j) (N := 52) hj (by omega)), sm_nat (j := j) (by omega), e4, if_pos (sm_i2 (j := x) (N := 52) hx (by omega)), sm_nat (j := x) (by omega), a2 v4 n3.symm, a2 v2 n2.symm, a2 0 n1.symm, hP, hN n hn, Option.bind_some, sm_suc]
theorem O_rk100 {P : Nat} (I : MI) (J : MJ) (v1 : Int32) (v2 v3 v4 v5 : Nat) (e : Int32) (hP : I 0 0 = Int32.ofNat P) (n1 : v3 ≠ 0) (n3 : v3 ≠ v4) (n4 : v3 ≠ v5) : ∃ r, Ev (fun n => ff_O_reckonTurn_100 n I J v1 v2 v3 v4 v5 (ivO e (Int32.ofNat P)) 0) r ∧ (∀ j, j < 52 → r.1 v3 j = relO P (I v4) e (I v5) j) ∧ (∀ x, x ≠ v3 → r.1 x = I x) ∧ r.2 = J := by
  refine Ev.loop0 (α := MI) (fun n x j => ff_O_reckonTurn_100 n x J v1 v2 v3 v4 v5 (ivO e (Int32.ofNat P)) (Int32.ofNat j)) 52
    (fun j x => (∀ i, i < j → x v3 i = relO P (I v4) e (I v5) i) ∧ (∀ q, q ≠ v3 → x q = I q))
    _ I ⟨fun i hi => absurd hi (by omega), fun q _ => rfl⟩ ?_ ?_
  · rintro I1 ⟨a1, a2⟩
    exact ⟨(I1, J), Ev.suc (Ev.now fun n => by rw [ff_O_reckonTurn_100, if_pos q52e]), a1, a2, rfl⟩
  · rintro j I1 hj ⟨a1, a2⟩
    obtain ⟨N, hN⟩ := N_pow (I v4 j) (tmO (ivO e (Int32.ofNat P)) (I v5 j) (Int32.ofNat P - 1)) (Int32.ofNat P)
    refine Or.inr ⟨ui I1 v3 j (relO P (I v4) e (I v5) j), ⟨fun i hi => ?_, fun q hq => ?_⟩, N, fun n hn => ?_⟩
    · rw [ui_at]
      by_cases e : i = j
      · rw [if_pos ⟨rfl, e⟩, e]
      · rw [if_neg (fun h => e h.2)]; exact a1 i (by omega)
    · rw [ui_else _ _ _ hq]; exact a2 q hq
    · have hb := sm_in (j := j) (N := 52) hj (by omega)
      show ff_O_reckonTurn_100 (n + 1) I1 J v1 v2 v3 v4 v5 (ivO e (Int32.ofNat P)) (Int32.ofNat j) = _
      have hN2 : ff_N_power n (I v4 j) (tmO (ivO e (Int32.ofNat P)) (I v5 j) (Int32.ofNat P - 1)) (Int32.ofNat P) = some (relO P (I v4) e (I v5) j) := hN n hn
      simp only [ff_O_reckonTurn_100, if_neg (q52 hj), if_pos (sm_i2 (j := j) (N := 52) hj (by omega)), sm_nat (j := j) (by omega), a2 v4 n3.symm, a2 v5 n4.symm, a2 0 n1.symm, hP, N_times, Option.bind_some, hN2, sm_suc]
theorem O_reckon1 {P s t : Nat} {I : MI} (J : MJ) {a2 a3 : Nat} (hP : I 0 0 = Int32.ofNat P) (hs : I 0 2 = Int32.ofNat s) (h4 : s ≤ 4) (ht : t < s) (n1 : a3 ≠ 0) (n2 : a3 ≠ a2) (n3 : a3 ≠ 6 + t) (n4 : a3 ≠ 4) (n5 : a2 ≠ 4) : ∃ r, Ev (fun n => ff_O_reckonTurn n I J (Int32.ofNat t) a2 a3) r ∧ (∀ j, j < 52 → r.1 a3 j = lockO P (I (6 + t)) (J a2 1) (I a2 0) j) ∧ (∀ x, x ≠ a3 → x ≠ 4 → r.1 x = I x) ∧ ∀ x, x ≠ 39 → r.2 x = J x := by
  obtain ⟨r, h1, h2, h3, h4'⟩ := D_order I J (J a2 1) 4 (by decide)
  obtain ⟨q, g1, g2, g3, g4⟩ := O_rk30 (P := P) r.1 r.2 (J a2 1) (Int32.ofNat t) a2 a3 (6 + t) (by rw [h3 0 (by decide)]; exact hP) h2 n1 n2 n3 n4
  refine ⟨q, ?_, fun j hj => ?_, fun x hx hx4 => ?_, fun x hx => ?_⟩
  · unfold ff_O_reckonTurn
    rw [hs]
    simp only [if_pos (sm_i2 (j := t) (N := 9) (by omega) (by omega)), if_neg (show ¬ Int32.ofNat s ≤ Int32.ofNat t by rw [nb_le (by omega) (by omega)]; omega), sm_nat (j := t) (by omega)]
    refine Ev.bind h1 ?_
    exact g1
  · rw [g2 j hj, h3 _ (by omega), h3 _ n5]
  · rw [g3 x hx, h3 x hx4]
  · rw [g4, h4' x hx]
theorem O_reckon2 {P s t : Nat} {I : MI} (J : MJ) {a2 a3 : Nat} (hP : I 0 0 = Int32.ofNat P) (hs : I 0 2 = Int32.ofNat s) (h4 : s ≤ 4) (ht : s ≤ t) (ht2 : t < 2 * s) (n1 : a3 ≠ 0) (n3 : a3 ≠ 6 + t) (n4 : a3 ≠ 15 + 6 * (t - s) + 3) : ∃ r, Ev (fun n => ff_O_reckonTurn n I J (Int32.ofNat t) a2 a3) r ∧ (∀ j, j < 52 → r.1 a3 j = relO P (I (6 + t)) (I a2 0) (I (15 + 6 * (t - s) + 3)) j) ∧ (∀ x, x ≠ a3 → x ≠ 4 → r.1 x = I x) ∧ ∀ x, x ≠ 39 → r.2 x = J x := by
  obtain ⟨q, g1, g2, g3, g4⟩ := O_rk100 (P := P) I J (Int32.ofNat t) a2 a3 (6 + t) (15 + 6 * (t - s) + 3) (I a2 0) hP n1 n3 n4
  refine ⟨q, ?_, g2, fun x hx _ => g3 x hx, fun x _ => by rw [g4]⟩
  unfold ff_O_reckonTurn ff_O_playerOfTurn
  have c : Int32.ofNat s ≤ Int32.ofNat t := (nb_le (by omega) (by omega)).mpr ht
  rw [hs, hP]
  simp only [if_pos (sm_i2 (j := t) (N := 9) (by omega) (by omega)), if_pos c, Option.bind_some, q_sub ht, if_pos (sm_i2 (j := t - s) (N := 4) (by omega) (by omega)), sm_nat (j := t) (by omega), sm_nat (j := t - s) (by omega)]
  refine Ev.bind (N_inv (I a2 0) (Int32.ofNat P)) ?_
  exact g1
theorem O_spoil {P : Nat} {I : MI} (J : MJ) (a1 a2 : Nat) {k : Nat} (hk : k < 5) (hP : I 0 0 = Int32.ofNat P) (n1 : a1 ≠ 0) : ∃ r, Ev (fun n => ff_O_spoil n I J a1 a2 (Int32.ofNat k)) r ∧ (∀ j, j < 52 → r.1 a1 j = spo P (J (a2 + 5) k) j (I a1 j)) ∧ (∀ x, x ≠ a1 → r.1 x = I x) ∧ r.2 = J := by
  refine Ev.loop0 (α := MI) (fun n x j => ff_O_spoil_3 n x J a1 a2 (Int32.ofNat k) (Int32.ofNat j)) 52
    (fun j x => (∀ i, i < j → x a1 i = spo P (J (a2 + 5) k) i (I a1 i)) ∧ (∀ i, j ≤ i → x a1 i = I a1 i) ∧ (∀ q, q ≠ a1 → x q = I q))
    _ I ⟨fun i hi => absurd hi (by omega), fun i _ => rfl, fun q _ => rfl⟩ ?_ ?_
  · rintro I1 ⟨a, _, b⟩
    exact ⟨(I1, J), Ev.suc (Ev.now fun n => by rw [ff_O_spoil_3, if_pos q52e]), a, b, rfl⟩
  · rintro j I1 hj ⟨b1, b2, b3⟩
    have hb := sm_in (j := j) (N := 52) hj (by omega)
    refine Or.inr ⟨if bt (J (a2 + 5) k) j then ui I1 a1 j (spo P (J (a2 + 5) k) j (I a1 j)) else I1, ⟨fun i hi => ?_, fun i hi => ?_, fun q hq => ?_⟩, 0, fun n hn => ?_⟩
    · split
      · rw [ui_at]
        by_cases e : i = j
        · rw [if_pos ⟨rfl, e⟩, e]
        · rw [if_neg (fun h => e h.2)]; exact b1 i (by omega)
      · next h =>
        by_cases e : i = j
        · rw [e, b2 j (Nat.le_refl _)]
          unfold spo
          rw [if_neg h]
        · exact b1 i (by omega)
    · split
      · rw [ui_at, if_neg (by omega)]; exact b2 i (by omega)
      · exact b2 i (by omega)
    · split
      · rw [ui_else _ _ _ hq]; exact b3 q hq
      · exact b3 q hq
    · show ff_O_spoil_3 (n + 1) I1 J a1 a2 (Int32.ofNat k) (Int32.ofNat j) = _
      rw [ff_O_spoil_3, if_neg (q52 hj), P_cheats n I1 J a2 hk hj, Option.bind_some]
      cases h : bt (J (a2 + 5) k) j with
      | false => simp only [Bool.false_eq_true, if_false, if_true, sm_suc]
      | true =>
        have e : I1 a1 j = I a1 j := b2 j (Nat.le_refl _)
        simp only [if_true, if_neg (show ¬ (1 : Int32) = 0 by decide), if_pos (sm_i2 (j := j) (N := 52) hj (by omega)), sm_nat (j := j) (by omega), e, b3 0 n1.symm, hP, sm_suc]
        unfold spo
        rw [if_pos h]
        by_cases g : I a1 j = Int32.ofNat P - 1
        · rw [if_pos g, if_pos g]
        · rw [if_neg g, if_neg g]
