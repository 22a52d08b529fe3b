/-! a turn reckoned: the reference -/
noncomputable def ivM (e : Int32) (P : Nat) : Int32 := pwM e (Int32.ofNat ((P - 1) / 2) - 2) (Int32.ofNat P - 1)
noncomputable def lockM (P : Nat) (row : Nat → Int32) (K : Int64) (e : Int32) (j : Nat) : Int32 := pwM (row (PR K j).toNatClampNeg) e (Int32.ofNat P)
noncomputable def relM (P : Nat) (row : Nat → Int32) (e : Int32) (lk : Nat → Int32) (j : Nat) : Int32 := pwM (pwM (row j) (ivM e P) (Int32.ofNat P)) (lk j) (Int32.ofNat P)
theorem P_nz {P : Nat} (hP : TP P) : Int32.ofNat P ≠ 0 ∧ Int32.ofNat P - 1 ≠ 0 := by
  obtain ⟨p1, p2, _⟩ := hP
  refine ⟨fun h => ?_, fun h => ?_⟩
  · have := (nb_inj (y := 0) (by omega) (by omega)).mp h; omega
  · rw [nb_pred (by omega)] at h
    have := (nb_inj (y := 0) (by omega) (by omega)).mp h; omega
theorem ix52 (t x : Nat) : (52 : Int32) * Int32.ofNat t + Int32.ofNat x = Int32.ofNat (52 * t + x) := by
  rw [Int32.ofNat_add, Int32.ofNat_mul]; rfl
theorem M_inv {P : Nat} (hP : TP P) {I : MI} (J : MJ) (h1 : I 0 1 = Int32.ofNat P) (h2 : I 0 2 = Int32.ofNat ((P - 1) / 2)) (e : Int32) : Ev (fun n => ff_M_inverse n I J e) (ivM e P) := by
  unfold ff_M_inverse
  rw [h1, h2]
  exact Ev.bind (M_pow e _ _ (P_nz hP).2) (Ev.pure _)
theorem M_lockedAt {P : Nat} (hP : TP P) {I : MI} (J : MJ) (h1 : I 0 1 = Int32.ofNat P) {t j x : Nat} (ht : t < 9) (hj : j < 52) (hx : x < 52) (hx2 : 52 * t + x < 468) (e4 : I 16 j = Int32.ofNat x) (e : Int32) : Ev (fun n => ff_M_lockedAt n I J (Int32.ofNat t) (Int32.ofNat j) e) (pwM (I 15 (52 * t + x)) e (Int32.ofNat P)) := by
  unfold ff_M_lockedAt
  simp only [sm_nat (j := j) (by omega), if_pos (sm_i2 (j := j) (N := 52) hj (by omega)), e4, ix52, sm_nat (j := 52 * t + x) (by omega), if_pos (sm_i2 (j := 52 * t + x) (N := 468) hx2 (by omega)), h1]
  exact Ev.bind (M_pow _ _ _ (P_nz hP).1) (Ev.pure _)
theorem M_relockedAt {P : Nat} (hP : TP P) {I : MI} (J : MJ) (h1 : I 0 1 = Int32.ofNat P) (h2 : I 0 2 = Int32.ofNat ((P - 1) / 2)) {t j : Nat} (ht : t < 9) (hj : j < 52) (hx2 : 52 * t + j < 468) (e : Int32) : Ev (fun n => ff_M_relockedAt n I J (Int32.ofNat t) (Int32.ofNat j) e) (pwM (pwM (I 15 (52 * t + j)) (ivM e P) (Int32.ofNat P)) (I 17 j) (Int32.ofNat P)) := by
  unfold ff_M_relockedAt
  simp only [sm_nat (j := j) (by omega), if_pos (sm_i2 (j := j) (N := 52) hj (by omega)), ix52, sm_nat (j := 52 * t + j) (by omega), if_pos (sm_i2 (j := 52 * t + j) (N := 468) hx2 (by omega)), h1]
  refine Ev.bind (M_inv hP J h1 h2 e) ?_
  refine Ev.bind (M_pow _ _ _ (P_nz hP).1) ?_
  exact Ev.bind (M_pow _ _ _ (P_nz hP).1) (Ev.pure _)
theorem M_turn124 {P ph t k j : Nat} (k77 : MI → MJ → Int32 → Int32 → Option (Int32 × MI × MJ)) (n : Nat) {I : MI} (J : MJ) (h1 : I 0 1 = Int32.ofNat P) (hp : I 0 4 = Int32.ofNat ph) (hph : ph = 2 ∨ ph = 3) (ht : I 0 20 = Int32.ofNat t) (ht8 : t < 8) (hk : k < 4) (hj : j < 52) (v : Int32) : ff_M_turn_124 k77 n I J (Int32.ofNat k) (Int32.ofNat j) v = k77 (ui I 15 (52 * (t + 1) + j) (spo P (if ph = 2 then J 10 k else J 11 k) j v)) J (Int32.ofNat k) (Int32.ofNat (j + 1)) := by
  unfold ff_M_turn_124 ff_M_turn_164
  rw [hp, ht]
  have c : (Int32.ofNat ph = 2) ↔ ph = 2 := nb_inj (y := 2) (by omega) (by omega)
  simp only [sm_suc, sm_nat (j := k) (by omega), if_pos (sm_i2 (j := k) (N := 4) hk (by omega)), ix52, sm_nat (j := 52 * (t + 1) + j) (by omega), if_pos (sm_i2 (j := 52 * (t + 1) + j) (N := 468) (by omega) (by omega)), M_cheated n J h1 _ hj, Option.bind_some]
  by_cases g : ph = 2
  · rw [if_pos (c.mpr g), if_pos g]
  · rw [if_neg (fun h => g (c.mp h)), if_neg g]
theorem mod_s {s t : Nat} (hs : 2 ≤ s) (h4 : s ≤ 4) (ht : t < 100) : Int32.ofNat t - Int32.ofNat t / Int32.ofNat s * Int32.ofNat s = Int32.ofNat (t % s) := tr_mod (by omega) (by omega)
theorem M_turn77 {P s ph t k : Nat} (hP : TP P) (I : MI) (J : MJ) (h1 : I 0 1 = Int32.ofNat P) (h2 : I 0 2 = Int32.ofNat ((P - 1) / 2)) (h3 : I 0 3 = Int32.ofNat s) (hs : 2 ≤ s) (hs4 : s ≤ 4) (hp : I 0 4 = Int32.ofNat ph) (hph : ph = 2 ∨ ph = 3) (ht : I 0 20 = Int32.ofNat t) (ht8 : t < 8) (hk : k < 4) (val : Nat → Int32)
    (hv2 : ph = 2 → ∃ K, (∀ j, j < 52 → I 16 j = PR K j) ∧ ∀ j, j < 52 → val j = lockM P (fun i => I 15 (52 * t + i)) K (I 4 k) j)
    (hv3 : ph = 3 → ∀ j, j < 52 → val j = relM P (fun i => I 15 (52 * t + i)) (I 4 k) (I 17) j) :
    ∃ r, Ev (fun n => ff_M_turn_77 n I J (Int32.ofNat k) 0) r ∧ r.1 = 1 ∧ r.2.2 = J ∧ (∀ j, j < 52 → r.2.1 15 (52 * (t + 1) + j) = spo P (if ph = 2 then J 10 k else J 11 k) j (val j)) ∧ (∀ i, i < 52 * (t + 1) ∨ 52 * (t + 2) ≤ i → r.2.1 15 i = I 15 i) ∧ (∀ x, x ≠ 15 → x ≠ 0 → r.2.1 x = I x) ∧ r.2.1 0 20 = Int32.ofNat (t + 1) ∧ r.2.1 0 4 = Int32.ofNat (if (t + 1) % s = 0 then ph + 1 else ph) ∧ ∀ y, y ≠ 20 → y ≠ 4 → r.2.1 0 y = I 0 y := by
  refine Ev.loop0 (α := MI) (fun n x j => ff_M_turn_77 n x J (Int32.ofNat k) (Int32.ofNat j)) 52
    (fun j x => (∀ i, i < j → x 15 (52 * (t + 1) + i) = spo P (if ph = 2 then J 10 k else J 11 k) i (val i)) ∧ (∀ i, i < 52 * (t + 1) ∨ 52 * (t + 1) + j ≤ i → x 15 i = I 15 i) ∧ (∀ q, q ≠ 15 → x q = I q))
    _ I ⟨fun i hi => absurd hi (by omega), fun i _ => rfl, fun q _ => rfl⟩ ?_ ?_
  · rintro I1 ⟨a1, a2, a3⟩
    have e0 : I1 0 = I 0 := a3 0 (by decide)
    have c0 : ¬ Int32.ofNat s = 0 := fun h => by have := (nb_inj (y := 0) (by omega) (by omega)).mp h; omega
    have u1 : ui I1 0 20 (Int32.ofNat (t + 1)) 0 3 = Int32.ofNat s := by rw [ui_at, if_neg (by omega), e0, h3]
    have u2 : ui I1 0 20 (Int32.ofNat (t + 1)) 0 20 = Int32.ofNat (t + 1) := by rw [ui_at, if_pos ⟨rfl, rfl⟩]
    have u3 : ui I1 0 20 (Int32.ofNat (t + 1)) 0 4 = Int32.ofNat ph := by rw [ui_at, if_neg (by omega), e0, hp]
    have hm := Nat.mod_lt (t + 1) (show 0 < s by omega)
    by_cases c : (t + 1) % s = 0
    · refine ⟨(1, ui (ui I1 0 20 (Int32.ofNat (t + 1))) 0 4 (Int32.ofNat (ph + 1)), J), Ev.suc (Ev.now fun n => ?_), rfl, rfl, fun j hj => ?_, fun i hi => ?_, fun x h15 h0 => ?_, ?_, ?_, fun y hy hy4 => ?_⟩
      · simp only [ff_M_turn_77, if_pos q52e, e0, ht, sm_suc, u1, u2, u3, if_pos c0, tl, mod_s hs hs4 (show t + 1 < 100 by omega), c, if_pos (show Int32.ofNat 0 = 0 from rfl)]
      · dsimp only
        rw [ui_at, if_neg (by omega), ui_at, if_neg (by omega)]; exact a1 j hj
      · dsimp only
        rw [ui_at, if_neg (by omega), ui_at, if_neg (by omega)]; exact a2 i (by omega)
      · dsimp only
        rw [ui_else _ _ _ h0, ui_else _ _ _ h0]; exact a3 x h15
      · dsimp only
        rw [ui_at, if_neg (by omega)]; exact u2
      · dsimp only
        rw [ui_at, if_pos ⟨rfl, rfl⟩, if_pos c]
      · dsimp only
        rw [ui_at, if_neg (by omega), ui_at, if_neg (by omega), e0]
    · refine ⟨(1, ui I1 0 20 (Int32.ofNat (t + 1)), J), Ev.suc (Ev.now fun n => ?_), rfl, rfl, fun j hj => ?_, fun i hi => ?_, fun x h15 h0 => ?_, u2, ?_, fun y hy hy4 => ?_⟩
      · have c2 : ¬ Int32.ofNat ((t + 1) % s) = 0 := fun h => c ((nb_inj (y := 0) (by omega) (by omega)).mp h)
        simp only [ff_M_turn_77, if_pos q52e, e0, ht, sm_suc, u1, u2, u3, if_pos c0, tl, mod_s hs hs4 (show t + 1 < 100 by omega), if_neg c2]
      · dsimp only
        rw [ui_at, if_neg (by omega)]; exact a1 j hj
      · dsimp only
        rw [ui_at, if_neg (by omega)]; exact a2 i (by omega)
      · dsimp only
        rw [ui_else _ _ _ h0]; exact a3 x h15
      · dsimp only
        rw [if_neg c]; exact u3
      · dsimp only
        rw [ui_at, if_neg (by omega), e0]
  · rintro j I1 hj ⟨a1, a2, a3⟩
    have e0 : I1 0 = I 0 := a3 0 (by decide)
    refine Or.inr ⟨ui I1 15 (52 * (t + 1) + j) (spo P (if ph = 2 then J 10 k else J 11 k) j (val j)), ⟨fun i hi => ?_, fun i hi => ?_, fun q hq => ?_⟩, ?_⟩
    · rw [ui_at]
      by_cases e : i = j
      · rw [if_pos ⟨rfl, by omega⟩, e]
      · rw [if_neg (fun h => e (by omega))]; exact a1 i (by omega)
    · rw [ui_at, if_neg (by omega)]; exact a2 i (by omega)
    · rw [ui_else _ _ _ hq]; exact a3 q hq
    · rcases hph with g | g
      · obtain ⟨K, hK1, hK2⟩ := hv2 g
        obtain ⟨x, hx, ex⟩ := PR_in K hj
        obtain ⟨N, hN⟩ := M_lockedAt hP J (I := I1) (by rw [e0]; exact h1) (t := t) (by omega) hj hx (by omega) (by rw [a3 16 (by decide), hK1 j hj, ex]) (I 4 k)
        refine ⟨N, fun n hn => ?_⟩
        have hv : pwM (I1 15 (52 * t + x)) (I 4 k) (Int32.ofNat P) = val j := by rw [hK2 j hj, a2 _ (by omega)]; unfold lockM; rw [ex, sm_nat (by omega)]
        rw [hv] at hN
        have hN := hN n hn
        have c2 : Int32.ofNat ph = 2 := (nb_inj (y := 2) (by omega) (by omega)).mpr g
        show ff_M_turn_77 (n + 1) I1 J (Int32.ofNat k) (Int32.ofNat j) = _
        simp only [ff_M_turn_77, if_neg (q52 hj), e0, hp, if_pos c2, sm_nat (j := k) (by omega), if_pos (sm_i2 (j := k) (N := 4) hk (by omega)), ht, a3 4 (by decide), hN, Option.bind_some]
        exact M_turn124 _ n J (by rw [e0]; exact h1) (by rw [e0]; exact hp) (Or.inl g) (by rw [e0]; exact ht) ht8 hk hj _
      · obtain ⟨N, hN⟩ := M_relockedAt hP J (I := I1) (by rw [e0]; exact h1) (by rw [e0]; exact h2) (t := t) (by omega) hj (by omega) (I 4 k)
        refine ⟨N, fun n hn => ?_⟩
        have hv : pwM (pwM (I1 15 (52 * t + j)) (ivM (I 4 k) P) (Int32.ofNat P)) (I1 17 j) (Int32.ofNat P) = val j := by rw [hv3 g j hj, a2 _ (by omega), a3 17 (by decide)]; rfl
        rw [hv] at hN
        have hN := hN n hn
        have c2 : ¬ Int32.ofNat ph = 2 := fun h => by have := (nb_inj (y := 2) (by omega) (by omega)).mp h; omega
        show ff_M_turn_77 (n + 1) I1 J (Int32.ofNat k) (Int32.ofNat j) = _
        simp only [ff_M_turn_77, if_neg (q52 hj), e0, hp, if_neg c2, sm_nat (j := k) (by omega), if_pos (sm_i2 (j := k) (N := 4) hk (by omega)), ht, a3 4 (by decide), hN, Option.bind_some]
        exact M_turn124 _ n J (by rw [e0]; exact h1) (by rw [e0]; exact hp) (Or.inr g) (by rw [e0]; exact ht) ht8 hk hj _
