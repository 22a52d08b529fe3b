/-! rows of locks -/
def ev (P : Nat) (K : Int64) (i : Nat) : Nat := 3 + kn (kxi K (i + 1)) / 8589934592 % (P - 4)
theorem ev_lt {P : Nat} (hP : TP P) (K : Int64) (i : Nat) : ev P K i < 2147483648 := by
  obtain ⟨p1, p2, _⟩ := hP
  unfold ev
  have := Nat.mod_lt (kn (kxi K (i + 1)) / 8589934592) (show 0 < P - 4 by omega)
  omega
theorem least {p : Nat → Prop} : ∀ i, p i → ∃ i, p i ∧ ∀ j, j < i → ¬ p j := by
  intro i
  induction i using Nat.strongRecOn with
  | _ i ih =>
    intro h
    by_cases g : ∃ j, j < i ∧ p j
    · obtain ⟨j, hj, hp⟩ := g
      exact ih j hj hp
    · exact ⟨i, h, fun j hj hp => g ⟨j, hj, hp⟩⟩
noncomputable def nxi (P : Nat) (K : Int64) : Nat := Classical.epsilon fun i => XN P (ev P K i) ∧ ∀ j, j < i → ¬ XN P (ev P K j)
theorem nxi_sp {P : Nat} (hP : TP P) (K : Int64) : XN P (ev P K (nxi P K)) ∧ ∀ j, j < nxi P K → ¬ XN P (ev P K j) := by
  obtain ⟨i, h⟩ := kxi_exp K hP
  exact Classical.epsilon_spec (p := fun i => XN P (ev P K i) ∧ ∀ j, j < i → ¬ XN P (ev P K j)) (least (p := fun i => XN P (ev P K i)) i h)
noncomputable def lkK (P : Nat) (K : Int64) : Nat → Int64
  | 0 => K
  | j + 1 => kxi (lkK P K j) (nxi P (lkK P K j) + 1)
noncomputable def LK (P : Nat) (K : Int64) (j : Nat) : Int32 := Int32.ofNat (ev P (lkK P K j) (nxi P (lkK P K j)))
theorem LK_XP {P : Nat} (hP : TP P) (K : Int64) (j : Nat) : XP P (LK P K j) := ⟨_, rfl, (nxi_sp hP _).1⟩
theorem kxi_sh (K : Int64) : ∀ i, kxi (kx K) i = kxi K (i + 1) := by
  intro i
  induction i with
  | zero => simp only [kxi]
  | succ i ih => simp only [kxi] at ih ⊢; rw [ih]
/-- one draw's number -/
theorem draw_mod {P : Nat} (hP : TP P) (K : Int64) : dv K - dv K / (Int32.ofNat P - 4) * (Int32.ofNat P - 4) = Int32.ofNat (kn K / 8589934592 % (P - 4)) := by
  obtain ⟨p1, p2, _⟩ := hP
  have := kn_lt K
  rw [dv_nat, show Int32.ofNat P - 4 = Int32.ofNat (P - 4) from q_sub (x := P) (y := 4) (by omega), tr_mod (by omega) (by omega)]
theorem draw_nz {P : Nat} (hP : TP P) : ¬ Int32.ofNat P - 4 = 0 := by
  obtain ⟨p1, p2, _⟩ := hP
  rw [show Int32.ofNat P - 4 = Int32.ofNat (P - 4) from q_sub (x := P) (y := 4) (by omega)]
  exact fun h => by have := (nb_inj (y := 0) (by omega) (by omega)).mp h; omega
theorem three_add (x : Nat) : (3 : Int32) + Int32.ofNat x = Int32.ofNat (3 + x) := (Int32.ofNat_add 3 x).symm
theorem M_draw (n : Nat) (I : MI) (J : MJ) : ff_M_nextDraw n I J = some (dv (kx (J 0 25)), I, uj J 0 25 (kx (J 0 25))) := by
  unfold ff_M_nextDraw
  rw [show (uj J 0 25 (J 0 25 * 6364136223846793005 + 1442695040888963407)) 0 25 = kx (J 0 25) by rw [uj_at, if_pos ⟨rfl, rfl⟩]; rfl]
  rfl
theorem D_draw (n : Nat) (I : MI) (J : MJ) : ff_D_next n I J = some (dv (kx (J 39 0)), I, uj J 39 0 (kx (J 39 0))) := by
  unfold ff_D_next
  rw [show (uj J 39 0 (J 39 0 * 6364136223846793005 + 1442695040888963407)) 39 0 = kx (J 39 0) by rw [uj_at, if_pos ⟨rfl, rfl⟩]; rfl]
  rfl
theorem M_lk20 {P : Nat} (hP : TP P) (k7 : MI → MJ → Int64 → Int32 → Option (MI × MJ)) (v1 : Int64) {j : Nat} (hj : j < 52) : ∀ (d n : Nat) (I : MI) (J : MJ) (K : Int64), I 0 1 = Int32.ofNat P → I 0 2 = Int32.ofNat ((P - 1) / 2) → J 0 25 = K → ¬ XP P (I 17 j) → XN P (ev P K d) → (∀ i, i < d → ¬ XN P (ev P K i)) → d + 2 ≤ n → ff_M_makeLocks_20 k7 n I J v1 (Int32.ofNat j) = k7 (ui I 17 j (Int32.ofNat (ev P K d))) (uj J 0 25 (kxi K (d + 1))) v1 (Int32.ofNat (j + 1)) := by
  intro d
  induction d with
  | zero =>
    intro n I J K h1 h2 hK hx hd _ hn
    obtain ⟨n, rfl⟩ : ∃ m, n = m + 2 := ⟨n - 2, by omega⟩
    have hb := sm_in (j := j) (N := 52) hj (by omega)
    have hx0 : ff_N_isExponent (n + 1) (I 17 j) (Int32.ofNat P) = some 0 := by
      rcases N_isExp hP (n + 1) (I 17 j) with g | g
      · exact absurd g.1 hx
      · exact g.2
    rw [ff_M_makeLocks_20, if_pos hb, sm_nat (by omega), M_isExp hP _ h1 h2, hx0, Option.bind_some, if_pos rfl, M_draw, Option.bind_some]
    dsimp only [tl]
    have hb2 : ¬ (Int32.ofNat j < 0 ∨ 52 ≤ j) := by rw [sm_nat (by omega)] at hb; exact hb
    rw [if_pos (show ¬ I 0 1 - 4 = 0 by rw [h1]; exact draw_nz hP), h1, draw_mod hP, three_add, hK]
    have e1 : kx K = kxi K 1 := by simp only [kxi]
    have e2 : 3 + kn (kx K) / 8589934592 % (P - 4) = ev P K 0 := by rw [e1]; rfl
    rw [e2, if_pos hb2, ff_M_makeLocks_20, if_pos hb, sm_nat (by omega)]
    rw [M_isExp hP _ (by rw [ui_at, if_neg (by omega)]; exact h1) (by rw [ui_at, if_neg (by omega)]; exact h2), ui_at, if_pos ⟨rfl, rfl⟩, N_isExp1 hP _ hd, Option.bind_some, if_neg (by decide), sm_suc, e1]
  | succ d ih =>
    intro n I J K h1 h2 hK hx hd hl hn
    obtain ⟨n, rfl⟩ : ∃ m, n = m + 1 := ⟨n - 1, by omega⟩
    have hb := sm_in (j := j) (N := 52) hj (by omega)
    have hx0 : ff_N_isExponent n (I 17 j) (Int32.ofNat P) = some 0 := by
      rcases N_isExp hP n (I 17 j) with g | g
      · exact absurd g.1 hx
      · exact g.2
    rw [ff_M_makeLocks_20, if_pos hb, sm_nat (by omega), M_isExp hP _ h1 h2, hx0, Option.bind_some, if_pos rfl, M_draw, Option.bind_some]
    dsimp only [tl]
    have hb2 : ¬ (Int32.ofNat j < 0 ∨ 52 ≤ j) := by rw [sm_nat (by omega)] at hb; exact hb
    rw [if_pos (show ¬ I 0 1 - 4 = 0 by rw [h1]; exact draw_nz hP), h1, draw_mod hP, three_add, hK]
    have e1 : kx K = kxi K 1 := by simp only [kxi]
    have e2 : 3 + kn (kx K) / 8589934592 % (P - 4) = ev P K 0 := by rw [e1]; rfl
    have e3 : ∀ i, ev P (kx K) i = ev P K (i + 1) := fun i => by unfold ev; rw [kxi_sh]
    rw [e2, if_pos hb2]
    have g := ih n (ui I 17 j (Int32.ofNat (ev P K 0))) (uj J 0 25 (kx K)) (kx K) (by rw [ui_at, if_neg (by omega)]; exact h1) (by rw [ui_at, if_neg (by omega)]; exact h2) (by rw [uj_at, if_pos ⟨rfl, rfl⟩]) (by rw [ui_at, if_pos ⟨rfl, rfl⟩, XP_nat hP.2.1 (ev_lt hP K 0)]; exact hl 0 (by omega)) (by rw [e3]; exact hd) (fun i hi => by rw [e3]; exact hl (i + 1) (by omega)) (by omega)
    rw [g, ui_ui, uj_uj, e3, kxi_sh]
theorem M_locks {P : Nat} (hP : TP P) (I : MI) (J : MJ) (K : Int64) (h1 : I 0 1 = Int32.ofNat P) (h2 : I 0 2 = Int32.ofNat ((P - 1) / 2)) : ∃ r, Ev (fun n => ff_M_makeLocks n I J K) r ∧ (∀ j, j < 52 → r.1 17 j = LK P K j) ∧ (∀ x, x ≠ 17 → r.1 x = I x) ∧ ∀ x y, ¬ (x = 0 ∧ y = 25) → r.2 x y = J x y := by
  unfold ff_M_makeLocks
  have g := Ev.loop0 (α := MI × MJ) (fun n x j => ff_M_makeLocks_7 n x.1 x.2 K (Int32.ofNat j)) 52
    (fun j x => (∀ i, i < j → x.1 17 i = LK P K i) ∧ (∀ q, q ≠ 17 → x.1 q = I q) ∧ x.2 = uj J 0 25 (lkK P K j))
    (fun r => (∀ j, j < 52 → r.1 17 j = LK P K j) ∧ (∀ x, x ≠ 17 → r.1 x = I x) ∧ ∀ x y, ¬ (x = 0 ∧ y = 25) → r.2 x y = J x y)
    (I, uj J 0 25 K) ⟨fun i hi => absurd hi (by omega), fun q _ => rfl, rfl⟩ ?_ ?_
  · exact g
  · rintro ⟨I1, J1⟩ ⟨a1, a2, a3⟩
    refine ⟨(I1, J1), Ev.suc (Ev.now fun n => ?_), a1, a2, fun x y h => ?_⟩
    · show ff_M_makeLocks_7 (n + 1) I1 J1 K (Int32.ofNat 52) = _
      rw [ff_M_makeLocks_7, if_pos (by decide)]
    · show J1 x y = J x y
      have a3 : J1 = _ := a3
      rw [a3, uj_at, if_neg h]
  · rintro j ⟨I1, J1⟩ hj ⟨a1, a2, a3⟩
    have a1 : ∀ i, i < j → I1 17 i = LK P K i := a1
    have a2 : ∀ q, q ≠ 17 → I1 q = I q := a2
    have a3 : J1 = uj J 0 25 (lkK P K j) := a3
    obtain ⟨s1, s2⟩ := nxi_sp hP (lkK P K j)
    refine Or.inr ⟨(ui I1 17 j (LK P K j), uj J1 0 25 (lkK P K (j + 1))), ⟨fun i hi => ?_, fun q hq => ?_, ?_⟩, nxi P (lkK P K j) + 2, fun n hn => ?_⟩
    · show ui I1 17 j (LK P K j) 17 i = _
      rw [ui_at]
      by_cases e : i = j
      · rw [if_pos ⟨rfl, e⟩, e]
      · rw [if_neg (fun h => e h.2)]; exact a1 i (by omega)
    · show ui I1 17 j (LK P K j) q = _
      rw [ui_else _ _ _ hq]; exact a2 q hq
    · show uj J1 0 25 (lkK P K (j + 1)) = _
      rw [a3, uj_uj]
    · show ff_M_makeLocks_7 (n + 1) I1 J1 K (Int32.ofNat j) = _
      have hb := sm_in (j := j) (N := 52) hj (by omega)
      rw [ff_M_makeLocks_7, if_neg (by rw [show (52 : Int32) = Int32.ofNat 52 from rfl, nb_le (by omega) (by omega)]; omega), if_pos hb, sm_nat (by omega)]
      rw [M_lk20 hP _ K hj (nxi P (lkK P K j)) n _ _ (lkK P K j) (by rw [ui_at, if_neg (by omega), a2 0 (by omega)]; exact h1) (by rw [ui_at, if_neg (by omega), a2 0 (by omega)]; exact h2) (by rw [a3, uj_at, if_pos ⟨rfl, rfl⟩]) (by
        rw [ui_at, if_pos ⟨rfl, rfl⟩]
        rintro ⟨e, h, g⟩
        have := (nb_inj (x := 0) (by omega) (by obtain ⟨p1, p2, _⟩ := hP; have := g.2.1; omega)).mp h
        have := g.1
        omega) s1 s2 (by omega), ui_ui]
      rfl
theorem c_mil {j : Nat} (h : j < 1000000) : ¬ (1000000 : Int32) ≤ Int32.ofNat j := fun g => by have := (nb_le (x := 1000000) (by omega) (by omega)).mp g; omega
theorem c_mil2 : (1000000 : Int32) ≤ Int32.ofNat 1000000 := (nb_le (x := 1000000) (by omega) (by omega)).mpr (Nat.le_refl _)
/-- the row of the object: each an EXPONENT -/
theorem D_nextExp {P M : Nat} (hP : TP P) (m1 : ∀ j, j < M → ¬ (1000000 : Int32) ≤ Int32.ofNat j) (m2 : (1000000 : Int32) ≤ Int32.ofNat M) (I : MI) : ∀ (k j : Nat) (J : MJ), j + k = M → ∃ r, Ev (fun n => ff_D_nextExponent_2 n I J (Int32.ofNat P) (Int32.ofNat j)) r ∧ XP P r.1 ∧ r.2.1 = I ∧ ∀ x, x ≠ 39 → r.2.2 x = J x := by
  have hP' := hP
  obtain ⟨p1, p2, p3, _⟩ := hP'
  have x3 : XP P 3 := ⟨3, rfl, by unfold XN; omega⟩
  intro k
  induction k with
  | zero =>
    intro j J hj
    refine ⟨(3, I, J), Ev.suc (Ev.now fun n => ?_), x3, rfl, fun x _ => rfl⟩
    have hj : j = M := by omega
    rw [hj, ff_D_nextExponent_2, if_pos m2]
  | succ k ih =>
    intro j J hj
    have c1 : ¬ (1000000 : Int32) ≤ Int32.ofNat j := m1 j (by omega)
    have c2 : ¬ Int32.ofNat P ≤ 4 := by rw [show (4 : Int32) = Int32.ofNat 4 from rfl, nb_le (by omega) (by omega)]; omega
    have hf : ∀ x, x ≠ 39 → uj J 39 0 (kx (J 39 0)) x = J x := fun x hx => uj_else J _ _ hx
    have hx := ev_lt hP (J 39 0) 0
    have e1 : kxi (J 39 0) (0 + 1) = kx (J 39 0) := by simp only [kxi]
    unfold ev at hx
    rw [e1] at hx
    revert hx
    generalize hz : 3 + kn (kx (J 39 0)) / 8589934592 % (P - 4) = z
    intro hx
    by_cases g : XN P z
    · refine ⟨(Int32.ofNat z, I, uj J 39 0 (kx (J 39 0))), Ev.suc (Ev.now fun n => ?_), ⟨z, rfl, g⟩, rfl, hf⟩
      simp only [ff_D_nextExponent_2, if_neg c1, if_neg c2, D_draw, Option.bind_some, tl]
      rw [if_pos (draw_nz hP), draw_mod hP, three_add, hz, N_isExp1 hP _ g, Option.bind_some, if_neg (by decide)]
    · obtain ⟨r, h1, h2, h3, h4⟩ := ih (j + 1) (uj J 39 0 (kx (J 39 0))) (by omega)
      refine ⟨r, Ev.step (fun n => ?_) h1, h2, h3, fun x hx => (h4 x hx).trans (hf x hx)⟩
      simp only [ff_D_nextExponent_2, if_neg c1, if_neg c2, D_draw, Option.bind_some, tl]
      rw [if_pos (draw_nz hP), draw_mod hP, three_add, hz, N_isExp0 hP _ hx g, Option.bind_some, if_pos rfl, sm_suc]
theorem D_locks {P : Nat} (hP : TP P) (I : MI) (J : MJ) (K : Int64) (v3 : Nat) : ∃ r, Ev (fun n => ff_D_fillLocks n I J K (Int32.ofNat P) v3) r ∧ (∀ j, j < 52 → XP P (r.1 v3 j)) ∧ (∀ x, x ≠ v3 → r.1 x = I x) ∧ ∀ x, x ≠ 39 → r.2 x = J x := by
  have g := Ev.loop0 (α := MI × MJ) (fun n x j => ff_D_fillLocks_13 n x.1 x.2 K (Int32.ofNat P) v3 (Int32.ofNat j)) 52
    (fun j x => (∀ i, i < j → XP P (x.1 v3 i)) ∧ (∀ q, q ≠ v3 → x.1 q = I q) ∧ ∀ q, q ≠ 39 → x.2 q = J q)
    (fun r => (∀ j, j < 52 → XP P (r.1 v3 j)) ∧ (∀ x, x ≠ v3 → r.1 x = I x) ∧ ∀ x, x ≠ 39 → r.2 x = J x)
    (I, uj (va_up J 39 (fun _ => 0)) 39 0 K) ⟨fun i hi => absurd hi (by omega), fun q _ => rfl, fun q hq => by show uj _ 39 0 K q = _; rw [uj_else _ _ _ hq]; exact if_neg hq⟩ ?_ ?_
  · exact g
  · rintro ⟨I1, J1⟩ ⟨a1, a2, a3⟩
    refine ⟨(I1, J1), Ev.suc (Ev.now fun n => ?_), a1, a2, a3⟩
    show ff_D_fillLocks_13 (n + 1) I1 J1 K (Int32.ofNat P) v3 (Int32.ofNat 52) = _
    rw [ff_D_fillLocks_13, if_pos (by decide)]
  · rintro j ⟨I1, J1⟩ hj ⟨a1, a2, a3⟩
    obtain ⟨r, ⟨N, h1⟩, h2, h3, h4⟩ := D_nextExp (M := 1000000) hP (fun j hj => c_mil hj) c_mil2 I1 1000000 0 J1 rfl
    refine Or.inr ⟨(ui I1 v3 j r.1, r.2.2), ⟨fun i hi => ?_, fun q hq => ?_, fun q hq => (h4 q hq).trans (a3 q hq)⟩, N, fun n hn => ?_⟩
    · show XP P (ui I1 v3 j r.1 v3 i)
      rw [ui_at]
      by_cases e : i = j
      · rw [if_pos ⟨rfl, e⟩]; exact h2
      · rw [if_neg (fun h => e h.2)]; exact a1 i (by omega)
    · show ui I1 v3 j r.1 q = I q
      rw [ui_else _ _ _ hq]; exact a2 q hq
    · show ff_D_fillLocks_13 (n + 1) I1 J1 K (Int32.ofNat P) v3 (Int32.ofNat j) = _
      have hb := sm_in (j := j) (N := 52) hj (by omega)
      have h1 : ff_D_nextExponent n I1 J1 (Int32.ofNat P) = some r := h1 n hn
      rw [ff_D_fillLocks_13, if_neg (by rw [show (52 : Int32) = Int32.ofNat 52 from rfl, nb_le (by omega) (by omega)]; omega), h1, Option.bind_some, if_pos hb, sm_nat (by omega), sm_suc, h3]
