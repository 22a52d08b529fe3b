/-! rows of locks, if an EXPONENT always comes in time -/
def LOCKS : Prop := ∀ P, TP P → ∀ K, nxi P K < 1000000
theorem D_nx2 {P M : Nat} (hP : TP P) (m1 : ∀ j, j < M → ¬ (1000000 : Int32) ≤ Int32.ofNat j) (I : MI) : ∀ (d j : Nat) (J : MJ), j + d < M → XN P (ev P (J 39 0) d) → (∀ i, i < d → ¬ XN P (ev P (J 39 0) i)) → Ev (fun n => ff_D_nextExponent_2 n I J (Int32.ofNat P) (Int32.ofNat j)) (Int32.ofNat (ev P (J 39 0) d), I, uj J 39 0 (kxi (J 39 0) (d + 1))) := by
  have hP' := hP
  obtain ⟨p1, p2, p3, _⟩ := hP'
  have c2 : ¬ Int32.ofNat P ≤ 4 := by rw [show (4 : Int32) = Int32.ofNat 4 from rfl, nb_le (by omega) (by omega)]; omega
  intro d
  induction d with
  | zero =>
    intro j J hj hx _
    have c1 := m1 j (by omega)
    have e1 : kxi (J 39 0) (0 + 1) = kx (J 39 0) := by simp only [kxi]
    have hz : 3 + kn (kx (J 39 0)) / 8589934592 % (P - 4) = ev P (J 39 0) 0 := by unfold ev; rw [e1]
    rw [e1]
    revert hx hz
    generalize ev P (J 39 0) 0 = z
    intro hx hz
    refine Ev.suc (Ev.now fun n => ?_)
    simp only [ff_D_nextExponent_2, if_neg c1, if_neg c2, D_draw, Option.bind_some, tl]
    rw [if_pos (draw_nz hP), draw_mod hP, three_add, hz, N_isExp1 hP _ hx, Option.bind_some, if_neg (by decide)]
  | succ d ih =>
    intro j J hj hx hl
    have c1 := m1 j (by omega)
    have e1 : kxi (J 39 0) (0 + 1) = kx (J 39 0) := by simp only [kxi]
    have hz : 3 + kn (kx (J 39 0)) / 8589934592 % (P - 4) = ev P (J 39 0) 0 := by unfold ev; rw [e1]
    have l0 := hl 0 (by omega)
    have lt0 := ev_lt hP (J 39 0) 0
    have u0 : (uj J 39 0 (kx (J 39 0))) 39 0 = kx (J 39 0) := by rw [uj_at, if_pos ⟨rfl, rfl⟩]
    have e3 : ∀ i, ev P (kx (J 39 0)) i = ev P (J 39 0) (i + 1) := fun i => by unfold ev; rw [kxi_sh]
    have g := ih (j + 1) (uj J 39 0 (kx (J 39 0))) (by omega) (by rw [u0, e3]; exact hx) (fun i hi => by rw [u0, e3]; exact hl (i + 1) (by omega))
    rw [u0, e3, uj_uj, kxi_sh] at g
    revert l0 lt0 hz
    generalize ev P (J 39 0) 0 = z
    intro hz l0 lt0
    refine Ev.step (fun n => ?_) g
    simp only [ff_D_nextExponent_2, if_neg c1, if_neg c2, D_draw, Option.bind_some, tl]
    rw [if_pos (draw_nz hP), draw_mod hP, three_add, hz, N_isExp0 hP _ lt0 l0, Option.bind_some, if_pos rfl, sm_suc]
theorem D_lk2 (hL : LOCKS) {P : Nat} (hP : TP P) (I : MI) (J : MJ) (K : Int64) (v3 : Nat) : ∃ r, Ev (fun n => ff_D_fillLocks n I J K (Int32.ofNat P) v3) r ∧ ∀ j, j < 52 → r.1 v3 j = LK P K j := by
  have g := Ev.loop0 (α := MI × MJ) (fun n x j => ff_D_fillLocks_13 n x.1 x.2 K (Int32.ofNat P) v3 (Int32.ofNat j)) 52
    (fun j x => (∀ i, i < j → x.1 v3 i = LK P K i) ∧ x.2 39 0 = lkK P K j)
    (fun r => ∀ j, j < 52 → r.1 v3 j = LK P K j)
    (I, uj (va_up J 39 (fun _ => 0)) 39 0 K) ⟨fun i hi => absurd hi (by omega), by dsimp only; rw [uj_at, if_pos ⟨rfl, rfl⟩]; rfl⟩ ?_ ?_
  · exact g
  · rintro ⟨I1, J1⟩ ⟨a1, a2⟩
    refine ⟨(I1, J1), Ev.suc (Ev.now fun n => ?_), a1⟩
    show ff_D_fillLocks_13 (n + 1) I1 J1 K (Int32.ofNat P) v3 (Int32.ofNat 52) = _
    rw [ff_D_fillLocks_13, if_pos (by decide)]
  · rintro j ⟨I1, J1⟩ hj ⟨a1, a2⟩
    have a2 : J1 39 0 = lkK P K j := a2
    obtain ⟨s1, s2⟩ := nxi_sp hP (lkK P K j)
    have hl := hL P hP (lkK P K j)
    have nx := D_nx2 (M := 1000000) hP (fun j hj => c_mil hj) I1 (nxi P (lkK P K j)) 0 J1 (by omega) (by rw [a2]; exact s1) (by rw [a2]; exact s2)
    rw [a2] at nx
    obtain ⟨N, nx⟩ := nx
    refine Or.inr ⟨(ui I1 v3 j (LK P K j), uj J1 39 0 (lkK P K (j + 1))), ⟨fun i hi => ?_, ?_⟩, N, fun n hn => ?_⟩
    · show ui I1 v3 j (LK P K j) v3 i = _
      rw [ui_at]
      by_cases e : i = j
      · rw [if_pos ⟨rfl, e⟩, e]
      · rw [if_neg (fun h => e h.2)]; exact a1 i (by omega)
    · show uj J1 39 0 (lkK P K (j + 1)) 39 0 = _
      rw [uj_at, if_pos ⟨rfl, rfl⟩]
    · show ff_D_fillLocks_13 (n + 1) I1 J1 K (Int32.ofNat P) v3 (Int32.ofNat j) = _
      have hb := sm_in (j := j) (N := 52) hj (by omega)
      have nx : ff_D_nextExponent n I1 J1 (Int32.ofNat P) = some (LK P K j, I1, uj J1 39 0 (lkK P K (j + 1))) := nx n hn
      rw [ff_D_fillLocks_13, if_neg (by rw [show (52 : Int32) = Int32.ofNat 52 from rfl, nb_le (by omega) (by omega)]; omega), nx, Option.bind_some, if_pos hb, sm_nat (by omega), sm_suc]
