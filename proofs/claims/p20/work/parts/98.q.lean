def tot (c h : Nat → Nat) (s : Nat) : Nat := sumN (fun k => c k + h k) s
theorem pot_le (h : Nat → Nat) (s : Nat) : potN h (lsN h s) s ≤ sumN h s := sum_le _ s fun k hk => by
  by_cases e : 0 < h k
  · rw [if_pos e]; exact ((ls_sp h s).2.1 k hk e).2
  · rw [if_neg e]; exact Nat.zero_le _
theorem h_le_tot (c h : Nat → Nat) (s : Nat) : sumN h s ≤ tot c h s := sum_le _ s fun k _ => Nat.le_add_left _ _
theorem h_bd {c h : Nat → Nat} {s : Nat} (ht : tot c h s ≤ 400000) : ∀ k, k < s → h k ≤ 400000 := fun k hk => by
  have h1 := le_sum (fun k => c k + h k) s k hk
  have h2 : sumN (fun k => c k + h k) s ≤ 400000 := ht
  have h3 : c k + h k ≤ sumN (fun k => c k + h k) s := h1
  omega
theorem tot_split (c h : Nat → Nat) : ∀ s, tot c h s = sumN c s + sumN h s
  | 0 => rfl
  | s + 1 => by
    have := tot_split c h s
    unfold tot at *
    rw [sumN, sumN, sumN, this]
    omega
/-- a layer gives all that it takes -/
theorem lay_tot (fo : Nat → Int32) (v : Int32) (s : Nat) (c h : Nat → Nat) : tot (layC fo h v s c) (layH h s) s = tot c h s := by
  have lsp := (ls_sp h s).2.1
  have hH : ∀ j, j ≤ s → sumN (layH h s) j + potN h (lsN h s) j = sumN h j := by
    intro j hj
    induction j with
    | zero => rfl
    | succ j ih =>
      have ih := ih (by omega)
      unfold potN at *
      rw [sumN, sumN, sumN]
      have e : layH h s j + (if 0 < h j then lsN h s else 0) = h j := by
        unfold layH
        by_cases z : 0 < h j
        · rw [if_pos ⟨by omega, z⟩, if_pos z]
          have := (lsp j (by omega) z).2
          omega
        · rw [if_neg (by omega), if_neg z]; omega
      omega
  have hHs := hH s (Nat.le_refl _)
  rw [tot_split, tot_split]
  generalize hB : bsF fo h v s = B
  generalize hW : wnB fo h v B = wn
  have lc : ∀ k, layC fo h v s c k = if k < s ∧ 0 < h k then (if cnB wn s = 0 then c k + lsN h s else if wn k then c k + (potN h (lsN h s) s / cnB wn s + (if cnB wn k = 0 then potN h (lsN h s) s % cnB wn s else 0)) else c k) else c k := fun k => by unfold layC; rw [hB, hW]
  by_cases z : cnB wn s = 0
  · have hC : ∀ j, j ≤ s → sumN (layC fo h v s c) j = sumN c j + potN h (lsN h s) j := by
      intro j hj
      induction j with
      | zero => rfl
      | succ j ih =>
        have ih := ih (by omega)
        have e : layC fo h v s c j = c j + (if 0 < h j then lsN h s else 0) := by
          rw [lc]
          by_cases q : 0 < h j
          · rw [if_pos ⟨by omega, q⟩, if_pos z, if_pos q]
          · rw [if_neg (by omega), if_neg q]; rfl
        unfold potN at *
        rw [sumN, sumN, sumN, e]
        omega
    have := hC s (Nat.le_refl _)
    omega
  · have winh : ∀ k, wn k = true → 0 < h k := fun k e => by
      rw [← hW] at e
      unfold wnB inf at e
      simp at e
      exact e.1.2
    have hC : ∀ j, j ≤ s → sumN (layC fo h v s c) j = sumN c j + (potN h (lsN h s) s / cnB wn s * cnB wn j + if cnB wn j = 0 then 0 else potN h (lsN h s) s % cnB wn s) := by
      intro j hj
      induction j with
      | zero => rfl
      | succ j ih =>
        have ih := ih (by omega)
        have cs : cnB wn (j + 1) = cnB wn j + if wn j then 1 else 0 := by unfold cnB; rw [sumN]
        cases e : wn j with
        | false =>
          have l : layC fo h v s c j = c j := by
            rw [lc j]
            by_cases q : j < s ∧ 0 < h j
            · rw [if_pos q, if_neg z, if_neg (by rw [e]; decide)]
            · rw [if_neg q]
          rw [sumN, sumN, ih, l, cs, e]
          simp only [Bool.false_eq_true, if_false, Nat.add_zero]
          omega
        | true =>
          have l : layC fo h v s c j = c j + (potN h (lsN h s) s / cnB wn s + (if cnB wn j = 0 then potN h (lsN h s) s % cnB wn s else 0)) := by
            rw [lc j, if_pos (show j < s ∧ 0 < h j from ⟨by omega, winh j e⟩), if_neg z, if_pos e]
          rw [sumN, sumN, ih, l, cs, e]
          simp only [if_true, Nat.mul_add, Nat.mul_one]
          by_cases q : cnB wn j = 0
          · simp only [q, if_true, Nat.mul_zero, if_neg (show ¬ 0 + 1 = 0 by decide)]; omega
          · simp only [if_neg q, if_neg (show ¬ cnB wn j + 1 = 0 by omega)]; omega
    have hs := hC s (Nat.le_refl _)
    rw [if_neg z, Nat.div_add_mod'] at hs
    omega
def itr (fo : Nat → Int32) (v : Int32) (s : Nat) : Nat → (Nat → Nat) × (Nat → Nat) → (Nat → Nat) × (Nat → Nat)
  | 0, x => x
  | k + 1, x => itr fo v s k (layC fo x.2 v s x.1, layH x.2 s)
theorem O_pay {s : Nat} {fo : Nat → Int32} {c h : Nat → Nat} (I : MI) (J : MJ) (hM : MO s fo c h I) (hs : I 0 2 = Int32.ofNat s) (s4 : s ≤ 4) (ht : tot c h s ≤ 400000) (v : Int32) : ∃ r, Ev (fun n => ff_O_payLayer n I J (Int32.ofNat (lsN h s)) v) r ∧ MO s fo (layC fo h v s c) (layH h s) r.1 ∧ r.1 0 = I 0 ∧ (∀ x y, 2 ≤ y → r.1 x y = I x y) ∧ (∀ x, (∀ k, k < s → x ≠ 15 + 6 * k) → r.1 x = I x) ∧ r.2 = J := by
  have hh := h_bd ht
  have pl := pot_le h s
  have hl := h_le_tot c h s
  have bs := O_best J hM hs s4 hh v
  have fin := fun v4 => O_lay92 I J hM hs s4 hh v v4
  generalize hB : bsF fo h v s = B at bs fin
  generalize hW : wnB fo h v B = wn at fin
  have cl := cnB_le wn
  have H := Ev.loop0 (α := Int32 × Int32) (fun n x j => ff_O_payLayer_15 n I J (Int32.ofNat (lsN h s)) v B x.1 x.2 (Int32.ofNat j)) s (fun j x => x.1 = Int32.ofNat (potN h (lsN h s) j) ∧ x.2 = Int32.ofNat (cnB wn j))
    (fun r => MO s fo (layC fo h v s c) (layH h s) r.1 ∧ r.1 0 = I 0 ∧ (∀ x y, 2 ≤ y → r.1 x y = I x y) ∧ (∀ x, (∀ k, k < s → x ≠ 15 + 6 * k) → r.1 x = I x) ∧ r.2 = J) (0, 0) ⟨rfl, rfl⟩ ?_ ?_
  · obtain ⟨r, r1, r2⟩ := H
    refine ⟨r, ?_, r2⟩
    unfold ff_O_payLayer
    refine Ev.bind bs ?_
    exact r1
  · rintro ⟨x, y⟩ ⟨a1, a2⟩
    have a1 : x = Int32.ofNat (potN h (lsN h s) s) := a1
    have a2 : y = Int32.ofNat (cnB wn s) := a2
    subst a1 a2
    have cs := cl s
    obtain ⟨r, r1, r2⟩ := fin (Int32.ofNat (potN h (lsN h s) s))
    refine ⟨r, Ev.step (fun n => ?_) r1, r2⟩
    dsimp only
    rw [ff_O_payLayer_15, hs, if_pos ((q_cl s4 (by omega)).mpr (Nat.le_refl _))]
    unfold ff_O_payLayer_77 tl
    by_cases z : cnB wn s = 0
    · rw [if_pos ((q_le0 (by omega)).mpr z), z, Nat.div_zero, Nat.mod_zero]
      show ff_O_payLayer_92 n I J _ v B _ _ (Int32.ofNat 0) (Int32.ofNat (potN h (lsN h s) s) - 0 * Int32.ofNat 0) 0 = _
      rw [Int32.zero_mul, Int32.sub_zero]
    · have nz : ¬ Int32.ofNat (cnB wn s) = 0 := fun q => z ((nb_inj (y := 0) (by omega) (by omega)).mp q)
      rw [if_neg (by rw [q_le0 (by omega)]; exact z), if_pos nz, tr_mod (by omega) (by omega), ← Int32.ofNat_div (by omega) (by omega)]
  · rintro j ⟨x, y⟩ hj ⟨a1, a2⟩
    have a1 : x = Int32.ofNat (potN h (lsN h s) j) := a1
    have a2 : y = Int32.ofNat (cnB wn j) := a2
    subst a1 a2
    have hj4 := hh j hj
    have win := fun n => O_wins J n hM s4 hj hj4 v B
    rw [hW] at win
    refine Or.inr ⟨(Int32.ofNat (potN h (lsN h s) (j + 1)), Int32.ofNat (cnB wn (j + 1))), ⟨rfl, rfl⟩, 0, fun n _ => ?_⟩
    dsimp only
    simp only [ff_O_payLayer_15, hs, if_neg (show ¬ Int32.ofNat s ≤ Int32.ofNat j by rw [q_cl s4 (by omega)]; omega), if_pos (sm_i2 (j := j) (N := 4) (by omega) (by omega)), sm_nat (j := j) (by omega), (hM j hj).2.1, tl, ff_O_payLayer_43, win, Option.bind_some, sm_suc, potN, cnB, sumN]
    by_cases z : h j = 0
    · rw [if_pos ((q_le0 (by omega)).mpr z), if_neg (show ¬ 0 < h j by omega)]
      cases wn j <;> simp
    · rw [if_neg (by rw [q_le0 (by omega)]; exact z), if_pos (show 0 < h j by omega), ← Int32.ofNat_add]
      cases wn j <;> simp
theorem O_settle20 {s : Nat} {fo : Nat → Int32} (s4 : s ≤ 4) (J : MJ) (v : Int32) : ∀ (k j : Nat) (I : MI) (c h : Nat → Nat), j + k = s → MO s fo c h I → I 0 2 = Int32.ofNat s → tot c h s ≤ 400000 → ∃ r, Ev (fun n => ff_O_settle_20 n I J v (Int32.ofNat j)) r ∧ r.1 = 1 ∧ r.2.2 = J ∧ MO s fo (itr fo v s k (c, h)).1 (itr fo v s k (c, h)).2 r.2.1 ∧ r.2.1 0 1 = 5 ∧ (∀ y, y ≠ 1 → r.2.1 0 y = I 0 y) ∧ (∀ x y, x ≠ 0 → 2 ≤ y → r.2.1 x y = I x y) ∧ (∀ x, x ≠ 0 → (∀ k, k < s → x ≠ 15 + 6 * k) → r.2.1 x = I x) := by
  intro k
  induction k with
  | zero =>
    intro j I c h hj hM hs ht
    refine ⟨(1, ui I 0 1 5, J), Ev.suc (Ev.now fun n => ?_), rfl, rfl, fun i hi => ?_, by dsimp only; rw [ui_at, if_pos ⟨rfl, rfl⟩], fun y hy => by dsimp only; rw [ui_at, if_neg (by omega)], fun x y x0 _ => by dsimp only; rw [ui_else _ _ _ x0], fun x x0 _ => by dsimp only; rw [ui_else _ _ _ x0]⟩
    · rw [ff_O_settle_20, hs, if_pos ((q_cl s4 (by omega)).mpr (by omega))]
    · dsimp only
      rw [ui_else _ _ _ (by omega)]
      exact hM i hi
  | succ k ih =>
    intro j I c h hj hM hs ht
    have le := O_least J hM hs s4 (h_bd ht)
    obtain ⟨q, q1, q2, q3, q4, q5, q6⟩ := O_pay I J hM hs s4 ht v
    obtain ⟨r, r1, r2, r3, r4, r5, r6, r7, r8⟩ := ih (j + 1) q.1 (layC fo h v s c) (layH h s) (by omega) q2 (by rw [q3]; exact hs) (by rw [lay_tot]; exact ht)
    refine ⟨r, ?_, r2, r3, r4, r5, fun y hy => by rw [r6 y hy, q3], fun x y x0 hy => by rw [r7 x y x0 hy, q4 x y hy], fun x x0 hx => by rw [r8 x x0 hx, q5 x hx]⟩
    refine Ev.step (g := fun n => (ff_O_leastInHand n I J).bind fun r2 => (ff_O_payLayer n I J r2 v).bind fun r3 => ff_O_settle_20 n r3.1 r3.2 v (Int32.ofNat (j + 1))) (fun n => ?_) ?_
    · rw [ff_O_settle_20, hs, if_neg (by rw [q_cl s4 (by omega)]; omega), sm_suc]
    · refine Ev.bind le ?_
      refine Ev.bind q1 ?_
      rw [q6]
      exact r1
