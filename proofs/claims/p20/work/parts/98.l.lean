/-! rounds: who acts next -/
def caB (fo : Nat → Int32) (c : Nat → Nat) (k : Nat) : Bool := decide (fo k = 0) && decide (0 < c k)
def cnB (f : Nat → Bool) : Nat → Nat := sumN fun k => if f k then 1 else 0
theorem cnB_le (f : Nat → Bool) : ∀ s, cnB f s ≤ s
  | 0 => Nat.le_refl _
  | s + 1 => by
    have := cnB_le f s
    unfold cnB at *
    rw [sumN]
    split <;> omega
theorem cnB_mono (f f' : Nat → Bool) (s : Nat) (h : ∀ k, k < s → f k = true → f' k = true) : cnB f s ≤ cnB f' s := by
  refine sum_le _ s fun k hk => ?_
  cases e : f k with
  | false => simp
  | true => rw [h k hk e]; exact Nat.le_refl _
theorem O_can {I : MI} (J : MJ) (n : Nat) {fo : Nat → Int32} {c : Nat → Nat} {k : Nat} (h3 : I (15 + 6 * k) 3 = fo k) (h0 : I (15 + 6 * k) 0 = Int32.ofNat (c k)) (hc : c k ≤ 400000) : ff_P_canAct n I J (15 + 6 * k) = some (if caB fo c k then 1 else 0) := by
  unfold ff_P_canAct caB
  rw [h3, h0]
  by_cases e : fo k = 0
  · rw [if_pos e]
    by_cases z : c k = 0
    · rw [if_pos ((q_le0 (by omega)).mpr z)]; simp [e, z]
    · rw [if_neg (by rw [q_le0 (by omega)]; exact z)]; simp [e, show 0 < c k by omega]
  · rw [if_neg e]; simp [e]
theorem M_can {I : MI} (J : MJ) (n : Nat) {fo : Nat → Int32} {c : Nat → Nat} {k : Nat} (hk : k < 4) (h3 : fo k = 0 ↔ ¬ I 20 k = 0) (h0 : I 1 k = Int32.ofNat (c k)) (hc : c k ≤ 400000) : ff_M_canAct n I J (Int32.ofNat k) = some (if caB fo c k then 1 else 0) := by
  unfold ff_M_canAct caB
  simp only [sm_nat (j := k) (by omega), if_pos (sm_i2 (j := k) (N := 4) hk (by omega)), h0]
  by_cases e : I 20 k = 0
  · rw [if_pos e]; simp [show ¬ fo k = 0 from fun h => h3.mp h e]
  · rw [if_neg e]
    have e := h3.mpr e
    by_cases z : c k = 0
    · rw [if_pos ((q_le0 (by omega)).mpr z)]; simp [z]
    · rw [if_neg (by rw [q_le0 (by omega)]; exact z)]; simp [e, show 0 < c k by omega]
theorem O_able {s : Nat} {fo : Nat → Int32} {c : Nat → Nat} {I : MI} (J : MJ) (hs : I 0 2 = Int32.ofNat s) (s4 : s ≤ 4) (h : ∀ k, k < s → I (15 + 6 * k) 3 = fo k ∧ I (15 + 6 * k) 0 = Int32.ofNat (c k) ∧ c k ≤ 400000) : Ev (fun n => ff_O_countAbleToAct n I J) (Int32.ofNat (cnB (caB fo c) s)) := by
  have H := Ev.loop0 (α := Int32) (fun n x j => ff_O_countAbleToAct_4 I J n x (Int32.ofNat j)) s (fun j x => x = Int32.ofNat (cnB (caB fo c) j)) (fun v => v = Int32.ofNat (cnB (caB fo c) s)) 0 rfl ?_ ?_
  · obtain ⟨b, h1, h2⟩ := H
    rw [h2] at h1; exact h1
  · rintro x rfl
    exact ⟨_, Ev.suc (Ev.now fun n => by rw [ff_O_countAbleToAct_4, hs, if_pos ((q_cl s4 (by omega)).mpr (Nat.le_refl _))]), rfl⟩
  · rintro j x hj rfl
    obtain ⟨e1, e2, e3⟩ := h j hj
    refine Or.inr ⟨_, rfl, 0, fun n _ => ?_⟩
    simp only [ff_O_countAbleToAct_4, hs, if_neg (show ¬ Int32.ofNat s ≤ Int32.ofNat j by rw [q_cl s4 (by omega)]; omega), if_pos (sm_i2 (j := j) (N := 4) (by omega) (by omega)), sm_nat (j := j) (by omega), O_can J n e1 e2 e3, Option.bind_some, sm_suc, cnB, sumN]
    cases caB fo c j <;> simp
theorem O_in {s : Nat} {fo : Nat → Int32} {I : MI} (J : MJ) (hs : I 0 2 = Int32.ofNat s) (s4 : s ≤ 4) (h : ∀ k, k < s → I (15 + 6 * k) 3 = fo k) : Ev (fun n => ff_O_countIn n I J) (Int32.ofNat (cnB (fun k => decide (fo k = 0)) s)) := by
  have H := Ev.loop0 (α := Int32) (fun n x j => ff_O_countIn_4 I J n x (Int32.ofNat j)) s (fun j x => x = Int32.ofNat (cnB (fun k => decide (fo k = 0)) j)) (fun v => v = Int32.ofNat (cnB (fun k => decide (fo k = 0)) s)) 0 rfl ?_ ?_
  · obtain ⟨b, h1, h2⟩ := H
    rw [h2] at h1; exact h1
  · rintro x rfl
    exact ⟨_, Ev.suc (Ev.now fun n => by rw [ff_O_countIn_4, hs, if_pos ((q_cl s4 (by omega)).mpr (Nat.le_refl _))]), rfl⟩
  · rintro j x hj rfl
    refine Or.inr ⟨_, rfl, 0, fun n _ => ?_⟩
    simp only [ff_O_countIn_4, hs, if_neg (show ¬ Int32.ofNat s ≤ Int32.ofNat j by rw [q_cl s4 (by omega)]; omega), if_pos (sm_i2 (j := j) (N := 4) (by omega) (by omega)), sm_nat (j := j) (by omega), h j hj, sm_suc, cnB, sumN]
    by_cases e : fo j = 0
    · simp [e]
    · simp [e]
theorem M_many {s : Nat} {fo : Nat → Int32} {I : MI} (J : MJ) (hs : I 0 3 = Int32.ofNat s) (s4 : s ≤ 4) (h : ∀ k, k < s → (fo k = 0 ↔ ¬ I 20 k = 0)) : Ev (fun n => ff_M_many n I J) (Int32.ofNat (cnB (fun k => decide (fo k = 0)) s)) := by
  have H := Ev.loop0 (α := Int32) (fun n x j => ff_M_many_4 I J n x (Int32.ofNat j)) s (fun j x => x = Int32.ofNat (cnB (fun k => decide (fo k = 0)) j)) (fun v => v = Int32.ofNat (cnB (fun k => decide (fo k = 0)) s)) 0 rfl ?_ ?_
  · obtain ⟨b, h1, h2⟩ := H
    rw [h2] at h1; exact h1
  · rintro x rfl
    exact ⟨_, Ev.suc (Ev.now fun n => by rw [ff_M_many_4, hs, if_pos ((q_cl s4 (by omega)).mpr (Nat.le_refl _))]), rfl⟩
  · rintro j x hj rfl
    refine Or.inr ⟨_, rfl, 0, fun n _ => ?_⟩
    simp only [ff_M_many_4, hs, if_neg (show ¬ Int32.ofNat s ≤ Int32.ofNat j by rw [q_cl s4 (by omega)]; omega), if_pos (sm_i2 (j := j) (N := 4) (by omega) (by omega)), sm_nat (j := j) (by omega), sm_suc, tl, cnB, sumN]
    by_cases e : I 20 j = 0
    · simp [e, show ¬ fo j = 0 from fun q => (h j hj).mp q e]
    · simp [e, (h j hj).mpr e]
/-- the next one, around -/
def nxP (f : Nat → Bool) (fr s : Nat) (v : Int32) : Prop := (∃ i, i < s ∧ f ((fr + i) % s) = true ∧ (∀ i', i' < i → f ((fr + i') % s) = false) ∧ v = Int32.ofNat ((fr + i) % s)) ∨ ((∀ i, i < s → f ((fr + i) % s) = false) ∧ v = -1)
theorem nxP_one {f : Nat → Bool} {fr s : Nat} {v v' : Int32} (h : nxP f fr s v) (h' : nxP f fr s v') : v = v' := by
  rcases h with ⟨i, hi, a1, a2, rfl⟩ | ⟨a1, rfl⟩ <;> rcases h' with ⟨i', hi', b1, b2, rfl⟩ | ⟨b1, rfl⟩
  · have := lst_one (p := fun i => f ((fr + i) % s) = true) a1 (fun j hj => by rw [a2 j hj]; decide) b1 (fun j hj => by rw [b2 j hj]; decide)
    rw [this]
  · exact absurd a1 (by rw [b1 i hi]; decide)
  · exact absurd b1 (by rw [a1 i' hi']; decide)
  · rfl
def yaB (fo at' : Nat → Int32) (c : Nat → Nat) (k : Nat) : Bool := caB fo c k && decide (at' k = 0)
theorem O_nx {s fr : Nat} {fo at' : Nat → Int32} {c : Nat → Nat} {I : MI} (J : MJ) (hs : I 0 2 = Int32.ofNat s) (s4 : s ≤ 4) (hfr : fr ≤ s) (h : ∀ k, k < s → I (15 + 6 * k) 3 = fo k ∧ I (15 + 6 * k) 0 = Int32.ofNat (c k) ∧ c k ≤ 400000 ∧ I (15 + 6 * k) 4 = at' k) (v1 : Int32) (hv : ∀ i, v1 + Int32.ofNat (i + 1) = Int32.ofNat (fr + i)) : ∃ v, Ev (fun n => ff_O_nextToAct n I J v1) v ∧ nxP (yaB fo at' c) fr s v := by
  refine Ev.loop0 (α := Unit) (fun n _ j => ff_O_nextToAct_2 I J n v1 (Int32.ofNat (j + 1))) s (fun j _ => ∀ i, i < j → yaB fo at' c ((fr + i) % s) = false) _ () (fun i hi => absurd hi (by omega)) ?_ ?_
  · intro _ a
    refine ⟨-1, Ev.suc (Ev.now fun n => ?_), Or.inr ⟨a, rfl⟩⟩
    rw [ff_O_nextToAct_2, hs, if_pos ((q_lt (by omega) (by omega)).mpr (by omega))]
  · intro j _ hj a
    have sp : 0 < s := by omega
    have hk : (fr + j) % s < s := Nat.mod_lt _ sp
    have hd : (fr + j) % s = if s ≤ fr + j then fr + j - s else fr + j := by
      split
      · next q =>
        rw [Nat.mod_eq_sub_mod q]
        by_cases e : fr + j - s = s
        · omega
        · exact Nat.mod_eq_of_lt (by omega)
      · next q => exact Nat.mod_eq_of_lt (by omega)
    generalize hK : (fr + j) % s = k at hk hd
    obtain ⟨e1, e2, e3, e4⟩ := h k hk
    have head : ∀ n, ff_O_nextToAct_2 I J (n + 1) v1 (Int32.ofNat (j + 1)) = ff_O_nextToAct_34 I J (ff_O_nextToAct_2 I J n) n v1 (Int32.ofNat (j + 1)) (Int32.ofNat k) := fun n => by
      rw [ff_O_nextToAct_2, hs, if_neg (by rw [q_lt (by omega) (by omega)]; omega), hv j]
      by_cases q : s ≤ fr + j
      · rw [if_pos ((nb_le (by omega) (by omega)).mpr q), q_sub q, hd, if_pos q]
      · rw [if_neg (by rw [nb_le (by omega) (by omega)]; exact q), hd, if_neg q]
    have tail : ∀ (kk : Int32 → Int32 → Option Int32) n, ff_O_nextToAct_34 I J kk n v1 (Int32.ofNat (j + 1)) (Int32.ofNat k) = if yaB fo at' c k then some (Int32.ofNat k) else kk v1 (Int32.ofNat (j + 1 + 1)) := fun kk n => by
      simp only [ff_O_nextToAct_34, O_seat1 n J hs s4 hk, Option.bind_some, if_neg (show ¬ (1 : Int32) = 0 by decide), sm_nat (j := k) (by omega), if_pos (sm_i2 (j := k) (N := 4) (by omega) (by omega)), O_can J n e1 e2 e3, e4, sm_suc]
      unfold yaB
      cases caB fo c k with
      | false => simp
      | true =>
        by_cases q : at' k = 0
        · simp [q]
        · simp [q]
    cases q : yaB fo at' c k with
    | true =>
      refine Or.inl ⟨Int32.ofNat k, Ev.suc (Ev.now fun n => ?_), Or.inl ⟨j, hj, by rw [hK]; exact q, a, by rw [hK]⟩⟩
      rw [head n, tail, q]; rfl
    | false =>
      refine Or.inr ⟨(), fun i hi => ?_, 0, fun n _ => ?_⟩
      · by_cases e : i = j
        · subst e; rw [hK]; exact q
        · exact a i (by omega)
      · rw [head n, tail, q]; rfl
theorem M_endRound (I : MI) (J : MJ) : ∃ r, Ev (fun n => ff_M_endRound n I J) r ∧ r.1 0 30 = 0 ∧ r.1 0 31 = -1 ∧ (∀ y, y ≠ 30 → y ≠ 31 → r.1 0 y = I 0 y) ∧ (∀ x, x ≠ 0 → x ≠ 22 → r.1 x = I x) ∧ r.2 = J := by
  have H := Ev.loop0 (α := MI) (fun n x j => ff_M_endRound_12 n x J (Int32.ofNat j)) 4 (fun _ x => ∀ y, y ≠ 22 → x y = (ui (ui I 0 30 0) 0 31 (-1)) y) (fun r => (∀ y, y ≠ 22 → r.1 y = (ui (ui I 0 30 0) 0 31 (-1)) y) ∧ r.2 = J) (ui (ui I 0 30 0) 0 31 (-1)) (fun _ _ => rfl) ?_ ?_
  · obtain ⟨r, h1, h2, h3⟩ := H
    refine ⟨r, h1, ?_, ?_, fun y y30 y31 => ?_, fun x x0 x22 => ?_, h3⟩
    · rw [h2 0 (by decide), ui_at, if_neg (by omega), ui_at, if_pos ⟨rfl, rfl⟩]
    · rw [h2 0 (by decide), ui_at, if_pos ⟨rfl, rfl⟩]
    · rw [h2 0 (by decide), ui_at, if_neg (by omega), ui_at, if_neg (by omega)]
    · rw [h2 x x22, ui_else _ _ _ x0, ui_else _ _ _ x0]
  · intro I1 a
    exact ⟨(I1, J), Ev.suc (Ev.now fun n => by rw [ff_M_endRound_12, if_pos (by decide)]), a, rfl⟩
  · intro j I1 hj a
    refine Or.inr ⟨ui I1 22 j 0, fun y hy => by rw [ui_else _ _ _ hy]; exact a y hy, 0, fun n _ => ?_⟩
    rw [ff_M_endRound_12, if_neg (q4 hj), if_pos (sm_in (N := 4) hj (by omega)), sm_nat (by omega), sm_suc]
theorem M_fn {s fr : Nat} {fo at' : Nat → Int32} {c : Nat → Nat} {I : MI} (J : MJ) (hs : I 0 3 = Int32.ofNat s) (s2 : 2 ≤ s) (s4 : s ≤ 4) (hfr : fr ≤ s) (h : ∀ k, k < s → (fo k = 0 ↔ ¬ I 20 k = 0) ∧ I 1 k = Int32.ofNat (c k) ∧ c k ≤ 400000 ∧ I 23 k = at' k) : ∃ r v, Ev (fun n => ff_M_findNext n I J (Int32.ofNat fr)) r ∧ nxP (yaB fo at' c) fr s v ∧ r.2 = J ∧ ((v ≠ -1 ∧ 2 ≤ cnB (fun k => decide (fo k = 0)) s ∧ r.1 = ui (ui I 0 31 (-1)) 0 31 v) ∨ ((v = -1 ∨ cnB (fun k => decide (fo k = 0)) s < 2) ∧ r.1 0 30 = 0 ∧ r.1 0 31 = -1 ∧ (∀ y, y ≠ 30 → y ≠ 31 → r.1 0 y = I 0 y) ∧ (∀ x, x ≠ 0 → x ≠ 22 → r.1 x = I x))) := by
  have cl := cnB_le (fun k => decide (fo k = 0)) s
  generalize hX : ui I 0 31 (-1) = X
  have x31 : X 0 31 = -1 := by rw [← hX, ui_at, if_pos ⟨rfl, rfl⟩]
  have x0 : ∀ y, y ≠ 31 → X 0 y = I 0 y := fun y hy => by rw [← hX, ui_at, if_neg (by omega)]
  have xo : ∀ x, x ≠ 0 → X x = I x := fun x hx => by rw [← hX, ui_else _ _ _ hx]
  have e60 : ∀ (v : Int32) (v1 v2 : Int32), ∃ r, Ev (fun n => ff_M_findNext_60 n (ui X 0 31 v) J v1 v2) r ∧ r.2 = J ∧ ((v ≠ -1 ∧ 2 ≤ cnB (fun k => decide (fo k = 0)) s ∧ r.1 = ui X 0 31 v) ∨ ((v = -1 ∨ cnB (fun k => decide (fo k = 0)) s < 2) ∧ r.1 0 30 = 0 ∧ r.1 0 31 = -1 ∧ (∀ y, y ≠ 30 → y ≠ 31 → r.1 0 y = I 0 y) ∧ (∀ x, x ≠ 0 → x ≠ 22 → r.1 x = I x))) := by
    intro v v1 v2
    obtain ⟨r, r1, r2, r3, r4, r5, r6⟩ := M_endRound (ui X 0 31 v) J
    have hr : (r.1 0 30 = 0 ∧ r.1 0 31 = -1 ∧ (∀ y, y ≠ 30 → y ≠ 31 → r.1 0 y = I 0 y) ∧ (∀ x, x ≠ 0 → x ≠ 22 → r.1 x = I x)) := ⟨r2, r3, fun y y30 y31 => by rw [r4 y y30 y31, ui_at, if_neg (by omega), x0 y y31], fun x hx0 x22 => by rw [r5 x hx0 x22, ui_else _ _ _ hx0, xo x hx0]⟩
    have e76 : Ev (fun n => ff_M_findNext_76 n (ui X 0 31 v) J v1 v2) r := by
      unfold ff_M_findNext_76
      exact Ev.bind r1 (Ev.pure _)
    have z31 : (ui X 0 31 v) 0 31 = v := by rw [ui_at, if_pos ⟨rfl, rfl⟩]
    unfold ff_M_findNext_60
    rw [z31]
    by_cases q : v = -1
    · simp only [if_pos q]
      exact ⟨r, e76, r6, Or.inr ⟨Or.inl q, hr⟩⟩
    · simp only [if_neg q]
      have mm := M_many (fo := fo) (I := ui X 0 31 v) J (by rw [ui_at, if_neg (by omega), x0 3 (by decide)]; exact hs) s4 (fun k hk => by rw [ui_else _ _ _ (by decide), xo 20 (by decide)]; exact (h k hk).1)
      have cc : ((2 : Int32) ≤ Int32.ofNat (cnB (fun k => decide (fo k = 0)) s)) ↔ 2 ≤ cnB (fun k => decide (fo k = 0)) s := nb_le (x := 2) (by omega) (by omega)
      by_cases q2 : 2 ≤ cnB (fun k => decide (fo k = 0)) s
      · refine ⟨(ui X 0 31 v, J), ?_, rfl, Or.inl ⟨q, q2, rfl⟩⟩
        refine Ev.bind mm ?_
        simp only [if_pos (cc.mpr q2)]
        exact Ev.pure _
      · refine ⟨r, ?_, r6, Or.inr ⟨Or.inr (by omega), hr⟩⟩
        refine Ev.bind mm ?_
        simp only [if_neg (show ¬ (2 : Int32) ≤ Int32.ofNat (cnB (fun k => decide (fo k = 0)) s) by rw [cc]; exact q2)]
        exact e76
  have H := Ev.loop0 (α := Unit) (fun n _ j => ff_M_findNext_7 n X J (Int32.ofNat fr) (Int32.ofNat j)) s (fun j _ => ∀ i, i < j → yaB fo at' c ((fr + i) % s) = false)
    (fun r => ∃ v, nxP (yaB fo at' c) fr s v ∧ r.2 = J ∧ ((v ≠ -1 ∧ 2 ≤ cnB (fun k => decide (fo k = 0)) s ∧ r.1 = ui X 0 31 v) ∨ ((v = -1 ∨ cnB (fun k => decide (fo k = 0)) s < 2) ∧ r.1 0 30 = 0 ∧ r.1 0 31 = -1 ∧ (∀ y, y ≠ 30 → y ≠ 31 → r.1 0 y = I 0 y) ∧ (∀ x, x ≠ 0 → x ≠ 22 → r.1 x = I x)))) () (fun i hi => absurd hi (by omega)) ?_ ?_
  · obtain ⟨r, h1, v, h2, h3, h4⟩ := H
    refine ⟨r, v, ?_, h2, h3, h4⟩
    unfold ff_M_findNext
    rw [hX]
    exact h1
  · intro _ a
    obtain ⟨r, r1, r2, r3⟩ := e60 (-1) (Int32.ofNat fr) (Int32.ofNat s)
    have xx : ui X 0 31 (-1) = X := by
      funext p q
      rw [ui_at]
      by_cases e : p = 0 ∧ q = 31
      · rw [if_pos e, e.1, e.2, x31]
      · rw [if_neg e]
    rw [xx] at r1 r3
    refine ⟨r, Ev.step (fun n => ?_) r1, -1, Or.inr ⟨a, rfl⟩, r2, ?_⟩
    · rw [ff_M_findNext_7, x0 3 (by decide), hs, if_pos ((q_cl s4 (by omega)).mpr (Nat.le_refl _))]
    · rcases r3 with q | q
      · exact absurd rfl q.1
      · exact Or.inr q
  · intro j _ hj a
    have hk : (fr + j) % s < s := Nat.mod_lt _ (by omega)
    generalize hK : (fr + j) % s = k at hk
    obtain ⟨e1, e2, e3, e4⟩ := h k hk
    have s0 : ¬ Int32.ofNat s = 0 := fun hh => by have := (nb_inj (y := 0) (by omega) (by omega)).mp hh; omega
    have md : (Int32.ofNat fr + Int32.ofNat j) - (Int32.ofNat fr + Int32.ofNat j) / Int32.ofNat s * Int32.ofNat s = Int32.ofNat k := by
      rw [← Int32.ofNat_add, tr_mod (by omega) (by omega), hK]
    have head : ∀ n, ff_M_findNext_7 (n + 1) X J (Int32.ofNat fr) (Int32.ofNat j) = if yaB fo at' c k then ff_M_findNext_7 n (ui X 0 31 (Int32.ofNat k)) J (Int32.ofNat fr) (Int32.ofNat (j + 1)) else ff_M_findNext_7 n X J (Int32.ofNat fr) (Int32.ofNat (j + 1)) := fun n => by
      simp only [ff_M_findNext_7, x0 3 (by decide), hs, if_neg (show ¬ Int32.ofNat s ≤ Int32.ofNat j by rw [q_cl s4 (by omega)]; omega), x31, if_pos s0, tl, md, M_can (I := X) J n (fo := fo) (c := c) (k := k) (by omega) (by rw [xo 20 (by decide)]; exact e1) (by rw [xo 1 (by decide)]; exact e2) e3, Option.bind_some, sm_nat (j := k) (by omega), if_pos (sm_i2 (j := k) (N := 4) (by omega) (by omega)), xo 23 (by decide), e4, sm_suc, if_true]
      unfold yaB
      cases caB fo c k with
      | false => simp
      | true =>
        by_cases q : at' k = 0
        · simp [q]
        · simp [q]
    cases q : yaB fo at' c k with
    | true =>
      have nk : Int32.ofNat k ≠ -1 := fun hh => absurd (show (Int32.ofNat k) < 0 by rw [hh]; decide) (sm_pos (by omega))
      obtain ⟨r, r1, r2, r3⟩ := e60 (Int32.ofNat k) (Int32.ofNat fr) (Int32.ofNat (j + 1))
      refine Or.inl ⟨r, ?_, Int32.ofNat k, Or.inl ⟨j, hj, by rw [hK]; exact q, a, by rw [hK]⟩, r2, r3⟩
      refine Ev.step (g := fun n => ff_M_findNext_7 n (ui X 0 31 (Int32.ofNat k)) J (Int32.ofNat fr) (Int32.ofNat (j + 1))) (fun n => by rw [head n, q]; rfl) ?_
      refine Ev.step (fun n => ?_) r1
      rw [ff_M_findNext_7]
      have z3 : (ui X 0 31 (Int32.ofNat k)) 0 3 = Int32.ofNat s := by rw [ui_at, if_neg (by omega), x0 3 (by decide), hs]
      have z31 : (ui X 0 31 (Int32.ofNat k)) 0 31 = Int32.ofNat k := by rw [ui_at, if_pos ⟨rfl, rfl⟩]
      rw [z3, z31, if_neg nk]
      split <;> rfl
    | false =>
      refine Or.inr ⟨(), fun i hi => ?_, 0, fun n _ => ?_⟩
      · by_cases e : i = j
        · subst e; rw [hK]; exact q
        · exact a i (by omega)
      · rw [head n, q]; rfl
