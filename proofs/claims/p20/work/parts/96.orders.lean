/-! orders -/
def swp (row : Nat → Int32) (x y : Nat) : Nat → Int32 := fun j => if j = y then row x else if j = x then row y else row j
def dn (K : Int64) (m : Nat) : Nat := kn K / 8589934592 % m
theorem dn_lt (K : Int64) {m : Nat} (h : 0 < m) : dn K m < m := Nat.mod_lt _ h
def shf : Nat → Int64 → (Nat → Int32) → Nat → Int32
  | 0, _, row => row
  | k + 1, K, row => shf k (kx K) (swp row (k + 1) (dn (kx K) (k + 1 + 1)))
def PR (K : Int64) (j : Nat) : Int32 := shf 51 K (fun i => Int32.ofNat i) j
theorem shf_in : ∀ (k : Nat) (K : Int64) (row : Nat → Int32), k < 52 → (∀ j, j < 52 → ∃ x, x < 52 ∧ row j = Int32.ofNat x) → ∀ j, j < 52 → ∃ x, x < 52 ∧ shf k K row j = Int32.ofNat x := by
  intro k
  induction k with
  | zero => intro K row _ h; exact h
  | succ k ih =>
    intro K row hk h
    refine ih (kx K) _ (by omega) fun j hj => ?_
    have := dn_lt (kx K) (show 0 < k + 1 + 1 by omega)
    unfold swp
    split
    · exact h _ hk
    · split
      · exact h _ (by omega)
      · exact h j hj
theorem PR_in (K : Int64) {j : Nat} (hj : j < 52) : ∃ x, x < 52 ∧ PR K j = Int32.ofNat x := shf_in 51 K _ (by omega) (fun j hj => ⟨j, hj, rfl⟩) j hj
theorem shf_congr : ∀ (k : Nat) (K : Int64) (row row' : Nat → Int32), k < 52 → (∀ j, j < 52 → row j = row' j) → ∀ j, j < 52 → shf k K row j = shf k K row' j := by
  intro k
  induction k with
  | zero => intro K row row' _ h; exact h
  | succ k ih =>
    intro K row row' hk h
    refine ih (kx K) _ _ (by omega) fun j hj => ?_
    have := dn_lt (kx K) (show 0 < k + 1 + 1 by omega)
    unfold swp
    split
    · exact h _ hk
    · split
      · exact h _ (by omega)
      · exact h j hj
theorem draw_k (K : Int64) {k : Nat} (hk : k < 100) : dv K - dv K / (Int32.ofNat k + 1) * (Int32.ofNat k + 1) = Int32.ofNat (dn K (k + 1)) := by
  have := kn_lt K
  unfold dn
  rw [dv_nat, sm_suc, tr_mod (by omega) (by omega)]
theorem dec_k {k : Nat} : Int32.ofNat (k + 1) + (-1) = Int32.ofNat k := by
  rw [Int32.ofNat_add]
  show Int32.ofNat k + 1 + -1 = _
  rw [Int32.add_assoc]
  show Int32.ofNat k + 0 = _
  rw [Int32.add_zero]
theorem D_ord35s {n k y : Nat} {I : MI} {J J1 : MJ} {v0 : Int64} {v2 : Nat} {d : Int32} (hd : ff_D_next n I J = some (d, I, J1)) (hk : k + 1 < 52) (hy : y < 52) (e : d - d / (Int32.ofNat (k + 1) + 1) * (Int32.ofNat (k + 1) + 1) = Int32.ofNat y) : ff_D_fillOrder_35 (n + 1) I J v0 v2 (Int32.ofNat (k + 1)) = ff_D_fillOrder_35 n (ui (ui I v2 (k + 1) (I v2 y)) v2 y (I v2 (k + 1))) J1 v0 v2 (Int32.ofNat k) := by
  have b1 := sm_i2 (j := k + 1) (N := 52) (by omega) (by omega)
  have b2 := sm_i2 (j := y) (N := 52) (by omega) (by omega)
  have c1 : ¬ Int32.ofNat (k + 1) < 1 := by rw [show (1 : Int32) = Int32.ofNat 1 from rfl, q_lt (by omega) (by omega)]; omega
  have c2 : ¬ Int32.ofNat (k + 1) + 1 = 0 := by rw [sm_suc]; exact fun h => by have := (nb_inj (y := 0) (by omega) (by omega)).mp h; omega
  simp only [ff_D_fillOrder_35, if_neg c1, hd, Option.bind_some, tl, if_pos c2, e, if_pos b1, if_pos b2, sm_nat (j := k + 1) (by omega), sm_nat (j := y) (by omega), dec_k]
theorem M_ord29s {n k y : Nat} {I : MI} {J J1 : MJ} {v0 : Int64} {d : Int32} (hd : ff_M_nextDraw n I J = some (d, I, J1)) (hk : k + 1 < 52) (hy : y < 52) (e : d - d / (Int32.ofNat (k + 1) + 1) * (Int32.ofNat (k + 1) + 1) = Int32.ofNat y) : ff_M_makeOrder_29 (n + 1) I J v0 (Int32.ofNat (k + 1)) = ff_M_makeOrder_29 n (ui (ui I 16 (k + 1) (I 16 y)) 16 y (I 16 (k + 1))) J1 v0 (Int32.ofNat k) := by
  have b1 := sm_i2 (j := k + 1) (N := 52) (by omega) (by omega)
  have b2 := sm_i2 (j := y) (N := 52) (by omega) (by omega)
  have c1 : ¬ Int32.ofNat (k + 1) ≤ 0 := by rw [q_le0 (by omega)]; omega
  have c2 : ¬ Int32.ofNat (k + 1) + 1 = 0 := by rw [sm_suc]; exact fun h => by have := (nb_inj (y := 0) (by omega) (by omega)).mp h; omega
  simp only [ff_M_makeOrder_29, if_neg c1, hd, Option.bind_some, tl, if_pos c2, e, if_pos b1, if_pos b2, sm_nat (j := k + 1) (by omega), sm_nat (j := y) (by omega), dec_k]
theorem D_ord35 (v0 : Int64) (v2 : Nat) (hv : v2 ≠ 39) : ∀ (k : Nat) (I : MI) (J : MJ), k < 52 → ∃ r, Ev (fun n => ff_D_fillOrder_35 n I J v0 v2 (Int32.ofNat k)) r ∧ (∀ j, j < 52 → r.1 v2 j = shf k (J 39 0) (I v2) j) ∧ (∀ x, x ≠ v2 → r.1 x = I x) ∧ ∀ x, x ≠ 39 → r.2 x = J x := by
  intro k
  induction k with
  | zero =>
    intro I J _
    exact ⟨(I, J), Ev.suc (Ev.now fun n => by rw [ff_D_fillOrder_35, if_pos (by decide)]), fun j _ => rfl, fun x _ => rfl, fun x _ => rfl⟩
  | succ k ih =>
    intro I J hk
    have hm := dn_lt (kx (J 39 0)) (show 0 < k + 1 + 1 by omega)
    generalize hy : dn (kx (J 39 0)) (k + 1 + 1) = y at hm
    obtain ⟨r, h1, h2, h3, h4⟩ := ih (ui (ui I v2 (k + 1) (I v2 y)) v2 y (I v2 (k + 1))) (uj J 39 0 (kx (J 39 0))) (by omega)
    refine ⟨r, Ev.step (fun n => ?_) h1, fun j hj => ?_, fun x hx => ?_, fun x hx => ?_⟩
    · exact D_ord35s (D_draw n I J) hk (by omega) (by rw [draw_k _ (by omega), hy])
    · rw [h2 j hj, show uj J 39 0 (kx (J 39 0)) 39 0 = kx (J 39 0) by rw [uj_at, if_pos ⟨rfl, rfl⟩]]
      rw [shf, hy]
      refine shf_congr k _ _ _ (by omega) (fun i _ => ?_) j hj
      rw [ui_at, ui_at]
      unfold swp
      by_cases e1 : i = y
      · rw [if_pos ⟨rfl, e1⟩, if_pos e1]
      · rw [if_neg (fun h => e1 h.2), if_neg e1]
        by_cases e2 : i = k + 1
        · rw [if_pos ⟨rfl, e2⟩, if_pos e2]
        · rw [if_neg (fun h => e2 h.2), if_neg e2]
    · rw [h3 x hx, ui_else _ _ _ hx, ui_else _ _ _ hx]
    · rw [h4 x hx, uj_else _ _ _ hx]
theorem D_order (I : MI) (J : MJ) (K : Int64) (v2 : Nat) (hv : v2 ≠ 39) : ∃ r, Ev (fun n => ff_D_fillOrder n I J K v2) r ∧ (∀ j, j < 52 → r.1 v2 j = PR K j) ∧ (∀ x, x ≠ v2 → r.1 x = I x) ∧ ∀ x, x ≠ 39 → r.2 x = J x := by
  have g := Ev.loop0 (α := MI) (fun n x j => ff_D_fillOrder_12 n x (uj (va_up J 39 (fun _ => 0)) 39 0 K) K v2 (Int32.ofNat j)) 52
    (fun j x => (∀ i, i < j → x v2 i = Int32.ofNat i) ∧ (∀ q, q ≠ v2 → x q = I q))
    (fun r => (∀ j, j < 52 → r.1 v2 j = PR K j) ∧ (∀ x, x ≠ v2 → r.1 x = I x) ∧ ∀ x, x ≠ 39 → r.2 x = J x)
    I ⟨fun i hi => absurd hi (by omega), fun q _ => rfl⟩ ?_ ?_
  · exact g
  · rintro I1 ⟨a1, a2⟩
    obtain ⟨r, h1, h2, h3, h4⟩ := D_ord35 K v2 hv 51 I1 (uj (va_up J 39 (fun _ => 0)) 39 0 K) (by omega)
    refine ⟨r, Ev.step (fun n => ?_) h1, fun j hj => ?_, fun x hx => (h3 x hx).trans (a2 x hx), fun x hx => ?_⟩
    · rw [ff_D_fillOrder_12, if_pos (by decide)]; rfl
    · rw [h2 j hj, show (uj (va_up J 39 (fun _ => 0)) 39 0 K) 39 0 = K by rw [uj_at, if_pos ⟨rfl, rfl⟩]]
      exact shf_congr 51 K _ _ (by omega) a1 j hj
    · rw [h4 x hx, uj_else _ _ _ hx]; exact if_neg hx
  · rintro j I1 hj ⟨a1, a2⟩
    have hb := sm_in (j := j) (N := 52) hj (by omega)
    refine Or.inr ⟨ui I1 v2 j (Int32.ofNat j), ⟨fun i hi => ?_, fun q hq => ?_⟩, 0, fun n hn => ?_⟩
    · rw [ui_at]
      by_cases e : i = j
      · rw [if_pos ⟨rfl, e⟩, e]
      · rw [if_neg (fun h => e h.2)]; exact a1 i (by omega)
    · rw [ui_else _ _ _ hq]; exact a2 q hq
    · rw [ff_D_fillOrder_12, if_neg (by rw [show (52 : Int32) = Int32.ofNat 52 from rfl, nb_le (by omega) (by omega)]; omega), if_pos hb, sm_nat (by omega), sm_suc]
theorem M_ord29 (v1 : Int64) : ∀ (k : Nat) (I : MI) (J : MJ), k < 52 → ∃ r, Ev (fun n => ff_M_makeOrder_29 n I J v1 (Int32.ofNat k)) r ∧ (∀ j, j < 52 → r.1 16 j = shf k (J 0 25) (I 16) j) ∧ (∀ x, x ≠ 16 → r.1 x = I x) ∧ ∀ x y, ¬ (x = 0 ∧ y = 25) → r.2 x y = J x y := by
  intro k
  induction k with
  | zero =>
    intro I J _
    exact ⟨(I, J), Ev.suc (Ev.now fun n => by rw [ff_M_makeOrder_29, if_pos (by decide)]), fun j _ => rfl, fun x _ => rfl, fun x y _ => rfl⟩
  | succ k ih =>
    intro I J hk
    have hm := dn_lt (kx (J 0 25)) (show 0 < k + 1 + 1 by omega)
    generalize hy : dn (kx (J 0 25)) (k + 1 + 1) = y at hm
    obtain ⟨r, h1, h2, h3, h4⟩ := ih (ui (ui I 16 (k + 1) (I 16 y)) 16 y (I 16 (k + 1))) (uj J 0 25 (kx (J 0 25))) (by omega)
    refine ⟨r, Ev.step (fun n => ?_) h1, fun j hj => ?_, fun x hx => ?_, fun x z hx => ?_⟩
    · exact M_ord29s (M_draw n I J) hk (by omega) (by rw [draw_k _ (by omega), hy])
    · rw [h2 j hj, show uj J 0 25 (kx (J 0 25)) 0 25 = kx (J 0 25) by rw [uj_at, if_pos ⟨rfl, rfl⟩]]
      rw [shf, hy]
      refine shf_congr k _ _ _ (by omega) (fun i _ => ?_) j hj
      rw [ui_at, ui_at]
      unfold swp
      by_cases e1 : i = y
      · rw [if_pos ⟨rfl, e1⟩, if_pos e1]
      · rw [if_neg (fun h => e1 h.2), if_neg e1]
        by_cases e2 : i = k + 1
        · rw [if_pos ⟨rfl, e2⟩, if_pos e2]
        · rw [if_neg (fun h => e2 h.2), if_neg e2]
    · rw [h3 x hx, ui_else _ _ _ hx, ui_else _ _ _ hx]
    · rw [h4 x z hx, uj_at, if_neg hx]
theorem M_order (I : MI) (J : MJ) (K : Int64) : ∃ r, Ev (fun n => ff_M_makeOrder n I J K) r ∧ (∀ j, j < 52 → r.1 16 j = PR K j) ∧ (∀ x, x ≠ 16 → r.1 x = I x) ∧ ∀ x y, ¬ (x = 0 ∧ y = 25) → r.2 x y = J x y := by
  have g := Ev.loop0 (α := MI) (fun n x j => ff_M_makeOrder_7 n x (uj J 0 25 K) K (Int32.ofNat j)) 52
    (fun j x => (∀ i, i < j → x 16 i = Int32.ofNat i) ∧ (∀ q, q ≠ 16 → x q = I q))
    (fun r => (∀ j, j < 52 → r.1 16 j = PR K j) ∧ (∀ x, x ≠ 16 → r.1 x = I x) ∧ ∀ x y, ¬ (x = 0 ∧ y = 25) → r.2 x y = J x y)
    I ⟨fun i hi => absurd hi (by omega), fun q _ => rfl⟩ ?_ ?_
  · exact g
  · rintro I1 ⟨a1, a2⟩
    obtain ⟨r, h1, h2, h3, h4⟩ := M_ord29 K 51 I1 (uj J 0 25 K) (by omega)
    refine ⟨r, Ev.step (fun n => ?_) h1, fun j hj => ?_, fun x hx => (h3 x hx).trans (a2 x hx), fun x y hx => ?_⟩
    · rw [ff_M_makeOrder_7, if_pos (by decide)]; rfl
    · rw [h2 j hj, show (uj J 0 25 K) 0 25 = K by rw [uj_at, if_pos ⟨rfl, rfl⟩]]
      exact shf_congr 51 K _ _ (by omega) a1 j hj
    · rw [h4 x y hx, uj_at, if_neg hx]
  · rintro j I1 hj ⟨a1, a2⟩
    have hb := sm_in (j := j) (N := 52) hj (by omega)
    refine Or.inr ⟨ui I1 16 j (Int32.ofNat j), ⟨fun i hi => ?_, fun q hq => ?_⟩, 0, fun n hn => ?_⟩
    · rw [ui_at]
      by_cases e : i = j
      · rw [if_pos ⟨rfl, e⟩, e]
      · rw [if_neg (fun h => e h.2)]; exact a1 i (by omega)
    · rw [ui_else _ _ _ hq]; exact a2 q hq
    · rw [ff_M_makeOrder_7, if_neg (by rw [show (52 : Int32) = Int32.ofNat 52 from rfl, nb_le (by omega) (by omega)]; omega), if_pos hb, sm_nat (by omega), sm_suc]
