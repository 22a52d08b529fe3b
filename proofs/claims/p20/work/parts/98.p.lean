/-! settle: layers -/
def rkF (v : Int32) (k : Nat) : Int32 := (v >>> (((4 : Int32) * Int32.ofNat k) &&& 31)) &&& 15
theorem rk_sh1 : ∀ k, k < 4 → ((Int32.toUInt32 ((4 : Int32) * Int32.ofNat k) &&& Int32.toUInt32 31).toBitVec % 32).toNat = 4 * k := by decide
theorem rk_sh2 : ∀ k, k < 4 → ((((4 : Int32) * Int32.ofNat k) &&& 31).toBitVec.smod 32).toNat = 4 * k := by decide
theorem b15 : ∀ i, i < 32 → (15#32).getLsbD i = decide (i < 4) := by decide
theorem O_rank (n : Nat) (v : Int32) {k : Nat} (hk : k < 4) : ff_O_rankOf n (Int32.ofNat k) v = some (rkF v k) := by
  unfold ff_O_rankOf rkF
  congr 1
  rw [← Int32.toBitVec_inj, Int32.toBitVec_and, Int32.toBitVec_and]
  have e1 : ((Int32.toUInt32 v >>> (Int32.toUInt32 ((4 : Int32) * Int32.ofNat k) &&& Int32.toUInt32 31)).toInt32).toBitVec = v.toBitVec >>> (4 * k) := by
    show (Int32.toUInt32 v >>> _).toBitVec = _
    rw [UInt32.toBitVec_shiftRight]
    show v.toBitVec >>> (_ : BitVec 32) = _
    rw [BitVec.ushiftRight_eq', rk_sh1 k hk]
  have e2 : (v >>> (((4 : Int32) * Int32.ofNat k) &&& 31)).toBitVec = v.toBitVec.sshiftRight (4 * k) := by
    rw [Int32.toBitVec_shiftRight]
    show v.toBitVec.sshiftRight _ = _
    rw [rk_sh2 k hk]
  rw [e1, e2]
  show _ &&& 15#32 = _ &&& 15#32
  apply BitVec.eq_of_getLsbD_eq
  intro i hi
  rw [BitVec.getLsbD_and, BitVec.getLsbD_and, b15 i hi]
  by_cases q : i < 4
  · rw [BitVec.getLsbD_ushiftRight, BitVec.getLsbD_sshiftRight]
    simp [show ¬ 32 ≤ i by omega, show 4 * k + i < 32 by omega]
  · simp [q]
def inf (fo : Nat → Int32) (h : Nat → Nat) (k : Nat) : Bool := decide (fo k = 0) && decide (0 < h k)
def bsF (fo : Nat → Int32) (h : Nat → Nat) (v : Int32) : Nat → Int32
  | 0 => -1
  | k + 1 => if inf fo h k then (if bsF fo h v k < rkF v k then rkF v k else bsF fo h v k) else bsF fo h v k
def wnB (fo : Nat → Int32) (h : Nat → Nat) (v best : Int32) (k : Nat) : Bool := inf fo h k && decide (rkF v k = best)
def lsN (h : Nat → Nat) : Nat → Nat
  | 0 => 0
  | k + 1 => if h k = 0 then lsN h k else if lsN h k = 0 then h k else min (lsN h k) (h k)
def potN (h : Nat → Nat) (L : Nat) : Nat → Nat := sumN fun k => if 0 < h k then L else 0
def layC (fo : Nat → Int32) (h : Nat → Nat) (v : Int32) (s : Nat) (c : Nat → Nat) (k : Nat) : Nat :=
  if k < s ∧ 0 < h k then (if cnB (wnB fo h v (bsF fo h v s)) s = 0 then c k + lsN h s else if wnB fo h v (bsF fo h v s) k then c k + (potN h (lsN h s) s / cnB (wnB fo h v (bsF fo h v s)) s + (if cnB (wnB fo h v (bsF fo h v s)) k = 0 then potN h (lsN h s) s % cnB (wnB fo h v (bsF fo h v s)) s else 0)) else c k) else c k
def layH (h : Nat → Nat) (s k : Nat) : Nat := if k < s ∧ 0 < h k then h k - lsN h s else h k
theorem ls_sp (h : Nat → Nat) : ∀ s, (lsN h s = 0 → ∀ k, k < s → h k = 0) ∧ (∀ k, k < s → 0 < h k → 0 < lsN h s ∧ lsN h s ≤ h k) ∧ (0 < lsN h s → ∃ k, k < s ∧ h k = lsN h s)
  | 0 => ⟨fun _ k hk => absurd hk (by omega), fun k hk => absurd hk (by omega), fun hh => absurd hh (Nat.lt_irrefl 0)⟩
  | s + 1 => by
    obtain ⟨a, b, c⟩ := ls_sp h s
    rw [lsN]
    by_cases e : h s = 0
    · rw [if_pos e]
      refine ⟨fun hh k hk => ?_, fun k hk hp => ?_, fun hh => ?_⟩
      · by_cases q : k = s
        · subst q; exact e
        · exact a hh k (by omega)
      · by_cases q : k = s
        · subst q; omega
        · exact b k (by omega) hp
      · obtain ⟨k, hk, ek⟩ := c hh
        exact ⟨k, by omega, ek⟩
    · rw [if_neg e]
      by_cases z : lsN h s = 0
      · rw [if_pos z]
        refine ⟨fun hh => absurd hh e, fun k hk hp => ?_, fun _ => ⟨s, by omega, rfl⟩⟩
        by_cases q : k = s
        · subst q; omega
        · have := a z k (by omega); omega
      · rw [if_neg z]
        refine ⟨fun hh => by omega, fun k hk hp => ?_, fun hh => ?_⟩
        · by_cases q : k = s
          · subst q; omega
          · have := b k (by omega) hp; omega
        · obtain ⟨k, hk, ek⟩ := c (by omega)
          by_cases q : lsN h s ≤ h s
          · exact ⟨k, by omega, by omega⟩
          · exact ⟨s, by omega, by omega⟩
theorem mx_eq (f : Bool) (b q : Int32) : (if f then (if b < q then q else b) else b) = (if f then (if q ≤ b then b else q) else b) := by
  by_cases g : b < q
  · rw [if_pos g, if_neg (Int32.not_le.mpr g)]
  · rw [if_neg g, if_pos (Int32.not_lt.mp g)]
theorem bs_le (fo : Nat → Int32) (h : Nat → Nat) (v : Int32) (k : Nat) : bsF fo h v (k + 1) = if inf fo h k then (if rkF v k ≤ bsF fo h v k then bsF fo h v k else rkF v k) else bsF fo h v k := by
  rw [bsF]
  exact mx_eq _ _ _
theorem cnB_up (f : Nat → Bool) : ∀ s i, i ≤ s → cnB f i ≤ cnB f s
  | 0, i, h => by rw [Nat.le_zero.mp h]; exact Nat.le_refl _
  | s + 1, i, h => by
    by_cases e : i = s + 1
    · rw [e]; exact Nat.le_refl _
    · have := cnB_up f s i (by omega)
      have : cnB f s ≤ cnB f (s + 1) := by unfold cnB; rw [sumN]; omega
      omega
def MO (s : Nat) (fo : Nat → Int32) (c h : Nat → Nat) (I : MI) : Prop := ∀ k, k < s → I (15 + 6 * k) 0 = Int32.ofNat (c k) ∧ I (15 + 6 * k) 1 = Int32.ofNat (h k) ∧ I (15 + 6 * k) 3 = fo k
def MM (s : Nat) (fo : Nat → Int32) (c h : Nat → Nat) (I : MI) : Prop := ∀ k, k < s → I 1 k = Int32.ofNat (c k) ∧ I 21 k = Int32.ofNat (h k) ∧ (fo k = 0 ↔ ¬ I 20 k = 0)
theorem O_inFor {s : Nat} {fo : Nat → Int32} {c h : Nat → Nat} {I : MI} (J : MJ) (n : Nat) (hM : MO s fo c h I) {k : Nat} (hk : k < s) (hh : h k ≤ 400000) : ff_P_isInFor n I J (15 + 6 * k) = some (if inf fo h k then 1 else 0) := by
  obtain ⟨e1, e2, e3⟩ := hM k hk
  unfold ff_P_isInFor inf
  rw [e2, e3]
  by_cases e : fo k = 0
  · rw [if_pos e]
    by_cases z : h k = 0
    · rw [if_pos ((q_le0 (by omega)).mpr z)]; simp [z]
    · rw [if_neg (by rw [q_le0 (by omega)]; exact z)]; simp [e, show 0 < h k by omega]
  · rw [if_neg e]; simp [e]
theorem O_wins {s : Nat} {fo : Nat → Int32} {c h : Nat → Nat} {I : MI} (J : MJ) (n : Nat) (hM : MO s fo c h I) (s4 : s ≤ 4) {k : Nat} (hk : k < s) (hh : h k ≤ 400000) (v best : Int32) : ff_O_winsLayer n I J (Int32.ofNat k) v best = some (if wnB fo h v best k then 1 else 0) := by
  unfold ff_O_winsLayer wnB
  simp only [sm_nat (j := k) (by omega), if_pos (sm_i2 (j := k) (N := 4) (by omega) (by omega)), O_inFor J n hM hk hh, Option.bind_some, O_rank n v (show k < 4 by omega)]
  cases inf fo h k with
  | false => simp
  | true =>
    by_cases q : rkF v k = best
    · simp [q]
    · simp [q]
theorem O_least {s : Nat} {fo : Nat → Int32} {c h : Nat → Nat} {I : MI} (J : MJ) (hM : MO s fo c h I) (hs : I 0 2 = Int32.ofNat s) (s4 : s ≤ 4) (hh : ∀ k, k < s → h k ≤ 400000) : Ev (fun n => ff_O_leastInHand n I J) (Int32.ofNat (lsN h s)) := by
  have bd : ∀ j, j ≤ s → lsN h j ≤ 400000 := fun j hj => by
    by_cases q : 0 < lsN h j
    · obtain ⟨k, hk, ek⟩ := (ls_sp h j).2.2 q
      have := hh k (by omega); omega
    · omega
  have H := Ev.loop0 (α := Int32) (fun n x j => ff_O_leastInHand_4 I J n x (Int32.ofNat j)) s (fun j x => x = Int32.ofNat (lsN h j)) (fun v => v = Int32.ofNat (lsN h s)) 0 rfl ?_ ?_
  · obtain ⟨b, h1, h2⟩ := H
    rw [h2] at h1; exact h1
  · rintro x rfl
    exact ⟨_, Ev.suc (Ev.now fun n => by rw [ff_O_leastInHand_4, hs, if_pos ((q_cl s4 (by omega)).mpr (Nat.le_refl _))]), rfl⟩
  · rintro j x hj rfl
    have b1 := hh j hj
    have b2 := bd j (by omega)
    refine Or.inr ⟨_, rfl, 0, fun n _ => ?_⟩
    simp only [ff_O_leastInHand_4, hs, if_neg (show ¬ Int32.ofNat s ≤ Int32.ofNat j by rw [q_cl s4 (by omega)]; omega), if_pos (sm_i2 (j := j) (N := 4) (by omega) (by omega)), sm_nat (j := j) (by omega), (hM j hj).2.1, sm_suc, tl, lsN]
    by_cases e : h j = 0
    · rw [if_pos ((q_le0 (by omega)).mpr e), if_pos e]
    · rw [if_neg (by rw [q_le0 (by omega)]; exact e), if_neg e]
      have z0 : (Int32.ofNat (lsN h j) = 0) ↔ lsN h j = 0 := nb_inj (y := 0) (by omega) (by omega)
      by_cases z : lsN h j = 0
      · rw [if_pos (z0.mpr z), if_pos z]
      · rw [if_neg (by rw [z0]; exact z), if_neg z]
        by_cases q : lsN h j ≤ h j
        · rw [if_pos ((nb_le (by omega) (by omega)).mpr q)]; congr 2; omega
        · rw [if_neg (by rw [nb_le (by omega) (by omega)]; exact q)]; congr 2; omega
theorem O_best {s : Nat} {fo : Nat → Int32} {c h : Nat → Nat} {I : MI} (J : MJ) (hM : MO s fo c h I) (hs : I 0 2 = Int32.ofNat s) (s4 : s ≤ 4) (hh : ∀ k, k < s → h k ≤ 400000) (v : Int32) : Ev (fun n => ff_O_bestRank n I J v) (bsF fo h v s) := by
  have H := Ev.loop0 (α := Int32) (fun n x j => ff_O_bestRank_4 I J n v x (Int32.ofNat j)) s (fun j x => x = bsF fo h v j) (fun x => x = bsF fo h v s) (-1) rfl ?_ ?_
  · obtain ⟨b, h1, h2⟩ := H
    rw [h2] at h1; exact h1
  · rintro x rfl
    exact ⟨_, Ev.suc (Ev.now fun n => by rw [ff_O_bestRank_4, hs, if_pos ((q_cl s4 (by omega)).mpr (Nat.le_refl _))]), rfl⟩
  · rintro j x hj rfl
    refine Or.inr ⟨_, rfl, 0, fun n _ => ?_⟩
    simp only [ff_O_bestRank_4, hs, if_neg (show ¬ Int32.ofNat s ≤ Int32.ofNat j by rw [q_cl s4 (by omega)]; omega), if_pos (sm_i2 (j := j) (N := 4) (by omega) (by omega)), sm_nat (j := j) (by omega), O_inFor J n hM hj (hh j hj), Option.bind_some, O_rank n v (show j < 4 by omega), sm_suc, tl, bsF]
    cases inf fo h j <;> simp
/-- one layer of the object -/
theorem O_lay92 {s : Nat} {fo : Nat → Int32} {c h : Nat → Nat} (I : MI) (J : MJ) (hM : MO s fo c h I) (hs : I 0 2 = Int32.ofNat s) (s4 : s ≤ 4) (hh : ∀ k, k < s → h k ≤ 400000) (v v4 : Int32) : ∃ r, Ev (fun n => ff_O_payLayer_92 n I J (Int32.ofNat (lsN h s)) v (bsF fo h v s) v4 (Int32.ofNat (cnB (wnB fo h v (bsF fo h v s)) s)) (Int32.ofNat (potN h (lsN h s) s / cnB (wnB fo h v (bsF fo h v s)) s)) (Int32.ofNat (potN h (lsN h s) s % cnB (wnB fo h v (bsF fo h v s)) s)) 0) r ∧ MO s fo (layC fo h v s c) (layH h s) r.1 ∧ r.1 0 = I 0 ∧ (∀ x y, 2 ≤ y → r.1 x y = I x y) ∧ (∀ x, (∀ k, k < s → x ≠ 15 + 6 * k) → r.1 x = I x) ∧ r.2 = J := by
  generalize hB : bsF fo h v s = B
  generalize hW : wnB fo h v B = wn
  have cl := cnB_le wn
  have lc : ∀ k, layC fo h v s c k = if k < s ∧ 0 < h k then (if cnB wn s = 0 then c k + lsN h s else if wn k then c k + (potN h (lsN h s) s / cnB wn s + (if cnB wn k = 0 then potN h (lsN h s) s % cnB wn s else 0)) else c k) else c k := fun k => by unfold layC; rw [hB, hW]
  generalize potN h (lsN h s) s / cnB wn s = sh at lc ⊢
  generalize potN h (lsN h s) s % cnB wn s = rs at lc ⊢
  refine Ev.loop0 (α := MI × Int32) (fun n x j => ff_O_payLayer_92 n x.1 J (Int32.ofNat (lsN h s)) v B v4 (Int32.ofNat (cnB wn s)) (Int32.ofNat sh) x.2 (Int32.ofNat j)) s (fun j x => x.2 = Int32.ofNat (if cnB wn j = 0 then rs else 0) ∧ (∀ k, k < j → x.1 (15 + 6 * k) 0 = Int32.ofNat (layC fo h v s c k) ∧ x.1 (15 + 6 * k) 1 = Int32.ofNat (layH h s k)) ∧ (∀ k, j ≤ k → x.1 (15 + 6 * k) = I (15 + 6 * k)) ∧ (∀ p y, 2 ≤ y → x.1 p y = I p y) ∧ (∀ p, (∀ k, k < s → p ≠ 15 + 6 * k) → x.1 p = I p)) _ (I, Int32.ofNat rs) ⟨rfl, fun k hk => absurd hk (by omega), fun _ _ => rfl, fun _ _ _ => rfl, fun _ _ => rfl⟩ ?_ ?_
  · rintro ⟨I1, q⟩ ⟨a1, a2, a3, a4, a5⟩
    have a5 : ∀ p, (∀ k, k < s → p ≠ 15 + 6 * k) → I1 p = I p := a5
    refine ⟨(I1, J), Ev.suc (Ev.now fun n => ?_), fun k hk => ⟨(a2 k hk).1, (a2 k hk).2, by rw [← (hM k hk).2.2]; exact a4 _ 3 (by decide)⟩, a5 0 (fun k _ => by omega), a4, a5, rfl⟩
    dsimp only
    rw [ff_O_payLayer_92, a5 0 (fun k _ => by omega), hs, if_pos ((q_cl s4 (by omega)).mpr (Nat.le_refl _))]
  · rintro j ⟨I1, q⟩ hj ⟨a1, a2, a3, a4, a5⟩
    have a1 : q = Int32.ofNat (if cnB wn j = 0 then rs else 0) := a1
    have a2 : ∀ k, k < j → I1 (15 + 6 * k) 0 = Int32.ofNat (layC fo h v s c k) ∧ I1 (15 + 6 * k) 1 = Int32.ofNat (layH h s k) := a2
    have a3 : ∀ k, j ≤ k → I1 (15 + 6 * k) = I (15 + 6 * k) := a3
    have a4 : ∀ p y, 2 ≤ y → I1 p y = I p y := a4
    have a5 : ∀ p, (∀ k, k < s → p ≠ 15 + 6 * k) → I1 p = I p := a5
    have i0 : I1 0 = I 0 := a5 0 (fun k _ => by omega)
    obtain ⟨m1, m2, m3⟩ := hM j hj
    have hj4 := hh j hj
    have lsp := (ls_sp h s).2.1 j hj
    have k1 : I1 (15 + 6 * j) = I (15 + 6 * j) := a3 j (Nat.le_refl _)
    -- what winsLayer says here
    have win : ∀ (X : MI) n, X (15 + 6 * j) 1 = Int32.ofNat (h j) → X (15 + 6 * j) 3 = fo j → ff_O_winsLayer n X J (Int32.ofNat j) v B = some (if wn j then 1 else 0) := fun X n x1 x3 => by
      rw [← hW]
      unfold ff_O_winsLayer wnB
      have ii : ff_P_isInFor n X J (15 + 6 * j) = some (if inf fo h j then 1 else 0) := by
        unfold ff_P_isInFor inf
        rw [x1, x3]
        by_cases e : fo j = 0
        · rw [if_pos e]
          by_cases z : h j = 0
          · rw [if_pos ((q_le0 (by omega)).mpr z)]; simp [z]
          · rw [if_neg (by rw [q_le0 (by omega)]; exact z)]; simp [e, show 0 < h j by omega]
        · rw [if_neg e]; simp [e]
      simp only [sm_nat (j := j) (by omega), if_pos (sm_i2 (j := j) (N := 4) (by omega) (by omega)), ii, Option.bind_some, O_rank n v (show j < 4 by omega)]
      cases inf fo h j with
      | false => simp
      | true =>
        by_cases q : rkF v j = B
        · simp [q]
        · simp [q]
    have winh : wn j = true → 0 < h j := fun e => by
      rw [← hW] at e
      unfold wnB inf at e
      simp at e
      exact e.1.2
    -- 166: what is left of the amount
    have e166 : ∀ (kk : MI → MJ → Int32 → Int32 → Int32 → Int32 → Int32 → Int32 → Int32 → Int32 → Option (MI × MJ)) n (X : MI) (w6 w7 : Int32), X (15 + 6 * j) 1 = Int32.ofNat (h j) → ff_O_payLayer_166 kk n X J (Int32.ofNat (lsN h s)) v B v4 (Int32.ofNat (cnB wn s)) w6 w7 (Int32.ofNat j) (15 + 6 * j) = kk (ui X (15 + 6 * j) 1 (Int32.ofNat (layH h s j))) J (Int32.ofNat (lsN h s)) v B v4 (Int32.ofNat (cnB wn s)) w6 w7 (Int32.ofNat (j + 1)) := fun kk n X w6 w7 x1 => by
      unfold ff_O_payLayer_166 layH
      rw [x1, sm_suc]
      by_cases z : h j = 0
      · rw [if_pos ((q_le0 (by omega)).mpr z), if_neg (by omega), Int32.sub_zero]
      · rw [if_neg (by rw [q_le0 (by omega)]; exact z), if_pos ⟨hj, by omega⟩, q_sub (lsp (by omega)).2]
    have fin : ∀ (X : MI) (nc : Nat), (∀ p y, (p ≠ 15 + 6 * j ∨ y ≠ 0) → X p y = I1 p y) → X (15 + 6 * j) 0 = Int32.ofNat nc → nc = layC fo h v s c j →
        (∀ k, k < j + 1 → (ui X (15 + 6 * j) 1 (Int32.ofNat (layH h s j))) (15 + 6 * k) 0 = Int32.ofNat (layC fo h v s c k) ∧ (ui X (15 + 6 * j) 1 (Int32.ofNat (layH h s j))) (15 + 6 * k) 1 = Int32.ofNat (layH h s k)) ∧ (∀ k, j + 1 ≤ k → (ui X (15 + 6 * j) 1 (Int32.ofNat (layH h s j))) (15 + 6 * k) = I (15 + 6 * k)) ∧ (∀ p y, 2 ≤ y → (ui X (15 + 6 * j) 1 (Int32.ofNat (layH h s j))) p y = I p y) ∧ (∀ p, (∀ k, k < s → p ≠ 15 + 6 * k) → (ui X (15 + 6 * j) 1 (Int32.ofNat (layH h s j))) p = I p) := fun X nc x1 x2 x3 => by
      refine ⟨fun k hk => ?_, fun k hk => ?_, fun p y hy => ?_, fun p hp => ?_⟩
      · by_cases e : k = j
        · subst e
          exact ⟨by rw [ui_at, if_neg (by omega), x2, x3], by rw [ui_at, if_pos ⟨rfl, rfl⟩]⟩
        · obtain ⟨b1, b2⟩ := a2 k (by omega)
          exact ⟨by rw [ui_at, if_neg (by omega), x1 _ _ (Or.inl (by omega))]; exact b1, by rw [ui_at, if_neg (by omega), x1 _ _ (Or.inl (by omega))]; exact b2⟩
      · funext y
        rw [ui_at, if_neg (by omega), x1 _ _ (Or.inl (by omega)), a3 k (by omega)]
      · rw [ui_at, if_neg (by omega), x1 _ _ (Or.inr (by omega))]; exact a4 p y hy
      · funext y
        have := hp j hj
        rw [ui_at, if_neg (by omega), x1 _ _ (Or.inl this), a5 p hp]
    have ws : (Int32.ofNat (cnB wn s) = 0) ↔ cnB wn s = 0 := nb_inj (y := 0) (by have := cl s; omega) (by omega)
    have cs : cnB wn (j + 1) = cnB wn j + if wn j then 1 else 0 := by unfold cnB; rw [sumN]
    have h1 : I1 (15 + 6 * j) 1 = Int32.ofNat (h j) := by rw [k1]; exact m2
    have h0 : I1 (15 + 6 * j) 0 = Int32.ofNat (c j) := by rw [k1]; exact m1
    have h3 : I1 (15 + 6 * j) 3 = fo j := by rw [k1]; exact m3
    have mono : ∀ i, i ≤ s → cnB wn i ≤ cnB wn s := fun i hi => cnB_up wn s i hi
    by_cases q1 : cnB wn s = 0 ∧ 0 < h j
    · -- no winner: it goes back
      have wj : wn j = false := by
        cases e : wn j with
        | false => rfl
        | true => have := mono (j + 1) (by omega); rw [cs, e] at this; simp at this; omega
      refine Or.inr ⟨(ui (ui I1 (15 + 6 * j) 0 (Int32.ofNat (c j) + Int32.ofNat (lsN h s))) (15 + 6 * j) 1 (Int32.ofNat (layH h s j)), q), ⟨?_, fin _ (c j + lsN h s) (fun p y hp => by rw [ui_at, if_neg (by omega)]) (by rw [ui_at, if_pos ⟨rfl, rfl⟩, Int32.ofNat_add]) (by rw [lc, if_pos ⟨hj, q1.2⟩, if_pos q1.1])⟩, 0, fun n _ => ?_⟩
      · dsimp only
        rw [a1, cs, wj]; rfl
      · dsimp only
        simp only [ff_O_payLayer_92, i0, hs, if_neg (show ¬ Int32.ofNat s ≤ Int32.ofNat j by rw [q_cl s4 (by omega)]; omega), if_pos (sm_i2 (j := j) (N := 4) (by omega) (by omega)), sm_nat (j := j) (by omega), if_pos (ws.mpr q1.1), h1, if_neg (show ¬ Int32.ofNat (h j) ≤ 0 by rw [q_le0 (by omega)]; omega), h0]
        rw [e166 _ n _ _ _ (by rw [ui_at, if_neg (by omega)]; exact h1)]
    · have step137 : ∀ n, ff_O_payLayer_92 (n + 1) I1 J (Int32.ofNat (lsN h s)) v B v4 (Int32.ofNat (cnB wn s)) (Int32.ofNat sh) q (Int32.ofNat j) = ff_O_payLayer_137 (ff_O_payLayer_92 n) n I1 J (Int32.ofNat (lsN h s)) v B v4 (Int32.ofNat (cnB wn s)) (Int32.ofNat sh) q (Int32.ofNat j) (15 + 6 * j) := fun n => by
        simp only [ff_O_payLayer_92, i0, hs, if_neg (show ¬ Int32.ofNat s ≤ Int32.ofNat j by rw [q_cl s4 (by omega)]; omega), if_pos (sm_i2 (j := j) (N := 4) (by omega) (by omega)), sm_nat (j := j) (by omega), h1]
        by_cases e : cnB wn s = 0
        · rw [if_pos (ws.mpr e), if_pos ((q_le0 (by omega)).mpr (by omega))]
        · rw [if_neg (by rw [ws]; exact e)]
      cases e : wn j with
      | false =>
        refine Or.inr ⟨(ui I1 (15 + 6 * j) 1 (Int32.ofNat (layH h s j)), q), ⟨?_, fin _ (c j) (fun p y hp => rfl) h0 ?_⟩, 0, fun n _ => ?_⟩
        · dsimp only
          rw [a1, cs, e]; rfl
        · rw [lc]
          by_cases z : j < s ∧ 0 < h j
          · rw [if_pos z, if_neg (by omega), e]; rfl
          · rw [if_neg z]
        · dsimp only
          rw [step137 n, ff_O_payLayer_137, win I1 n h1 h3, e, Option.bind_some]
          simp only [Bool.false_eq_true, if_false, if_true]
          rw [e166 _ n _ _ _ h1]
      | true =>
        have hp := winh e
        have nz : ¬ cnB wn s = 0 := by
          have := mono (j + 1) (by omega); rw [cs, e] at this; simp at this; omega
        refine Or.inr ⟨(ui (ui I1 (15 + 6 * j) 0 (Int32.ofNat (c j) + (Int32.ofNat sh + q))) (15 + 6 * j) 1 (Int32.ofNat (layH h s j)), 0), ⟨?_, fin _ (c j + (sh + if cnB wn j = 0 then rs else 0)) (fun p y hp => by rw [ui_at, if_neg (by omega)]) (by rw [ui_at, if_pos ⟨rfl, rfl⟩, a1, Int32.ofNat_add, Int32.ofNat_add]) ?_⟩, 0, fun n _ => ?_⟩
        · dsimp only
          rw [cs, e]; simp
        · rw [lc j, if_pos (show j < s ∧ 0 < h j from ⟨hj, hp⟩), if_neg nz, if_pos e]
        · dsimp only
          rw [step137 n, ff_O_payLayer_137, win I1 n h1 h3, e, Option.bind_some]
          simp only [if_true, if_neg (show ¬ (1 : Int32) = 0 by decide), h0]
          rw [e166 _ n _ _ _ (by rw [ui_at, if_neg (by omega)]; exact h1)]
