/-! settle: the reference -/
theorem M_lay311 {s : Nat} {c h : Nat → Nat} (I : MI) (J : MJ) (hM : ∀ k, k < s → I 21 k = Int32.ofNat (h k)) (hs : I 0 3 = Int32.ofNat s) (s4 : s ≤ 4) (hh : ∀ k, k < s → h k ≤ 400000) (v1 v3 v4 v5 v6 : Int32) : ∃ r, Ev (fun n => ff_M_payLayer_311 n I J v1 (Int32.ofNat (lsN h s)) v3 v4 v5 v6 0) r ∧ r.1 = 1 ∧ r.2.2 = J ∧ (∀ k, k < s → r.2.1 21 k = Int32.ofNat (layH h s k)) ∧ (∀ x, x ≠ 21 → r.2.1 x = I x) := by
  refine Ev.loop0 (α := MI) (fun n x j => ff_M_payLayer_311 n x J v1 (Int32.ofNat (lsN h s)) v3 v4 v5 v6 (Int32.ofNat j)) s (fun j x => (∀ k, k < j → x 21 k = Int32.ofNat (layH h s k)) ∧ (∀ k, j ≤ k → x 21 k = I 21 k) ∧ (∀ p, p ≠ 21 → x p = I p)) _ I ⟨fun k hk => absurd hk (by omega), fun _ _ => rfl, fun _ _ => rfl⟩ ?_ ?_
  · rintro I1 ⟨a1, a2, a3⟩
    refine ⟨(1, I1, J), Ev.suc (Ev.now fun n => ?_), rfl, rfl, a1, a3⟩
    rw [ff_M_payLayer_311, a3 0 (by decide), hs, if_pos ((q_cl s4 (by omega)).mpr (Nat.le_refl _))]
  · rintro j I1 hj ⟨a1, a2, a3⟩
    have e1 : I1 21 j = Int32.ofNat (h j) := by rw [a2 j (Nat.le_refl _)]; exact hM j hj
    have hj4 := hh j hj
    have lsp := (ls_sp h s).2.1 j hj
    refine Or.inr ⟨ui I1 21 j (Int32.ofNat (layH h s j)), ⟨fun k hk => ?_, fun k hk => ?_, fun p hp => ?_⟩, 0, fun n _ => ?_⟩
    · rw [ui_at]
      by_cases e : k = j
      · rw [if_pos ⟨rfl, e⟩, e]
      · rw [if_neg (by omega)]; exact a1 k (by omega)
    · rw [ui_at, if_neg (by omega)]; exact a2 k (by omega)
    · rw [ui_else _ _ _ hp]; exact a3 p hp
    · simp only [ff_M_payLayer_311, a3 0 (by decide), hs, if_neg (show ¬ Int32.ofNat s ≤ Int32.ofNat j by rw [q_cl s4 (by omega)]; omega), if_pos (sm_i2 (j := j) (N := 4) (by omega) (by omega)), sm_nat (j := j) (by omega), e1, sm_suc]
      unfold layH
      by_cases z : h j = 0
      · rw [if_pos ((q_le0 (by omega)).mpr z), if_neg (show ¬ (j < s ∧ 0 < h j) by omega), Int32.sub_zero]
      · rw [if_neg (by rw [q_le0 (by omega)]; exact z), if_pos (show j < s ∧ 0 < h j from ⟨hj, by omega⟩), q_sub (lsp (by omega)).2]
theorem M_lay206 {s : Nat} {fo : Nat → Int32} {c h : Nat → Nat} (I : MI) (J : MJ) (hM : MM s fo c h I) (hs : I 0 3 = Int32.ofNat s) (s4 : s ≤ 4) (ht : tot c h s ≤ 400000) (v : Int32) : ∃ r, Ev (fun n => ff_M_payLayer_206 n I J v (Int32.ofNat (lsN h s)) (Int32.ofNat (potN h (lsN h s) s)) (bsF fo h v s) (Int32.ofNat (cnB (wnB fo h v (bsF fo h v s)) s)) 1 0) r ∧ r.1 = 1 ∧ r.2.2 = J ∧ MM s fo (layC fo h v s c) (layH h s) r.2.1 ∧ (∀ x, x ≠ 21 → x ≠ 1 → r.2.1 x = I x) := by
  have hh := h_bd ht
  have pl := pot_le h s
  have hl := h_le_tot c h s
  generalize hB : bsF fo h v s = B
  generalize hW : wnB fo h v B = wn
  have cl := cnB_le wn
  have lc : ∀ k, layC fo h v s c k = if k < s ∧ 0 < h k then (if cnB wn s = 0 then c k + lsN h s else if wn k then c k + (potN h (lsN h s) s / cnB wn s + (if cnB wn k = 0 then potN h (lsN h s) s % cnB wn s else 0)) else c k) else c k := fun k => by unfold layC; rw [hB, hW]
  have cs := cl s
  refine Ev.loop0 (α := MI × Int32) (fun n x j => ff_M_payLayer_206 n x.1 J v (Int32.ofNat (lsN h s)) (Int32.ofNat (potN h (lsN h s) s)) B (Int32.ofNat (cnB wn s)) x.2 (Int32.ofNat j)) s (fun j x => x.2 = (if cnB wn j = 0 then 1 else 0) ∧ (∀ k, k < j → x.1 1 k = Int32.ofNat (layC fo h v s c k)) ∧ (∀ k, j ≤ k → x.1 1 k = I 1 k) ∧ (∀ p, p ≠ 1 → x.1 p = I p)) _ (I, 1) ⟨rfl, fun k hk => absurd hk (by omega), fun _ _ => rfl, fun _ _ => rfl⟩ ?_ ?_
  · rintro ⟨I1, q⟩ ⟨a1, a2, a3, a4⟩
    have a4 : ∀ p, p ≠ 1 → I1 p = I p := a4
    obtain ⟨r, r1, r2, r3, r4, r5⟩ := M_lay311 (c := c) (h := h) I1 J (fun k hk => by rw [a4 21 (by decide)]; exact (hM k hk).2.1) (by rw [a4 0 (by decide)]; exact hs) s4 hh v (Int32.ofNat (potN h (lsN h s) s)) B (Int32.ofNat (cnB wn s)) q
    refine ⟨r, Ev.step (fun n => ?_) r1, r2, r3, fun k hk => ⟨?_, r4 k hk, ?_⟩, fun x x21 x1 => by rw [r5 x x21, a4 x x1]⟩
    · dsimp only
      rw [ff_M_payLayer_206, a4 0 (by decide), hs, if_pos ((q_cl s4 (by omega)).mpr (Nat.le_refl _))]
    · rw [r5 1 (by decide)]; exact a2 k hk
    · rw [r5 20 (by decide), a4 20 (by decide)]; exact (hM k hk).2.2
  · rintro j ⟨I1, q⟩ hj ⟨a1, a2, a3, a4⟩
    have a1 : q = (if cnB wn j = 0 then 1 else 0) := a1
    have a2 : ∀ k, k < j → I1 1 k = Int32.ofNat (layC fo h v s c k) := a2
    have a3 : ∀ k, j ≤ k → I1 1 k = I 1 k := a3
    have a4 : ∀ p, p ≠ 1 → I1 p = I p := a4
    obtain ⟨m1, m2, m3⟩ := hM j hj
    have hj4 := hh j hj
    have e1 : I1 1 j = Int32.ofNat (c j) := by rw [a3 j (Nat.le_refl _)]; exact m1
    have e21 : I1 21 j = Int32.ofNat (h j) := by rw [a4 21 (by decide)]; exact m2
    have e20 : I1 20 j = I 20 j := by rw [a4 20 (by decide)]
    have cj : cnB wn (j + 1) = cnB wn j + if wn j then 1 else 0 := by unfold cnB; rw [sumN]
    have w0 : (Int32.ofNat (cnB wn s) = 0) ↔ cnB wn s = 0 := nb_inj (y := 0) (by omega) (by omega)
    have z0 : (Int32.ofNat (h j) = 0) ↔ h j = 0 := nb_inj (y := 0) (by omega) (by omega)
    have mono := cnB_up wn s (j + 1) (by omega)
    -- the memory behind it
    have fin : ∀ X : MI, (∀ p k, (p ≠ 1 ∨ k ≠ j) → X p k = I1 p k) → X 1 j = Int32.ofNat (layC fo h v s c j) → (∀ k, k < j + 1 → X 1 k = Int32.ofNat (layC fo h v s c k)) ∧ (∀ k, j + 1 ≤ k → X 1 k = I 1 k) ∧ (∀ p, p ≠ 1 → X p = I p) := fun X x1 x2 => by
      refine ⟨fun k hk => ?_, fun k hk => ?_, fun p hp => ?_⟩
      · by_cases e : k = j
        · subst e; exact x2
        · rw [x1 _ _ (Or.inr e)]; exact a2 k (by omega)
      · rw [x1 _ _ (Or.inr (by omega))]; exact a3 k (by omega)
      · funext k; rw [x1 _ _ (Or.inl hp), a4 p hp]
    have ls : ¬ Int32.ofNat s ≤ Int32.ofNat j := by rw [q_cl s4 (by omega)]; omega
    have i4 := sm_i2 (j := j) (N := 4) (by omega) (by omega)
    have rk : (v >>> ((4 * Int32.ofNat j) &&& 31)) &&& 15 = rkF v j := rfl
    by_cases z : h j = 0
    · have wj : wn j = false := by rw [← hW]; unfold wnB inf; simp [z]
      refine Or.inr ⟨(I1, q), ⟨by dsimp only; rw [a1, cj, wj]; rfl, fin I1 (fun _ _ _ => rfl) (by rw [e1, lc j, if_neg (by omega)])⟩, 0, fun n _ => ?_⟩
      simp only [ff_M_payLayer_206, a4 0 (by decide), hs, if_neg ls, if_pos i4, sm_nat (j := j) (by omega), e1, e21, e20, tl, sm_suc, rk, if_pos (z0.mpr z)]
    · have b1 : ¬ Int32.ofNat (h j) = 0 := by rw [z0]; exact z
      by_cases y : cnB wn s = 0
      · have wj : wn j = false := by
          cases e : wn j with
          | false => rfl
          | true => rw [cj, e] at mono; simp at mono; omega
        refine Or.inr ⟨(ui I1 1 j (Int32.ofNat (c j) + Int32.ofNat (lsN h s)), q), ⟨by dsimp only; rw [a1, cj, wj]; rfl, fin (ui I1 1 j (Int32.ofNat (c j) + Int32.ofNat (lsN h s))) (fun p k hk => by rw [ui_at, if_neg (by omega)]) (by rw [ui_at, if_pos ⟨rfl, rfl⟩, lc j, if_pos (show j < s ∧ 0 < h j from ⟨hj, by omega⟩), if_pos y, Int32.ofNat_add])⟩, 0, fun n _ => ?_⟩
        simp only [ff_M_payLayer_206, a4 0 (by decide), hs, if_neg ls, if_pos i4, sm_nat (j := j) (by omega), e1, e21, e20, tl, sm_suc, rk, if_neg b1, if_pos (w0.mpr y)]
      · have b2 : ¬ Int32.ofNat (cnB wn s) = 0 := by rw [w0]; exact y
        cases e : wn j with
        | false =>
          refine Or.inr ⟨(I1, q), ⟨by dsimp only; rw [a1, cj, e]; rfl, fin I1 (fun _ _ _ => rfl) (by rw [e1, lc j, if_pos (show j < s ∧ 0 < h j from ⟨hj, by omega⟩), if_neg y, if_neg (by rw [e]; decide)])⟩, 0, fun n _ => ?_⟩
          by_cases f : I 20 j = 0
          · simp only [ff_M_payLayer_206, a4 0 (by decide), hs, if_neg ls, if_pos i4, sm_nat (j := j) (by omega), e1, e21, e20, tl, sm_suc, rk, if_neg b1, if_neg b2, if_pos f]
          · have g : ¬ rkF v j = B := by
              intro g
              rw [← hW] at e
              unfold wnB inf at e
              simp [m3.mpr f, g, show 0 < h j by omega] at e
            simp only [ff_M_payLayer_206, a4 0 (by decide), hs, if_neg ls, if_pos i4, sm_nat (j := j) (by omega), e1, e21, e20, tl, sm_suc, rk, if_neg b1, if_neg b2, if_neg f, if_neg g]
        | true =>
          have e' := e
          rw [← hW] at e'
          unfold wnB inf at e'
          simp at e'
          obtain ⟨⟨f1, f2⟩, f3⟩ := e'
          have lcj : layC fo h v s c j = c j + (potN h (lsN h s) s / cnB wn s + (if cnB wn j = 0 then potN h (lsN h s) s % cnB wn s else 0)) := by rw [lc j, if_pos (show j < s ∧ 0 < h j from ⟨hj, f2⟩), if_neg y, if_pos e]
          refine Or.inr ⟨(ui I1 1 j (Int32.ofNat (layC fo h v s c j)), 0), ⟨by dsimp only; rw [cj, e]; simp, fin (ui I1 1 j (Int32.ofNat (layC fo h v s c j))) (fun p k hk => by rw [ui_at, if_neg (by omega)]) (by rw [ui_at, if_pos ⟨rfl, rfl⟩])⟩, 0, fun n _ => ?_⟩
          have s1 : Int32.ofNat (potN h (lsN h s) s) / Int32.ofNat (cnB wn s) = Int32.ofNat (potN h (lsN h s) s / cnB wn s) := (Int32.ofNat_div (by omega) (by omega)).symm
          have s2 : Int32.ofNat (potN h (lsN h s) s) - Int32.ofNat (potN h (lsN h s) s / cnB wn s) * Int32.ofNat (cnB wn s) = Int32.ofNat (potN h (lsN h s) s % cnB wn s) := by rw [← s1]; exact tr_mod (by omega) (by omega)
          by_cases g : cnB wn j = 0
          · have q1 : ¬ q = 0 := by rw [a1, if_pos g]; decide
            have nv : Int32.ofNat (layC fo h v s c j) = Int32.ofNat (c j) + (Int32.ofNat (potN h (lsN h s) s / cnB wn s) + Int32.ofNat (potN h (lsN h s) s % cnB wn s)) := by rw [lcj, if_pos g, Int32.ofNat_add, Int32.ofNat_add]
            simp only [ff_M_payLayer_206, a4 0 (by decide), hs, if_neg ls, if_pos i4, sm_nat (j := j) (by omega), e1, e21, e20, tl, sm_suc, rk, if_neg b1, if_neg b2, if_neg (m3.mp f1), if_pos f3, if_pos b2, if_neg q1, ff_M_payLayer_296, s1, s2, nv]
          · have q1 : q = 0 := by rw [a1, if_neg g]
            have nv : Int32.ofNat (layC fo h v s c j) = Int32.ofNat (c j) + (Int32.ofNat (potN h (lsN h s) s / cnB wn s) + 0) := by rw [lcj, if_neg g, Int32.ofNat_add, Nat.add_zero, Int32.add_zero]
            simp only [ff_M_payLayer_206, a4 0 (by decide), hs, if_neg ls, if_pos i4, sm_nat (j := j) (by omega), e1, e21, e20, tl, sm_suc, rk, if_neg b1, if_neg b2, if_neg (m3.mp f1), if_pos f3, if_pos b2, if_pos q1, ff_M_payLayer_296, s1, nv]
