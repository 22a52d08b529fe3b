/-! the whole relation -/
def RF0 (s t P : Nat) (m : Nat → Int64) (I : MI) (J : MJ) (I' : MI) (J' : MJ) : Prop :=
  ∀ u, u < t → ∀ j, j < 52 → (u < s → I (6 + (u + 1)) j = spo P (m u) j (lockO P (I (6 + u)) (J (15 + 6 * u + 1) 1) (I (15 + 6 * u + 1) 0) j) ∧ I' 15 (52 * (u + 1) + j) = spo P (m u) j (lockM P (fun i => I' 15 (52 * u + i)) (J' 5 u) (I' 4 u) j)) ∧ (s ≤ u → I (6 + (u + 1)) j = spo P (m u) j (relO P (I (6 + u)) (I (15 + 6 * (u - s) + 1) 0) (I (15 + 6 * (u - s) + 3)) j) ∧ I' 15 (52 * (u + 1) + j) = spo P (m u) j (relM P (fun i => I' 15 (52 * u + i)) (I' 4 (u - s)) (LK P (J' 6 (u - s))) j))
/-- rows and locks are the same on both sides, if an EXPONENT always comes in time -/
def RX (s t P : Nat) (I I' : MI) (J' : MJ) : Prop :=
  LOCKS → (∀ k, k < s → I' 2 k = 1 → ∀ j, j < 52 → I (15 + 6 * k + 3) j = LK P (J' 6 k) j) ∧ (P ≠ 0 → (∀ j, j < 52 → I (6 + 0) j = Int32.ofNat ((j + 2) * (j + 2))) ∧ ∀ u, u ≤ t → ∀ j, j < 52 → I (6 + u) j = I' 15 (52 * u + j) ∧ inP P (I (6 + u) j))
def RF (s t P : Nat) (m : Nat → Int64) (I : MI) (J : MJ) (I' : MI) (J' : MJ) : Prop := RF0 s t P m I J I' J' ∧ RX s t P I I' J'
def SHW (P k : Nat) (I : MI) (J : MJ) (I' : MI) (J' : MJ) : Prop :=
  I (15 + 6 * k + 2) 0 = I' 8 k ∧ J (15 + 6 * k + 2) 1 = J' 9 k ∧ J (15 + 6 * k + 2) 2 = J' 6 k ∧ (I' 8 k = I' 4 k ∨ I' 8 k = AB P (I' 4 k)) ∧ (J' 9 k = J' 5 k ∨ J' 9 k = J' 5 k + 1)
def bad1 (I' : MI) (J' : MJ) (k : Nat) : Prop := J' 3 k ≠ MK (I' 8 k) (J' 9 k) (J' 6 k)
def bad2 (m : Nat → Int64) (u : Nat) : Prop := ∃ j, j < 52 ∧ bt (m u) j = true
/-- what the AUDIT says -/
def IsAV (s : Nat) (m : Nat → Int64) (w : Nat → Nat → Nat) (I' : MI) (J' : MJ) (v : Int32) : Prop :=
  (∃ k, k < s ∧ bad1 I' J' k ∧ (∀ i, i < k → ¬ bad1 I' J' i) ∧ v = Int32.ofNat (16 * k + 1)) ∨
  ((∀ k, k < s → ¬ bad1 I' J' k) ∧ ∃ u, u < 2 * s ∧ bad2 m u ∧ (∀ i, i < u → ¬ bad2 m i) ∧ v = Int32.ofNat (if u < s then 16 * u + 2 else 16 * (u - s) + 3)) ∨
  ((∀ k, k < s → ¬ bad1 I' J' k) ∧ (∀ u, u < 2 * s → ¬ bad2 m u) ∧ ∃ j k, j < 52 ∧ k < s ∧ w k j = 2 ∧ (∀ j' k', j' < j → k' < s → w k' j' ≠ 2) ∧ (∀ k', k' < k → w k' j ≠ 2) ∧ v = Int32.ofNat (16 * k + 4)) ∨
  ((∀ k, k < s → ¬ bad1 I' J' k) ∧ (∀ u, u < 2 * s → ¬ bad2 m u) ∧ (∀ j k, j < 52 → k < s → w k j ≠ 2) ∧ v = 0)
theorem lst_one {p : Nat → Prop} {x y : Nat} (hx : p x) (hx2 : ∀ i, i < x → ¬ p i) (hy : p y) (hy2 : ∀ i, i < y → ¬ p i) : x = y := by
  rcases Nat.lt_trichotomy x y with h | h | h
  · exact absurd hx (hy2 x h)
  · exact h
  · exact absurd hy (hx2 y h)
theorem IsAV_one {s : Nat} {m : Nat → Int64} {w : Nat → Nat → Nat} {I' : MI} {J' : MJ} {v v' : Int32} (h : IsAV s m w I' J' v) (h' : IsAV s m w I' J' v') : v = v' := by
  unfold IsAV at h h'
  rcases h with ⟨k, hk, b, l, e⟩ | ⟨n1, u, hu, b, l, e⟩ | ⟨n1, n2, j, k, hj, hk, b, l1, l2, e⟩ | ⟨n1, n2, n3, e⟩ <;>
  rcases h' with ⟨k', hk', b', l', e'⟩ | ⟨n1', u', hu', b', l', e'⟩ | ⟨n1', n2', j', k', hj', hk', b', l1', l2', e'⟩ | ⟨n1', n2', n3', e'⟩
  · rw [e, e', lst_one b l b' l']
  · exact absurd b (n1' k hk)
  · exact absurd b (n1' k hk)
  · exact absurd b (n1' k hk)
  · exact absurd b' (n1 k' hk')
  · rw [e, e', lst_one b l b' l']
  · exact absurd b (n2' u hu)
  · exact absurd b (n2' u hu)
  · exact absurd b' (n1 k' hk')
  · exact absurd b' (n2 u' hu')
  · have ej : j = j' := by
      rcases Nat.lt_trichotomy j j' with h | h | h
      · exact absurd b (l1' j k h hk)
      · exact h
      · exact absurd b' (l1 j' k' h hk')
    subst ej
    have ek : k = k' := lst_one (p := fun k => w k j = 2) b l2 b' l2'
    rw [e, e', ek]
  · exact absurd b (n3' j k hj hk)
  · exact absurd b' (n1 k' hk')
  · exact absurd b' (n2 u' hu')
  · exact absurd b' (n3 j' k' hj' hk')
  · rw [e, e']
def RV (s ph P : Nat) (m : Nat → Int64) (w : Nat → Nat → Nat) (I : MI) (J : MJ) (I' : MI) (J' : MJ) : Prop :=
  (1 ≤ ph → ∀ k, k < s → (I (15 + 6 * k) 7 = 0 ∧ I' 7 k = 0) ∨ (5 ≤ ph ∧ I (15 + 6 * k) 7 = 1 ∧ I' 7 k = 1 ∧ SHW P k I J I' J')) ∧ (ph = 6 → (∀ k, k < s → I' 7 k = 1) ∧ IsAV s m w I' J' (I 0 8))
def RG (s ph t P b a : Nat) (c h r : Nat → Nat) (m : Nat → Int64) (w : Nat → Nat → Nat) (I : MI) (J : MJ) (I' : MI) (J' : MJ) : Prop :=
  RS s ph t P b a I I' ∧ RB s ph b c h r I I' ∧ RC s ph P I J I' J' ∧ RD s ph J I' J' ∧ RE LK s ph P w I I' J' ∧ RF s t P m I J I' J' ∧ RV s ph P m w I J I' J'
def R (I : MI) (J : MJ) (I' : MI) (J' : MJ) : Prop := ∃ s ph t P b a c h r m w, RG s ph t P b a c h r m w I J I' J'
theorem RF0_fr {s t P : Nat} {m : Nat → Int64} {I I' I1 I1' : MI} {J J' J1 J1' : MJ} (g : RF0 s t P m I J I' J') (hst : t ≤ 2 * s) (e1 : ∀ u, u ≤ t → I1 (6 + u) = I (6 + u)) (e2 : ∀ k, k < s → I1 (15 + 6 * k + 1) = I (15 + 6 * k + 1) ∧ I1 (15 + 6 * k + 3) = I (15 + 6 * k + 3) ∧ J1 (15 + 6 * k + 1) = J (15 + 6 * k + 1)) (e3 : I1' 15 = I' 15 ∧ I1' 4 = I' 4 ∧ J1' 5 = J' 5 ∧ J1' 6 = J' 6) : RF0 s t P m I1 J1 I1' J1' := by
  unfold RF0 at *
  obtain ⟨f1, f2, f3, f4⟩ := e3
  rw [f1, f2, f3, f4]
  intro u hu j hj
  have g := g u hu j hj
  rw [e1 (u + 1) (by omega), e1 u (by omega)]
  refine ⟨fun h => ?_, fun h => ?_⟩
  · rw [(e2 u h).1, (e2 u h).2.2]; exact g.1 h
  · rw [(e2 (u - s) (by omega)).1, (e2 (u - s) (by omega)).2.1]; exact g.2 h
theorem RX_fr {s t P : Nat} {I I' I1 I1' : MI} {J' J1' : MJ} (g : RX s t P I I' J') (e1 : ∀ u, u ≤ t → I1 (6 + u) = I (6 + u)) (e2 : ∀ k, k < s → I1 (15 + 6 * k + 3) = I (15 + 6 * k + 3)) (e3 : I1' 15 = I' 15) (e4 : I1' 2 = I' 2) (e5 : J1' 6 = J' 6) : RX s t P I1 I1' J1' := by
  intro hL
  obtain ⟨g1, g2⟩ := g hL
  rw [e3, e4, e5]
  refine ⟨fun k hk hq j hj => ?_, fun hp => ⟨fun j hj => ?_, fun u hu j hj => ?_⟩⟩
  · rw [e2 k hk]; exact g1 k hk hq j hj
  · rw [e1 0 (Nat.zero_le _)]; exact (g2 hp).1 j hj
  · rw [e1 u hu]; exact (g2 hp).2 u hu j hj
theorem RF_fr {s t P : Nat} {m : Nat → Int64} {I I' I1 I1' : MI} {J J' J1 J1' : MJ} (g : RF s t P m I J I' J') (hst : t ≤ 2 * s) (e1 : ∀ u, u ≤ t → I1 (6 + u) = I (6 + u)) (e2 : ∀ k, k < s → I1 (15 + 6 * k + 1) = I (15 + 6 * k + 1) ∧ I1 (15 + 6 * k + 3) = I (15 + 6 * k + 3) ∧ J1 (15 + 6 * k + 1) = J (15 + 6 * k + 1)) (e3 : I1' 15 = I' 15 ∧ I1' 4 = I' 4 ∧ J1' 5 = J' 5 ∧ J1' 6 = J' 6) (e4 : I1' 2 = I' 2) : RF s t P m I1 J1 I1' J1' :=
  ⟨RF0_fr g.1 hst e1 e2 e3, RX_fr g.2 e1 (fun k hk => (e2 k hk).2.1) e3.1 e4 e3.2.2.2⟩
theorem RV_fr {s ph P : Nat} {m : Nat → Int64} {w : Nat → Nat → Nat} {I I' I1 I1' : MI} {J J' J1 J1' : MJ} (g : RV s ph P m w I J I' J') (e0 : I1 0 8 = I 0 8) (e1 : ∀ k, k < s → I1 (15 + 6 * k) 7 = I (15 + 6 * k) 7 ∧ I1 (15 + 6 * k + 2) = I (15 + 6 * k + 2) ∧ J1 (15 + 6 * k + 2) = J (15 + 6 * k + 2)) (e3 : I1' 4 = I' 4 ∧ I1' 7 = I' 7 ∧ I1' 8 = I' 8 ∧ J1' 3 = J' 3 ∧ J1' 5 = J' 5 ∧ J1' 6 = J' 6 ∧ J1' 9 = J' 9) : RV s ph P m w I1 J1 I1' J1' := by
  unfold RV SHW IsAV bad1 at *
  obtain ⟨f1, f2, f3, f4, f5, f6, f7⟩ := e3
  rw [f1, f2, f3, f4, f5, f6, f7, e0]
  refine ⟨fun h k hk => ?_, g.2⟩
  obtain ⟨x1, x2, x3⟩ := e1 k hk
  rw [x1, x2, x3]
  exact g.1 h k hk
theorem RS_t {s ph t P b a : Nat} {I I' : MI} (h : RS s ph t P b a I I') : t ≤ 2 * s := by
  unfold RS at h
  omega
/-- the reference's scratch -/
theorem RG_M {s ph t P b a : Nat} {c h r : Nat → Nat} {m : Nat → Int64} {w : Nat → Nat → Nat} {I I' I1' : MI} {J J' J1' : MJ} (g : RG s ph t P b a c h r m w I J I' J') (e : ∀ x, x ≠ 0 → x ≠ 16 → x ≠ 17 → I1' x = I' x) (e0 : ∀ y, y ≠ 0 → I1' 0 y = I' 0 y) (ej : ∀ x, x ≠ 0 → J1' x = J' x) : RG s ph t P b a c h r m w I J I1' J1' := by
  obtain ⟨g1, g2, g3, g4, g5, g6, g7⟩ := g
  have E := fun x (h1 : x ≠ 0) (h2 : x ≠ 16) (h3 : x ≠ 17) => e x h1 h2 h3
  refine ⟨RS_fr g1 (fun y _ => rfl) e0, RB_fr g2 (fun k _ y _ => rfl) (fun k _ => ⟨by rw [e 1] <;> decide, by rw [e 20] <;> decide, by rw [e 21] <;> decide, by rw [e 22] <;> decide, by rw [e 23] <;> decide⟩), RC_fr g3 (fun k _ => ⟨rfl, rfl, rfl, rfl, rfl⟩) ⟨by rw [e 2] <;> decide, by rw [e 4] <;> decide, ej 3 (by decide), ej 5 (by decide), ej 6 (by decide)⟩, RD_fr g4 (fun k _ => rfl) ⟨by rw [e 13] <;> decide, by rw [e 14] <;> decide, ej 10 (by decide), ej 11 (by decide), ej 12 (by decide)⟩, RE_fr g5 ⟨rfl, fun k _ => ⟨rfl, rfl⟩⟩ ⟨by rw [e 18] <;> decide, by rw [e 19] <;> decide, ej 6 (by decide)⟩, RF_fr g6 (RS_t g1) (fun u _ => rfl) (fun k _ => ⟨rfl, rfl, rfl⟩) ⟨by rw [e 15] <;> decide, by rw [e 4] <;> decide, ej 5 (by decide), ej 6 (by decide)⟩ (by rw [e 2] <;> decide), RV_fr g7 rfl (fun k _ => ⟨rfl, rfl, rfl⟩) ⟨by rw [e 4] <;> decide, by rw [e 7] <;> decide, by rw [e 8] <;> decide, ej 3 (by decide), ej 5 (by decide), ej 6 (by decide), ej 9 (by decide)⟩⟩
theorem RG_th {s ph t P b a : Nat} {c h r : Nat → Nat} {m : Nat → Int64} {w : Nat → Nat → Nat} {I I' : MI} {J J' : MJ} (g : RG s ph t P b a c h r m w I J I' J') (x : Int32) : RG s ph t P b a c h r m w I J (ui I' 0 0 x) J' :=
  RG_M g (fun y h _ _ => ui_else _ _ _ h) (fun y hy => by rw [ui_at, if_neg (by omega)]) (fun _ _ => rfl)
theorem R_start : R IO J00 IM J00 := by
  refine ⟨0, 0, 0, 0, 0, 0, fun _ => 0, fun _ => 0, fun _ => 0, fun _ => 0, fun _ _ => 0, ?_, ?_, ?_, ?_, ?_, ?_, ?_⟩
  · unfold RS
    refine ⟨rfl, rfl, by decide, rfl, rfl, by decide, rfl, rfl, fun h => absurd rfl h, rfl, fun _ => rfl, fun h => absurd h (by decide), fun h => absurd h (by decide), fun h => absurd h (by decide), fun h => absurd rfl h, rfl, Or.inl ⟨rfl, rfl, rfl⟩⟩
  · exact ⟨fun k hk => absurd hk (by omega), Nat.le_refl _⟩
  · exact ⟨fun k hk => absurd hk (by omega), fun _ k _ => rfl⟩
  · exact fun h => absurd h (by decide)
  · exact ⟨fun h => absurd h (by decide), fun k hk => absurd hk (by omega), fun _ => ⟨fun k hk => absurd hk (by omega), fun i _ => rfl⟩⟩
  · exact ⟨fun u hu => absurd hu (by omega), fun _ => ⟨fun k hk => absurd hk (by omega), fun hp => absurd rfl hp⟩⟩
  · exact ⟨fun h => absurd h (by decide), fun h => absurd h (by decide)⟩
