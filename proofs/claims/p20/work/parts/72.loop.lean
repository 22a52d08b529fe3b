/-! one step of the law, and its loop; laid by program -/
abbrev LM : Type := MI × MJ × MI × MJ × (Nat → Int64)
abbrev LWm (kc : Nat → ClassId) (ad am : Nat → Nat) (o : Nat) (M : LM) : va_W := LW kc ad am o M.1 M.2.1 M.2.2.1 M.2.2.2.1 M.2.2.2.2
def ls_0 (xs : Nat → Int32) (i : Nat) (I : MI) (J : MJ) (I' : MI) (J' : MJ) (f : Nat → Int64) (M' : LM) : Prop := ∃ (n0_ : Nat) (r0_ : Int32 × MI × MJ) (n1_ : Nat) (r1_ : Int32 × MI × MJ), (ff_O_prime n0_ I J (xs (7 * i + 1)) = some r0_) ∧ (ff_M_prime n1_ I' J' (xs (7 * i + 1)) = some r1_) ∧ M' = (r0_.2.1, r0_.2.2, r1_.2.1, r1_.2.2, f)
def ls_1 (xs : Nat → Int32) (i : Nat) (I : MI) (J : MJ) (I' : MI) (J' : MJ) (f : Nat → Int64) (M' : LM) : Prop := ∃ (n0_ : Nat) (r0_ : MI × MJ) (n1_ : Nat) (r1_ : MI × MJ), (ff_O_clear n0_ I J  = some r0_) ∧ (ff_M_clear n1_ I' J'  = some r1_) ∧ M' = (r0_.1, r0_.2, r1_.1, r1_.2, f)
def ls_2 (xs : Nat → Int32) (i : Nat) (I : MI) (J : MJ) (I' : MI) (J' : MJ) (f : Nat → Int64) (M' : LM) : Prop := ∃ (n0_ : Nat) (r0_ : Int32 × MI × MJ) (n1_ : Nat) (r1_ : Int32 × MI × MJ), (ff_O_seat n0_ I J (xs (7 * i + 1)) = some r0_) ∧ (ff_M_seat n1_ I' J' (xs (7 * i + 1)) = some r1_) ∧ M' = (r0_.2.1, r0_.2.2, r1_.2.1, r1_.2.2, f)
def ls_3 (xs : Nat → Int32) (i : Nat) (I : MI) (J : MJ) (I' : MI) (J' : MJ) (f : Nat → Int64) (M' : LM) : Prop := ∃ (n0_ : Nat) (r0_ : Int32 × MI × MJ) (n1_ : Nat) (r1_ : Int32 × MI × MJ), (ff_O_deal n0_ I J  = some r0_) ∧ (ff_M_deal n1_ I' J'  = some r1_) ∧ M' = (r0_.2.1, r0_.2.2, r1_.2.1, r1_.2.2, f)
def ls_4 (xs : Nat → Int32) (i : Nat) (I : MI) (J : MJ) (I' : MI) (J' : MJ) (f : Nat → Int64) (M' : LM) : Prop := ∃ (n0_ : Nat) (r0_ : Int32 × MI × MJ) (n1_ : Nat) (r1_ : Int32 × MI × MJ), (ff_O_seal n0_ I J (xs (7 * i + 1)) (xs (7 * i + 2)) (lgp (xs (7 * i + 3)) (xs (7 * i + 4))) (lgp (xs (7 * i + 5)) (xs (7 * i + 6))) = some r0_) ∧ (ff_M_seal n1_ I' J' (xs (7 * i + 1)) (xs (7 * i + 2)) (lgp (xs (7 * i + 3)) (xs (7 * i + 4))) (lgp (xs (7 * i + 5)) (xs (7 * i + 6))) = some r1_) ∧ M' = (r0_.2.1, r0_.2.2, r1_.2.1, r1_.2.2, f)
def ls_5r (xs : Nat → Int32) (i : Nat) (I : MI) (J : MJ) (I' : MI) (J' : MJ) (f : Nat → Int64) (M' : LM) : Prop := ∃ (n0 : Nat) (v : Int64) (n0_ : Nat) (r0_ : Int64 × MI × MJ), (ff_O_sealOf n0 I J (xs (7 * i + 1)) = some (some v)) ∧ (ff_M_sealOf2 n0_ I' J' (xs (7 * i + 1)) = some r0_) ∧ M' = (I, J, r0_.2.1, r0_.2.2, (vp_updL f 0 v))
def ls_5t (xs : Nat → Int32) (i : Nat) (I : MI) (J : MJ) (I' : MI) (J' : MJ) (f : Nat → Int64) (M' : LM) : Prop := ∃ (n0 : Nat) (n0_ : Nat) (r0_ : Int64 × MI × MJ), (ff_O_sealOf n0 I J (xs (7 * i + 1)) = some none) ∧ (ff_M_sealOf2 n0_ I' J' (xs (7 * i + 1)) = some r0_) ∧ M' = (I, J, r0_.2.1, r0_.2.2, f)
def ls_6 (xs : Nat → Int32) (i : Nat) (I : MI) (J : MJ) (I' : MI) (J' : MJ) (f : Nat → Int64) (M' : LM) : Prop := ∃ (n0_ : Nat) (r0_ : Int32 × MI × MJ) (n1_ : Nat) (r1_ : Int32 × MI × MJ), (ff_O_turn n0_ I J (xs (7 * i + 1)) = some r0_) ∧ (ff_M_turn n1_ I' J' (xs (7 * i + 1)) = some r1_) ∧ M' = (r0_.2.1, r0_.2.2, r1_.2.1, r1_.2.2, f)
def ls_7r (xs : Nat → Int32) (i : Nat) (I : MI) (J : MJ) (I' : MI) (J' : MJ) (f : Nat → Int64) (M' : LM) : Prop := ∃ (n0 : Nat) (v : Int32) (n0_ : Nat) (r0_ : Int32 × MI × MJ), (ff_O_laid n0 I J (xs (7 * i + 1)) = some (some v)) ∧ (ff_M_laid n0_ I' J' (xs (7 * i + 1)) = some r0_) ∧ M' = (I, J, r0_.2.1, r0_.2.2, (vp_updL f 0 v.toInt64))
def ls_7t (xs : Nat → Int32) (i : Nat) (I : MI) (J : MJ) (I' : MI) (J' : MJ) (f : Nat → Int64) (M' : LM) : Prop := ∃ (n0 : Nat) (n0_ : Nat) (r0_ : Int32 × MI × MJ), (ff_O_laid n0 I J (xs (7 * i + 1)) = some none) ∧ (ff_M_laid n0_ I' J' (xs (7 * i + 1)) = some r0_) ∧ M' = (I, J, r0_.2.1, r0_.2.2, f)
def ls_8 (xs : Nat → Int32) (i : Nat) (I : MI) (J : MJ) (I' : MI) (J' : MJ) (f : Nat → Int64) (M' : LM) : Prop := ∃ (n0_ : Nat) (r0_ : Int32 × MI × MJ) (n1_ : Nat) (r1_ : Int32 × MI × MJ), (ff_O_assign n0_ I J (xs (7 * i + 1)) (xs (7 * i + 2)) = some r0_) ∧ (ff_M_assign n1_ I' J' (xs (7 * i + 1)) (xs (7 * i + 2)) = some r1_) ∧ M' = (r0_.2.1, r0_.2.2, r1_.2.1, r1_.2.2, f)
def ls_9 (xs : Nat → Int32) (i : Nat) (I : MI) (J : MJ) (I' : MI) (J' : MJ) (f : Nat → Int64) (M' : LM) : Prop := ∃ (n0_ : Nat) (r0_ : Int32 × MI × MJ) (n1_ : Nat) (r1_ : Int32 × MI × MJ), (ff_O_give n0_ I J (xs (7 * i + 1)) (xs (7 * i + 2)) = some r0_) ∧ (ff_M_give n1_ I' J' (xs (7 * i + 1)) (xs (7 * i + 2)) = some r1_) ∧ M' = (r0_.2.1, r0_.2.2, r1_.2.1, r1_.2.2, f)
def ls_10 (xs : Nat → Int32) (i : Nat) (I : MI) (J : MJ) (I' : MI) (J' : MJ) (f : Nat → Int64) (M' : LM) : Prop := ∃ (n0_ : Nat) (r0_ : Int32) (n1_ : Nat) (r1_ : Int32 × MI × MJ), (ff_O_open n0_ I J (xs (7 * i + 1)) (xs (7 * i + 2)) = some r0_) ∧ (ff_M_open n1_ I' J' (xs (7 * i + 1)) (xs (7 * i + 2)) = some r1_) ∧ M' = (I, J, r1_.2.1, r1_.2.2, f)
def ls_11 (xs : Nat → Int32) (i : Nat) (I : MI) (J : MJ) (I' : MI) (J' : MJ) (f : Nat → Int64) (M' : LM) : Prop := ∃ (n0_ : Nat) (r0_ : Int32 × MI × MJ) (n1_ : Nat) (r1_ : Int32 × MI × MJ), (ff_O_round n0_ I J  = some r0_) ∧ (ff_M_round n1_ I' J'  = some r1_) ∧ M' = (r0_.2.1, r0_.2.2, r1_.2.1, r1_.2.2, f)
def ls_12 (xs : Nat → Int32) (i : Nat) (I : MI) (J : MJ) (I' : MI) (J' : MJ) (f : Nat → Int64) (M' : LM) : Prop := ∃ (n0_ : Nat) (r0_ : Int32 × MI × MJ) (n1_ : Nat) (r1_ : Int32 × MI × MJ), (ff_O_bet n0_ I J (xs (7 * i + 1)) (xs (7 * i + 2)) (xs (7 * i + 3)) = some r0_) ∧ (ff_M_bet n1_ I' J' (xs (7 * i + 1)) (xs (7 * i + 2)) (xs (7 * i + 3)) = some r1_) ∧ M' = (r0_.2.1, r0_.2.2, r1_.2.1, r1_.2.2, f)
def ls_13 (xs : Nat → Int32) (i : Nat) (I : MI) (J : MJ) (I' : MI) (J' : MJ) (f : Nat → Int64) (M' : LM) : Prop := ∃ (n0_ : Nat) (r0_ : Int32 × MI × MJ) (n1_ : Nat) (r1_ : Int32 × MI × MJ), (ff_O_settle n0_ I J (xs (7 * i + 1)) = some r0_) ∧ (ff_M_settle n1_ I' J' (xs (7 * i + 1)) = some r1_) ∧ M' = (r0_.2.1, r0_.2.2, r1_.2.1, r1_.2.2, f)
def ls_14 (xs : Nat → Int32) (i : Nat) (I : MI) (J : MJ) (I' : MI) (J' : MJ) (f : Nat → Int64) (M' : LM) : Prop := ∃ (n0_ : Nat) (r0_ : Int32 × MI × MJ) (n1_ : Nat) (r1_ : Int32 × MI × MJ), (ff_O_show n0_ I J (xs (7 * i + 1)) = some r0_) ∧ (ff_M_show n1_ I' J' (xs (7 * i + 1)) = some r1_) ∧ M' = (r0_.2.1, r0_.2.2, r1_.2.1, r1_.2.2, f)
def ls_15r (xs : Nat → Int32) (i : Nat) (I : MI) (J : MJ) (I' : MI) (J' : MJ) (f : Nat → Int64) (M' : LM) : Prop := ∃ (n0 : Nat) (v : Int32) (n0_ : Nat) (r0_ : Int32 × MI × MJ), (ff_O_audit n0 I J  = some (some v)) ∧ (ff_M_audit n0_ I' J'  = some r0_) ∧ M' = (I, J, r0_.2.1, r0_.2.2, (vp_updL f 0 v.toInt64))
def ls_15t (xs : Nat → Int32) (i : Nat) (I : MI) (J : MJ) (I' : MI) (J' : MJ) (f : Nat → Int64) (M' : LM) : Prop := ∃ (n0 : Nat) (n0_ : Nat) (r0_ : Int32 × MI × MJ), (ff_O_audit n0 I J  = some none) ∧ (ff_M_audit n0_ I' J'  = some r0_) ∧ M' = (I, J, r0_.2.1, r0_.2.2, f)
def ls_16 (xs : Nat → Int32) (i : Nat) (I : MI) (J : MJ) (I' : MI) (J' : MJ) (f : Nat → Int64) (M' : LM) : Prop := ∃ (n0_ : Nat) (r0_ : Int32 × MI × MJ) (n1_ : Nat) (r1_ : Int32 × MI × MJ), (ff_O_cheat n0_ I J (xs (7 * i + 1)) (xs (7 * i + 2)) (xs (7 * i + 3)) = some r0_) ∧ (ff_M_cheat n1_ I' J' (xs (7 * i + 1)) (xs (7 * i + 2)) (xs (7 * i + 3)) = some r1_) ∧ M' = (r0_.2.1, r0_.2.2, r1_.2.1, r1_.2.2, f)
def ls_17 (xs : Nat → Int32) (i : Nat) (I : MI) (J : MJ) (I' : MI) (J' : MJ) (f : Nat → Int64) (M' : LM) : Prop := ∃ (n0_ : Nat) (r0_ : Int32) (n1_ : Nat) (r1_ : Int32 × MI × MJ), (ff_O_state n0_ I J (xs (7 * i + 1)) = some r0_) ∧ (ff_M_state n1_ I' J' (xs (7 * i + 1)) = some r1_) ∧ M' = (I, J, r1_.2.1, r1_.2.2, f)
def ls_18 (xs : Nat → Int32) (i : Nat) (I : MI) (J : MJ) (I' : MI) (J' : MJ) (f : Nat → Int64) (M' : LM) : Prop := ∃ (n0_ : Nat) (r0_ : Int32) (n1_ : Nat) (r1_ : Int32 × MI × MJ), (ff_O_player n0_ I J (xs (7 * i + 1)) (xs (7 * i + 2)) = some r0_) ∧ (ff_M_player n1_ I' J' (xs (7 * i + 1)) (xs (7 * i + 2)) = some r1_) ∧ (r0_ = r1_.1) ∧ M' = (I, J, r1_.2.1, r1_.2.2, f)
def LStep (xs : Nat → Int32) (i : Nat) (M M' : LM) : Prop := (xs (7 * i) &&& 31 = 0 → ls_0 xs i M.1 M.2.1 M.2.2.1 M.2.2.2.1 M.2.2.2.2 M') ∧ (xs (7 * i) &&& 31 = 1 → ls_1 xs i M.1 M.2.1 M.2.2.1 M.2.2.2.1 M.2.2.2.2 M') ∧ (xs (7 * i) &&& 31 = 2 → ls_2 xs i M.1 M.2.1 M.2.2.1 M.2.2.2.1 M.2.2.2.2 M') ∧ (xs (7 * i) &&& 31 = 3 → ls_3 xs i M.1 M.2.1 M.2.2.1 M.2.2.2.1 M.2.2.2.2 M') ∧ (xs (7 * i) &&& 31 = 4 → ls_4 xs i M.1 M.2.1 M.2.2.1 M.2.2.2.1 M.2.2.2.2 M') ∧ (xs (7 * i) &&& 31 = 5 → ls_5r xs i M.1 M.2.1 M.2.2.1 M.2.2.2.1 M.2.2.2.2 M' ∨ ls_5t xs i M.1 M.2.1 M.2.2.1 M.2.2.2.1 M.2.2.2.2 M') ∧ (xs (7 * i) &&& 31 = 6 → ls_6 xs i M.1 M.2.1 M.2.2.1 M.2.2.2.1 M.2.2.2.2 M') ∧ (xs (7 * i) &&& 31 = 7 → ls_7r xs i M.1 M.2.1 M.2.2.1 M.2.2.2.1 M.2.2.2.2 M' ∨ ls_7t xs i M.1 M.2.1 M.2.2.1 M.2.2.2.1 M.2.2.2.2 M') ∧ (xs (7 * i) &&& 31 = 8 → ls_8 xs i M.1 M.2.1 M.2.2.1 M.2.2.2.1 M.2.2.2.2 M') ∧ (xs (7 * i) &&& 31 = 9 → ls_9 xs i M.1 M.2.1 M.2.2.1 M.2.2.2.1 M.2.2.2.2 M') ∧ (xs (7 * i) &&& 31 = 10 → ls_10 xs i M.1 M.2.1 M.2.2.1 M.2.2.2.1 M.2.2.2.2 M') ∧ (xs (7 * i) &&& 31 = 11 → ls_11 xs i M.1 M.2.1 M.2.2.1 M.2.2.2.1 M.2.2.2.2 M') ∧ (xs (7 * i) &&& 31 = 12 → ls_12 xs i M.1 M.2.1 M.2.2.1 M.2.2.2.1 M.2.2.2.2 M') ∧ (xs (7 * i) &&& 31 = 13 → ls_13 xs i M.1 M.2.1 M.2.2.1 M.2.2.2.1 M.2.2.2.2 M') ∧ (xs (7 * i) &&& 31 = 14 → ls_14 xs i M.1 M.2.1 M.2.2.1 M.2.2.2.1 M.2.2.2.2 M') ∧ (xs (7 * i) &&& 31 = 15 → ls_15r xs i M.1 M.2.1 M.2.2.1 M.2.2.2.1 M.2.2.2.2 M' ∨ ls_15t xs i M.1 M.2.1 M.2.2.1 M.2.2.2.1 M.2.2.2.2 M') ∧ (xs (7 * i) &&& 31 = 16 → ls_16 xs i M.1 M.2.1 M.2.2.1 M.2.2.2.1 M.2.2.2.2 M') ∧ (xs (7 * i) &&& 31 = 17 → ls_17 xs i M.1 M.2.1 M.2.2.1 M.2.2.2.1 M.2.2.2.2 M') ∧ (xs (7 * i) &&& 31 = 18 → ls_18 xs i M.1 M.2.1 M.2.2.1 M.2.2.2.1 M.2.2.2.2 M') ∧ ((xs (7 * i) &&& 31).toInt < 0 ∨ 18 < (xs (7 * i) &&& 31).toInt → M' = M)
set_option maxHeartbeats 4000000 in
set_option maxRecDepth 100000 in
theorem law_step (l : Launch) {p : Program} {e : Env} {s : State} {m : MethodId} {below : List Frame} {meth : Method} {c : Code} {b L o : Nat} {xs : Nat → Int32} {D : va_G} {kc : Nat → ClassId} {ad am : Nat → Nat} {tw q1 q2 q3 : Nat} {i cells slots : Nat} {H : Heap} {locs : List Loc} {ls : Array Slot} {Q : State → Prop} {M M' : LM} (hx : p.tables.exec = Jvm.exec) (hb : c.code = code) (hml : c.maxLocals = 8) (hown : s.vm.findClass "OpenDealLaw" = some m.cls) (hk : ∀ w ∈ kw, w.before #[Value.ref b] s = true) (hX : va_X b L xs s s.heap) (hbl : b < s.heap.size) (hL : L ≤ 3584) (hT : LBt tw q1 q2 q3 s) (hK : va_K D cls5 (tys5 kc) s) (hfl : l.flags = pinnedFlags ++ [noTraceFlag]) (hi : 7 * i + 7 ≤ L) (hst : LStep xs i M M')
    (hP : va_P D cls5 (LWm kc ad am o M) H) (hD : va_D (LA s) (LWm kc ad am o M)) (hS : va_S (LA s) s.heap H locs) (hcs : cells + 16 ≤ 601024 ∧ slots + 16 ≤ 7293034) (hl : lv_has ls 8 [(4, .int (Int32.ofNat (7 * i))), (3, .ref o), (2, .ref (am 0)), (1, .ref (ad 0)), (0, .ref b)])
    (kk : ∀ (H1 : Heap) (locs1 : List Loc) (ls1 : Array Slot), va_P D cls5 (LWm kc ad am o M') H1 → va_D (LA s) (LWm kc ad am o M') → va_S (LA s) s.heap H1 locs1 → lv_has ls1 8 [(4, .int (Int32.ofNat (7 * i))), (3, .ref o), (2, .ref (am 0)), (1, .ref (ad 0)), (0, .ref b)] → W p l e room_1 s m #[Value.ref b] below meth c H1 locs1 (cells + 16) (slots + 16) Q (F0 m 764 ls1 [])) : W p l e room_1 s m #[Value.ref b] below meth c H locs cells slots Q (F0 m 33 ls []) := by
  refine lv_aload_n hx hb dd_L_law_33 rfl (lv_at hl 4 rfl) ?_
  refine lv_iload hx hb dd_L_law_34 (lv_at hl 0 rfl) ?_
  refine va_sld (A := LA s) hx hb hX hbl (Nat.not_le.mpr hbl) hS (ix_in (by omega) hL) dd_L_law_36 ?_
  rw [ix_nat (L := L) (by omega) hL]
  refine lv_bipush (v := 31) hx hb dd_L_law_37 (by decide) ?_
  refine lv_iand hx hb dd_L_law_39 ?_
  unfold LStep at hst
  generalize xs (7 * i) &&& 31 = z at hst ⊢
  obtain ⟨g0, g1, g2, g3, g4, g5, g6, g7, g8, g9, g10, g11, g12, g13, g14, g15, g16, g17, g18, gd⟩ := hst
  by_cases hc0 : z = 0
  · refine lv_tableIn (tgt := 132) hx hb dd_L_law_40 (by rw [hc0]; decide) (by rw [hc0]; decide) (by rw [hc0]; rfl) (by decide) ?_
    have g := g0 hc0
    obtain ⟨n0_, r0_, n1_, r1_, h0_, h1_, rfl⟩ := g
    exact lc_0 l hx hb hml hown hk hX hbl hL hi hT hK hP hD hS hcs hl n0_ r0_ h0_ n1_ r1_ h1_ kk
  by_cases hc1 : z = 1
  · refine lv_tableIn (tgt := 157) hx hb dd_L_law_40 (by rw [hc1]; decide) (by rw [hc1]; decide) (by rw [hc1]; rfl) (by decide) ?_
    have g := g1 hc1
    obtain ⟨n0_, r0_, n1_, r1_, h0_, h1_, rfl⟩ := g
    exact lc_1 l hx hb hml hown hk hX hbl hL hi hT hK hP hD hS hcs hl n0_ r0_ h0_ n1_ r1_ h1_ kk
  by_cases hc2 : z = 2
  · refine lv_tableIn (tgt := 168) hx hb dd_L_law_40 (by rw [hc2]; decide) (by rw [hc2]; decide) (by rw [hc2]; rfl) (by decide) ?_
    have g := g2 hc2
    obtain ⟨n0_, r0_, n1_, r1_, h0_, h1_, rfl⟩ := g
    exact lc_2 l hx hb hml hown hk hX hbl hL hi hT hK hP hD hS hcs hl n0_ r0_ h0_ n1_ r1_ h1_ kk
  by_cases hc3 : z = 3
  · refine lv_tableIn (tgt := 193) hx hb dd_L_law_40 (by rw [hc3]; decide) (by rw [hc3]; decide) (by rw [hc3]; rfl) (by decide) ?_
    have g := g3 hc3
    obtain ⟨n0_, r0_, n1_, r1_, h0_, h1_, rfl⟩ := g
    exact lc_3 l hx hb hml hown hk hX hbl hL hi hT hK hP hD hS hcs hl n0_ r0_ h0_ n1_ r1_ h1_ kk
  by_cases hc4 : z = 4
  · refine lv_tableIn (tgt := 206) hx hb dd_L_law_40 (by rw [hc4]; decide) (by rw [hc4]; decide) (by rw [hc4]; rfl) (by decide) ?_
    have g := g4 hc4
    obtain ⟨n0_, r0_, n1_, r1_, h0_, h1_, rfl⟩ := g
    exact lc_4 l hx hb hml hown hk hX hbl hL hi hT hK hP hD hS hcs hl n0_ r0_ h0_ n1_ r1_ h1_ kk
  by_cases hc5 : z = 5
  · refine lv_tableIn (tgt := 333) hx hb dd_L_law_40 (by rw [hc5]; decide) (by rw [hc5]; decide) (by rw [hc5]; rfl) (by decide) ?_
    have g := g5 hc5
    rcases g with g | g
    · obtain ⟨n0, v, n0_, r0_, h0, h0_, rfl⟩ := g
      exact lc_5r l hx hb hml hown hk hX hbl hL hi hT hK hP hD hS hcs hl n0 v h0 n0_ r0_ h0_ kk
    · obtain ⟨n0, n0_, r0_, h0, h0_, rfl⟩ := g
      exact lc_5t l hx hb hml hown hk hX hbl hL hi hT hK hP hD hS hcs hl hfl n0 h0 n0_ r0_ h0_ kk
  by_cases hc6 : z = 6
  · refine lv_tableIn (tgt := 361) hx hb dd_L_law_40 (by rw [hc6]; decide) (by rw [hc6]; decide) (by rw [hc6]; rfl) (by decide) ?_
    have g := g6 hc6
    obtain ⟨n0_, r0_, n1_, r1_, h0_, h1_, rfl⟩ := g
    exact lc_6 l hx hb hml hown hk hX hbl hL hi hT hK hP hD hS hcs hl n0_ r0_ h0_ n1_ r1_ h1_ kk
  by_cases hc7 : z = 7
  · refine lv_tableIn (tgt := 386) hx hb dd_L_law_40 (by rw [hc7]; decide) (by rw [hc7]; decide) (by rw [hc7]; rfl) (by decide) ?_
    have g := g7 hc7
    rcases g with g | g
    · obtain ⟨n0, v, n0_, r0_, h0, h0_, rfl⟩ := g
      exact lc_7r l hx hb hml hown hk hX hbl hL hi hT hK hP hD hS hcs hl n0 v h0 n0_ r0_ h0_ kk
    · obtain ⟨n0, n0_, r0_, h0, h0_, rfl⟩ := g
      exact lc_7t l hx hb hml hown hk hX hbl hL hi hT hK hP hD hS hcs hl hfl n0 h0 n0_ r0_ h0_ kk
  by_cases hc8 : z = 8
  · refine lv_tableIn (tgt := 414) hx hb dd_L_law_40 (by rw [hc8]; decide) (by rw [hc8]; decide) (by rw [hc8]; rfl) (by decide) ?_
    have g := g8 hc8
    obtain ⟨n0_, r0_, n1_, r1_, h0_, h1_, rfl⟩ := g
    exact lc_8 l hx hb hml hown hk hX hbl hL hi hT hK hP hD hS hcs hl n0_ r0_ h0_ n1_ r1_ h1_ kk
  by_cases hc9 : z = 9
  · refine lv_tableIn (tgt := 451) hx hb dd_L_law_40 (by rw [hc9]; decide) (by rw [hc9]; decide) (by rw [hc9]; rfl) (by decide) ?_
    have g := g9 hc9
    obtain ⟨n0_, r0_, n1_, r1_, h0_, h1_, rfl⟩ := g
    exact lc_9 l hx hb hml hown hk hX hbl hL hi hT hK hP hD hS hcs hl n0_ r0_ h0_ n1_ r1_ h1_ kk
  by_cases hc10 : z = 10
  · refine lv_tableIn (tgt := 488) hx hb dd_L_law_40 (by rw [hc10]; decide) (by rw [hc10]; decide) (by rw [hc10]; rfl) (by decide) ?_
    have g := g10 hc10
    obtain ⟨n0_, r0_, n1_, r1_, h0_, h1_, rfl⟩ := g
    exact lc_10 l hx hb hml hown hk hX hbl hL hi hT hK hP hD hS hcs hl n0_ r0_ h0_ n1_ r1_ h1_ kk
  by_cases hc11 : z = 11
  · refine lv_tableIn (tgt := 525) hx hb dd_L_law_40 (by rw [hc11]; decide) (by rw [hc11]; decide) (by rw [hc11]; rfl) (by decide) ?_
    have g := g11 hc11
    obtain ⟨n0_, r0_, n1_, r1_, h0_, h1_, rfl⟩ := g
    exact lc_11 l hx hb hml hown hk hX hbl hL hi hT hK hP hD hS hcs hl n0_ r0_ h0_ n1_ r1_ h1_ kk
  by_cases hc12 : z = 12
  · refine lv_tableIn (tgt := 538) hx hb dd_L_law_40 (by rw [hc12]; decide) (by rw [hc12]; decide) (by rw [hc12]; rfl) (by decide) ?_
    have g := g12 hc12
    obtain ⟨n0_, r0_, n1_, r1_, h0_, h1_, rfl⟩ := g
    exact lc_12 l hx hb hml hown hk hX hbl hL hi hT hK hP hD hS hcs hl n0_ r0_ h0_ n1_ r1_ h1_ kk
  by_cases hc13 : z = 13
  · refine lv_tableIn (tgt := 587) hx hb dd_L_law_40 (by rw [hc13]; decide) (by rw [hc13]; decide) (by rw [hc13]; rfl) (by decide) ?_
    have g := g13 hc13
    obtain ⟨n0_, r0_, n1_, r1_, h0_, h1_, rfl⟩ := g
    exact lc_13 l hx hb hml hown hk hX hbl hL hi hT hK hP hD hS hcs hl n0_ r0_ h0_ n1_ r1_ h1_ kk
  by_cases hc14 : z = 14
  · refine lv_tableIn (tgt := 612) hx hb dd_L_law_40 (by rw [hc14]; decide) (by rw [hc14]; decide) (by rw [hc14]; rfl) (by decide) ?_
    have g := g14 hc14
    obtain ⟨n0_, r0_, n1_, r1_, h0_, h1_, rfl⟩ := g
    exact lc_14 l hx hb hml hown hk hX hbl hL hi hT hK hP hD hS hcs hl n0_ r0_ h0_ n1_ r1_ h1_ kk
  by_cases hc15 : z = 15
  · refine lv_tableIn (tgt := 637) hx hb dd_L_law_40 (by rw [hc15]; decide) (by rw [hc15]; decide) (by rw [hc15]; rfl) (by decide) ?_
    have g := g15 hc15
    rcases g with g | g
    · obtain ⟨n0, v, n0_, r0_, h0, h0_, rfl⟩ := g
      exact lc_15r l hx hb hml hown hk hX hbl hL hi hT hK hP hD hS hcs hl n0 v h0 n0_ r0_ h0_ kk
    · obtain ⟨n0, n0_, r0_, h0, h0_, rfl⟩ := g
      exact lc_15t l hx hb hml hown hk hX hbl hL hi hT hK hP hD hS hcs hl hfl n0 h0 n0_ r0_ h0_ kk
  by_cases hc16 : z = 16
  · refine lv_tableIn (tgt := 653) hx hb dd_L_law_40 (by rw [hc16]; decide) (by rw [hc16]; decide) (by rw [hc16]; rfl) (by decide) ?_
    have g := g16 hc16
    obtain ⟨n0_, r0_, n1_, r1_, h0_, h1_, rfl⟩ := g
    exact lc_16 l hx hb hml hown hk hX hbl hL hi hT hK hP hD hS hcs hl n0_ r0_ h0_ n1_ r1_ h1_ kk
  by_cases hc17 : z = 17
  · refine lv_tableIn (tgt := 702) hx hb dd_L_law_40 (by rw [hc17]; decide) (by rw [hc17]; decide) (by rw [hc17]; rfl) (by decide) ?_
    have g := g17 hc17
    obtain ⟨n0_, r0_, n1_, r1_, h0_, h1_, rfl⟩ := g
    exact lc_17 l hx hb hml hown hk hX hbl hL hi hT hK hP hD hS hcs hl n0_ r0_ h0_ n1_ r1_ h1_ kk
  by_cases hc18 : z = 18
  · refine lv_tableIn (tgt := 727) hx hb dd_L_law_40 (by rw [hc18]; decide) (by rw [hc18]; decide) (by rw [hc18]; rfl) (by decide) ?_
    have g := g18 hc18
    obtain ⟨n0_, r0_, n1_, r1_, h0_, h1_, he0, rfl⟩ := g
    exact lc_18 l hx hb hml hown hk hX hbl hL hi hT hK hP hD hS hcs hl n0_ r0_ h0_ n1_ r1_ h1_ he0 kk
  have e0 := si_ne (k := 0) hc0 rfl
  have e1 := si_ne (k := 1) hc1 rfl
  have e2 := si_ne (k := 2) hc2 rfl
  have e3 := si_ne (k := 3) hc3 rfl
  have e4 := si_ne (k := 4) hc4 rfl
  have e5 := si_ne (k := 5) hc5 rfl
  have e6 := si_ne (k := 6) hc6 rfl
  have e7 := si_ne (k := 7) hc7 rfl
  have e8 := si_ne (k := 8) hc8 rfl
  have e9 := si_ne (k := 9) hc9 rfl
  have e10 := si_ne (k := 10) hc10 rfl
  have e11 := si_ne (k := 11) hc11 rfl
  have e12 := si_ne (k := 12) hc12 rfl
  have e13 := si_ne (k := 13) hc13 rfl
  have e14 := si_ne (k := 14) hc14 rfl
  have e15 := si_ne (k := 15) hc15 rfl
  have e16 := si_ne (k := 16) hc16 rfl
  have e17 := si_ne (k := 17) hc17 rfl
  have e18 := si_ne (k := 18) hc18 rfl
  have hout : z.toInt < 0 ∨ 18 < z.toInt := by omega
  refine lv_tableOut (tgt := 764) hx hb dd_L_law_40 hout (by decide) ?_
  rw [gd hout] at kk
  refine W.widen (k := cells + 16) (n := slots + 16) (by omega) (by omega) ?_
  exact kk _ _ _ hP hD hS hl
theorem lw_gt {L i : Nat} (hL : L ≤ 3584) (hi : i ≤ 512) : (Int32.ofNat L - 7 < Int32.ofNat (7 * i)) ↔ L < 7 * i + 7 := by
  rw [Int32.lt_iff_toInt_lt, Int32.toInt_sub, Int32.toInt_ofNat_of_lt (by omega), Int32.toInt_ofNat_of_lt (by omega)]
  rw [show (7 : Int32).toInt = 7 from rfl, Int.bmod_eq_of_le (by omega) (by omega)]
  omega
theorem lw_ret0 {p : Program} {l : Launch} {e : Env} {s : State} {m : MethodId} {below : List Frame} {meth : Method} {c : Code} {b : Nat} (hx : p.tables.exec = Jvm.exec) (hb : c.code = code) (hr : meth.sig.returnType = ret) (hlocks : meth.locks = false) {pc : Nat} {H : Heap} {ls : Array Slot} (hdg : decode code pc = .ok (.ireturn, 1)) : W p l e room_1 s m #[Value.ref b] below meth c H [] 601024 7293034 (fun t => ∃ o, t.status = .running ∧ Ended t below o ∧ o = .returned (some (.int 1)) ∧ Framed s o t [] 601024 7293034) (F0 m pc ls [.int 1]) := by
  intro T hT X
  obtain ⟨fs, hret, hrun, hended, hW, hframe⟩ := X.leave (v := some (.int 1)) (hlocks := hlocks) (fun h => by rw [hr] at h; cases h)
  have hmeth' : T.vm.method? m = some meth := X.method'
  refine ⟨T.setFrames fs, ?_, .returned (some (.int 1)), hrun, hended, rfl, ⟨_, rfl⟩, hW, hframe⟩
  jvm_step X.here [X.here.top, hx, hb, hdg, hmeth', hr, ret, narrow_b1]
  (try refine ⟨rfl, ?_⟩); (try refine ⟨rfl, ?_⟩)
  first | (intro acts; rw [hret _ acts rfl rfl rfl]) | rw [hret _ _ rfl rfl rfl]
  exact Steps.refl _
set_option maxHeartbeats 4000000 in
set_option maxRecDepth 100000 in
theorem law_loop (l : Launch) {p : Program} {e : Env} {s : State} {m : MethodId} {below : List Frame} {meth : Method} {c : Code} {b L o : Nat} {xs : Nat → Int32} {D : va_G} {kc : Nat → ClassId} {ad am : Nat → Nat} {tw q1 q2 q3 : Nat} (Ms : Nat → LM) (hx : p.tables.exec = Jvm.exec) (hb : c.code = code) (hml : c.maxLocals = 8) (hown : s.vm.findClass "OpenDealLaw" = some m.cls) (hk : ∀ w ∈ kw, w.before #[Value.ref b] s = true) (hX : va_X b L xs s s.heap) (hbl : b < s.heap.size) (hL : L ≤ 3584) (hT : LBt tw q1 q2 q3 s) (hK : va_K D cls5 (tys5 kc) s) (hfl : l.flags = pinnedFlags ++ [noTraceFlag]) (hr : meth.sig.returnType = ret) (hlocks : meth.locks = false) (hst : ∀ i, 7 * i + 7 ≤ L → LStep xs i (Ms i) (Ms (i + 1))) :
    ∀ (k i : Nat) (H : Heap) (locs : List Loc) (ls : Array Slot), L < 7 * (i + k) + 7 → i ≤ 512 → va_P D cls5 (LWm kc ad am o (Ms i)) H → va_D (LA s) (LWm kc ad am o (Ms i)) → va_S (LA s) s.heap H locs → lv_has ls 8 [(4, .int (Int32.ofNat (7 * i))), (3, .ref o), (2, .ref (am 0)), (1, .ref (ad 0)), (0, .ref b)] → W p l e room_1 s m #[Value.ref b] below meth c H locs (100 + 16 * i) (3000 + 16 * i) (fun t => ∃ o, t.status = .running ∧ Ended t below o ∧ o = .returned (some (.int 1)) ∧ Framed s o t [] 601024 7293034) (F0 m 23 ls []) := by
  intro k
  induction k with
  | zero =>
    intro i H locs ls hlt hi hP hD hS hl
    refine lv_iload hx hb dd_L_law_23 (lv_at hl 0 rfl) ?_
    refine lv_aload_n hx hb dd_L_law_25 rfl (lv_at hl 4 rfl) ?_
    refine va_slen (A := LA s) hx hb hX hbl (Nat.not_le.mpr hbl) hS dd_L_law_26 ?_
    refine lv_bipush (v := 7) hx hb dd_L_law_27 (by decide) ?_
    refine lv_isub hx hb dd_L_law_29 ?_
    refine lv_icmp_gt (tgt := 770) hx hb dd_L_law_30 (by decide) (fun _ => ?_) (fun h => absurd ((lw_gt hL hi).mpr (by omega)) h)
    refine lv_iconst (v := 1) hx hb dd_L_law_770 (by decide) ?_
    refine va_forget (fun q hq => hS.2.2 q hq) ?_
    refine W.widen (k := 601024) (n := 7293034) (by omega) (by omega) ?_
    exact lw_ret0 hx hb hr hlocks dd_L_law_771
  | succ k ih =>
    intro i H locs ls hlt hi hP hD hS hl
    refine lv_iload hx hb dd_L_law_23 (lv_at hl 0 rfl) ?_
    refine lv_aload_n hx hb dd_L_law_25 rfl (lv_at hl 4 rfl) ?_
    refine va_slen (A := LA s) hx hb hX hbl (Nat.not_le.mpr hbl) hS dd_L_law_26 ?_
    refine lv_bipush (v := 7) hx hb dd_L_law_27 (by decide) ?_
    refine lv_isub hx hb dd_L_law_29 ?_
    refine lv_icmp_gt (tgt := 770) hx hb dd_L_law_30 (by decide) (fun _ => ?_) (fun h => ?_)
    · refine lv_iconst (v := 1) hx hb dd_L_law_770 (by decide) ?_
      refine va_forget (fun q hq => hS.2.2 q hq) ?_
      refine W.widen (k := 601024) (n := 7293034) (by omega) (by omega) ?_
      exact lw_ret0 hx hb hr hlocks dd_L_law_771
    · have h7 : 7 * i + 7 ≤ L := Nat.not_lt.mp (fun h9 => h ((lw_gt hL hi).mpr h9))
      refine law_step l hx hb hml hown hk hX hbl hL hT hK hfl h7 (hst i h7) hP hD hS ⟨by omega, by omega⟩ hl (fun H1 locs1 ls1 hP hD hS hl => ?_)
      refine lv_iinc (lv' := [(4, .int (Int32.ofNat (7 * (i + 1)))), (3, .ref o), (2, .ref (am 0)), (1, .ref (ad 0)), (0, .ref b)]) (v := Int32.ofNat (7 * (i + 1))) (k := 0) hx hb dd_L_law_764 hl rfl (by rw [show Int32.ofInt 7 = Int32.ofNat 7 from rfl, ix_add]; rfl) (by decide) rfl (fun ls hl => ?_)
      refine lv_goto (tgt := 23) hx hb dd_L_law_767 (by decide) ?_
      rw [show 100 + 16 * i + 16 = 100 + 16 * (i + 1) by omega, show 3000 + 16 * i + 16 = 3000 + 16 * (i + 1) by omega]
      exact ih (i + 1) H1 locs1 ls (by omega) (by omega) hP hD hS hl
