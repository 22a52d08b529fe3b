/-! the class, laid by program -/
def ff_O_seal (n : Nat) (I : MI) (J : MJ) (a1 : Int32) (a2 : Int32) (a3 : Int64) (a5 : Int64) : Option (Int32 × MI × MJ) := if (I 0 1) = (1 : Int32) then ((ff_O_isSeated n I J a1).bind fun r2 => if r2 = 0 then (some ((0 : Int32), I, J)) else ((ff_N_isExponent n a2 (I 0 0)).bind fun r4 => if r4 = 0 then (some ((0 : Int32), I, J)) else (if ¬ (a1 < 0 ∨ 4 ≤ (a1).toNatClampNeg) then if (I (15 + 6 * (a1).toNatClampNeg) 5) = 0 then ((ff_S_keep n I J ((15 + 6 * (a1).toNatClampNeg) + 1) a2 a3 a5).bind fun r8 => (ff_S_mark n r8.1 r8.2 ((15 + 6 * (a1).toNatClampNeg) + 1)).bind fun r9 => (ff_D_fillLocks n (ui r8.1 (15 + 6 * (a1).toNatClampNeg) 5 (1 : Int32)) (uj r8.2 (15 + 6 * (a1).toNatClampNeg) 6 r9) a5 ((ui r8.1 (15 + 6 * (a1).toNatClampNeg) 5 (1 : Int32)) 0 0) ((15 + 6 * (a1).toNatClampNeg) + 3)).bind fun r10 => (ff_O_allSealed n r10.1 r10.2 ).bind fun r11 => if r11 = 0 then (some ((1 : Int32), r10.1, r10.2)) else (some ((1 : Int32), ui r10.1 0 1 (2 : Int32), r10.2))) else (some ((0 : Int32), I, J)) else none))) else (some ((0 : Int32), I, J))
set_option maxHeartbeats 4000000 in
set_option maxRecDepth 100000 in
theorem mm_O_seal (l : Launch) (D : va_G) (kc : Nat → ClassId) (ad : Nat → Nat) (I0 : MI) (J0 : MJ) (sz n : Nat) (a1 : Int32) (a2 : Int32) (a3 : Int64) (a5 : Int64) (r : Int32 × MI × MJ) (h : ff_O_seal n I0 J0 a1 a2 a3 a5 = some r) : Met l yy_O_seal (.code yy_O_seal cc_O_seal 8 (some .boolean) :: kw) { frames := 3, cells := 1, slots := 1, locals := 69 } (va_Pc [.ref (ad 0), .int a1, .int a2, .long a3, .long a5] (BW D kc (wC kc ad I0 J0) sz)) (va_Qi (fun z (_ : Unit) => z = r.1) (EW D kc (va_A (wC kc ad I0 J0) sz) (wC kc ad r.2.1 r.2.2)) (va_A (wC kc ad I0 J0) sz)) 1 1 (va_A (wC kc ad I0 J0) sz) := by
  refine Met.ofW (cc := cc_O_seal) (maxL := 8) (ret := some .boolean) (by decide) rfl ?_
  intro p e s m args below meth c s₁ B hml hv
  obtain ⟨rfl, hsz, hP, hK, hD0⟩ := hv
  have hx := B.exec
  have hb := B.bytes
  have hr := B.returns
  have hlocks := B.notSynchronized
  have hk : ∀ w ∈ kw, w.before _ s = true := fun w hw => atoms_spec (ws := (.code yy_O_seal cc_O_seal 8 (some .boolean) :: kw)) B.pre w (List.mem_cons_of_mem _ hw)
  have hown : s.vm.findClass "OpenDeal" = some m.cls := findClass_of_methodNamed B.named
  subst hsz
  have hD := hD0.self (sz := s.heap.size)
  generalize hAe : va_A (wC kc ad I0 J0) s.heap.size = A at hD ⊢
  have hA : ∀ q : Nat, s.heap.size ≤ q → A q := fun q h => by rw [← hAe]; exact Or.inr h
  have hS : va_S A s.heap s.heap [] := va_S.rf
  have hP : va_P D cls5 (wC kc ad I0 J0) s.heap := hP
  clear hAe hD0
  have hl := lv_entry ([.ref (ad 0), .int a1, .int a2, .long a3, .long a5]) (n := 8) (Nat.le_of_ble_eq_true rfl)
  rw [lg_entry_eq]
  generalize (lg_sl ([.ref (ad 0), .int a1, .int a2, .long a3, .long a5]) ++ List.replicate (8 - (lg_sl ([.ref (ad 0), .int a1, .int a2, .long a3, .long a5])).length) Slot.unset).toArray = ls at hl ⊢
  have hl : lv_has ls 8 [(0, .ref (ad 0)), (1, .int a1), (2, .int a2), (3, .long a3), (5, .long a5)] := hl
  unfold ff_O_seal at h
  refine lv_aload_n hx hb dd_O_seal_0 rfl (lv_at hl 0 rfl) ?_
  refine va_get (D := D) (ci := 0) (v := .int (I0 0 1)) (C := "OpenDeal") (T := T_O) (N := 11) hx hb hk in_O hown hK hP 0 at_O rfl 1 (by decide) (hk _ kw_106) (fun _ h9 => h9) rfl dd_O_seal_1 ?_
  refine lv_iconst (v := 1) hx hb dd_O_seal_4 (by decide) ?_
  refine lv_icmp_ne (tgt := 27) hx hb dd_O_seal_5 (by decide) (fun hc1 => ?_) (fun hc1 => ?_)
  · have h := in_out hc1 h
    refine lv_iconst (v := 0) hx hb dd_O_seal_27 (by decide) ?_
    obtain rfl := Option.some.inj h
    refine W.widen (k := 1) (n := 1) (by omega) (by omega) ?_
    exact W.zret hx hb hr rfl (fun t ht hW => ⟨⟨_, (), rfl, rfl, by rw [ht]; exact hP, va_K.moved hW.alike hK, hD⟩, hS.F ht⟩) hS.2.2 dd_O_seal_28
  · have h := ip_out hc1 h
    refine lv_aload_n hx hb dd_O_seal_8 rfl (lv_at hl 0 rfl) ?_
    refine lv_iload_n hx hb dd_O_seal_9 rfl (lv_at hl 1 rfl) ?_
    obtain ⟨r2, hr2, h⟩ := ob_out h
    refine cr_Vi (n := 1) (As := [.int a1]) hx hb hml hown hk (mm_O_isSeated l D kc ad _ _ _ _ _ hr2) hK hP 0 at_O rfl rfl kw_196 kw_198 sel_O_isSeated kw_1 kw_199 ⟨rfl, rfl⟩ (by decide +kernel) ⟨Nat.le_of_ble_eq_true rfl, Nat.le_of_ble_eq_true rfl⟩ rfl hl.1 rfl (Nat.le_of_ble_eq_true rfl) dd_O_seal_10 ⟨Nat.le_of_ble_eq_true rfl, Nat.le_of_ble_eq_true rfl⟩ ?_
    refine lv_if_eq (tgt := 27) hx hb dd_O_seal_13 (by decide) (fun hc3 => ?_) (fun hc3 => ?_)
    · have h := ip_out hc3 h
      refine lv_iconst (v := 0) hx hb dd_O_seal_27 (by decide) ?_
      obtain rfl := Option.some.inj h
      refine W.widen (k := 1) (n := 1) (by omega) (by omega) ?_
      exact W.zret hx hb hr rfl (fun t ht hW => ⟨⟨_, (), rfl, rfl, by rw [ht]; exact hP, va_K.moved hW.alike hK, hD⟩, hS.F ht⟩) hS.2.2 dd_O_seal_28
    · have h := in_out hc3 h
      refine lv_iload_n hx hb dd_O_seal_16 rfl (lv_at hl 2 rfl) ?_
      refine lv_aload_n hx hb dd_O_seal_17 rfl (lv_at hl 0 rfl) ?_
      refine va_get (D := D) (ci := 0) (v := .int (I0 0 0)) (C := "OpenDeal") (T := T_O) (N := 11) hx hb hk in_O hown hK hP 0 at_O rfl 0 (by decide) (hk _ kw_105) (fun _ h9 => h9) rfl dd_O_seal_18 ?_
      obtain ⟨r4, hr4, h⟩ := ob_out h
      refine ro_Si (n := 2) (As := [.int a2, .int (I0 0 0)]) hx hb hml hown hk (mm_N_isExponent l _ _ _ _ hr4) (fun U _ _ => trivial) (fun _ _ _ _ _ => trivial) kw_200 kw_201 kw_5 kw_202 ⟨rfl, rfl⟩ (by decide +kernel) ⟨Nat.le_of_ble_eq_true rfl, Nat.le_of_ble_eq_true rfl⟩ rfl hl.1 rfl (Nat.le_of_ble_eq_true rfl) dd_O_seal_21 ⟨Nat.le_of_ble_eq_true rfl, Nat.le_of_ble_eq_true rfl⟩ ?_
      refine lv_if_ne (tgt := 29) hx hb dd_O_seal_24 (by decide) (fun hc5 => ?_) (fun hc5 => ?_)
      · have h := in_out hc5 h
        refine lv_aload_n hx hb dd_O_seal_29 rfl (lv_at hl 0 rfl) ?_
        refine va_get (D := D) (ci := 0) (v := .ref (ad 1)) (C := "OpenDeal") (T := T_O) (N := 11) hx hb hk in_O hown hK hP 0 at_O rfl 3 (by decide) (hk _ kw_108) (fun _ h9 => h9) rfl dd_O_seal_30 ?_
        refine lv_iload_n hx hb dd_O_seal_33 rfl (lv_at hl 1 rfl) ?_
        obtain ⟨hi6, h⟩ := oi_out h
        refine ap_ald (b := ad (15 + 6 * (a1).toNatClampNeg)) hx hb hK hP 1 3 at_pl rfl hi6 (if_pos (vi_lt hi6)) dd_O_seal_34 ?_
        refine lv_astore (lv' := [(7, .ref (ad (15 + 6 * (a1).toNatClampNeg))), (0, .ref (ad 0)), (1, .int a1), (2, .int a2), (3, .long a3), (5, .long a5)]) hx hb dd_O_seal_35 hl (by decide) rfl (fun ls hl => ?_)
        refine lv_aload hx hb dd_O_seal_37 (lv_at hl 0 rfl) ?_
        refine va_get (D := D) (ci := 1) (v := .int (I0 (15 + 6 * (a1).toNatClampNeg) 5)) (C := "OpenDeal$Player") (T := T_P) (N := 13) hx hb hk in_P hown hK hP (15 + 6 * (a1).toNatClampNeg) (at_P (isP_of (vi_lt hi6))) rfl 5 (by decide) (hk _ kw_60) (fun _ h9 => h9) rfl dd_O_seal_39 ?_
        refine lv_if_eq (tgt := 47) hx hb dd_O_seal_42 (by decide) (fun hc7 => ?_) (fun hc7 => ?_)
        · have h := ip_out hc7 h
          refine lv_aload hx hb dd_O_seal_47 (lv_at hl 0 rfl) ?_
          refine va_get (D := D) (ci := 1) (v := .ref (ad ((15 + 6 * (a1).toNatClampNeg) + 1))) (C := "OpenDeal$Player") (T := T_P) (N := 13) hx hb hk in_P hown hK hP (15 + 6 * (a1).toNatClampNeg) (at_P (isP_of (vi_lt hi6))) rfl 8 (by decide) (hk _ kw_65) (fun _ h9 => h9) rfl dd_O_seal_49 ?_
          refine lv_iload_n hx hb dd_O_seal_52 rfl (lv_at hl 3 rfl) ?_
          refine lv_lload_n hx hb dd_O_seal_53 rfl (lv_at hl 4 rfl) ?_
          refine lv_lload hx hb dd_O_seal_54 (lv_at hl 5 rfl) ?_
          obtain ⟨r8, hr8, h⟩ := ob_out h
          refine cw_Vv (n := 3) (As := [.int a2, .long a3, .long a5]) (mc := 0) (ms := 0) hx hb hml hown hk (mm_S_keep l D kc ad _ _ _ _ _ (isP_S1 (isP_of (vi_lt hi6))) _ _ _ _ hr8) hK hP hD hS hA ((15 + 6 * (a1).toNatClampNeg) + 1) (at_S (isP_S1 (isP_of (vi_lt hi6)))) rfl rfl kw_203 kw_204 kw_205 kw_3 kw_206 ⟨rfl, rfl⟩ (by decide +kernel) ⟨Nat.le_of_ble_eq_true rfl, Nat.le_of_ble_eq_true rfl⟩ rfl hl.1 rfl (Nat.le_of_ble_eq_true rfl) dd_O_seal_56 ⟨Nat.le_of_ble_eq_true rfl, Nat.le_of_ble_eq_true rfl⟩ (fun H locs hP hD hS => ?_)
          refine lv_aload hx hb dd_O_seal_59 (lv_at hl 0 rfl) ?_
          refine lv_aload hx hb dd_O_seal_61 (lv_at hl 0 rfl) ?_
          refine va_get (D := D) (ci := 1) (v := .ref (ad ((15 + 6 * (a1).toNatClampNeg) + 1))) (C := "OpenDeal$Player") (T := T_P) (N := 13) hx hb hk in_P hown hK hP (15 + 6 * (a1).toNatClampNeg) (at_P (isP_of (vi_lt hi6))) rfl 8 (by decide) (hk _ kw_65) (fun _ h9 => h9) rfl dd_O_seal_63 ?_
          obtain ⟨r9, hr9, h⟩ := ob_out h
          refine cr_Vl (n := 0) (As := []) hx hb hml hown hk (mm_S_mark l D kc ad _ _ _ _ (isP_S1 (isP_of (vi_lt hi6))) _ hr9) hK hP ((15 + 6 * (a1).toNatClampNeg) + 1) (at_S (isP_S1 (isP_of (vi_lt hi6)))) rfl rfl kw_207 kw_208 kw_209 kw_3 kw_210 ⟨rfl, rfl⟩ (by decide +kernel) ⟨Nat.le_of_ble_eq_true rfl, Nat.le_of_ble_eq_true rfl⟩ rfl hl.1 rfl (Nat.le_of_ble_eq_true rfl) dd_O_seal_66 ⟨Nat.le_of_ble_eq_true rfl, Nat.le_of_ble_eq_true rfl⟩ ?_
          refine va_put (D := D) (ci := 1) (v := .long r9) (ty := .long) (C := "OpenDeal$Player") (T := T_P) (N := 13) hx hb hk in_P ty_P tk_P nm_P hown hK hP hD hS (15 + 6 * (a1).toNatClampNeg) (at_P (isP_of (vi_lt hi6))) rfl 6 (by decide) (hk _ kw_61) (fun _ h9 => h9) rfl (by decide +kernel) rfl rfl (Nat.le_of_ble_eq_true rfl) dd_O_seal_69 (fun H locs hP hD hS => ?_)
          rw [pt_P6 (isP_of (vi_lt hi6))] at hP hD
          refine lv_aload hx hb dd_O_seal_72 (lv_at hl 0 rfl) ?_
          refine lv_iconst (v := 1) hx hb dd_O_seal_74 (by decide) ?_
          refine va_put (D := D) (ci := 1) (v := .int (1 : Int32)) (ty := .boolean) (C := "OpenDeal$Player") (T := T_P) (N := 13) hx hb hk in_P ty_P tk_P nm_P hown hK hP hD hS (15 + 6 * (a1).toNatClampNeg) (at_P (isP_of (vi_lt hi6))) rfl 5 (by decide) (hk _ kw_60) (fun _ h9 => h9) rfl (by decide +kernel) rfl rfl (Nat.le_of_ble_eq_true rfl) dd_O_seal_75 (fun H locs hP hD hS => ?_)
          rw [pt_P5 (isP_of (vi_lt hi6))] at hP hD
          refine lv_lload hx hb dd_O_seal_78 (lv_at hl 5 rfl) ?_
          refine lv_aload_n hx hb dd_O_seal_80 rfl (lv_at hl 1 rfl) ?_
          refine va_get (D := D) (ci := 0) (v := .int ((ui r8.1 (15 + 6 * (a1).toNatClampNeg) 5 (1 : Int32)) 0 0)) (C := "OpenDeal") (T := T_O) (N := 11) hx hb hk in_O hown hK hP 0 at_O rfl 0 (by decide) (hk _ kw_105) (fun _ h9 => h9) rfl dd_O_seal_81 ?_
          refine lv_aload hx hb dd_O_seal_84 (lv_at hl 0 rfl) ?_
          refine va_get (D := D) (ci := 1) (v := .ref (ad ((15 + 6 * (a1).toNatClampNeg) + 3))) (C := "OpenDeal$Player") (T := T_P) (N := 13) hx hb hk in_P hown hK hP (15 + 6 * (a1).toNatClampNeg) (at_P (isP_of (vi_lt hi6))) rfl 10 (by decide) (hk _ kw_69) (fun _ h9 => h9) rfl dd_O_seal_86 ?_
          obtain ⟨r10, hr10, h⟩ := ob_out h
          refine cw_Sv (n := 3) (As := [.long a5, .int ((ui r8.1 (15 + 6 * (a1).toNatClampNeg) 5 (1 : Int32)) 0 0), .ref (ad ((15 + 6 * (a1).toNatClampNeg) + 3))]) (mc := 1) (ms := 1) hx hb hml hown hk (mm_D_fillLocks l D kc ad _ _ _ _ _ _ _ (isP_A3 (isP_of (vi_lt hi6))) _ hr10) hK hP hD hS hA kw_213 kw_214 kw_7 kw_215 ⟨rfl, rfl⟩ (by decide +kernel) ⟨Nat.le_of_ble_eq_true rfl, Nat.le_of_ble_eq_true rfl⟩ rfl hl.1 rfl (Nat.le_of_ble_eq_true rfl) dd_O_seal_89 ⟨Nat.le_of_ble_eq_true rfl, Nat.le_of_ble_eq_true rfl⟩ (fun H locs hP hD hS => ?_)
          refine lv_aload_n hx hb dd_O_seal_92 rfl (lv_at hl 1 rfl) ?_
          obtain ⟨r11, hr11, h⟩ := ob_out h
          refine cr_Vi (n := 0) (As := []) hx hb hml hown hk (mm_O_allSealed l D kc ad _ _ _  _ hr11) hK hP 0 at_O rfl rfl kw_238 kw_240 sel_O_allSealed kw_1 kw_241 ⟨rfl, rfl⟩ (by decide +kernel) ⟨Nat.le_of_ble_eq_true rfl, Nat.le_of_ble_eq_true rfl⟩ rfl hl.1 rfl (Nat.le_of_ble_eq_true rfl) dd_O_seal_93 ⟨Nat.le_of_ble_eq_true rfl, Nat.le_of_ble_eq_true rfl⟩ ?_
          refine lv_if_eq (tgt := 104) hx hb dd_O_seal_96 (by decide) (fun hc12 => ?_) (fun hc12 => ?_)
          · have h := ip_out hc12 h
            refine lv_iconst (v := 1) hx hb dd_O_seal_104 (by decide) ?_
            obtain rfl := Option.some.inj h
            exact W.zret hx hb hr rfl (fun t ht hW => ⟨⟨_, (), rfl, rfl, by rw [ht]; exact hP, va_K.moved hW.alike hK, hD⟩, hS.F ht⟩) hS.2.2 dd_O_seal_105
          · have h := in_out hc12 h
            refine lv_aload_n hx hb dd_O_seal_99 rfl (lv_at hl 1 rfl) ?_
            refine lv_iconst (v := 2) hx hb dd_O_seal_100 (by decide) ?_
            refine va_put (D := D) (ci := 0) (v := .int (2 : Int32)) (ty := .int) (C := "OpenDeal") (T := T_O) (N := 11) hx hb hk in_O ty_O tk_O nm_O hown hK hP hD hS 0 at_O rfl 1 (by decide) (hk _ kw_106) (fun _ h9 => h9) rfl (by decide +kernel) rfl rfl (Nat.le_of_ble_eq_true rfl) dd_O_seal_101 (fun H locs hP hD hS => ?_)
            rw [pt_O1] at hP hD
            refine lv_iconst (v := 1) hx hb dd_O_seal_104 (by decide) ?_
            obtain rfl := Option.some.inj h
            exact W.zret hx hb hr rfl (fun t ht hW => ⟨⟨_, (), rfl, rfl, by rw [ht]; exact hP, va_K.moved hW.alike hK, hD⟩, hS.F ht⟩) hS.2.2 dd_O_seal_105
        · have h := in_out hc7 h
          refine lv_iconst (v := 0) hx hb dd_O_seal_45 (by decide) ?_
          obtain rfl := Option.some.inj h
          refine W.widen (k := 1) (n := 1) (by omega) (by omega) ?_
          exact W.zret hx hb hr rfl (fun t ht hW => ⟨⟨_, (), rfl, rfl, by rw [ht]; exact hP, va_K.moved hW.alike hK, hD⟩, hS.F ht⟩) hS.2.2 dd_O_seal_46
      · have h := ip_out hc5 h
        refine lv_iconst (v := 0) hx hb dd_O_seal_27 (by decide) ?_
        obtain rfl := Option.some.inj h
        refine W.widen (k := 1) (n := 1) (by omega) (by omega) ?_
        exact W.zret hx hb hr rfl (fun t ht hW => ⟨⟨_, (), rfl, rfl, by rw [ht]; exact hP, va_K.moved hW.alike hK, hD⟩, hS.F ht⟩) hS.2.2 dd_O_seal_28
def ff_O_playerOfTurn (n : Nat) (I : MI) (J : MJ) (a1 : Int32) : Option (Int32) := if (I 0 2) ≤ a1 then (some (a1 - (I 0 2))) else (some a1)
set_option maxHeartbeats 4000000 in
set_option maxRecDepth 100000 in
theorem mm_O_playerOfTurn (l : Launch) (D : va_G) (kc : Nat → ClassId) (ad : Nat → Nat) (I : MI) (J : MJ) (n : Nat) (a1 : Int32) (r : Int32) (h : ff_O_playerOfTurn n I J a1 = some r) : Met l yy_O_playerOfTurn (.code yy_O_playerOfTurn cc_O_playerOfTurn 2 (some .int) :: kw) { frames := 0, cells := 0, slots := 0, locals := 0 } (va_Pc [.ref (ad 0), .int a1] (BR D kc (wC kc ad I J))) (vp_Si (fun z => z = r)) 0 0 (fun _ => False) := by
  refine Met.ofW (cc := cc_O_playerOfTurn) (maxL := 2) (ret := some .int) (by decide) rfl ?_
  intro p e s m args below meth c s₁ B hml hv
  obtain ⟨rfl, hP, hK⟩ := hv
  have hx := B.exec
  have hb := B.bytes
  have hr := B.returns
  have hlocks := B.notSynchronized
  have hk : ∀ w ∈ kw, w.before _ s = true := fun w hw => atoms_spec (ws := (.code yy_O_playerOfTurn cc_O_playerOfTurn 2 (some .int) :: kw)) B.pre w (List.mem_cons_of_mem _ hw)
  have hown : s.vm.findClass "OpenDeal" = some m.cls := findClass_of_methodNamed B.named
  have hl := lv_entry ([.ref (ad 0), .int a1]) (n := 2) (Nat.le_of_ble_eq_true rfl)
  rw [lg_entry_eq]
  generalize (lg_sl ([.ref (ad 0), .int a1]) ++ List.replicate (2 - (lg_sl ([.ref (ad 0), .int a1])).length) Slot.unset).toArray = ls at hl ⊢
  have hl : lv_has ls 2 [(0, .ref (ad 0)), (1, .int a1)] := hl
  unfold ff_O_playerOfTurn at h
  refine lv_iload_n hx hb dd_O_playerOfTurn_0 rfl (lv_at hl 1 rfl) ?_
  refine lv_aload_n hx hb dd_O_playerOfTurn_1 rfl (lv_at hl 0 rfl) ?_
  refine va_get (D := D) (ci := 0) (v := .int (I 0 2)) (C := "OpenDeal") (T := T_O) (N := 11) hx hb hk in_O hown hK hP 0 at_O rfl 2 (by decide) (hk _ kw_107) (fun _ h9 => h9) rfl dd_O_playerOfTurn_2 ?_
  refine lv_icmp_ge (tgt := 12) hx hb dd_O_playerOfTurn_5 (by decide) (fun hc1 => ?_) (fun hc1 => ?_)
  · have h := ip_out hc1 h
    refine lv_iload_n hx hb dd_O_playerOfTurn_12 rfl (lv_at hl 1 rfl) ?_
    refine lv_aload_n hx hb dd_O_playerOfTurn_13 rfl (lv_at hl 0 rfl) ?_
    refine va_get (D := D) (ci := 0) (v := .int (I 0 2)) (C := "OpenDeal") (T := T_O) (N := 11) hx hb hk in_O hown hK hP 0 at_O rfl 2 (by decide) (hk _ kw_107) (fun _ h9 => h9) rfl dd_O_playerOfTurn_14 ?_
    refine lv_isub hx hb dd_O_playerOfTurn_17 ?_
    obtain rfl := Option.some.inj h
    exact W.iret hx hb hr (fun t ht hW => ⟨_, rfl, rfl, ht⟩) (fun q hq => by cases hq) dd_O_playerOfTurn_18
  · have h := in_out hc1 h
    refine lv_iload_n hx hb dd_O_playerOfTurn_8 rfl (lv_at hl 1 rfl) ?_
    refine lv_goto (tgt := 18) hx hb dd_O_playerOfTurn_9 (by decide) ?_
    obtain rfl := Option.some.inj h
    exact W.iret hx hb hr (fun t ht hW => ⟨_, rfl, rfl, ht⟩) (fun q hq => by cases hq) dd_O_playerOfTurn_18
def ff_O_nextToTurn_18 (I : MI) (J : MJ)  (n : Nat)  : Option (Int32) := (ff_O_playerOfTurn n I J (I 0 4)).bind fun r1 => some r1
def ff_O_nextToTurn (n : Nat) (I : MI) (J : MJ)  : Option (Int32) := if (I 0 1) = (2 : Int32) then (ff_O_nextToTurn_18 I J n) else (if (I 0 1) = (3 : Int32) then (ff_O_nextToTurn_18 I J n) else (some (-1 : Int32)))
set_option maxHeartbeats 4000000 in
set_option maxRecDepth 100000 in
theorem mm_O_nextToTurn (l : Launch) (D : va_G) (kc : Nat → ClassId) (ad : Nat → Nat) (I : MI) (J : MJ) (n : Nat)  (r : Int32) (h : ff_O_nextToTurn n I J  = some r) : Met l yy_O_nextToTurn (.code yy_O_nextToTurn cc_O_nextToTurn 1 (some .int) :: kw) { frames := 1, cells := 0, slots := 0, locals := 21 } (va_Pc [.ref (ad 0)] (BR D kc (wC kc ad I J))) (vp_Si (fun z => z = r)) 0 0 (fun _ => False) := by
  refine Met.ofW (cc := cc_O_nextToTurn) (maxL := 1) (ret := some .int) (by decide) rfl ?_
  intro p e s m args below meth c s₁ B hml hv
  obtain ⟨rfl, hP, hK⟩ := hv
  have hx := B.exec
  have hb := B.bytes
  have hr := B.returns
  have hlocks := B.notSynchronized
  have hk : ∀ w ∈ kw, w.before _ s = true := fun w hw => atoms_spec (ws := (.code yy_O_nextToTurn cc_O_nextToTurn 1 (some .int) :: kw)) B.pre w (List.mem_cons_of_mem _ hw)
  have hown : s.vm.findClass "OpenDeal" = some m.cls := findClass_of_methodNamed B.named
  have L18 : ∀  (n : Nat) , ff_O_nextToTurn_18 I J n  = some r → ∀ ls, lv_has ls 1 [(0, .ref (ad 0))] → W p l e (headSpec (.code yy_O_nextToTurn cc_O_nextToTurn 1 (some .int) :: kw) { frames := 1, cells := 0, slots := 0, locals := 21 }).room s m ([.ref (ad 0)] : List Value).toArray below meth c s.heap [] 0 0 (MQ below (vp_Si (fun z => z = r)) ([.ref (ad 0)] : List Value).toArray s 0 0 (fun _ => False)) (F0 m 18 ls []) := by
    intro  n  h ls hl
    unfold ff_O_nextToTurn_18 at h
    refine lv_aload_n hx hb dd_O_nextToTurn_18 rfl (lv_at hl 0 rfl) ?_
    refine lv_aload_n hx hb dd_O_nextToTurn_19 rfl (lv_at hl 0 rfl) ?_
    refine va_get (D := D) (ci := 0) (v := .int (I 0 4)) (C := "OpenDeal") (T := T_O) (N := 11) hx hb hk in_O hown hK hP 0 at_O rfl 4 (by decide) (hk _ kw_109) (fun _ h9 => h9) rfl dd_O_nextToTurn_20 ?_
    obtain ⟨r1, hr1, h⟩ := ob_out h
    refine cr_Vi (n := 1) (As := [.int (I 0 4)]) hx hb hml hown hk (mm_O_playerOfTurn l D kc ad _ _ _ _ _ hr1) hK hP 0 at_O rfl rfl kw_250 kw_252 sel_O_playerOfTurn kw_1 kw_253 ⟨rfl, rfl⟩ (by decide +kernel) ⟨Nat.le_of_ble_eq_true rfl, Nat.le_of_ble_eq_true rfl⟩ rfl hl.1 rfl (Nat.le_of_ble_eq_true rfl) dd_O_nextToTurn_23 ⟨Nat.le_of_ble_eq_true rfl, Nat.le_of_ble_eq_true rfl⟩ ?_
    obtain rfl := Option.some.inj h
    exact W.iret hx hb hr (fun t ht hW => ⟨_, rfl, rfl, ht⟩) (fun q hq => by cases hq) dd_O_nextToTurn_26
  have hl := lv_entry ([.ref (ad 0)]) (n := 1) (Nat.le_of_ble_eq_true rfl)
  rw [lg_entry_eq]
  generalize (lg_sl ([.ref (ad 0)]) ++ List.replicate (1 - (lg_sl ([.ref (ad 0)])).length) Slot.unset).toArray = ls at hl ⊢
  have hl : lv_has ls 1 [(0, .ref (ad 0))] := hl
  unfold ff_O_nextToTurn at h
  refine lv_aload_n hx hb dd_O_nextToTurn_0 rfl (lv_at hl 0 rfl) ?_
  refine va_get (D := D) (ci := 0) (v := .int (I 0 1)) (C := "OpenDeal") (T := T_O) (N := 11) hx hb hk in_O hown hK hP 0 at_O rfl 1 (by decide) (hk _ kw_106) (fun _ h9 => h9) rfl dd_O_nextToTurn_1 ?_
  refine lv_iconst (v := 2) hx hb dd_O_nextToTurn_4 (by decide) ?_
  refine lv_icmp_eq (tgt := 18) hx hb dd_O_nextToTurn_5 (by decide) (fun hc2 => ?_) (fun hc2 => ?_)
  · have h := ip_out hc2 h
    exact L18  _  h _ (lv_sub hl [0] rfl)
  · have h := in_out hc2 h
    refine lv_aload_n hx hb dd_O_nextToTurn_8 rfl (lv_at hl 0 rfl) ?_
    refine va_get (D := D) (ci := 0) (v := .int (I 0 1)) (C := "OpenDeal") (T := T_O) (N := 11) hx hb hk in_O hown hK hP 0 at_O rfl 1 (by decide) (hk _ kw_106) (fun _ h9 => h9) rfl dd_O_nextToTurn_9 ?_
    refine lv_iconst (v := 3) hx hb dd_O_nextToTurn_12 (by decide) ?_
    refine lv_icmp_eq (tgt := 18) hx hb dd_O_nextToTurn_13 (by decide) (fun hc3 => ?_) (fun hc3 => ?_)
    · have h := ip_out hc3 h
      exact L18  _  h _ (lv_sub hl [0] rfl)
    · have h := in_out hc3 h
      refine lv_iconst (v := -1) hx hb dd_O_nextToTurn_16 (by decide) ?_
      obtain rfl := Option.some.inj h
      exact W.iret hx hb hr (fun t ht hW => ⟨_, rfl, rfl, ht⟩) (fun q hq => by cases hq) dd_O_nextToTurn_17
def ff_D_fillOrder_35  : Nat → MI → MJ → Int64 → Nat → Int32 → Option (MI × MJ)
  | 0, _, _, _, _, _ => none
  | n + 1, I, J, v0, v2, v4 => if v4 < (1 : Int32) then (some (I, J)) else ((ff_D_next n I J ).bind fun r2 => if ¬ (v4 + (1 : Int32)) = 0 then tl (r2.1 - r2.1 / (v4 + (1 : Int32)) * (v4 + (1 : Int32))) fun y4 => if ¬ (v4 < 0 ∨ 52 ≤ (v4).toNatClampNeg) then tl (r2.2.1 v2 (v4).toNatClampNeg) fun y6 => if ¬ (y4 < 0 ∨ 52 ≤ (y4).toNatClampNeg) then if ¬ (v4 < 0 ∨ 52 ≤ (v4).toNatClampNeg) then if ¬ (y4 < 0 ∨ 52 ≤ (y4).toNatClampNeg) then ff_D_fillOrder_35 n (ui (ui r2.2.1 v2 (v4).toNatClampNeg (r2.2.1 v2 (y4).toNatClampNeg)) v2 (y4).toNatClampNeg y6) r2.2.2 v0 v2 (v4 + (-1 : Int32)) else none else none else none else none else none)
def ff_D_fillOrder_12  : Nat → MI → MJ → Int64 → Nat → Int32 → Option (MI × MJ)
  | 0, _, _, _, _, _ => none
  | n + 1, I, J, v0, v2, v4 => if (52 : Int32) ≤ v4 then (ff_D_fillOrder_35 n I J v0 v2 (51 : Int32)) else (if ¬ (v4 < 0 ∨ 52 ≤ (v4).toNatClampNeg) then ff_D_fillOrder_12 n (ui I v2 (v4).toNatClampNeg v4) J v0 v2 (v4 + (1 : Int32)) else none)
def ff_D_fillOrder (n : Nat) (I : MI) (J : MJ) (a0 : Int64) (a2 : Nat) : Option (MI × MJ) := (ff_D_init n I (va_up J 39 (fun _ => 0)) a0).bind fun r12 => ff_D_fillOrder_12 n r12.1 r12.2 a0 a2 (0 : Int32)
set_option maxHeartbeats 4000000 in
set_option maxRecDepth 100000 in
theorem mm_D_fillOrder (l : Launch) (D : va_G) (kc : Nat → ClassId) (ad : Nat → Nat) (I0 : MI) (J0 : MJ) (sz n : Nat) (a0 : Int64) (a2 : Nat) (ha2 : isA a2) (r : MI × MJ) (h : ff_D_fillOrder n I0 J0 a0 a2 = some r) : Met l yy_D_fillOrder (.code yy_D_fillOrder cc_D_fillOrder 7 (none) :: kw) { frames := 2, cells := 1, slots := 1, locals := 42 } (va_Pc [.long a0, .ref (ad a2)] (BW D kc (wC kc ad I0 J0) sz)) (va_Qv (fun (_ : Unit) => True) (EW D kc (va_A (wC kc ad I0 J0) sz) (wC kc ad r.1 r.2)) (va_A (wC kc ad I0 J0) sz)) 1 1 (va_A (wC kc ad I0 J0) sz) := by
  refine Met.ofW (cc := cc_D_fillOrder) (maxL := 7) (ret := none) (by decide) rfl ?_
  intro p e s m args below meth c s₁ B hml hv
  obtain ⟨rfl, hsz, hP, hK, hD0⟩ := hv
  have hx := B.exec
  have hb := B.bytes
  have hr := B.returns
  have hlocks := B.notSynchronized
  have hk : ∀ w ∈ kw, w.before _ s = true := fun w hw => atoms_spec (ws := (.code yy_D_fillOrder cc_D_fillOrder 7 (none) :: kw)) B.pre w (List.mem_cons_of_mem _ hw)
  have hown : s.vm.findClass "OpenDeal$Draws" = some m.cls := findClass_of_methodNamed B.named
  subst hsz
  have hD := hD0.self (sz := s.heap.size)
  generalize hAe : va_A (wC kc ad I0 J0) s.heap.size = A at hD ⊢
  have hA : ∀ q : Nat, s.heap.size ≤ q → A q := fun q h => by rw [← hAe]; exact Or.inr h
  have hS : va_S A s.heap s.heap [] := va_S.rf
  have hP : va_P D cls5 (wC kc ad I0 J0) s.heap := hP
  clear hAe hD0
  have L35 : ∀  (n : Nat) (ad1 : Nat → Nat) (b : Nat) (had1 : ad1 = va_up ad 39 b) (I : MI) (J : MJ) (v0 : Int64) (v2 : Nat) (hv2 : isA v2) (v4 : Int32), ff_D_fillOrder_35 n I J v0 v2 v4 = some r → ∀ (H : Heap) (locs : List Loc), va_P D cls5 (wE kc ad1 I J) H → va_D A (wE kc ad1 I J) → va_S A s.heap H locs → ∀ ls, lv_has ls 7 [(0, .long v0), (2, .ref (ad1 v2)), (3, .ref (ad1 39)), (4, .int v4)] → W p l e (headSpec (.code yy_D_fillOrder cc_D_fillOrder 7 (none) :: kw) { frames := 2, cells := 1, slots := 1, locals := 42 }).room s m ([.long a0, .ref (ad a2)] : List Value).toArray below meth c H locs 1 1 (MQ below (va_Qv (fun (_ : Unit) => True) (EW D kc A (wC kc ad r.1 r.2)) A) ([.long a0, .ref (ad a2)] : List Value).toArray s 1 1 A) (F0 m 35 ls []) := by
    intro  n
    induction n with
    | zero => intro ad1 b had1 I J v0 v2 hv2 v4 h; exact absurd h (by simp [ff_D_fillOrder_35])
    | succ n ih =>
      intro ad1 b had1 I J v0 v2 hv2 v4 h H locs hP hD hS ls hl
      rw [ff_D_fillOrder_35] at h
      refine lv_iload hx hb dd_D_fillOrder_35 (lv_at hl 3 rfl) ?_
      refine lv_iconst (v := 1) hx hb dd_D_fillOrder_37 (by decide) ?_
      refine lv_icmp_lt (tgt := 78) hx hb dd_D_fillOrder_38 (by decide) (fun hc1 => ?_) (fun hc1 => ?_)
      · have h := ip_out hc1 h
        obtain rfl := Option.some.inj h
        subst had1
        have hP := wE_back hP
        have hD := wE_backD hD
        exact W.vret hx hb hr (fun t ht hW => ⟨⟨(), rfl, trivial, by rw [ht]; exact hP, va_K.moved hW.alike hK, hD⟩, hS.F ht⟩) hS.2.2 dd_D_fillOrder_78
      · have h := in_out hc1 h
        refine lv_aload_n hx hb dd_D_fillOrder_41 rfl (lv_at hl 2 rfl) ?_
        obtain ⟨r2, hr2, h⟩ := ob_out h
        refine cw_Vi (n := 0) (As := []) (mc := 0) (ms := 0) hx hb hml hown hk (mm_D_next l D kc ad1 _ _ _ _  _ hr2) hK hP hD hS hA 39 ate_D rfl rfl kw_231 kw_233 sel_D_next kw_7 kw_234 ⟨rfl, rfl⟩ (by decide +kernel) ⟨Nat.le_of_ble_eq_true rfl, Nat.le_of_ble_eq_true rfl⟩ rfl hl.1 rfl (Nat.le_of_ble_eq_true rfl) dd_D_fillOrder_42 ⟨Nat.le_of_ble_eq_true rfl, Nat.le_of_ble_eq_true rfl⟩ (fun H locs hP hD hS => ?_)
        refine lv_iload hx hb dd_D_fillOrder_45 (lv_at hl 3 rfl) ?_
        refine lv_iconst (v := 1) hx hb dd_D_fillOrder_47 (by decide) ?_
        refine lv_iadd hx hb dd_D_fillOrder_48 ?_
        obtain ⟨hz3, h⟩ := oi_out h
        refine lv_irem hx hb dd_D_fillOrder_49 hz3 ?_
        refine lv_topi (fun y4 ey4 => ?_)
        have h := tl_at ey4 h
        refine lv_istore (lv' := [(5, .int y4), (0, .long v0), (2, .ref (ad1 v2)), (3, .ref (ad1 39)), (4, .int v4)]) hx hb dd_D_fillOrder_50 hl (by decide) rfl (fun ls hl => ?_)
        refine lv_aload_n hx hb dd_D_fillOrder_52 rfl (lv_at hl 2 rfl) ?_
        refine lv_iload hx hb dd_D_fillOrder_53 (lv_at hl 4 rfl) ?_
        obtain ⟨hi5, h⟩ := oi_out h
        refine va_iald hx hb hK hP v2 0 (ate_A hv2) rfl hi5 dd_D_fillOrder_55 ?_
        refine lv_topi (fun y6 ey6 => ?_)
        have h := tl_at ey6 h
        refine lv_istore (lv' := [(6, .int y6), (5, .int y4), (0, .long v0), (2, .ref (ad1 v2)), (3, .ref (ad1 39)), (4, .int v4)]) hx hb dd_D_fillOrder_56 hl (by decide) rfl (fun ls hl => ?_)
        refine lv_aload_n hx hb dd_D_fillOrder_58 rfl (lv_at hl 3 rfl) ?_
        refine lv_iload hx hb dd_D_fillOrder_59 (lv_at hl 5 rfl) ?_
        refine lv_aload_n hx hb dd_D_fillOrder_61 rfl (lv_at hl 3 rfl) ?_
        refine lv_iload hx hb dd_D_fillOrder_62 (lv_at hl 1 rfl) ?_
        obtain ⟨hi7, h⟩ := oi_out h
        refine va_iald hx hb hK hP v2 0 (ate_A hv2) rfl hi7 dd_D_fillOrder_64 ?_
        obtain ⟨hi8, h⟩ := oi_out h
        refine va_iast hx hb hK hP hD hS v2 0 (ate_A hv2) rfl (x := r2.2.1 v2 (y4).toNatClampNeg) hi8 dd_D_fillOrder_65 (fun H locs hP hD hS => ?_)
        rw [pte_A hv2] at hP hD
        refine lv_aload_n hx hb dd_D_fillOrder_66 rfl (lv_at hl 3 rfl) ?_
        refine lv_iload hx hb dd_D_fillOrder_67 (lv_at hl 1 rfl) ?_
        refine lv_iload hx hb dd_D_fillOrder_69 (lv_at hl 0 rfl) ?_
        obtain ⟨hi9, h⟩ := oi_out h
        refine va_iast hx hb hK hP hD hS v2 0 (ate_A hv2) rfl (x := y6) hi9 dd_D_fillOrder_71 (fun H locs hP hD hS => ?_)
        rw [pte_A hv2] at hP hD
        refine lv_iinc (v := v4 + (-1 : Int32)) (lv' := [(4, .int (v4 + (-1 : Int32))), (6, .int y6), (5, .int y4), (0, .long v0), (2, .ref (ad1 v2)), (3, .ref (ad1 39))]) hx hb dd_D_fillOrder_72 hl (k := 5) rfl rfl (by decide) rfl (fun ls hl => ?_)
        refine lv_goto (tgt := 35) hx hb dd_D_fillOrder_75 (by decide) ?_
        exact ih _ _ had1 _ _ _ _ hv2 _ h _ _ hP hD hS _ (lv_sub hl [3, 4, 5, 0] rfl)
  have L12 : ∀  (n : Nat) (ad1 : Nat → Nat) (b : Nat) (had1 : ad1 = va_up ad 39 b) (I : MI) (J : MJ) (v0 : Int64) (v2 : Nat) (hv2 : isA v2) (v4 : Int32), ff_D_fillOrder_12 n I J v0 v2 v4 = some r → ∀ (H : Heap) (locs : List Loc), va_P D cls5 (wE kc ad1 I J) H → va_D A (wE kc ad1 I J) → va_S A s.heap H locs → ∀ ls, lv_has ls 7 [(0, .long v0), (2, .ref (ad1 v2)), (3, .ref (ad1 39)), (4, .int v4)] → W p l e (headSpec (.code yy_D_fillOrder cc_D_fillOrder 7 (none) :: kw) { frames := 2, cells := 1, slots := 1, locals := 42 }).room s m ([.long a0, .ref (ad a2)] : List Value).toArray below meth c H locs 1 1 (MQ below (va_Qv (fun (_ : Unit) => True) (EW D kc A (wC kc ad r.1 r.2)) A) ([.long a0, .ref (ad a2)] : List Value).toArray s 1 1 A) (F0 m 12 ls []) := by
    intro  n
    induction n with
    | zero => intro ad1 b had1 I J v0 v2 hv2 v4 h; exact absurd h (by simp [ff_D_fillOrder_12])
    | succ n ih =>
      intro ad1 b had1 I J v0 v2 hv2 v4 h H locs hP hD hS ls hl
      rw [ff_D_fillOrder_12] at h
      refine lv_iload hx hb dd_D_fillOrder_12 (lv_at hl 3 rfl) ?_
      refine lv_bipush (v := 52) hx hb dd_D_fillOrder_14 (by decide) ?_
      refine lv_icmp_ge (tgt := 31) hx hb dd_D_fillOrder_16 (by decide) (fun hc10 => ?_) (fun hc10 => ?_)
      · have h := ip_out hc10 h
        refine lv_bipush (v := 51) hx hb dd_D_fillOrder_31 (by decide) ?_
        refine lv_istore (lv' := [(4, .int (51 : Int32)), (0, .long v0), (2, .ref (ad1 v2)), (3, .ref (ad1 39))]) hx hb dd_D_fillOrder_33 hl (by decide) rfl (fun ls hl => ?_)
        exact L35  _ _ _ had1 _ _ _ _ hv2 _ h _ _ hP hD hS _ (lv_sub hl [1, 2, 3, 0] rfl)
      · have h := in_out hc10 h
        refine lv_aload_n hx hb dd_D_fillOrder_19 rfl (lv_at hl 1 rfl) ?_
        refine lv_iload hx hb dd_D_fillOrder_20 (lv_at hl 3 rfl) ?_
        refine lv_iload hx hb dd_D_fillOrder_22 (lv_at hl 3 rfl) ?_
        obtain ⟨hi11, h⟩ := oi_out h
        refine va_iast hx hb hK hP hD hS v2 0 (ate_A hv2) rfl (x := v4) hi11 dd_D_fillOrder_24 (fun H locs hP hD hS => ?_)
        rw [pte_A hv2] at hP hD
        refine lv_iinc (v := v4 + (1 : Int32)) (lv' := [(4, .int (v4 + (1 : Int32))), (0, .long v0), (2, .ref (ad1 v2)), (3, .ref (ad1 39))]) hx hb dd_D_fillOrder_25 hl (k := 3) rfl rfl (by decide) rfl (fun ls hl => ?_)
        refine lv_goto (tgt := 12) hx hb dd_D_fillOrder_28 (by decide) ?_
        exact ih _ _ had1 _ _ _ _ hv2 _ h _ _ hP hD hS _ (lv_sub hl [1, 2, 3, 0] rfl)
  have hl := lv_entry ([.long a0, .ref (ad a2)]) (n := 7) (Nat.le_of_ble_eq_true rfl)
  rw [lg_entry_eq]
  generalize (lg_sl ([.long a0, .ref (ad a2)]) ++ List.replicate (7 - (lg_sl ([.long a0, .ref (ad a2)])).length) Slot.unset).toArray = ls at hl ⊢
  have hl : lv_has ls 7 [(0, .long a0), (2, .ref (ad a2))] := hl
  unfold ff_D_fillOrder at h
  have h_1 : 1 ≤ 1 := by decide
  refine va_new (ci := 3) (fs := [.long 0]) (C := "OpenDeal$Draws") (T := T_D) (N := 1) hx hb hk in_D ty_D tk_D hown (hk _ kw_216) (hk _ kw_217) (hk _ kw_7) hK hP hD hS hA rfl (fun j hj => by rcases (show j = 0 by omega) with rfl <;> rfl) h_1 h_1 dd_D_fillOrder_0 (fun b H hP hD hS => ?_)
  rw [wE_new] at hP hD
  obtain ⟨ad1, had1⟩ : ∃ f, f = va_up ad 39 b := ⟨_, rfl⟩
  rw [← had1] at hP hD
  refine W.eq (g2 := F0 m 3 ls [.ref (ad1 39)]) (by rw [had1, va_up_self]) ?_
  have hl : lv_has ls 7 [(0, .long a0), (2, .ref (ad1 a2))] := by
    rw [show ad1 a2 = ad a2 from by rw [had1]; exact va_up_ne _ _ (by unfold isA at ha2; omega)]
    exact hl
  refine lv_dup hx hb dd_D_fillOrder_3 rfl ?_
  refine lv_lload_n hx hb dd_D_fillOrder_4 rfl (lv_at hl 0 rfl) ?_
  obtain ⟨r12, hr12, h⟩ := ob_out h
  refine cw_Iv (n := 1) (As := [.long a0]) (mc := 0) (ms := 0) hx hb hml hown hk (mm_D_init l D kc ad1 _ _ _ _ _ _ hr12) hK hP hD hS hA kw_218 kw_219 kw_7 kw_220 rfl ⟨rfl, rfl⟩ (by decide +kernel) ⟨Nat.le_of_ble_eq_true rfl, Nat.le_of_ble_eq_true rfl⟩ rfl hl.1 rfl (Nat.le_of_ble_eq_true rfl) dd_D_fillOrder_5 ⟨Nat.le_of_ble_eq_true rfl, Nat.le_of_ble_eq_true rfl⟩ (fun H locs hP hD hS => ?_)
  refine lv_astore_n (lv' := [(3, .ref (ad1 39)), (0, .long a0), (2, .ref (ad1 a2))]) hx hb dd_D_fillOrder_8 rfl hl (by decide) rfl (fun ls hl => ?_)
  refine lv_iconst (v := 0) hx hb dd_D_fillOrder_9 (by decide) ?_
  refine lv_istore (lv' := [(4, .int (0 : Int32)), (3, .ref (ad1 39)), (0, .long a0), (2, .ref (ad1 a2))]) hx hb dd_D_fillOrder_10 hl (by decide) rfl (fun ls hl => ?_)
  exact L12  _ _ _ had1 _ _ _ _ ha2 _ h _ _ hP hD hS _ (lv_sub hl [2, 3, 1, 0] rfl)
def ff_O_reckonTurn_100  : Nat → MI → MJ → Int32 → Nat → Nat → Nat → Nat → Int32 → Int32 → Option (MI × MJ)
  | 0, _, _, _, _, _, _, _, _, _ => none
  | n + 1, I, J, v1, v2, v3, v4, v5, v6, v7 => if (52 : Int32) ≤ v7 then (some (I, J)) else (if ¬ (v7 < 0 ∨ 52 ≤ (v7).toNatClampNeg) then if ¬ (v7 < 0 ∨ 52 ≤ (v7).toNatClampNeg) then (ff_N_times n v6 (I v5 (v7).toNatClampNeg) ((I 0 0) - (1 : Int32))).bind fun r4 => (ff_N_power n (I v4 (v7).toNatClampNeg) r4 (I 0 0)).bind fun r5 => if ¬ (v7 < 0 ∨ 52 ≤ (v7).toNatClampNeg) then ff_O_reckonTurn_100 n (ui I v3 (v7).toNatClampNeg r5) J v1 v2 v3 v4 v5 v6 (v7 + (1 : Int32)) else none else none else none)
def ff_O_reckonTurn_30  : Nat → MI → MJ → Int32 → Nat → Nat → Nat → Int32 → Option (MI × MJ)
  | 0, _, _, _, _, _, _, _ => none
  | n + 1, I, J, v1, v2, v3, v4, v5 => if (52 : Int32) ≤ v5 then (some (I, J)) else (if ¬ (v5 < 0 ∨ 52 ≤ (v5).toNatClampNeg) then if ¬ ((I 4 (v5).toNatClampNeg) < 0 ∨ 52 ≤ (I 4 (v5).toNatClampNeg).toNatClampNeg) then (ff_N_power n (I v4 (I 4 (v5).toNatClampNeg).toNatClampNeg) (I v2 0) (I 0 0)).bind fun r10 => if ¬ (v5 < 0 ∨ 52 ≤ (v5).toNatClampNeg) then ff_O_reckonTurn_30 n (ui I v3 (v5).toNatClampNeg r10) J v1 v2 v3 v4 (v5 + (1 : Int32)) else none else none else none)
def ff_O_reckonTurn (n : Nat) (I : MI) (J : MJ) (a1 : Int32) (a2 : Nat) (a3 : Nat) : Option (MI × MJ) := if ¬ (a1 < 0 ∨ 9 ≤ (a1).toNatClampNeg) then if (I 0 2) ≤ a1 then ((ff_O_playerOfTurn n I J a1).bind fun r14 => if ¬ (r14 < 0 ∨ 4 ≤ (r14).toNatClampNeg) then (ff_N_inverse n (I a2 0) (I 0 0)).bind fun r16 => ff_O_reckonTurn_100 n I J a1 a2 a3 (6 + (a1).toNatClampNeg) ((15 + 6 * (r14).toNatClampNeg) + 3) r16 (0 : Int32) else none) else ((ff_D_fillOrder n I J (J a2 1) 4).bind fun r17 => ff_O_reckonTurn_30 n r17.1 r17.2 a1 a2 a3 (6 + (a1).toNatClampNeg) (0 : Int32)) else none
set_option maxHeartbeats 4000000 in
set_option maxRecDepth 100000 in
theorem mm_O_reckonTurn (l : Launch) (D : va_G) (kc : Nat → ClassId) (ad : Nat → Nat) (I0 : MI) (J0 : MJ) (sz n : Nat) (a1 : Int32) (a2 : Nat) (ha2 : isS a2) (a3 : Nat) (ha3 : isA a3) (r : MI × MJ) (h : ff_O_reckonTurn n I0 J0 a1 a2 a3 = some r) : Met l yy_O_reckonTurn (.code yy_O_reckonTurn cc_O_reckonTurn 8 (none) :: kw) { frames := 3, cells := 1, slots := 1, locals := 68 } (va_Pc [.ref (ad 0), .int a1, .ref (ad a2), .ref (ad a3)] (BW D kc (wC kc ad I0 J0) sz)) (va_Qv (fun (_ : Unit) => True) (EW D kc (va_A (wC kc ad I0 J0) sz) (wC kc ad r.1 r.2)) (va_A (wC kc ad I0 J0) sz)) 1 1 (va_A (wC kc ad I0 J0) sz) := by
  refine Met.ofW (cc := cc_O_reckonTurn) (maxL := 8) (ret := none) (by decide) rfl ?_
  intro p e s m args below meth c s₁ B hml hv
  obtain ⟨rfl, hsz, hP, hK, hD0⟩ := hv
  have hx := B.exec
  have hb := B.bytes
  have hr := B.returns
  have hlocks := B.notSynchronized
  have hk : ∀ w ∈ kw, w.before _ s = true := fun w hw => atoms_spec (ws := (.code yy_O_reckonTurn cc_O_reckonTurn 8 (none) :: kw)) B.pre w (List.mem_cons_of_mem _ hw)
  have hown : s.vm.findClass "OpenDeal" = some m.cls := findClass_of_methodNamed B.named
  subst hsz
  have hD := hD0.self (sz := s.heap.size)
  generalize hAe : va_A (wC kc ad I0 J0) s.heap.size = A at hD ⊢
  have hA : ∀ q : Nat, s.heap.size ≤ q → A q := fun q h => by rw [← hAe]; exact Or.inr h
  have hS : va_S A s.heap s.heap [] := va_S.rf
  have hP : va_P D cls5 (wC kc ad I0 J0) s.heap := hP
  clear hAe hD0
  have L100 : ∀  (n : Nat) (I : MI) (J : MJ) (v1 : Int32) (v2 : Nat) (hv2 : isS v2) (v3 : Nat) (hv3 : isA v3) (v4 : Nat) (hv4 : isA v4) (v5 : Nat) (hv5 : isA v5) (v6 : Int32) (v7 : Int32), ff_O_reckonTurn_100 n I J v1 v2 v3 v4 v5 v6 v7 = some r → ∀ (H : Heap) (locs : List Loc), va_P D cls5 (wC kc ad I J) H → va_D A (wC kc ad I J) → va_S A s.heap H locs → ∀ ls, lv_has ls 8 [(0, .ref (ad 0)), (1, .int v1), (2, .ref (ad v2)), (3, .ref (ad v3)), (4, .ref (ad v4)), (5, .ref (ad v5)), (6, .int v6), (7, .int v7)] → W p l e (headSpec (.code yy_O_reckonTurn cc_O_reckonTurn 8 (none) :: kw) { frames := 3, cells := 1, slots := 1, locals := 68 }).room s m ([.ref (ad 0), .int a1, .ref (ad a2), .ref (ad a3)] : List Value).toArray below meth c H locs 0 0 (MQ below (va_Qv (fun (_ : Unit) => True) (EW D kc A (wC kc ad r.1 r.2)) A) ([.ref (ad 0), .int a1, .ref (ad a2), .ref (ad a3)] : List Value).toArray s 1 1 A) (F0 m 100 ls []) := by
    intro  n
    induction n with
    | zero => intro I J v1 v2 hv2 v3 hv3 v4 hv4 v5 hv5 v6 v7 h; exact absurd h (by simp [ff_O_reckonTurn_100])
    | succ n ih =>
      intro I J v1 v2 hv2 v3 hv3 v4 hv4 v5 hv5 v6 v7 h H locs hP hD hS ls hl
      rw [ff_O_reckonTurn_100] at h
      refine lv_iload hx hb dd_O_reckonTurn_100 (lv_at hl 7 rfl) ?_
      refine lv_bipush (v := 52) hx hb dd_O_reckonTurn_102 (by decide) ?_
      refine lv_icmp_ge (tgt := 145) hx hb dd_O_reckonTurn_104 (by decide) (fun hc1 => ?_) (fun hc1 => ?_)
      · have h := ip_out hc1 h
        obtain rfl := Option.some.inj h
        refine W.widen (k := 1) (n := 1) (by omega) (by omega) ?_
        exact W.vret hx hb hr (fun t ht hW => ⟨⟨(), rfl, trivial, by rw [ht]; exact hP, va_K.moved hW.alike hK, hD⟩, hS.F ht⟩) hS.2.2 dd_O_reckonTurn_145
      · have h := in_out hc1 h
        refine lv_aload_n hx hb dd_O_reckonTurn_107 rfl (lv_at hl 3 rfl) ?_
        refine lv_iload hx hb dd_O_reckonTurn_108 (lv_at hl 7 rfl) ?_
        refine lv_aload hx hb dd_O_reckonTurn_110 (lv_at hl 4 rfl) ?_
        refine lv_iload hx hb dd_O_reckonTurn_112 (lv_at hl 7 rfl) ?_
        obtain ⟨hi2, h⟩ := oi_out h
        refine va_iald hx hb hK hP v4 0 (at_A hv4) rfl hi2 dd_O_reckonTurn_114 ?_
        refine lv_iload hx hb dd_O_reckonTurn_115 (lv_at hl 6 rfl) ?_
        refine lv_aload hx hb dd_O_reckonTurn_117 (lv_at hl 5 rfl) ?_
        refine lv_iload hx hb dd_O_reckonTurn_119 (lv_at hl 7 rfl) ?_
        obtain ⟨hi3, h⟩ := oi_out h
        refine va_iald hx hb hK hP v5 0 (at_A hv5) rfl hi3 dd_O_reckonTurn_121 ?_
        refine lv_aload_n hx hb dd_O_reckonTurn_122 rfl (lv_at hl 0 rfl) ?_
        refine va_get (D := D) (ci := 0) (v := .int (I 0 0)) (C := "OpenDeal") (T := T_O) (N := 11) hx hb hk in_O hown hK hP 0 at_O rfl 0 (by decide) (hk _ kw_105) (fun _ h9 => h9) rfl dd_O_reckonTurn_123 ?_
        refine lv_iconst (v := 1) hx hb dd_O_reckonTurn_126 (by decide) ?_
        refine lv_isub hx hb dd_O_reckonTurn_127 ?_
        obtain ⟨r4, hr4, h⟩ := ob_out h
        refine ro_Si (n := 3) (As := [.int v6, .int (I v5 (v7).toNatClampNeg), .int ((I 0 0) - (1 : Int32))]) hx hb hml hown hk (mm_N_times l _ _ _ _ _ hr4) (fun U _ _ => trivial) (fun _ _ _ _ _ => trivial) kw_265 kw_159 kw_5 kw_160 ⟨rfl, rfl⟩ (by decide +kernel) ⟨Nat.le_of_ble_eq_true rfl, Nat.le_of_ble_eq_true rfl⟩ rfl hl.1 rfl (Nat.le_of_ble_eq_true rfl) dd_O_reckonTurn_128 ⟨Nat.le_of_ble_eq_true rfl, Nat.le_of_ble_eq_true rfl⟩ ?_
        refine lv_aload_n hx hb dd_O_reckonTurn_131 rfl (lv_at hl 0 rfl) ?_
        refine va_get (D := D) (ci := 0) (v := .int (I 0 0)) (C := "OpenDeal") (T := T_O) (N := 11) hx hb hk in_O hown hK hP 0 at_O rfl 0 (by decide) (hk _ kw_105) (fun _ h9 => h9) rfl dd_O_reckonTurn_132 ?_
        obtain ⟨r5, hr5, h⟩ := ob_out h
        refine ro_Si (n := 3) (As := [.int (I v4 (v7).toNatClampNeg), .int r4, .int (I 0 0)]) hx hb hml hown hk (mm_N_power l _ _ _ _ _ hr5) (fun U _ _ => trivial) (fun _ _ _ _ _ => trivial) kw_261 kw_156 kw_5 kw_157 ⟨rfl, rfl⟩ (by decide +kernel) ⟨Nat.le_of_ble_eq_true rfl, Nat.le_of_ble_eq_true rfl⟩ rfl hl.1 rfl (Nat.le_of_ble_eq_true rfl) dd_O_reckonTurn_135 ⟨Nat.le_of_ble_eq_true rfl, Nat.le_of_ble_eq_true rfl⟩ ?_
        obtain ⟨hi6, h⟩ := oi_out h
        refine va_iast hx hb hK hP hD hS v3 0 (at_A hv3) rfl (x := r5) hi6 dd_O_reckonTurn_138 (fun H locs hP hD hS => ?_)
        rw [pt_A hv3] at hP hD
        refine lv_iinc (v := v7 + (1 : Int32)) (lv' := [(7, .int (v7 + (1 : Int32))), (0, .ref (ad 0)), (1, .int v1), (2, .ref (ad v2)), (3, .ref (ad v3)), (4, .ref (ad v4)), (5, .ref (ad v5)), (6, .int v6)]) hx hb dd_O_reckonTurn_139 hl (k := 7) rfl rfl (by decide) rfl (fun ls hl => ?_)
        refine lv_goto (tgt := 100) hx hb dd_O_reckonTurn_142 (by decide) ?_
        exact ih _ _ _ _ hv2 _ hv3 _ hv4 _ hv5 _ _ h _ _ hP hD hS _ (lv_sub hl [1, 2, 3, 4, 5, 6, 7, 0] rfl)
  have L30 : ∀  (n : Nat) (I : MI) (J : MJ) (v1 : Int32) (v2 : Nat) (hv2 : isS v2) (v3 : Nat) (hv3 : isA v3) (v4 : Nat) (hv4 : isA v4) (v5 : Int32), ff_O_reckonTurn_30 n I J v1 v2 v3 v4 v5 = some r → ∀ (H : Heap) (locs : List Loc), va_P D cls5 (wC kc ad I J) H → va_D A (wC kc ad I J) → va_S A s.heap H locs → ∀ ls, lv_has ls 8 [(0, .ref (ad 0)), (1, .int v1), (2, .ref (ad v2)), (3, .ref (ad v3)), (4, .ref (ad v4)), (5, .int v5)] → W p l e (headSpec (.code yy_O_reckonTurn cc_O_reckonTurn 8 (none) :: kw) { frames := 3, cells := 1, slots := 1, locals := 68 }).room s m ([.ref (ad 0), .int a1, .ref (ad a2), .ref (ad a3)] : List Value).toArray below meth c H locs 1 1 (MQ below (va_Qv (fun (_ : Unit) => True) (EW D kc A (wC kc ad r.1 r.2)) A) ([.ref (ad 0), .int a1, .ref (ad a2), .ref (ad a3)] : List Value).toArray s 1 1 A) (F0 m 30 ls []) := by
    intro  n
    induction n with
    | zero => intro I J v1 v2 hv2 v3 hv3 v4 hv4 v5 h; exact absurd h (by simp [ff_O_reckonTurn_30])
    | succ n ih =>
      intro I J v1 v2 hv2 v3 hv3 v4 hv4 v5 h H locs hP hD hS ls hl
      rw [ff_O_reckonTurn_30] at h
      refine lv_iload hx hb dd_O_reckonTurn_30 (lv_at hl 5 rfl) ?_
      refine lv_bipush (v := 52) hx hb dd_O_reckonTurn_32 (by decide) ?_
      refine lv_icmp_ge (tgt := 68) hx hb dd_O_reckonTurn_34 (by decide) (fun hc7 => ?_) (fun hc7 => ?_)
      · have h := ip_out hc7 h
        obtain rfl := Option.some.inj h
        exact W.vret hx hb hr (fun t ht hW => ⟨⟨(), rfl, trivial, by rw [ht]; exact hP, va_K.moved hW.alike hK, hD⟩, hS.F ht⟩) hS.2.2 dd_O_reckonTurn_68
      · have h := in_out hc7 h
        refine lv_aload_n hx hb dd_O_reckonTurn_37 rfl (lv_at hl 3 rfl) ?_
        refine lv_iload hx hb dd_O_reckonTurn_38 (lv_at hl 5 rfl) ?_
        refine lv_aload hx hb dd_O_reckonTurn_40 (lv_at hl 4 rfl) ?_
        refine lv_aload_n hx hb dd_O_reckonTurn_42 rfl (lv_at hl 0 rfl) ?_
        refine va_get (D := D) (ci := 0) (v := .ref (ad 4)) (C := "OpenDeal") (T := T_O) (N := 11) hx hb hk in_O hown hK hP 0 at_O rfl 9 (by decide) (hk _ kw_114) (fun _ h9 => h9) rfl dd_O_reckonTurn_43 ?_
        refine lv_iload hx hb dd_O_reckonTurn_46 (lv_at hl 5 rfl) ?_
        obtain ⟨hi8, h⟩ := oi_out h
        refine va_iald hx hb hK hP 4 0 (at_A isA4) rfl hi8 dd_O_reckonTurn_48 ?_
        obtain ⟨hi9, h⟩ := oi_out h
        refine va_iald hx hb hK hP v4 0 (at_A hv4) rfl hi9 dd_O_reckonTurn_49 ?_
        refine lv_aload_n hx hb dd_O_reckonTurn_50 rfl (lv_at hl 2 rfl) ?_
        refine va_get (D := D) (ci := 2) (v := .int (I v2 0)) (C := "OpenDeal$Secrets") (T := T_S) (N := 3) hx hb hk in_S hown hK hP v2 (at_S hv2) rfl 0 (by decide) (hk _ kw_37) (fun _ h9 => h9) rfl dd_O_reckonTurn_51 ?_
        refine lv_aload_n hx hb dd_O_reckonTurn_54 rfl (lv_at hl 0 rfl) ?_
        refine va_get (D := D) (ci := 0) (v := .int (I 0 0)) (C := "OpenDeal") (T := T_O) (N := 11) hx hb hk in_O hown hK hP 0 at_O rfl 0 (by decide) (hk _ kw_105) (fun _ h9 => h9) rfl dd_O_reckonTurn_55 ?_
        obtain ⟨r10, hr10, h⟩ := ob_out h
        refine ro_Si (n := 3) (As := [.int (I v4 (I 4 (v5).toNatClampNeg).toNatClampNeg), .int (I v2 0), .int (I 0 0)]) hx hb hml hown hk (mm_N_power l _ _ _ _ _ hr10) (fun U _ _ => trivial) (fun _ _ _ _ _ => trivial) kw_261 kw_156 kw_5 kw_157 ⟨rfl, rfl⟩ (by decide +kernel) ⟨Nat.le_of_ble_eq_true rfl, Nat.le_of_ble_eq_true rfl⟩ rfl hl.1 rfl (Nat.le_of_ble_eq_true rfl) dd_O_reckonTurn_58 ⟨Nat.le_of_ble_eq_true rfl, Nat.le_of_ble_eq_true rfl⟩ ?_
        obtain ⟨hi11, h⟩ := oi_out h
        refine va_iast hx hb hK hP hD hS v3 0 (at_A hv3) rfl (x := r10) hi11 dd_O_reckonTurn_61 (fun H locs hP hD hS => ?_)
        rw [pt_A hv3] at hP hD
        refine lv_iinc (v := v5 + (1 : Int32)) (lv' := [(5, .int (v5 + (1 : Int32))), (0, .ref (ad 0)), (1, .int v1), (2, .ref (ad v2)), (3, .ref (ad v3)), (4, .ref (ad v4))]) hx hb dd_O_reckonTurn_62 hl (k := 5) rfl rfl (by decide) rfl (fun ls hl => ?_)
        refine lv_goto (tgt := 30) hx hb dd_O_reckonTurn_65 (by decide) ?_
        exact ih _ _ _ _ hv2 _ hv3 _ hv4 _ h _ _ hP hD hS _ (lv_sub hl [1, 2, 3, 4, 5, 0] rfl)
  have hl := lv_entry ([.ref (ad 0), .int a1, .ref (ad a2), .ref (ad a3)]) (n := 8) (Nat.le_of_ble_eq_true rfl)
  rw [lg_entry_eq]
  generalize (lg_sl ([.ref (ad 0), .int a1, .ref (ad a2), .ref (ad a3)]) ++ List.replicate (8 - (lg_sl ([.ref (ad 0), .int a1, .ref (ad a2), .ref (ad a3)])).length) Slot.unset).toArray = ls at hl ⊢
  have hl : lv_has ls 8 [(0, .ref (ad 0)), (1, .int a1), (2, .ref (ad a2)), (3, .ref (ad a3))] := hl
  unfold ff_O_reckonTurn at h
  refine lv_aload_n hx hb dd_O_reckonTurn_0 rfl (lv_at hl 0 rfl) ?_
  refine va_get (D := D) (ci := 0) (v := .ref (ad 2)) (C := "OpenDeal") (T := T_O) (N := 11) hx hb hk in_O hown hK hP 0 at_O rfl 5 (by decide) (hk _ kw_110) (fun _ h9 => h9) rfl dd_O_reckonTurn_1 ?_
  refine lv_iload_n hx hb dd_O_reckonTurn_4 rfl (lv_at hl 1 rfl) ?_
  obtain ⟨hi12, h⟩ := oi_out h
  refine ag_ald (b := ad (6 + (a1).toNatClampNeg)) hx hb hK hP 2 4 at_dk rfl hi12 (if_pos (vi_lt hi12)) dd_O_reckonTurn_5 ?_
  refine lv_astore (lv' := [(4, .ref (ad (6 + (a1).toNatClampNeg))), (0, .ref (ad 0)), (1, .int a1), (2, .ref (ad a2)), (3, .ref (ad a3))]) hx hb dd_O_reckonTurn_6 hl (by decide) rfl (fun ls hl => ?_)
  refine lv_iload_n hx hb dd_O_reckonTurn_8 rfl (lv_at hl 2 rfl) ?_
  refine lv_aload_n hx hb dd_O_reckonTurn_9 rfl (lv_at hl 1 rfl) ?_
  refine va_get (D := D) (ci := 0) (v := .int (I0 0 2)) (C := "OpenDeal") (T := T_O) (N := 11) hx hb hk in_O hown hK hP 0 at_O rfl 2 (by decide) (hk _ kw_107) (fun _ h9 => h9) rfl dd_O_reckonTurn_10 ?_
  refine lv_icmp_ge (tgt := 69) hx hb dd_O_reckonTurn_13 (by decide) (fun hc13 => ?_) (fun hc13 => ?_)
  · have h := ip_out hc13 h
    refine lv_aload_n hx hb dd_O_reckonTurn_69 rfl (lv_at hl 1 rfl) ?_
    refine va_get (D := D) (ci := 0) (v := .ref (ad 1)) (C := "OpenDeal") (T := T_O) (N := 11) hx hb hk in_O hown hK hP 0 at_O rfl 3 (by decide) (hk _ kw_108) (fun _ h9 => h9) rfl dd_O_reckonTurn_70 ?_
    refine lv_aload_n hx hb dd_O_reckonTurn_73 rfl (lv_at hl 1 rfl) ?_
    refine lv_iload_n hx hb dd_O_reckonTurn_74 rfl (lv_at hl 2 rfl) ?_
    obtain ⟨r14, hr14, h⟩ := ob_out h
    refine cr_Vi (n := 1) (As := [.int a1]) hx hb hml hown hk (mm_O_playerOfTurn l D kc ad _ _ _ _ _ hr14) hK hP 0 at_O rfl rfl kw_250 kw_252 sel_O_playerOfTurn kw_1 kw_253 ⟨rfl, rfl⟩ (by decide +kernel) ⟨Nat.le_of_ble_eq_true rfl, Nat.le_of_ble_eq_true rfl⟩ rfl hl.1 rfl (Nat.le_of_ble_eq_true rfl) dd_O_reckonTurn_75 ⟨Nat.le_of_ble_eq_true rfl, Nat.le_of_ble_eq_true rfl⟩ ?_
    obtain ⟨hi15, h⟩ := oi_out h
    refine ap_ald (b := ad (15 + 6 * (r14).toNatClampNeg)) hx hb hK hP 1 3 at_pl rfl hi15 (if_pos (vi_lt hi15)) dd_O_reckonTurn_78 ?_
    refine va_get (D := D) (ci := 1) (v := .ref (ad ((15 + 6 * (r14).toNatClampNeg) + 3))) (C := "OpenDeal$Player") (T := T_P) (N := 13) hx hb hk in_P hown hK hP (15 + 6 * (r14).toNatClampNeg) (at_P (isP_of (vi_lt hi15))) rfl 10 (by decide) (hk _ kw_69) (fun _ h9 => h9) rfl dd_O_reckonTurn_79 ?_
    refine lv_astore (lv' := [(5, .ref (ad ((15 + 6 * (r14).toNatClampNeg) + 3))), (4, .ref (ad (6 + (a1).toNatClampNeg))), (0, .ref (ad 0)), (1, .int a1), (2, .ref (ad a2)), (3, .ref (ad a3))]) hx hb dd_O_reckonTurn_82 hl (by decide) rfl (fun ls hl => ?_)
    refine lv_aload_n hx hb dd_O_reckonTurn_84 rfl (lv_at hl 4 rfl) ?_
    refine va_get (D := D) (ci := 2) (v := .int (I0 a2 0)) (C := "OpenDeal$Secrets") (T := T_S) (N := 3) hx hb hk in_S hown hK hP a2 (at_S ha2) rfl 0 (by decide) (hk _ kw_37) (fun _ h9 => h9) rfl dd_O_reckonTurn_85 ?_
    refine lv_aload_n hx hb dd_O_reckonTurn_88 rfl (lv_at hl 2 rfl) ?_
    refine va_get (D := D) (ci := 0) (v := .int (I0 0 0)) (C := "OpenDeal") (T := T_O) (N := 11) hx hb hk in_O hown hK hP 0 at_O rfl 0 (by decide) (hk _ kw_105) (fun _ h9 => h9) rfl dd_O_reckonTurn_89 ?_
    obtain ⟨r16, hr16, h⟩ := ob_out h
    refine ro_Si (n := 2) (As := [.int (I0 a2 0), .int (I0 0 0)]) hx hb hml hown hk (mm_N_inverse l _ _ _ _ hr16) (fun U _ _ => trivial) (fun _ _ _ _ _ => trivial) kw_262 kw_263 kw_5 kw_264 ⟨rfl, rfl⟩ (by decide +kernel) ⟨Nat.le_of_ble_eq_true rfl, Nat.le_of_ble_eq_true rfl⟩ rfl hl.1 rfl (Nat.le_of_ble_eq_true rfl) dd_O_reckonTurn_92 ⟨Nat.le_of_ble_eq_true rfl, Nat.le_of_ble_eq_true rfl⟩ ?_
    refine lv_istore (lv' := [(6, .int r16), (5, .ref (ad ((15 + 6 * (r14).toNatClampNeg) + 3))), (4, .ref (ad (6 + (a1).toNatClampNeg))), (0, .ref (ad 0)), (1, .int a1), (2, .ref (ad a2)), (3, .ref (ad a3))]) hx hb dd_O_reckonTurn_95 hl (by decide) rfl (fun ls hl => ?_)
    refine lv_iconst (v := 0) hx hb dd_O_reckonTurn_97 (by decide) ?_
    refine lv_istore (lv' := [(7, .int (0 : Int32)), (6, .int r16), (5, .ref (ad ((15 + 6 * (r14).toNatClampNeg) + 3))), (4, .ref (ad (6 + (a1).toNatClampNeg))), (0, .ref (ad 0)), (1, .int a1), (2, .ref (ad a2)), (3, .ref (ad a3))]) hx hb dd_O_reckonTurn_98 hl (by decide) rfl (fun ls hl => ?_)
    exact L100  _ _ _ _ _ ha2 _ ha3 _ (isA_deck (vi_lt hi12)) _ (isP_A3 (isP_of (vi_lt hi15))) _ _ h _ _ hP hD hS _ (lv_sub hl [4, 5, 6, 7, 3, 2, 1, 0] rfl)
  · have h := in_out hc13 h
    refine lv_aload_n hx hb dd_O_reckonTurn_16 rfl (lv_at hl 3 rfl) ?_
    refine va_get (D := D) (ci := 2) (v := .long (J0 a2 1)) (C := "OpenDeal$Secrets") (T := T_S) (N := 3) hx hb hk in_S hown hK hP a2 (at_S ha2) rfl 1 (by decide) (hk _ kw_40) (fun _ h9 => h9) rfl dd_O_reckonTurn_17 ?_
    refine lv_aload_n hx hb dd_O_reckonTurn_20 rfl (lv_at hl 1 rfl) ?_
    refine va_get (D := D) (ci := 0) (v := .ref (ad 4)) (C := "OpenDeal") (T := T_O) (N := 11) hx hb hk in_O hown hK hP 0 at_O rfl 9 (by decide) (hk _ kw_114) (fun _ h9 => h9) rfl dd_O_reckonTurn_21 ?_
    obtain ⟨r17, hr17, h⟩ := ob_out h
    refine cw_Sv (n := 2) (As := [.long (J0 a2 1), .ref (ad 4)]) (mc := 1) (ms := 1) hx hb hml hown hk (mm_D_fillOrder l D kc ad _ _ _ _ _ _ isA4 _ hr17) hK hP hD hS hA kw_258 kw_259 kw_7 kw_260 ⟨rfl, rfl⟩ (by decide +kernel) ⟨Nat.le_of_ble_eq_true rfl, Nat.le_of_ble_eq_true rfl⟩ rfl hl.1 rfl (Nat.le_of_ble_eq_true rfl) dd_O_reckonTurn_24 ⟨Nat.le_of_ble_eq_true rfl, Nat.le_of_ble_eq_true rfl⟩ (fun H locs hP hD hS => ?_)
    refine lv_iconst (v := 0) hx hb dd_O_reckonTurn_27 (by decide) ?_
    refine lv_istore (lv' := [(5, .int (0 : Int32)), (4, .ref (ad (6 + (a1).toNatClampNeg))), (0, .ref (ad 0)), (1, .int a1), (2, .ref (ad a2)), (3, .ref (ad a3))]) hx hb dd_O_reckonTurn_28 hl (by decide) rfl (fun ls hl => ?_)
    exact L30  _ _ _ _ _ ha2 _ ha3 _ (isA_deck (vi_lt hi12)) _ h _ _ hP hD hS _ (lv_sub hl [2, 3, 4, 5, 1, 0] rfl)
def ff_P_cheatsAt (n : Nat) (I : MI) (J : MJ) (a0 : Nat) (a1 : Int32) (a2 : Int32) : Option (Int32) := if ¬ (a1 < 0 ∨ 5 ≤ (a1).toNatClampNeg) then if (lg_cmp (((Int64.toUInt64 (J (a0 + 5) (a1).toNatClampNeg) >>> ((Int32.toInt64 a2).toUInt64 &&& Int64.toUInt64 63)).toInt64) &&& (1 : Int64)) (1 : Int64)) = 0 then (some (1 : Int32)) else (some (0 : Int32)) else none
set_option maxHeartbeats 4000000 in
set_option maxRecDepth 100000 in
theorem mm_P_cheatsAt (l : Launch) (D : va_G) (kc : Nat → ClassId) (ad : Nat → Nat) (I : MI) (J : MJ) (n : Nat) (a0 : Nat) (ha0 : isP a0) (a1 : Int32) (a2 : Int32) (r : Int32) (h : ff_P_cheatsAt n I J a0 a1 a2 = some r) : Met l yy_P_cheatsAt (.code yy_P_cheatsAt cc_P_cheatsAt 3 (some .boolean) :: kw) { frames := 0, cells := 0, slots := 0, locals := 0 } (va_Pc [.ref (ad a0), .int a1, .int a2] (BR D kc (wC kc ad I J))) (vp_Si (fun z => z = r)) 0 0 (fun _ => False) := by
  refine Met.ofW (cc := cc_P_cheatsAt) (maxL := 3) (ret := some .boolean) (by decide) rfl ?_
  intro p e s m args below meth c s₁ B hml hv
  obtain ⟨rfl, hP, hK⟩ := hv
  have hx := B.exec
  have hb := B.bytes
  have hr := B.returns
  have hlocks := B.notSynchronized
  have hk : ∀ w ∈ kw, w.before _ s = true := fun w hw => atoms_spec (ws := (.code yy_P_cheatsAt cc_P_cheatsAt 3 (some .boolean) :: kw)) B.pre w (List.mem_cons_of_mem _ hw)
  have hown : s.vm.findClass "OpenDeal$Player" = some m.cls := findClass_of_methodNamed B.named
  have hl := lv_entry ([.ref (ad a0), .int a1, .int a2]) (n := 3) (Nat.le_of_ble_eq_true rfl)
  rw [lg_entry_eq]
  generalize (lg_sl ([.ref (ad a0), .int a1, .int a2]) ++ List.replicate (3 - (lg_sl ([.ref (ad a0), .int a1, .int a2])).length) Slot.unset).toArray = ls at hl ⊢
  have hl : lv_has ls 3 [(0, .ref (ad a0)), (1, .int a1), (2, .int a2)] := hl
  unfold ff_P_cheatsAt at h
  refine lv_aload_n hx hb dd_P_cheatsAt_0 rfl (lv_at hl 0 rfl) ?_
  refine va_get (D := D) (ci := 1) (v := .ref (ad (a0 + 5))) (C := "OpenDeal$Player") (T := T_P) (N := 13) hx hb hk in_P hown hK hP a0 (at_P ha0) rfl 12 (by decide) (hk _ kw_72) (fun _ h9 => h9) rfl dd_P_cheatsAt_1 ?_
  refine lv_iload_n hx hb dd_P_cheatsAt_4 rfl (lv_at hl 1 rfl) ?_
  obtain ⟨hi1, h⟩ := oi_out h
  refine va_lald hx hb hK hP (a0 + 5) 1 (at_L (isP_L ha0)) rfl hi1 dd_P_cheatsAt_5 ?_
  refine lv_iload_n hx hb dd_P_cheatsAt_6 rfl (lv_at hl 2 rfl) ?_
  refine lv_lushr hx hb dd_P_cheatsAt_7 rfl ?_
  refine lv_lconst (v := 1) hx hb dd_P_cheatsAt_8 (by decide) ?_
  refine lv_land hx hb dd_P_cheatsAt_9 ?_
  refine lv_lconst (v := 1) hx hb dd_P_cheatsAt_10 (by decide) ?_
  refine W.lcmp hx hb dd_P_cheatsAt_11 ?_
  refine lv_if_ne (tgt := 19) hx hb dd_P_cheatsAt_12 (by decide) (fun hc2 => ?_) (fun hc2 => ?_)
  · have h := in_out hc2 h
    refine lv_iconst (v := 0) hx hb dd_P_cheatsAt_19 (by decide) ?_
    obtain rfl := Option.some.inj h
    exact W.zret hx hb hr rfl (fun t ht hW => ⟨_, rfl, rfl, ht⟩) (fun q hq => by cases hq) dd_P_cheatsAt_20
  · have h := ip_out hc2 h
    refine lv_iconst (v := 1) hx hb dd_P_cheatsAt_15 (by decide) ?_
    refine lv_goto (tgt := 20) hx hb dd_P_cheatsAt_16 (by decide) ?_
    obtain rfl := Option.some.inj h
    exact W.zret hx hb hr rfl (fun t ht hW => ⟨_, rfl, rfl, ht⟩) (fun q hq => by cases hq) dd_P_cheatsAt_20
def ff_O_spoil_3  : Nat → MI → MJ → Nat → Nat → Int32 → Int32 → Option (MI × MJ)
  | 0, _, _, _, _, _, _ => none
  | n + 1, I, J, v1, v2, v3, v4 => if (52 : Int32) ≤ v4 then (some (I, J)) else ((ff_P_cheatsAt n I J v2 v3 v4).bind fun r2 => if r2 = 0 then (ff_O_spoil_3 n I J v1 v2 v3 (v4 + (1 : Int32))) else (if ¬ (v4 < 0 ∨ 52 ≤ (v4).toNatClampNeg) then if (I v1 (v4).toNatClampNeg) = ((I 0 0) - (1 : Int32)) then (if ¬ (v4 < 0 ∨ 52 ≤ (v4).toNatClampNeg) then ff_O_spoil_3 n (ui I v1 (v4).toNatClampNeg (1 : Int32)) J v1 v2 v3 (v4 + (1 : Int32)) else none) else (if ¬ (v4 < 0 ∨ 52 ≤ (v4).toNatClampNeg) then if ¬ (v4 < 0 ∨ 52 ≤ (v4).toNatClampNeg) then ff_O_spoil_3 n (ui I v1 (v4).toNatClampNeg ((I v1 (v4).toNatClampNeg) + (1 : Int32))) J v1 v2 v3 (v4 + (1 : Int32)) else none else none) else none))
def ff_O_spoil (n : Nat) (I : MI) (J : MJ) (a1 : Nat) (a2 : Nat) (a3 : Int32) : Option (MI × MJ) := ff_O_spoil_3 n I J a1 a2 a3 (0 : Int32)
set_option maxHeartbeats 4000000 in
set_option maxRecDepth 100000 in
theorem mm_O_spoil (l : Launch) (D : va_G) (kc : Nat → ClassId) (ad : Nat → Nat) (I0 : MI) (J0 : MJ) (sz n : Nat) (a1 : Nat) (ha1 : isA a1) (a2 : Nat) (ha2 : isP a2) (a3 : Int32) (r : MI × MJ) (h : ff_O_spoil n I0 J0 a1 a2 a3 = some r) : Met l yy_O_spoil (.code yy_O_spoil cc_O_spoil 5 (none) :: kw) { frames := 1, cells := 0, slots := 0, locals := 22 } (va_Pc [.ref (ad 0), .ref (ad a1), .ref (ad a2), .int a3] (BW D kc (wC kc ad I0 J0) sz)) (va_Qv (fun (_ : Unit) => True) (EW D kc (va_A (wC kc ad I0 J0) sz) (wC kc ad r.1 r.2)) (va_A (wC kc ad I0 J0) sz)) 0 0 (va_A (wC kc ad I0 J0) sz) := by
  refine Met.ofW (cc := cc_O_spoil) (maxL := 5) (ret := none) (by decide) rfl ?_
  intro p e s m args below meth c s₁ B hml hv
  obtain ⟨rfl, hsz, hP, hK, hD0⟩ := hv
  have hx := B.exec
  have hb := B.bytes
  have hr := B.returns
  have hlocks := B.notSynchronized
  have hk : ∀ w ∈ kw, w.before _ s = true := fun w hw => atoms_spec (ws := (.code yy_O_spoil cc_O_spoil 5 (none) :: kw)) B.pre w (List.mem_cons_of_mem _ hw)
  have hown : s.vm.findClass "OpenDeal" = some m.cls := findClass_of_methodNamed B.named
  subst hsz
  have hD := hD0.self (sz := s.heap.size)
  generalize hAe : va_A (wC kc ad I0 J0) s.heap.size = A at hD ⊢
  have hA : ∀ q : Nat, s.heap.size ≤ q → A q := fun q h => by rw [← hAe]; exact Or.inr h
  have hS : va_S A s.heap s.heap [] := va_S.rf
  have hP : va_P D cls5 (wC kc ad I0 J0) s.heap := hP
  clear hAe hD0
  have L3 : ∀  (n : Nat) (I : MI) (J : MJ) (v1 : Nat) (hv1 : isA v1) (v2 : Nat) (hv2 : isP v2) (v3 : Int32) (v4 : Int32), ff_O_spoil_3 n I J v1 v2 v3 v4 = some r → ∀ (H : Heap) (locs : List Loc), va_P D cls5 (wC kc ad I J) H → va_D A (wC kc ad I J) → va_S A s.heap H locs → ∀ ls, lv_has ls 5 [(0, .ref (ad 0)), (1, .ref (ad v1)), (2, .ref (ad v2)), (3, .int v3), (4, .int v4)] → W p l e (headSpec (.code yy_O_spoil cc_O_spoil 5 (none) :: kw) { frames := 1, cells := 0, slots := 0, locals := 22 }).room s m ([.ref (ad 0), .ref (ad a1), .ref (ad a2), .int a3] : List Value).toArray below meth c H locs 0 0 (MQ below (va_Qv (fun (_ : Unit) => True) (EW D kc A (wC kc ad r.1 r.2)) A) ([.ref (ad 0), .ref (ad a1), .ref (ad a2), .int a3] : List Value).toArray s 0 0 A) (F0 m 3 ls []) := by
    intro  n
    induction n with
    | zero => intro I J v1 hv1 v2 hv2 v3 v4 h; exact absurd h (by simp [ff_O_spoil_3])
    | succ n ih =>
      intro I J v1 hv1 v2 hv2 v3 v4 h H locs hP hD hS ls hl
      rw [ff_O_spoil_3] at h
      refine lv_iload hx hb dd_O_spoil_3 (lv_at hl 4 rfl) ?_
      refine lv_bipush (v := 52) hx hb dd_O_spoil_5 (by decide) ?_
      refine lv_icmp_ge (tgt := 53) hx hb dd_O_spoil_7 (by decide) (fun hc1 => ?_) (fun hc1 => ?_)
      · have h := ip_out hc1 h
        obtain rfl := Option.some.inj h
        exact W.vret hx hb hr (fun t ht hW => ⟨⟨(), rfl, trivial, by rw [ht]; exact hP, va_K.moved hW.alike hK, hD⟩, hS.F ht⟩) hS.2.2 dd_O_spoil_53
      · have h := in_out hc1 h
        refine lv_aload_n hx hb dd_O_spoil_10 rfl (lv_at hl 2 rfl) ?_
        refine lv_iload_n hx hb dd_O_spoil_11 rfl (lv_at hl 3 rfl) ?_
        refine lv_iload hx hb dd_O_spoil_12 (lv_at hl 4 rfl) ?_
        obtain ⟨r2, hr2, h⟩ := ob_out h
        refine cr_Vi (n := 2) (As := [.int v3, .int v4]) hx hb hml hown hk (mm_P_cheatsAt l D kc ad _ _ _ _ hv2 _ _ _ hr2) hK hP v2 (at_P hv2) rfl rfl kw_270 kw_271 kw_272 kw_2 kw_273 ⟨rfl, rfl⟩ (by decide +kernel) ⟨Nat.le_of_ble_eq_true rfl, Nat.le_of_ble_eq_true rfl⟩ rfl hl.1 rfl (Nat.le_of_ble_eq_true rfl) dd_O_spoil_14 ⟨Nat.le_of_ble_eq_true rfl, Nat.le_of_ble_eq_true rfl⟩ ?_
        refine lv_if_eq (tgt := 47) hx hb dd_O_spoil_17 (by decide) (fun hc3 => ?_) (fun hc3 => ?_)
        · have h := ip_out hc3 h
          refine lv_iinc (v := v4 + (1 : Int32)) (lv' := [(4, .int (v4 + (1 : Int32))), (0, .ref (ad 0)), (1, .ref (ad v1)), (2, .ref (ad v2)), (3, .int v3)]) hx hb dd_O_spoil_47 hl (k := 4) rfl rfl (by decide) rfl (fun ls hl => ?_)
          refine lv_goto (tgt := 3) hx hb dd_O_spoil_50 (by decide) ?_
          exact ih _ _ _ hv1 _ hv2 _ _ h _ _ hP hD hS _ (lv_sub hl [1, 2, 3, 4, 0] rfl)
        · have h := in_out hc3 h
          refine lv_aload_n hx hb dd_O_spoil_20 rfl (lv_at hl 1 rfl) ?_
          refine lv_iload hx hb dd_O_spoil_21 (lv_at hl 4 rfl) ?_
          refine lv_aload_n hx hb dd_O_spoil_23 rfl (lv_at hl 1 rfl) ?_
          refine lv_iload hx hb dd_O_spoil_24 (lv_at hl 4 rfl) ?_
          obtain ⟨hi4, h⟩ := oi_out h
          refine va_iald hx hb hK hP v1 0 (at_A hv1) rfl hi4 dd_O_spoil_26 ?_
          refine lv_aload_n hx hb dd_O_spoil_27 rfl (lv_at hl 0 rfl) ?_
          refine va_get (D := D) (ci := 0) (v := .int (I 0 0)) (C := "OpenDeal") (T := T_O) (N := 11) hx hb hk in_O hown hK hP 0 at_O rfl 0 (by decide) (hk _ kw_105) (fun _ h9 => h9) rfl dd_O_spoil_28 ?_
          refine lv_iconst (v := 1) hx hb dd_O_spoil_31 (by decide) ?_
          refine lv_isub hx hb dd_O_spoil_32 ?_
          refine lv_icmp_ne (tgt := 40) hx hb dd_O_spoil_33 (by decide) (fun hc5 => ?_) (fun hc5 => ?_)
          · have h := in_out hc5 h
            refine lv_aload_n hx hb dd_O_spoil_40 rfl (lv_at hl 1 rfl) ?_
            refine lv_iload hx hb dd_O_spoil_41 (lv_at hl 4 rfl) ?_
            obtain ⟨hi6, h⟩ := oi_out h
            refine va_iald hx hb hK hP v1 0 (at_A hv1) rfl hi6 dd_O_spoil_43 ?_
            refine lv_iconst (v := 1) hx hb dd_O_spoil_44 (by decide) ?_
            refine lv_iadd hx hb dd_O_spoil_45 ?_
            obtain ⟨hi7, h⟩ := oi_out h
            refine va_iast hx hb hK hP hD hS v1 0 (at_A hv1) rfl (x := (I v1 (v4).toNatClampNeg) + (1 : Int32)) hi7 dd_O_spoil_46 (fun H locs hP hD hS => ?_)
            rw [pt_A hv1] at hP hD
            refine lv_iinc (v := v4 + (1 : Int32)) (lv' := [(4, .int (v4 + (1 : Int32))), (0, .ref (ad 0)), (1, .ref (ad v1)), (2, .ref (ad v2)), (3, .int v3)]) hx hb dd_O_spoil_47 hl (k := 4) rfl rfl (by decide) rfl (fun ls hl => ?_)
            refine lv_goto (tgt := 3) hx hb dd_O_spoil_50 (by decide) ?_
            exact ih _ _ _ hv1 _ hv2 _ _ h _ _ hP hD hS _ (lv_sub hl [1, 2, 3, 4, 0] rfl)
          · have h := ip_out hc5 h
            refine lv_iconst (v := 1) hx hb dd_O_spoil_36 (by decide) ?_
            refine lv_goto (tgt := 46) hx hb dd_O_spoil_37 (by decide) ?_
            obtain ⟨hi8, h⟩ := oi_out h
            refine va_iast hx hb hK hP hD hS v1 0 (at_A hv1) rfl (x := (1 : Int32)) hi8 dd_O_spoil_46 (fun H locs hP hD hS => ?_)
            rw [pt_A hv1] at hP hD
            refine lv_iinc (v := v4 + (1 : Int32)) (lv' := [(4, .int (v4 + (1 : Int32))), (0, .ref (ad 0)), (1, .ref (ad v1)), (2, .ref (ad v2)), (3, .int v3)]) hx hb dd_O_spoil_47 hl (k := 4) rfl rfl (by decide) rfl (fun ls hl => ?_)
            refine lv_goto (tgt := 3) hx hb dd_O_spoil_50 (by decide) ?_
            exact ih _ _ _ hv1 _ hv2 _ _ h _ _ hP hD hS _ (lv_sub hl [1, 2, 3, 4, 0] rfl)
  have hl := lv_entry ([.ref (ad 0), .ref (ad a1), .ref (ad a2), .int a3]) (n := 5) (Nat.le_of_ble_eq_true rfl)
  rw [lg_entry_eq]
  generalize (lg_sl ([.ref (ad 0), .ref (ad a1), .ref (ad a2), .int a3]) ++ List.replicate (5 - (lg_sl ([.ref (ad 0), .ref (ad a1), .ref (ad a2), .int a3])).length) Slot.unset).toArray = ls at hl ⊢
  have hl : lv_has ls 5 [(0, .ref (ad 0)), (1, .ref (ad a1)), (2, .ref (ad a2)), (3, .int a3)] := hl
  unfold ff_O_spoil at h
  refine lv_iconst (v := 0) hx hb dd_O_spoil_0 (by decide) ?_
  refine lv_istore (lv' := [(4, .int (0 : Int32)), (0, .ref (ad 0)), (1, .ref (ad a1)), (2, .ref (ad a2)), (3, .int a3)]) hx hb dd_O_spoil_1 hl (by decide) rfl (fun ls hl => ?_)
  exact L3  _ _ _ _ ha1 _ ha2 _ _ h _ _ hP hD hS _ (lv_sub hl [1, 2, 3, 4, 0] rfl)
def ff_O_turn_68  (n : Nat) (I : MI) (J : MJ) (v1 : Int32) (v2 : Int32) (v3 : Nat) (v4 : Nat) (s1 : Nat) (s2 : Nat) (s3 : Int32) : Option (Int32 × MI × MJ) := (ff_O_spoil n I J s1 s2 s3).bind fun r1 => if ((ui r1.1 0 4 ((r1.1 0 4) + (1 : Int32))) 0 4) = ((ui r1.1 0 4 ((r1.1 0 4) + (1 : Int32))) 0 2) then (some ((1 : Int32), ui (ui r1.1 0 4 ((r1.1 0 4) + (1 : Int32))) 0 1 (3 : Int32), r1.2)) else (if ((ui r1.1 0 4 ((r1.1 0 4) + (1 : Int32))) 0 4) = ((2 : Int32) * ((ui r1.1 0 4 ((r1.1 0 4) + (1 : Int32))) 0 2)) then (some ((1 : Int32), ui (ui r1.1 0 4 ((r1.1 0 4) + (1 : Int32))) 0 1 (4 : Int32), r1.2)) else (some ((1 : Int32), ui r1.1 0 4 ((r1.1 0 4) + (1 : Int32)), r1.2)))
def ff_O_turn (n : Nat) (I : MI) (J : MJ) (a1 : Int32) : Option (Int32 × MI × MJ) := (ff_O_nextToTurn n I J ).bind fun r4 => if r4 = (-1 : Int32) then (some ((0 : Int32), I, J)) else (if a1 = r4 then (if ¬ (a1 < 0 ∨ 4 ≤ (a1).toNatClampNeg) then if ¬ (((I 0 4) + (1 : Int32)) < 0 ∨ 9 ≤ ((I 0 4) + (1 : Int32)).toNatClampNeg) then (ff_O_reckonTurn n I J (I 0 4) ((15 + 6 * (a1).toNatClampNeg) + 1) (6 + ((I 0 4) + (1 : Int32)).toNatClampNeg)).bind fun r9 => if (r9.1 0 1) = (2 : Int32) then (ff_O_turn_68 n r9.1 r9.2 a1 r4 (15 + 6 * (a1).toNatClampNeg) (6 + ((I 0 4) + (1 : Int32)).toNatClampNeg) (6 + ((I 0 4) + (1 : Int32)).toNatClampNeg) (15 + 6 * (a1).toNatClampNeg) (0 : Int32)) else (ff_O_turn_68 n r9.1 r9.2 a1 r4 (15 + 6 * (a1).toNatClampNeg) (6 + ((I 0 4) + (1 : Int32)).toNatClampNeg) (6 + ((I 0 4) + (1 : Int32)).toNatClampNeg) (15 + 6 * (a1).toNatClampNeg) (1 : Int32)) else none else none) else (some ((0 : Int32), I, J)))
set_option maxHeartbeats 4000000 in
set_option maxRecDepth 100000 in
theorem mm_O_turn (l : Launch) (D : va_G) (kc : Nat → ClassId) (ad : Nat → Nat) (I0 : MI) (J0 : MJ) (sz n : Nat) (a1 : Int32) (r : Int32 × MI × MJ) (h : ff_O_turn n I0 J0 a1 = some r) : Met l yy_O_turn (.code yy_O_turn cc_O_turn 5 (some .boolean) :: kw) { frames := 4, cells := 1, slots := 1, locals := 95 } (va_Pc [.ref (ad 0), .int a1] (BW D kc (wC kc ad I0 J0) sz)) (va_Qi (fun z (_ : Unit) => z = r.1) (EW D kc (va_A (wC kc ad I0 J0) sz) (wC kc ad r.2.1 r.2.2)) (va_A (wC kc ad I0 J0) sz)) 1 1 (va_A (wC kc ad I0 J0) sz) := by
  refine Met.ofW (cc := cc_O_turn) (maxL := 5) (ret := some .boolean) (by decide) rfl ?_
  intro p e s m args below meth c s₁ B hml hv
  obtain ⟨rfl, hsz, hP, hK, hD0⟩ := hv
  have hx := B.exec
  have hb := B.bytes
  have hr := B.returns
  have hlocks := B.notSynchronized
  have hk : ∀ w ∈ kw, w.before _ s = true := fun w hw => atoms_spec (ws := (.code yy_O_turn cc_O_turn 5 (some .boolean) :: kw)) B.pre w (List.mem_cons_of_mem _ hw)
  have hown : s.vm.findClass "OpenDeal" = some m.cls := findClass_of_methodNamed B.named
  subst hsz
  have hD := hD0.self (sz := s.heap.size)
  generalize hAe : va_A (wC kc ad I0 J0) s.heap.size = A at hD ⊢
  have hA : ∀ q : Nat, s.heap.size ≤ q → A q := fun q h => by rw [← hAe]; exact Or.inr h
  have hS : va_S A s.heap s.heap [] := va_S.rf
  have hP : va_P D cls5 (wC kc ad I0 J0) s.heap := hP
  clear hAe hD0
  have L68 : ∀  (n : Nat) (I : MI) (J : MJ) (v1 : Int32) (v2 : Int32) (v3 : Nat) (hv3 : isP v3) (v4 : Nat) (hv4 : isA v4) (s1 : Nat) (hs1 : isA s1) (s2 : Nat) (hs2 : isP s2) (s3 : Int32), ff_O_turn_68 n I J v1 v2 v3 v4 s1 s2 s3 = some r → ∀ (H : Heap) (locs : List Loc), va_P D cls5 (wC kc ad I J) H → va_D A (wC kc ad I J) → va_S A s.heap H locs → ∀ ls, lv_has ls 5 [(0, .ref (ad 0)), (1, .int v1), (2, .int v2), (3, .ref (ad v3)), (4, .ref (ad v4))] → W p l e (headSpec (.code yy_O_turn cc_O_turn 5 (some .boolean) :: kw) { frames := 4, cells := 1, slots := 1, locals := 95 }).room s m ([.ref (ad 0), .int a1] : List Value).toArray below meth c H locs 1 1 (MQ below (va_Qi (fun z (_ : Unit) => z = r.1) (EW D kc A (wC kc ad r.2.1 r.2.2)) A) ([.ref (ad 0), .int a1] : List Value).toArray s 1 1 A) (F0 m 68 ls [.int s3, .ref (ad s2), .ref (ad s1), .ref (ad 0)]) := by
    intro  n I J v1 v2 v3 hv3 v4 hv4 s1 hs1 s2 hs2 s3 h H locs hP hD hS ls hl
    unfold ff_O_turn_68 at h
    obtain ⟨r1, hr1, h⟩ := ob_out h
    refine cw_Vv (n := 3) (As := [.ref (ad s1), .ref (ad s2), .int s3]) (mc := 0) (ms := 0) hx hb hml hown hk (mm_O_spoil l D kc ad _ _ _ _ _ hs1 _ hs2 _ _ hr1) hK hP hD hS hA 0 at_O rfl rfl kw_266 kw_268 sel_O_spoil kw_1 kw_269 ⟨rfl, rfl⟩ (by decide +kernel) ⟨Nat.le_of_ble_eq_true rfl, Nat.le_of_ble_eq_true rfl⟩ rfl hl.1 rfl (Nat.le_of_ble_eq_true rfl) dd_O_turn_68 ⟨Nat.le_of_ble_eq_true rfl, Nat.le_of_ble_eq_true rfl⟩ (fun H locs hP hD hS => ?_)
    refine lv_aload_n hx hb dd_O_turn_71 rfl (lv_at hl 0 rfl) ?_
    refine lv_dup hx hb dd_O_turn_72 rfl ?_
    refine va_get (D := D) (ci := 0) (v := .int (r1.1 0 4)) (C := "OpenDeal") (T := T_O) (N := 11) hx hb hk in_O hown hK hP 0 at_O rfl 4 (by decide) (hk _ kw_109) (fun _ h9 => h9) rfl dd_O_turn_73 ?_
    refine lv_iconst (v := 1) hx hb dd_O_turn_76 (by decide) ?_
    refine lv_iadd hx hb dd_O_turn_77 ?_
    refine va_put (D := D) (ci := 0) (v := .int ((r1.1 0 4) + (1 : Int32))) (ty := .int) (C := "OpenDeal") (T := T_O) (N := 11) hx hb hk in_O ty_O tk_O nm_O hown hK hP hD hS 0 at_O rfl 4 (by decide) (hk _ kw_109) (fun _ h9 => h9) rfl (by decide +kernel) rfl rfl (Nat.le_of_ble_eq_true rfl) dd_O_turn_78 (fun H locs hP hD hS => ?_)
    rw [pt_O4] at hP hD
    refine lv_aload_n hx hb dd_O_turn_81 rfl (lv_at hl 0 rfl) ?_
    refine va_get (D := D) (ci := 0) (v := .int ((ui r1.1 0 4 ((r1.1 0 4) + (1 : Int32))) 0 4)) (C := "OpenDeal") (T := T_O) (N := 11) hx hb hk in_O hown hK hP 0 at_O rfl 4 (by decide) (hk _ kw_109) (fun _ h9 => h9) rfl dd_O_turn_82 ?_
    refine lv_aload_n hx hb dd_O_turn_85 rfl (lv_at hl 0 rfl) ?_
    refine va_get (D := D) (ci := 0) (v := .int ((ui r1.1 0 4 ((r1.1 0 4) + (1 : Int32))) 0 2)) (C := "OpenDeal") (T := T_O) (N := 11) hx hb hk in_O hown hK hP 0 at_O rfl 2 (by decide) (hk _ kw_107) (fun _ h9 => h9) rfl dd_O_turn_86 ?_
    refine lv_icmp_ne (tgt := 100) hx hb dd_O_turn_89 (by decide) (fun hc2 => ?_) (fun hc2 => ?_)
    · have h := in_out hc2 h
      refine lv_aload_n hx hb dd_O_turn_100 rfl (lv_at hl 0 rfl) ?_
      refine va_get (D := D) (ci := 0) (v := .int ((ui r1.1 0 4 ((r1.1 0 4) + (1 : Int32))) 0 4)) (C := "OpenDeal") (T := T_O) (N := 11) hx hb hk in_O hown hK hP 0 at_O rfl 4 (by decide) (hk _ kw_109) (fun _ h9 => h9) rfl dd_O_turn_101 ?_
      refine lv_iconst (v := 2) hx hb dd_O_turn_104 (by decide) ?_
      refine lv_aload_n hx hb dd_O_turn_105 rfl (lv_at hl 0 rfl) ?_
      refine va_get (D := D) (ci := 0) (v := .int ((ui r1.1 0 4 ((r1.1 0 4) + (1 : Int32))) 0 2)) (C := "OpenDeal") (T := T_O) (N := 11) hx hb hk in_O hown hK hP 0 at_O rfl 2 (by decide) (hk _ kw_107) (fun _ h9 => h9) rfl dd_O_turn_106 ?_
      refine lv_imul hx hb dd_O_turn_109 ?_
      refine lv_icmp_ne (tgt := 118) hx hb dd_O_turn_110 (by decide) (fun hc3 => ?_) (fun hc3 => ?_)
      · have h := in_out hc3 h
        refine lv_iconst (v := 1) hx hb dd_O_turn_118 (by decide) ?_
        obtain rfl := Option.some.inj h
        exact W.zret hx hb hr rfl (fun t ht hW => ⟨⟨_, (), rfl, rfl, by rw [ht]; exact hP, va_K.moved hW.alike hK, hD⟩, hS.F ht⟩) hS.2.2 dd_O_turn_119
      · have h := ip_out hc3 h
        refine lv_aload_n hx hb dd_O_turn_113 rfl (lv_at hl 0 rfl) ?_
        refine lv_iconst (v := 4) hx hb dd_O_turn_114 (by decide) ?_
        refine va_put (D := D) (ci := 0) (v := .int (4 : Int32)) (ty := .int) (C := "OpenDeal") (T := T_O) (N := 11) hx hb hk in_O ty_O tk_O nm_O hown hK hP hD hS 0 at_O rfl 1 (by decide) (hk _ kw_106) (fun _ h9 => h9) rfl (by decide +kernel) rfl rfl (Nat.le_of_ble_eq_true rfl) dd_O_turn_115 (fun H locs hP hD hS => ?_)
        rw [pt_O1] at hP hD
        refine lv_iconst (v := 1) hx hb dd_O_turn_118 (by decide) ?_
        obtain rfl := Option.some.inj h
        exact W.zret hx hb hr rfl (fun t ht hW => ⟨⟨_, (), rfl, rfl, by rw [ht]; exact hP, va_K.moved hW.alike hK, hD⟩, hS.F ht⟩) hS.2.2 dd_O_turn_119
    · have h := ip_out hc2 h
      refine lv_aload_n hx hb dd_O_turn_92 rfl (lv_at hl 0 rfl) ?_
      refine lv_iconst (v := 3) hx hb dd_O_turn_93 (by decide) ?_
      refine va_put (D := D) (ci := 0) (v := .int (3 : Int32)) (ty := .int) (C := "OpenDeal") (T := T_O) (N := 11) hx hb hk in_O ty_O tk_O nm_O hown hK hP hD hS 0 at_O rfl 1 (by decide) (hk _ kw_106) (fun _ h9 => h9) rfl (by decide +kernel) rfl rfl (Nat.le_of_ble_eq_true rfl) dd_O_turn_94 (fun H locs hP hD hS => ?_)
      rw [pt_O1] at hP hD
      refine lv_goto (tgt := 118) hx hb dd_O_turn_97 (by decide) ?_
      refine lv_iconst (v := 1) hx hb dd_O_turn_118 (by decide) ?_
      obtain rfl := Option.some.inj h
      exact W.zret hx hb hr rfl (fun t ht hW => ⟨⟨_, (), rfl, rfl, by rw [ht]; exact hP, va_K.moved hW.alike hK, hD⟩, hS.F ht⟩) hS.2.2 dd_O_turn_119
  have hl := lv_entry ([.ref (ad 0), .int a1]) (n := 5) (Nat.le_of_ble_eq_true rfl)
  rw [lg_entry_eq]
  generalize (lg_sl ([.ref (ad 0), .int a1]) ++ List.replicate (5 - (lg_sl ([.ref (ad 0), .int a1])).length) Slot.unset).toArray = ls at hl ⊢
  have hl : lv_has ls 5 [(0, .ref (ad 0)), (1, .int a1)] := hl
  unfold ff_O_turn at h
  refine lv_aload_n hx hb dd_O_turn_0 rfl (lv_at hl 0 rfl) ?_
  obtain ⟨r4, hr4, h⟩ := ob_out h
  refine cr_Vi (n := 0) (As := []) hx hb hml hown hk (mm_O_nextToTurn l D kc ad _ _ _  _ hr4) hK hP 0 at_O rfl rfl kw_246 kw_248 sel_O_nextToTurn kw_1 kw_249 ⟨rfl, rfl⟩ (by decide +kernel) ⟨Nat.le_of_ble_eq_true rfl, Nat.le_of_ble_eq_true rfl⟩ rfl hl.1 rfl (Nat.le_of_ble_eq_true rfl) dd_O_turn_1 ⟨Nat.le_of_ble_eq_true rfl, Nat.le_of_ble_eq_true rfl⟩ ?_
  refine lv_istore_n (lv' := [(2, .int r4), (0, .ref (ad 0)), (1, .int a1)]) hx hb dd_O_turn_4 rfl hl (by decide) rfl (fun ls hl => ?_)
  refine lv_iload_n hx hb dd_O_turn_5 rfl (lv_at hl 0 rfl) ?_
  refine lv_iconst (v := -1) hx hb dd_O_turn_6 (by decide) ?_
  refine lv_icmp_eq (tgt := 15) hx hb dd_O_turn_7 (by decide) (fun hc5 => ?_) (fun hc5 => ?_)
  · have h := ip_out hc5 h
    refine lv_iconst (v := 0) hx hb dd_O_turn_15 (by decide) ?_
    obtain rfl := Option.some.inj h
    refine W.widen (k := 1) (n := 1) (by omega) (by omega) ?_
    exact W.zret hx hb hr rfl (fun t ht hW => ⟨⟨_, (), rfl, rfl, by rw [ht]; exact hP, va_K.moved hW.alike hK, hD⟩, hS.F ht⟩) hS.2.2 dd_O_turn_16
  · have h := in_out hc5 h
    refine lv_iload_n hx hb dd_O_turn_10 rfl (lv_at hl 2 rfl) ?_
    refine lv_iload_n hx hb dd_O_turn_11 rfl (lv_at hl 0 rfl) ?_
    refine lv_icmp_eq (tgt := 17) hx hb dd_O_turn_12 (by decide) (fun hc6 => ?_) (fun hc6 => ?_)
    · have h := ip_out hc6 h
      refine lv_aload_n hx hb dd_O_turn_17 rfl (lv_at hl 1 rfl) ?_
      refine va_get (D := D) (ci := 0) (v := .ref (ad 1)) (C := "OpenDeal") (T := T_O) (N := 11) hx hb hk in_O hown hK hP 0 at_O rfl 3 (by decide) (hk _ kw_108) (fun _ h9 => h9) rfl dd_O_turn_18 ?_
      refine lv_iload_n hx hb dd_O_turn_21 rfl (lv_at hl 2 rfl) ?_
      obtain ⟨hi7, h⟩ := oi_out h
      refine ap_ald (b := ad (15 + 6 * (a1).toNatClampNeg)) hx hb hK hP 1 3 at_pl rfl hi7 (if_pos (vi_lt hi7)) dd_O_turn_22 ?_
      refine lv_astore_n (lv' := [(3, .ref (ad (15 + 6 * (a1).toNatClampNeg))), (2, .int r4), (0, .ref (ad 0)), (1, .int a1)]) hx hb dd_O_turn_23 rfl hl (by decide) rfl (fun ls hl => ?_)
      refine lv_aload_n hx hb dd_O_turn_24 rfl (lv_at hl 2 rfl) ?_
      refine va_get (D := D) (ci := 0) (v := .ref (ad 2)) (C := "OpenDeal") (T := T_O) (N := 11) hx hb hk in_O hown hK hP 0 at_O rfl 5 (by decide) (hk _ kw_110) (fun _ h9 => h9) rfl dd_O_turn_25 ?_
      refine lv_aload_n hx hb dd_O_turn_28 rfl (lv_at hl 2 rfl) ?_
      refine va_get (D := D) (ci := 0) (v := .int (I0 0 4)) (C := "OpenDeal") (T := T_O) (N := 11) hx hb hk in_O hown hK hP 0 at_O rfl 4 (by decide) (hk _ kw_109) (fun _ h9 => h9) rfl dd_O_turn_29 ?_
      refine lv_iconst (v := 1) hx hb dd_O_turn_32 (by decide) ?_
      refine lv_iadd hx hb dd_O_turn_33 ?_
      obtain ⟨hi8, h⟩ := oi_out h
      refine ag_ald (b := ad (6 + ((I0 0 4) + (1 : Int32)).toNatClampNeg)) hx hb hK hP 2 4 at_dk rfl hi8 (if_pos (vi_lt hi8)) dd_O_turn_34 ?_
      refine lv_astore (lv' := [(4, .ref (ad (6 + ((I0 0 4) + (1 : Int32)).toNatClampNeg))), (3, .ref (ad (15 + 6 * (a1).toNatClampNeg))), (2, .int r4), (0, .ref (ad 0)), (1, .int a1)]) hx hb dd_O_turn_35 hl (by decide) rfl (fun ls hl => ?_)
      refine lv_aload_n hx hb dd_O_turn_37 rfl (lv_at hl 3 rfl) ?_
      refine lv_aload_n hx hb dd_O_turn_38 rfl (lv_at hl 3 rfl) ?_
      refine va_get (D := D) (ci := 0) (v := .int (I0 0 4)) (C := "OpenDeal") (T := T_O) (N := 11) hx hb hk in_O hown hK hP 0 at_O rfl 4 (by decide) (hk _ kw_109) (fun _ h9 => h9) rfl dd_O_turn_39 ?_
      refine lv_aload_n hx hb dd_O_turn_42 rfl (lv_at hl 1 rfl) ?_
      refine va_get (D := D) (ci := 1) (v := .ref (ad ((15 + 6 * (a1).toNatClampNeg) + 1))) (C := "OpenDeal$Player") (T := T_P) (N := 13) hx hb hk in_P hown hK hP (15 + 6 * (a1).toNatClampNeg) (at_P (isP_of (vi_lt hi7))) rfl 8 (by decide) (hk _ kw_65) (fun _ h9 => h9) rfl dd_O_turn_43 ?_
      refine lv_aload hx hb dd_O_turn_46 (lv_at hl 0 rfl) ?_
      obtain ⟨r9, hr9, h⟩ := ob_out h
      refine cw_Vv (n := 3) (As := [.int (I0 0 4), .ref (ad ((15 + 6 * (a1).toNatClampNeg) + 1)), .ref (ad (6 + ((I0 0 4) + (1 : Int32)).toNatClampNeg))]) (mc := 1) (ms := 1) hx hb hml hown hk (mm_O_reckonTurn l D kc ad _ _ _ _ _ _ (isP_S1 (isP_of (vi_lt hi7))) _ (isA_deck (vi_lt hi8)) _ hr9) hK hP hD hS hA 0 at_O rfl rfl kw_254 kw_256 sel_O_reckonTurn kw_1 kw_257 ⟨rfl, rfl⟩ (by decide +kernel) ⟨Nat.le_of_ble_eq_true rfl, Nat.le_of_ble_eq_true rfl⟩ rfl hl.1 rfl (Nat.le_of_ble_eq_true rfl) dd_O_turn_48 ⟨Nat.le_of_ble_eq_true rfl, Nat.le_of_ble_eq_true rfl⟩ (fun H locs hP hD hS => ?_)
      refine lv_aload_n hx hb dd_O_turn_51 rfl (lv_at hl 3 rfl) ?_
      refine lv_aload hx hb dd_O_turn_52 (lv_at hl 0 rfl) ?_
      refine lv_aload_n hx hb dd_O_turn_54 rfl (lv_at hl 1 rfl) ?_
      refine lv_aload_n hx hb dd_O_turn_55 rfl (lv_at hl 3 rfl) ?_
      refine va_get (D := D) (ci := 0) (v := .int (r9.1 0 1)) (C := "OpenDeal") (T := T_O) (N := 11) hx hb hk in_O hown hK hP 0 at_O rfl 1 (by decide) (hk _ kw_106) (fun _ h9 => h9) rfl dd_O_turn_56 ?_
      refine lv_iconst (v := 2) hx hb dd_O_turn_59 (by decide) ?_
      refine lv_icmp_ne (tgt := 67) hx hb dd_O_turn_60 (by decide) (fun hc10 => ?_) (fun hc10 => ?_)
      · have h := in_out hc10 h
        refine lv_iconst (v := 1) hx hb dd_O_turn_67 (by decide) ?_
        exact L68  _ _ _ _ _ _ (isP_of (vi_lt hi7)) _ (isA_deck (vi_lt hi8)) _ (isA_deck (vi_lt hi8)) _ (isP_of (vi_lt hi7)) _ h _ _ hP hD hS _ (lv_sub hl [3, 4, 2, 1, 0] rfl)
      · have h := ip_out hc10 h
        refine lv_iconst (v := 0) hx hb dd_O_turn_63 (by decide) ?_
        refine lv_goto (tgt := 68) hx hb dd_O_turn_64 (by decide) ?_
        exact L68  _ _ _ _ _ _ (isP_of (vi_lt hi7)) _ (isA_deck (vi_lt hi8)) _ (isA_deck (vi_lt hi8)) _ (isP_of (vi_lt hi7)) _ h _ _ hP hD hS _ (lv_sub hl [3, 4, 2, 1, 0] rfl)
    · have h := in_out hc6 h
      refine lv_iconst (v := 0) hx hb dd_O_turn_15 (by decide) ?_
      obtain rfl := Option.some.inj h
      refine W.widen (k := 1) (n := 1) (by omega) (by omega) ?_
      exact W.zret hx hb hr rfl (fun t ht hW => ⟨⟨_, (), rfl, rfl, by rw [ht]; exact hP, va_K.moved hW.alike hK, hD⟩, hS.F ht⟩) hS.2.2 dd_O_turn_16
