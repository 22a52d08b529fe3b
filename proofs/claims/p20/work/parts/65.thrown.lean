/-! the methods that may throw: their answers, and their throws; laid by program -/
def ff_O_sealOf_20 (I : MI) (J : MJ)  (n : Nat) (v1 : Int32) : Option (Option Int64) := some none
def ff_O_sealOf (n : Nat) (I : MI) (J : MJ) (a1 : Int32) : Option (Option Int64) := (ff_O_isSeated n I J a1).bind fun r1 => if r1 = 0 then (ff_O_sealOf_20 I J n a1) else (if ¬ (a1 < 0 ∨ 4 ≤ (a1).toNatClampNeg) then if (I (15 + 6 * (a1).toNatClampNeg) 5) = 0 then (ff_O_sealOf_20 I J n a1) else (if ¬ (a1 < 0 ∨ 4 ≤ (a1).toNatClampNeg) then some (some (J (15 + 6 * (a1).toNatClampNeg) 6)) else none) else none)
set_option maxHeartbeats 4000000 in
set_option maxRecDepth 100000 in
theorem mm_O_sealOf (l : Launch) (D : va_G) (kc : Nat → ClassId) (ad : Nat → Nat) (I : MI) (J : MJ) (n : Nat) (a1 : Int32) (r : Int64) (h : ff_O_sealOf n I J a1 = some (some r)) : Met l yy_O_sealOf (.code yy_O_sealOf cc_O_sealOf 2 (some .long) :: kw) { frames := 1, cells := 0, slots := 0, locals := 21 } (va_Pc [.ref (ad 0), .int a1] (BR D kc (wC kc ad I J))) (vp_Sl (fun z => z = r)) 0 0 (fun _ => False) := by
  refine Met.ofW (cc := cc_O_sealOf) (maxL := 2) (ret := some .long) (by decide) rfl ?_
  intro p e s m args below meth c s₁ B hml hv
  obtain ⟨rfl, hP, hK⟩ := hv
  have hx := B.exec
  have hb := B.bytes
  have hr := B.returns
  have hlocks := B.notSynchronized
  have hk : ∀ w ∈ kw, w.before _ s = true := fun w hw => atoms_spec (ws := (.code yy_O_sealOf cc_O_sealOf 2 (some .long) :: kw)) B.pre w (List.mem_cons_of_mem _ hw)
  have hown : s.vm.findClass "OpenDeal" = some m.cls := findClass_of_methodNamed B.named
  have L20 : ∀  (n : Nat) (v1 : Int32), ff_O_sealOf_20 I J n v1 = some (some r) → ∀ ls, lv_has ls 2 [(0, .ref (ad 0)), (1, .int v1)] → W p l e (headSpec (.code yy_O_sealOf cc_O_sealOf 2 (some .long) :: kw) { frames := 1, cells := 0, slots := 0, locals := 21 }).room s m ([.ref (ad 0), .int a1] : List Value).toArray below meth c s.heap [] 0 0 (MQ below (vp_Sl (fun z => z = r)) ([.ref (ad 0), .int a1] : List Value).toArray s 0 0 (fun _ => False)) (F0 m 20 ls []) := by
    intro  n v1 h ls hl
    unfold ff_O_sealOf_20 at h
    cases h
  have hl := lv_entry ([.ref (ad 0), .int a1]) (n := 2) (Nat.le_of_ble_eq_true rfl)
  rw [lg_entry_eq]
  generalize (lg_sl ([.ref (ad 0), .int a1]) ++ List.replicate (2 - (lg_sl ([.ref (ad 0), .int a1])).length) Slot.unset).toArray = ls at hl ⊢
  have hl : lv_has ls 2 [(0, .ref (ad 0)), (1, .int a1)] := hl
  unfold ff_O_sealOf at h
  refine lv_aload_n hx hb dd_O_sealOf_0 rfl (lv_at hl 0 rfl) ?_
  refine lv_iload_n hx hb dd_O_sealOf_1 rfl (lv_at hl 1 rfl) ?_
  obtain ⟨r1, hr1, h⟩ := ob_out h
  refine cr_Vi (n := 1) (As := [.int a1]) hx hb hml hown hk (mm_O_isSeated l D kc ad _ _ _ _ _ hr1) hK hP 0 at_O rfl rfl kw_196 kw_198 sel_O_isSeated kw_1 kw_199 ⟨rfl, rfl⟩ (by decide +kernel) ⟨Nat.le_of_ble_eq_true rfl, Nat.le_of_ble_eq_true rfl⟩ rfl hl.1 rfl (Nat.le_of_ble_eq_true rfl) dd_O_sealOf_2 ⟨Nat.le_of_ble_eq_true rfl, Nat.le_of_ble_eq_true rfl⟩ ?_
  refine lv_if_eq (tgt := 20) hx hb dd_O_sealOf_5 (by decide) (fun hc2 => ?_) (fun hc2 => ?_)
  · have h := ip_out hc2 h
    exact L20  _ _ h _ (lv_sub hl [0, 1] rfl)
  · have h := in_out hc2 h
    refine lv_aload_n hx hb dd_O_sealOf_8 rfl (lv_at hl 0 rfl) ?_
    refine va_get (D := D) (ci := 0) (v := .ref (ad 1)) (C := "OpenDeal") (T := T_O) (N := 11) hx hb hk in_O hown hK hP 0 at_O rfl 3 (by decide) (hk _ kw_108) (fun _ h9 => h9) rfl dd_O_sealOf_9 ?_
    refine lv_iload_n hx hb dd_O_sealOf_12 rfl (lv_at hl 1 rfl) ?_
    obtain ⟨hi3, h⟩ := oi_out h
    refine ap_ald (b := ad (15 + 6 * (a1).toNatClampNeg)) hx hb hK hP 1 3 at_pl rfl hi3 (if_pos (vi_lt hi3)) dd_O_sealOf_13 ?_
    refine va_get (D := D) (ci := 1) (v := .int (I (15 + 6 * (a1).toNatClampNeg) 5)) (C := "OpenDeal$Player") (T := T_P) (N := 13) hx hb hk in_P hown hK hP (15 + 6 * (a1).toNatClampNeg) (at_P (isP_of (vi_lt hi3))) rfl 5 (by decide) (hk _ kw_60) (fun _ h9 => h9) rfl dd_O_sealOf_14 ?_
    refine lv_if_ne (tgt := 30) hx hb dd_O_sealOf_17 (by decide) (fun hc4 => ?_) (fun hc4 => ?_)
    · have h := in_out hc4 h
      refine lv_aload_n hx hb dd_O_sealOf_30 rfl (lv_at hl 0 rfl) ?_
      refine va_get (D := D) (ci := 0) (v := .ref (ad 1)) (C := "OpenDeal") (T := T_O) (N := 11) hx hb hk in_O hown hK hP 0 at_O rfl 3 (by decide) (hk _ kw_108) (fun _ h9 => h9) rfl dd_O_sealOf_31 ?_
      refine lv_iload_n hx hb dd_O_sealOf_34 rfl (lv_at hl 1 rfl) ?_
      obtain ⟨hi5, h⟩ := oi_out h
      refine ap_ald (b := ad (15 + 6 * (a1).toNatClampNeg)) hx hb hK hP 1 3 at_pl rfl hi5 (if_pos (vi_lt hi5)) dd_O_sealOf_35 ?_
      refine va_get (D := D) (ci := 1) (v := .long (J (15 + 6 * (a1).toNatClampNeg) 6)) (C := "OpenDeal$Player") (T := T_P) (N := 13) hx hb hk in_P hown hK hP (15 + 6 * (a1).toNatClampNeg) (at_P (isP_of (vi_lt hi5))) rfl 6 (by decide) (hk _ kw_61) (fun _ h9 => h9) rfl dd_O_sealOf_36 ?_
      obtain rfl := Option.some.inj (Option.some.inj h)
      exact W.lret hx hb hr (fun t ht hW => ⟨_, rfl, rfl, ht⟩) (fun q hq => by cases hq) dd_O_sealOf_39
    · have h := ip_out hc4 h
      exact L20  _ _ h _ (lv_sub hl [0, 1] rfl)
set_option maxHeartbeats 4000000 in
set_option maxRecDepth 100000 in
theorem mt_O_sealOf (l : Launch) (D : va_G) (kc : Nat → ClassId) (ad : Nat → Nat) (I : MI) (J : MJ) (n : Nat) (a1 : Int32) (q : Nat) (hfl : l.flags = pinnedFlags ++ [noTraceFlag]) (h : ff_O_sealOf n I J a1 = some none) : MetT l yy_O_sealOf (.code yy_O_sealOf cc_O_sealOf 2 (some .long) :: kw) { frames := 6, cells := 1, slots := 6, locals := 90 } (va_Pc [.ref (ad 0), .int a1] (fun U => BR D kc (wC kc ad I J) U ∧ TW 119 "java/lang/IndexOutOfBoundsException" U ∧ vk_R "OpenDeal" 117 "no such seal" q U)) "java/lang/IndexOutOfBoundsException" 1 6 := by
  refine MetT.ofW (cc := cc_O_sealOf) (maxL := 2) (ret := some .long) (by decide) rfl ?_
  intro p e s m args below meth c s₁ B hml hv
  obtain ⟨rfl, ⟨hP, hK⟩, hTW, hR9⟩ := hv
  have hx := B.exec
  have hb := B.bytes
  have hr := B.returns
  have hlocks := B.notSynchronized
  have hno := B.noHandlers (atoms_spec (ws := (.code yy_O_sealOf cc_O_sealOf 2 (some .long) :: kw)) B.pre _ List.mem_cons_self)
  have hk : ∀ w ∈ kw, w.before _ s = true := fun w hw => atoms_spec (ws := (.code yy_O_sealOf cc_O_sealOf 2 (some .long) :: kw)) B.pre w (List.mem_cons_of_mem _ hw)
  have hown : s.vm.findClass "OpenDeal" = some m.cls := findClass_of_methodNamed B.named
  have L20 : ∀  (n : Nat) (v1 : Int32), ff_O_sealOf_20 I J n v1 = some none → ∀ ls, lv_has ls 2 [(0, .ref (ad 0)), (1, .int v1)] → W p l e (headSpec (.code yy_O_sealOf cc_O_sealOf 2 (some .long) :: kw) { frames := 6, cells := 1, slots := 6, locals := 90 }).room s m ([.ref (ad 0), .int a1] : List Value).toArray below meth c s.heap [] 0 0 (MQT below "java/lang/IndexOutOfBoundsException" s 1 6) (F0 m 20 ls []) := by
    intro  n v1 h ls hl
    unfold ff_O_sealOf_20 at h
    exact thr_end hx hb hml hfl hlocks hown hno (by decide +kernel) hTW hR9 (hk _ kw_432) (hk _ kw_433) (hk _ kw_11) hl.1 dd_O_sealOf_20 dd_O_sealOf_23 dd_O_sealOf_24 dd_O_sealOf_26 dd_O_sealOf_29 (Nat.le_refl _) (Nat.le_of_ble_eq_true rfl) (Nat.le_of_ble_eq_true rfl) (Nat.le_of_ble_eq_true rfl) (Nat.le_of_ble_eq_true rfl)
  have hl := lv_entry ([.ref (ad 0), .int a1]) (n := 2) (Nat.le_of_ble_eq_true rfl)
  rw [lg_entry_eq]
  generalize (lg_sl ([.ref (ad 0), .int a1]) ++ List.replicate (2 - (lg_sl ([.ref (ad 0), .int a1])).length) Slot.unset).toArray = ls at hl ⊢
  have hl : lv_has ls 2 [(0, .ref (ad 0)), (1, .int a1)] := hl
  unfold ff_O_sealOf at h
  refine lv_aload_n hx hb dd_O_sealOf_0 rfl (lv_at hl 0 rfl) ?_
  refine lv_iload_n hx hb dd_O_sealOf_1 rfl (lv_at hl 1 rfl) ?_
  obtain ⟨r1, hr1, h⟩ := ob_out h
  refine cr_Vi (n := 1) (As := [.int a1]) hx hb hml hown hk (mm_O_isSeated l D kc ad _ _ _ _ _ hr1) hK hP 0 at_O rfl rfl kw_196 kw_198 sel_O_isSeated kw_1 kw_199 ⟨rfl, rfl⟩ (by decide +kernel) ⟨Nat.le_of_ble_eq_true rfl, Nat.le_of_ble_eq_true rfl⟩ rfl hl.1 rfl (Nat.le_of_ble_eq_true rfl) dd_O_sealOf_2 ⟨Nat.le_of_ble_eq_true rfl, Nat.le_of_ble_eq_true rfl⟩ ?_
  refine lv_if_eq (tgt := 20) hx hb dd_O_sealOf_5 (by decide) (fun hc2 => ?_) (fun hc2 => ?_)
  · have h := ip_out hc2 h
    exact L20  _ _ h _ (lv_sub hl [0, 1] rfl)
  · have h := in_out hc2 h
    refine lv_aload_n hx hb dd_O_sealOf_8 rfl (lv_at hl 0 rfl) ?_
    refine va_get (D := D) (ci := 0) (v := .ref (ad 1)) (C := "OpenDeal") (T := T_O) (N := 11) hx hb hk in_O hown hK hP 0 at_O rfl 3 (by decide) (hk _ kw_108) (fun _ h9 => h9) rfl dd_O_sealOf_9 ?_
    refine lv_iload_n hx hb dd_O_sealOf_12 rfl (lv_at hl 1 rfl) ?_
    obtain ⟨hi3, h⟩ := oi_out h
    refine ap_ald (b := ad (15 + 6 * (a1).toNatClampNeg)) hx hb hK hP 1 3 at_pl rfl hi3 (if_pos (vi_lt hi3)) dd_O_sealOf_13 ?_
    refine va_get (D := D) (ci := 1) (v := .int (I (15 + 6 * (a1).toNatClampNeg) 5)) (C := "OpenDeal$Player") (T := T_P) (N := 13) hx hb hk in_P hown hK hP (15 + 6 * (a1).toNatClampNeg) (at_P (isP_of (vi_lt hi3))) rfl 5 (by decide) (hk _ kw_60) (fun _ h9 => h9) rfl dd_O_sealOf_14 ?_
    refine lv_if_ne (tgt := 30) hx hb dd_O_sealOf_17 (by decide) (fun hc4 => ?_) (fun hc4 => ?_)
    · have h := in_out hc4 h
      refine lv_aload_n hx hb dd_O_sealOf_30 rfl (lv_at hl 0 rfl) ?_
      refine va_get (D := D) (ci := 0) (v := .ref (ad 1)) (C := "OpenDeal") (T := T_O) (N := 11) hx hb hk in_O hown hK hP 0 at_O rfl 3 (by decide) (hk _ kw_108) (fun _ h9 => h9) rfl dd_O_sealOf_31 ?_
      refine lv_iload_n hx hb dd_O_sealOf_34 rfl (lv_at hl 1 rfl) ?_
      obtain ⟨hi5, h⟩ := oi_out h
      refine ap_ald (b := ad (15 + 6 * (a1).toNatClampNeg)) hx hb hK hP 1 3 at_pl rfl hi5 (if_pos (vi_lt hi5)) dd_O_sealOf_35 ?_
      refine va_get (D := D) (ci := 1) (v := .long (J (15 + 6 * (a1).toNatClampNeg) 6)) (C := "OpenDeal$Player") (T := T_P) (N := 13) hx hb hk in_P hown hK hP (15 + 6 * (a1).toNatClampNeg) (at_P (isP_of (vi_lt hi5))) rfl 6 (by decide) (hk _ kw_61) (fun _ h9 => h9) rfl dd_O_sealOf_36 ?_
      cases h
    · have h := ip_out hc4 h
      exact L20  _ _ h _ (lv_sub hl [0, 1] rfl)
def ff_O_laid_14 (I : MI) (J : MJ)  (n : Nat) (v1 : Int32) : Option (Option Int32) := some none
def ff_O_laid (n : Nat) (I : MI) (J : MJ) (a1 : Int32) : Option (Option Int32) := if (I 0 0) = 0 then (ff_O_laid_14 I J n a1) else ((ff_O_isPlace n a1).bind fun r2 => if r2 = 0 then (ff_O_laid_14 I J n a1) else (if ¬ ((I 0 4) < 0 ∨ 9 ≤ (I 0 4).toNatClampNeg) then if ¬ (a1 < 0 ∨ 52 ≤ (a1).toNatClampNeg) then some (some (I (6 + (I 0 4).toNatClampNeg) (a1).toNatClampNeg)) else none else none))
set_option maxHeartbeats 4000000 in
set_option maxRecDepth 100000 in
theorem mm_O_laid (l : Launch) (D : va_G) (kc : Nat → ClassId) (ad : Nat → Nat) (I : MI) (J : MJ) (n : Nat) (a1 : Int32) (r : Int32) (h : ff_O_laid n I J a1 = some (some r)) : Met l yy_O_laid (.code yy_O_laid cc_O_laid 2 (some .int) :: kw) { frames := 1, cells := 0, slots := 0, locals := 20 } (va_Pc [.ref (ad 0), .int a1] (BR D kc (wC kc ad I J))) (vp_Si (fun z => z = r)) 0 0 (fun _ => False) := by
  refine Met.ofW (cc := cc_O_laid) (maxL := 2) (ret := some .int) (by decide) rfl ?_
  intro p e s m args below meth c s₁ B hml hv
  obtain ⟨rfl, hP, hK⟩ := hv
  have hx := B.exec
  have hb := B.bytes
  have hr := B.returns
  have hlocks := B.notSynchronized
  have hk : ∀ w ∈ kw, w.before _ s = true := fun w hw => atoms_spec (ws := (.code yy_O_laid cc_O_laid 2 (some .int) :: kw)) B.pre w (List.mem_cons_of_mem _ hw)
  have hown : s.vm.findClass "OpenDeal" = some m.cls := findClass_of_methodNamed B.named
  have L14 : ∀  (n : Nat) (v1 : Int32), ff_O_laid_14 I J n v1 = some (some r) → ∀ ls, lv_has ls 2 [(0, .ref (ad 0)), (1, .int v1)] → W p l e (headSpec (.code yy_O_laid cc_O_laid 2 (some .int) :: kw) { frames := 1, cells := 0, slots := 0, locals := 20 }).room s m ([.ref (ad 0), .int a1] : List Value).toArray below meth c s.heap [] 0 0 (MQ below (vp_Si (fun z => z = r)) ([.ref (ad 0), .int a1] : List Value).toArray s 0 0 (fun _ => False)) (F0 m 14 ls []) := by
    intro  n v1 h ls hl
    unfold ff_O_laid_14 at h
    cases h
  have hl := lv_entry ([.ref (ad 0), .int a1]) (n := 2) (Nat.le_of_ble_eq_true rfl)
  rw [lg_entry_eq]
  generalize (lg_sl ([.ref (ad 0), .int a1]) ++ List.replicate (2 - (lg_sl ([.ref (ad 0), .int a1])).length) Slot.unset).toArray = ls at hl ⊢
  have hl : lv_has ls 2 [(0, .ref (ad 0)), (1, .int a1)] := hl
  unfold ff_O_laid at h
  refine lv_aload_n hx hb dd_O_laid_0 rfl (lv_at hl 0 rfl) ?_
  refine va_get (D := D) (ci := 0) (v := .int (I 0 0)) (C := "OpenDeal") (T := T_O) (N := 11) hx hb hk in_O hown hK hP 0 at_O rfl 0 (by decide) (hk _ kw_105) (fun _ h9 => h9) rfl dd_O_laid_1 ?_
  refine lv_if_eq (tgt := 14) hx hb dd_O_laid_4 (by decide) (fun hc1 => ?_) (fun hc1 => ?_)
  · have h := ip_out hc1 h
    exact L14  _ _ h _ (lv_sub hl [0, 1] rfl)
  · have h := in_out hc1 h
    refine lv_iload_n hx hb dd_O_laid_7 rfl (lv_at hl 1 rfl) ?_
    obtain ⟨r2, hr2, h⟩ := ob_out h
    refine ro_Si (n := 1) (As := [.int a1]) hx hb hml hown hk (mm_O_isPlace l _ _ _ hr2) (fun U _ _ => trivial) (fun _ _ _ _ _ => trivial) kw_278 kw_279 kw_1 kw_280 ⟨rfl, rfl⟩ (by decide +kernel) ⟨Nat.le_of_ble_eq_true rfl, Nat.le_of_ble_eq_true rfl⟩ rfl hl.1 rfl (Nat.le_of_ble_eq_true rfl) dd_O_laid_8 ⟨Nat.le_of_ble_eq_true rfl, Nat.le_of_ble_eq_true rfl⟩ ?_
    refine lv_if_ne (tgt := 24) hx hb dd_O_laid_11 (by decide) (fun hc3 => ?_) (fun hc3 => ?_)
    · have h := in_out hc3 h
      refine lv_aload_n hx hb dd_O_laid_24 rfl (lv_at hl 0 rfl) ?_
      refine va_get (D := D) (ci := 0) (v := .ref (ad 2)) (C := "OpenDeal") (T := T_O) (N := 11) hx hb hk in_O hown hK hP 0 at_O rfl 5 (by decide) (hk _ kw_110) (fun _ h9 => h9) rfl dd_O_laid_25 ?_
      refine lv_aload_n hx hb dd_O_laid_28 rfl (lv_at hl 0 rfl) ?_
      refine va_get (D := D) (ci := 0) (v := .int (I 0 4)) (C := "OpenDeal") (T := T_O) (N := 11) hx hb hk in_O hown hK hP 0 at_O rfl 4 (by decide) (hk _ kw_109) (fun _ h9 => h9) rfl dd_O_laid_29 ?_
      obtain ⟨hi4, h⟩ := oi_out h
      refine ag_ald (b := ad (6 + (I 0 4).toNatClampNeg)) hx hb hK hP 2 4 at_dk rfl hi4 (if_pos (vi_lt hi4)) dd_O_laid_32 ?_
      refine lv_iload_n hx hb dd_O_laid_33 rfl (lv_at hl 1 rfl) ?_
      obtain ⟨hi5, h⟩ := oi_out h
      refine va_iald hx hb hK hP (6 + (I 0 4).toNatClampNeg) 0 (at_A (isA_deck (vi_lt hi4))) rfl hi5 dd_O_laid_34 ?_
      obtain rfl := Option.some.inj (Option.some.inj h)
      exact W.iret hx hb hr (fun t ht hW => ⟨_, rfl, rfl, ht⟩) (fun q hq => by cases hq) dd_O_laid_35
    · have h := ip_out hc3 h
      exact L14  _ _ h _ (lv_sub hl [0, 1] rfl)
set_option maxHeartbeats 4000000 in
set_option maxRecDepth 100000 in
theorem mt_O_laid (l : Launch) (D : va_G) (kc : Nat → ClassId) (ad : Nat → Nat) (I : MI) (J : MJ) (n : Nat) (a1 : Int32) (q : Nat) (hfl : l.flags = pinnedFlags ++ [noTraceFlag]) (h : ff_O_laid n I J a1 = some none) : MetT l yy_O_laid (.code yy_O_laid cc_O_laid 2 (some .int) :: kw) { frames := 6, cells := 1, slots := 6, locals := 90 } (va_Pc [.ref (ad 0), .int a1] (fun U => BR D kc (wC kc ad I J) U ∧ TW 119 "java/lang/IndexOutOfBoundsException" U ∧ vk_R "OpenDeal" 136 "no such place, or no prime" q U)) "java/lang/IndexOutOfBoundsException" 1 6 := by
  refine MetT.ofW (cc := cc_O_laid) (maxL := 2) (ret := some .int) (by decide) rfl ?_
  intro p e s m args below meth c s₁ B hml hv
  obtain ⟨rfl, ⟨hP, hK⟩, hTW, hR9⟩ := hv
  have hx := B.exec
  have hb := B.bytes
  have hr := B.returns
  have hlocks := B.notSynchronized
  have hno := B.noHandlers (atoms_spec (ws := (.code yy_O_laid cc_O_laid 2 (some .int) :: kw)) B.pre _ List.mem_cons_self)
  have hk : ∀ w ∈ kw, w.before _ s = true := fun w hw => atoms_spec (ws := (.code yy_O_laid cc_O_laid 2 (some .int) :: kw)) B.pre w (List.mem_cons_of_mem _ hw)
  have hown : s.vm.findClass "OpenDeal" = some m.cls := findClass_of_methodNamed B.named
  have L14 : ∀  (n : Nat) (v1 : Int32), ff_O_laid_14 I J n v1 = some none → ∀ ls, lv_has ls 2 [(0, .ref (ad 0)), (1, .int v1)] → W p l e (headSpec (.code yy_O_laid cc_O_laid 2 (some .int) :: kw) { frames := 6, cells := 1, slots := 6, locals := 90 }).room s m ([.ref (ad 0), .int a1] : List Value).toArray below meth c s.heap [] 0 0 (MQT below "java/lang/IndexOutOfBoundsException" s 1 6) (F0 m 14 ls []) := by
    intro  n v1 h ls hl
    unfold ff_O_laid_14 at h
    exact thr_end hx hb hml hfl hlocks hown hno (by decide +kernel) hTW hR9 (hk _ kw_432) (hk _ kw_433) (hk _ kw_11) hl.1 dd_O_laid_14 dd_O_laid_17 dd_O_laid_18 dd_O_laid_20 dd_O_laid_23 (Nat.le_refl _) (Nat.le_of_ble_eq_true rfl) (Nat.le_of_ble_eq_true rfl) (Nat.le_of_ble_eq_true rfl) (Nat.le_of_ble_eq_true rfl)
  have hl := lv_entry ([.ref (ad 0), .int a1]) (n := 2) (Nat.le_of_ble_eq_true rfl)
  rw [lg_entry_eq]
  generalize (lg_sl ([.ref (ad 0), .int a1]) ++ List.replicate (2 - (lg_sl ([.ref (ad 0), .int a1])).length) Slot.unset).toArray = ls at hl ⊢
  have hl : lv_has ls 2 [(0, .ref (ad 0)), (1, .int a1)] := hl
  unfold ff_O_laid at h
  refine lv_aload_n hx hb dd_O_laid_0 rfl (lv_at hl 0 rfl) ?_
  refine va_get (D := D) (ci := 0) (v := .int (I 0 0)) (C := "OpenDeal") (T := T_O) (N := 11) hx hb hk in_O hown hK hP 0 at_O rfl 0 (by decide) (hk _ kw_105) (fun _ h9 => h9) rfl dd_O_laid_1 ?_
  refine lv_if_eq (tgt := 14) hx hb dd_O_laid_4 (by decide) (fun hc1 => ?_) (fun hc1 => ?_)
  · have h := ip_out hc1 h
    exact L14  _ _ h _ (lv_sub hl [0, 1] rfl)
  · have h := in_out hc1 h
    refine lv_iload_n hx hb dd_O_laid_7 rfl (lv_at hl 1 rfl) ?_
    obtain ⟨r2, hr2, h⟩ := ob_out h
    refine ro_Si (n := 1) (As := [.int a1]) hx hb hml hown hk (mm_O_isPlace l _ _ _ hr2) (fun U _ _ => trivial) (fun _ _ _ _ _ => trivial) kw_278 kw_279 kw_1 kw_280 ⟨rfl, rfl⟩ (by decide +kernel) ⟨Nat.le_of_ble_eq_true rfl, Nat.le_of_ble_eq_true rfl⟩ rfl hl.1 rfl (Nat.le_of_ble_eq_true rfl) dd_O_laid_8 ⟨Nat.le_of_ble_eq_true rfl, Nat.le_of_ble_eq_true rfl⟩ ?_
    refine lv_if_ne (tgt := 24) hx hb dd_O_laid_11 (by decide) (fun hc3 => ?_) (fun hc3 => ?_)
    · have h := in_out hc3 h
      refine lv_aload_n hx hb dd_O_laid_24 rfl (lv_at hl 0 rfl) ?_
      refine va_get (D := D) (ci := 0) (v := .ref (ad 2)) (C := "OpenDeal") (T := T_O) (N := 11) hx hb hk in_O hown hK hP 0 at_O rfl 5 (by decide) (hk _ kw_110) (fun _ h9 => h9) rfl dd_O_laid_25 ?_
      refine lv_aload_n hx hb dd_O_laid_28 rfl (lv_at hl 0 rfl) ?_
      refine va_get (D := D) (ci := 0) (v := .int (I 0 4)) (C := "OpenDeal") (T := T_O) (N := 11) hx hb hk in_O hown hK hP 0 at_O rfl 4 (by decide) (hk _ kw_109) (fun _ h9 => h9) rfl dd_O_laid_29 ?_
      obtain ⟨hi4, h⟩ := oi_out h
      refine ag_ald (b := ad (6 + (I 0 4).toNatClampNeg)) hx hb hK hP 2 4 at_dk rfl hi4 (if_pos (vi_lt hi4)) dd_O_laid_32 ?_
      refine lv_iload_n hx hb dd_O_laid_33 rfl (lv_at hl 1 rfl) ?_
      obtain ⟨hi5, h⟩ := oi_out h
      refine va_iald hx hb hK hP (6 + (I 0 4).toNatClampNeg) 0 (at_A (isA_deck (vi_lt hi4))) rfl hi5 dd_O_laid_34 ?_
      cases h
    · have h := ip_out hc3 h
      exact L14  _ _ h _ (lv_sub hl [0, 1] rfl)
def ff_O_audit (n : Nat) (I : MI) (J : MJ)  : Option (Option Int32) := if (I 0 1) = (6 : Int32) then (some (some (I 0 8))) else (some none)
set_option maxHeartbeats 4000000 in
set_option maxRecDepth 100000 in
theorem mm_O_audit (l : Launch) (D : va_G) (kc : Nat → ClassId) (ad : Nat → Nat) (I : MI) (J : MJ) (n : Nat)  (r : Int32) (h : ff_O_audit n I J  = some (some r)) : Met l yy_O_audit (.code yy_O_audit cc_O_audit 1 (some .int) :: kw) { frames := 0, cells := 0, slots := 0, locals := 0 } (va_Pc [.ref (ad 0)] (BR D kc (wC kc ad I J))) (vp_Si (fun z => z = r)) 0 0 (fun _ => False) := by
  refine Met.ofW (cc := cc_O_audit) (maxL := 1) (ret := some .int) (by decide) rfl ?_
  intro p e s m args below meth c s₁ B hml hv
  obtain ⟨rfl, hP, hK⟩ := hv
  have hx := B.exec
  have hb := B.bytes
  have hr := B.returns
  have hlocks := B.notSynchronized
  have hk : ∀ w ∈ kw, w.before _ s = true := fun w hw => atoms_spec (ws := (.code yy_O_audit cc_O_audit 1 (some .int) :: kw)) B.pre w (List.mem_cons_of_mem _ hw)
  have hown : s.vm.findClass "OpenDeal" = some m.cls := findClass_of_methodNamed B.named
  have hl := lv_entry ([.ref (ad 0)]) (n := 1) (Nat.le_of_ble_eq_true rfl)
  rw [lg_entry_eq]
  generalize (lg_sl ([.ref (ad 0)]) ++ List.replicate (1 - (lg_sl ([.ref (ad 0)])).length) Slot.unset).toArray = ls at hl ⊢
  have hl : lv_has ls 1 [(0, .ref (ad 0))] := hl
  unfold ff_O_audit at h
  refine lv_aload_n hx hb dd_O_audit_0 rfl (lv_at hl 0 rfl) ?_
  refine va_get (D := D) (ci := 0) (v := .int (I 0 1)) (C := "OpenDeal") (T := T_O) (N := 11) hx hb hk in_O hown hK hP 0 at_O rfl 1 (by decide) (hk _ kw_106) (fun _ h9 => h9) rfl dd_O_audit_1 ?_
  refine lv_bipush (v := 6) hx hb dd_O_audit_4 (by decide) ?_
  refine lv_icmp_eq (tgt := 19) hx hb dd_O_audit_6 (by decide) (fun hc1 => ?_) (fun hc1 => ?_)
  · have h := ip_out hc1 h
    refine lv_aload_n hx hb dd_O_audit_19 rfl (lv_at hl 0 rfl) ?_
    refine va_get (D := D) (ci := 0) (v := .int (I 0 8)) (C := "OpenDeal") (T := T_O) (N := 11) hx hb hk in_O hown hK hP 0 at_O rfl 8 (by decide) (hk _ kw_113) (fun _ h9 => h9) rfl dd_O_audit_20 ?_
    obtain rfl := Option.some.inj (Option.some.inj h)
    exact W.iret hx hb hr (fun t ht hW => ⟨_, rfl, rfl, ht⟩) (fun q hq => by cases hq) dd_O_audit_23
  · have h := in_out hc1 h
    cases h
set_option maxHeartbeats 4000000 in
set_option maxRecDepth 100000 in
theorem mt_O_audit (l : Launch) (D : va_G) (kc : Nat → ClassId) (ad : Nat → Nat) (I : MI) (J : MJ) (n : Nat)  (q : Nat) (hfl : l.flags = pinnedFlags ++ [noTraceFlag]) (h : ff_O_audit n I J  = some none) : MetT l yy_O_audit (.code yy_O_audit cc_O_audit 1 (some .int) :: kw) { frames := 6, cells := 1, slots := 6, locals := 90 } (va_Pc [.ref (ad 0)] (fun U => BR D kc (wC kc ad I J) U ∧ TW 223 "java/lang/IllegalStateException" U ∧ vk_R "OpenDeal" 221 "not all secrets are shown" q U)) "java/lang/IllegalStateException" 1 6 := by
  refine MetT.ofW (cc := cc_O_audit) (maxL := 1) (ret := some .int) (by decide) rfl ?_
  intro p e s m args below meth c s₁ B hml hv
  obtain ⟨rfl, ⟨hP, hK⟩, hTW, hR9⟩ := hv
  have hx := B.exec
  have hb := B.bytes
  have hr := B.returns
  have hlocks := B.notSynchronized
  have hno := B.noHandlers (atoms_spec (ws := (.code yy_O_audit cc_O_audit 1 (some .int) :: kw)) B.pre _ List.mem_cons_self)
  have hk : ∀ w ∈ kw, w.before _ s = true := fun w hw => atoms_spec (ws := (.code yy_O_audit cc_O_audit 1 (some .int) :: kw)) B.pre w (List.mem_cons_of_mem _ hw)
  have hown : s.vm.findClass "OpenDeal" = some m.cls := findClass_of_methodNamed B.named
  have hl := lv_entry ([.ref (ad 0)]) (n := 1) (Nat.le_of_ble_eq_true rfl)
  rw [lg_entry_eq]
  generalize (lg_sl ([.ref (ad 0)]) ++ List.replicate (1 - (lg_sl ([.ref (ad 0)])).length) Slot.unset).toArray = ls at hl ⊢
  have hl : lv_has ls 1 [(0, .ref (ad 0))] := hl
  unfold ff_O_audit at h
  refine lv_aload_n hx hb dd_O_audit_0 rfl (lv_at hl 0 rfl) ?_
  refine va_get (D := D) (ci := 0) (v := .int (I 0 1)) (C := "OpenDeal") (T := T_O) (N := 11) hx hb hk in_O hown hK hP 0 at_O rfl 1 (by decide) (hk _ kw_106) (fun _ h9 => h9) rfl dd_O_audit_1 ?_
  refine lv_bipush (v := 6) hx hb dd_O_audit_4 (by decide) ?_
  refine lv_icmp_eq (tgt := 19) hx hb dd_O_audit_6 (by decide) (fun hc1 => ?_) (fun hc1 => ?_)
  · have h := ip_out hc1 h
    refine lv_aload_n hx hb dd_O_audit_19 rfl (lv_at hl 0 rfl) ?_
    refine va_get (D := D) (ci := 0) (v := .int (I 0 8)) (C := "OpenDeal") (T := T_O) (N := 11) hx hb hk in_O hown hK hP 0 at_O rfl 8 (by decide) (hk _ kw_113) (fun _ h9 => h9) rfl dd_O_audit_20 ?_
    cases h
  · have h := in_out hc1 h
    exact thr_end hx hb hml hfl hlocks hown hno (by decide +kernel) hTW hR9 (hk _ kw_515) (hk _ kw_516) (hk _ kw_13) hl.1 dd_O_audit_9 dd_O_audit_12 dd_O_audit_13 dd_O_audit_15 dd_O_audit_18 (Nat.le_refl _) (Nat.le_of_ble_eq_true rfl) (Nat.le_of_ble_eq_true rfl) (Nat.le_of_ble_eq_true rfl) (Nat.le_of_ble_eq_true rfl)
