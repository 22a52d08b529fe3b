/-! the class, laid by program -/
def ff_O_round (n : Nat) (I : MI) (J : MJ)  : Option (Int32 × MI × MJ) := if (I 0 1) = (4 : Int32) then (if (I 0 7) = (-1 : Int32) then ((ff_O_awaitAll n I J ).bind fun r3 => (ff_O_countAbleToAct n r3.1 r3.2 ).bind fun r4 => if r4 < (2 : Int32) then (some ((1 : Int32), r3.1, r3.2)) else ((ff_O_nextToAct n r3.1 r3.2 (-1 : Int32)).bind fun r6 => some ((1 : Int32), ui r3.1 0 7 r6, r3.2))) else (some ((0 : Int32), I, J))) else (some ((0 : Int32), I, J))
set_option maxHeartbeats 4000000 in
set_option maxRecDepth 100000 in
theorem mm_O_round (l : Launch) (D : va_G) (kc : Nat → ClassId) (ad : Nat → Nat) (I0 : MI) (J0 : MJ) (sz n : Nat)  (r : Int32 × MI × MJ) (h : ff_O_round n I0 J0  = some r) : Met l yy_O_round (.code yy_O_round cc_O_round 1 (some .boolean) :: kw) { frames := 2, cells := 0, slots := 0, locals := 44 } (va_Pc [.ref (ad 0)] (BW D kc (wC kc ad I0 J0) sz)) (va_Qi (fun z (_ : Unit) => z = r.1) (EW D kc (va_A (wC kc ad I0 J0) sz) (wC kc ad r.2.1 r.2.2)) (va_A (wC kc ad I0 J0) sz)) 0 0 (va_A (wC kc ad I0 J0) sz) := by
  refine Met.ofW (cc := cc_O_round) (maxL := 1) (ret := some .boolean) (by decide) rfl ?_
  intro p e s m args below meth c s₁ B hml hv
  obtain ⟨rfl, hsz, hP, hK, hD0⟩ := hv
  have hx := B.exec
  have hb := B.bytes
  have hr := B.returns
  have hlocks := B.notSynchronized
  have hk : ∀ w ∈ kw, w.before _ s = true := fun w hw => atoms_spec (ws := (.code yy_O_round cc_O_round 1 (some .boolean) :: kw)) B.pre w (List.mem_cons_of_mem _ hw)
  have hown : s.vm.findClass "OpenDeal" = some m.cls := findClass_of_methodNamed B.named
  subst hsz
  have hD := hD0.self (sz := s.heap.size)
  generalize hAe : va_A (wC kc ad I0 J0) s.heap.size = A at hD ⊢
  have hA : ∀ q : Nat, s.heap.size ≤ q → A q := fun q h => by rw [← hAe]; exact Or.inr h
  have hS : va_S A s.heap s.heap [] := va_S.rf
  have hP : va_P D cls5 (wC kc ad I0 J0) s.heap := hP
  clear hAe hD0
  have hl := lv_entry ([.ref (ad 0)]) (n := 1) (Nat.le_of_ble_eq_true rfl)
  rw [lg_entry_eq]
  generalize (lg_sl ([.ref (ad 0)]) ++ List.replicate (1 - (lg_sl ([.ref (ad 0)])).length) Slot.unset).toArray = ls at hl ⊢
  have hl : lv_has ls 1 [(0, .ref (ad 0))] := hl
  unfold ff_O_round at h
  refine lv_aload_n hx hb dd_O_round_0 rfl (lv_at hl 0 rfl) ?_
  refine va_get (D := D) (ci := 0) (v := .int (I0 0 1)) (C := "OpenDeal") (T := T_O) (N := 11) hx hb hk in_O hown hK hP 0 at_O rfl 1 (by decide) (hk _ kw_106) (fun _ h9 => h9) rfl dd_O_round_1 ?_
  refine lv_iconst (v := 4) hx hb dd_O_round_4 (by decide) ?_
  refine lv_icmp_ne (tgt := 16) hx hb dd_O_round_5 (by decide) (fun hc1 => ?_) (fun hc1 => ?_)
  · have h := in_out hc1 h
    refine lv_iconst (v := 0) hx hb dd_O_round_16 (by decide) ?_
    obtain rfl := Option.some.inj h
    exact W.zret hx hb hr rfl (fun t ht hW => ⟨⟨_, (), rfl, rfl, by rw [ht]; exact hP, va_K.moved hW.alike hK, hD⟩, hS.F ht⟩) hS.2.2 dd_O_round_17
  · have h := ip_out hc1 h
    refine lv_aload_n hx hb dd_O_round_8 rfl (lv_at hl 0 rfl) ?_
    refine va_get (D := D) (ci := 0) (v := .int (I0 0 7)) (C := "OpenDeal") (T := T_O) (N := 11) hx hb hk in_O hown hK hP 0 at_O rfl 7 (by decide) (hk _ kw_112) (fun _ h9 => h9) rfl dd_O_round_9 ?_
    refine lv_iconst (v := -1) hx hb dd_O_round_12 (by decide) ?_
    refine lv_icmp_eq (tgt := 18) hx hb dd_O_round_13 (by decide) (fun hc2 => ?_) (fun hc2 => ?_)
    · have h := ip_out hc2 h
      refine lv_aload_n hx hb dd_O_round_18 rfl (lv_at hl 0 rfl) ?_
      obtain ⟨r3, hr3, h⟩ := ob_out h
      refine cw_Vv (n := 0) (As := []) (mc := 0) (ms := 0) hx hb hml hown hk (mm_O_awaitAll l D kc ad _ _ _ _  _ hr3) hK hP hD hS hA 0 at_O rfl rfl kw_309 kw_311 sel_O_awaitAll kw_1 kw_312 ⟨rfl, rfl⟩ (by decide +kernel) ⟨Nat.le_of_ble_eq_true rfl, Nat.le_of_ble_eq_true rfl⟩ rfl hl.1 rfl (Nat.le_of_ble_eq_true rfl) dd_O_round_19 ⟨Nat.le_of_ble_eq_true rfl, Nat.le_of_ble_eq_true rfl⟩ (fun H locs hP hD hS => ?_)
      refine lv_aload_n hx hb dd_O_round_22 rfl (lv_at hl 0 rfl) ?_
      obtain ⟨r4, hr4, h⟩ := ob_out h
      refine cr_Vi (n := 0) (As := []) hx hb hml hown hk (mm_O_countAbleToAct l D kc ad _ _ _  _ hr4) hK hP 0 at_O rfl rfl kw_313 kw_315 sel_O_countAbleToAct kw_1 kw_316 ⟨rfl, rfl⟩ (by decide +kernel) ⟨Nat.le_of_ble_eq_true rfl, Nat.le_of_ble_eq_true rfl⟩ rfl hl.1 rfl (Nat.le_of_ble_eq_true rfl) dd_O_round_23 ⟨Nat.le_of_ble_eq_true rfl, Nat.le_of_ble_eq_true rfl⟩ ?_
      refine lv_iconst (v := 2) hx hb dd_O_round_26 (by decide) ?_
      refine lv_icmp_lt (tgt := 39) hx hb dd_O_round_27 (by decide) (fun hc5 => ?_) (fun hc5 => ?_)
      · have h := ip_out hc5 h
        refine lv_iconst (v := 1) hx hb dd_O_round_39 (by decide) ?_
        obtain rfl := Option.some.inj h
        exact W.zret hx hb hr rfl (fun t ht hW => ⟨⟨_, (), rfl, rfl, by rw [ht]; exact hP, va_K.moved hW.alike hK, hD⟩, hS.F ht⟩) hS.2.2 dd_O_round_40
      · have h := in_out hc5 h
        refine lv_aload_n hx hb dd_O_round_30 rfl (lv_at hl 0 rfl) ?_
        refine lv_aload_n hx hb dd_O_round_31 rfl (lv_at hl 0 rfl) ?_
        refine lv_iconst (v := -1) hx hb dd_O_round_32 (by decide) ?_
        obtain ⟨r6, hr6, h⟩ := ob_out h
        refine cr_Vi (n := 1) (As := [.int (-1 : Int32)]) hx hb hml hown hk (mm_O_nextToAct l D kc ad _ _ _ _ _ hr6) hK hP 0 at_O rfl rfl kw_321 kw_323 sel_O_nextToAct kw_1 kw_324 ⟨rfl, rfl⟩ (by decide +kernel) ⟨Nat.le_of_ble_eq_true rfl, Nat.le_of_ble_eq_true rfl⟩ rfl hl.1 rfl (Nat.le_of_ble_eq_true rfl) dd_O_round_33 ⟨Nat.le_of_ble_eq_true rfl, Nat.le_of_ble_eq_true rfl⟩ ?_
        refine va_put (D := D) (ci := 0) (v := .int r6) (ty := .int) (C := "OpenDeal") (T := T_O) (N := 11) hx hb hk in_O ty_O tk_O nm_O hown hK hP hD hS 0 at_O rfl 7 (by decide) (hk _ kw_112) (fun _ h9 => h9) rfl (by decide +kernel) rfl rfl (Nat.le_of_ble_eq_true rfl) dd_O_round_36 (fun H locs hP hD hS => ?_)
        rw [pt_O7] at hP hD
        refine lv_iconst (v := 1) hx hb dd_O_round_39 (by decide) ?_
        obtain rfl := Option.some.inj h
        exact W.zret hx hb hr rfl (fun t ht hW => ⟨⟨_, (), rfl, rfl, by rw [ht]; exact hP, va_K.moved hW.alike hK, hD⟩, hS.F ht⟩) hS.2.2 dd_O_round_40
    · have h := in_out hc2 h
      refine lv_iconst (v := 0) hx hb dd_O_round_16 (by decide) ?_
      obtain rfl := Option.some.inj h
      exact W.zret hx hb hr rfl (fun t ht hW => ⟨⟨_, (), rfl, rfl, by rw [ht]; exact hP, va_K.moved hW.alike hK, hD⟩, hS.F ht⟩) hS.2.2 dd_O_round_17
def ff_O_mostInRound_4 (I : MI) (J : MJ)  : Nat → Int32 → Int32 → Option (Int32)
  | 0, _, _ => none
  | n + 1, v1, v2 => if (I 0 2) ≤ v2 then (some v1) else (if ¬ (v2 < 0 ∨ 4 ≤ (v2).toNatClampNeg) then tl (if v1 < (I (15 + 6 * (v2).toNatClampNeg) 2) then I (15 + 6 * (v2).toNatClampNeg) 2 else v1) fun y3 => ff_O_mostInRound_4 I J n y3 (v2 + (1 : Int32)) else none)
def ff_O_mostInRound (n : Nat) (I : MI) (J : MJ)  : Option (Int32) := ff_O_mostInRound_4 I J n (0 : Int32) (0 : Int32)
set_option maxHeartbeats 4000000 in
set_option maxRecDepth 100000 in
theorem mm_O_mostInRound (l : Launch) (D : va_G) (kc : Nat → ClassId) (ad : Nat → Nat) (I : MI) (J : MJ) (n : Nat)  (r : Int32) (h : ff_O_mostInRound n I J  = some r) : Met l yy_O_mostInRound (.code yy_O_mostInRound cc_O_mostInRound 3 (some .int) :: kw) { frames := 1, cells := 0, slots := 0, locals := 21 } (va_Pc [.ref (ad 0)] (BR D kc (wC kc ad I J))) (vp_Si (fun z => z = r)) 0 0 (fun _ => False) := by
  refine Met.ofW (cc := cc_O_mostInRound) (maxL := 3) (ret := some .int) (by decide) rfl ?_
  intro p e s m args below meth c s₁ B hml hv
  obtain ⟨rfl, hP, hK⟩ := hv
  have hx := B.exec
  have hb := B.bytes
  have hr := B.returns
  have hlocks := B.notSynchronized
  have hk : ∀ w ∈ kw, w.before _ s = true := fun w hw => atoms_spec (ws := (.code yy_O_mostInRound cc_O_mostInRound 3 (some .int) :: kw)) B.pre w (List.mem_cons_of_mem _ hw)
  have hown : s.vm.findClass "OpenDeal" = some m.cls := findClass_of_methodNamed B.named
  have L4 : ∀  (n : Nat) (v1 : Int32) (v2 : Int32), ff_O_mostInRound_4 I J n v1 v2 = some r → ∀ ls, lv_has ls 3 [(0, .ref (ad 0)), (1, .int v1), (2, .int v2)] → W p l e (headSpec (.code yy_O_mostInRound cc_O_mostInRound 3 (some .int) :: kw) { frames := 1, cells := 0, slots := 0, locals := 21 }).room s m ([.ref (ad 0)] : List Value).toArray below meth c s.heap [] 0 0 (MQ below (vp_Si (fun z => z = r)) ([.ref (ad 0)] : List Value).toArray s 0 0 (fun _ => False)) (F0 m 4 ls []) := by
    intro  n
    induction n with
    | zero => intro v1 v2 h; exact absurd h (by simp [ff_O_mostInRound_4])
    | succ n ih =>
      intro v1 v2 h ls hl
      rw [ff_O_mostInRound_4] at h
      refine lv_iload_n hx hb dd_O_mostInRound_4 rfl (lv_at hl 2 rfl) ?_
      refine lv_aload_n hx hb dd_O_mostInRound_5 rfl (lv_at hl 0 rfl) ?_
      refine va_get (D := D) (ci := 0) (v := .int (I 0 2)) (C := "OpenDeal") (T := T_O) (N := 11) hx hb hk in_O hown hK hP 0 at_O rfl 2 (by decide) (hk _ kw_107) (fun _ h9 => h9) rfl dd_O_mostInRound_6 ?_
      refine lv_icmp_ge (tgt := 32) hx hb dd_O_mostInRound_9 (by decide) (fun hc1 => ?_) (fun hc1 => ?_)
      · have h := ip_out hc1 h
        refine lv_iload_n hx hb dd_O_mostInRound_32 rfl (lv_at hl 1 rfl) ?_
        obtain rfl := Option.some.inj h
        exact W.iret hx hb hr (fun t ht hW => ⟨_, rfl, rfl, ht⟩) (fun q hq => by cases hq) dd_O_mostInRound_33
      · have h := in_out hc1 h
        refine lv_iload_n hx hb dd_O_mostInRound_12 rfl (lv_at hl 1 rfl) ?_
        refine lv_aload_n hx hb dd_O_mostInRound_13 rfl (lv_at hl 0 rfl) ?_
        refine va_get (D := D) (ci := 0) (v := .ref (ad 1)) (C := "OpenDeal") (T := T_O) (N := 11) hx hb hk in_O hown hK hP 0 at_O rfl 3 (by decide) (hk _ kw_108) (fun _ h9 => h9) rfl dd_O_mostInRound_14 ?_
        refine lv_iload_n hx hb dd_O_mostInRound_17 rfl (lv_at hl 2 rfl) ?_
        obtain ⟨hi2, h⟩ := oi_out h
        refine ap_ald (b := ad (15 + 6 * (v2).toNatClampNeg)) hx hb hK hP 1 3 at_pl rfl hi2 (if_pos (vi_lt hi2)) dd_O_mostInRound_18 ?_
        refine va_get (D := D) (ci := 1) (v := .int (I (15 + 6 * (v2).toNatClampNeg) 2)) (C := "OpenDeal$Player") (T := T_P) (N := 13) hx hb hk in_P hown hK hP (15 + 6 * (v2).toNatClampNeg) (at_P (isP_of (vi_lt hi2))) rfl 2 (by decide) (hk _ kw_55) (fun _ h9 => h9) rfl dd_O_mostInRound_19 ?_
        refine va_mmax hx hb (hml.trans hl.1.symm) hown (hk _ kw_333) (hk _ kw_334) (hk _ kw_12) (hk _ kw_335) (Nat.le_of_ble_eq_true rfl) (Nat.le_of_ble_eq_true rfl) (Nat.le_of_ble_eq_true rfl) (Nat.le_of_ble_eq_true rfl) dd_O_mostInRound_22 ?_
        refine lv_topi (fun y3 ey3 => ?_)
        have h := tl_at ey3 h
        refine lv_istore_n (lv' := [(1, .int y3), (0, .ref (ad 0)), (2, .int v2)]) hx hb dd_O_mostInRound_25 rfl hl (by decide) rfl (fun ls hl => ?_)
        refine lv_iinc (v := v2 + (1 : Int32)) (lv' := [(2, .int (v2 + (1 : Int32))), (1, .int y3), (0, .ref (ad 0))]) hx hb dd_O_mostInRound_26 hl (k := 2) rfl rfl (by decide) rfl (fun ls hl => ?_)
        refine lv_goto (tgt := 4) hx hb dd_O_mostInRound_29 (by decide) ?_
        exact ih _ _ h _ (lv_sub hl [2, 1, 0] rfl)
  have hl := lv_entry ([.ref (ad 0)]) (n := 3) (Nat.le_of_ble_eq_true rfl)
  rw [lg_entry_eq]
  generalize (lg_sl ([.ref (ad 0)]) ++ List.replicate (3 - (lg_sl ([.ref (ad 0)])).length) Slot.unset).toArray = ls at hl ⊢
  have hl : lv_has ls 3 [(0, .ref (ad 0))] := hl
  unfold ff_O_mostInRound at h
  refine lv_iconst (v := 0) hx hb dd_O_mostInRound_0 (by decide) ?_
  refine lv_istore_n (lv' := [(1, .int (0 : Int32)), (0, .ref (ad 0))]) hx hb dd_O_mostInRound_1 rfl hl (by decide) rfl (fun ls hl => ?_)
  refine lv_iconst (v := 0) hx hb dd_O_mostInRound_2 (by decide) ?_
  refine lv_istore_n (lv' := [(2, .int (0 : Int32)), (1, .int (0 : Int32)), (0, .ref (ad 0))]) hx hb dd_O_mostInRound_3 rfl hl (by decide) rfl (fun ls hl => ?_)
  exact L4  _ _ _ h _ (lv_sub hl [2, 1, 0] rfl)
def ff_P_putIn (n : Nat) (I : MI) (J : MJ) (a0 : Nat) (a1 : Int32) : Option (MI × MJ) := some (ui (ui (ui I a0 0 ((I a0 0) - a1)) a0 2 (((ui I a0 0 ((I a0 0) - a1)) a0 2) + a1)) a0 1 (((ui (ui I a0 0 ((I a0 0) - a1)) a0 2 (((ui I a0 0 ((I a0 0) - a1)) a0 2) + a1)) a0 1) + a1), J)
set_option maxHeartbeats 4000000 in
set_option maxRecDepth 100000 in
theorem mm_P_putIn (l : Launch) (D : va_G) (kc : Nat → ClassId) (ad : Nat → Nat) (I0 : MI) (J0 : MJ) (sz n : Nat) (a0 : Nat) (ha0 : isP a0) (a1 : Int32) (r : MI × MJ) (h : ff_P_putIn n I0 J0 a0 a1 = some r) : Met l yy_P_putIn (.code yy_P_putIn cc_P_putIn 2 (none) :: kw) { frames := 0, cells := 0, slots := 0, locals := 0 } (va_Pc [.ref (ad a0), .int a1] (BW D kc (wC kc ad I0 J0) sz)) (va_Qv (fun (_ : Unit) => True) (EW D kc (va_A (wC kc ad I0 J0) sz) (wC kc ad r.1 r.2)) (va_A (wC kc ad I0 J0) sz)) 0 0 (va_A (wC kc ad I0 J0) sz) := by
  refine Met.ofW (cc := cc_P_putIn) (maxL := 2) (ret := none) (by decide) rfl ?_
  intro p e s m args below meth c s₁ B hml hv
  obtain ⟨rfl, hsz, hP, hK, hD0⟩ := hv
  have hx := B.exec
  have hb := B.bytes
  have hr := B.returns
  have hlocks := B.notSynchronized
  have hk : ∀ w ∈ kw, w.before _ s = true := fun w hw => atoms_spec (ws := (.code yy_P_putIn cc_P_putIn 2 (none) :: kw)) B.pre w (List.mem_cons_of_mem _ hw)
  have hown : s.vm.findClass "OpenDeal$Player" = some m.cls := findClass_of_methodNamed B.named
  subst hsz
  have hD := hD0.self (sz := s.heap.size)
  generalize hAe : va_A (wC kc ad I0 J0) s.heap.size = A at hD ⊢
  have hA : ∀ q : Nat, s.heap.size ≤ q → A q := fun q h => by rw [← hAe]; exact Or.inr h
  have hS : va_S A s.heap s.heap [] := va_S.rf
  have hP : va_P D cls5 (wC kc ad I0 J0) s.heap := hP
  clear hAe hD0
  have hl := lv_entry ([.ref (ad a0), .int a1]) (n := 2) (Nat.le_of_ble_eq_true rfl)
  rw [lg_entry_eq]
  generalize (lg_sl ([.ref (ad a0), .int a1]) ++ List.replicate (2 - (lg_sl ([.ref (ad a0), .int a1])).length) Slot.unset).toArray = ls at hl ⊢
  have hl : lv_has ls 2 [(0, .ref (ad a0)), (1, .int a1)] := hl
  unfold ff_P_putIn at h
  refine lv_aload_n hx hb dd_P_putIn_0 rfl (lv_at hl 0 rfl) ?_
  refine lv_dup hx hb dd_P_putIn_1 rfl ?_
  refine va_get (D := D) (ci := 1) (v := .int (I0 a0 0)) (C := "OpenDeal$Player") (T := T_P) (N := 13) hx hb hk in_P hown hK hP a0 (at_P ha0) rfl 0 (by decide) (hk _ kw_50) (fun _ h9 => h9) rfl dd_P_putIn_2 ?_
  refine lv_iload_n hx hb dd_P_putIn_5 rfl (lv_at hl 1 rfl) ?_
  refine lv_isub hx hb dd_P_putIn_6 ?_
  refine va_put (D := D) (ci := 1) (v := .int ((I0 a0 0) - a1)) (ty := .int) (C := "OpenDeal$Player") (T := T_P) (N := 13) hx hb hk in_P ty_P tk_P nm_P hown hK hP hD hS a0 (at_P ha0) rfl 0 (by decide) (hk _ kw_50) (fun _ h9 => h9) rfl (by decide +kernel) rfl rfl (Nat.le_of_ble_eq_true rfl) dd_P_putIn_7 (fun H locs hP hD hS => ?_)
  rw [pt_P0 ha0] at hP hD
  refine lv_aload_n hx hb dd_P_putIn_10 rfl (lv_at hl 0 rfl) ?_
  refine lv_dup hx hb dd_P_putIn_11 rfl ?_
  refine va_get (D := D) (ci := 1) (v := .int ((ui I0 a0 0 ((I0 a0 0) - a1)) a0 2)) (C := "OpenDeal$Player") (T := T_P) (N := 13) hx hb hk in_P hown hK hP a0 (at_P ha0) rfl 2 (by decide) (hk _ kw_54) (fun _ h9 => h9) rfl dd_P_putIn_12 ?_
  refine lv_iload_n hx hb dd_P_putIn_15 rfl (lv_at hl 1 rfl) ?_
  refine lv_iadd hx hb dd_P_putIn_16 ?_
  refine va_put (D := D) (ci := 1) (v := .int (((ui I0 a0 0 ((I0 a0 0) - a1)) a0 2) + a1)) (ty := .int) (C := "OpenDeal$Player") (T := T_P) (N := 13) hx hb hk in_P ty_P tk_P nm_P hown hK hP hD hS a0 (at_P ha0) rfl 2 (by decide) (hk _ kw_54) (fun _ h9 => h9) rfl (by decide +kernel) rfl rfl (Nat.le_of_ble_eq_true rfl) dd_P_putIn_17 (fun H locs hP hD hS => ?_)
  rw [pt_P2 ha0] at hP hD
  refine lv_aload_n hx hb dd_P_putIn_20 rfl (lv_at hl 0 rfl) ?_
  refine lv_dup hx hb dd_P_putIn_21 rfl ?_
  refine va_get (D := D) (ci := 1) (v := .int ((ui (ui I0 a0 0 ((I0 a0 0) - a1)) a0 2 (((ui I0 a0 0 ((I0 a0 0) - a1)) a0 2) + a1)) a0 1)) (C := "OpenDeal$Player") (T := T_P) (N := 13) hx hb hk in_P hown hK hP a0 (at_P ha0) rfl 1 (by decide) (hk _ kw_52) (fun _ h9 => h9) rfl dd_P_putIn_22 ?_
  refine lv_iload_n hx hb dd_P_putIn_25 rfl (lv_at hl 1 rfl) ?_
  refine lv_iadd hx hb dd_P_putIn_26 ?_
  refine va_put (D := D) (ci := 1) (v := .int (((ui (ui I0 a0 0 ((I0 a0 0) - a1)) a0 2 (((ui I0 a0 0 ((I0 a0 0) - a1)) a0 2) + a1)) a0 1) + a1)) (ty := .int) (C := "OpenDeal$Player") (T := T_P) (N := 13) hx hb hk in_P ty_P tk_P nm_P hown hK hP hD hS a0 (at_P ha0) rfl 1 (by decide) (hk _ kw_52) (fun _ h9 => h9) rfl (by decide +kernel) rfl rfl (Nat.le_of_ble_eq_true rfl) dd_P_putIn_27 (fun H locs hP hD hS => ?_)
  rw [pt_P1 ha0] at hP hD
  obtain rfl := Option.some.inj h
  exact W.vret hx hb hr (fun t ht hW => ⟨⟨(), rfl, trivial, by rw [ht]; exact hP, va_K.moved hW.alike hK, hD⟩, hS.F ht⟩) hS.2.2 dd_P_putIn_30
def ff_O_countIn_4 (I : MI) (J : MJ)  : Nat → Int32 → Int32 → Option (Int32)
  | 0, _, _ => none
  | n + 1, v1, v2 => if (I 0 2) ≤ v2 then (some v1) else (if ¬ (v2 < 0 ∨ 4 ≤ (v2).toNatClampNeg) then if (I (15 + 6 * (v2).toNatClampNeg) 3) = 0 then (ff_O_countIn_4 I J n (v1 + (1 : Int32)) (v2 + (1 : Int32))) else (ff_O_countIn_4 I J n v1 (v2 + (1 : Int32))) else none)
def ff_O_countIn (n : Nat) (I : MI) (J : MJ)  : Option (Int32) := ff_O_countIn_4 I J n (0 : Int32) (0 : Int32)
set_option maxHeartbeats 4000000 in
set_option maxRecDepth 100000 in
theorem mm_O_countIn (l : Launch) (D : va_G) (kc : Nat → ClassId) (ad : Nat → Nat) (I : MI) (J : MJ) (n : Nat)  (r : Int32) (h : ff_O_countIn n I J  = some r) : Met l yy_O_countIn (.code yy_O_countIn cc_O_countIn 3 (some .int) :: kw) { frames := 0, cells := 0, slots := 0, locals := 0 } (va_Pc [.ref (ad 0)] (BR D kc (wC kc ad I J))) (vp_Si (fun z => z = r)) 0 0 (fun _ => False) := by
  refine Met.ofW (cc := cc_O_countIn) (maxL := 3) (ret := some .int) (by decide) rfl ?_
  intro p e s m args below meth c s₁ B hml hv
  obtain ⟨rfl, hP, hK⟩ := hv
  have hx := B.exec
  have hb := B.bytes
  have hr := B.returns
  have hlocks := B.notSynchronized
  have hk : ∀ w ∈ kw, w.before _ s = true := fun w hw => atoms_spec (ws := (.code yy_O_countIn cc_O_countIn 3 (some .int) :: kw)) B.pre w (List.mem_cons_of_mem _ hw)
  have hown : s.vm.findClass "OpenDeal" = some m.cls := findClass_of_methodNamed B.named
  have L4 : ∀  (n : Nat) (v1 : Int32) (v2 : Int32), ff_O_countIn_4 I J n v1 v2 = some r → ∀ ls, lv_has ls 3 [(0, .ref (ad 0)), (1, .int v1), (2, .int v2)] → W p l e (headSpec (.code yy_O_countIn cc_O_countIn 3 (some .int) :: kw) { frames := 0, cells := 0, slots := 0, locals := 0 }).room s m ([.ref (ad 0)] : List Value).toArray below meth c s.heap [] 0 0 (MQ below (vp_Si (fun z => z = r)) ([.ref (ad 0)] : List Value).toArray s 0 0 (fun _ => False)) (F0 m 4 ls []) := by
    intro  n
    induction n with
    | zero => intro v1 v2 h; exact absurd h (by simp [ff_O_countIn_4])
    | succ n ih =>
      intro v1 v2 h ls hl
      rw [ff_O_countIn_4] at h
      refine lv_iload_n hx hb dd_O_countIn_4 rfl (lv_at hl 2 rfl) ?_
      refine lv_aload_n hx hb dd_O_countIn_5 rfl (lv_at hl 0 rfl) ?_
      refine va_get (D := D) (ci := 0) (v := .int (I 0 2)) (C := "OpenDeal") (T := T_O) (N := 11) hx hb hk in_O hown hK hP 0 at_O rfl 2 (by decide) (hk _ kw_107) (fun _ h9 => h9) rfl dd_O_countIn_6 ?_
      refine lv_icmp_ge (tgt := 33) hx hb dd_O_countIn_9 (by decide) (fun hc1 => ?_) (fun hc1 => ?_)
      · have h := ip_out hc1 h
        refine lv_iload_n hx hb dd_O_countIn_33 rfl (lv_at hl 1 rfl) ?_
        obtain rfl := Option.some.inj h
        exact W.iret hx hb hr (fun t ht hW => ⟨_, rfl, rfl, ht⟩) (fun q hq => by cases hq) dd_O_countIn_34
      · have h := in_out hc1 h
        refine lv_aload_n hx hb dd_O_countIn_12 rfl (lv_at hl 0 rfl) ?_
        refine va_get (D := D) (ci := 0) (v := .ref (ad 1)) (C := "OpenDeal") (T := T_O) (N := 11) hx hb hk in_O hown hK hP 0 at_O rfl 3 (by decide) (hk _ kw_108) (fun _ h9 => h9) rfl dd_O_countIn_13 ?_
        refine lv_iload_n hx hb dd_O_countIn_16 rfl (lv_at hl 2 rfl) ?_
        obtain ⟨hi2, h⟩ := oi_out h
        refine ap_ald (b := ad (15 + 6 * (v2).toNatClampNeg)) hx hb hK hP 1 3 at_pl rfl hi2 (if_pos (vi_lt hi2)) dd_O_countIn_17 ?_
        refine va_get (D := D) (ci := 1) (v := .int (I (15 + 6 * (v2).toNatClampNeg) 3)) (C := "OpenDeal$Player") (T := T_P) (N := 13) hx hb hk in_P hown hK hP (15 + 6 * (v2).toNatClampNeg) (at_P (isP_of (vi_lt hi2))) rfl 3 (by decide) (hk _ kw_57) (fun _ h9 => h9) rfl dd_O_countIn_18 ?_
        refine lv_if_ne (tgt := 27) hx hb dd_O_countIn_21 (by decide) (fun hc3 => ?_) (fun hc3 => ?_)
        · have h := in_out hc3 h
          refine lv_iinc (v := v2 + (1 : Int32)) (lv' := [(2, .int (v2 + (1 : Int32))), (0, .ref (ad 0)), (1, .int v1)]) hx hb dd_O_countIn_27 hl (k := 2) rfl rfl (by decide) rfl (fun ls hl => ?_)
          refine lv_goto (tgt := 4) hx hb dd_O_countIn_30 (by decide) ?_
          exact ih _ _ h _ (lv_sub hl [1, 2, 0] rfl)
        · have h := ip_out hc3 h
          refine lv_iinc (v := v1 + (1 : Int32)) (lv' := [(1, .int (v1 + (1 : Int32))), (0, .ref (ad 0)), (2, .int v2)]) hx hb dd_O_countIn_24 hl (k := 1) rfl rfl (by decide) rfl (fun ls hl => ?_)
          refine lv_iinc (v := v2 + (1 : Int32)) (lv' := [(2, .int (v2 + (1 : Int32))), (1, .int (v1 + (1 : Int32))), (0, .ref (ad 0))]) hx hb dd_O_countIn_27 hl (k := 2) rfl rfl (by decide) rfl (fun ls hl => ?_)
          refine lv_goto (tgt := 4) hx hb dd_O_countIn_30 (by decide) ?_
          exact ih _ _ h _ (lv_sub hl [2, 1, 0] rfl)
  have hl := lv_entry ([.ref (ad 0)]) (n := 3) (Nat.le_of_ble_eq_true rfl)
  rw [lg_entry_eq]
  generalize (lg_sl ([.ref (ad 0)]) ++ List.replicate (3 - (lg_sl ([.ref (ad 0)])).length) Slot.unset).toArray = ls at hl ⊢
  have hl : lv_has ls 3 [(0, .ref (ad 0))] := hl
  unfold ff_O_countIn at h
  refine lv_iconst (v := 0) hx hb dd_O_countIn_0 (by decide) ?_
  refine lv_istore_n (lv' := [(1, .int (0 : Int32)), (0, .ref (ad 0))]) hx hb dd_O_countIn_1 rfl hl (by decide) rfl (fun ls hl => ?_)
  refine lv_iconst (v := 0) hx hb dd_O_countIn_2 (by decide) ?_
  refine lv_istore_n (lv' := [(2, .int (0 : Int32)), (1, .int (0 : Int32)), (0, .ref (ad 0))]) hx hb dd_O_countIn_3 rfl hl (by decide) rfl (fun ls hl => ?_)
  exact L4  _ _ _ h _ (lv_sub hl [2, 1, 0] rfl)
def ff_O_goOnWithRound_35  : Nat → MI → MJ → Int32 → Option (MI × MJ)
  | 0, _, _, _ => none
  | n + 1, I, J, v1 => if (I 0 2) ≤ v1 then (some (I, J)) else (if ¬ (v1 < 0 ∨ 4 ≤ (v1).toNatClampNeg) then ff_O_goOnWithRound_35 n (ui I (15 + 6 * (v1).toNatClampNeg) 2 (0 : Int32)) J (v1 + (1 : Int32)) else none)
def ff_O_goOnWithRound_21  (n : Nat) (I : MI) (J : MJ) (s1 : Int32) : Option (MI × MJ) := if ((ui I 0 7 s1) 0 7) = (-1 : Int32) then (ff_O_goOnWithRound_35 n (ui I 0 7 s1) J (0 : Int32)) else (some (ui I 0 7 s1, J))
def ff_O_goOnWithRound (n : Nat) (I : MI) (J : MJ)  : Option (MI × MJ) := (ff_O_countIn n I J ).bind fun r4 => if (2 : Int32) ≤ r4 then ((ff_O_nextToAct n I J (I 0 7)).bind fun r6 => ff_O_goOnWithRound_21 n I J r6) else (ff_O_goOnWithRound_21 n I J (-1 : Int32))
set_option maxHeartbeats 4000000 in
set_option maxRecDepth 100000 in
theorem mm_O_goOnWithRound (l : Launch) (D : va_G) (kc : Nat → ClassId) (ad : Nat → Nat) (I0 : MI) (J0 : MJ) (sz n : Nat)  (r : MI × MJ) (h : ff_O_goOnWithRound n I0 J0  = some r) : Met l yy_O_goOnWithRound (.code yy_O_goOnWithRound cc_O_goOnWithRound 2 (none) :: kw) { frames := 2, cells := 0, slots := 0, locals := 44 } (va_Pc [.ref (ad 0)] (BW D kc (wC kc ad I0 J0) sz)) (va_Qv (fun (_ : Unit) => True) (EW D kc (va_A (wC kc ad I0 J0) sz) (wC kc ad r.1 r.2)) (va_A (wC kc ad I0 J0) sz)) 0 0 (va_A (wC kc ad I0 J0) sz) := by
  refine Met.ofW (cc := cc_O_goOnWithRound) (maxL := 2) (ret := none) (by decide) rfl ?_
  intro p e s m args below meth c s₁ B hml hv
  obtain ⟨rfl, hsz, hP, hK, hD0⟩ := hv
  have hx := B.exec
  have hb := B.bytes
  have hr := B.returns
  have hlocks := B.notSynchronized
  have hk : ∀ w ∈ kw, w.before _ s = true := fun w hw => atoms_spec (ws := (.code yy_O_goOnWithRound cc_O_goOnWithRound 2 (none) :: kw)) B.pre w (List.mem_cons_of_mem _ hw)
  have hown : s.vm.findClass "OpenDeal" = some m.cls := findClass_of_methodNamed B.named
  subst hsz
  have hD := hD0.self (sz := s.heap.size)
  generalize hAe : va_A (wC kc ad I0 J0) s.heap.size = A at hD ⊢
  have hA : ∀ q : Nat, s.heap.size ≤ q → A q := fun q h => by rw [← hAe]; exact Or.inr h
  have hS : va_S A s.heap s.heap [] := va_S.rf
  have hP : va_P D cls5 (wC kc ad I0 J0) s.heap := hP
  clear hAe hD0
  have L35 : ∀  (n : Nat) (I : MI) (J : MJ) (v1 : Int32), ff_O_goOnWithRound_35 n I J v1 = some r → ∀ (H : Heap) (locs : List Loc), va_P D cls5 (wC kc ad I J) H → va_D A (wC kc ad I J) → va_S A s.heap H locs → ∀ ls, lv_has ls 2 [(0, .ref (ad 0)), (1, .int v1)] → W p l e (headSpec (.code yy_O_goOnWithRound cc_O_goOnWithRound 2 (none) :: kw) { frames := 2, cells := 0, slots := 0, locals := 44 }).room s m ([.ref (ad 0)] : List Value).toArray below meth c H locs 0 0 (MQ below (va_Qv (fun (_ : Unit) => True) (EW D kc A (wC kc ad r.1 r.2)) A) ([.ref (ad 0)] : List Value).toArray s 0 0 A) (F0 m 35 ls []) := by
    intro  n
    induction n with
    | zero => intro I J v1 h; exact absurd h (by simp [ff_O_goOnWithRound_35])
    | succ n ih =>
      intro I J v1 h H locs hP hD hS ls hl
      rw [ff_O_goOnWithRound_35] at h
      refine lv_iload_n hx hb dd_O_goOnWithRound_35 rfl (lv_at hl 1 rfl) ?_
      refine lv_aload_n hx hb dd_O_goOnWithRound_36 rfl (lv_at hl 0 rfl) ?_
      refine va_get (D := D) (ci := 0) (v := .int (I 0 2)) (C := "OpenDeal") (T := T_O) (N := 11) hx hb hk in_O hown hK hP 0 at_O rfl 2 (by decide) (hk _ kw_107) (fun _ h9 => h9) rfl dd_O_goOnWithRound_37 ?_
      refine lv_icmp_ge (tgt := 59) hx hb dd_O_goOnWithRound_40 (by decide) (fun hc1 => ?_) (fun hc1 => ?_)
      · have h := ip_out hc1 h
        obtain rfl := Option.some.inj h
        exact W.vret hx hb hr (fun t ht hW => ⟨⟨(), rfl, trivial, by rw [ht]; exact hP, va_K.moved hW.alike hK, hD⟩, hS.F ht⟩) hS.2.2 dd_O_goOnWithRound_59
      · have h := in_out hc1 h
        refine lv_aload_n hx hb dd_O_goOnWithRound_43 rfl (lv_at hl 0 rfl) ?_
        refine va_get (D := D) (ci := 0) (v := .ref (ad 1)) (C := "OpenDeal") (T := T_O) (N := 11) hx hb hk in_O hown hK hP 0 at_O rfl 3 (by decide) (hk _ kw_108) (fun _ h9 => h9) rfl dd_O_goOnWithRound_44 ?_
        refine lv_iload_n hx hb dd_O_goOnWithRound_47 rfl (lv_at hl 1 rfl) ?_
        obtain ⟨hi2, h⟩ := oi_out h
        refine ap_ald (b := ad (15 + 6 * (v1).toNatClampNeg)) hx hb hK hP 1 3 at_pl rfl hi2 (if_pos (vi_lt hi2)) dd_O_goOnWithRound_48 ?_
        refine lv_iconst (v := 0) hx hb dd_O_goOnWithRound_49 (by decide) ?_
        refine va_put (D := D) (ci := 1) (v := .int (0 : Int32)) (ty := .int) (C := "OpenDeal$Player") (T := T_P) (N := 13) hx hb hk in_P ty_P tk_P nm_P hown hK hP hD hS (15 + 6 * (v1).toNatClampNeg) (at_P (isP_of (vi_lt hi2))) rfl 2 (by decide) (hk _ kw_55) (fun _ h9 => h9) rfl (by decide +kernel) rfl rfl (Nat.le_of_ble_eq_true rfl) dd_O_goOnWithRound_50 (fun H locs hP hD hS => ?_)
        rw [pt_P2 (isP_of (vi_lt hi2))] at hP hD
        refine lv_iinc (v := v1 + (1 : Int32)) (lv' := [(1, .int (v1 + (1 : Int32))), (0, .ref (ad 0))]) hx hb dd_O_goOnWithRound_53 hl (k := 1) rfl rfl (by decide) rfl (fun ls hl => ?_)
        refine lv_goto (tgt := 35) hx hb dd_O_goOnWithRound_56 (by decide) ?_
        exact ih _ _ _ h _ _ hP hD hS _ (lv_sub hl [1, 0] rfl)
  have L21 : ∀  (n : Nat) (I : MI) (J : MJ) (s1 : Int32), ff_O_goOnWithRound_21 n I J s1 = some r → ∀ (H : Heap) (locs : List Loc), va_P D cls5 (wC kc ad I J) H → va_D A (wC kc ad I J) → va_S A s.heap H locs → ∀ ls, lv_has ls 2 [(0, .ref (ad 0))] → W p l e (headSpec (.code yy_O_goOnWithRound cc_O_goOnWithRound 2 (none) :: kw) { frames := 2, cells := 0, slots := 0, locals := 44 }).room s m ([.ref (ad 0)] : List Value).toArray below meth c H locs 0 0 (MQ below (va_Qv (fun (_ : Unit) => True) (EW D kc A (wC kc ad r.1 r.2)) A) ([.ref (ad 0)] : List Value).toArray s 0 0 A) (F0 m 21 ls [.int s1, .ref (ad 0)]) := by
    intro  n I J s1 h H locs hP hD hS ls hl
    unfold ff_O_goOnWithRound_21 at h
    refine va_put (D := D) (ci := 0) (v := .int s1) (ty := .int) (C := "OpenDeal") (T := T_O) (N := 11) hx hb hk in_O ty_O tk_O nm_O hown hK hP hD hS 0 at_O rfl 7 (by decide) (hk _ kw_112) (fun _ h9 => h9) rfl (by decide +kernel) rfl rfl (Nat.le_of_ble_eq_true rfl) dd_O_goOnWithRound_21 (fun H locs hP hD hS => ?_)
    rw [pt_O7] at hP hD
    refine lv_aload_n hx hb dd_O_goOnWithRound_24 rfl (lv_at hl 0 rfl) ?_
    refine va_get (D := D) (ci := 0) (v := .int ((ui I 0 7 s1) 0 7)) (C := "OpenDeal") (T := T_O) (N := 11) hx hb hk in_O hown hK hP 0 at_O rfl 7 (by decide) (hk _ kw_112) (fun _ h9 => h9) rfl dd_O_goOnWithRound_25 ?_
    refine lv_iconst (v := -1) hx hb dd_O_goOnWithRound_28 (by decide) ?_
    refine lv_icmp_eq (tgt := 33) hx hb dd_O_goOnWithRound_29 (by decide) (fun hc3 => ?_) (fun hc3 => ?_)
    · have h := ip_out hc3 h
      refine lv_iconst (v := 0) hx hb dd_O_goOnWithRound_33 (by decide) ?_
      refine lv_istore_n (lv' := [(1, .int (0 : Int32)), (0, .ref (ad 0))]) hx hb dd_O_goOnWithRound_34 rfl hl (by decide) rfl (fun ls hl => ?_)
      exact L35  _ _ _ _ h _ _ hP hD hS _ (lv_sub hl [1, 0] rfl)
    · have h := in_out hc3 h
      obtain rfl := Option.some.inj h
      exact W.vret hx hb hr (fun t ht hW => ⟨⟨(), rfl, trivial, by rw [ht]; exact hP, va_K.moved hW.alike hK, hD⟩, hS.F ht⟩) hS.2.2 dd_O_goOnWithRound_32
  have hl := lv_entry ([.ref (ad 0)]) (n := 2) (Nat.le_of_ble_eq_true rfl)
  rw [lg_entry_eq]
  generalize (lg_sl ([.ref (ad 0)]) ++ List.replicate (2 - (lg_sl ([.ref (ad 0)])).length) Slot.unset).toArray = ls at hl ⊢
  have hl : lv_has ls 2 [(0, .ref (ad 0))] := hl
  unfold ff_O_goOnWithRound at h
  refine lv_aload_n hx hb dd_O_goOnWithRound_0 rfl (lv_at hl 0 rfl) ?_
  refine lv_aload_n hx hb dd_O_goOnWithRound_1 rfl (lv_at hl 0 rfl) ?_
  obtain ⟨r4, hr4, h⟩ := ob_out h
  refine cr_Vi (n := 0) (As := []) hx hb hml hown hk (mm_O_countIn l D kc ad _ _ _  _ hr4) hK hP 0 at_O rfl rfl kw_347 kw_349 sel_O_countIn kw_1 kw_350 ⟨rfl, rfl⟩ (by decide +kernel) ⟨Nat.le_of_ble_eq_true rfl, Nat.le_of_ble_eq_true rfl⟩ rfl hl.1 rfl (Nat.le_of_ble_eq_true rfl) dd_O_goOnWithRound_2 ⟨Nat.le_of_ble_eq_true rfl, Nat.le_of_ble_eq_true rfl⟩ ?_
  refine lv_iconst (v := 2) hx hb dd_O_goOnWithRound_5 (by decide) ?_
  refine lv_icmp_ge (tgt := 13) hx hb dd_O_goOnWithRound_6 (by decide) (fun hc5 => ?_) (fun hc5 => ?_)
  · have h := ip_out hc5 h
    refine lv_aload_n hx hb dd_O_goOnWithRound_13 rfl (lv_at hl 0 rfl) ?_
    refine lv_aload_n hx hb dd_O_goOnWithRound_14 rfl (lv_at hl 0 rfl) ?_
    refine va_get (D := D) (ci := 0) (v := .int (I0 0 7)) (C := "OpenDeal") (T := T_O) (N := 11) hx hb hk in_O hown hK hP 0 at_O rfl 7 (by decide) (hk _ kw_112) (fun _ h9 => h9) rfl dd_O_goOnWithRound_15 ?_
    obtain ⟨r6, hr6, h⟩ := ob_out h
    refine cr_Vi (n := 1) (As := [.int (I0 0 7)]) hx hb hml hown hk (mm_O_nextToAct l D kc ad _ _ _ _ _ hr6) hK hP 0 at_O rfl rfl kw_321 kw_323 sel_O_nextToAct kw_1 kw_324 ⟨rfl, rfl⟩ (by decide +kernel) ⟨Nat.le_of_ble_eq_true rfl, Nat.le_of_ble_eq_true rfl⟩ rfl hl.1 rfl (Nat.le_of_ble_eq_true rfl) dd_O_goOnWithRound_18 ⟨Nat.le_of_ble_eq_true rfl, Nat.le_of_ble_eq_true rfl⟩ ?_
    exact L21  _ _ _ _ h _ _ hP hD hS _ (lv_sub hl [0] rfl)
  · have h := in_out hc5 h
    refine lv_iconst (v := -1) hx hb dd_O_goOnWithRound_9 (by decide) ?_
    refine lv_goto (tgt := 21) hx hb dd_O_goOnWithRound_10 (by decide) ?_
    exact L21  _ _ _ _ h _ _ hP hD hS _ (lv_sub hl [0] rfl)
def ff_O_bet_132  (n : Nat) (I : MI) (J : MJ) (v1 : Int32) (v2 : Int32) (v3 : Int32) (v4 : Nat) (v5 : Int32) : Option (Int32 × MI × MJ) := (ff_O_goOnWithRound n (ui I v4 4 (1 : Int32)) J ).bind fun r1 => some ((1 : Int32), r1.1, r1.2)
def ff_O_bet (n : Nat) (I : MI) (J : MJ) (a1 : Int32) (a2 : Int32) (a3 : Int32) : Option (Int32 × MI × MJ) := if (I 0 7) = (-1 : Int32) then (some ((0 : Int32), I, J)) else (if a1 = (I 0 7) then (if ¬ ((I 0 7) < 0 ∨ 4 ≤ (I 0 7).toNatClampNeg) then (ff_O_mostInRound n I J ).bind fun r5 => tl (r5 - (I (15 + 6 * (I 0 7).toNatClampNeg) 2)) fun y6 => if a2 = 0 then (ff_O_bet_132 n (ui I (15 + 6 * (I 0 7).toNatClampNeg) 3 (1 : Int32)) J a1 a2 a3 (15 + 6 * (I 0 7).toNatClampNeg) y6) else if a2 = 1 then (tl (if (I (15 + 6 * (I 0 7).toNatClampNeg) 0) < y6 then I (15 + 6 * (I 0 7).toNatClampNeg) 0 else y6) fun y9 => (ff_P_putIn n I J (15 + 6 * (I 0 7).toNatClampNeg) y9).bind fun r10 => ff_O_bet_132 n r10.1 r10.2 a1 a2 a3 (15 + 6 * (I 0 7).toNatClampNeg) y6) else if a2 = 2 then (if a3 < (1 : Int32) then (some ((0 : Int32), I, J)) else (if a3 ≤ ((I (15 + 6 * (I 0 7).toNatClampNeg) 0) - y6) then ((ff_P_putIn n I J (15 + 6 * (I 0 7).toNatClampNeg) (y6 + a3)).bind fun r14 => (ff_O_awaitAll n r14.1 r14.2 ).bind fun r15 => ff_O_bet_132 n r15.1 r15.2 a1 a2 a3 (15 + 6 * (I 0 7).toNatClampNeg) y6) else (some ((0 : Int32), I, J)))) else (some ((0 : Int32), I, J)) else none) else (some ((0 : Int32), I, J)))
set_option maxHeartbeats 4000000 in
set_option maxRecDepth 100000 in
theorem mm_O_bet (l : Launch) (D : va_G) (kc : Nat → ClassId) (ad : Nat → Nat) (I0 : MI) (J0 : MJ) (sz n : Nat) (a1 : Int32) (a2 : Int32) (a3 : Int32) (r : Int32 × MI × MJ) (h : ff_O_bet n I0 J0 a1 a2 a3 = some r) : Met l yy_O_bet (.code yy_O_bet cc_O_bet 6 (some .boolean) :: kw) { frames := 3, cells := 0, slots := 0, locals := 65 } (va_Pc [.ref (ad 0), .int a1, .int a2, .int a3] (BW D kc (wC kc ad I0 J0) sz)) (va_Qi (fun z (_ : Unit) => z = r.1) (EW D kc (va_A (wC kc ad I0 J0) sz) (wC kc ad r.2.1 r.2.2)) (va_A (wC kc ad I0 J0) sz)) 0 0 (va_A (wC kc ad I0 J0) sz) := by
  refine Met.ofW (cc := cc_O_bet) (maxL := 6) (ret := some .boolean) (by decide) rfl ?_
  intro p e s m args below meth c s₁ B hml hv
  obtain ⟨rfl, hsz, hP, hK, hD0⟩ := hv
  have hx := B.exec
  have hb := B.bytes
  have hr := B.returns
  have hlocks := B.notSynchronized
  have hk : ∀ w ∈ kw, w.before _ s = true := fun w hw => atoms_spec (ws := (.code yy_O_bet cc_O_bet 6 (some .boolean) :: kw)) B.pre w (List.mem_cons_of_mem _ hw)
  have hown : s.vm.findClass "OpenDeal" = some m.cls := findClass_of_methodNamed B.named
  subst hsz
  have hD := hD0.self (sz := s.heap.size)
  generalize hAe : va_A (wC kc ad I0 J0) s.heap.size = A at hD ⊢
  have hA : ∀ q : Nat, s.heap.size ≤ q → A q := fun q h => by rw [← hAe]; exact Or.inr h
  have hS : va_S A s.heap s.heap [] := va_S.rf
  have hP : va_P D cls5 (wC kc ad I0 J0) s.heap := hP
  clear hAe hD0
  have L132 : ∀  (n : Nat) (I : MI) (J : MJ) (v1 : Int32) (v2 : Int32) (v3 : Int32) (v4 : Nat) (hv4 : isP v4) (v5 : Int32), ff_O_bet_132 n I J v1 v2 v3 v4 v5 = some r → ∀ (H : Heap) (locs : List Loc), va_P D cls5 (wC kc ad I J) H → va_D A (wC kc ad I J) → va_S A s.heap H locs → ∀ ls, lv_has ls 6 [(0, .ref (ad 0)), (1, .int v1), (2, .int v2), (3, .int v3), (4, .ref (ad v4)), (5, .int v5)] → W p l e (headSpec (.code yy_O_bet cc_O_bet 6 (some .boolean) :: kw) { frames := 3, cells := 0, slots := 0, locals := 65 }).room s m ([.ref (ad 0), .int a1, .int a2, .int a3] : List Value).toArray below meth c H locs 0 0 (MQ below (va_Qi (fun z (_ : Unit) => z = r.1) (EW D kc A (wC kc ad r.2.1 r.2.2)) A) ([.ref (ad 0), .int a1, .int a2, .int a3] : List Value).toArray s 0 0 A) (F0 m 132 ls []) := by
    intro  n I J v1 v2 v3 v4 hv4 v5 h H locs hP hD hS ls hl
    unfold ff_O_bet_132 at h
    refine lv_aload hx hb dd_O_bet_132 (lv_at hl 4 rfl) ?_
    refine lv_iconst (v := 1) hx hb dd_O_bet_134 (by decide) ?_
    refine va_put (D := D) (ci := 1) (v := .int (1 : Int32)) (ty := .boolean) (C := "OpenDeal$Player") (T := T_P) (N := 13) hx hb hk in_P ty_P tk_P nm_P hown hK hP hD hS v4 (at_P hv4) rfl 4 (by decide) (hk _ kw_58) (fun _ h9 => h9) rfl (by decide +kernel) rfl rfl (Nat.le_of_ble_eq_true rfl) dd_O_bet_135 (fun H locs hP hD hS => ?_)
    rw [pt_P4 hv4] at hP hD
    refine lv_aload_n hx hb dd_O_bet_138 rfl (lv_at hl 0 rfl) ?_
    obtain ⟨r1, hr1, h⟩ := ob_out h
    refine cw_Vv (n := 0) (As := []) (mc := 0) (ms := 0) hx hb hml hown hk (mm_O_goOnWithRound l D kc ad _ _ _ _  _ hr1) hK hP hD hS hA 0 at_O rfl rfl kw_343 kw_345 sel_O_goOnWithRound kw_1 kw_346 ⟨rfl, rfl⟩ (by decide +kernel) ⟨Nat.le_of_ble_eq_true rfl, Nat.le_of_ble_eq_true rfl⟩ rfl hl.1 rfl (Nat.le_of_ble_eq_true rfl) dd_O_bet_139 ⟨Nat.le_of_ble_eq_true rfl, Nat.le_of_ble_eq_true rfl⟩ (fun H locs hP hD hS => ?_)
    refine lv_iconst (v := 1) hx hb dd_O_bet_142 (by decide) ?_
    obtain rfl := Option.some.inj h
    exact W.zret hx hb hr rfl (fun t ht hW => ⟨⟨_, (), rfl, rfl, by rw [ht]; exact hP, va_K.moved hW.alike hK, hD⟩, hS.F ht⟩) hS.2.2 dd_O_bet_143
  have hl := lv_entry ([.ref (ad 0), .int a1, .int a2, .int a3]) (n := 6) (Nat.le_of_ble_eq_true rfl)
  rw [lg_entry_eq]
  generalize (lg_sl ([.ref (ad 0), .int a1, .int a2, .int a3]) ++ List.replicate (6 - (lg_sl ([.ref (ad 0), .int a1, .int a2, .int a3])).length) Slot.unset).toArray = ls at hl ⊢
  have hl : lv_has ls 6 [(0, .ref (ad 0)), (1, .int a1), (2, .int a2), (3, .int a3)] := hl
  unfold ff_O_bet at h
  refine lv_aload_n hx hb dd_O_bet_0 rfl (lv_at hl 0 rfl) ?_
  refine va_get (D := D) (ci := 0) (v := .int (I0 0 7)) (C := "OpenDeal") (T := T_O) (N := 11) hx hb hk in_O hown hK hP 0 at_O rfl 7 (by decide) (hk _ kw_112) (fun _ h9 => h9) rfl dd_O_bet_1 ?_
  refine lv_iconst (v := -1) hx hb dd_O_bet_4 (by decide) ?_
  refine lv_icmp_eq (tgt := 16) hx hb dd_O_bet_5 (by decide) (fun hc2 => ?_) (fun hc2 => ?_)
  · have h := ip_out hc2 h
    refine lv_iconst (v := 0) hx hb dd_O_bet_16 (by decide) ?_
    obtain rfl := Option.some.inj h
    exact W.zret hx hb hr rfl (fun t ht hW => ⟨⟨_, (), rfl, rfl, by rw [ht]; exact hP, va_K.moved hW.alike hK, hD⟩, hS.F ht⟩) hS.2.2 dd_O_bet_17
  · have h := in_out hc2 h
    refine lv_iload_n hx hb dd_O_bet_8 rfl (lv_at hl 1 rfl) ?_
    refine lv_aload_n hx hb dd_O_bet_9 rfl (lv_at hl 0 rfl) ?_
    refine va_get (D := D) (ci := 0) (v := .int (I0 0 7)) (C := "OpenDeal") (T := T_O) (N := 11) hx hb hk in_O hown hK hP 0 at_O rfl 7 (by decide) (hk _ kw_112) (fun _ h9 => h9) rfl dd_O_bet_10 ?_
    refine lv_icmp_eq (tgt := 18) hx hb dd_O_bet_13 (by decide) (fun hc3 => ?_) (fun hc3 => ?_)
    · have h := ip_out hc3 h
      refine lv_aload_n hx hb dd_O_bet_18 rfl (lv_at hl 0 rfl) ?_
      refine va_get (D := D) (ci := 0) (v := .ref (ad 1)) (C := "OpenDeal") (T := T_O) (N := 11) hx hb hk in_O hown hK hP 0 at_O rfl 3 (by decide) (hk _ kw_108) (fun _ h9 => h9) rfl dd_O_bet_19 ?_
      refine lv_aload_n hx hb dd_O_bet_22 rfl (lv_at hl 0 rfl) ?_
      refine va_get (D := D) (ci := 0) (v := .int (I0 0 7)) (C := "OpenDeal") (T := T_O) (N := 11) hx hb hk in_O hown hK hP 0 at_O rfl 7 (by decide) (hk _ kw_112) (fun _ h9 => h9) rfl dd_O_bet_23 ?_
      obtain ⟨hi4, h⟩ := oi_out h
      refine ap_ald (b := ad (15 + 6 * (I0 0 7).toNatClampNeg)) hx hb hK hP 1 3 at_pl rfl hi4 (if_pos (vi_lt hi4)) dd_O_bet_26 ?_
      refine lv_astore (lv' := [(4, .ref (ad (15 + 6 * (I0 0 7).toNatClampNeg))), (0, .ref (ad 0)), (1, .int a1), (2, .int a2), (3, .int a3)]) hx hb dd_O_bet_27 hl (by decide) rfl (fun ls hl => ?_)
      refine lv_aload_n hx hb dd_O_bet_29 rfl (lv_at hl 1 rfl) ?_
      obtain ⟨r5, hr5, h⟩ := ob_out h
      refine cr_Vi (n := 0) (As := []) hx hb hml hown hk (mm_O_mostInRound l D kc ad _ _ _  _ hr5) hK hP 0 at_O rfl rfl kw_329 kw_331 sel_O_mostInRound kw_1 kw_332 ⟨rfl, rfl⟩ (by decide +kernel) ⟨Nat.le_of_ble_eq_true rfl, Nat.le_of_ble_eq_true rfl⟩ rfl hl.1 rfl (Nat.le_of_ble_eq_true rfl) dd_O_bet_30 ⟨Nat.le_of_ble_eq_true rfl, Nat.le_of_ble_eq_true rfl⟩ ?_
      refine lv_aload hx hb dd_O_bet_33 (lv_at hl 0 rfl) ?_
      refine va_get (D := D) (ci := 1) (v := .int (I0 (15 + 6 * (I0 0 7).toNatClampNeg) 2)) (C := "OpenDeal$Player") (T := T_P) (N := 13) hx hb hk in_P hown hK hP (15 + 6 * (I0 0 7).toNatClampNeg) (at_P (isP_of (vi_lt hi4))) rfl 2 (by decide) (hk _ kw_55) (fun _ h9 => h9) rfl dd_O_bet_35 ?_
      refine lv_isub hx hb dd_O_bet_38 ?_
      refine lv_topi (fun y6 ey6 => ?_)
      have h := tl_at ey6 h
      refine lv_istore (lv' := [(5, .int y6), (4, .ref (ad (15 + 6 * (I0 0 7).toNatClampNeg))), (0, .ref (ad 0)), (1, .int a1), (2, .int a2), (3, .int a3)]) hx hb dd_O_bet_39 hl (by decide) rfl (fun ls hl => ?_)
      refine lv_iload_n hx hb dd_O_bet_41 rfl (lv_at hl 4 rfl) ?_
      by_cases hc7 : a2 = 0
      · have h := ip_out hc7 h
        refine lv_tableIn (tgt := 68) hx hb dd_O_bet_42 (by rw [hc7]; decide) (by rw [hc7]; decide) (by rw [hc7]; rfl) (by decide) ?_
        refine lv_aload hx hb dd_O_bet_68 (lv_at hl 1 rfl) ?_
        refine lv_iconst (v := 1) hx hb dd_O_bet_70 (by decide) ?_
        refine va_put (D := D) (ci := 1) (v := .int (1 : Int32)) (ty := .boolean) (C := "OpenDeal$Player") (T := T_P) (N := 13) hx hb hk in_P ty_P tk_P nm_P hown hK hP hD hS (15 + 6 * (I0 0 7).toNatClampNeg) (at_P (isP_of (vi_lt hi4))) rfl 3 (by decide) (hk _ kw_57) (fun _ h9 => h9) rfl (by decide +kernel) rfl rfl (Nat.le_of_ble_eq_true rfl) dd_O_bet_71 (fun H locs hP hD hS => ?_)
        rw [pt_P3 (isP_of (vi_lt hi4))] at hP hD
        refine lv_goto (tgt := 132) hx hb dd_O_bet_74 (by decide) ?_
        exact L132  _ _ _ _ _ _ _ (isP_of (vi_lt hi4)) _ h _ _ hP hD hS _ (lv_sub hl [2, 3, 4, 5, 1, 0] rfl)
      have h := in_out hc7 h
      by_cases hc8 : a2 = 1
      · have h := ip_out hc8 h
        refine lv_tableIn (tgt := 77) hx hb dd_O_bet_42 (by rw [hc8]; decide) (by rw [hc8]; decide) (by rw [hc8]; rfl) (by decide) ?_
        refine lv_aload hx hb dd_O_bet_77 (lv_at hl 1 rfl) ?_
        refine lv_iload hx hb dd_O_bet_79 (lv_at hl 0 rfl) ?_
        refine lv_aload hx hb dd_O_bet_81 (lv_at hl 1 rfl) ?_
        refine va_get (D := D) (ci := 1) (v := .int (I0 (15 + 6 * (I0 0 7).toNatClampNeg) 0)) (C := "OpenDeal$Player") (T := T_P) (N := 13) hx hb hk in_P hown hK hP (15 + 6 * (I0 0 7).toNatClampNeg) (at_P (isP_of (vi_lt hi4))) rfl 0 (by decide) (hk _ kw_51) (fun _ h9 => h9) rfl dd_O_bet_83 ?_
        refine va_mmin hx hb (hml.trans hl.1.symm) hown (hk _ kw_336) (hk _ kw_337) (hk _ kw_12) (hk _ kw_338) (Nat.le_of_ble_eq_true rfl) (Nat.le_of_ble_eq_true rfl) (Nat.le_of_ble_eq_true rfl) (Nat.le_of_ble_eq_true rfl) dd_O_bet_86 ?_
        refine lv_topi (fun y9 ey9 => ?_)
        have h := tl_at ey9 h
        obtain ⟨r10, hr10, h⟩ := ob_out h
        refine cw_Vv (n := 1) (As := [.int y9]) (mc := 0) (ms := 0) hx hb hml hown hk (mm_P_putIn l D kc ad _ _ _ _ _ (isP_of (vi_lt hi4)) _ _ hr10) hK hP hD hS hA (15 + 6 * (I0 0 7).toNatClampNeg) (at_P (isP_of (vi_lt hi4))) rfl rfl kw_339 kw_340 kw_341 kw_2 kw_342 ⟨rfl, rfl⟩ (by decide +kernel) ⟨Nat.le_of_ble_eq_true rfl, Nat.le_of_ble_eq_true rfl⟩ rfl hl.1 rfl (Nat.le_of_ble_eq_true rfl) dd_O_bet_89 ⟨Nat.le_of_ble_eq_true rfl, Nat.le_of_ble_eq_true rfl⟩ (fun H locs hP hD hS => ?_)
        refine lv_goto (tgt := 132) hx hb dd_O_bet_92 (by decide) ?_
        exact L132  _ _ _ _ _ _ _ (isP_of (vi_lt hi4)) _ h _ _ hP hD hS _ (lv_sub hl [2, 3, 4, 5, 1, 0] rfl)
      have h := in_out hc8 h
      by_cases hc11 : a2 = 2
      · have h := ip_out hc11 h
        refine lv_tableIn (tgt := 95) hx hb dd_O_bet_42 (by rw [hc11]; decide) (by rw [hc11]; decide) (by rw [hc11]; rfl) (by decide) ?_
        refine lv_iload_n hx hb dd_O_bet_95 rfl (lv_at hl 5 rfl) ?_
        refine lv_iconst (v := 1) hx hb dd_O_bet_96 (by decide) ?_
        refine lv_icmp_lt (tgt := 112) hx hb dd_O_bet_97 (by decide) (fun hc12 => ?_) (fun hc12 => ?_)
        · have h := ip_out hc12 h
          refine lv_iconst (v := 0) hx hb dd_O_bet_112 (by decide) ?_
          obtain rfl := Option.some.inj h
          exact W.zret hx hb hr rfl (fun t ht hW => ⟨⟨_, (), rfl, rfl, by rw [ht]; exact hP, va_K.moved hW.alike hK, hD⟩, hS.F ht⟩) hS.2.2 dd_O_bet_113
        · have h := in_out hc12 h
          refine lv_iload_n hx hb dd_O_bet_100 rfl (lv_at hl 5 rfl) ?_
          refine lv_aload hx hb dd_O_bet_101 (lv_at hl 1 rfl) ?_
          refine va_get (D := D) (ci := 1) (v := .int (I0 (15 + 6 * (I0 0 7).toNatClampNeg) 0)) (C := "OpenDeal$Player") (T := T_P) (N := 13) hx hb hk in_P hown hK hP (15 + 6 * (I0 0 7).toNatClampNeg) (at_P (isP_of (vi_lt hi4))) rfl 0 (by decide) (hk _ kw_51) (fun _ h9 => h9) rfl dd_O_bet_103 ?_
          refine lv_iload hx hb dd_O_bet_106 (lv_at hl 0 rfl) ?_
          refine lv_isub hx hb dd_O_bet_108 ?_
          refine lv_icmp_le (tgt := 114) hx hb dd_O_bet_109 (by decide) (fun hc13 => ?_) (fun hc13 => ?_)
          · have h := ip_out hc13 h
            refine lv_aload hx hb dd_O_bet_114 (lv_at hl 1 rfl) ?_
            refine lv_iload hx hb dd_O_bet_116 (lv_at hl 0 rfl) ?_
            refine lv_iload_n hx hb dd_O_bet_118 rfl (lv_at hl 5 rfl) ?_
            refine lv_iadd hx hb dd_O_bet_119 ?_
            obtain ⟨r14, hr14, h⟩ := ob_out h
            refine cw_Vv (n := 1) (As := [.int (y6 + a3)]) (mc := 0) (ms := 0) hx hb hml hown hk (mm_P_putIn l D kc ad _ _ _ _ _ (isP_of (vi_lt hi4)) _ _ hr14) hK hP hD hS hA (15 + 6 * (I0 0 7).toNatClampNeg) (at_P (isP_of (vi_lt hi4))) rfl rfl kw_339 kw_340 kw_341 kw_2 kw_342 ⟨rfl, rfl⟩ (by decide +kernel) ⟨Nat.le_of_ble_eq_true rfl, Nat.le_of_ble_eq_true rfl⟩ rfl hl.1 rfl (Nat.le_of_ble_eq_true rfl) dd_O_bet_120 ⟨Nat.le_of_ble_eq_true rfl, Nat.le_of_ble_eq_true rfl⟩ (fun H locs hP hD hS => ?_)
            refine lv_aload_n hx hb dd_O_bet_123 rfl (lv_at hl 2 rfl) ?_
            obtain ⟨r15, hr15, h⟩ := ob_out h
            refine cw_Vv (n := 0) (As := []) (mc := 0) (ms := 0) hx hb hml hown hk (mm_O_awaitAll l D kc ad _ _ _ _  _ hr15) hK hP hD hS hA 0 at_O rfl rfl kw_309 kw_311 sel_O_awaitAll kw_1 kw_312 ⟨rfl, rfl⟩ (by decide +kernel) ⟨Nat.le_of_ble_eq_true rfl, Nat.le_of_ble_eq_true rfl⟩ rfl hl.1 rfl (Nat.le_of_ble_eq_true rfl) dd_O_bet_124 ⟨Nat.le_of_ble_eq_true rfl, Nat.le_of_ble_eq_true rfl⟩ (fun H locs hP hD hS => ?_)
            refine lv_goto (tgt := 132) hx hb dd_O_bet_127 (by decide) ?_
            exact L132  _ _ _ _ _ _ _ (isP_of (vi_lt hi4)) _ h _ _ hP hD hS _ (lv_sub hl [2, 3, 4, 5, 1, 0] rfl)
          · have h := in_out hc13 h
            refine lv_iconst (v := 0) hx hb dd_O_bet_112 (by decide) ?_
            obtain rfl := Option.some.inj h
            exact W.zret hx hb hr rfl (fun t ht hW => ⟨⟨_, (), rfl, rfl, by rw [ht]; exact hP, va_K.moved hW.alike hK, hD⟩, hS.F ht⟩) hS.2.2 dd_O_bet_113
      have h := in_out hc11 h
      have ehc7 := si_ne (k := 0) hc7 rfl
      have ehc8 := si_ne (k := 1) hc8 rfl
      have ehc11 := si_ne (k := 2) hc11 rfl
      refine lv_tableOut (tgt := 130) hx hb dd_O_bet_42 (by omega) (by decide) ?_
      refine lv_iconst (v := 0) hx hb dd_O_bet_130 (by decide) ?_
      obtain rfl := Option.some.inj h
      exact W.zret hx hb hr rfl (fun t ht hW => ⟨⟨_, (), rfl, rfl, by rw [ht]; exact hP, va_K.moved hW.alike hK, hD⟩, hS.F ht⟩) hS.2.2 dd_O_bet_131
    · have h := in_out hc3 h
      refine lv_iconst (v := 0) hx hb dd_O_bet_16 (by decide) ?_
      obtain rfl := Option.some.inj h
      exact W.zret hx hb hr rfl (fun t ht hW => ⟨⟨_, (), rfl, rfl, by rw [ht]; exact hP, va_K.moved hW.alike hK, hD⟩, hS.F ht⟩) hS.2.2 dd_O_bet_17
def ff_O_leastInHand_4 (I : MI) (J : MJ)  : Nat → Int32 → Int32 → Option (Int32)
  | 0, _, _ => none
  | n + 1, v1, v2 => if (I 0 2) ≤ v2 then (some v1) else (if ¬ (v2 < 0 ∨ 4 ≤ (v2).toNatClampNeg) then tl (I (15 + 6 * (v2).toNatClampNeg) 1) fun y3 => if y3 ≤ 0 then (ff_O_leastInHand_4 I J n v1 (v2 + (1 : Int32))) else (if v1 = 0 then (ff_O_leastInHand_4 I J n y3 (v2 + (1 : Int32))) else (if v1 ≤ y3 then (ff_O_leastInHand_4 I J n v1 (v2 + (1 : Int32))) else (ff_O_leastInHand_4 I J n y3 (v2 + (1 : Int32))))) else none)
def ff_O_leastInHand (n : Nat) (I : MI) (J : MJ)  : Option (Int32) := ff_O_leastInHand_4 I J n (0 : Int32) (0 : Int32)
set_option maxHeartbeats 4000000 in
set_option maxRecDepth 100000 in
theorem mm_O_leastInHand (l : Launch) (D : va_G) (kc : Nat → ClassId) (ad : Nat → Nat) (I : MI) (J : MJ) (n : Nat)  (r : Int32) (h : ff_O_leastInHand n I J  = some r) : Met l yy_O_leastInHand (.code yy_O_leastInHand cc_O_leastInHand 4 (some .int) :: kw) { frames := 0, cells := 0, slots := 0, locals := 0 } (va_Pc [.ref (ad 0)] (BR D kc (wC kc ad I J))) (vp_Si (fun z => z = r)) 0 0 (fun _ => False) := by
  refine Met.ofW (cc := cc_O_leastInHand) (maxL := 4) (ret := some .int) (by decide) rfl ?_
  intro p e s m args below meth c s₁ B hml hv
  obtain ⟨rfl, hP, hK⟩ := hv
  have hx := B.exec
  have hb := B.bytes
  have hr := B.returns
  have hlocks := B.notSynchronized
  have hk : ∀ w ∈ kw, w.before _ s = true := fun w hw => atoms_spec (ws := (.code yy_O_leastInHand cc_O_leastInHand 4 (some .int) :: kw)) B.pre w (List.mem_cons_of_mem _ hw)
  have hown : s.vm.findClass "OpenDeal" = some m.cls := findClass_of_methodNamed B.named
  have L4 : ∀  (n : Nat) (v1 : Int32) (v2 : Int32), ff_O_leastInHand_4 I J n v1 v2 = some r → ∀ ls, lv_has ls 4 [(0, .ref (ad 0)), (1, .int v1), (2, .int v2)] → W p l e (headSpec (.code yy_O_leastInHand cc_O_leastInHand 4 (some .int) :: kw) { frames := 0, cells := 0, slots := 0, locals := 0 }).room s m ([.ref (ad 0)] : List Value).toArray below meth c s.heap [] 0 0 (MQ below (vp_Si (fun z => z = r)) ([.ref (ad 0)] : List Value).toArray s 0 0 (fun _ => False)) (F0 m 4 ls []) := by
    intro  n
    induction n with
    | zero => intro v1 v2 h; exact absurd h (by simp [ff_O_leastInHand_4])
    | succ n ih =>
      intro v1 v2 h ls hl
      rw [ff_O_leastInHand_4] at h
      refine lv_iload_n hx hb dd_O_leastInHand_4 rfl (lv_at hl 2 rfl) ?_
      refine lv_aload_n hx hb dd_O_leastInHand_5 rfl (lv_at hl 0 rfl) ?_
      refine va_get (D := D) (ci := 0) (v := .int (I 0 2)) (C := "OpenDeal") (T := T_O) (N := 11) hx hb hk in_O hown hK hP 0 at_O rfl 2 (by decide) (hk _ kw_107) (fun _ h9 => h9) rfl dd_O_leastInHand_6 ?_
      refine lv_icmp_ge (tgt := 43) hx hb dd_O_leastInHand_9 (by decide) (fun hc1 => ?_) (fun hc1 => ?_)
      · have h := ip_out hc1 h
        refine lv_iload_n hx hb dd_O_leastInHand_43 rfl (lv_at hl 1 rfl) ?_
        obtain rfl := Option.some.inj h
        exact W.iret hx hb hr (fun t ht hW => ⟨_, rfl, rfl, ht⟩) (fun q hq => by cases hq) dd_O_leastInHand_44
      · have h := in_out hc1 h
        refine lv_aload_n hx hb dd_O_leastInHand_12 rfl (lv_at hl 0 rfl) ?_
        refine va_get (D := D) (ci := 0) (v := .ref (ad 1)) (C := "OpenDeal") (T := T_O) (N := 11) hx hb hk in_O hown hK hP 0 at_O rfl 3 (by decide) (hk _ kw_108) (fun _ h9 => h9) rfl dd_O_leastInHand_13 ?_
        refine lv_iload_n hx hb dd_O_leastInHand_16 rfl (lv_at hl 2 rfl) ?_
        obtain ⟨hi2, h⟩ := oi_out h
        refine ap_ald (b := ad (15 + 6 * (v2).toNatClampNeg)) hx hb hK hP 1 3 at_pl rfl hi2 (if_pos (vi_lt hi2)) dd_O_leastInHand_17 ?_
        refine va_get (D := D) (ci := 1) (v := .int (I (15 + 6 * (v2).toNatClampNeg) 1)) (C := "OpenDeal$Player") (T := T_P) (N := 13) hx hb hk in_P hown hK hP (15 + 6 * (v2).toNatClampNeg) (at_P (isP_of (vi_lt hi2))) rfl 1 (by decide) (hk _ kw_53) (fun _ h9 => h9) rfl dd_O_leastInHand_18 ?_
        refine lv_topi (fun y3 ey3 => ?_)
        have h := tl_at ey3 h
        refine lv_istore_n (lv' := [(3, .int y3), (0, .ref (ad 0)), (1, .int v1), (2, .int v2)]) hx hb dd_O_leastInHand_21 rfl hl (by decide) rfl (fun ls hl => ?_)
        refine lv_iload_n hx hb dd_O_leastInHand_22 rfl (lv_at hl 0 rfl) ?_
        refine lv_if_le (tgt := 37) hx hb dd_O_leastInHand_23 (by decide) (fun hc4 => ?_) (fun hc4 => ?_)
        · have h := ip_out hc4 h
          refine lv_iinc (v := v2 + (1 : Int32)) (lv' := [(2, .int (v2 + (1 : Int32))), (3, .int y3), (0, .ref (ad 0)), (1, .int v1)]) hx hb dd_O_leastInHand_37 hl (k := 3) rfl rfl (by decide) rfl (fun ls hl => ?_)
          refine lv_goto (tgt := 4) hx hb dd_O_leastInHand_40 (by decide) ?_
          exact ih _ _ h _ (lv_sub hl [2, 3, 0] rfl)
        · have h := in_out hc4 h
          refine lv_iload_n hx hb dd_O_leastInHand_26 rfl (lv_at hl 2 rfl) ?_
          refine lv_if_eq (tgt := 35) hx hb dd_O_leastInHand_27 (by decide) (fun hc5 => ?_) (fun hc5 => ?_)
          · have h := ip_out hc5 h
            refine lv_iload_n hx hb dd_O_leastInHand_35 rfl (lv_at hl 0 rfl) ?_
            refine lv_istore_n (lv' := [(1, .int y3), (3, .int y3), (0, .ref (ad 0)), (2, .int v2)]) hx hb dd_O_leastInHand_36 rfl hl (by decide) rfl (fun ls hl => ?_)
            refine lv_iinc (v := v2 + (1 : Int32)) (lv' := [(2, .int (v2 + (1 : Int32))), (1, .int y3), (3, .int y3), (0, .ref (ad 0))]) hx hb dd_O_leastInHand_37 hl (k := 3) rfl rfl (by decide) rfl (fun ls hl => ?_)
            refine lv_goto (tgt := 4) hx hb dd_O_leastInHand_40 (by decide) ?_
            exact ih _ _ h _ (lv_sub hl [3, 1, 0] rfl)
          · have h := in_out hc5 h
            refine lv_iload_n hx hb dd_O_leastInHand_30 rfl (lv_at hl 0 rfl) ?_
            refine lv_iload_n hx hb dd_O_leastInHand_31 rfl (lv_at hl 2 rfl) ?_
            refine lv_icmp_ge (tgt := 37) hx hb dd_O_leastInHand_32 (by decide) (fun hc6 => ?_) (fun hc6 => ?_)
            · have h := ip_out hc6 h
              refine lv_iinc (v := v2 + (1 : Int32)) (lv' := [(2, .int (v2 + (1 : Int32))), (3, .int y3), (0, .ref (ad 0)), (1, .int v1)]) hx hb dd_O_leastInHand_37 hl (k := 3) rfl rfl (by decide) rfl (fun ls hl => ?_)
              refine lv_goto (tgt := 4) hx hb dd_O_leastInHand_40 (by decide) ?_
              exact ih _ _ h _ (lv_sub hl [2, 3, 0] rfl)
            · have h := in_out hc6 h
              refine lv_iload_n hx hb dd_O_leastInHand_35 rfl (lv_at hl 0 rfl) ?_
              refine lv_istore_n (lv' := [(1, .int y3), (3, .int y3), (0, .ref (ad 0)), (2, .int v2)]) hx hb dd_O_leastInHand_36 rfl hl (by decide) rfl (fun ls hl => ?_)
              refine lv_iinc (v := v2 + (1 : Int32)) (lv' := [(2, .int (v2 + (1 : Int32))), (1, .int y3), (3, .int y3), (0, .ref (ad 0))]) hx hb dd_O_leastInHand_37 hl (k := 3) rfl rfl (by decide) rfl (fun ls hl => ?_)
              refine lv_goto (tgt := 4) hx hb dd_O_leastInHand_40 (by decide) ?_
              exact ih _ _ h _ (lv_sub hl [3, 1, 0] rfl)
  have hl := lv_entry ([.ref (ad 0)]) (n := 4) (Nat.le_of_ble_eq_true rfl)
  rw [lg_entry_eq]
  generalize (lg_sl ([.ref (ad 0)]) ++ List.replicate (4 - (lg_sl ([.ref (ad 0)])).length) Slot.unset).toArray = ls at hl ⊢
  have hl : lv_has ls 4 [(0, .ref (ad 0))] := hl
  unfold ff_O_leastInHand at h
  refine lv_iconst (v := 0) hx hb dd_O_leastInHand_0 (by decide) ?_
  refine lv_istore_n (lv' := [(1, .int (0 : Int32)), (0, .ref (ad 0))]) hx hb dd_O_leastInHand_1 rfl hl (by decide) rfl (fun ls hl => ?_)
  refine lv_iconst (v := 0) hx hb dd_O_leastInHand_2 (by decide) ?_
  refine lv_istore_n (lv' := [(2, .int (0 : Int32)), (1, .int (0 : Int32)), (0, .ref (ad 0))]) hx hb dd_O_leastInHand_3 rfl hl (by decide) rfl (fun ls hl => ?_)
  exact L4  _ _ _ h _ (lv_sub hl [2, 1, 0] rfl)
def ff_P_isInFor (n : Nat) (I : MI) (J : MJ) (a0 : Nat) : Option (Int32) := if (I a0 3) = 0 then (if (I a0 1) ≤ 0 then (some (0 : Int32)) else (some (1 : Int32))) else (some (0 : Int32))
set_option maxHeartbeats 4000000 in
set_option maxRecDepth 100000 in
theorem mm_P_isInFor (l : Launch) (D : va_G) (kc : Nat → ClassId) (ad : Nat → Nat) (I : MI) (J : MJ) (n : Nat) (a0 : Nat) (ha0 : isP a0) (r : Int32) (h : ff_P_isInFor n I J a0 = some r) : Met l yy_P_isInFor (.code yy_P_isInFor cc_P_isInFor 1 (some .boolean) :: kw) { frames := 0, cells := 0, slots := 0, locals := 0 } (va_Pc [.ref (ad a0)] (BR D kc (wC kc ad I J))) (vp_Si (fun z => z = r)) 0 0 (fun _ => False) := by
  refine Met.ofW (cc := cc_P_isInFor) (maxL := 1) (ret := some .boolean) (by decide) rfl ?_
  intro p e s m args below meth c s₁ B hml hv
  obtain ⟨rfl, hP, hK⟩ := hv
  have hx := B.exec
  have hb := B.bytes
  have hr := B.returns
  have hlocks := B.notSynchronized
  have hk : ∀ w ∈ kw, w.before _ s = true := fun w hw => atoms_spec (ws := (.code yy_P_isInFor cc_P_isInFor 1 (some .boolean) :: kw)) B.pre w (List.mem_cons_of_mem _ hw)
  have hown : s.vm.findClass "OpenDeal$Player" = some m.cls := findClass_of_methodNamed B.named
  have hl := lv_entry ([.ref (ad a0)]) (n := 1) (Nat.le_of_ble_eq_true rfl)
  rw [lg_entry_eq]
  generalize (lg_sl ([.ref (ad a0)]) ++ List.replicate (1 - (lg_sl ([.ref (ad a0)])).length) Slot.unset).toArray = ls at hl ⊢
  have hl : lv_has ls 1 [(0, .ref (ad a0))] := hl
  unfold ff_P_isInFor at h
  refine lv_aload_n hx hb dd_P_isInFor_0 rfl (lv_at hl 0 rfl) ?_
  refine va_get (D := D) (ci := 1) (v := .int (I a0 3)) (C := "OpenDeal$Player") (T := T_P) (N := 13) hx hb hk in_P hown hK hP a0 (at_P ha0) rfl 3 (by decide) (hk _ kw_56) (fun _ h9 => h9) rfl dd_P_isInFor_1 ?_
  refine lv_if_ne (tgt := 18) hx hb dd_P_isInFor_4 (by decide) (fun hc1 => ?_) (fun hc1 => ?_)
  · have h := in_out hc1 h
    refine lv_iconst (v := 0) hx hb dd_P_isInFor_18 (by decide) ?_
    obtain rfl := Option.some.inj h
    exact W.zret hx hb hr rfl (fun t ht hW => ⟨_, rfl, rfl, ht⟩) (fun q hq => by cases hq) dd_P_isInFor_19
  · have h := ip_out hc1 h
    refine lv_aload_n hx hb dd_P_isInFor_7 rfl (lv_at hl 0 rfl) ?_
    refine va_get (D := D) (ci := 1) (v := .int (I a0 1)) (C := "OpenDeal$Player") (T := T_P) (N := 13) hx hb hk in_P hown hK hP a0 (at_P ha0) rfl 1 (by decide) (hk _ kw_52) (fun _ h9 => h9) rfl dd_P_isInFor_8 ?_
    refine lv_if_le (tgt := 18) hx hb dd_P_isInFor_11 (by decide) (fun hc2 => ?_) (fun hc2 => ?_)
    · have h := ip_out hc2 h
      refine lv_iconst (v := 0) hx hb dd_P_isInFor_18 (by decide) ?_
      obtain rfl := Option.some.inj h
      exact W.zret hx hb hr rfl (fun t ht hW => ⟨_, rfl, rfl, ht⟩) (fun q hq => by cases hq) dd_P_isInFor_19
    · have h := in_out hc2 h
      refine lv_iconst (v := 1) hx hb dd_P_isInFor_14 (by decide) ?_
      refine lv_goto (tgt := 19) hx hb dd_P_isInFor_15 (by decide) ?_
      obtain rfl := Option.some.inj h
      exact W.zret hx hb hr rfl (fun t ht hW => ⟨_, rfl, rfl, ht⟩) (fun q hq => by cases hq) dd_P_isInFor_19
def ff_O_bestRank_4 (I : MI) (J : MJ)  : Nat → Int32 → Int32 → Int32 → Option (Int32)
  | 0, _, _, _ => none
  | n + 1, v1, v2, v3 => if (I 0 2) ≤ v3 then (some v2) else (if ¬ (v3 < 0 ∨ 4 ≤ (v3).toNatClampNeg) then (ff_P_isInFor n I J (15 + 6 * (v3).toNatClampNeg)).bind fun r3 => if r3 = 0 then (ff_O_bestRank_4 I J n v1 v2 (v3 + (1 : Int32))) else ((ff_O_rankOf n v3 v1).bind fun r5 => tl (if v2 < r5 then r5 else v2) fun y6 => ff_O_bestRank_4 I J n v1 y6 (v3 + (1 : Int32))) else none)
def ff_O_bestRank (n : Nat) (I : MI) (J : MJ) (a1 : Int32) : Option (Int32) := ff_O_bestRank_4 I J n a1 (-1 : Int32) (0 : Int32)
set_option maxHeartbeats 4000000 in
set_option maxRecDepth 100000 in
theorem mm_O_bestRank (l : Launch) (D : va_G) (kc : Nat → ClassId) (ad : Nat → Nat) (I : MI) (J : MJ) (n : Nat) (a1 : Int32) (r : Int32) (h : ff_O_bestRank n I J a1 = some r) : Met l yy_O_bestRank (.code yy_O_bestRank cc_O_bestRank 4 (some .int) :: kw) { frames := 1, cells := 0, slots := 0, locals := 21 } (va_Pc [.ref (ad 0), .int a1] (BR D kc (wC kc ad I J))) (vp_Si (fun z => z = r)) 0 0 (fun _ => False) := by
  refine Met.ofW (cc := cc_O_bestRank) (maxL := 4) (ret := some .int) (by decide) rfl ?_
  intro p e s m args below meth c s₁ B hml hv
  obtain ⟨rfl, hP, hK⟩ := hv
  have hx := B.exec
  have hb := B.bytes
  have hr := B.returns
  have hlocks := B.notSynchronized
  have hk : ∀ w ∈ kw, w.before _ s = true := fun w hw => atoms_spec (ws := (.code yy_O_bestRank cc_O_bestRank 4 (some .int) :: kw)) B.pre w (List.mem_cons_of_mem _ hw)
  have hown : s.vm.findClass "OpenDeal" = some m.cls := findClass_of_methodNamed B.named
  have L4 : ∀  (n : Nat) (v1 : Int32) (v2 : Int32) (v3 : Int32), ff_O_bestRank_4 I J n v1 v2 v3 = some r → ∀ ls, lv_has ls 4 [(0, .ref (ad 0)), (1, .int v1), (2, .int v2), (3, .int v3)] → W p l e (headSpec (.code yy_O_bestRank cc_O_bestRank 4 (some .int) :: kw) { frames := 1, cells := 0, slots := 0, locals := 21 }).room s m ([.ref (ad 0), .int a1] : List Value).toArray below meth c s.heap [] 0 0 (MQ below (vp_Si (fun z => z = r)) ([.ref (ad 0), .int a1] : List Value).toArray s 0 0 (fun _ => False)) (F0 m 4 ls []) := by
    intro  n
    induction n with
    | zero => intro v1 v2 v3 h; exact absurd h (by simp [ff_O_bestRank_4])
    | succ n ih =>
      intro v1 v2 v3 h ls hl
      rw [ff_O_bestRank_4] at h
      refine lv_iload_n hx hb dd_O_bestRank_4 rfl (lv_at hl 3 rfl) ?_
      refine lv_aload_n hx hb dd_O_bestRank_5 rfl (lv_at hl 0 rfl) ?_
      refine va_get (D := D) (ci := 0) (v := .int (I 0 2)) (C := "OpenDeal") (T := T_O) (N := 11) hx hb hk in_O hown hK hP 0 at_O rfl 2 (by decide) (hk _ kw_107) (fun _ h9 => h9) rfl dd_O_bestRank_6 ?_
      refine lv_icmp_ge (tgt := 40) hx hb dd_O_bestRank_9 (by decide) (fun hc1 => ?_) (fun hc1 => ?_)
      · have h := ip_out hc1 h
        refine lv_iload_n hx hb dd_O_bestRank_40 rfl (lv_at hl 2 rfl) ?_
        obtain rfl := Option.some.inj h
        exact W.iret hx hb hr (fun t ht hW => ⟨_, rfl, rfl, ht⟩) (fun q hq => by cases hq) dd_O_bestRank_41
      · have h := in_out hc1 h
        refine lv_aload_n hx hb dd_O_bestRank_12 rfl (lv_at hl 0 rfl) ?_
        refine va_get (D := D) (ci := 0) (v := .ref (ad 1)) (C := "OpenDeal") (T := T_O) (N := 11) hx hb hk in_O hown hK hP 0 at_O rfl 3 (by decide) (hk _ kw_108) (fun _ h9 => h9) rfl dd_O_bestRank_13 ?_
        refine lv_iload_n hx hb dd_O_bestRank_16 rfl (lv_at hl 3 rfl) ?_
        obtain ⟨hi2, h⟩ := oi_out h
        refine ap_ald (b := ad (15 + 6 * (v3).toNatClampNeg)) hx hb hK hP 1 3 at_pl rfl hi2 (if_pos (vi_lt hi2)) dd_O_bestRank_17 ?_
        obtain ⟨r3, hr3, h⟩ := ob_out h
        refine cr_Vi (n := 0) (As := []) hx hb hml hown hk (mm_P_isInFor l D kc ad _ _ _ _ (isP_of (vi_lt hi2)) _ hr3) hK hP (15 + 6 * (v3).toNatClampNeg) (at_P (isP_of (vi_lt hi2))) rfl rfl kw_367 kw_368 kw_369 kw_2 kw_370 ⟨rfl, rfl⟩ (by decide +kernel) ⟨Nat.le_of_ble_eq_true rfl, Nat.le_of_ble_eq_true rfl⟩ rfl hl.1 rfl (Nat.le_of_ble_eq_true rfl) dd_O_bestRank_18 ⟨Nat.le_of_ble_eq_true rfl, Nat.le_of_ble_eq_true rfl⟩ ?_
        refine lv_if_eq (tgt := 34) hx hb dd_O_bestRank_21 (by decide) (fun hc4 => ?_) (fun hc4 => ?_)
        · have h := ip_out hc4 h
          refine lv_iinc (v := v3 + (1 : Int32)) (lv' := [(3, .int (v3 + (1 : Int32))), (0, .ref (ad 0)), (1, .int v1), (2, .int v2)]) hx hb dd_O_bestRank_34 hl (k := 3) rfl rfl (by decide) rfl (fun ls hl => ?_)
          refine lv_goto (tgt := 4) hx hb dd_O_bestRank_37 (by decide) ?_
          exact ih _ _ _ h _ (lv_sub hl [1, 2, 3, 0] rfl)
        · have h := in_out hc4 h
          refine lv_iload_n hx hb dd_O_bestRank_24 rfl (lv_at hl 2 rfl) ?_
          refine lv_iload_n hx hb dd_O_bestRank_25 rfl (lv_at hl 3 rfl) ?_
          refine lv_iload_n hx hb dd_O_bestRank_26 rfl (lv_at hl 1 rfl) ?_
          obtain ⟨r5, hr5, h⟩ := ob_out h
          refine ro_Si (n := 2) (As := [.int v3, .int v1]) hx hb hml hown hk (mm_O_rankOf l _ _ _ _ hr5) (fun U _ _ => trivial) (fun _ _ _ _ _ => trivial) kw_371 kw_372 kw_1 kw_373 ⟨rfl, rfl⟩ (by decide +kernel) ⟨Nat.le_of_ble_eq_true rfl, Nat.le_of_ble_eq_true rfl⟩ rfl hl.1 rfl (Nat.le_of_ble_eq_true rfl) dd_O_bestRank_27 ⟨Nat.le_of_ble_eq_true rfl, Nat.le_of_ble_eq_true rfl⟩ ?_
          refine va_mmax hx hb (hml.trans hl.1.symm) hown (hk _ kw_333) (hk _ kw_334) (hk _ kw_12) (hk _ kw_335) (Nat.le_of_ble_eq_true rfl) (Nat.le_of_ble_eq_true rfl) (Nat.le_of_ble_eq_true rfl) (Nat.le_of_ble_eq_true rfl) dd_O_bestRank_30 ?_
          refine lv_topi (fun y6 ey6 => ?_)
          have h := tl_at ey6 h
          refine lv_istore_n (lv' := [(2, .int y6), (0, .ref (ad 0)), (1, .int v1), (3, .int v3)]) hx hb dd_O_bestRank_33 rfl hl (by decide) rfl (fun ls hl => ?_)
          refine lv_iinc (v := v3 + (1 : Int32)) (lv' := [(3, .int (v3 + (1 : Int32))), (2, .int y6), (0, .ref (ad 0)), (1, .int v1)]) hx hb dd_O_bestRank_34 hl (k := 3) rfl rfl (by decide) rfl (fun ls hl => ?_)
          refine lv_goto (tgt := 4) hx hb dd_O_bestRank_37 (by decide) ?_
          exact ih _ _ _ h _ (lv_sub hl [2, 3, 1, 0] rfl)
  have hl := lv_entry ([.ref (ad 0), .int a1]) (n := 4) (Nat.le_of_ble_eq_true rfl)
  rw [lg_entry_eq]
  generalize (lg_sl ([.ref (ad 0), .int a1]) ++ List.replicate (4 - (lg_sl ([.ref (ad 0), .int a1])).length) Slot.unset).toArray = ls at hl ⊢
  have hl : lv_has ls 4 [(0, .ref (ad 0)), (1, .int a1)] := hl
  unfold ff_O_bestRank at h
  refine lv_iconst (v := -1) hx hb dd_O_bestRank_0 (by decide) ?_
  refine lv_istore_n (lv' := [(2, .int (-1 : Int32)), (0, .ref (ad 0)), (1, .int a1)]) hx hb dd_O_bestRank_1 rfl hl (by decide) rfl (fun ls hl => ?_)
  refine lv_iconst (v := 0) hx hb dd_O_bestRank_2 (by decide) ?_
  refine lv_istore_n (lv' := [(3, .int (0 : Int32)), (2, .int (-1 : Int32)), (0, .ref (ad 0)), (1, .int a1)]) hx hb dd_O_bestRank_3 rfl hl (by decide) rfl (fun ls hl => ?_)
  exact L4  _ _ _ _ h _ (lv_sub hl [2, 3, 1, 0] rfl)
def ff_O_winsLayer (n : Nat) (I : MI) (J : MJ) (a1 : Int32) (a2 : Int32) (a3 : Int32) : Option (Int32) := if ¬ (a1 < 0 ∨ 4 ≤ (a1).toNatClampNeg) then (ff_P_isInFor n I J (15 + 6 * (a1).toNatClampNeg)).bind fun r2 => if r2 = 0 then (some (0 : Int32)) else ((ff_O_rankOf n a1 a2).bind fun r4 => if r4 = a3 then (some (1 : Int32)) else (some (0 : Int32))) else none
set_option maxHeartbeats 4000000 in
set_option maxRecDepth 100000 in
theorem mm_O_winsLayer (l : Launch) (D : va_G) (kc : Nat → ClassId) (ad : Nat → Nat) (I : MI) (J : MJ) (n : Nat) (a1 : Int32) (a2 : Int32) (a3 : Int32) (r : Int32) (h : ff_O_winsLayer n I J a1 a2 a3 = some r) : Met l yy_O_winsLayer (.code yy_O_winsLayer cc_O_winsLayer 4 (some .boolean) :: kw) { frames := 1, cells := 0, slots := 0, locals := 21 } (va_Pc [.ref (ad 0), .int a1, .int a2, .int a3] (BR D kc (wC kc ad I J))) (vp_Si (fun z => z = r)) 0 0 (fun _ => False) := by
  refine Met.ofW (cc := cc_O_winsLayer) (maxL := 4) (ret := some .boolean) (by decide) rfl ?_
  intro p e s m args below meth c s₁ B hml hv
  obtain ⟨rfl, hP, hK⟩ := hv
  have hx := B.exec
  have hb := B.bytes
  have hr := B.returns
  have hlocks := B.notSynchronized
  have hk : ∀ w ∈ kw, w.before _ s = true := fun w hw => atoms_spec (ws := (.code yy_O_winsLayer cc_O_winsLayer 4 (some .boolean) :: kw)) B.pre w (List.mem_cons_of_mem _ hw)
  have hown : s.vm.findClass "OpenDeal" = some m.cls := findClass_of_methodNamed B.named
  have hl := lv_entry ([.ref (ad 0), .int a1, .int a2, .int a3]) (n := 4) (Nat.le_of_ble_eq_true rfl)
  rw [lg_entry_eq]
  generalize (lg_sl ([.ref (ad 0), .int a1, .int a2, .int a3]) ++ List.replicate (4 - (lg_sl ([.ref (ad 0), .int a1, .int a2, .int a3])).length) Slot.unset).toArray = ls at hl ⊢
  have hl : lv_has ls 4 [(0, .ref (ad 0)), (1, .int a1), (2, .int a2), (3, .int a3)] := hl
  unfold ff_O_winsLayer at h
  refine lv_aload_n hx hb dd_O_winsLayer_0 rfl (lv_at hl 0 rfl) ?_
  refine va_get (D := D) (ci := 0) (v := .ref (ad 1)) (C := "OpenDeal") (T := T_O) (N := 11) hx hb hk in_O hown hK hP 0 at_O rfl 3 (by decide) (hk _ kw_108) (fun _ h9 => h9) rfl dd_O_winsLayer_1 ?_
  refine lv_iload_n hx hb dd_O_winsLayer_4 rfl (lv_at hl 1 rfl) ?_
  obtain ⟨hi1, h⟩ := oi_out h
  refine ap_ald (b := ad (15 + 6 * (a1).toNatClampNeg)) hx hb hK hP 1 3 at_pl rfl hi1 (if_pos (vi_lt hi1)) dd_O_winsLayer_5 ?_
  obtain ⟨r2, hr2, h⟩ := ob_out h
  refine cr_Vi (n := 0) (As := []) hx hb hml hown hk (mm_P_isInFor l D kc ad _ _ _ _ (isP_of (vi_lt hi1)) _ hr2) hK hP (15 + 6 * (a1).toNatClampNeg) (at_P (isP_of (vi_lt hi1))) rfl rfl kw_367 kw_368 kw_369 kw_2 kw_370 ⟨rfl, rfl⟩ (by decide +kernel) ⟨Nat.le_of_ble_eq_true rfl, Nat.le_of_ble_eq_true rfl⟩ rfl hl.1 rfl (Nat.le_of_ble_eq_true rfl) dd_O_winsLayer_6 ⟨Nat.le_of_ble_eq_true rfl, Nat.le_of_ble_eq_true rfl⟩ ?_
  refine lv_if_eq (tgt := 25) hx hb dd_O_winsLayer_9 (by decide) (fun hc3 => ?_) (fun hc3 => ?_)
  · have h := ip_out hc3 h
    refine lv_iconst (v := 0) hx hb dd_O_winsLayer_25 (by decide) ?_
    obtain rfl := Option.some.inj h
    exact W.zret hx hb hr rfl (fun t ht hW => ⟨_, rfl, rfl, ht⟩) (fun q hq => by cases hq) dd_O_winsLayer_26
  · have h := in_out hc3 h
    refine lv_iload_n hx hb dd_O_winsLayer_12 rfl (lv_at hl 1 rfl) ?_
    refine lv_iload_n hx hb dd_O_winsLayer_13 rfl (lv_at hl 2 rfl) ?_
    obtain ⟨r4, hr4, h⟩ := ob_out h
    refine ro_Si (n := 2) (As := [.int a1, .int a2]) hx hb hml hown hk (mm_O_rankOf l _ _ _ _ hr4) (fun U _ _ => trivial) (fun _ _ _ _ _ => trivial) kw_371 kw_372 kw_1 kw_373 ⟨rfl, rfl⟩ (by decide +kernel) ⟨Nat.le_of_ble_eq_true rfl, Nat.le_of_ble_eq_true rfl⟩ rfl hl.1 rfl (Nat.le_of_ble_eq_true rfl) dd_O_winsLayer_14 ⟨Nat.le_of_ble_eq_true rfl, Nat.le_of_ble_eq_true rfl⟩ ?_
    refine lv_iload_n hx hb dd_O_winsLayer_17 rfl (lv_at hl 3 rfl) ?_
    refine lv_icmp_ne (tgt := 25) hx hb dd_O_winsLayer_18 (by decide) (fun hc5 => ?_) (fun hc5 => ?_)
    · have h := in_out hc5 h
      refine lv_iconst (v := 0) hx hb dd_O_winsLayer_25 (by decide) ?_
      obtain rfl := Option.some.inj h
      exact W.zret hx hb hr rfl (fun t ht hW => ⟨_, rfl, rfl, ht⟩) (fun q hq => by cases hq) dd_O_winsLayer_26
    · have h := ip_out hc5 h
      refine lv_iconst (v := 1) hx hb dd_O_winsLayer_21 (by decide) ?_
      refine lv_goto (tgt := 26) hx hb dd_O_winsLayer_22 (by decide) ?_
      obtain rfl := Option.some.inj h
      exact W.zret hx hb hr rfl (fun t ht hW => ⟨_, rfl, rfl, ht⟩) (fun q hq => by cases hq) dd_O_winsLayer_26
