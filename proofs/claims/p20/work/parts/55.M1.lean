/-! the reference, laid by program -/
def ff_M_isExponent (n : Nat) (I : MI) (J : MJ) (a1 : Int32) : Option (Int32) := if a1 < (3 : Int32) then (some (0 : Int32)) else (if ((I 0 1) - (2 : Int32)) < a1 then (some (0 : Int32)) else (tl (a1 - a1 / (2 : Int32) * (2 : Int32)) fun y3 => if y3 = (1 : Int32) then (if a1 = (I 0 2) then (some (0 : Int32)) else (some (1 : Int32))) else (some (0 : Int32))))
set_option maxHeartbeats 4000000 in
set_option maxRecDepth 100000 in
theorem mm_M_isExponent (l : Launch) (D : va_G) (kc : Nat → ClassId) (ad : Nat → Nat) (I : MI) (J : MJ) (n : Nat) (a1 : Int32) (r : Int32) (h : ff_M_isExponent n I J a1 = some r) : Met l yy_M_isExponent (.code yy_M_isExponent cc_M_isExponent 2 (some .boolean) :: kw) { frames := 0, cells := 0, slots := 0, locals := 0 } (va_Pc [.ref (ad 0), .int a1] (BR D kc (wM kc ad I J))) (vp_Si (fun z => z = r)) 0 0 (fun _ => False) := by
  refine Met.ofW (cc := cc_M_isExponent) (maxL := 2) (ret := some .boolean) (by decide) rfl ?_
  intro p e s m args below meth c s₁ B hml hv
  obtain ⟨rfl, hP, hK⟩ := hv
  have hx := B.exec
  have hb := B.bytes
  have hr := B.returns
  have hlocks := B.notSynchronized
  have hk : ∀ w ∈ kw, w.before _ s = true := fun w hw => atoms_spec (ws := (.code yy_M_isExponent cc_M_isExponent 2 (some .boolean) :: kw)) B.pre w (List.mem_cons_of_mem _ hw)
  have hown : s.vm.findClass "OpenDealModel" = some m.cls := findClass_of_methodNamed B.named
  have hl := lv_entry ([.ref (ad 0), .int a1]) (n := 2) (Nat.le_of_ble_eq_true rfl)
  rw [lg_entry_eq]
  generalize (lg_sl ([.ref (ad 0), .int a1]) ++ List.replicate (2 - (lg_sl ([.ref (ad 0), .int a1])).length) Slot.unset).toArray = ls at hl ⊢
  have hl : lv_has ls 2 [(0, .ref (ad 0)), (1, .int a1)] := hl
  unfold ff_M_isExponent at h
  refine lv_iload_n hx hb dd_M_isExponent_0 rfl (lv_at hl 1 rfl) ?_
  refine lv_iconst (v := 3) hx hb dd_M_isExponent_1 (by decide) ?_
  refine lv_icmp_lt (tgt := 34) hx hb dd_M_isExponent_2 (by decide) (fun hc1 => ?_) (fun hc1 => ?_)
  · have h := ip_out hc1 h
    refine lv_iconst (v := 0) hx hb dd_M_isExponent_34 (by decide) ?_
    obtain rfl := Option.some.inj h
    exact W.zret hx hb hr rfl (fun t ht hW => ⟨_, rfl, rfl, ht⟩) (fun q hq => by cases hq) dd_M_isExponent_35
  · have h := in_out hc1 h
    refine lv_iload_n hx hb dd_M_isExponent_5 rfl (lv_at hl 1 rfl) ?_
    refine lv_aload_n hx hb dd_M_isExponent_6 rfl (lv_at hl 0 rfl) ?_
    refine va_get (D := D) (ci := 4) (v := .int (I 0 1)) (C := "OpenDealModel") (T := T_M) (N := 32) hx hb hk in_M hown hK hP 0 am_0 rfl 1 (by decide) (hk _ kw_538) (fun _ h9 => h9) rfl dd_M_isExponent_7 ?_
    refine lv_iconst (v := 2) hx hb dd_M_isExponent_10 (by decide) ?_
    refine lv_isub hx hb dd_M_isExponent_11 ?_
    refine lv_icmp_gt (tgt := 34) hx hb dd_M_isExponent_12 (by decide) (fun hc2 => ?_) (fun hc2 => ?_)
    · have h := ip_out hc2 h
      refine lv_iconst (v := 0) hx hb dd_M_isExponent_34 (by decide) ?_
      obtain rfl := Option.some.inj h
      exact W.zret hx hb hr rfl (fun t ht hW => ⟨_, rfl, rfl, ht⟩) (fun q hq => by cases hq) dd_M_isExponent_35
    · have h := in_out hc2 h
      refine lv_iload_n hx hb dd_M_isExponent_15 rfl (lv_at hl 1 rfl) ?_
      refine lv_iconst (v := 2) hx hb dd_M_isExponent_16 (by decide) ?_
      refine lv_irem hx hb dd_M_isExponent_17 (by decide) ?_
      refine lv_topi (fun y3 ey3 => ?_)
      have h := tl_at ey3 h
      refine lv_iconst (v := 1) hx hb dd_M_isExponent_18 (by decide) ?_
      refine lv_icmp_ne (tgt := 34) hx hb dd_M_isExponent_19 (by decide) (fun hc4 => ?_) (fun hc4 => ?_)
      · have h := in_out hc4 h
        refine lv_iconst (v := 0) hx hb dd_M_isExponent_34 (by decide) ?_
        obtain rfl := Option.some.inj h
        exact W.zret hx hb hr rfl (fun t ht hW => ⟨_, rfl, rfl, ht⟩) (fun q hq => by cases hq) dd_M_isExponent_35
      · have h := ip_out hc4 h
        refine lv_iload_n hx hb dd_M_isExponent_22 rfl (lv_at hl 1 rfl) ?_
        refine lv_aload_n hx hb dd_M_isExponent_23 rfl (lv_at hl 0 rfl) ?_
        refine va_get (D := D) (ci := 4) (v := .int (I 0 2)) (C := "OpenDealModel") (T := T_M) (N := 32) hx hb hk in_M hown hK hP 0 am_0 rfl 2 (by decide) (hk _ kw_539) (fun _ h9 => h9) rfl dd_M_isExponent_24 ?_
        refine lv_icmp_eq (tgt := 34) hx hb dd_M_isExponent_27 (by decide) (fun hc5 => ?_) (fun hc5 => ?_)
        · have h := ip_out hc5 h
          refine lv_iconst (v := 0) hx hb dd_M_isExponent_34 (by decide) ?_
          obtain rfl := Option.some.inj h
          exact W.zret hx hb hr rfl (fun t ht hW => ⟨_, rfl, rfl, ht⟩) (fun q hq => by cases hq) dd_M_isExponent_35
        · have h := in_out hc5 h
          refine lv_iconst (v := 1) hx hb dd_M_isExponent_30 (by decide) ?_
          refine lv_goto (tgt := 35) hx hb dd_M_isExponent_31 (by decide) ?_
          obtain rfl := Option.some.inj h
          exact W.zret hx hb hr rfl (fun t ht hW => ⟨_, rfl, rfl, ht⟩) (fun q hq => by cases hq) dd_M_isExponent_35
def ff_M_inverse (n : Nat) (I : MI) (J : MJ) (a1 : Int32) : Option (Int32) := (ff_M_power n a1 ((I 0 2) - (2 : Int32)) ((I 0 1) - (1 : Int32))).bind fun r1 => some r1
set_option maxHeartbeats 4000000 in
set_option maxRecDepth 100000 in
theorem mm_M_inverse (l : Launch) (D : va_G) (kc : Nat → ClassId) (ad : Nat → Nat) (I : MI) (J : MJ) (n : Nat) (a1 : Int32) (r : Int32) (h : ff_M_inverse n I J a1 = some r) : Met l yy_M_inverse (.code yy_M_inverse cc_M_inverse 2 (some .int) :: kw) { frames := 1, cells := 0, slots := 0, locals := 27 } (va_Pc [.ref (ad 0), .int a1] (BR D kc (wM kc ad I J))) (vp_Si (fun z => z = r)) 0 0 (fun _ => False) := by
  refine Met.ofW (cc := cc_M_inverse) (maxL := 2) (ret := some .int) (by decide) rfl ?_
  intro p e s m args below meth c s₁ B hml hv
  obtain ⟨rfl, hP, hK⟩ := hv
  have hx := B.exec
  have hb := B.bytes
  have hr := B.returns
  have hlocks := B.notSynchronized
  have hk : ∀ w ∈ kw, w.before _ s = true := fun w hw => atoms_spec (ws := (.code yy_M_inverse cc_M_inverse 2 (some .int) :: kw)) B.pre w (List.mem_cons_of_mem _ hw)
  have hown : s.vm.findClass "OpenDealModel" = some m.cls := findClass_of_methodNamed B.named
  have hl := lv_entry ([.ref (ad 0), .int a1]) (n := 2) (Nat.le_of_ble_eq_true rfl)
  rw [lg_entry_eq]
  generalize (lg_sl ([.ref (ad 0), .int a1]) ++ List.replicate (2 - (lg_sl ([.ref (ad 0), .int a1])).length) Slot.unset).toArray = ls at hl ⊢
  have hl : lv_has ls 2 [(0, .ref (ad 0)), (1, .int a1)] := hl
  unfold ff_M_inverse at h
  refine lv_iload_n hx hb dd_M_inverse_0 rfl (lv_at hl 1 rfl) ?_
  refine lv_aload_n hx hb dd_M_inverse_1 rfl (lv_at hl 0 rfl) ?_
  refine va_get (D := D) (ci := 4) (v := .int (I 0 2)) (C := "OpenDealModel") (T := T_M) (N := 32) hx hb hk in_M hown hK hP 0 am_0 rfl 2 (by decide) (hk _ kw_539) (fun _ h9 => h9) rfl dd_M_inverse_2 ?_
  refine lv_iconst (v := 2) hx hb dd_M_inverse_5 (by decide) ?_
  refine lv_isub hx hb dd_M_inverse_6 ?_
  refine lv_aload_n hx hb dd_M_inverse_7 rfl (lv_at hl 0 rfl) ?_
  refine va_get (D := D) (ci := 4) (v := .int (I 0 1)) (C := "OpenDealModel") (T := T_M) (N := 32) hx hb hk in_M hown hK hP 0 am_0 rfl 1 (by decide) (hk _ kw_538) (fun _ h9 => h9) rfl dd_M_inverse_8 ?_
  refine lv_iconst (v := 1) hx hb dd_M_inverse_11 (by decide) ?_
  refine lv_isub hx hb dd_M_inverse_12 ?_
  obtain ⟨r1, hr1, h⟩ := ob_out h
  refine ro_Si (n := 3) (As := [.int a1, .int ((I 0 2) - (2 : Int32)), .int ((I 0 1) - (1 : Int32))]) hx hb hml hown hk (mm_M_power l _ _ _ _ _ hr1) (fun U _ _ => trivial) (fun _ _ _ _ _ => trivial) kw_707 kw_708 kw_4 kw_709 ⟨rfl, rfl⟩ (by decide +kernel) ⟨Nat.le_of_ble_eq_true rfl, Nat.le_of_ble_eq_true rfl⟩ rfl hl.1 rfl (Nat.le_of_ble_eq_true rfl) dd_M_inverse_13 ⟨Nat.le_of_ble_eq_true rfl, Nat.le_of_ble_eq_true rfl⟩ ?_
  obtain rfl := Option.some.inj h
  exact W.iret hx hb hr (fun t ht hW => ⟨_, rfl, rfl, ht⟩) (fun q hq => by cases hq) dd_M_inverse_16
def ff_M_leastAbove_28 (I : MI) (J : MJ)  (n : Nat) (v1 : Int32) (v2 : Int32) : Option (Int32) := if ((I 0 1) - (2 : Int32)) < v2 then (some (3 : Int32)) else (some v2)
def ff_M_leastAbove_4 (I : MI) (J : MJ)  : Nat → Int32 → Int32 → Option (Int32)
  | 0, _, _ => none
  | n + 1, v1, v2 => if ((I 0 1) - (2 : Int32)) < v2 then (ff_M_leastAbove_28 I J n v1 v2) else ((ff_M_isExponent n I J v2).bind fun r3 => if r3 = 0 then (ff_M_leastAbove_4 I J n v1 (v2 + (1 : Int32))) else (ff_M_leastAbove_28 I J n v1 v2))
def ff_M_leastAbove (n : Nat) (I : MI) (J : MJ) (a1 : Int32) : Option (Int32) := tl (a1 + (1 : Int32)) fun y5 => ff_M_leastAbove_4 I J n a1 y5
set_option maxHeartbeats 4000000 in
set_option maxRecDepth 100000 in
theorem mm_M_leastAbove (l : Launch) (D : va_G) (kc : Nat → ClassId) (ad : Nat → Nat) (I : MI) (J : MJ) (n : Nat) (a1 : Int32) (r : Int32) (h : ff_M_leastAbove n I J a1 = some r) : Met l yy_M_leastAbove (.code yy_M_leastAbove cc_M_leastAbove 3 (some .int) :: kw) { frames := 1, cells := 0, slots := 0, locals := 21 } (va_Pc [.ref (ad 0), .int a1] (BR D kc (wM kc ad I J))) (vp_Si (fun z => z = r)) 0 0 (fun _ => False) := by
  refine Met.ofW (cc := cc_M_leastAbove) (maxL := 3) (ret := some .int) (by decide) rfl ?_
  intro p e s m args below meth c s₁ B hml hv
  obtain ⟨rfl, hP, hK⟩ := hv
  have hx := B.exec
  have hb := B.bytes
  have hr := B.returns
  have hlocks := B.notSynchronized
  have hk : ∀ w ∈ kw, w.before _ s = true := fun w hw => atoms_spec (ws := (.code yy_M_leastAbove cc_M_leastAbove 3 (some .int) :: kw)) B.pre w (List.mem_cons_of_mem _ hw)
  have hown : s.vm.findClass "OpenDealModel" = some m.cls := findClass_of_methodNamed B.named
  have L28 : ∀  (n : Nat) (v1 : Int32) (v2 : Int32), ff_M_leastAbove_28 I J n v1 v2 = some r → ∀ ls, lv_has ls 3 [(0, .ref (ad 0)), (1, .int v1), (2, .int v2)] → W p l e (headSpec (.code yy_M_leastAbove cc_M_leastAbove 3 (some .int) :: kw) { frames := 1, cells := 0, slots := 0, locals := 21 }).room s m ([.ref (ad 0), .int a1] : List Value).toArray below meth c s.heap [] 0 0 (MQ below (vp_Si (fun z => z = r)) ([.ref (ad 0), .int a1] : List Value).toArray s 0 0 (fun _ => False)) (F0 m 28 ls []) := by
    intro  n v1 v2 h ls hl
    unfold ff_M_leastAbove_28 at h
    refine lv_iload_n hx hb dd_M_leastAbove_28 rfl (lv_at hl 2 rfl) ?_
    refine lv_aload_n hx hb dd_M_leastAbove_29 rfl (lv_at hl 0 rfl) ?_
    refine va_get (D := D) (ci := 4) (v := .int (I 0 1)) (C := "OpenDealModel") (T := T_M) (N := 32) hx hb hk in_M hown hK hP 0 am_0 rfl 1 (by decide) (hk _ kw_538) (fun _ h9 => h9) rfl dd_M_leastAbove_30 ?_
    refine lv_iconst (v := 2) hx hb dd_M_leastAbove_33 (by decide) ?_
    refine lv_isub hx hb dd_M_leastAbove_34 ?_
    refine lv_icmp_gt (tgt := 42) hx hb dd_M_leastAbove_35 (by decide) (fun hc1 => ?_) (fun hc1 => ?_)
    · have h := ip_out hc1 h
      refine lv_iconst (v := 3) hx hb dd_M_leastAbove_42 (by decide) ?_
      obtain rfl := Option.some.inj h
      exact W.iret hx hb hr (fun t ht hW => ⟨_, rfl, rfl, ht⟩) (fun q hq => by cases hq) dd_M_leastAbove_43
    · have h := in_out hc1 h
      refine lv_iload_n hx hb dd_M_leastAbove_38 rfl (lv_at hl 2 rfl) ?_
      refine lv_goto (tgt := 43) hx hb dd_M_leastAbove_39 (by decide) ?_
      obtain rfl := Option.some.inj h
      exact W.iret hx hb hr (fun t ht hW => ⟨_, rfl, rfl, ht⟩) (fun q hq => by cases hq) dd_M_leastAbove_43
  have L4 : ∀  (n : Nat) (v1 : Int32) (v2 : Int32), ff_M_leastAbove_4 I J n v1 v2 = some r → ∀ ls, lv_has ls 3 [(0, .ref (ad 0)), (1, .int v1), (2, .int v2)] → W p l e (headSpec (.code yy_M_leastAbove cc_M_leastAbove 3 (some .int) :: kw) { frames := 1, cells := 0, slots := 0, locals := 21 }).room s m ([.ref (ad 0), .int a1] : List Value).toArray below meth c s.heap [] 0 0 (MQ below (vp_Si (fun z => z = r)) ([.ref (ad 0), .int a1] : List Value).toArray s 0 0 (fun _ => False)) (F0 m 4 ls []) := by
    intro  n
    induction n with
    | zero => intro v1 v2 h; exact absurd h (by simp [ff_M_leastAbove_4])
    | succ n ih =>
      intro v1 v2 h ls hl
      rw [ff_M_leastAbove_4] at h
      refine lv_iload_n hx hb dd_M_leastAbove_4 rfl (lv_at hl 2 rfl) ?_
      refine lv_aload_n hx hb dd_M_leastAbove_5 rfl (lv_at hl 0 rfl) ?_
      refine va_get (D := D) (ci := 4) (v := .int (I 0 1)) (C := "OpenDealModel") (T := T_M) (N := 32) hx hb hk in_M hown hK hP 0 am_0 rfl 1 (by decide) (hk _ kw_538) (fun _ h9 => h9) rfl dd_M_leastAbove_6 ?_
      refine lv_iconst (v := 2) hx hb dd_M_leastAbove_9 (by decide) ?_
      refine lv_isub hx hb dd_M_leastAbove_10 ?_
      refine lv_icmp_gt (tgt := 28) hx hb dd_M_leastAbove_11 (by decide) (fun hc2 => ?_) (fun hc2 => ?_)
      · have h := ip_out hc2 h
        exact L28  _ _ _ h _ (lv_sub hl [0, 1, 2] rfl)
      · have h := in_out hc2 h
        refine lv_aload_n hx hb dd_M_leastAbove_14 rfl (lv_at hl 0 rfl) ?_
        refine lv_iload_n hx hb dd_M_leastAbove_15 rfl (lv_at hl 2 rfl) ?_
        obtain ⟨r3, hr3, h⟩ := ob_out h
        refine cr_Vi (n := 1) (As := [.int v2]) hx hb hml hown hk (mm_M_isExponent l D kc ad _ _ _ _ _ hr3) hK hP 0 am_0 rfl rfl kw_668 kw_670 sel_M_isExponent kw_4 kw_671 ⟨rfl, rfl⟩ (by decide +kernel) ⟨Nat.le_of_ble_eq_true rfl, Nat.le_of_ble_eq_true rfl⟩ rfl hl.1 rfl (Nat.le_of_ble_eq_true rfl) dd_M_leastAbove_16 ⟨Nat.le_of_ble_eq_true rfl, Nat.le_of_ble_eq_true rfl⟩ ?_
        refine lv_if_ne (tgt := 28) hx hb dd_M_leastAbove_19 (by decide) (fun hc4 => ?_) (fun hc4 => ?_)
        · have h := in_out hc4 h
          exact L28  _ _ _ h _ (lv_sub hl [0, 1, 2] rfl)
        · have h := ip_out hc4 h
          refine lv_iinc (v := v2 + (1 : Int32)) (lv' := [(2, .int (v2 + (1 : Int32))), (0, .ref (ad 0)), (1, .int v1)]) hx hb dd_M_leastAbove_22 hl (k := 2) rfl rfl (by decide) rfl (fun ls hl => ?_)
          refine lv_goto (tgt := 4) hx hb dd_M_leastAbove_25 (by decide) ?_
          exact ih _ _ h _ (lv_sub hl [1, 2, 0] rfl)
  have hl := lv_entry ([.ref (ad 0), .int a1]) (n := 3) (Nat.le_of_ble_eq_true rfl)
  rw [lg_entry_eq]
  generalize (lg_sl ([.ref (ad 0), .int a1]) ++ List.replicate (3 - (lg_sl ([.ref (ad 0), .int a1])).length) Slot.unset).toArray = ls at hl ⊢
  have hl : lv_has ls 3 [(0, .ref (ad 0)), (1, .int a1)] := hl
  unfold ff_M_leastAbove at h
  refine lv_iload_n hx hb dd_M_leastAbove_0 rfl (lv_at hl 1 rfl) ?_
  refine lv_iconst (v := 1) hx hb dd_M_leastAbove_1 (by decide) ?_
  refine lv_iadd hx hb dd_M_leastAbove_2 ?_
  refine lv_topi (fun y5 ey5 => ?_)
  have h := tl_at ey5 h
  refine lv_istore_n (lv' := [(2, .int y5), (0, .ref (ad 0)), (1, .int a1)]) hx hb dd_M_leastAbove_3 rfl hl (by decide) rfl (fun ls hl => ?_)
  exact L4  _ _ _ h _ (lv_sub hl [1, 2, 0] rfl)
def ff_M_nextDraw (n : Nat) (I : MI) (J : MJ)  : Option (Int32 × MI × MJ) := some (Int64.toInt32 ((Int64.toUInt64 ((uj J 0 25 (((J 0 25) * (6364136223846793005 : Int64)) + (1442695040888963407 : Int64))) 0 25) >>> ((Int32.toInt64 (33 : Int32)).toUInt64 &&& Int64.toUInt64 63)).toInt64), I, uj J 0 25 (((J 0 25) * (6364136223846793005 : Int64)) + (1442695040888963407 : Int64)))
set_option maxHeartbeats 4000000 in
set_option maxRecDepth 100000 in
theorem mm_M_nextDraw (l : Launch) (D : va_G) (kc : Nat → ClassId) (ad : Nat → Nat) (I0 : MI) (J0 : MJ) (sz n : Nat)  (r : Int32 × MI × MJ) (h : ff_M_nextDraw n I0 J0  = some r) : Met l yy_M_nextDraw (.code yy_M_nextDraw cc_M_nextDraw 1 (some .int) :: kw) { frames := 0, cells := 0, slots := 0, locals := 0 } (va_Pc [.ref (ad 0)] (BW D kc (wM kc ad I0 J0) sz)) (va_Qi (fun z (_ : Unit) => z = r.1) (EW D kc (va_A (wM kc ad I0 J0) sz) (wM kc ad r.2.1 r.2.2)) (va_A (wM kc ad I0 J0) sz)) 0 0 (va_A (wM kc ad I0 J0) sz) := by
  refine Met.ofW (cc := cc_M_nextDraw) (maxL := 1) (ret := some .int) (by decide) rfl ?_
  intro p e s m args below meth c s₁ B hml hv
  obtain ⟨rfl, hsz, hP, hK, hD0⟩ := hv
  have hx := B.exec
  have hb := B.bytes
  have hr := B.returns
  have hlocks := B.notSynchronized
  have hk : ∀ w ∈ kw, w.before _ s = true := fun w hw => atoms_spec (ws := (.code yy_M_nextDraw cc_M_nextDraw 1 (some .int) :: kw)) B.pre w (List.mem_cons_of_mem _ hw)
  have hown : s.vm.findClass "OpenDealModel" = some m.cls := findClass_of_methodNamed B.named
  subst hsz
  have hD := hD0.self (sz := s.heap.size)
  generalize hAe : va_A (wM kc ad I0 J0) s.heap.size = A at hD ⊢
  have hA : ∀ q : Nat, s.heap.size ≤ q → A q := fun q h => by rw [← hAe]; exact Or.inr h
  have hS : va_S A s.heap s.heap [] := va_S.rf
  have hP : va_P D cls5 (wM kc ad I0 J0) s.heap := hP
  clear hAe hD0
  have hl := lv_entry ([.ref (ad 0)]) (n := 1) (Nat.le_of_ble_eq_true rfl)
  rw [lg_entry_eq]
  generalize (lg_sl ([.ref (ad 0)]) ++ List.replicate (1 - (lg_sl ([.ref (ad 0)])).length) Slot.unset).toArray = ls at hl ⊢
  have hl : lv_has ls 1 [(0, .ref (ad 0))] := hl
  unfold ff_M_nextDraw at h
  refine lv_aload_n hx hb dd_M_nextDraw_0 rfl (lv_at hl 0 rfl) ?_
  refine lv_aload_n hx hb dd_M_nextDraw_1 rfl (lv_at hl 0 rfl) ?_
  refine va_get (D := D) (ci := 4) (v := .long (J0 0 25)) (C := "OpenDealModel") (T := T_M) (N := 32) hx hb hk in_M hown hK hP 0 am_0 rfl 25 (by decide) (hk _ kw_562) (fun _ h9 => h9) rfl dd_M_nextDraw_2 ?_
  refine lv_ldc2 (v := 6364136223846793005) hx hb hown (hk _ kw_697) dd_M_nextDraw_5 ?_
  refine lv_lmul hx hb dd_M_nextDraw_8 ?_
  refine lv_ldc2 (v := 1442695040888963407) hx hb hown (hk _ kw_698) dd_M_nextDraw_9 ?_
  refine lv_ladd hx hb dd_M_nextDraw_12 ?_
  refine va_put (D := D) (ci := 4) (v := .long (((J0 0 25) * (6364136223846793005 : Int64)) + (1442695040888963407 : Int64))) (ty := .long) (C := "OpenDealModel") (T := T_M) (N := 32) hx hb hk in_M ty_M tk_M nm_M hown hK hP hD hS 0 am_0 rfl 25 (by decide) (hk _ kw_562) (fun _ h9 => h9) rfl (by decide +kernel) rfl rfl (Nat.le_of_ble_eq_true rfl) dd_M_nextDraw_13 (fun H locs hP hD hS => ?_)
  rw [pt_M25] at hP hD
  refine lv_aload_n hx hb dd_M_nextDraw_16 rfl (lv_at hl 0 rfl) ?_
  refine va_get (D := D) (ci := 4) (v := .long ((uj J0 0 25 (((J0 0 25) * (6364136223846793005 : Int64)) + (1442695040888963407 : Int64))) 0 25)) (C := "OpenDealModel") (T := T_M) (N := 32) hx hb hk in_M hown hK hP 0 am_0 rfl 25 (by decide) (hk _ kw_562) (fun _ h9 => h9) rfl dd_M_nextDraw_17 ?_
  refine lv_bipush (v := 33) hx hb dd_M_nextDraw_20 (by decide) ?_
  refine lv_lushr hx hb dd_M_nextDraw_22 rfl ?_
  refine lv_l2i hx hb dd_M_nextDraw_23 rfl ?_
  obtain rfl := Option.some.inj h
  exact W.iret hx hb hr (fun t ht hW => ⟨⟨_, (), rfl, rfl, by rw [ht]; exact hP, va_K.moved hW.alike hK, hD⟩, hS.F ht⟩) hS.2.2 dd_M_nextDraw_24
def ff_M_makeOrder_29  : Nat → MI → MJ → Int64 → Int32 → Option (MI × MJ)
  | 0, _, _, _, _ => none
  | n + 1, I, J, v1, v3 => if v3 ≤ 0 then (some (I, J)) else ((ff_M_nextDraw n I J ).bind fun r2 => if ¬ (v3 + (1 : Int32)) = 0 then tl (r2.1 - r2.1 / (v3 + (1 : Int32)) * (v3 + (1 : Int32))) fun y4 => if ¬ (v3 < 0 ∨ 52 ≤ (v3).toNatClampNeg) then tl (r2.2.1 16 (v3).toNatClampNeg) fun y6 => if ¬ (y4 < 0 ∨ 52 ≤ (y4).toNatClampNeg) then if ¬ (v3 < 0 ∨ 52 ≤ (v3).toNatClampNeg) then if ¬ (y4 < 0 ∨ 52 ≤ (y4).toNatClampNeg) then ff_M_makeOrder_29 n (ui (ui r2.2.1 16 (v3).toNatClampNeg (r2.2.1 16 (y4).toNatClampNeg)) 16 (y4).toNatClampNeg y6) r2.2.2 v1 (v3 + (-1 : Int32)) else none else none else none else none else none)
def ff_M_makeOrder_7  : Nat → MI → MJ → Int64 → Int32 → Option (MI × MJ)
  | 0, _, _, _, _ => none
  | n + 1, I, J, v1, v3 => if (52 : Int32) ≤ v3 then (ff_M_makeOrder_29 n I J v1 (51 : Int32)) else (if ¬ (v3 < 0 ∨ 52 ≤ (v3).toNatClampNeg) then ff_M_makeOrder_7 n (ui I 16 (v3).toNatClampNeg v3) J v1 (v3 + (1 : Int32)) else none)
def ff_M_makeOrder (n : Nat) (I : MI) (J : MJ) (a1 : Int64) : Option (MI × MJ) := ff_M_makeOrder_7 n I (uj J 0 25 a1) a1 (0 : Int32)
set_option maxHeartbeats 4000000 in
set_option maxRecDepth 100000 in
theorem mm_M_makeOrder (l : Launch) (D : va_G) (kc : Nat → ClassId) (ad : Nat → Nat) (I0 : MI) (J0 : MJ) (sz n : Nat) (a1 : Int64) (r : MI × MJ) (h : ff_M_makeOrder n I0 J0 a1 = some r) : Met l yy_M_makeOrder (.code yy_M_makeOrder cc_M_makeOrder 6 (none) :: kw) { frames := 1, cells := 0, slots := 0, locals := 20 } (va_Pc [.ref (ad 0), .long a1] (BW D kc (wM kc ad I0 J0) sz)) (va_Qv (fun (_ : Unit) => True) (EW D kc (va_A (wM kc ad I0 J0) sz) (wM kc ad r.1 r.2)) (va_A (wM kc ad I0 J0) sz)) 0 0 (va_A (wM kc ad I0 J0) sz) := by
  refine Met.ofW (cc := cc_M_makeOrder) (maxL := 6) (ret := none) (by decide) rfl ?_
  intro p e s m args below meth c s₁ B hml hv
  obtain ⟨rfl, hsz, hP, hK, hD0⟩ := hv
  have hx := B.exec
  have hb := B.bytes
  have hr := B.returns
  have hlocks := B.notSynchronized
  have hk : ∀ w ∈ kw, w.before _ s = true := fun w hw => atoms_spec (ws := (.code yy_M_makeOrder cc_M_makeOrder 6 (none) :: kw)) B.pre w (List.mem_cons_of_mem _ hw)
  have hown : s.vm.findClass "OpenDealModel" = some m.cls := findClass_of_methodNamed B.named
  subst hsz
  have hD := hD0.self (sz := s.heap.size)
  generalize hAe : va_A (wM kc ad I0 J0) s.heap.size = A at hD ⊢
  have hA : ∀ q : Nat, s.heap.size ≤ q → A q := fun q h => by rw [← hAe]; exact Or.inr h
  have hS : va_S A s.heap s.heap [] := va_S.rf
  have hP : va_P D cls5 (wM kc ad I0 J0) s.heap := hP
  clear hAe hD0
  have L29 : ∀  (n : Nat) (I : MI) (J : MJ) (v1 : Int64) (v3 : Int32), ff_M_makeOrder_29 n I J v1 v3 = some r → ∀ (H : Heap) (locs : List Loc), va_P D cls5 (wM kc ad I J) H → va_D A (wM kc ad I J) → va_S A s.heap H locs → ∀ ls, lv_has ls 6 [(0, .ref (ad 0)), (1, .long v1), (3, .int v3)] → W p l e (headSpec (.code yy_M_makeOrder cc_M_makeOrder 6 (none) :: kw) { frames := 1, cells := 0, slots := 0, locals := 20 }).room s m ([.ref (ad 0), .long a1] : List Value).toArray below meth c H locs 0 0 (MQ below (va_Qv (fun (_ : Unit) => True) (EW D kc A (wM kc ad r.1 r.2)) A) ([.ref (ad 0), .long a1] : List Value).toArray s 0 0 A) (F0 m 29 ls []) := by
    intro  n
    induction n with
    | zero => intro I J v1 v3 h; exact absurd h (by simp [ff_M_makeOrder_29])
    | succ n ih =>
      intro I J v1 v3 h H locs hP hD hS ls hl
      rw [ff_M_makeOrder_29] at h
      refine lv_iload_n hx hb dd_M_makeOrder_29 rfl (lv_at hl 2 rfl) ?_
      refine lv_if_le (tgt := 79) hx hb dd_M_makeOrder_30 (by decide) (fun hc1 => ?_) (fun hc1 => ?_)
      · have h := ip_out hc1 h
        obtain rfl := Option.some.inj h
        exact W.vret hx hb hr (fun t ht hW => ⟨⟨(), rfl, trivial, by rw [ht]; exact hP, va_K.moved hW.alike hK, hD⟩, hS.F ht⟩) hS.2.2 dd_M_makeOrder_79
      · have h := in_out hc1 h
        refine lv_aload_n hx hb dd_M_makeOrder_33 rfl (lv_at hl 0 rfl) ?_
        obtain ⟨r2, hr2, h⟩ := ob_out h
        refine cw_Vi (n := 0) (As := []) (mc := 0) (ms := 0) hx hb hml hown hk (mm_M_nextDraw l D kc ad _ _ _ _  _ hr2) hK hP hD hS hA 0 am_0 rfl rfl kw_693 kw_695 sel_M_nextDraw kw_4 kw_696 ⟨rfl, rfl⟩ (by decide +kernel) ⟨Nat.le_of_ble_eq_true rfl, Nat.le_of_ble_eq_true rfl⟩ rfl hl.1 rfl (Nat.le_of_ble_eq_true rfl) dd_M_makeOrder_34 ⟨Nat.le_of_ble_eq_true rfl, Nat.le_of_ble_eq_true rfl⟩ (fun H locs hP hD hS => ?_)
        refine lv_iload_n hx hb dd_M_makeOrder_37 rfl (lv_at hl 2 rfl) ?_
        refine lv_iconst (v := 1) hx hb dd_M_makeOrder_38 (by decide) ?_
        refine lv_iadd hx hb dd_M_makeOrder_39 ?_
        obtain ⟨hz3, h⟩ := oi_out h
        refine lv_irem hx hb dd_M_makeOrder_40 hz3 ?_
        refine lv_topi (fun y4 ey4 => ?_)
        have h := tl_at ey4 h
        refine lv_istore (lv' := [(4, .int y4), (0, .ref (ad 0)), (1, .long v1), (3, .int v3)]) hx hb dd_M_makeOrder_41 hl (by decide) rfl (fun ls hl => ?_)
        refine lv_aload_n hx hb dd_M_makeOrder_43 rfl (lv_at hl 1 rfl) ?_
        refine va_get (D := D) (ci := 4) (v := .ref (ad 16)) (C := "OpenDealModel") (T := T_M) (N := 32) hx hb hk in_M hown hK hP 0 am_0 rfl 21 (by decide) (hk _ kw_558) (fun _ h9 => h9) rfl dd_M_makeOrder_44 ?_
        refine lv_iload_n hx hb dd_M_makeOrder_47 rfl (lv_at hl 3 rfl) ?_
        obtain ⟨hi5, h⟩ := oi_out h
        refine va_iald hx hb hK hP 16 0 am_16 rfl hi5 dd_M_makeOrder_48 ?_
        refine lv_topi (fun y6 ey6 => ?_)
        have h := tl_at ey6 h
        refine lv_istore (lv' := [(5, .int y6), (4, .int y4), (0, .ref (ad 0)), (1, .long v1), (3, .int v3)]) hx hb dd_M_makeOrder_49 hl (by decide) rfl (fun ls hl => ?_)
        refine lv_aload_n hx hb dd_M_makeOrder_51 rfl (lv_at hl 2 rfl) ?_
        refine va_get (D := D) (ci := 4) (v := .ref (ad 16)) (C := "OpenDealModel") (T := T_M) (N := 32) hx hb hk in_M hown hK hP 0 am_0 rfl 21 (by decide) (hk _ kw_558) (fun _ h9 => h9) rfl dd_M_makeOrder_52 ?_
        refine lv_iload_n hx hb dd_M_makeOrder_55 rfl (lv_at hl 4 rfl) ?_
        refine lv_aload_n hx hb dd_M_makeOrder_56 rfl (lv_at hl 2 rfl) ?_
        refine va_get (D := D) (ci := 4) (v := .ref (ad 16)) (C := "OpenDealModel") (T := T_M) (N := 32) hx hb hk in_M hown hK hP 0 am_0 rfl 21 (by decide) (hk _ kw_558) (fun _ h9 => h9) rfl dd_M_makeOrder_57 ?_
        refine lv_iload hx hb dd_M_makeOrder_60 (lv_at hl 1 rfl) ?_
        obtain ⟨hi7, h⟩ := oi_out h
        refine va_iald hx hb hK hP 16 0 am_16 rfl hi7 dd_M_makeOrder_62 ?_
        obtain ⟨hi8, h⟩ := oi_out h
        refine va_iast hx hb hK hP hD hS 16 0 am_16 rfl (x := r2.2.1 16 (y4).toNatClampNeg) hi8 dd_M_makeOrder_63 (fun H locs hP hD hS => ?_)
        rw [pm_16] at hP hD
        refine lv_aload_n hx hb dd_M_makeOrder_64 rfl (lv_at hl 2 rfl) ?_
        refine va_get (D := D) (ci := 4) (v := .ref (ad 16)) (C := "OpenDealModel") (T := T_M) (N := 32) hx hb hk in_M hown hK hP 0 am_0 rfl 21 (by decide) (hk _ kw_558) (fun _ h9 => h9) rfl dd_M_makeOrder_65 ?_
        refine lv_iload hx hb dd_M_makeOrder_68 (lv_at hl 1 rfl) ?_
        refine lv_iload hx hb dd_M_makeOrder_70 (lv_at hl 0 rfl) ?_
        obtain ⟨hi9, h⟩ := oi_out h
        refine va_iast hx hb hK hP hD hS 16 0 am_16 rfl (x := y6) hi9 dd_M_makeOrder_72 (fun H locs hP hD hS => ?_)
        rw [pm_16] at hP hD
        refine lv_iinc (v := v3 + (-1 : Int32)) (lv' := [(3, .int (v3 + (-1 : Int32))), (5, .int y6), (4, .int y4), (0, .ref (ad 0)), (1, .long v1)]) hx hb dd_M_makeOrder_73 hl (k := 4) rfl rfl (by decide) rfl (fun ls hl => ?_)
        refine lv_goto (tgt := 29) hx hb dd_M_makeOrder_76 (by decide) ?_
        exact ih _ _ _ _ h _ _ hP hD hS _ (lv_sub hl [3, 4, 0] rfl)
  have L7 : ∀  (n : Nat) (I : MI) (J : MJ) (v1 : Int64) (v3 : Int32), ff_M_makeOrder_7 n I J v1 v3 = some r → ∀ (H : Heap) (locs : List Loc), va_P D cls5 (wM kc ad I J) H → va_D A (wM kc ad I J) → va_S A s.heap H locs → ∀ ls, lv_has ls 6 [(0, .ref (ad 0)), (1, .long v1), (3, .int v3)] → W p l e (headSpec (.code yy_M_makeOrder cc_M_makeOrder 6 (none) :: kw) { frames := 1, cells := 0, slots := 0, locals := 20 }).room s m ([.ref (ad 0), .long a1] : List Value).toArray below meth c H locs 0 0 (MQ below (va_Qv (fun (_ : Unit) => True) (EW D kc A (wM kc ad r.1 r.2)) A) ([.ref (ad 0), .long a1] : List Value).toArray s 0 0 A) (F0 m 7 ls []) := by
    intro  n
    induction n with
    | zero => intro I J v1 v3 h; exact absurd h (by simp [ff_M_makeOrder_7])
    | succ n ih =>
      intro I J v1 v3 h H locs hP hD hS ls hl
      rw [ff_M_makeOrder_7] at h
      refine lv_iload_n hx hb dd_M_makeOrder_7 rfl (lv_at hl 2 rfl) ?_
      refine lv_bipush (v := 52) hx hb dd_M_makeOrder_8 (by decide) ?_
      refine lv_icmp_ge (tgt := 26) hx hb dd_M_makeOrder_10 (by decide) (fun hc10 => ?_) (fun hc10 => ?_)
      · have h := ip_out hc10 h
        refine lv_bipush (v := 51) hx hb dd_M_makeOrder_26 (by decide) ?_
        refine lv_istore_n (lv' := [(3, .int (51 : Int32)), (0, .ref (ad 0)), (1, .long v1)]) hx hb dd_M_makeOrder_28 rfl hl (by decide) rfl (fun ls hl => ?_)
        exact L29  _ _ _ _ _ h _ _ hP hD hS _ (lv_sub hl [1, 2, 0] rfl)
      · have h := in_out hc10 h
        refine lv_aload_n hx hb dd_M_makeOrder_13 rfl (lv_at hl 0 rfl) ?_
        refine va_get (D := D) (ci := 4) (v := .ref (ad 16)) (C := "OpenDealModel") (T := T_M) (N := 32) hx hb hk in_M hown hK hP 0 am_0 rfl 21 (by decide) (hk _ kw_558) (fun _ h9 => h9) rfl dd_M_makeOrder_14 ?_
        refine lv_iload_n hx hb dd_M_makeOrder_17 rfl (lv_at hl 2 rfl) ?_
        refine lv_iload_n hx hb dd_M_makeOrder_18 rfl (lv_at hl 2 rfl) ?_
        obtain ⟨hi11, h⟩ := oi_out h
        refine va_iast hx hb hK hP hD hS 16 0 am_16 rfl (x := v3) hi11 dd_M_makeOrder_19 (fun H locs hP hD hS => ?_)
        rw [pm_16] at hP hD
        refine lv_iinc (v := v3 + (1 : Int32)) (lv' := [(3, .int (v3 + (1 : Int32))), (0, .ref (ad 0)), (1, .long v1)]) hx hb dd_M_makeOrder_20 hl (k := 2) rfl rfl (by decide) rfl (fun ls hl => ?_)
        refine lv_goto (tgt := 7) hx hb dd_M_makeOrder_23 (by decide) ?_
        exact ih _ _ _ _ h _ _ hP hD hS _ (lv_sub hl [1, 2, 0] rfl)
  have hl := lv_entry ([.ref (ad 0), .long a1]) (n := 6) (Nat.le_of_ble_eq_true rfl)
  rw [lg_entry_eq]
  generalize (lg_sl ([.ref (ad 0), .long a1]) ++ List.replicate (6 - (lg_sl ([.ref (ad 0), .long a1])).length) Slot.unset).toArray = ls at hl ⊢
  have hl : lv_has ls 6 [(0, .ref (ad 0)), (1, .long a1)] := hl
  unfold ff_M_makeOrder at h
  refine lv_aload_n hx hb dd_M_makeOrder_0 rfl (lv_at hl 0 rfl) ?_
  refine lv_lload_n hx hb dd_M_makeOrder_1 rfl (lv_at hl 1 rfl) ?_
  refine va_put (D := D) (ci := 4) (v := .long a1) (ty := .long) (C := "OpenDealModel") (T := T_M) (N := 32) hx hb hk in_M ty_M tk_M nm_M hown hK hP hD hS 0 am_0 rfl 25 (by decide) (hk _ kw_562) (fun _ h9 => h9) rfl (by decide +kernel) rfl rfl (Nat.le_of_ble_eq_true rfl) dd_M_makeOrder_2 (fun H locs hP hD hS => ?_)
  rw [pt_M25] at hP hD
  refine lv_iconst (v := 0) hx hb dd_M_makeOrder_5 (by decide) ?_
  refine lv_istore_n (lv' := [(3, .int (0 : Int32)), (0, .ref (ad 0)), (1, .long a1)]) hx hb dd_M_makeOrder_6 rfl hl (by decide) rfl (fun ls hl => ?_)
  exact L7  _ _ _ _ _ h _ _ hP hD hS _ (lv_sub hl [1, 2, 0] rfl)
def ff_M_makeLocks_20 (k7 : MI → MJ → Int64 → Int32 → Option (MI × MJ)) : Nat → MI → MJ → Int64 → Int32 → Option (MI × MJ)
  | 0, _, _, _, _ => none
  | n + 1, I, J, v1, v3 => if ¬ (v3 < 0 ∨ 52 ≤ (v3).toNatClampNeg) then (ff_M_isExponent n I J (I 17 (v3).toNatClampNeg)).bind fun r2 => if r2 = 0 then ((ff_M_nextDraw n I J ).bind fun r4 => if ¬ ((r4.2.1 0 1) - (4 : Int32)) = 0 then tl (r4.1 - r4.1 / ((r4.2.1 0 1) - (4 : Int32)) * ((r4.2.1 0 1) - (4 : Int32))) fun y6 => if ¬ (v3 < 0 ∨ 52 ≤ (v3).toNatClampNeg) then ff_M_makeLocks_20 k7 n (ui r4.2.1 17 (v3).toNatClampNeg ((3 : Int32) + y6)) r4.2.2 v1 v3 else none else none) else (k7 I J v1 (v3 + (1 : Int32))) else none
def ff_M_makeLocks_7  : Nat → MI → MJ → Int64 → Int32 → Option (MI × MJ)
  | 0, _, _, _, _ => none
  | n + 1, I, J, v1, v3 => if (52 : Int32) ≤ v3 then (some (I, J)) else (if ¬ (v3 < 0 ∨ 52 ≤ (v3).toNatClampNeg) then ff_M_makeLocks_20 (ff_M_makeLocks_7 n) n (ui I 17 (v3).toNatClampNeg (0 : Int32)) J v1 v3 else none)
def ff_M_makeLocks (n : Nat) (I : MI) (J : MJ) (a1 : Int64) : Option (MI × MJ) := ff_M_makeLocks_7 n I (uj J 0 25 a1) a1 (0 : Int32)
set_option maxHeartbeats 4000000 in
set_option maxRecDepth 100000 in
theorem mm_M_makeLocks (l : Launch) (D : va_G) (kc : Nat → ClassId) (ad : Nat → Nat) (I0 : MI) (J0 : MJ) (sz n : Nat) (a1 : Int64) (r : MI × MJ) (h : ff_M_makeLocks n I0 J0 a1 = some r) : Met l yy_M_makeLocks (.code yy_M_makeLocks cc_M_makeLocks 4 (none) :: kw) { frames := 1, cells := 0, slots := 0, locals := 21 } (va_Pc [.ref (ad 0), .long a1] (BW D kc (wM kc ad I0 J0) sz)) (va_Qv (fun (_ : Unit) => True) (EW D kc (va_A (wM kc ad I0 J0) sz) (wM kc ad r.1 r.2)) (va_A (wM kc ad I0 J0) sz)) 0 0 (va_A (wM kc ad I0 J0) sz) := by
  refine Met.ofW (cc := cc_M_makeLocks) (maxL := 4) (ret := none) (by decide) rfl ?_
  intro p e s m args below meth c s₁ B hml hv
  obtain ⟨rfl, hsz, hP, hK, hD0⟩ := hv
  have hx := B.exec
  have hb := B.bytes
  have hr := B.returns
  have hlocks := B.notSynchronized
  have hk : ∀ w ∈ kw, w.before _ s = true := fun w hw => atoms_spec (ws := (.code yy_M_makeLocks cc_M_makeLocks 4 (none) :: kw)) B.pre w (List.mem_cons_of_mem _ hw)
  have hown : s.vm.findClass "OpenDealModel" = some m.cls := findClass_of_methodNamed B.named
  subst hsz
  have hD := hD0.self (sz := s.heap.size)
  generalize hAe : va_A (wM kc ad I0 J0) s.heap.size = A at hD ⊢
  have hA : ∀ q : Nat, s.heap.size ≤ q → A q := fun q h => by rw [← hAe]; exact Or.inr h
  have hS : va_S A s.heap s.heap [] := va_S.rf
  have hP : va_P D cls5 (wM kc ad I0 J0) s.heap := hP
  clear hAe hD0
  have L20 : ∀ (k7 : MI → MJ → Int64 → Int32 → Option (MI × MJ)) (hk7 : ∀ (I : MI) (J : MJ) (v1 : Int64) (v3 : Int32), k7 I J v1 v3 = some r → ∀ (H : Heap) (locs : List Loc), va_P D cls5 (wM kc ad I J) H → va_D A (wM kc ad I J) → va_S A s.heap H locs → ∀ ls, lv_has ls 4 [(0, .ref (ad 0)), (1, .long v1), (3, .int v3)] → W p l e (headSpec (.code yy_M_makeLocks cc_M_makeLocks 4 (none) :: kw) { frames := 1, cells := 0, slots := 0, locals := 21 }).room s m ([.ref (ad 0), .long a1] : List Value).toArray below meth c H locs 0 0 (MQ below (va_Qv (fun (_ : Unit) => True) (EW D kc A (wM kc ad r.1 r.2)) A) ([.ref (ad 0), .long a1] : List Value).toArray s 0 0 A) (F0 m 7 ls [])) (n : Nat) (I : MI) (J : MJ) (v1 : Int64) (v3 : Int32), ff_M_makeLocks_20 k7 n I J v1 v3 = some r → ∀ (H : Heap) (locs : List Loc), va_P D cls5 (wM kc ad I J) H → va_D A (wM kc ad I J) → va_S A s.heap H locs → ∀ ls, lv_has ls 4 [(0, .ref (ad 0)), (1, .long v1), (3, .int v3)] → W p l e (headSpec (.code yy_M_makeLocks cc_M_makeLocks 4 (none) :: kw) { frames := 1, cells := 0, slots := 0, locals := 21 }).room s m ([.ref (ad 0), .long a1] : List Value).toArray below meth c H locs 0 0 (MQ below (va_Qv (fun (_ : Unit) => True) (EW D kc A (wM kc ad r.1 r.2)) A) ([.ref (ad 0), .long a1] : List Value).toArray s 0 0 A) (F0 m 20 ls []) := by
    intro k7 hk7 n
    induction n with
    | zero => intro I J v1 v3 h; exact absurd h (by simp [ff_M_makeLocks_20])
    | succ n ih =>
      intro I J v1 v3 h H locs hP hD hS ls hl
      rw [ff_M_makeLocks_20] at h
      refine lv_aload_n hx hb dd_M_makeLocks_20 rfl (lv_at hl 0 rfl) ?_
      refine lv_aload_n hx hb dd_M_makeLocks_21 rfl (lv_at hl 0 rfl) ?_
      refine va_get (D := D) (ci := 4) (v := .ref (ad 17)) (C := "OpenDealModel") (T := T_M) (N := 32) hx hb hk in_M hown hK hP 0 am_0 rfl 22 (by decide) (hk _ kw_559) (fun _ h9 => h9) rfl dd_M_makeLocks_22 ?_
      refine lv_iload_n hx hb dd_M_makeLocks_25 rfl (lv_at hl 2 rfl) ?_
      obtain ⟨hi1, h⟩ := oi_out h
      refine va_iald hx hb hK hP 17 0 am_17 rfl hi1 dd_M_makeLocks_26 ?_
      obtain ⟨r2, hr2, h⟩ := ob_out h
      refine cr_Vi (n := 1) (As := [.int (I 17 (v3).toNatClampNeg)]) hx hb hml hown hk (mm_M_isExponent l D kc ad _ _ _ _ _ hr2) hK hP 0 am_0 rfl rfl kw_668 kw_670 sel_M_isExponent kw_4 kw_671 ⟨rfl, rfl⟩ (by decide +kernel) ⟨Nat.le_of_ble_eq_true rfl, Nat.le_of_ble_eq_true rfl⟩ rfl hl.1 rfl (Nat.le_of_ble_eq_true rfl) dd_M_makeLocks_27 ⟨Nat.le_of_ble_eq_true rfl, Nat.le_of_ble_eq_true rfl⟩ ?_
      refine lv_if_ne (tgt := 55) hx hb dd_M_makeLocks_30 (by decide) (fun hc3 => ?_) (fun hc3 => ?_)
      · have h := in_out hc3 h
        refine lv_iinc (v := v3 + (1 : Int32)) (lv' := [(3, .int (v3 + (1 : Int32))), (0, .ref (ad 0)), (1, .long v1)]) hx hb dd_M_makeLocks_55 hl (k := 2) rfl rfl (by decide) rfl (fun ls hl => ?_)
        refine lv_goto (tgt := 7) hx hb dd_M_makeLocks_58 (by decide) ?_
        exact hk7 _ _ _ _ h _ _ hP hD hS _ (lv_sub hl [1, 2, 0] rfl)
      · have h := ip_out hc3 h
        refine lv_aload_n hx hb dd_M_makeLocks_33 rfl (lv_at hl 0 rfl) ?_
        refine va_get (D := D) (ci := 4) (v := .ref (ad 17)) (C := "OpenDealModel") (T := T_M) (N := 32) hx hb hk in_M hown hK hP 0 am_0 rfl 22 (by decide) (hk _ kw_559) (fun _ h9 => h9) rfl dd_M_makeLocks_34 ?_
        refine lv_iload_n hx hb dd_M_makeLocks_37 rfl (lv_at hl 2 rfl) ?_
        refine lv_iconst (v := 3) hx hb dd_M_makeLocks_38 (by decide) ?_
        refine lv_aload_n hx hb dd_M_makeLocks_39 rfl (lv_at hl 0 rfl) ?_
        obtain ⟨r4, hr4, h⟩ := ob_out h
        refine cw_Vi (n := 0) (As := []) (mc := 0) (ms := 0) hx hb hml hown hk (mm_M_nextDraw l D kc ad _ _ _ _  _ hr4) hK hP hD hS hA 0 am_0 rfl rfl kw_693 kw_695 sel_M_nextDraw kw_4 kw_696 ⟨rfl, rfl⟩ (by decide +kernel) ⟨Nat.le_of_ble_eq_true rfl, Nat.le_of_ble_eq_true rfl⟩ rfl hl.1 rfl (Nat.le_of_ble_eq_true rfl) dd_M_makeLocks_40 ⟨Nat.le_of_ble_eq_true rfl, Nat.le_of_ble_eq_true rfl⟩ (fun H locs hP hD hS => ?_)
        refine lv_aload_n hx hb dd_M_makeLocks_43 rfl (lv_at hl 0 rfl) ?_
        refine va_get (D := D) (ci := 4) (v := .int (r4.2.1 0 1)) (C := "OpenDealModel") (T := T_M) (N := 32) hx hb hk in_M hown hK hP 0 am_0 rfl 1 (by decide) (hk _ kw_538) (fun _ h9 => h9) rfl dd_M_makeLocks_44 ?_
        refine lv_iconst (v := 4) hx hb dd_M_makeLocks_47 (by decide) ?_
        refine lv_isub hx hb dd_M_makeLocks_48 ?_
        obtain ⟨hz5, h⟩ := oi_out h
        refine lv_irem hx hb dd_M_makeLocks_49 hz5 ?_
        refine lv_topi (fun y6 ey6 => ?_)
        have h := tl_at ey6 h
        refine lv_iadd hx hb dd_M_makeLocks_50 ?_
        obtain ⟨hi7, h⟩ := oi_out h
        refine va_iast hx hb hK hP hD hS 17 0 am_17 rfl (x := (3 : Int32) + y6) hi7 dd_M_makeLocks_51 (fun H locs hP hD hS => ?_)
        rw [pm_17] at hP hD
        refine lv_goto (tgt := 20) hx hb dd_M_makeLocks_52 (by decide) ?_
        exact ih _ _ _ _ h _ _ hP hD hS _ (lv_sub hl [0, 1, 2] rfl)
  have L7 : ∀  (n : Nat) (I : MI) (J : MJ) (v1 : Int64) (v3 : Int32), ff_M_makeLocks_7 n I J v1 v3 = some r → ∀ (H : Heap) (locs : List Loc), va_P D cls5 (wM kc ad I J) H → va_D A (wM kc ad I J) → va_S A s.heap H locs → ∀ ls, lv_has ls 4 [(0, .ref (ad 0)), (1, .long v1), (3, .int v3)] → W p l e (headSpec (.code yy_M_makeLocks cc_M_makeLocks 4 (none) :: kw) { frames := 1, cells := 0, slots := 0, locals := 21 }).room s m ([.ref (ad 0), .long a1] : List Value).toArray below meth c H locs 0 0 (MQ below (va_Qv (fun (_ : Unit) => True) (EW D kc A (wM kc ad r.1 r.2)) A) ([.ref (ad 0), .long a1] : List Value).toArray s 0 0 A) (F0 m 7 ls []) := by
    intro  n
    induction n with
    | zero => intro I J v1 v3 h; exact absurd h (by simp [ff_M_makeLocks_7])
    | succ n ih =>
      intro I J v1 v3 h H locs hP hD hS ls hl
      rw [ff_M_makeLocks_7] at h
      refine lv_iload_n hx hb dd_M_makeLocks_7 rfl (lv_at hl 2 rfl) ?_
      refine lv_bipush (v := 52) hx hb dd_M_makeLocks_8 (by decide) ?_
      refine lv_icmp_ge (tgt := 61) hx hb dd_M_makeLocks_10 (by decide) (fun hc8 => ?_) (fun hc8 => ?_)
      · have h := ip_out hc8 h
        obtain rfl := Option.some.inj h
        exact W.vret hx hb hr (fun t ht hW => ⟨⟨(), rfl, trivial, by rw [ht]; exact hP, va_K.moved hW.alike hK, hD⟩, hS.F ht⟩) hS.2.2 dd_M_makeLocks_61
      · have h := in_out hc8 h
        refine lv_aload_n hx hb dd_M_makeLocks_13 rfl (lv_at hl 0 rfl) ?_
        refine va_get (D := D) (ci := 4) (v := .ref (ad 17)) (C := "OpenDealModel") (T := T_M) (N := 32) hx hb hk in_M hown hK hP 0 am_0 rfl 22 (by decide) (hk _ kw_559) (fun _ h9 => h9) rfl dd_M_makeLocks_14 ?_
        refine lv_iload_n hx hb dd_M_makeLocks_17 rfl (lv_at hl 2 rfl) ?_
        refine lv_iconst (v := 0) hx hb dd_M_makeLocks_18 (by decide) ?_
        obtain ⟨hi9, h⟩ := oi_out h
        refine va_iast hx hb hK hP hD hS 17 0 am_17 rfl (x := (0 : Int32)) hi9 dd_M_makeLocks_19 (fun H locs hP hD hS => ?_)
        rw [pm_17] at hP hD
        exact L20 _ ih _ _ _ _ _ h _ _ hP hD hS _ (lv_sub hl [0, 1, 2] rfl)
  have hl := lv_entry ([.ref (ad 0), .long a1]) (n := 4) (Nat.le_of_ble_eq_true rfl)
  rw [lg_entry_eq]
  generalize (lg_sl ([.ref (ad 0), .long a1]) ++ List.replicate (4 - (lg_sl ([.ref (ad 0), .long a1])).length) Slot.unset).toArray = ls at hl ⊢
  have hl : lv_has ls 4 [(0, .ref (ad 0)), (1, .long a1)] := hl
  unfold ff_M_makeLocks at h
  refine lv_aload_n hx hb dd_M_makeLocks_0 rfl (lv_at hl 0 rfl) ?_
  refine lv_lload_n hx hb dd_M_makeLocks_1 rfl (lv_at hl 1 rfl) ?_
  refine va_put (D := D) (ci := 4) (v := .long a1) (ty := .long) (C := "OpenDealModel") (T := T_M) (N := 32) hx hb hk in_M ty_M tk_M nm_M hown hK hP hD hS 0 am_0 rfl 25 (by decide) (hk _ kw_562) (fun _ h9 => h9) rfl (by decide +kernel) rfl rfl (Nat.le_of_ble_eq_true rfl) dd_M_makeLocks_2 (fun H locs hP hD hS => ?_)
  rw [pt_M25] at hP hD
  refine lv_iconst (v := 0) hx hb dd_M_makeLocks_5 (by decide) ?_
  refine lv_istore_n (lv' := [(3, .int (0 : Int32)), (0, .ref (ad 0)), (1, .long a1)]) hx hb dd_M_makeLocks_6 rfl hl (by decide) rfl (fun ls hl => ?_)
  exact L7  _ _ _ _ _ h _ _ hP hD hS _ (lv_sub hl [1, 2, 0] rfl)
def ff_M_sealOf2_17  (n : Nat) (I : MI) (J : MJ) (v1 : Int32) : Option (Int64 × MI × MJ) := (ff_M_raise n I J (1 : Int32)).bind fun r1 => some (Int32.toInt64 r1.1, r1.2.1, r1.2.2)
def ff_M_sealOf2 (n : Nat) (I : MI) (J : MJ) (a1 : Int32) : Option (Int64 × MI × MJ) := (ff_M_isPlayer n I J a1).bind fun r2 => if r2 = 0 then (ff_M_sealOf2_17 n I J a1) else (if ¬ (a1 < 0 ∨ 4 ≤ (a1).toNatClampNeg) then if (I 2 (a1).toNatClampNeg) = 0 then (ff_M_sealOf2_17 n I J a1) else (if ¬ (a1 < 0 ∨ 4 ≤ (a1).toNatClampNeg) then some (J 3 (a1).toNatClampNeg, ui I 0 0 (0 : Int32), J) else none) else none)
set_option maxHeartbeats 4000000 in
set_option maxRecDepth 100000 in
theorem mm_M_sealOf2 (l : Launch) (D : va_G) (kc : Nat → ClassId) (ad : Nat → Nat) (I0 : MI) (J0 : MJ) (sz n : Nat) (a1 : Int32) (r : Int64 × MI × MJ) (h : ff_M_sealOf2 n I0 J0 a1 = some r) : Met l yy_M_sealOf2 (.code yy_M_sealOf2 cc_M_sealOf2 2 (some .long) :: kw) { frames := 1, cells := 0, slots := 0, locals := 21 } (va_Pc [.ref (ad 0), .int a1] (BW D kc (wM kc ad I0 J0) sz)) (va_Ql (fun z (_ : Unit) => z = r.1) (EW D kc (va_A (wM kc ad I0 J0) sz) (wM kc ad r.2.1 r.2.2)) (va_A (wM kc ad I0 J0) sz)) 0 0 (va_A (wM kc ad I0 J0) sz) := by
  refine Met.ofW (cc := cc_M_sealOf2) (maxL := 2) (ret := some .long) (by decide) rfl ?_
  intro p e s m args below meth c s₁ B hml hv
  obtain ⟨rfl, hsz, hP, hK, hD0⟩ := hv
  have hx := B.exec
  have hb := B.bytes
  have hr := B.returns
  have hlocks := B.notSynchronized
  have hk : ∀ w ∈ kw, w.before _ s = true := fun w hw => atoms_spec (ws := (.code yy_M_sealOf2 cc_M_sealOf2 2 (some .long) :: kw)) B.pre w (List.mem_cons_of_mem _ hw)
  have hown : s.vm.findClass "OpenDealModel" = some m.cls := findClass_of_methodNamed B.named
  subst hsz
  have hD := hD0.self (sz := s.heap.size)
  generalize hAe : va_A (wM kc ad I0 J0) s.heap.size = A at hD ⊢
  have hA : ∀ q : Nat, s.heap.size ≤ q → A q := fun q h => by rw [← hAe]; exact Or.inr h
  have hS : va_S A s.heap s.heap [] := va_S.rf
  have hP : va_P D cls5 (wM kc ad I0 J0) s.heap := hP
  clear hAe hD0
  have L17 : ∀  (n : Nat) (I : MI) (J : MJ) (v1 : Int32), ff_M_sealOf2_17 n I J v1 = some r → ∀ (H : Heap) (locs : List Loc), va_P D cls5 (wM kc ad I J) H → va_D A (wM kc ad I J) → va_S A s.heap H locs → ∀ ls, lv_has ls 2 [(0, .ref (ad 0)), (1, .int v1)] → W p l e (headSpec (.code yy_M_sealOf2 cc_M_sealOf2 2 (some .long) :: kw) { frames := 1, cells := 0, slots := 0, locals := 21 }).room s m ([.ref (ad 0), .int a1] : List Value).toArray below meth c H locs 0 0 (MQ below (va_Ql (fun z (_ : Unit) => z = r.1) (EW D kc A (wM kc ad r.2.1 r.2.2)) A) ([.ref (ad 0), .int a1] : List Value).toArray s 0 0 A) (F0 m 17 ls []) := by
    intro  n I J v1 h H locs hP hD hS ls hl
    unfold ff_M_sealOf2_17 at h
    refine lv_aload_n hx hb dd_M_sealOf2_17 rfl (lv_at hl 0 rfl) ?_
    refine lv_iconst (v := 1) hx hb dd_M_sealOf2_18 (by decide) ?_
    obtain ⟨r1, hr1, h⟩ := ob_out h
    refine cw_Vi (n := 1) (As := [.int (1 : Int32)]) (mc := 0) (ms := 0) hx hb hml hown hk (mm_M_raise l D kc ad _ _ _ _ _ _ hr1) hK hP hD hS hA 0 am_0 rfl rfl kw_681 kw_683 sel_M_raise kw_4 kw_684 ⟨rfl, rfl⟩ (by decide +kernel) ⟨Nat.le_of_ble_eq_true rfl, Nat.le_of_ble_eq_true rfl⟩ rfl hl.1 rfl (Nat.le_of_ble_eq_true rfl) dd_M_sealOf2_19 ⟨Nat.le_of_ble_eq_true rfl, Nat.le_of_ble_eq_true rfl⟩ (fun H locs hP hD hS => ?_)
    refine lv_i2l hx hb dd_M_sealOf2_22 rfl ?_
    obtain rfl := Option.some.inj h
    exact W.lret hx hb hr (fun t ht hW => ⟨⟨_, (), rfl, rfl, by rw [ht]; exact hP, va_K.moved hW.alike hK, hD⟩, hS.F ht⟩) hS.2.2 dd_M_sealOf2_23
  have hl := lv_entry ([.ref (ad 0), .int a1]) (n := 2) (Nat.le_of_ble_eq_true rfl)
  rw [lg_entry_eq]
  generalize (lg_sl ([.ref (ad 0), .int a1]) ++ List.replicate (2 - (lg_sl ([.ref (ad 0), .int a1])).length) Slot.unset).toArray = ls at hl ⊢
  have hl : lv_has ls 2 [(0, .ref (ad 0)), (1, .int a1)] := hl
  unfold ff_M_sealOf2 at h
  refine lv_aload_n hx hb dd_M_sealOf2_0 rfl (lv_at hl 0 rfl) ?_
  refine lv_iload_n hx hb dd_M_sealOf2_1 rfl (lv_at hl 1 rfl) ?_
  obtain ⟨r2, hr2, h⟩ := ob_out h
  refine cr_Vi (n := 1) (As := [.int a1]) hx hb hml hown hk (mm_M_isPlayer l D kc ad _ _ _ _ _ hr2) hK hP 0 am_0 rfl rfl kw_664 kw_666 sel_M_isPlayer kw_4 kw_667 ⟨rfl, rfl⟩ (by decide +kernel) ⟨Nat.le_of_ble_eq_true rfl, Nat.le_of_ble_eq_true rfl⟩ rfl hl.1 rfl (Nat.le_of_ble_eq_true rfl) dd_M_sealOf2_2 ⟨Nat.le_of_ble_eq_true rfl, Nat.le_of_ble_eq_true rfl⟩ ?_
  refine lv_if_eq (tgt := 17) hx hb dd_M_sealOf2_5 (by decide) (fun hc3 => ?_) (fun hc3 => ?_)
  · have h := ip_out hc3 h
    exact L17  _ _ _ _ h _ _ hP hD hS _ (lv_sub hl [0, 1] rfl)
  · have h := in_out hc3 h
    refine lv_aload_n hx hb dd_M_sealOf2_8 rfl (lv_at hl 0 rfl) ?_
    refine va_get (D := D) (ci := 4) (v := .ref (ad 2)) (C := "OpenDealModel") (T := T_M) (N := 32) hx hb hk in_M hown hK hP 0 am_0 rfl 6 (by decide) (hk _ kw_543) (fun _ h9 => h9) rfl dd_M_sealOf2_9 ?_
    refine lv_iload_n hx hb dd_M_sealOf2_12 rfl (lv_at hl 1 rfl) ?_
    obtain ⟨hi4, h⟩ := oi_out h
    refine va_zald hx hb hK hP 2 2 am_2 rfl hi4 dd_M_sealOf2_13 ?_
    refine lv_if_ne (tgt := 24) hx hb dd_M_sealOf2_14 (by decide) (fun hc5 => ?_) (fun hc5 => ?_)
    · have h := in_out hc5 h
      refine lv_aload_n hx hb dd_M_sealOf2_24 rfl (lv_at hl 0 rfl) ?_
      refine lv_iconst (v := 0) hx hb dd_M_sealOf2_25 (by decide) ?_
      refine va_put (D := D) (ci := 4) (v := .int (0 : Int32)) (ty := .int) (C := "OpenDealModel") (T := T_M) (N := 32) hx hb hk in_M ty_M tk_M nm_M hown hK hP hD hS 0 am_0 rfl 0 (by decide) (hk _ kw_537) (fun _ h9 => h9) rfl (by decide +kernel) rfl rfl (Nat.le_of_ble_eq_true rfl) dd_M_sealOf2_26 (fun H locs hP hD hS => ?_)
      rw [pt_M0] at hP hD
      refine lv_aload_n hx hb dd_M_sealOf2_29 rfl (lv_at hl 0 rfl) ?_
      refine va_get (D := D) (ci := 4) (v := .ref (ad 3)) (C := "OpenDealModel") (T := T_M) (N := 32) hx hb hk in_M hown hK hP 0 am_0 rfl 7 (by decide) (hk _ kw_544) (fun _ h9 => h9) rfl dd_M_sealOf2_30 ?_
      refine lv_iload_n hx hb dd_M_sealOf2_33 rfl (lv_at hl 1 rfl) ?_
      obtain ⟨hi6, h⟩ := oi_out h
      refine va_lald hx hb hK hP 3 1 am_3 rfl hi6 dd_M_sealOf2_34 ?_
      obtain rfl := Option.some.inj h
      exact W.lret hx hb hr (fun t ht hW => ⟨⟨_, (), rfl, rfl, by rw [ht]; exact hP, va_K.moved hW.alike hK, hD⟩, hS.F ht⟩) hS.2.2 dd_M_sealOf2_35
    · have h := ip_out hc5 h
      exact L17  _ _ _ _ h _ _ hP hD hS _ (lv_sub hl [0, 1] rfl)
def ff_M_seal_88  : Nat → MI → MJ → Int32 → Int32 → Int64 → Int64 → Int32 → Int32 → Option (Int32 × MI × MJ)
  | 0, _, _, _, _, _, _, _, _ => none
  | n + 1, I, J, v1, v2, v3, v5, v7, v8 => if (I 0 3) ≤ v8 then (if v7 = 0 then (some ((1 : Int32), I, J)) else (some ((1 : Int32), ui I 0 4 (2 : Int32), J))) else (if v7 = 0 then (ff_M_seal_88 n I J v1 v2 v3 v5 (0 : Int32) (v8 + (1 : Int32))) else (if ¬ (v8 < 0 ∨ 4 ≤ (v8).toNatClampNeg) then if (I 2 (v8).toNatClampNeg) = 0 then (ff_M_seal_88 n I J v1 v2 v3 v5 (0 : Int32) (v8 + (1 : Int32))) else (ff_M_seal_88 n I J v1 v2 v3 v5 (1 : Int32) (v8 + (1 : Int32))) else none))
def ff_M_seal (n : Nat) (I : MI) (J : MJ) (a1 : Int32) (a2 : Int32) (a3 : Int64) (a5 : Int64) : Option (Int32 × MI × MJ) := (ff_M_isPlayer n (ui I 0 0 (0 : Int32)) J a1).bind fun r6 => if r6 = 0 then (some ((0 : Int32), ui I 0 0 (0 : Int32), J)) else (if ((ui I 0 0 (0 : Int32)) 0 4) = (1 : Int32) then (if ¬ (a1 < 0 ∨ 4 ≤ (a1).toNatClampNeg) then if ((ui I 0 0 (0 : Int32)) 2 (a1).toNatClampNeg) = 0 then ((ff_M_isExponent n (ui I 0 0 (0 : Int32)) J a2).bind fun r11 => if r11 = 0 then (some ((0 : Int32), ui I 0 0 (0 : Int32), J)) else (if ¬ (a1 < 0 ∨ 4 ≤ (a1).toNatClampNeg) then if ¬ (a1 < 0 ∨ 4 ≤ (a1).toNatClampNeg) then if ¬ (a1 < 0 ∨ 4 ≤ (a1).toNatClampNeg) then if ¬ (a1 < 0 ∨ 4 ≤ (a1).toNatClampNeg) then (ff_M_sealOf n a2 a3 a5).bind fun r17 => if ¬ (a1 < 0 ∨ 4 ≤ (a1).toNatClampNeg) then ff_M_seal_88 n (ui (ui (ui I 0 0 (0 : Int32)) 2 (a1).toNatClampNeg (1 : Int32)) 4 (a1).toNatClampNeg a2) (uj (uj (uj J 5 (a1).toNatClampNeg a3) 6 (a1).toNatClampNeg a5) 3 (a1).toNatClampNeg r17) a1 a2 a3 a5 (1 : Int32) (0 : Int32) else none else none else none else none else none)) else (some ((0 : Int32), ui I 0 0 (0 : Int32), J)) else none) else (some ((0 : Int32), ui I 0 0 (0 : Int32), J)))
set_option maxHeartbeats 4000000 in
set_option maxRecDepth 100000 in
theorem mm_M_seal (l : Launch) (D : va_G) (kc : Nat → ClassId) (ad : Nat → Nat) (I0 : MI) (J0 : MJ) (sz n : Nat) (a1 : Int32) (a2 : Int32) (a3 : Int64) (a5 : Int64) (r : Int32 × MI × MJ) (h : ff_M_seal n I0 J0 a1 a2 a3 a5 = some r) : Met l yy_M_seal (.code yy_M_seal cc_M_seal 9 (some .boolean) :: kw) { frames := 1, cells := 0, slots := 0, locals := 26 } (va_Pc [.ref (ad 0), .int a1, .int a2, .long a3, .long a5] (BW D kc (wM kc ad I0 J0) sz)) (va_Qi (fun z (_ : Unit) => z = r.1) (EW D kc (va_A (wM kc ad I0 J0) sz) (wM kc ad r.2.1 r.2.2)) (va_A (wM kc ad I0 J0) sz)) 0 0 (va_A (wM kc ad I0 J0) sz) := by
  refine Met.ofW (cc := cc_M_seal) (maxL := 9) (ret := some .boolean) (by decide) rfl ?_
  intro p e s m args below meth c s₁ B hml hv
  obtain ⟨rfl, hsz, hP, hK, hD0⟩ := hv
  have hx := B.exec
  have hb := B.bytes
  have hr := B.returns
  have hlocks := B.notSynchronized
  have hk : ∀ w ∈ kw, w.before _ s = true := fun w hw => atoms_spec (ws := (.code yy_M_seal cc_M_seal 9 (some .boolean) :: kw)) B.pre w (List.mem_cons_of_mem _ hw)
  have hown : s.vm.findClass "OpenDealModel" = some m.cls := findClass_of_methodNamed B.named
  subst hsz
  have hD := hD0.self (sz := s.heap.size)
  generalize hAe : va_A (wM kc ad I0 J0) s.heap.size = A at hD ⊢
  have hA : ∀ q : Nat, s.heap.size ≤ q → A q := fun q h => by rw [← hAe]; exact Or.inr h
  have hS : va_S A s.heap s.heap [] := va_S.rf
  have hP : va_P D cls5 (wM kc ad I0 J0) s.heap := hP
  clear hAe hD0
  have L88 : ∀  (n : Nat) (I : MI) (J : MJ) (v1 : Int32) (v2 : Int32) (v3 : Int64) (v5 : Int64) (v7 : Int32) (v8 : Int32), ff_M_seal_88 n I J v1 v2 v3 v5 v7 v8 = some r → ∀ (H : Heap) (locs : List Loc), va_P D cls5 (wM kc ad I J) H → va_D A (wM kc ad I J) → va_S A s.heap H locs → ∀ ls, lv_has ls 9 [(0, .ref (ad 0)), (1, .int v1), (2, .int v2), (3, .long v3), (5, .long v5), (7, .int v7), (8, .int v8)] → W p l e (headSpec (.code yy_M_seal cc_M_seal 9 (some .boolean) :: kw) { frames := 1, cells := 0, slots := 0, locals := 26 }).room s m ([.ref (ad 0), .int a1, .int a2, .long a3, .long a5] : List Value).toArray below meth c H locs 0 0 (MQ below (va_Qi (fun z (_ : Unit) => z = r.1) (EW D kc A (wM kc ad r.2.1 r.2.2)) A) ([.ref (ad 0), .int a1, .int a2, .long a3, .long a5] : List Value).toArray s 0 0 A) (F0 m 88 ls []) := by
    intro  n
    induction n with
    | zero => intro I J v1 v2 v3 v5 v7 v8 h; exact absurd h (by simp [ff_M_seal_88])
    | succ n ih =>
      intro I J v1 v2 v3 v5 v7 v8 h H locs hP hD hS ls hl
      rw [ff_M_seal_88] at h
      refine lv_iload hx hb dd_M_seal_88 (lv_at hl 6 rfl) ?_
      refine lv_aload_n hx hb dd_M_seal_90 rfl (lv_at hl 0 rfl) ?_
      refine va_get (D := D) (ci := 4) (v := .int (I 0 3)) (C := "OpenDealModel") (T := T_M) (N := 32) hx hb hk in_M hown hK hP 0 am_0 rfl 3 (by decide) (hk _ kw_540) (fun _ h9 => h9) rfl dd_M_seal_91 ?_
      refine lv_icmp_ge (tgt := 125) hx hb dd_M_seal_94 (by decide) (fun hc1 => ?_) (fun hc1 => ?_)
      · have h := ip_out hc1 h
        refine lv_iload hx hb dd_M_seal_125 (lv_at hl 5 rfl) ?_
        refine lv_if_eq (tgt := 135) hx hb dd_M_seal_127 (by decide) (fun hc2 => ?_) (fun hc2 => ?_)
        · have h := ip_out hc2 h
          refine lv_iconst (v := 1) hx hb dd_M_seal_135 (by decide) ?_
          obtain rfl := Option.some.inj h
          exact W.zret hx hb hr rfl (fun t ht hW => ⟨⟨_, (), rfl, rfl, by rw [ht]; exact hP, va_K.moved hW.alike hK, hD⟩, hS.F ht⟩) hS.2.2 dd_M_seal_136
        · have h := in_out hc2 h
          refine lv_aload_n hx hb dd_M_seal_130 rfl (lv_at hl 0 rfl) ?_
          refine lv_iconst (v := 2) hx hb dd_M_seal_131 (by decide) ?_
          refine va_put (D := D) (ci := 4) (v := .int (2 : Int32)) (ty := .int) (C := "OpenDealModel") (T := T_M) (N := 32) hx hb hk in_M ty_M tk_M nm_M hown hK hP hD hS 0 am_0 rfl 4 (by decide) (hk _ kw_541) (fun _ h9 => h9) rfl (by decide +kernel) rfl rfl (Nat.le_of_ble_eq_true rfl) dd_M_seal_132 (fun H locs hP hD hS => ?_)
          rw [pt_M4] at hP hD
          refine lv_iconst (v := 1) hx hb dd_M_seal_135 (by decide) ?_
          obtain rfl := Option.some.inj h
          exact W.zret hx hb hr rfl (fun t ht hW => ⟨⟨_, (), rfl, rfl, by rw [ht]; exact hP, va_K.moved hW.alike hK, hD⟩, hS.F ht⟩) hS.2.2 dd_M_seal_136
      · have h := in_out hc1 h
        refine lv_iload hx hb dd_M_seal_97 (lv_at hl 5 rfl) ?_
        refine lv_if_eq (tgt := 116) hx hb dd_M_seal_99 (by decide) (fun hc3 => ?_) (fun hc3 => ?_)
        · have h := ip_out hc3 h
          refine lv_iconst (v := 0) hx hb dd_M_seal_116 (by decide) ?_
          refine lv_istore (lv' := [(7, .int (0 : Int32)), (0, .ref (ad 0)), (1, .int v1), (2, .int v2), (3, .long v3), (5, .long v5), (8, .int v8)]) hx hb dd_M_seal_117 hl (by decide) rfl (fun ls hl => ?_)
          refine lv_iinc (v := v8 + (1 : Int32)) (lv' := [(8, .int (v8 + (1 : Int32))), (7, .int (0 : Int32)), (0, .ref (ad 0)), (1, .int v1), (2, .int v2), (3, .long v3), (5, .long v5)]) hx hb dd_M_seal_119 hl (k := 6) rfl rfl (by decide) rfl (fun ls hl => ?_)
          refine lv_goto (tgt := 88) hx hb dd_M_seal_122 (by decide) ?_
          exact ih _ _ _ _ _ _ _ _ h _ _ hP hD hS _ (lv_sub hl [2, 3, 4, 5, 6, 1, 0] rfl)
        · have h := in_out hc3 h
          refine lv_aload_n hx hb dd_M_seal_102 rfl (lv_at hl 0 rfl) ?_
          refine va_get (D := D) (ci := 4) (v := .ref (ad 2)) (C := "OpenDealModel") (T := T_M) (N := 32) hx hb hk in_M hown hK hP 0 am_0 rfl 6 (by decide) (hk _ kw_543) (fun _ h9 => h9) rfl dd_M_seal_103 ?_
          refine lv_iload hx hb dd_M_seal_106 (lv_at hl 6 rfl) ?_
          obtain ⟨hi4, h⟩ := oi_out h
          refine va_zald hx hb hK hP 2 2 am_2 rfl hi4 dd_M_seal_108 ?_
          refine lv_if_eq (tgt := 116) hx hb dd_M_seal_109 (by decide) (fun hc5 => ?_) (fun hc5 => ?_)
          · have h := ip_out hc5 h
            refine lv_iconst (v := 0) hx hb dd_M_seal_116 (by decide) ?_
            refine lv_istore (lv' := [(7, .int (0 : Int32)), (0, .ref (ad 0)), (1, .int v1), (2, .int v2), (3, .long v3), (5, .long v5), (8, .int v8)]) hx hb dd_M_seal_117 hl (by decide) rfl (fun ls hl => ?_)
            refine lv_iinc (v := v8 + (1 : Int32)) (lv' := [(8, .int (v8 + (1 : Int32))), (7, .int (0 : Int32)), (0, .ref (ad 0)), (1, .int v1), (2, .int v2), (3, .long v3), (5, .long v5)]) hx hb dd_M_seal_119 hl (k := 6) rfl rfl (by decide) rfl (fun ls hl => ?_)
            refine lv_goto (tgt := 88) hx hb dd_M_seal_122 (by decide) ?_
            exact ih _ _ _ _ _ _ _ _ h _ _ hP hD hS _ (lv_sub hl [2, 3, 4, 5, 6, 1, 0] rfl)
          · have h := in_out hc5 h
            refine lv_iconst (v := 1) hx hb dd_M_seal_112 (by decide) ?_
            refine lv_goto (tgt := 117) hx hb dd_M_seal_113 (by decide) ?_
            refine lv_istore (lv' := [(7, .int (1 : Int32)), (0, .ref (ad 0)), (1, .int v1), (2, .int v2), (3, .long v3), (5, .long v5), (8, .int v8)]) hx hb dd_M_seal_117 hl (by decide) rfl (fun ls hl => ?_)
            refine lv_iinc (v := v8 + (1 : Int32)) (lv' := [(8, .int (v8 + (1 : Int32))), (7, .int (1 : Int32)), (0, .ref (ad 0)), (1, .int v1), (2, .int v2), (3, .long v3), (5, .long v5)]) hx hb dd_M_seal_119 hl (k := 6) rfl rfl (by decide) rfl (fun ls hl => ?_)
            refine lv_goto (tgt := 88) hx hb dd_M_seal_122 (by decide) ?_
            exact ih _ _ _ _ _ _ _ _ h _ _ hP hD hS _ (lv_sub hl [2, 3, 4, 5, 6, 1, 0] rfl)
  have hl := lv_entry ([.ref (ad 0), .int a1, .int a2, .long a3, .long a5]) (n := 9) (Nat.le_of_ble_eq_true rfl)
  rw [lg_entry_eq]
  generalize (lg_sl ([.ref (ad 0), .int a1, .int a2, .long a3, .long a5]) ++ List.replicate (9 - (lg_sl ([.ref (ad 0), .int a1, .int a2, .long a3, .long a5])).length) Slot.unset).toArray = ls at hl ⊢
  have hl : lv_has ls 9 [(0, .ref (ad 0)), (1, .int a1), (2, .int a2), (3, .long a3), (5, .long a5)] := hl
  unfold ff_M_seal at h
  refine lv_aload_n hx hb dd_M_seal_0 rfl (lv_at hl 0 rfl) ?_
  refine lv_iconst (v := 0) hx hb dd_M_seal_1 (by decide) ?_
  refine va_put (D := D) (ci := 4) (v := .int (0 : Int32)) (ty := .int) (C := "OpenDealModel") (T := T_M) (N := 32) hx hb hk in_M ty_M tk_M nm_M hown hK hP hD hS 0 am_0 rfl 0 (by decide) (hk _ kw_537) (fun _ h9 => h9) rfl (by decide +kernel) rfl rfl (Nat.le_of_ble_eq_true rfl) dd_M_seal_2 (fun H locs hP hD hS => ?_)
  rw [pt_M0] at hP hD
  refine lv_aload_n hx hb dd_M_seal_5 rfl (lv_at hl 0 rfl) ?_
  refine lv_iload_n hx hb dd_M_seal_6 rfl (lv_at hl 1 rfl) ?_
  obtain ⟨r6, hr6, h⟩ := ob_out h
  refine cr_Vi (n := 1) (As := [.int a1]) hx hb hml hown hk (mm_M_isPlayer l D kc ad _ _ _ _ _ hr6) hK hP 0 am_0 rfl rfl kw_664 kw_666 sel_M_isPlayer kw_4 kw_667 ⟨rfl, rfl⟩ (by decide +kernel) ⟨Nat.le_of_ble_eq_true rfl, Nat.le_of_ble_eq_true rfl⟩ rfl hl.1 rfl (Nat.le_of_ble_eq_true rfl) dd_M_seal_7 ⟨Nat.le_of_ble_eq_true rfl, Nat.le_of_ble_eq_true rfl⟩ ?_
  refine lv_if_eq (tgt := 38) hx hb dd_M_seal_10 (by decide) (fun hc7 => ?_) (fun hc7 => ?_)
  · have h := ip_out hc7 h
    refine lv_iconst (v := 0) hx hb dd_M_seal_38 (by decide) ?_
    obtain rfl := Option.some.inj h
    exact W.zret hx hb hr rfl (fun t ht hW => ⟨⟨_, (), rfl, rfl, by rw [ht]; exact hP, va_K.moved hW.alike hK, hD⟩, hS.F ht⟩) hS.2.2 dd_M_seal_39
  · have h := in_out hc7 h
    refine lv_aload_n hx hb dd_M_seal_13 rfl (lv_at hl 0 rfl) ?_
    refine va_get (D := D) (ci := 4) (v := .int ((ui I0 0 0 (0 : Int32)) 0 4)) (C := "OpenDealModel") (T := T_M) (N := 32) hx hb hk in_M hown hK hP 0 am_0 rfl 4 (by decide) (hk _ kw_541) (fun _ h9 => h9) rfl dd_M_seal_14 ?_
    refine lv_iconst (v := 1) hx hb dd_M_seal_17 (by decide) ?_
    refine lv_icmp_ne (tgt := 38) hx hb dd_M_seal_18 (by decide) (fun hc8 => ?_) (fun hc8 => ?_)
    · have h := in_out hc8 h
      refine lv_iconst (v := 0) hx hb dd_M_seal_38 (by decide) ?_
      obtain rfl := Option.some.inj h
      exact W.zret hx hb hr rfl (fun t ht hW => ⟨⟨_, (), rfl, rfl, by rw [ht]; exact hP, va_K.moved hW.alike hK, hD⟩, hS.F ht⟩) hS.2.2 dd_M_seal_39
    · have h := ip_out hc8 h
      refine lv_aload_n hx hb dd_M_seal_21 rfl (lv_at hl 0 rfl) ?_
      refine va_get (D := D) (ci := 4) (v := .ref (ad 2)) (C := "OpenDealModel") (T := T_M) (N := 32) hx hb hk in_M hown hK hP 0 am_0 rfl 6 (by decide) (hk _ kw_543) (fun _ h9 => h9) rfl dd_M_seal_22 ?_
      refine lv_iload_n hx hb dd_M_seal_25 rfl (lv_at hl 1 rfl) ?_
      obtain ⟨hi9, h⟩ := oi_out h
      refine va_zald hx hb hK hP 2 2 am_2 rfl hi9 dd_M_seal_26 ?_
      refine lv_if_ne (tgt := 38) hx hb dd_M_seal_27 (by decide) (fun hc10 => ?_) (fun hc10 => ?_)
      · have h := in_out hc10 h
        refine lv_iconst (v := 0) hx hb dd_M_seal_38 (by decide) ?_
        obtain rfl := Option.some.inj h
        exact W.zret hx hb hr rfl (fun t ht hW => ⟨⟨_, (), rfl, rfl, by rw [ht]; exact hP, va_K.moved hW.alike hK, hD⟩, hS.F ht⟩) hS.2.2 dd_M_seal_39
      · have h := ip_out hc10 h
        refine lv_aload_n hx hb dd_M_seal_30 rfl (lv_at hl 0 rfl) ?_
        refine lv_iload_n hx hb dd_M_seal_31 rfl (lv_at hl 2 rfl) ?_
        obtain ⟨r11, hr11, h⟩ := ob_out h
        refine cr_Vi (n := 1) (As := [.int a2]) hx hb hml hown hk (mm_M_isExponent l D kc ad _ _ _ _ _ hr11) hK hP 0 am_0 rfl rfl kw_668 kw_670 sel_M_isExponent kw_4 kw_671 ⟨rfl, rfl⟩ (by decide +kernel) ⟨Nat.le_of_ble_eq_true rfl, Nat.le_of_ble_eq_true rfl⟩ rfl hl.1 rfl (Nat.le_of_ble_eq_true rfl) dd_M_seal_32 ⟨Nat.le_of_ble_eq_true rfl, Nat.le_of_ble_eq_true rfl⟩ ?_
        refine lv_if_ne (tgt := 40) hx hb dd_M_seal_35 (by decide) (fun hc12 => ?_) (fun hc12 => ?_)
        · have h := in_out hc12 h
          refine lv_aload_n hx hb dd_M_seal_40 rfl (lv_at hl 0 rfl) ?_
          refine va_get (D := D) (ci := 4) (v := .ref (ad 2)) (C := "OpenDealModel") (T := T_M) (N := 32) hx hb hk in_M hown hK hP 0 am_0 rfl 6 (by decide) (hk _ kw_543) (fun _ h9 => h9) rfl dd_M_seal_41 ?_
          refine lv_iload_n hx hb dd_M_seal_44 rfl (lv_at hl 1 rfl) ?_
          refine lv_iconst (v := 1) hx hb dd_M_seal_45 (by decide) ?_
          obtain ⟨hi13, h⟩ := oi_out h
          refine va_zast hx hb hK hP hD hS 2 2 am_2 rfl (x := (1 : Int32)) hi13 dd_M_seal_46 (fun H locs hP hD hS => ?_)
          rw [show vp_nar .boolean (1 : Int32) = (1 : Int32) from rfl] at hP hD
          rw [pm_2] at hP hD
          refine lv_aload_n hx hb dd_M_seal_47 rfl (lv_at hl 0 rfl) ?_
          refine va_get (D := D) (ci := 4) (v := .ref (ad 4)) (C := "OpenDealModel") (T := T_M) (N := 32) hx hb hk in_M hown hK hP 0 am_0 rfl 8 (by decide) (hk _ kw_545) (fun _ h9 => h9) rfl dd_M_seal_48 ?_
          refine lv_iload_n hx hb dd_M_seal_51 rfl (lv_at hl 1 rfl) ?_
          refine lv_iload_n hx hb dd_M_seal_52 rfl (lv_at hl 2 rfl) ?_
          obtain ⟨hi14, h⟩ := oi_out h
          refine va_iast hx hb hK hP hD hS 4 0 am_4 rfl (x := a2) hi14 dd_M_seal_53 (fun H locs hP hD hS => ?_)
          rw [pm_4] at hP hD
          refine lv_aload_n hx hb dd_M_seal_54 rfl (lv_at hl 0 rfl) ?_
          refine va_get (D := D) (ci := 4) (v := .ref (ad 5)) (C := "OpenDealModel") (T := T_M) (N := 32) hx hb hk in_M hown hK hP 0 am_0 rfl 9 (by decide) (hk _ kw_546) (fun _ h9 => h9) rfl dd_M_seal_55 ?_
          refine lv_iload_n hx hb dd_M_seal_58 rfl (lv_at hl 1 rfl) ?_
          refine lv_lload_n hx hb dd_M_seal_59 rfl (lv_at hl 3 rfl) ?_
          obtain ⟨hi15, h⟩ := oi_out h
          refine va_last hx hb hK hP hD hS 5 1 am_5 rfl (x := a3) hi15 dd_M_seal_60 (fun H locs hP hD hS => ?_)
          rw [pm_5] at hP hD
          refine lv_aload_n hx hb dd_M_seal_61 rfl (lv_at hl 0 rfl) ?_
          refine va_get (D := D) (ci := 4) (v := .ref (ad 6)) (C := "OpenDealModel") (T := T_M) (N := 32) hx hb hk in_M hown hK hP 0 am_0 rfl 10 (by decide) (hk _ kw_547) (fun _ h9 => h9) rfl dd_M_seal_62 ?_
          refine lv_iload_n hx hb dd_M_seal_65 rfl (lv_at hl 1 rfl) ?_
          refine lv_lload hx hb dd_M_seal_66 (lv_at hl 4 rfl) ?_
          obtain ⟨hi16, h⟩ := oi_out h
          refine va_last hx hb hK hP hD hS 6 1 am_6 rfl (x := a5) hi16 dd_M_seal_68 (fun H locs hP hD hS => ?_)
          rw [pm_6] at hP hD
          refine lv_aload_n hx hb dd_M_seal_69 rfl (lv_at hl 0 rfl) ?_
          refine va_get (D := D) (ci := 4) (v := .ref (ad 3)) (C := "OpenDealModel") (T := T_M) (N := 32) hx hb hk in_M hown hK hP 0 am_0 rfl 7 (by decide) (hk _ kw_544) (fun _ h9 => h9) rfl dd_M_seal_70 ?_
          refine lv_iload_n hx hb dd_M_seal_73 rfl (lv_at hl 1 rfl) ?_
          refine lv_iload_n hx hb dd_M_seal_74 rfl (lv_at hl 2 rfl) ?_
          refine lv_lload_n hx hb dd_M_seal_75 rfl (lv_at hl 3 rfl) ?_
          refine lv_lload hx hb dd_M_seal_76 (lv_at hl 4 rfl) ?_
          obtain ⟨r17, hr17, h⟩ := ob_out h
          refine ro_Sl (n := 3) (As := [.int a2, .long a3, .long a5]) hx hb hml hown hk (mm_M_sealOf l _ _ _ _ _ hr17) (fun U _ _ => trivial) (fun _ _ _ _ _ => trivial) kw_672 kw_673 kw_4 kw_674 ⟨rfl, rfl⟩ (by decide +kernel) ⟨Nat.le_of_ble_eq_true rfl, Nat.le_of_ble_eq_true rfl⟩ rfl hl.1 rfl (Nat.le_of_ble_eq_true rfl) dd_M_seal_78 ⟨Nat.le_of_ble_eq_true rfl, Nat.le_of_ble_eq_true rfl⟩ ?_
          obtain ⟨hi18, h⟩ := oi_out h
          refine va_last hx hb hK hP hD hS 3 1 am_3 rfl (x := r17) hi18 dd_M_seal_81 (fun H locs hP hD hS => ?_)
          rw [pm_3] at hP hD
          refine lv_iconst (v := 1) hx hb dd_M_seal_82 (by decide) ?_
          refine lv_istore (lv' := [(7, .int (1 : Int32)), (0, .ref (ad 0)), (1, .int a1), (2, .int a2), (3, .long a3), (5, .long a5)]) hx hb dd_M_seal_83 hl (by decide) rfl (fun ls hl => ?_)
          refine lv_iconst (v := 0) hx hb dd_M_seal_85 (by decide) ?_
          refine lv_istore (lv' := [(8, .int (0 : Int32)), (7, .int (1 : Int32)), (0, .ref (ad 0)), (1, .int a1), (2, .int a2), (3, .long a3), (5, .long a5)]) hx hb dd_M_seal_86 hl (by decide) rfl (fun ls hl => ?_)
          exact L88  _ _ _ _ _ _ _ _ _ h _ _ hP hD hS _ (lv_sub hl [2, 3, 4, 5, 6, 1, 0] rfl)
        · have h := ip_out hc12 h
          refine lv_iconst (v := 0) hx hb dd_M_seal_38 (by decide) ?_
          obtain rfl := Option.some.inj h
          exact W.zret hx hb hr rfl (fun t ht hW => ⟨⟨_, (), rfl, rfl, by rw [ht]; exact hP, va_K.moved hW.alike hK, hD⟩, hS.F ht⟩) hS.2.2 dd_M_seal_39
def ff_M_lockedAt (n : Nat) (I : MI) (J : MJ) (a1 : Int32) (a2 : Int32) (a3 : Int32) : Option (Int32) := if ¬ (a2 < 0 ∨ 52 ≤ (a2).toNatClampNeg) then if ¬ ((((52 : Int32) * a1) + (I 16 (a2).toNatClampNeg)) < 0 ∨ 468 ≤ (((52 : Int32) * a1) + (I 16 (a2).toNatClampNeg)).toNatClampNeg) then (ff_M_power n (I 15 (((52 : Int32) * a1) + (I 16 (a2).toNatClampNeg)).toNatClampNeg) a3 (I 0 1)).bind fun r3 => some r3 else none else none
set_option maxHeartbeats 4000000 in
set_option maxRecDepth 100000 in
theorem mm_M_lockedAt (l : Launch) (D : va_G) (kc : Nat → ClassId) (ad : Nat → Nat) (I : MI) (J : MJ) (n : Nat) (a1 : Int32) (a2 : Int32) (a3 : Int32) (r : Int32) (h : ff_M_lockedAt n I J a1 a2 a3 = some r) : Met l yy_M_lockedAt (.code yy_M_lockedAt cc_M_lockedAt 4 (some .int) :: kw) { frames := 1, cells := 0, slots := 0, locals := 27 } (va_Pc [.ref (ad 0), .int a1, .int a2, .int a3] (BR D kc (wM kc ad I J))) (vp_Si (fun z => z = r)) 0 0 (fun _ => False) := by
  refine Met.ofW (cc := cc_M_lockedAt) (maxL := 4) (ret := some .int) (by decide) rfl ?_
  intro p e s m args below meth c s₁ B hml hv
  obtain ⟨rfl, hP, hK⟩ := hv
  have hx := B.exec
  have hb := B.bytes
  have hr := B.returns
  have hlocks := B.notSynchronized
  have hk : ∀ w ∈ kw, w.before _ s = true := fun w hw => atoms_spec (ws := (.code yy_M_lockedAt cc_M_lockedAt 4 (some .int) :: kw)) B.pre w (List.mem_cons_of_mem _ hw)
  have hown : s.vm.findClass "OpenDealModel" = some m.cls := findClass_of_methodNamed B.named
  have hl := lv_entry ([.ref (ad 0), .int a1, .int a2, .int a3]) (n := 4) (Nat.le_of_ble_eq_true rfl)
  rw [lg_entry_eq]
  generalize (lg_sl ([.ref (ad 0), .int a1, .int a2, .int a3]) ++ List.replicate (4 - (lg_sl ([.ref (ad 0), .int a1, .int a2, .int a3])).length) Slot.unset).toArray = ls at hl ⊢
  have hl : lv_has ls 4 [(0, .ref (ad 0)), (1, .int a1), (2, .int a2), (3, .int a3)] := hl
  unfold ff_M_lockedAt at h
  refine lv_aload_n hx hb dd_M_lockedAt_0 rfl (lv_at hl 0 rfl) ?_
  refine va_get (D := D) (ci := 4) (v := .ref (ad 15)) (C := "OpenDealModel") (T := T_M) (N := 32) hx hb hk in_M hown hK hP 0 am_0 rfl 19 (by decide) (hk _ kw_556) (fun _ h9 => h9) rfl dd_M_lockedAt_1 ?_
  refine lv_bipush (v := 52) hx hb dd_M_lockedAt_4 (by decide) ?_
  refine lv_iload_n hx hb dd_M_lockedAt_6 rfl (lv_at hl 1 rfl) ?_
  refine lv_imul hx hb dd_M_lockedAt_7 ?_
  refine lv_aload_n hx hb dd_M_lockedAt_8 rfl (lv_at hl 0 rfl) ?_
  refine va_get (D := D) (ci := 4) (v := .ref (ad 16)) (C := "OpenDealModel") (T := T_M) (N := 32) hx hb hk in_M hown hK hP 0 am_0 rfl 21 (by decide) (hk _ kw_558) (fun _ h9 => h9) rfl dd_M_lockedAt_9 ?_
  refine lv_iload_n hx hb dd_M_lockedAt_12 rfl (lv_at hl 2 rfl) ?_
  obtain ⟨hi1, h⟩ := oi_out h
  refine va_iald hx hb hK hP 16 0 am_16 rfl hi1 dd_M_lockedAt_13 ?_
  refine lv_iadd hx hb dd_M_lockedAt_14 ?_
  obtain ⟨hi2, h⟩ := oi_out h
  refine va_iald hx hb hK hP 15 0 am_15 rfl hi2 dd_M_lockedAt_15 ?_
  refine lv_iload_n hx hb dd_M_lockedAt_16 rfl (lv_at hl 3 rfl) ?_
  refine lv_aload_n hx hb dd_M_lockedAt_17 rfl (lv_at hl 0 rfl) ?_
  refine va_get (D := D) (ci := 4) (v := .int (I 0 1)) (C := "OpenDealModel") (T := T_M) (N := 32) hx hb hk in_M hown hK hP 0 am_0 rfl 1 (by decide) (hk _ kw_538) (fun _ h9 => h9) rfl dd_M_lockedAt_18 ?_
  obtain ⟨r3, hr3, h⟩ := ob_out h
  refine ro_Si (n := 3) (As := [.int (I 15 (((52 : Int32) * a1) + (I 16 (a2).toNatClampNeg)).toNatClampNeg), .int a3, .int (I 0 1)]) hx hb hml hown hk (mm_M_power l _ _ _ _ _ hr3) (fun U _ _ => trivial) (fun _ _ _ _ _ => trivial) kw_707 kw_708 kw_4 kw_709 ⟨rfl, rfl⟩ (by decide +kernel) ⟨Nat.le_of_ble_eq_true rfl, Nat.le_of_ble_eq_true rfl⟩ rfl hl.1 rfl (Nat.le_of_ble_eq_true rfl) dd_M_lockedAt_21 ⟨Nat.le_of_ble_eq_true rfl, Nat.le_of_ble_eq_true rfl⟩ ?_
  obtain rfl := Option.some.inj h
  exact W.iret hx hb hr (fun t ht hW => ⟨_, rfl, rfl, ht⟩) (fun q hq => by cases hq) dd_M_lockedAt_24
def ff_M_relockedAt (n : Nat) (I : MI) (J : MJ) (a1 : Int32) (a2 : Int32) (a3 : Int32) : Option (Int32) := if ¬ ((((52 : Int32) * a1) + a2) < 0 ∨ 468 ≤ (((52 : Int32) * a1) + a2).toNatClampNeg) then (ff_M_inverse n I J a3).bind fun r2 => (ff_M_power n (I 15 (((52 : Int32) * a1) + a2).toNatClampNeg) r2 (I 0 1)).bind fun r3 => if ¬ (a2 < 0 ∨ 52 ≤ (a2).toNatClampNeg) then (ff_M_power n r3 (I 17 (a2).toNatClampNeg) (I 0 1)).bind fun r5 => some r5 else none else none
set_option maxHeartbeats 4000000 in
set_option maxRecDepth 100000 in
theorem mm_M_relockedAt (l : Launch) (D : va_G) (kc : Nat → ClassId) (ad : Nat → Nat) (I : MI) (J : MJ) (n : Nat) (a1 : Int32) (a2 : Int32) (a3 : Int32) (r : Int32) (h : ff_M_relockedAt n I J a1 a2 a3 = some r) : Met l yy_M_relockedAt (.code yy_M_relockedAt cc_M_relockedAt 4 (some .int) :: kw) { frames := 2, cells := 0, slots := 0, locals := 48 } (va_Pc [.ref (ad 0), .int a1, .int a2, .int a3] (BR D kc (wM kc ad I J))) (vp_Si (fun z => z = r)) 0 0 (fun _ => False) := by
  refine Met.ofW (cc := cc_M_relockedAt) (maxL := 4) (ret := some .int) (by decide) rfl ?_
  intro p e s m args below meth c s₁ B hml hv
  obtain ⟨rfl, hP, hK⟩ := hv
  have hx := B.exec
  have hb := B.bytes
  have hr := B.returns
  have hlocks := B.notSynchronized
  have hk : ∀ w ∈ kw, w.before _ s = true := fun w hw => atoms_spec (ws := (.code yy_M_relockedAt cc_M_relockedAt 4 (some .int) :: kw)) B.pre w (List.mem_cons_of_mem _ hw)
  have hown : s.vm.findClass "OpenDealModel" = some m.cls := findClass_of_methodNamed B.named
  have hl := lv_entry ([.ref (ad 0), .int a1, .int a2, .int a3]) (n := 4) (Nat.le_of_ble_eq_true rfl)
  rw [lg_entry_eq]
  generalize (lg_sl ([.ref (ad 0), .int a1, .int a2, .int a3]) ++ List.replicate (4 - (lg_sl ([.ref (ad 0), .int a1, .int a2, .int a3])).length) Slot.unset).toArray = ls at hl ⊢
  have hl : lv_has ls 4 [(0, .ref (ad 0)), (1, .int a1), (2, .int a2), (3, .int a3)] := hl
  unfold ff_M_relockedAt at h
  refine lv_aload_n hx hb dd_M_relockedAt_0 rfl (lv_at hl 0 rfl) ?_
  refine va_get (D := D) (ci := 4) (v := .ref (ad 15)) (C := "OpenDealModel") (T := T_M) (N := 32) hx hb hk in_M hown hK hP 0 am_0 rfl 19 (by decide) (hk _ kw_556) (fun _ h9 => h9) rfl dd_M_relockedAt_1 ?_
  refine lv_bipush (v := 52) hx hb dd_M_relockedAt_4 (by decide) ?_
  refine lv_iload_n hx hb dd_M_relockedAt_6 rfl (lv_at hl 1 rfl) ?_
  refine lv_imul hx hb dd_M_relockedAt_7 ?_
  refine lv_iload_n hx hb dd_M_relockedAt_8 rfl (lv_at hl 2 rfl) ?_
  refine lv_iadd hx hb dd_M_relockedAt_9 ?_
  obtain ⟨hi1, h⟩ := oi_out h
  refine va_iald hx hb hK hP 15 0 am_15 rfl hi1 dd_M_relockedAt_10 ?_
  refine lv_aload_n hx hb dd_M_relockedAt_11 rfl (lv_at hl 0 rfl) ?_
  refine lv_iload_n hx hb dd_M_relockedAt_12 rfl (lv_at hl 3 rfl) ?_
  obtain ⟨r2, hr2, h⟩ := ob_out h
  refine cr_Vi (n := 1) (As := [.int a3]) hx hb hml hown hk (mm_M_inverse l D kc ad _ _ _ _ _ hr2) hK hP 0 am_0 rfl rfl kw_714 kw_716 sel_M_inverse kw_4 kw_717 ⟨rfl, rfl⟩ (by decide +kernel) ⟨Nat.le_of_ble_eq_true rfl, Nat.le_of_ble_eq_true rfl⟩ rfl hl.1 rfl (Nat.le_of_ble_eq_true rfl) dd_M_relockedAt_13 ⟨Nat.le_of_ble_eq_true rfl, Nat.le_of_ble_eq_true rfl⟩ ?_
  refine lv_aload_n hx hb dd_M_relockedAt_16 rfl (lv_at hl 0 rfl) ?_
  refine va_get (D := D) (ci := 4) (v := .int (I 0 1)) (C := "OpenDealModel") (T := T_M) (N := 32) hx hb hk in_M hown hK hP 0 am_0 rfl 1 (by decide) (hk _ kw_538) (fun _ h9 => h9) rfl dd_M_relockedAt_17 ?_
  obtain ⟨r3, hr3, h⟩ := ob_out h
  refine ro_Si (n := 3) (As := [.int (I 15 (((52 : Int32) * a1) + a2).toNatClampNeg), .int r2, .int (I 0 1)]) hx hb hml hown hk (mm_M_power l _ _ _ _ _ hr3) (fun U _ _ => trivial) (fun _ _ _ _ _ => trivial) kw_707 kw_708 kw_4 kw_709 ⟨rfl, rfl⟩ (by decide +kernel) ⟨Nat.le_of_ble_eq_true rfl, Nat.le_of_ble_eq_true rfl⟩ rfl hl.1 rfl (Nat.le_of_ble_eq_true rfl) dd_M_relockedAt_20 ⟨Nat.le_of_ble_eq_true rfl, Nat.le_of_ble_eq_true rfl⟩ ?_
  refine lv_aload_n hx hb dd_M_relockedAt_23 rfl (lv_at hl 0 rfl) ?_
  refine va_get (D := D) (ci := 4) (v := .ref (ad 17)) (C := "OpenDealModel") (T := T_M) (N := 32) hx hb hk in_M hown hK hP 0 am_0 rfl 22 (by decide) (hk _ kw_559) (fun _ h9 => h9) rfl dd_M_relockedAt_24 ?_
  refine lv_iload_n hx hb dd_M_relockedAt_27 rfl (lv_at hl 2 rfl) ?_
  obtain ⟨hi4, h⟩ := oi_out h
  refine va_iald hx hb hK hP 17 0 am_17 rfl hi4 dd_M_relockedAt_28 ?_
  refine lv_aload_n hx hb dd_M_relockedAt_29 rfl (lv_at hl 0 rfl) ?_
  refine va_get (D := D) (ci := 4) (v := .int (I 0 1)) (C := "OpenDealModel") (T := T_M) (N := 32) hx hb hk in_M hown hK hP 0 am_0 rfl 1 (by decide) (hk _ kw_538) (fun _ h9 => h9) rfl dd_M_relockedAt_30 ?_
  obtain ⟨r5, hr5, h⟩ := ob_out h
  refine ro_Si (n := 3) (As := [.int r3, .int (I 17 (a2).toNatClampNeg), .int (I 0 1)]) hx hb hml hown hk (mm_M_power l _ _ _ _ _ hr5) (fun U _ _ => trivial) (fun _ _ _ _ _ => trivial) kw_707 kw_708 kw_4 kw_709 ⟨rfl, rfl⟩ (by decide +kernel) ⟨Nat.le_of_ble_eq_true rfl, Nat.le_of_ble_eq_true rfl⟩ rfl hl.1 rfl (Nat.le_of_ble_eq_true rfl) dd_M_relockedAt_33 ⟨Nat.le_of_ble_eq_true rfl, Nat.le_of_ble_eq_true rfl⟩ ?_
  obtain rfl := Option.some.inj h
  exact W.iret hx hb hr (fun t ht hW => ⟨_, rfl, rfl, ht⟩) (fun q hq => by cases hq) dd_M_relockedAt_36
def ff_M_cheated (n : Nat) (I : MI) (J : MJ) (a1 : Int64) (a3 : Int32) (a4 : Int32) : Option (Int32) := if (lg_cmp ((a1 >>> (Int32.toInt64 a3 &&& 63)) &&& (1 : Int64)) (0 : Int64)) = 0 then (some a4) else (if a4 = ((I 0 1) - (1 : Int32)) then (some (1 : Int32)) else (some (a4 + (1 : Int32))))
set_option maxHeartbeats 4000000 in
set_option maxRecDepth 100000 in
theorem mm_M_cheated (l : Launch) (D : va_G) (kc : Nat → ClassId) (ad : Nat → Nat) (I : MI) (J : MJ) (n : Nat) (a1 : Int64) (a3 : Int32) (a4 : Int32) (r : Int32) (h : ff_M_cheated n I J a1 a3 a4 = some r) : Met l yy_M_cheated (.code yy_M_cheated cc_M_cheated 5 (some .int) :: kw) { frames := 0, cells := 0, slots := 0, locals := 0 } (va_Pc [.ref (ad 0), .long a1, .int a3, .int a4] (BR D kc (wM kc ad I J))) (vp_Si (fun z => z = r)) 0 0 (fun _ => False) := by
  refine Met.ofW (cc := cc_M_cheated) (maxL := 5) (ret := some .int) (by decide) rfl ?_
  intro p e s m args below meth c s₁ B hml hv
  obtain ⟨rfl, hP, hK⟩ := hv
  have hx := B.exec
  have hb := B.bytes
  have hr := B.returns
  have hlocks := B.notSynchronized
  have hk : ∀ w ∈ kw, w.before _ s = true := fun w hw => atoms_spec (ws := (.code yy_M_cheated cc_M_cheated 5 (some .int) :: kw)) B.pre w (List.mem_cons_of_mem _ hw)
  have hown : s.vm.findClass "OpenDealModel" = some m.cls := findClass_of_methodNamed B.named
  have hl := lv_entry ([.ref (ad 0), .long a1, .int a3, .int a4]) (n := 5) (Nat.le_of_ble_eq_true rfl)
  rw [lg_entry_eq]
  generalize (lg_sl ([.ref (ad 0), .long a1, .int a3, .int a4]) ++ List.replicate (5 - (lg_sl ([.ref (ad 0), .long a1, .int a3, .int a4])).length) Slot.unset).toArray = ls at hl ⊢
  have hl : lv_has ls 5 [(0, .ref (ad 0)), (1, .long a1), (3, .int a3), (4, .int a4)] := hl
  unfold ff_M_cheated at h
  refine lv_lload_n hx hb dd_M_cheated_0 rfl (lv_at hl 1 rfl) ?_
  refine lv_iload_n hx hb dd_M_cheated_1 rfl (lv_at hl 2 rfl) ?_
  refine lv_lshr hx hb dd_M_cheated_2 rfl ?_
  refine lv_lconst (v := 1) hx hb dd_M_cheated_3 (by decide) ?_
  refine lv_land hx hb dd_M_cheated_4 ?_
  refine lv_lconst (v := 0) hx hb dd_M_cheated_5 (by decide) ?_
  refine W.lcmp hx hb dd_M_cheated_6 ?_
  refine lv_if_ne (tgt := 15) hx hb dd_M_cheated_7 (by decide) (fun hc1 => ?_) (fun hc1 => ?_)
  · have h := in_out hc1 h
    refine lv_iload hx hb dd_M_cheated_15 (lv_at hl 3 rfl) ?_
    refine lv_aload_n hx hb dd_M_cheated_17 rfl (lv_at hl 0 rfl) ?_
    refine va_get (D := D) (ci := 4) (v := .int (I 0 1)) (C := "OpenDealModel") (T := T_M) (N := 32) hx hb hk in_M hown hK hP 0 am_0 rfl 1 (by decide) (hk _ kw_538) (fun _ h9 => h9) rfl dd_M_cheated_18 ?_
    refine lv_iconst (v := 1) hx hb dd_M_cheated_21 (by decide) ?_
    refine lv_isub hx hb dd_M_cheated_22 ?_
    refine lv_icmp_ne (tgt := 30) hx hb dd_M_cheated_23 (by decide) (fun hc2 => ?_) (fun hc2 => ?_)
    · have h := in_out hc2 h
      refine lv_iload hx hb dd_M_cheated_30 (lv_at hl 3 rfl) ?_
      refine lv_iconst (v := 1) hx hb dd_M_cheated_32 (by decide) ?_
      refine lv_iadd hx hb dd_M_cheated_33 ?_
      obtain rfl := Option.some.inj h
      exact W.iret hx hb hr (fun t ht hW => ⟨_, rfl, rfl, ht⟩) (fun q hq => by cases hq) dd_M_cheated_34
    · have h := ip_out hc2 h
      refine lv_iconst (v := 1) hx hb dd_M_cheated_26 (by decide) ?_
      refine lv_goto (tgt := 34) hx hb dd_M_cheated_27 (by decide) ?_
      obtain rfl := Option.some.inj h
      exact W.iret hx hb hr (fun t ht hW => ⟨_, rfl, rfl, ht⟩) (fun q hq => by cases hq) dd_M_cheated_34
  · have h := ip_out hc1 h
    refine lv_iload hx hb dd_M_cheated_10 (lv_at hl 3 rfl) ?_
    refine lv_goto (tgt := 34) hx hb dd_M_cheated_12 (by decide) ?_
    obtain rfl := Option.some.inj h
    exact W.iret hx hb hr (fun t ht hW => ⟨_, rfl, rfl, ht⟩) (fun q hq => by cases hq) dd_M_cheated_34
