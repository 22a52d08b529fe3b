/-! the class, laid by program -/
def ff_O_assign_43  (n : Nat) (I : MI) (J : MJ) (v1 : Int32) (v2 : Int32) : Option (Int32 × MI × MJ) := if ¬ (v1 < 0 ∨ 52 ≤ (v1).toNatClampNeg) then some ((1 : Int32), ui I 3 (v1).toNatClampNeg v2, J) else none
def ff_O_assign (n : Nat) (I : MI) (J : MJ) (a1 : Int32) (a2 : Int32) : Option (Int32 × MI × MJ) := if (I 0 1) = (4 : Int32) then ((ff_O_isPlace n a1).bind fun r3 => if r3 = 0 then (some ((0 : Int32), I, J)) else (if ¬ (a1 < 0 ∨ 52 ≤ (a1).toNatClampNeg) then if (I 3 (a1).toNatClampNeg) = (-2 : Int32) then (if a2 = (-1 : Int32) then (ff_O_assign_43 n I J a1 a2) else ((ff_O_isSeated n I J a2).bind fun r8 => if r8 = 0 then (some ((0 : Int32), I, J)) else (ff_O_assign_43 n I J a1 a2))) else (some ((0 : Int32), I, J)) else none)) else (some ((0 : Int32), I, J))
set_option maxHeartbeats 4000000 in
set_option maxRecDepth 100000 in
theorem mm_O_assign (l : Launch) (D : va_G) (kc : Nat → ClassId) (ad : Nat → Nat) (I0 : MI) (J0 : MJ) (sz n : Nat) (a1 : Int32) (a2 : Int32) (r : Int32 × MI × MJ) (h : ff_O_assign n I0 J0 a1 a2 = some r) : Met l yy_O_assign (.code yy_O_assign cc_O_assign 3 (some .boolean) :: kw) { frames := 1, cells := 0, slots := 0, locals := 21 } (va_Pc [.ref (ad 0), .int a1, .int a2] (BW D kc (wC kc ad I0 J0) sz)) (va_Qi (fun z (_ : Unit) => z = r.1) (EW D kc (va_A (wC kc ad I0 J0) sz) (wC kc ad r.2.1 r.2.2)) (va_A (wC kc ad I0 J0) sz)) 0 0 (va_A (wC kc ad I0 J0) sz) := by
  refine Met.ofW (cc := cc_O_assign) (maxL := 3) (ret := some .boolean) (by decide) rfl ?_
  intro p e s m args below meth c s₁ B hml hv
  obtain ⟨rfl, hsz, hP, hK, hD0⟩ := hv
  have hx := B.exec
  have hb := B.bytes
  have hr := B.returns
  have hlocks := B.notSynchronized
  have hk : ∀ w ∈ kw, w.before _ s = true := fun w hw => atoms_spec (ws := (.code yy_O_assign cc_O_assign 3 (some .boolean) :: kw)) B.pre w (List.mem_cons_of_mem _ hw)
  have hown : s.vm.findClass "OpenDeal" = some m.cls := findClass_of_methodNamed B.named
  subst hsz
  have hD := hD0.self (sz := s.heap.size)
  generalize hAe : va_A (wC kc ad I0 J0) s.heap.size = A at hD ⊢
  have hA : ∀ q : Nat, s.heap.size ≤ q → A q := fun q h => by rw [← hAe]; exact Or.inr h
  have hS : va_S A s.heap s.heap [] := va_S.rf
  have hP : va_P D cls5 (wC kc ad I0 J0) s.heap := hP
  clear hAe hD0
  have L43 : ∀  (n : Nat) (I : MI) (J : MJ) (v1 : Int32) (v2 : Int32), ff_O_assign_43 n I J v1 v2 = some r → ∀ (H : Heap) (locs : List Loc), va_P D cls5 (wC kc ad I J) H → va_D A (wC kc ad I J) → va_S A s.heap H locs → ∀ ls, lv_has ls 3 [(0, .ref (ad 0)), (1, .int v1), (2, .int v2)] → W p l e (headSpec (.code yy_O_assign cc_O_assign 3 (some .boolean) :: kw) { frames := 1, cells := 0, slots := 0, locals := 21 }).room s m ([.ref (ad 0), .int a1, .int a2] : List Value).toArray below meth c H locs 0 0 (MQ below (va_Qi (fun z (_ : Unit) => z = r.1) (EW D kc A (wC kc ad r.2.1 r.2.2)) A) ([.ref (ad 0), .int a1, .int a2] : List Value).toArray s 0 0 A) (F0 m 43 ls []) := by
    intro  n I J v1 v2 h H locs hP hD hS ls hl
    unfold ff_O_assign_43 at h
    refine lv_aload_n hx hb dd_O_assign_43 rfl (lv_at hl 0 rfl) ?_
    refine va_get (D := D) (ci := 0) (v := .ref (ad 3)) (C := "OpenDeal") (T := T_O) (N := 11) hx hb hk in_O hown hK hP 0 at_O rfl 6 (by decide) (hk _ kw_111) (fun _ h9 => h9) rfl dd_O_assign_44 ?_
    refine lv_iload_n hx hb dd_O_assign_47 rfl (lv_at hl 1 rfl) ?_
    refine lv_iload_n hx hb dd_O_assign_48 rfl (lv_at hl 2 rfl) ?_
    obtain ⟨hi1, h⟩ := oi_out h
    refine va_iast hx hb hK hP hD hS 3 0 (at_A isA3) rfl (x := v2) hi1 dd_O_assign_49 (fun H locs hP hD hS => ?_)
    rw [pt_A isA3] at hP hD
    refine lv_iconst (v := 1) hx hb dd_O_assign_50 (by decide) ?_
    obtain rfl := Option.some.inj h
    exact W.zret hx hb hr rfl (fun t ht hW => ⟨⟨_, (), rfl, rfl, by rw [ht]; exact hP, va_K.moved hW.alike hK, hD⟩, hS.F ht⟩) hS.2.2 dd_O_assign_51
  have hl := lv_entry ([.ref (ad 0), .int a1, .int a2]) (n := 3) (Nat.le_of_ble_eq_true rfl)
  rw [lg_entry_eq]
  generalize (lg_sl ([.ref (ad 0), .int a1, .int a2]) ++ List.replicate (3 - (lg_sl ([.ref (ad 0), .int a1, .int a2])).length) Slot.unset).toArray = ls at hl ⊢
  have hl : lv_has ls 3 [(0, .ref (ad 0)), (1, .int a1), (2, .int a2)] := hl
  unfold ff_O_assign at h
  refine lv_aload_n hx hb dd_O_assign_0 rfl (lv_at hl 0 rfl) ?_
  refine va_get (D := D) (ci := 0) (v := .int (I0 0 1)) (C := "OpenDeal") (T := T_O) (N := 11) hx hb hk in_O hown hK hP 0 at_O rfl 1 (by decide) (hk _ kw_106) (fun _ h9 => h9) rfl dd_O_assign_1 ?_
  refine lv_iconst (v := 4) hx hb dd_O_assign_4 (by decide) ?_
  refine lv_icmp_ne (tgt := 26) hx hb dd_O_assign_5 (by decide) (fun hc2 => ?_) (fun hc2 => ?_)
  · have h := in_out hc2 h
    refine lv_iconst (v := 0) hx hb dd_O_assign_26 (by decide) ?_
    obtain rfl := Option.some.inj h
    exact W.zret hx hb hr rfl (fun t ht hW => ⟨⟨_, (), rfl, rfl, by rw [ht]; exact hP, va_K.moved hW.alike hK, hD⟩, hS.F ht⟩) hS.2.2 dd_O_assign_27
  · have h := ip_out hc2 h
    refine lv_iload_n hx hb dd_O_assign_8 rfl (lv_at hl 1 rfl) ?_
    obtain ⟨r3, hr3, h⟩ := ob_out h
    refine ro_Si (n := 1) (As := [.int a1]) hx hb hml hown hk (mm_O_isPlace l _ _ _ hr3) (fun U _ _ => trivial) (fun _ _ _ _ _ => trivial) kw_278 kw_279 kw_1 kw_280 ⟨rfl, rfl⟩ (by decide +kernel) ⟨Nat.le_of_ble_eq_true rfl, Nat.le_of_ble_eq_true rfl⟩ rfl hl.1 rfl (Nat.le_of_ble_eq_true rfl) dd_O_assign_9 ⟨Nat.le_of_ble_eq_true rfl, Nat.le_of_ble_eq_true rfl⟩ ?_
    refine lv_if_eq (tgt := 26) hx hb dd_O_assign_12 (by decide) (fun hc4 => ?_) (fun hc4 => ?_)
    · have h := ip_out hc4 h
      refine lv_iconst (v := 0) hx hb dd_O_assign_26 (by decide) ?_
      obtain rfl := Option.some.inj h
      exact W.zret hx hb hr rfl (fun t ht hW => ⟨⟨_, (), rfl, rfl, by rw [ht]; exact hP, va_K.moved hW.alike hK, hD⟩, hS.F ht⟩) hS.2.2 dd_O_assign_27
    · have h := in_out hc4 h
      refine lv_aload_n hx hb dd_O_assign_15 rfl (lv_at hl 0 rfl) ?_
      refine va_get (D := D) (ci := 0) (v := .ref (ad 3)) (C := "OpenDeal") (T := T_O) (N := 11) hx hb hk in_O hown hK hP 0 at_O rfl 6 (by decide) (hk _ kw_111) (fun _ h9 => h9) rfl dd_O_assign_16 ?_
      refine lv_iload_n hx hb dd_O_assign_19 rfl (lv_at hl 1 rfl) ?_
      obtain ⟨hi5, h⟩ := oi_out h
      refine va_iald hx hb hK hP 3 0 (at_A isA3) rfl hi5 dd_O_assign_20 ?_
      refine lv_bipush (v := -2) hx hb dd_O_assign_21 (by decide) ?_
      refine lv_icmp_eq (tgt := 28) hx hb dd_O_assign_23 (by decide) (fun hc6 => ?_) (fun hc6 => ?_)
      · have h := ip_out hc6 h
        refine lv_iload_n hx hb dd_O_assign_28 rfl (lv_at hl 2 rfl) ?_
        refine lv_iconst (v := -1) hx hb dd_O_assign_29 (by decide) ?_
        refine lv_icmp_eq (tgt := 43) hx hb dd_O_assign_30 (by decide) (fun hc7 => ?_) (fun hc7 => ?_)
        · have h := ip_out hc7 h
          exact L43  _ _ _ _ _ h _ _ hP hD hS _ (lv_sub hl [0, 1, 2] rfl)
        · have h := in_out hc7 h
          refine lv_aload_n hx hb dd_O_assign_33 rfl (lv_at hl 0 rfl) ?_
          refine lv_iload_n hx hb dd_O_assign_34 rfl (lv_at hl 2 rfl) ?_
          obtain ⟨r8, hr8, h⟩ := ob_out h
          refine cr_Vi (n := 1) (As := [.int a2]) hx hb hml hown hk (mm_O_isSeated l D kc ad _ _ _ _ _ hr8) hK hP 0 at_O rfl rfl kw_196 kw_198 sel_O_isSeated kw_1 kw_199 ⟨rfl, rfl⟩ (by decide +kernel) ⟨Nat.le_of_ble_eq_true rfl, Nat.le_of_ble_eq_true rfl⟩ rfl hl.1 rfl (Nat.le_of_ble_eq_true rfl) dd_O_assign_35 ⟨Nat.le_of_ble_eq_true rfl, Nat.le_of_ble_eq_true rfl⟩ ?_
          refine lv_if_ne (tgt := 43) hx hb dd_O_assign_38 (by decide) (fun hc9 => ?_) (fun hc9 => ?_)
          · have h := in_out hc9 h
            exact L43  _ _ _ _ _ h _ _ hP hD hS _ (lv_sub hl [0, 1, 2] rfl)
          · have h := ip_out hc9 h
            refine lv_iconst (v := 0) hx hb dd_O_assign_41 (by decide) ?_
            obtain rfl := Option.some.inj h
            exact W.zret hx hb hr rfl (fun t ht hW => ⟨⟨_, (), rfl, rfl, by rw [ht]; exact hP, va_K.moved hW.alike hK, hD⟩, hS.F ht⟩) hS.2.2 dd_O_assign_42
      · have h := in_out hc6 h
        refine lv_iconst (v := 0) hx hb dd_O_assign_26 (by decide) ?_
        obtain rfl := Option.some.inj h
        exact W.zret hx hb hr rfl (fun t ht hW => ⟨⟨_, (), rfl, rfl, by rw [ht]; exact hP, va_K.moved hW.alike hK, hD⟩, hS.F ht⟩) hS.2.2 dd_O_assign_27
def ff_P_hasGiven (n : Nat) (I : MI) (J : MJ) (a0 : Nat) (a1 : Int32) : Option (Int32) := if ¬ (a1 < 0 ∨ 52 ≤ (a1).toNatClampNeg) then if (I (a0 + 4) (a1).toNatClampNeg) = 0 then (some (0 : Int32)) else (some (1 : Int32)) else none
set_option maxHeartbeats 4000000 in
set_option maxRecDepth 100000 in
theorem mm_P_hasGiven (l : Launch) (D : va_G) (kc : Nat → ClassId) (ad : Nat → Nat) (I : MI) (J : MJ) (n : Nat) (a0 : Nat) (ha0 : isP a0) (a1 : Int32) (r : Int32) (h : ff_P_hasGiven n I J a0 a1 = some r) : Met l yy_P_hasGiven (.code yy_P_hasGiven cc_P_hasGiven 2 (some .boolean) :: kw) { frames := 0, cells := 0, slots := 0, locals := 0 } (va_Pc [.ref (ad a0), .int a1] (BR D kc (wC kc ad I J))) (vp_Si (fun z => z = r)) 0 0 (fun _ => False) := by
  refine Met.ofW (cc := cc_P_hasGiven) (maxL := 2) (ret := some .boolean) (by decide) rfl ?_
  intro p e s m args below meth c s₁ B hml hv
  obtain ⟨rfl, hP, hK⟩ := hv
  have hx := B.exec
  have hb := B.bytes
  have hr := B.returns
  have hlocks := B.notSynchronized
  have hk : ∀ w ∈ kw, w.before _ s = true := fun w hw => atoms_spec (ws := (.code yy_P_hasGiven cc_P_hasGiven 2 (some .boolean) :: kw)) B.pre w (List.mem_cons_of_mem _ hw)
  have hown : s.vm.findClass "OpenDeal$Player" = some m.cls := findClass_of_methodNamed B.named
  have hl := lv_entry ([.ref (ad a0), .int a1]) (n := 2) (Nat.le_of_ble_eq_true rfl)
  rw [lg_entry_eq]
  generalize (lg_sl ([.ref (ad a0), .int a1]) ++ List.replicate (2 - (lg_sl ([.ref (ad a0), .int a1])).length) Slot.unset).toArray = ls at hl ⊢
  have hl : lv_has ls 2 [(0, .ref (ad a0)), (1, .int a1)] := hl
  unfold ff_P_hasGiven at h
  refine lv_aload_n hx hb dd_P_hasGiven_0 rfl (lv_at hl 0 rfl) ?_
  refine va_get (D := D) (ci := 1) (v := .ref (ad (a0 + 4))) (C := "OpenDeal$Player") (T := T_P) (N := 13) hx hb hk in_P hown hK hP a0 (at_P ha0) rfl 11 (by decide) (hk _ kw_70) (fun _ h9 => h9) rfl dd_P_hasGiven_1 ?_
  refine lv_iload_n hx hb dd_P_hasGiven_4 rfl (lv_at hl 1 rfl) ?_
  obtain ⟨hi1, h⟩ := oi_out h
  refine va_iald hx hb hK hP (a0 + 4) 0 (at_A (isP_A4 ha0)) rfl hi1 dd_P_hasGiven_5 ?_
  refine lv_if_eq (tgt := 13) hx hb dd_P_hasGiven_6 (by decide) (fun hc2 => ?_) (fun hc2 => ?_)
  · have h := ip_out hc2 h
    refine lv_iconst (v := 0) hx hb dd_P_hasGiven_13 (by decide) ?_
    obtain rfl := Option.some.inj h
    exact W.zret hx hb hr rfl (fun t ht hW => ⟨_, rfl, rfl, ht⟩) (fun q hq => by cases hq) dd_P_hasGiven_14
  · have h := in_out hc2 h
    refine lv_iconst (v := 1) hx hb dd_P_hasGiven_9 (by decide) ?_
    refine lv_goto (tgt := 14) hx hb dd_P_hasGiven_10 (by decide) ?_
    obtain rfl := Option.some.inj h
    exact W.zret hx hb hr rfl (fun t ht hW => ⟨_, rfl, rfl, ht⟩) (fun q hq => by cases hq) dd_P_hasGiven_14
def ff_O_give (n : Nat) (I : MI) (J : MJ) (a1 : Int32) (a2 : Int32) : Option (Int32 × MI × MJ) := if (I 0 1) = (4 : Int32) then ((ff_O_isSeated n I J a1).bind fun r2 => if r2 = 0 then (some ((0 : Int32), I, J)) else ((ff_O_isPlace n a2).bind fun r4 => if r4 = 0 then (some ((0 : Int32), I, J)) else (if ¬ (a1 < 0 ∨ 4 ≤ (a1).toNatClampNeg) then if ¬ (a2 < 0 ∨ 52 ≤ (a2).toNatClampNeg) then if (I 3 (a2).toNatClampNeg) = (-2 : Int32) then (some ((0 : Int32), I, J)) else (if ¬ (a2 < 0 ∨ 52 ≤ (a2).toNatClampNeg) then if (I 3 (a2).toNatClampNeg) = a1 then (some ((0 : Int32), I, J)) else ((ff_P_hasGiven n I J (15 + 6 * (a1).toNatClampNeg) a2).bind fun r11 => if r11 = 0 then (if ¬ (a2 < 0 ∨ 52 ≤ (a2).toNatClampNeg) then tl (I ((15 + 6 * (a1).toNatClampNeg) + 3) (a2).toNatClampNeg) fun y14 => (ff_P_cheatsAt n I J (15 + 6 * (a1).toNatClampNeg) (2 : Int32) a2).bind fun r15 => if r15 = 0 then (if ¬ (a2 < 0 ∨ 52 ≤ (a2).toNatClampNeg) then some ((1 : Int32), ui I ((15 + 6 * (a1).toNatClampNeg) + 4) (a2).toNatClampNeg y14, J) else none) else ((ff_N_exponentAbove n y14 (I 0 0)).bind fun r18 => if ¬ (a2 < 0 ∨ 52 ≤ (a2).toNatClampNeg) then some ((1 : Int32), ui I ((15 + 6 * (a1).toNatClampNeg) + 4) (a2).toNatClampNeg r18, J) else none) else none) else (some ((0 : Int32), I, J))) else none) else none else none))) else (some ((0 : Int32), I, J))
set_option maxHeartbeats 4000000 in
set_option maxRecDepth 100000 in
theorem mm_O_give (l : Launch) (D : va_G) (kc : Nat → ClassId) (ad : Nat → Nat) (I0 : MI) (J0 : MJ) (sz n : Nat) (a1 : Int32) (a2 : Int32) (r : Int32 × MI × MJ) (h : ff_O_give n I0 J0 a1 a2 = some r) : Met l yy_O_give (.code yy_O_give cc_O_give 5 (some .boolean) :: kw) { frames := 2, cells := 0, slots := 0, locals := 43 } (va_Pc [.ref (ad 0), .int a1, .int a2] (BW D kc (wC kc ad I0 J0) sz)) (va_Qi (fun z (_ : Unit) => z = r.1) (EW D kc (va_A (wC kc ad I0 J0) sz) (wC kc ad r.2.1 r.2.2)) (va_A (wC kc ad I0 J0) sz)) 0 0 (va_A (wC kc ad I0 J0) sz) := by
  refine Met.ofW (cc := cc_O_give) (maxL := 5) (ret := some .boolean) (by decide) rfl ?_
  intro p e s m args below meth c s₁ B hml hv
  obtain ⟨rfl, hsz, hP, hK, hD0⟩ := hv
  have hx := B.exec
  have hb := B.bytes
  have hr := B.returns
  have hlocks := B.notSynchronized
  have hk : ∀ w ∈ kw, w.before _ s = true := fun w hw => atoms_spec (ws := (.code yy_O_give cc_O_give 5 (some .boolean) :: kw)) B.pre w (List.mem_cons_of_mem _ hw)
  have hown : s.vm.findClass "OpenDeal" = some m.cls := findClass_of_methodNamed B.named
  subst hsz
  have hD := hD0.self (sz := s.heap.size)
  generalize hAe : va_A (wC kc ad I0 J0) s.heap.size = A at hD ⊢
  have hA : ∀ q : Nat, s.heap.size ≤ q → A q := fun q h => by rw [← hAe]; exact Or.inr h
  have hS : va_S A s.heap s.heap [] := va_S.rf
  have hP : va_P D cls5 (wC kc ad I0 J0) s.heap := hP
  clear hAe hD0
  have hl := lv_entry ([.ref (ad 0), .int a1, .int a2]) (n := 5) (Nat.le_of_ble_eq_true rfl)
  rw [lg_entry_eq]
  generalize (lg_sl ([.ref (ad 0), .int a1, .int a2]) ++ List.replicate (5 - (lg_sl ([.ref (ad 0), .int a1, .int a2])).length) Slot.unset).toArray = ls at hl ⊢
  have hl : lv_has ls 5 [(0, .ref (ad 0)), (1, .int a1), (2, .int a2)] := hl
  unfold ff_O_give at h
  refine lv_aload_n hx hb dd_O_give_0 rfl (lv_at hl 0 rfl) ?_
  refine va_get (D := D) (ci := 0) (v := .int (I0 0 1)) (C := "OpenDeal") (T := T_O) (N := 11) hx hb hk in_O hown hK hP 0 at_O rfl 1 (by decide) (hk _ kw_106) (fun _ h9 => h9) rfl dd_O_give_1 ?_
  refine lv_iconst (v := 4) hx hb dd_O_give_4 (by decide) ?_
  refine lv_icmp_ne (tgt := 23) hx hb dd_O_give_5 (by decide) (fun hc1 => ?_) (fun hc1 => ?_)
  · have h := in_out hc1 h
    refine lv_iconst (v := 0) hx hb dd_O_give_23 (by decide) ?_
    obtain rfl := Option.some.inj h
    exact W.zret hx hb hr rfl (fun t ht hW => ⟨⟨_, (), rfl, rfl, by rw [ht]; exact hP, va_K.moved hW.alike hK, hD⟩, hS.F ht⟩) hS.2.2 dd_O_give_24
  · have h := ip_out hc1 h
    refine lv_aload_n hx hb dd_O_give_8 rfl (lv_at hl 0 rfl) ?_
    refine lv_iload_n hx hb dd_O_give_9 rfl (lv_at hl 1 rfl) ?_
    obtain ⟨r2, hr2, h⟩ := ob_out h
    refine cr_Vi (n := 1) (As := [.int a1]) hx hb hml hown hk (mm_O_isSeated l D kc ad _ _ _ _ _ hr2) hK hP 0 at_O rfl rfl kw_196 kw_198 sel_O_isSeated kw_1 kw_199 ⟨rfl, rfl⟩ (by decide +kernel) ⟨Nat.le_of_ble_eq_true rfl, Nat.le_of_ble_eq_true rfl⟩ rfl hl.1 rfl (Nat.le_of_ble_eq_true rfl) dd_O_give_10 ⟨Nat.le_of_ble_eq_true rfl, Nat.le_of_ble_eq_true rfl⟩ ?_
    refine lv_if_eq (tgt := 23) hx hb dd_O_give_13 (by decide) (fun hc3 => ?_) (fun hc3 => ?_)
    · have h := ip_out hc3 h
      refine lv_iconst (v := 0) hx hb dd_O_give_23 (by decide) ?_
      obtain rfl := Option.some.inj h
      exact W.zret hx hb hr rfl (fun t ht hW => ⟨⟨_, (), rfl, rfl, by rw [ht]; exact hP, va_K.moved hW.alike hK, hD⟩, hS.F ht⟩) hS.2.2 dd_O_give_24
    · have h := in_out hc3 h
      refine lv_iload_n hx hb dd_O_give_16 rfl (lv_at hl 2 rfl) ?_
      obtain ⟨r4, hr4, h⟩ := ob_out h
      refine ro_Si (n := 1) (As := [.int a2]) hx hb hml hown hk (mm_O_isPlace l _ _ _ hr4) (fun U _ _ => trivial) (fun _ _ _ _ _ => trivial) kw_278 kw_279 kw_1 kw_280 ⟨rfl, rfl⟩ (by decide +kernel) ⟨Nat.le_of_ble_eq_true rfl, Nat.le_of_ble_eq_true rfl⟩ rfl hl.1 rfl (Nat.le_of_ble_eq_true rfl) dd_O_give_17 ⟨Nat.le_of_ble_eq_true rfl, Nat.le_of_ble_eq_true rfl⟩ ?_
      refine lv_if_ne (tgt := 25) hx hb dd_O_give_20 (by decide) (fun hc5 => ?_) (fun hc5 => ?_)
      · have h := in_out hc5 h
        refine lv_aload_n hx hb dd_O_give_25 rfl (lv_at hl 0 rfl) ?_
        refine va_get (D := D) (ci := 0) (v := .ref (ad 1)) (C := "OpenDeal") (T := T_O) (N := 11) hx hb hk in_O hown hK hP 0 at_O rfl 3 (by decide) (hk _ kw_108) (fun _ h9 => h9) rfl dd_O_give_26 ?_
        refine lv_iload_n hx hb dd_O_give_29 rfl (lv_at hl 1 rfl) ?_
        obtain ⟨hi6, h⟩ := oi_out h
        refine ap_ald (b := ad (15 + 6 * (a1).toNatClampNeg)) hx hb hK hP 1 3 at_pl rfl hi6 (if_pos (vi_lt hi6)) dd_O_give_30 ?_
        refine lv_astore_n (lv' := [(3, .ref (ad (15 + 6 * (a1).toNatClampNeg))), (0, .ref (ad 0)), (1, .int a1), (2, .int a2)]) hx hb dd_O_give_31 rfl hl (by decide) rfl (fun ls hl => ?_)
        refine lv_aload_n hx hb dd_O_give_32 rfl (lv_at hl 1 rfl) ?_
        refine va_get (D := D) (ci := 0) (v := .ref (ad 3)) (C := "OpenDeal") (T := T_O) (N := 11) hx hb hk in_O hown hK hP 0 at_O rfl 6 (by decide) (hk _ kw_111) (fun _ h9 => h9) rfl dd_O_give_33 ?_
        refine lv_iload_n hx hb dd_O_give_36 rfl (lv_at hl 3 rfl) ?_
        obtain ⟨hi7, h⟩ := oi_out h
        refine va_iald hx hb hK hP 3 0 (at_A isA3) rfl hi7 dd_O_give_37 ?_
        refine lv_bipush (v := -2) hx hb dd_O_give_38 (by decide) ?_
        refine lv_icmp_eq (tgt := 61) hx hb dd_O_give_40 (by decide) (fun hc8 => ?_) (fun hc8 => ?_)
        · have h := ip_out hc8 h
          refine lv_iconst (v := 0) hx hb dd_O_give_61 (by decide) ?_
          obtain rfl := Option.some.inj h
          exact W.zret hx hb hr rfl (fun t ht hW => ⟨⟨_, (), rfl, rfl, by rw [ht]; exact hP, va_K.moved hW.alike hK, hD⟩, hS.F ht⟩) hS.2.2 dd_O_give_62
        · have h := in_out hc8 h
          refine lv_aload_n hx hb dd_O_give_43 rfl (lv_at hl 1 rfl) ?_
          refine va_get (D := D) (ci := 0) (v := .ref (ad 3)) (C := "OpenDeal") (T := T_O) (N := 11) hx hb hk in_O hown hK hP 0 at_O rfl 6 (by decide) (hk _ kw_111) (fun _ h9 => h9) rfl dd_O_give_44 ?_
          refine lv_iload_n hx hb dd_O_give_47 rfl (lv_at hl 3 rfl) ?_
          obtain ⟨hi9, h⟩ := oi_out h
          refine va_iald hx hb hK hP 3 0 (at_A isA3) rfl hi9 dd_O_give_48 ?_
          refine lv_iload_n hx hb dd_O_give_49 rfl (lv_at hl 2 rfl) ?_
          refine lv_icmp_eq (tgt := 61) hx hb dd_O_give_50 (by decide) (fun hc10 => ?_) (fun hc10 => ?_)
          · have h := ip_out hc10 h
            refine lv_iconst (v := 0) hx hb dd_O_give_61 (by decide) ?_
            obtain rfl := Option.some.inj h
            exact W.zret hx hb hr rfl (fun t ht hW => ⟨⟨_, (), rfl, rfl, by rw [ht]; exact hP, va_K.moved hW.alike hK, hD⟩, hS.F ht⟩) hS.2.2 dd_O_give_62
          · have h := in_out hc10 h
            refine lv_aload_n hx hb dd_O_give_53 rfl (lv_at hl 0 rfl) ?_
            refine lv_iload_n hx hb dd_O_give_54 rfl (lv_at hl 3 rfl) ?_
            obtain ⟨r11, hr11, h⟩ := ob_out h
            refine cr_Vi (n := 1) (As := [.int a2]) hx hb hml hown hk (mm_P_hasGiven l D kc ad _ _ _ _ (isP_of (vi_lt hi6)) _ _ hr11) hK hP (15 + 6 * (a1).toNatClampNeg) (at_P (isP_of (vi_lt hi6))) rfl rfl kw_285 kw_286 kw_287 kw_2 kw_288 ⟨rfl, rfl⟩ (by decide +kernel) ⟨Nat.le_of_ble_eq_true rfl, Nat.le_of_ble_eq_true rfl⟩ rfl hl.1 rfl (Nat.le_of_ble_eq_true rfl) dd_O_give_55 ⟨Nat.le_of_ble_eq_true rfl, Nat.le_of_ble_eq_true rfl⟩ ?_
            refine lv_if_eq (tgt := 63) hx hb dd_O_give_58 (by decide) (fun hc12 => ?_) (fun hc12 => ?_)
            · have h := ip_out hc12 h
              refine lv_aload_n hx hb dd_O_give_63 rfl (lv_at hl 0 rfl) ?_
              refine va_get (D := D) (ci := 1) (v := .ref (ad ((15 + 6 * (a1).toNatClampNeg) + 3))) (C := "OpenDeal$Player") (T := T_P) (N := 13) hx hb hk in_P hown hK hP (15 + 6 * (a1).toNatClampNeg) (at_P (isP_of (vi_lt hi6))) rfl 10 (by decide) (hk _ kw_69) (fun _ h9 => h9) rfl dd_O_give_64 ?_
              refine lv_iload_n hx hb dd_O_give_67 rfl (lv_at hl 3 rfl) ?_
              obtain ⟨hi13, h⟩ := oi_out h
              refine va_iald hx hb hK hP ((15 + 6 * (a1).toNatClampNeg) + 3) 0 (at_A (isP_A3 (isP_of (vi_lt hi6)))) rfl hi13 dd_O_give_68 ?_
              refine lv_topi (fun y14 ey14 => ?_)
              have h := tl_at ey14 h
              refine lv_istore (lv' := [(4, .int y14), (3, .ref (ad (15 + 6 * (a1).toNatClampNeg))), (0, .ref (ad 0)), (1, .int a1), (2, .int a2)]) hx hb dd_O_give_69 hl (by decide) rfl (fun ls hl => ?_)
              refine lv_aload_n hx hb dd_O_give_71 rfl (lv_at hl 1 rfl) ?_
              refine va_get (D := D) (ci := 1) (v := .ref (ad ((15 + 6 * (a1).toNatClampNeg) + 4))) (C := "OpenDeal$Player") (T := T_P) (N := 13) hx hb hk in_P hown hK hP (15 + 6 * (a1).toNatClampNeg) (at_P (isP_of (vi_lt hi6))) rfl 11 (by decide) (hk _ kw_71) (fun _ h9 => h9) rfl dd_O_give_72 ?_
              refine lv_iload_n hx hb dd_O_give_75 rfl (lv_at hl 4 rfl) ?_
              refine lv_aload_n hx hb dd_O_give_76 rfl (lv_at hl 1 rfl) ?_
              refine lv_iconst (v := 2) hx hb dd_O_give_77 (by decide) ?_
              refine lv_iload_n hx hb dd_O_give_78 rfl (lv_at hl 4 rfl) ?_
              obtain ⟨r15, hr15, h⟩ := ob_out h
              refine cr_Vi (n := 2) (As := [.int (2 : Int32), .int a2]) hx hb hml hown hk (mm_P_cheatsAt l D kc ad _ _ _ _ (isP_of (vi_lt hi6)) _ _ _ hr15) hK hP (15 + 6 * (a1).toNatClampNeg) (at_P (isP_of (vi_lt hi6))) rfl rfl kw_270 kw_271 kw_272 kw_2 kw_273 ⟨rfl, rfl⟩ (by decide +kernel) ⟨Nat.le_of_ble_eq_true rfl, Nat.le_of_ble_eq_true rfl⟩ rfl hl.1 rfl (Nat.le_of_ble_eq_true rfl) dd_O_give_79 ⟨Nat.le_of_ble_eq_true rfl, Nat.le_of_ble_eq_true rfl⟩ ?_
              refine lv_if_eq (tgt := 97) hx hb dd_O_give_82 (by decide) (fun hc16 => ?_) (fun hc16 => ?_)
              · have h := ip_out hc16 h
                refine lv_iload hx hb dd_O_give_97 (lv_at hl 0 rfl) ?_
                obtain ⟨hi17, h⟩ := oi_out h
                refine va_iast hx hb hK hP hD hS ((15 + 6 * (a1).toNatClampNeg) + 4) 0 (at_A (isP_A4 (isP_of (vi_lt hi6)))) rfl (x := y14) hi17 dd_O_give_99 (fun H locs hP hD hS => ?_)
                rw [pt_A (isP_A4 (isP_of (vi_lt hi6)))] at hP hD
                refine lv_iconst (v := 1) hx hb dd_O_give_100 (by decide) ?_
                obtain rfl := Option.some.inj h
                exact W.zret hx hb hr rfl (fun t ht hW => ⟨⟨_, (), rfl, rfl, by rw [ht]; exact hP, va_K.moved hW.alike hK, hD⟩, hS.F ht⟩) hS.2.2 dd_O_give_101
              · have h := in_out hc16 h
                refine lv_iload hx hb dd_O_give_85 (lv_at hl 0 rfl) ?_
                refine lv_aload_n hx hb dd_O_give_87 rfl (lv_at hl 2 rfl) ?_
                refine va_get (D := D) (ci := 0) (v := .int (I0 0 0)) (C := "OpenDeal") (T := T_O) (N := 11) hx hb hk in_O hown hK hP 0 at_O rfl 0 (by decide) (hk _ kw_105) (fun _ h9 => h9) rfl dd_O_give_88 ?_
                obtain ⟨r18, hr18, h⟩ := ob_out h
                refine ro_Si (n := 2) (As := [.int y14, .int (I0 0 0)]) hx hb hml hown hk (mm_N_exponentAbove l _ _ _ _ hr18) (fun U _ _ => trivial) (fun _ _ _ _ _ => trivial) kw_289 kw_290 kw_5 kw_291 ⟨rfl, rfl⟩ (by decide +kernel) ⟨Nat.le_of_ble_eq_true rfl, Nat.le_of_ble_eq_true rfl⟩ rfl hl.1 rfl (Nat.le_of_ble_eq_true rfl) dd_O_give_91 ⟨Nat.le_of_ble_eq_true rfl, Nat.le_of_ble_eq_true rfl⟩ ?_
                refine lv_goto (tgt := 99) hx hb dd_O_give_94 (by decide) ?_
                obtain ⟨hi19, h⟩ := oi_out h
                refine va_iast hx hb hK hP hD hS ((15 + 6 * (a1).toNatClampNeg) + 4) 0 (at_A (isP_A4 (isP_of (vi_lt hi6)))) rfl (x := r18) hi19 dd_O_give_99 (fun H locs hP hD hS => ?_)
                rw [pt_A (isP_A4 (isP_of (vi_lt hi6)))] at hP hD
                refine lv_iconst (v := 1) hx hb dd_O_give_100 (by decide) ?_
                obtain rfl := Option.some.inj h
                exact W.zret hx hb hr rfl (fun t ht hW => ⟨⟨_, (), rfl, rfl, by rw [ht]; exact hP, va_K.moved hW.alike hK, hD⟩, hS.F ht⟩) hS.2.2 dd_O_give_101
            · have h := in_out hc12 h
              refine lv_iconst (v := 0) hx hb dd_O_give_61 (by decide) ?_
              obtain rfl := Option.some.inj h
              exact W.zret hx hb hr rfl (fun t ht hW => ⟨⟨_, (), rfl, rfl, by rw [ht]; exact hP, va_K.moved hW.alike hK, hD⟩, hS.F ht⟩) hS.2.2 dd_O_give_62
      · have h := ip_out hc5 h
        refine lv_iconst (v := 0) hx hb dd_O_give_23 (by decide) ?_
        obtain rfl := Option.some.inj h
        exact W.zret hx hb hr rfl (fun t ht hW => ⟨⟨_, (), rfl, rfl, by rw [ht]; exact hP, va_K.moved hW.alike hK, hD⟩, hS.F ht⟩) hS.2.2 dd_O_give_24
def ff_O_mayOpen_28 (I : MI) (J : MJ)  : Nat → Int32 → Int32 → Int32 → Int32 → Option (Int32)
  | 0, _, _, _, _ => none
  | n + 1, v1, v2, v3, v4 => if (I 0 2) ≤ v4 then (some (1 : Int32)) else (if v4 = v3 then (ff_O_mayOpen_28 I J n v1 v2 v3 (v4 + (1 : Int32))) else (if ¬ (v4 < 0 ∨ 4 ≤ (v4).toNatClampNeg) then (ff_P_hasGiven n I J (15 + 6 * (v4).toNatClampNeg) v2).bind fun r4 => if r4 = 0 then (some (0 : Int32)) else (ff_O_mayOpen_28 I J n v1 v2 v3 (v4 + (1 : Int32))) else none))
def ff_O_mayOpen (n : Nat) (I : MI) (J : MJ) (a1 : Int32) (a2 : Int32) : Option (Int32) := if ¬ (a2 < 0 ∨ 52 ≤ (a2).toNatClampNeg) then tl (I 3 (a2).toNatClampNeg) fun y7 => if y7 = (-2 : Int32) then (some (0 : Int32)) else (if y7 = (-1 : Int32) then (ff_O_mayOpen_28 I J n a1 a2 y7 (0 : Int32)) else (if y7 = a1 then (ff_O_mayOpen_28 I J n a1 a2 y7 (0 : Int32)) else (some (0 : Int32)))) else none
set_option maxHeartbeats 4000000 in
set_option maxRecDepth 100000 in
theorem mm_O_mayOpen (l : Launch) (D : va_G) (kc : Nat → ClassId) (ad : Nat → Nat) (I : MI) (J : MJ) (n : Nat) (a1 : Int32) (a2 : Int32) (r : Int32) (h : ff_O_mayOpen n I J a1 a2 = some r) : Met l yy_O_mayOpen (.code yy_O_mayOpen cc_O_mayOpen 5 (some .boolean) :: kw) { frames := 1, cells := 0, slots := 0, locals := 21 } (va_Pc [.ref (ad 0), .int a1, .int a2] (BR D kc (wC kc ad I J))) (vp_Si (fun z => z = r)) 0 0 (fun _ => False) := by
  refine Met.ofW (cc := cc_O_mayOpen) (maxL := 5) (ret := some .boolean) (by decide) rfl ?_
  intro p e s m args below meth c s₁ B hml hv
  obtain ⟨rfl, hP, hK⟩ := hv
  have hx := B.exec
  have hb := B.bytes
  have hr := B.returns
  have hlocks := B.notSynchronized
  have hk : ∀ w ∈ kw, w.before _ s = true := fun w hw => atoms_spec (ws := (.code yy_O_mayOpen cc_O_mayOpen 5 (some .boolean) :: kw)) B.pre w (List.mem_cons_of_mem _ hw)
  have hown : s.vm.findClass "OpenDeal" = some m.cls := findClass_of_methodNamed B.named
  have L28 : ∀  (n : Nat) (v1 : Int32) (v2 : Int32) (v3 : Int32) (v4 : Int32), ff_O_mayOpen_28 I J n v1 v2 v3 v4 = some r → ∀ ls, lv_has ls 5 [(0, .ref (ad 0)), (1, .int v1), (2, .int v2), (3, .int v3), (4, .int v4)] → W p l e (headSpec (.code yy_O_mayOpen cc_O_mayOpen 5 (some .boolean) :: kw) { frames := 1, cells := 0, slots := 0, locals := 21 }).room s m ([.ref (ad 0), .int a1, .int a2] : List Value).toArray below meth c s.heap [] 0 0 (MQ below (vp_Si (fun z => z = r)) ([.ref (ad 0), .int a1, .int a2] : List Value).toArray s 0 0 (fun _ => False)) (F0 m 28 ls []) := by
    intro  n
    induction n with
    | zero => intro v1 v2 v3 v4 h; exact absurd h (by simp [ff_O_mayOpen_28])
    | succ n ih =>
      intro v1 v2 v3 v4 h ls hl
      rw [ff_O_mayOpen_28] at h
      refine lv_iload hx hb dd_O_mayOpen_28 (lv_at hl 4 rfl) ?_
      refine lv_aload_n hx hb dd_O_mayOpen_30 rfl (lv_at hl 0 rfl) ?_
      refine va_get (D := D) (ci := 0) (v := .int (I 0 2)) (C := "OpenDeal") (T := T_O) (N := 11) hx hb hk in_O hown hK hP 0 at_O rfl 2 (by decide) (hk _ kw_107) (fun _ h9 => h9) rfl dd_O_mayOpen_31 ?_
      refine lv_icmp_ge (tgt := 65) hx hb dd_O_mayOpen_34 (by decide) (fun hc1 => ?_) (fun hc1 => ?_)
      · have h := ip_out hc1 h
        refine lv_iconst (v := 1) hx hb dd_O_mayOpen_65 (by decide) ?_
        obtain rfl := Option.some.inj h
        exact W.zret hx hb hr rfl (fun t ht hW => ⟨_, rfl, rfl, ht⟩) (fun q hq => by cases hq) dd_O_mayOpen_66
      · have h := in_out hc1 h
        refine lv_iload hx hb dd_O_mayOpen_37 (lv_at hl 4 rfl) ?_
        refine lv_iload_n hx hb dd_O_mayOpen_39 rfl (lv_at hl 3 rfl) ?_
        refine lv_icmp_eq (tgt := 59) hx hb dd_O_mayOpen_40 (by decide) (fun hc2 => ?_) (fun hc2 => ?_)
        · have h := ip_out hc2 h
          refine lv_iinc (v := v4 + (1 : Int32)) (lv' := [(4, .int (v4 + (1 : Int32))), (0, .ref (ad 0)), (1, .int v1), (2, .int v2), (3, .int v3)]) hx hb dd_O_mayOpen_59 hl (k := 4) rfl rfl (by decide) rfl (fun ls hl => ?_)
          refine lv_goto (tgt := 28) hx hb dd_O_mayOpen_62 (by decide) ?_
          exact ih _ _ _ _ h _ (lv_sub hl [1, 2, 3, 4, 0] rfl)
        · have h := in_out hc2 h
          refine lv_aload_n hx hb dd_O_mayOpen_43 rfl (lv_at hl 0 rfl) ?_
          refine va_get (D := D) (ci := 0) (v := .ref (ad 1)) (C := "OpenDeal") (T := T_O) (N := 11) hx hb hk in_O hown hK hP 0 at_O rfl 3 (by decide) (hk _ kw_108) (fun _ h9 => h9) rfl dd_O_mayOpen_44 ?_
          refine lv_iload hx hb dd_O_mayOpen_47 (lv_at hl 4 rfl) ?_
          obtain ⟨hi3, h⟩ := oi_out h
          refine ap_ald (b := ad (15 + 6 * (v4).toNatClampNeg)) hx hb hK hP 1 3 at_pl rfl hi3 (if_pos (vi_lt hi3)) dd_O_mayOpen_49 ?_
          refine lv_iload_n hx hb dd_O_mayOpen_50 rfl (lv_at hl 2 rfl) ?_
          obtain ⟨r4, hr4, h⟩ := ob_out h
          refine cr_Vi (n := 1) (As := [.int v2]) hx hb hml hown hk (mm_P_hasGiven l D kc ad _ _ _ _ (isP_of (vi_lt hi3)) _ _ hr4) hK hP (15 + 6 * (v4).toNatClampNeg) (at_P (isP_of (vi_lt hi3))) rfl rfl kw_285 kw_286 kw_287 kw_2 kw_288 ⟨rfl, rfl⟩ (by decide +kernel) ⟨Nat.le_of_ble_eq_true rfl, Nat.le_of_ble_eq_true rfl⟩ rfl hl.1 rfl (Nat.le_of_ble_eq_true rfl) dd_O_mayOpen_51 ⟨Nat.le_of_ble_eq_true rfl, Nat.le_of_ble_eq_true rfl⟩ ?_
          refine lv_if_ne (tgt := 59) hx hb dd_O_mayOpen_54 (by decide) (fun hc5 => ?_) (fun hc5 => ?_)
          · have h := in_out hc5 h
            refine lv_iinc (v := v4 + (1 : Int32)) (lv' := [(4, .int (v4 + (1 : Int32))), (0, .ref (ad 0)), (1, .int v1), (2, .int v2), (3, .int v3)]) hx hb dd_O_mayOpen_59 hl (k := 4) rfl rfl (by decide) rfl (fun ls hl => ?_)
            refine lv_goto (tgt := 28) hx hb dd_O_mayOpen_62 (by decide) ?_
            exact ih _ _ _ _ h _ (lv_sub hl [1, 2, 3, 4, 0] rfl)
          · have h := ip_out hc5 h
            refine lv_iconst (v := 0) hx hb dd_O_mayOpen_57 (by decide) ?_
            obtain rfl := Option.some.inj h
            exact W.zret hx hb hr rfl (fun t ht hW => ⟨_, rfl, rfl, ht⟩) (fun q hq => by cases hq) dd_O_mayOpen_58
  have hl := lv_entry ([.ref (ad 0), .int a1, .int a2]) (n := 5) (Nat.le_of_ble_eq_true rfl)
  rw [lg_entry_eq]
  generalize (lg_sl ([.ref (ad 0), .int a1, .int a2]) ++ List.replicate (5 - (lg_sl ([.ref (ad 0), .int a1, .int a2])).length) Slot.unset).toArray = ls at hl ⊢
  have hl : lv_has ls 5 [(0, .ref (ad 0)), (1, .int a1), (2, .int a2)] := hl
  unfold ff_O_mayOpen at h
  refine lv_aload_n hx hb dd_O_mayOpen_0 rfl (lv_at hl 0 rfl) ?_
  refine va_get (D := D) (ci := 0) (v := .ref (ad 3)) (C := "OpenDeal") (T := T_O) (N := 11) hx hb hk in_O hown hK hP 0 at_O rfl 6 (by decide) (hk _ kw_111) (fun _ h9 => h9) rfl dd_O_mayOpen_1 ?_
  refine lv_iload_n hx hb dd_O_mayOpen_4 rfl (lv_at hl 2 rfl) ?_
  obtain ⟨hi6, h⟩ := oi_out h
  refine va_iald hx hb hK hP 3 0 (at_A isA3) rfl hi6 dd_O_mayOpen_5 ?_
  refine lv_topi (fun y7 ey7 => ?_)
  have h := tl_at ey7 h
  refine lv_istore_n (lv' := [(3, .int y7), (0, .ref (ad 0)), (1, .int a1), (2, .int a2)]) hx hb dd_O_mayOpen_6 rfl hl (by decide) rfl (fun ls hl => ?_)
  refine lv_iload_n hx hb dd_O_mayOpen_7 rfl (lv_at hl 0 rfl) ?_
  refine lv_bipush (v := -2) hx hb dd_O_mayOpen_8 (by decide) ?_
  refine lv_icmp_eq (tgt := 23) hx hb dd_O_mayOpen_10 (by decide) (fun hc8 => ?_) (fun hc8 => ?_)
  · have h := ip_out hc8 h
    refine lv_iconst (v := 0) hx hb dd_O_mayOpen_23 (by decide) ?_
    obtain rfl := Option.some.inj h
    exact W.zret hx hb hr rfl (fun t ht hW => ⟨_, rfl, rfl, ht⟩) (fun q hq => by cases hq) dd_O_mayOpen_24
  · have h := in_out hc8 h
    refine lv_iload_n hx hb dd_O_mayOpen_13 rfl (lv_at hl 0 rfl) ?_
    refine lv_iconst (v := -1) hx hb dd_O_mayOpen_14 (by decide) ?_
    refine lv_icmp_eq (tgt := 25) hx hb dd_O_mayOpen_15 (by decide) (fun hc9 => ?_) (fun hc9 => ?_)
    · have h := ip_out hc9 h
      refine lv_iconst (v := 0) hx hb dd_O_mayOpen_25 (by decide) ?_
      refine lv_istore (lv' := [(4, .int (0 : Int32)), (3, .int y7), (0, .ref (ad 0)), (1, .int a1), (2, .int a2)]) hx hb dd_O_mayOpen_26 hl (by decide) rfl (fun ls hl => ?_)
      exact L28  _ _ _ _ _ h _ (lv_sub hl [2, 3, 4, 1, 0] rfl)
    · have h := in_out hc9 h
      refine lv_iload_n hx hb dd_O_mayOpen_18 rfl (lv_at hl 0 rfl) ?_
      refine lv_iload_n hx hb dd_O_mayOpen_19 rfl (lv_at hl 2 rfl) ?_
      refine lv_icmp_eq (tgt := 25) hx hb dd_O_mayOpen_20 (by decide) (fun hc10 => ?_) (fun hc10 => ?_)
      · have h := ip_out hc10 h
        refine lv_iconst (v := 0) hx hb dd_O_mayOpen_25 (by decide) ?_
        refine lv_istore (lv' := [(4, .int (0 : Int32)), (3, .int y7), (0, .ref (ad 0)), (1, .int a1), (2, .int a2)]) hx hb dd_O_mayOpen_26 hl (by decide) rfl (fun ls hl => ?_)
        exact L28  _ _ _ _ _ h _ (lv_sub hl [2, 3, 4, 1, 0] rfl)
      · have h := in_out hc10 h
        refine lv_iconst (v := 0) hx hb dd_O_mayOpen_23 (by decide) ?_
        obtain rfl := Option.some.inj h
        exact W.zret hx hb hr rfl (fun t ht hW => ⟨_, rfl, rfl, ht⟩) (fun q hq => by cases hq) dd_O_mayOpen_24
def ff_O_cardOf_2 (I : MI) (J : MJ)  : Nat → Int32 → Int32 → Option (Int32)
  | 0, _, _ => none
  | n + 1, v1, v2 => if (52 : Int32) ≤ v2 then (some (52 : Int32)) else (if ¬ ((0 : Int32) < 0 ∨ 9 ≤ ((0 : Int32)).toNatClampNeg) then if ¬ (v2 < 0 ∨ 52 ≤ (v2).toNatClampNeg) then if (I (6 + ((0 : Int32)).toNatClampNeg) (v2).toNatClampNeg) = v1 then (some v2) else (ff_O_cardOf_2 I J n v1 (v2 + (1 : Int32))) else none else none)
def ff_O_cardOf (n : Nat) (I : MI) (J : MJ) (a1 : Int32) : Option (Int32) := ff_O_cardOf_2 I J n a1 (0 : Int32)
set_option maxHeartbeats 4000000 in
set_option maxRecDepth 100000 in
theorem mm_O_cardOf (l : Launch) (D : va_G) (kc : Nat → ClassId) (ad : Nat → Nat) (I : MI) (J : MJ) (n : Nat) (a1 : Int32) (r : Int32) (h : ff_O_cardOf n I J a1 = some r) : Met l yy_O_cardOf (.code yy_O_cardOf cc_O_cardOf 3 (some .int) :: kw) { frames := 0, cells := 0, slots := 0, locals := 0 } (va_Pc [.ref (ad 0), .int a1] (BR D kc (wC kc ad I J))) (vp_Si (fun z => z = r)) 0 0 (fun _ => False) := by
  refine Met.ofW (cc := cc_O_cardOf) (maxL := 3) (ret := some .int) (by decide) rfl ?_
  intro p e s m args below meth c s₁ B hml hv
  obtain ⟨rfl, hP, hK⟩ := hv
  have hx := B.exec
  have hb := B.bytes
  have hr := B.returns
  have hlocks := B.notSynchronized
  have hk : ∀ w ∈ kw, w.before _ s = true := fun w hw => atoms_spec (ws := (.code yy_O_cardOf cc_O_cardOf 3 (some .int) :: kw)) B.pre w (List.mem_cons_of_mem _ hw)
  have hown : s.vm.findClass "OpenDeal" = some m.cls := findClass_of_methodNamed B.named
  have L2 : ∀  (n : Nat) (v1 : Int32) (v2 : Int32), ff_O_cardOf_2 I J n v1 v2 = some r → ∀ ls, lv_has ls 3 [(0, .ref (ad 0)), (1, .int v1), (2, .int v2)] → W p l e (headSpec (.code yy_O_cardOf cc_O_cardOf 3 (some .int) :: kw) { frames := 0, cells := 0, slots := 0, locals := 0 }).room s m ([.ref (ad 0), .int a1] : List Value).toArray below meth c s.heap [] 0 0 (MQ below (vp_Si (fun z => z = r)) ([.ref (ad 0), .int a1] : List Value).toArray s 0 0 (fun _ => False)) (F0 m 2 ls []) := by
    intro  n
    induction n with
    | zero => intro v1 v2 h; exact absurd h (by simp [ff_O_cardOf_2])
    | succ n ih =>
      intro v1 v2 h ls hl
      rw [ff_O_cardOf_2] at h
      refine lv_iload_n hx hb dd_O_cardOf_2 rfl (lv_at hl 2 rfl) ?_
      refine lv_bipush (v := 52) hx hb dd_O_cardOf_3 (by decide) ?_
      refine lv_icmp_ge (tgt := 28) hx hb dd_O_cardOf_5 (by decide) (fun hc1 => ?_) (fun hc1 => ?_)
      · have h := ip_out hc1 h
        refine lv_bipush (v := 52) hx hb dd_O_cardOf_28 (by decide) ?_
        obtain rfl := Option.some.inj h
        exact W.iret hx hb hr (fun t ht hW => ⟨_, rfl, rfl, ht⟩) (fun q hq => by cases hq) dd_O_cardOf_30
      · have h := in_out hc1 h
        refine lv_aload_n hx hb dd_O_cardOf_8 rfl (lv_at hl 0 rfl) ?_
        refine va_get (D := D) (ci := 0) (v := .ref (ad 2)) (C := "OpenDeal") (T := T_O) (N := 11) hx hb hk in_O hown hK hP 0 at_O rfl 5 (by decide) (hk _ kw_110) (fun _ h9 => h9) rfl dd_O_cardOf_9 ?_
        refine lv_iconst (v := 0) hx hb dd_O_cardOf_12 (by decide) ?_
        obtain ⟨hi2, h⟩ := oi_out h
        refine ag_ald (b := ad (6 + ((0 : Int32)).toNatClampNeg)) hx hb hK hP 2 4 at_dk rfl hi2 (if_pos (vi_lt hi2)) dd_O_cardOf_13 ?_
        refine lv_iload_n hx hb dd_O_cardOf_14 rfl (lv_at hl 2 rfl) ?_
        obtain ⟨hi3, h⟩ := oi_out h
        refine va_iald hx hb hK hP (6 + ((0 : Int32)).toNatClampNeg) 0 (at_A (isA_deck (vi_lt hi2))) rfl hi3 dd_O_cardOf_15 ?_
        refine lv_iload_n hx hb dd_O_cardOf_16 rfl (lv_at hl 1 rfl) ?_
        refine lv_icmp_ne (tgt := 22) hx hb dd_O_cardOf_17 (by decide) (fun hc4 => ?_) (fun hc4 => ?_)
        · have h := in_out hc4 h
          refine lv_iinc (v := v2 + (1 : Int32)) (lv' := [(2, .int (v2 + (1 : Int32))), (0, .ref (ad 0)), (1, .int v1)]) hx hb dd_O_cardOf_22 hl (k := 2) rfl rfl (by decide) rfl (fun ls hl => ?_)
          refine lv_goto (tgt := 2) hx hb dd_O_cardOf_25 (by decide) ?_
          exact ih _ _ h _ (lv_sub hl [1, 2, 0] rfl)
        · have h := ip_out hc4 h
          refine lv_iload_n hx hb dd_O_cardOf_20 rfl (lv_at hl 2 rfl) ?_
          obtain rfl := Option.some.inj h
          exact W.iret hx hb hr (fun t ht hW => ⟨_, rfl, rfl, ht⟩) (fun q hq => by cases hq) dd_O_cardOf_21
  have hl := lv_entry ([.ref (ad 0), .int a1]) (n := 3) (Nat.le_of_ble_eq_true rfl)
  rw [lg_entry_eq]
  generalize (lg_sl ([.ref (ad 0), .int a1]) ++ List.replicate (3 - (lg_sl ([.ref (ad 0), .int a1])).length) Slot.unset).toArray = ls at hl ⊢
  have hl : lv_has ls 3 [(0, .ref (ad 0)), (1, .int a1)] := hl
  unfold ff_O_cardOf at h
  refine lv_iconst (v := 0) hx hb dd_O_cardOf_0 (by decide) ?_
  refine lv_istore_n (lv' := [(2, .int (0 : Int32)), (0, .ref (ad 0)), (1, .int a1)]) hx hb dd_O_cardOf_1 rfl hl (by decide) rfl (fun ls hl => ?_)
  exact L2  _ _ _ h _ (lv_sub hl [1, 2, 0] rfl)
def ff_O_open_93 (I : MI) (J : MJ) (k49 : Int32 → Int32 → Int32 → Int32 → Option (Int32)) (n : Nat) (v1 : Int32) (v2 : Int32) (v3 : Int32) (v4 : Int32) (v5 : Nat) (s0 : Int32) : Option (Int32) := (ff_N_inverse n s0 (I 0 0)).bind fun r1 => (ff_N_power n v3 r1 (I 0 0)).bind fun r2 => k49 v1 v2 r2 (v4 + (1 : Int32))
def ff_O_open_49 (I : MI) (J : MJ)  : Nat → Int32 → Int32 → Int32 → Int32 → Option (Int32)
  | 0, _, _, _, _ => none
  | n + 1, v1, v2, v3, v4 => if (I 0 2) ≤ v4 then ((ff_O_cardOf n I J v3).bind fun r4 => some r4) else (if ¬ (v4 < 0 ∨ 4 ≤ (v4).toNatClampNeg) then (ff_P_hasGiven n I J (15 + 6 * (v4).toNatClampNeg) v2).bind fun r6 => if r6 = 0 then (if ¬ (v2 < 0 ∨ 52 ≤ (v2).toNatClampNeg) then ff_O_open_93 I J (ff_O_open_49 I J n) n v1 v2 v3 v4 (15 + 6 * (v4).toNatClampNeg) (I ((15 + 6 * (v4).toNatClampNeg) + 3) (v2).toNatClampNeg) else none) else (if ¬ (v2 < 0 ∨ 52 ≤ (v2).toNatClampNeg) then ff_O_open_93 I J (ff_O_open_49 I J n) n v1 v2 v3 v4 (15 + 6 * (v4).toNatClampNeg) (I ((15 + 6 * (v4).toNatClampNeg) + 4) (v2).toNatClampNeg) else none) else none)
def ff_O_open (n : Nat) (I : MI) (J : MJ) (a1 : Int32) (a2 : Int32) : Option (Int32) := if (I 0 1) < (4 : Int32) then (some (-1 : Int32)) else ((ff_O_isSeated n I J a1).bind fun r11 => if r11 = 0 then (some (-1 : Int32)) else ((ff_O_isPlace n a2).bind fun r13 => if r13 = 0 then (some (-1 : Int32)) else ((ff_O_mayOpen n I J a1 a2).bind fun r15 => if r15 = 0 then (some (-1 : Int32)) else (if ¬ ((I 0 4) < 0 ∨ 9 ≤ (I 0 4).toNatClampNeg) then if ¬ (a2 < 0 ∨ 52 ≤ (a2).toNatClampNeg) then tl (I (6 + (I 0 4).toNatClampNeg) (a2).toNatClampNeg) fun y19 => ff_O_open_49 I J n a1 a2 y19 (0 : Int32) else none else none))))
set_option maxHeartbeats 4000000 in
set_option maxRecDepth 100000 in
theorem mm_O_open (l : Launch) (D : va_G) (kc : Nat → ClassId) (ad : Nat → Nat) (I : MI) (J : MJ) (n : Nat) (a1 : Int32) (a2 : Int32) (r : Int32) (h : ff_O_open n I J a1 a2 = some r) : Met l yy_O_open (.code yy_O_open cc_O_open 7 (some .int) :: kw) { frames := 3, cells := 0, slots := 0, locals := 68 } (va_Pc [.ref (ad 0), .int a1, .int a2] (BR D kc (wC kc ad I J))) (vp_Si (fun z => z = r)) 0 0 (fun _ => False) := by
  refine Met.ofW (cc := cc_O_open) (maxL := 7) (ret := some .int) (by decide) rfl ?_
  intro p e s m args below meth c s₁ B hml hv
  obtain ⟨rfl, hP, hK⟩ := hv
  have hx := B.exec
  have hb := B.bytes
  have hr := B.returns
  have hlocks := B.notSynchronized
  have hk : ∀ w ∈ kw, w.before _ s = true := fun w hw => atoms_spec (ws := (.code yy_O_open cc_O_open 7 (some .int) :: kw)) B.pre w (List.mem_cons_of_mem _ hw)
  have hown : s.vm.findClass "OpenDeal" = some m.cls := findClass_of_methodNamed B.named
  have L93 : ∀ (k49 : Int32 → Int32 → Int32 → Int32 → Option (Int32)) (hk49 : ∀ (v1 : Int32) (v2 : Int32) (v3 : Int32) (v4 : Int32), k49 v1 v2 v3 v4 = some r → ∀ ls, lv_has ls 7 [(0, .ref (ad 0)), (1, .int v1), (2, .int v2), (3, .int v3), (4, .int v4)] → W p l e (headSpec (.code yy_O_open cc_O_open 7 (some .int) :: kw) { frames := 3, cells := 0, slots := 0, locals := 68 }).room s m ([.ref (ad 0), .int a1, .int a2] : List Value).toArray below meth c s.heap [] 0 0 (MQ below (vp_Si (fun z => z = r)) ([.ref (ad 0), .int a1, .int a2] : List Value).toArray s 0 0 (fun _ => False)) (F0 m 49 ls [])) (n : Nat) (v1 : Int32) (v2 : Int32) (v3 : Int32) (v4 : Int32) (v5 : Nat) (hv5 : isP v5) (s0 : Int32), ff_O_open_93 I J k49 n v1 v2 v3 v4 v5 s0 = some r → ∀ ls, lv_has ls 7 [(0, .ref (ad 0)), (1, .int v1), (2, .int v2), (3, .int v3), (4, .int v4), (5, .ref (ad v5))] → W p l e (headSpec (.code yy_O_open cc_O_open 7 (some .int) :: kw) { frames := 3, cells := 0, slots := 0, locals := 68 }).room s m ([.ref (ad 0), .int a1, .int a2] : List Value).toArray below meth c s.heap [] 0 0 (MQ below (vp_Si (fun z => z = r)) ([.ref (ad 0), .int a1, .int a2] : List Value).toArray s 0 0 (fun _ => False)) (F0 m 93 ls [.int s0]) := by
    intro k49 hk49 n v1 v2 v3 v4 v5 hv5 s0 h ls hl
    unfold ff_O_open_93 at h
    refine lv_istore (lv' := [(6, .int s0), (0, .ref (ad 0)), (1, .int v1), (2, .int v2), (3, .int v3), (4, .int v4), (5, .ref (ad v5))]) hx hb dd_O_open_93 hl (by decide) rfl (fun ls hl => ?_)
    refine lv_iload_n hx hb dd_O_open_95 rfl (lv_at hl 4 rfl) ?_
    refine lv_iload hx hb dd_O_open_96 (lv_at hl 0 rfl) ?_
    refine lv_aload_n hx hb dd_O_open_98 rfl (lv_at hl 1 rfl) ?_
    refine va_get (D := D) (ci := 0) (v := .int (I 0 0)) (C := "OpenDeal") (T := T_O) (N := 11) hx hb hk in_O hown hK hP 0 at_O rfl 0 (by decide) (hk _ kw_105) (fun _ h9 => h9) rfl dd_O_open_99 ?_
    obtain ⟨r1, hr1, h⟩ := ob_out h
    refine ro_Si (n := 2) (As := [.int s0, .int (I 0 0)]) hx hb hml hown hk (mm_N_inverse l _ _ _ _ hr1) (fun U _ _ => trivial) (fun _ _ _ _ _ => trivial) kw_262 kw_263 kw_5 kw_264 ⟨rfl, rfl⟩ (by decide +kernel) ⟨Nat.le_of_ble_eq_true rfl, Nat.le_of_ble_eq_true rfl⟩ rfl hl.1 rfl (Nat.le_of_ble_eq_true rfl) dd_O_open_102 ⟨Nat.le_of_ble_eq_true rfl, Nat.le_of_ble_eq_true rfl⟩ ?_
    refine lv_aload_n hx hb dd_O_open_105 rfl (lv_at hl 1 rfl) ?_
    refine va_get (D := D) (ci := 0) (v := .int (I 0 0)) (C := "OpenDeal") (T := T_O) (N := 11) hx hb hk in_O hown hK hP 0 at_O rfl 0 (by decide) (hk _ kw_105) (fun _ h9 => h9) rfl dd_O_open_106 ?_
    obtain ⟨r2, hr2, h⟩ := ob_out h
    refine ro_Si (n := 3) (As := [.int v3, .int r1, .int (I 0 0)]) hx hb hml hown hk (mm_N_power l _ _ _ _ _ hr2) (fun U _ _ => trivial) (fun _ _ _ _ _ => trivial) kw_261 kw_156 kw_5 kw_157 ⟨rfl, rfl⟩ (by decide +kernel) ⟨Nat.le_of_ble_eq_true rfl, Nat.le_of_ble_eq_true rfl⟩ rfl hl.1 rfl (Nat.le_of_ble_eq_true rfl) dd_O_open_109 ⟨Nat.le_of_ble_eq_true rfl, Nat.le_of_ble_eq_true rfl⟩ ?_
    refine lv_istore_n (lv' := [(3, .int r2), (6, .int s0), (0, .ref (ad 0)), (1, .int v1), (2, .int v2), (4, .int v4), (5, .ref (ad v5))]) hx hb dd_O_open_112 rfl hl (by decide) rfl (fun ls hl => ?_)
    refine lv_iinc (v := v4 + (1 : Int32)) (lv' := [(4, .int (v4 + (1 : Int32))), (3, .int r2), (6, .int s0), (0, .ref (ad 0)), (1, .int v1), (2, .int v2), (5, .ref (ad v5))]) hx hb dd_O_open_113 hl (k := 5) rfl rfl (by decide) rfl (fun ls hl => ?_)
    refine lv_goto (tgt := 49) hx hb dd_O_open_116 (by decide) ?_
    exact hk49 _ _ _ _ h _ (lv_sub hl [3, 4, 5, 1, 0] rfl)
  have L49 : ∀  (n : Nat) (v1 : Int32) (v2 : Int32) (v3 : Int32) (v4 : Int32), ff_O_open_49 I J n v1 v2 v3 v4 = some r → ∀ ls, lv_has ls 7 [(0, .ref (ad 0)), (1, .int v1), (2, .int v2), (3, .int v3), (4, .int v4)] → W p l e (headSpec (.code yy_O_open cc_O_open 7 (some .int) :: kw) { frames := 3, cells := 0, slots := 0, locals := 68 }).room s m ([.ref (ad 0), .int a1, .int a2] : List Value).toArray below meth c s.heap [] 0 0 (MQ below (vp_Si (fun z => z = r)) ([.ref (ad 0), .int a1, .int a2] : List Value).toArray s 0 0 (fun _ => False)) (F0 m 49 ls []) := by
    intro  n
    induction n with
    | zero => intro v1 v2 v3 v4 h; exact absurd h (by simp [ff_O_open_49])
    | succ n ih =>
      intro v1 v2 v3 v4 h ls hl
      rw [ff_O_open_49] at h
      refine lv_iload hx hb dd_O_open_49 (lv_at hl 4 rfl) ?_
      refine lv_aload_n hx hb dd_O_open_51 rfl (lv_at hl 0 rfl) ?_
      refine va_get (D := D) (ci := 0) (v := .int (I 0 2)) (C := "OpenDeal") (T := T_O) (N := 11) hx hb hk in_O hown hK hP 0 at_O rfl 2 (by decide) (hk _ kw_107) (fun _ h9 => h9) rfl dd_O_open_52 ?_
      refine lv_icmp_ge (tgt := 119) hx hb dd_O_open_55 (by decide) (fun hc3 => ?_) (fun hc3 => ?_)
      · have h := ip_out hc3 h
        refine lv_aload_n hx hb dd_O_open_119 rfl (lv_at hl 0 rfl) ?_
        refine lv_iload_n hx hb dd_O_open_120 rfl (lv_at hl 3 rfl) ?_
        obtain ⟨r4, hr4, h⟩ := ob_out h
        refine cr_Vi (n := 1) (As := [.int v3]) hx hb hml hown hk (mm_O_cardOf l D kc ad _ _ _ _ _ hr4) hK hP 0 at_O rfl rfl kw_301 kw_303 sel_O_cardOf kw_1 kw_304 ⟨rfl, rfl⟩ (by decide +kernel) ⟨Nat.le_of_ble_eq_true rfl, Nat.le_of_ble_eq_true rfl⟩ rfl hl.1 rfl (Nat.le_of_ble_eq_true rfl) dd_O_open_121 ⟨Nat.le_of_ble_eq_true rfl, Nat.le_of_ble_eq_true rfl⟩ ?_
        obtain rfl := Option.some.inj h
        exact W.iret hx hb hr (fun t ht hW => ⟨_, rfl, rfl, ht⟩) (fun q hq => by cases hq) dd_O_open_124
      · have h := in_out hc3 h
        refine lv_aload_n hx hb dd_O_open_58 rfl (lv_at hl 0 rfl) ?_
        refine va_get (D := D) (ci := 0) (v := .ref (ad 1)) (C := "OpenDeal") (T := T_O) (N := 11) hx hb hk in_O hown hK hP 0 at_O rfl 3 (by decide) (hk _ kw_108) (fun _ h9 => h9) rfl dd_O_open_59 ?_
        refine lv_iload hx hb dd_O_open_62 (lv_at hl 4 rfl) ?_
        obtain ⟨hi5, h⟩ := oi_out h
        refine ap_ald (b := ad (15 + 6 * (v4).toNatClampNeg)) hx hb hK hP 1 3 at_pl rfl hi5 (if_pos (vi_lt hi5)) dd_O_open_64 ?_
        refine lv_astore (lv' := [(5, .ref (ad (15 + 6 * (v4).toNatClampNeg))), (0, .ref (ad 0)), (1, .int v1), (2, .int v2), (3, .int v3), (4, .int v4)]) hx hb dd_O_open_65 hl (by decide) rfl (fun ls hl => ?_)
        refine lv_aload hx hb dd_O_open_67 (lv_at hl 0 rfl) ?_
        refine lv_iload_n hx hb dd_O_open_69 rfl (lv_at hl 3 rfl) ?_
        obtain ⟨r6, hr6, h⟩ := ob_out h
        refine cr_Vi (n := 1) (As := [.int v2]) hx hb hml hown hk (mm_P_hasGiven l D kc ad _ _ _ _ (isP_of (vi_lt hi5)) _ _ hr6) hK hP (15 + 6 * (v4).toNatClampNeg) (at_P (isP_of (vi_lt hi5))) rfl rfl kw_285 kw_286 kw_287 kw_2 kw_288 ⟨rfl, rfl⟩ (by decide +kernel) ⟨Nat.le_of_ble_eq_true rfl, Nat.le_of_ble_eq_true rfl⟩ rfl hl.1 rfl (Nat.le_of_ble_eq_true rfl) dd_O_open_70 ⟨Nat.le_of_ble_eq_true rfl, Nat.le_of_ble_eq_true rfl⟩ ?_
        refine lv_if_eq (tgt := 86) hx hb dd_O_open_73 (by decide) (fun hc7 => ?_) (fun hc7 => ?_)
        · have h := ip_out hc7 h
          refine lv_aload hx hb dd_O_open_86 (lv_at hl 0 rfl) ?_
          refine va_get (D := D) (ci := 1) (v := .ref (ad ((15 + 6 * (v4).toNatClampNeg) + 3))) (C := "OpenDeal$Player") (T := T_P) (N := 13) hx hb hk in_P hown hK hP (15 + 6 * (v4).toNatClampNeg) (at_P (isP_of (vi_lt hi5))) rfl 10 (by decide) (hk _ kw_69) (fun _ h9 => h9) rfl dd_O_open_88 ?_
          refine lv_iload_n hx hb dd_O_open_91 rfl (lv_at hl 3 rfl) ?_
          obtain ⟨hi8, h⟩ := oi_out h
          refine va_iald hx hb hK hP ((15 + 6 * (v4).toNatClampNeg) + 3) 0 (at_A (isP_A3 (isP_of (vi_lt hi5)))) rfl hi8 dd_O_open_92 ?_
          exact L93 _ ih _ _ _ _ _ _ (isP_of (vi_lt hi5)) _ h _ (lv_sub hl [1, 2, 3, 4, 5, 0] rfl)
        · have h := in_out hc7 h
          refine lv_aload hx hb dd_O_open_76 (lv_at hl 0 rfl) ?_
          refine va_get (D := D) (ci := 1) (v := .ref (ad ((15 + 6 * (v4).toNatClampNeg) + 4))) (C := "OpenDeal$Player") (T := T_P) (N := 13) hx hb hk in_P hown hK hP (15 + 6 * (v4).toNatClampNeg) (at_P (isP_of (vi_lt hi5))) rfl 11 (by decide) (hk _ kw_71) (fun _ h9 => h9) rfl dd_O_open_78 ?_
          refine lv_iload_n hx hb dd_O_open_81 rfl (lv_at hl 3 rfl) ?_
          obtain ⟨hi9, h⟩ := oi_out h
          refine va_iald hx hb hK hP ((15 + 6 * (v4).toNatClampNeg) + 4) 0 (at_A (isP_A4 (isP_of (vi_lt hi5)))) rfl hi9 dd_O_open_82 ?_
          refine lv_goto (tgt := 93) hx hb dd_O_open_83 (by decide) ?_
          exact L93 _ ih _ _ _ _ _ _ (isP_of (vi_lt hi5)) _ h _ (lv_sub hl [1, 2, 3, 4, 5, 0] rfl)
  have hl := lv_entry ([.ref (ad 0), .int a1, .int a2]) (n := 7) (Nat.le_of_ble_eq_true rfl)
  rw [lg_entry_eq]
  generalize (lg_sl ([.ref (ad 0), .int a1, .int a2]) ++ List.replicate (7 - (lg_sl ([.ref (ad 0), .int a1, .int a2])).length) Slot.unset).toArray = ls at hl ⊢
  have hl : lv_has ls 7 [(0, .ref (ad 0)), (1, .int a1), (2, .int a2)] := hl
  unfold ff_O_open at h
  refine lv_aload_n hx hb dd_O_open_0 rfl (lv_at hl 0 rfl) ?_
  refine va_get (D := D) (ci := 0) (v := .int (I 0 1)) (C := "OpenDeal") (T := T_O) (N := 11) hx hb hk in_O hown hK hP 0 at_O rfl 1 (by decide) (hk _ kw_106) (fun _ h9 => h9) rfl dd_O_open_1 ?_
  refine lv_iconst (v := 4) hx hb dd_O_open_4 (by decide) ?_
  refine lv_icmp_lt (tgt := 32) hx hb dd_O_open_5 (by decide) (fun hc10 => ?_) (fun hc10 => ?_)
  · have h := ip_out hc10 h
    refine lv_iconst (v := -1) hx hb dd_O_open_32 (by decide) ?_
    obtain rfl := Option.some.inj h
    exact W.iret hx hb hr (fun t ht hW => ⟨_, rfl, rfl, ht⟩) (fun q hq => by cases hq) dd_O_open_33
  · have h := in_out hc10 h
    refine lv_aload_n hx hb dd_O_open_8 rfl (lv_at hl 0 rfl) ?_
    refine lv_iload_n hx hb dd_O_open_9 rfl (lv_at hl 1 rfl) ?_
    obtain ⟨r11, hr11, h⟩ := ob_out h
    refine cr_Vi (n := 1) (As := [.int a1]) hx hb hml hown hk (mm_O_isSeated l D kc ad _ _ _ _ _ hr11) hK hP 0 at_O rfl rfl kw_196 kw_198 sel_O_isSeated kw_1 kw_199 ⟨rfl, rfl⟩ (by decide +kernel) ⟨Nat.le_of_ble_eq_true rfl, Nat.le_of_ble_eq_true rfl⟩ rfl hl.1 rfl (Nat.le_of_ble_eq_true rfl) dd_O_open_10 ⟨Nat.le_of_ble_eq_true rfl, Nat.le_of_ble_eq_true rfl⟩ ?_
    refine lv_if_eq (tgt := 32) hx hb dd_O_open_13 (by decide) (fun hc12 => ?_) (fun hc12 => ?_)
    · have h := ip_out hc12 h
      refine lv_iconst (v := -1) hx hb dd_O_open_32 (by decide) ?_
      obtain rfl := Option.some.inj h
      exact W.iret hx hb hr (fun t ht hW => ⟨_, rfl, rfl, ht⟩) (fun q hq => by cases hq) dd_O_open_33
    · have h := in_out hc12 h
      refine lv_iload_n hx hb dd_O_open_16 rfl (lv_at hl 2 rfl) ?_
      obtain ⟨r13, hr13, h⟩ := ob_out h
      refine ro_Si (n := 1) (As := [.int a2]) hx hb hml hown hk (mm_O_isPlace l _ _ _ hr13) (fun U _ _ => trivial) (fun _ _ _ _ _ => trivial) kw_278 kw_279 kw_1 kw_280 ⟨rfl, rfl⟩ (by decide +kernel) ⟨Nat.le_of_ble_eq_true rfl, Nat.le_of_ble_eq_true rfl⟩ rfl hl.1 rfl (Nat.le_of_ble_eq_true rfl) dd_O_open_17 ⟨Nat.le_of_ble_eq_true rfl, Nat.le_of_ble_eq_true rfl⟩ ?_
      refine lv_if_eq (tgt := 32) hx hb dd_O_open_20 (by decide) (fun hc14 => ?_) (fun hc14 => ?_)
      · have h := ip_out hc14 h
        refine lv_iconst (v := -1) hx hb dd_O_open_32 (by decide) ?_
        obtain rfl := Option.some.inj h
        exact W.iret hx hb hr (fun t ht hW => ⟨_, rfl, rfl, ht⟩) (fun q hq => by cases hq) dd_O_open_33
      · have h := in_out hc14 h
        refine lv_aload_n hx hb dd_O_open_23 rfl (lv_at hl 0 rfl) ?_
        refine lv_iload_n hx hb dd_O_open_24 rfl (lv_at hl 1 rfl) ?_
        refine lv_iload_n hx hb dd_O_open_25 rfl (lv_at hl 2 rfl) ?_
        obtain ⟨r15, hr15, h⟩ := ob_out h
        refine cr_Vi (n := 2) (As := [.int a1, .int a2]) hx hb hml hown hk (mm_O_mayOpen l D kc ad _ _ _ _ _ _ hr15) hK hP 0 at_O rfl rfl kw_297 kw_299 sel_O_mayOpen kw_1 kw_300 ⟨rfl, rfl⟩ (by decide +kernel) ⟨Nat.le_of_ble_eq_true rfl, Nat.le_of_ble_eq_true rfl⟩ rfl hl.1 rfl (Nat.le_of_ble_eq_true rfl) dd_O_open_26 ⟨Nat.le_of_ble_eq_true rfl, Nat.le_of_ble_eq_true rfl⟩ ?_
        refine lv_if_ne (tgt := 34) hx hb dd_O_open_29 (by decide) (fun hc16 => ?_) (fun hc16 => ?_)
        · have h := in_out hc16 h
          refine lv_aload_n hx hb dd_O_open_34 rfl (lv_at hl 0 rfl) ?_
          refine va_get (D := D) (ci := 0) (v := .ref (ad 2)) (C := "OpenDeal") (T := T_O) (N := 11) hx hb hk in_O hown hK hP 0 at_O rfl 5 (by decide) (hk _ kw_110) (fun _ h9 => h9) rfl dd_O_open_35 ?_
          refine lv_aload_n hx hb dd_O_open_38 rfl (lv_at hl 0 rfl) ?_
          refine va_get (D := D) (ci := 0) (v := .int (I 0 4)) (C := "OpenDeal") (T := T_O) (N := 11) hx hb hk in_O hown hK hP 0 at_O rfl 4 (by decide) (hk _ kw_109) (fun _ h9 => h9) rfl dd_O_open_39 ?_
          obtain ⟨hi17, h⟩ := oi_out h
          refine ag_ald (b := ad (6 + (I 0 4).toNatClampNeg)) hx hb hK hP 2 4 at_dk rfl hi17 (if_pos (vi_lt hi17)) dd_O_open_42 ?_
          refine lv_iload_n hx hb dd_O_open_43 rfl (lv_at hl 2 rfl) ?_
          obtain ⟨hi18, h⟩ := oi_out h
          refine va_iald hx hb hK hP (6 + (I 0 4).toNatClampNeg) 0 (at_A (isA_deck (vi_lt hi17))) rfl hi18 dd_O_open_44 ?_
          refine lv_topi (fun y19 ey19 => ?_)
          have h := tl_at ey19 h
          refine lv_istore_n (lv' := [(3, .int y19), (0, .ref (ad 0)), (1, .int a1), (2, .int a2)]) hx hb dd_O_open_45 rfl hl (by decide) rfl (fun ls hl => ?_)
          refine lv_iconst (v := 0) hx hb dd_O_open_46 (by decide) ?_
          refine lv_istore (lv' := [(4, .int (0 : Int32)), (3, .int y19), (0, .ref (ad 0)), (1, .int a1), (2, .int a2)]) hx hb dd_O_open_47 hl (by decide) rfl (fun ls hl => ?_)
          exact L49  _ _ _ _ _ h _ (lv_sub hl [2, 3, 4, 1, 0] rfl)
        · have h := ip_out hc16 h
          refine lv_iconst (v := -1) hx hb dd_O_open_32 (by decide) ?_
          obtain rfl := Option.some.inj h
          exact W.iret hx hb hr (fun t ht hW => ⟨_, rfl, rfl, ht⟩) (fun q hq => by cases hq) dd_O_open_33
def ff_O_awaitAll_2  : Nat → MI → MJ → Int32 → Option (MI × MJ)
  | 0, _, _, _ => none
  | n + 1, I, J, v1 => if (I 0 2) ≤ v1 then (some (I, J)) else (if ¬ (v1 < 0 ∨ 4 ≤ (v1).toNatClampNeg) then ff_O_awaitAll_2 n (ui I (15 + 6 * (v1).toNatClampNeg) 4 (0 : Int32)) J (v1 + (1 : Int32)) else none)
def ff_O_awaitAll (n : Nat) (I : MI) (J : MJ)  : Option (MI × MJ) := ff_O_awaitAll_2 n I J (0 : Int32)
set_option maxHeartbeats 4000000 in
set_option maxRecDepth 100000 in
theorem mm_O_awaitAll (l : Launch) (D : va_G) (kc : Nat → ClassId) (ad : Nat → Nat) (I0 : MI) (J0 : MJ) (sz n : Nat)  (r : MI × MJ) (h : ff_O_awaitAll n I0 J0  = some r) : Met l yy_O_awaitAll (.code yy_O_awaitAll cc_O_awaitAll 2 (none) :: kw) { frames := 0, cells := 0, slots := 0, locals := 0 } (va_Pc [.ref (ad 0)] (BW D kc (wC kc ad I0 J0) sz)) (va_Qv (fun (_ : Unit) => True) (EW D kc (va_A (wC kc ad I0 J0) sz) (wC kc ad r.1 r.2)) (va_A (wC kc ad I0 J0) sz)) 0 0 (va_A (wC kc ad I0 J0) sz) := by
  refine Met.ofW (cc := cc_O_awaitAll) (maxL := 2) (ret := none) (by decide) rfl ?_
  intro p e s m args below meth c s₁ B hml hv
  obtain ⟨rfl, hsz, hP, hK, hD0⟩ := hv
  have hx := B.exec
  have hb := B.bytes
  have hr := B.returns
  have hlocks := B.notSynchronized
  have hk : ∀ w ∈ kw, w.before _ s = true := fun w hw => atoms_spec (ws := (.code yy_O_awaitAll cc_O_awaitAll 2 (none) :: kw)) B.pre w (List.mem_cons_of_mem _ hw)
  have hown : s.vm.findClass "OpenDeal" = some m.cls := findClass_of_methodNamed B.named
  subst hsz
  have hD := hD0.self (sz := s.heap.size)
  generalize hAe : va_A (wC kc ad I0 J0) s.heap.size = A at hD ⊢
  have hA : ∀ q : Nat, s.heap.size ≤ q → A q := fun q h => by rw [← hAe]; exact Or.inr h
  have hS : va_S A s.heap s.heap [] := va_S.rf
  have hP : va_P D cls5 (wC kc ad I0 J0) s.heap := hP
  clear hAe hD0
  have L2 : ∀  (n : Nat) (I : MI) (J : MJ) (v1 : Int32), ff_O_awaitAll_2 n I J v1 = some r → ∀ (H : Heap) (locs : List Loc), va_P D cls5 (wC kc ad I J) H → va_D A (wC kc ad I J) → va_S A s.heap H locs → ∀ ls, lv_has ls 2 [(0, .ref (ad 0)), (1, .int v1)] → W p l e (headSpec (.code yy_O_awaitAll cc_O_awaitAll 2 (none) :: kw) { frames := 0, cells := 0, slots := 0, locals := 0 }).room s m ([.ref (ad 0)] : List Value).toArray below meth c H locs 0 0 (MQ below (va_Qv (fun (_ : Unit) => True) (EW D kc A (wC kc ad r.1 r.2)) A) ([.ref (ad 0)] : List Value).toArray s 0 0 A) (F0 m 2 ls []) := by
    intro  n
    induction n with
    | zero => intro I J v1 h; exact absurd h (by simp [ff_O_awaitAll_2])
    | succ n ih =>
      intro I J v1 h H locs hP hD hS ls hl
      rw [ff_O_awaitAll_2] at h
      refine lv_iload_n hx hb dd_O_awaitAll_2 rfl (lv_at hl 1 rfl) ?_
      refine lv_aload_n hx hb dd_O_awaitAll_3 rfl (lv_at hl 0 rfl) ?_
      refine va_get (D := D) (ci := 0) (v := .int (I 0 2)) (C := "OpenDeal") (T := T_O) (N := 11) hx hb hk in_O hown hK hP 0 at_O rfl 2 (by decide) (hk _ kw_107) (fun _ h9 => h9) rfl dd_O_awaitAll_4 ?_
      refine lv_icmp_ge (tgt := 26) hx hb dd_O_awaitAll_7 (by decide) (fun hc1 => ?_) (fun hc1 => ?_)
      · have h := ip_out hc1 h
        obtain rfl := Option.some.inj h
        exact W.vret hx hb hr (fun t ht hW => ⟨⟨(), rfl, trivial, by rw [ht]; exact hP, va_K.moved hW.alike hK, hD⟩, hS.F ht⟩) hS.2.2 dd_O_awaitAll_26
      · have h := in_out hc1 h
        refine lv_aload_n hx hb dd_O_awaitAll_10 rfl (lv_at hl 0 rfl) ?_
        refine va_get (D := D) (ci := 0) (v := .ref (ad 1)) (C := "OpenDeal") (T := T_O) (N := 11) hx hb hk in_O hown hK hP 0 at_O rfl 3 (by decide) (hk _ kw_108) (fun _ h9 => h9) rfl dd_O_awaitAll_11 ?_
        refine lv_iload_n hx hb dd_O_awaitAll_14 rfl (lv_at hl 1 rfl) ?_
        obtain ⟨hi2, h⟩ := oi_out h
        refine ap_ald (b := ad (15 + 6 * (v1).toNatClampNeg)) hx hb hK hP 1 3 at_pl rfl hi2 (if_pos (vi_lt hi2)) dd_O_awaitAll_15 ?_
        refine lv_iconst (v := 0) hx hb dd_O_awaitAll_16 (by decide) ?_
        refine va_put (D := D) (ci := 1) (v := .int (0 : Int32)) (ty := .boolean) (C := "OpenDeal$Player") (T := T_P) (N := 13) hx hb hk in_P ty_P tk_P nm_P hown hK hP hD hS (15 + 6 * (v1).toNatClampNeg) (at_P (isP_of (vi_lt hi2))) rfl 4 (by decide) (hk _ kw_58) (fun _ h9 => h9) rfl (by decide +kernel) rfl rfl (Nat.le_of_ble_eq_true rfl) dd_O_awaitAll_17 (fun H locs hP hD hS => ?_)
        rw [pt_P4 (isP_of (vi_lt hi2))] at hP hD
        refine lv_iinc (v := v1 + (1 : Int32)) (lv' := [(1, .int (v1 + (1 : Int32))), (0, .ref (ad 0))]) hx hb dd_O_awaitAll_20 hl (k := 1) rfl rfl (by decide) rfl (fun ls hl => ?_)
        refine lv_goto (tgt := 2) hx hb dd_O_awaitAll_23 (by decide) ?_
        exact ih _ _ _ h _ _ hP hD hS _ (lv_sub hl [1, 0] rfl)
  have hl := lv_entry ([.ref (ad 0)]) (n := 2) (Nat.le_of_ble_eq_true rfl)
  rw [lg_entry_eq]
  generalize (lg_sl ([.ref (ad 0)]) ++ List.replicate (2 - (lg_sl ([.ref (ad 0)])).length) Slot.unset).toArray = ls at hl ⊢
  have hl : lv_has ls 2 [(0, .ref (ad 0))] := hl
  unfold ff_O_awaitAll at h
  refine lv_iconst (v := 0) hx hb dd_O_awaitAll_0 (by decide) ?_
  refine lv_istore_n (lv' := [(1, .int (0 : Int32)), (0, .ref (ad 0))]) hx hb dd_O_awaitAll_1 rfl hl (by decide) rfl (fun ls hl => ?_)
  exact L2  _ _ _ _ h _ _ hP hD hS _ (lv_sub hl [1, 0] rfl)
def ff_P_canAct (n : Nat) (I : MI) (J : MJ) (a0 : Nat) : Option (Int32) := if (I a0 3) = 0 then (if (I a0 0) ≤ 0 then (some (0 : Int32)) else (some (1 : Int32))) else (some (0 : Int32))
set_option maxHeartbeats 4000000 in
set_option maxRecDepth 100000 in
theorem mm_P_canAct (l : Launch) (D : va_G) (kc : Nat → ClassId) (ad : Nat → Nat) (I : MI) (J : MJ) (n : Nat) (a0 : Nat) (ha0 : isP a0) (r : Int32) (h : ff_P_canAct n I J a0 = some r) : Met l yy_P_canAct (.code yy_P_canAct cc_P_canAct 1 (some .boolean) :: kw) { frames := 0, cells := 0, slots := 0, locals := 0 } (va_Pc [.ref (ad a0)] (BR D kc (wC kc ad I J))) (vp_Si (fun z => z = r)) 0 0 (fun _ => False) := by
  refine Met.ofW (cc := cc_P_canAct) (maxL := 1) (ret := some .boolean) (by decide) rfl ?_
  intro p e s m args below meth c s₁ B hml hv
  obtain ⟨rfl, hP, hK⟩ := hv
  have hx := B.exec
  have hb := B.bytes
  have hr := B.returns
  have hlocks := B.notSynchronized
  have hk : ∀ w ∈ kw, w.before _ s = true := fun w hw => atoms_spec (ws := (.code yy_P_canAct cc_P_canAct 1 (some .boolean) :: kw)) B.pre w (List.mem_cons_of_mem _ hw)
  have hown : s.vm.findClass "OpenDeal$Player" = some m.cls := findClass_of_methodNamed B.named
  have hl := lv_entry ([.ref (ad a0)]) (n := 1) (Nat.le_of_ble_eq_true rfl)
  rw [lg_entry_eq]
  generalize (lg_sl ([.ref (ad a0)]) ++ List.replicate (1 - (lg_sl ([.ref (ad a0)])).length) Slot.unset).toArray = ls at hl ⊢
  have hl : lv_has ls 1 [(0, .ref (ad a0))] := hl
  unfold ff_P_canAct at h
  refine lv_aload_n hx hb dd_P_canAct_0 rfl (lv_at hl 0 rfl) ?_
  refine va_get (D := D) (ci := 1) (v := .int (I a0 3)) (C := "OpenDeal$Player") (T := T_P) (N := 13) hx hb hk in_P hown hK hP a0 (at_P ha0) rfl 3 (by decide) (hk _ kw_56) (fun _ h9 => h9) rfl dd_P_canAct_1 ?_
  refine lv_if_ne (tgt := 18) hx hb dd_P_canAct_4 (by decide) (fun hc1 => ?_) (fun hc1 => ?_)
  · have h := in_out hc1 h
    refine lv_iconst (v := 0) hx hb dd_P_canAct_18 (by decide) ?_
    obtain rfl := Option.some.inj h
    exact W.zret hx hb hr rfl (fun t ht hW => ⟨_, rfl, rfl, ht⟩) (fun q hq => by cases hq) dd_P_canAct_19
  · have h := ip_out hc1 h
    refine lv_aload_n hx hb dd_P_canAct_7 rfl (lv_at hl 0 rfl) ?_
    refine va_get (D := D) (ci := 1) (v := .int (I a0 0)) (C := "OpenDeal$Player") (T := T_P) (N := 13) hx hb hk in_P hown hK hP a0 (at_P ha0) rfl 0 (by decide) (hk _ kw_50) (fun _ h9 => h9) rfl dd_P_canAct_8 ?_
    refine lv_if_le (tgt := 18) hx hb dd_P_canAct_11 (by decide) (fun hc2 => ?_) (fun hc2 => ?_)
    · have h := ip_out hc2 h
      refine lv_iconst (v := 0) hx hb dd_P_canAct_18 (by decide) ?_
      obtain rfl := Option.some.inj h
      exact W.zret hx hb hr rfl (fun t ht hW => ⟨_, rfl, rfl, ht⟩) (fun q hq => by cases hq) dd_P_canAct_19
    · have h := in_out hc2 h
      refine lv_iconst (v := 1) hx hb dd_P_canAct_14 (by decide) ?_
      refine lv_goto (tgt := 19) hx hb dd_P_canAct_15 (by decide) ?_
      obtain rfl := Option.some.inj h
      exact W.zret hx hb hr rfl (fun t ht hW => ⟨_, rfl, rfl, ht⟩) (fun q hq => by cases hq) dd_P_canAct_19
def ff_O_countAbleToAct_4 (I : MI) (J : MJ)  : Nat → Int32 → Int32 → Option (Int32)
  | 0, _, _ => none
  | n + 1, v1, v2 => if (I 0 2) ≤ v2 then (some v1) else (if ¬ (v2 < 0 ∨ 4 ≤ (v2).toNatClampNeg) then (ff_P_canAct n I J (15 + 6 * (v2).toNatClampNeg)).bind fun r3 => if r3 = 0 then (ff_O_countAbleToAct_4 I J n v1 (v2 + (1 : Int32))) else (ff_O_countAbleToAct_4 I J n (v1 + (1 : Int32)) (v2 + (1 : Int32))) else none)
def ff_O_countAbleToAct (n : Nat) (I : MI) (J : MJ)  : Option (Int32) := ff_O_countAbleToAct_4 I J n (0 : Int32) (0 : Int32)
set_option maxHeartbeats 4000000 in
set_option maxRecDepth 100000 in
theorem mm_O_countAbleToAct (l : Launch) (D : va_G) (kc : Nat → ClassId) (ad : Nat → Nat) (I : MI) (J : MJ) (n : Nat)  (r : Int32) (h : ff_O_countAbleToAct n I J  = some r) : Met l yy_O_countAbleToAct (.code yy_O_countAbleToAct cc_O_countAbleToAct 3 (some .int) :: kw) { frames := 1, cells := 0, slots := 0, locals := 20 } (va_Pc [.ref (ad 0)] (BR D kc (wC kc ad I J))) (vp_Si (fun z => z = r)) 0 0 (fun _ => False) := by
  refine Met.ofW (cc := cc_O_countAbleToAct) (maxL := 3) (ret := some .int) (by decide) rfl ?_
  intro p e s m args below meth c s₁ B hml hv
  obtain ⟨rfl, hP, hK⟩ := hv
  have hx := B.exec
  have hb := B.bytes
  have hr := B.returns
  have hlocks := B.notSynchronized
  have hk : ∀ w ∈ kw, w.before _ s = true := fun w hw => atoms_spec (ws := (.code yy_O_countAbleToAct cc_O_countAbleToAct 3 (some .int) :: kw)) B.pre w (List.mem_cons_of_mem _ hw)
  have hown : s.vm.findClass "OpenDeal" = some m.cls := findClass_of_methodNamed B.named
  have L4 : ∀  (n : Nat) (v1 : Int32) (v2 : Int32), ff_O_countAbleToAct_4 I J n v1 v2 = some r → ∀ ls, lv_has ls 3 [(0, .ref (ad 0)), (1, .int v1), (2, .int v2)] → W p l e (headSpec (.code yy_O_countAbleToAct cc_O_countAbleToAct 3 (some .int) :: kw) { frames := 1, cells := 0, slots := 0, locals := 20 }).room s m ([.ref (ad 0)] : List Value).toArray below meth c s.heap [] 0 0 (MQ below (vp_Si (fun z => z = r)) ([.ref (ad 0)] : List Value).toArray s 0 0 (fun _ => False)) (F0 m 4 ls []) := by
    intro  n
    induction n with
    | zero => intro v1 v2 h; exact absurd h (by simp [ff_O_countAbleToAct_4])
    | succ n ih =>
      intro v1 v2 h ls hl
      rw [ff_O_countAbleToAct_4] at h
      refine lv_iload_n hx hb dd_O_countAbleToAct_4 rfl (lv_at hl 2 rfl) ?_
      refine lv_aload_n hx hb dd_O_countAbleToAct_5 rfl (lv_at hl 0 rfl) ?_
      refine va_get (D := D) (ci := 0) (v := .int (I 0 2)) (C := "OpenDeal") (T := T_O) (N := 11) hx hb hk in_O hown hK hP 0 at_O rfl 2 (by decide) (hk _ kw_107) (fun _ h9 => h9) rfl dd_O_countAbleToAct_6 ?_
      refine lv_icmp_ge (tgt := 33) hx hb dd_O_countAbleToAct_9 (by decide) (fun hc1 => ?_) (fun hc1 => ?_)
      · have h := ip_out hc1 h
        refine lv_iload_n hx hb dd_O_countAbleToAct_33 rfl (lv_at hl 1 rfl) ?_
        obtain rfl := Option.some.inj h
        exact W.iret hx hb hr (fun t ht hW => ⟨_, rfl, rfl, ht⟩) (fun q hq => by cases hq) dd_O_countAbleToAct_34
      · have h := in_out hc1 h
        refine lv_aload_n hx hb dd_O_countAbleToAct_12 rfl (lv_at hl 0 rfl) ?_
        refine va_get (D := D) (ci := 0) (v := .ref (ad 1)) (C := "OpenDeal") (T := T_O) (N := 11) hx hb hk in_O hown hK hP 0 at_O rfl 3 (by decide) (hk _ kw_108) (fun _ h9 => h9) rfl dd_O_countAbleToAct_13 ?_
        refine lv_iload_n hx hb dd_O_countAbleToAct_16 rfl (lv_at hl 2 rfl) ?_
        obtain ⟨hi2, h⟩ := oi_out h
        refine ap_ald (b := ad (15 + 6 * (v2).toNatClampNeg)) hx hb hK hP 1 3 at_pl rfl hi2 (if_pos (vi_lt hi2)) dd_O_countAbleToAct_17 ?_
        obtain ⟨r3, hr3, h⟩ := ob_out h
        refine cr_Vi (n := 0) (As := []) hx hb hml hown hk (mm_P_canAct l D kc ad _ _ _ _ (isP_of (vi_lt hi2)) _ hr3) hK hP (15 + 6 * (v2).toNatClampNeg) (at_P (isP_of (vi_lt hi2))) rfl rfl kw_317 kw_318 kw_319 kw_2 kw_320 ⟨rfl, rfl⟩ (by decide +kernel) ⟨Nat.le_of_ble_eq_true rfl, Nat.le_of_ble_eq_true rfl⟩ rfl hl.1 rfl (Nat.le_of_ble_eq_true rfl) dd_O_countAbleToAct_18 ⟨Nat.le_of_ble_eq_true rfl, Nat.le_of_ble_eq_true rfl⟩ ?_
        refine lv_if_eq (tgt := 27) hx hb dd_O_countAbleToAct_21 (by decide) (fun hc4 => ?_) (fun hc4 => ?_)
        · have h := ip_out hc4 h
          refine lv_iinc (v := v2 + (1 : Int32)) (lv' := [(2, .int (v2 + (1 : Int32))), (0, .ref (ad 0)), (1, .int v1)]) hx hb dd_O_countAbleToAct_27 hl (k := 2) rfl rfl (by decide) rfl (fun ls hl => ?_)
          refine lv_goto (tgt := 4) hx hb dd_O_countAbleToAct_30 (by decide) ?_
          exact ih _ _ h _ (lv_sub hl [1, 2, 0] rfl)
        · have h := in_out hc4 h
          refine lv_iinc (v := v1 + (1 : Int32)) (lv' := [(1, .int (v1 + (1 : Int32))), (0, .ref (ad 0)), (2, .int v2)]) hx hb dd_O_countAbleToAct_24 hl (k := 1) rfl rfl (by decide) rfl (fun ls hl => ?_)
          refine lv_iinc (v := v2 + (1 : Int32)) (lv' := [(2, .int (v2 + (1 : Int32))), (1, .int (v1 + (1 : Int32))), (0, .ref (ad 0))]) hx hb dd_O_countAbleToAct_27 hl (k := 2) rfl rfl (by decide) rfl (fun ls hl => ?_)
          refine lv_goto (tgt := 4) hx hb dd_O_countAbleToAct_30 (by decide) ?_
          exact ih _ _ h _ (lv_sub hl [2, 1, 0] rfl)
  have hl := lv_entry ([.ref (ad 0)]) (n := 3) (Nat.le_of_ble_eq_true rfl)
  rw [lg_entry_eq]
  generalize (lg_sl ([.ref (ad 0)]) ++ List.replicate (3 - (lg_sl ([.ref (ad 0)])).length) Slot.unset).toArray = ls at hl ⊢
  have hl : lv_has ls 3 [(0, .ref (ad 0))] := hl
  unfold ff_O_countAbleToAct at h
  refine lv_iconst (v := 0) hx hb dd_O_countAbleToAct_0 (by decide) ?_
  refine lv_istore_n (lv' := [(1, .int (0 : Int32)), (0, .ref (ad 0))]) hx hb dd_O_countAbleToAct_1 rfl hl (by decide) rfl (fun ls hl => ?_)
  refine lv_iconst (v := 0) hx hb dd_O_countAbleToAct_2 (by decide) ?_
  refine lv_istore_n (lv' := [(2, .int (0 : Int32)), (1, .int (0 : Int32)), (0, .ref (ad 0))]) hx hb dd_O_countAbleToAct_3 rfl hl (by decide) rfl (fun ls hl => ?_)
  exact L4  _ _ _ h _ (lv_sub hl [2, 1, 0] rfl)
def ff_O_nextToAct_34 (I : MI) (J : MJ) (k2 : Int32 → Int32 → Option (Int32)) (n : Nat) (v1 : Int32) (v2 : Int32) (s0 : Int32) : Option (Int32) := (ff_O_isSeated n I J s0).bind fun r1 => if r1 = 0 then (k2 v1 (v2 + (1 : Int32))) else (if ¬ (s0 < 0 ∨ 4 ≤ (s0).toNatClampNeg) then (ff_P_canAct n I J (15 + 6 * (s0).toNatClampNeg)).bind fun r4 => if r4 = 0 then (k2 v1 (v2 + (1 : Int32))) else (if ¬ (s0 < 0 ∨ 4 ≤ (s0).toNatClampNeg) then if (I (15 + 6 * (s0).toNatClampNeg) 4) = 0 then (some s0) else (k2 v1 (v2 + (1 : Int32))) else none) else none)
def ff_O_nextToAct_2 (I : MI) (J : MJ)  : Nat → Int32 → Int32 → Option (Int32)
  | 0, _, _ => none
  | n + 1, v1, v2 => if (I 0 2) < v2 then (some (-1 : Int32)) else (if (I 0 2) ≤ (v1 + v2) then (ff_O_nextToAct_34 I J (ff_O_nextToAct_2 I J n) n v1 v2 ((v1 + v2) - (I 0 2))) else (ff_O_nextToAct_34 I J (ff_O_nextToAct_2 I J n) n v1 v2 (v1 + v2)))
def ff_O_nextToAct (n : Nat) (I : MI) (J : MJ) (a1 : Int32) : Option (Int32) := ff_O_nextToAct_2 I J n a1 (1 : Int32)
set_option maxHeartbeats 4000000 in
set_option maxRecDepth 100000 in
theorem mm_O_nextToAct (l : Launch) (D : va_G) (kc : Nat → ClassId) (ad : Nat → Nat) (I : MI) (J : MJ) (n : Nat) (a1 : Int32) (r : Int32) (h : ff_O_nextToAct n I J a1 = some r) : Met l yy_O_nextToAct (.code yy_O_nextToAct cc_O_nextToAct 4 (some .int) :: kw) { frames := 1, cells := 0, slots := 0, locals := 21 } (va_Pc [.ref (ad 0), .int a1] (BR D kc (wC kc ad I J))) (vp_Si (fun z => z = r)) 0 0 (fun _ => False) := by
  refine Met.ofW (cc := cc_O_nextToAct) (maxL := 4) (ret := some .int) (by decide) rfl ?_
  intro p e s m args below meth c s₁ B hml hv
  obtain ⟨rfl, hP, hK⟩ := hv
  have hx := B.exec
  have hb := B.bytes
  have hr := B.returns
  have hlocks := B.notSynchronized
  have hk : ∀ w ∈ kw, w.before _ s = true := fun w hw => atoms_spec (ws := (.code yy_O_nextToAct cc_O_nextToAct 4 (some .int) :: kw)) B.pre w (List.mem_cons_of_mem _ hw)
  have hown : s.vm.findClass "OpenDeal" = some m.cls := findClass_of_methodNamed B.named
  have L34 : ∀ (k2 : Int32 → Int32 → Option (Int32)) (hk2 : ∀ (v1 : Int32) (v2 : Int32), k2 v1 v2 = some r → ∀ ls, lv_has ls 4 [(0, .ref (ad 0)), (1, .int v1), (2, .int v2)] → W p l e (headSpec (.code yy_O_nextToAct cc_O_nextToAct 4 (some .int) :: kw) { frames := 1, cells := 0, slots := 0, locals := 21 }).room s m ([.ref (ad 0), .int a1] : List Value).toArray below meth c s.heap [] 0 0 (MQ below (vp_Si (fun z => z = r)) ([.ref (ad 0), .int a1] : List Value).toArray s 0 0 (fun _ => False)) (F0 m 2 ls [])) (n : Nat) (v1 : Int32) (v2 : Int32) (s0 : Int32), ff_O_nextToAct_34 I J k2 n v1 v2 s0 = some r → ∀ ls, lv_has ls 4 [(0, .ref (ad 0)), (1, .int v1), (2, .int v2)] → W p l e (headSpec (.code yy_O_nextToAct cc_O_nextToAct 4 (some .int) :: kw) { frames := 1, cells := 0, slots := 0, locals := 21 }).room s m ([.ref (ad 0), .int a1] : List Value).toArray below meth c s.heap [] 0 0 (MQ below (vp_Si (fun z => z = r)) ([.ref (ad 0), .int a1] : List Value).toArray s 0 0 (fun _ => False)) (F0 m 34 ls [.int s0]) := by
    intro k2 hk2 n v1 v2 s0 h ls hl
    unfold ff_O_nextToAct_34 at h
    refine lv_istore_n (lv' := [(3, .int s0), (0, .ref (ad 0)), (1, .int v1), (2, .int v2)]) hx hb dd_O_nextToAct_34 rfl hl (by decide) rfl (fun ls hl => ?_)
    refine lv_aload_n hx hb dd_O_nextToAct_35 rfl (lv_at hl 1 rfl) ?_
    refine lv_iload_n hx hb dd_O_nextToAct_36 rfl (lv_at hl 0 rfl) ?_
    obtain ⟨r1, hr1, h⟩ := ob_out h
    refine cr_Vi (n := 1) (As := [.int s0]) hx hb hml hown hk (mm_O_isSeated l D kc ad _ _ _ _ _ hr1) hK hP 0 at_O rfl rfl kw_196 kw_198 sel_O_isSeated kw_1 kw_199 ⟨rfl, rfl⟩ (by decide +kernel) ⟨Nat.le_of_ble_eq_true rfl, Nat.le_of_ble_eq_true rfl⟩ rfl hl.1 rfl (Nat.le_of_ble_eq_true rfl) dd_O_nextToAct_37 ⟨Nat.le_of_ble_eq_true rfl, Nat.le_of_ble_eq_true rfl⟩ ?_
    refine lv_if_eq (tgt := 69) hx hb dd_O_nextToAct_40 (by decide) (fun hc2 => ?_) (fun hc2 => ?_)
    · have h := ip_out hc2 h
      refine lv_iinc (v := v2 + (1 : Int32)) (lv' := [(2, .int (v2 + (1 : Int32))), (3, .int s0), (0, .ref (ad 0)), (1, .int v1)]) hx hb dd_O_nextToAct_69 hl (k := 3) rfl rfl (by decide) rfl (fun ls hl => ?_)
      refine lv_goto (tgt := 2) hx hb dd_O_nextToAct_72 (by decide) ?_
      exact hk2 _ _ h _ (lv_sub hl [2, 3, 0] rfl)
    · have h := in_out hc2 h
      refine lv_aload_n hx hb dd_O_nextToAct_43 rfl (lv_at hl 1 rfl) ?_
      refine va_get (D := D) (ci := 0) (v := .ref (ad 1)) (C := "OpenDeal") (T := T_O) (N := 11) hx hb hk in_O hown hK hP 0 at_O rfl 3 (by decide) (hk _ kw_108) (fun _ h9 => h9) rfl dd_O_nextToAct_44 ?_
      refine lv_iload_n hx hb dd_O_nextToAct_47 rfl (lv_at hl 0 rfl) ?_
      obtain ⟨hi3, h⟩ := oi_out h
      refine ap_ald (b := ad (15 + 6 * (s0).toNatClampNeg)) hx hb hK hP 1 3 at_pl rfl hi3 (if_pos (vi_lt hi3)) dd_O_nextToAct_48 ?_
      obtain ⟨r4, hr4, h⟩ := ob_out h
      refine cr_Vi (n := 0) (As := []) hx hb hml hown hk (mm_P_canAct l D kc ad _ _ _ _ (isP_of (vi_lt hi3)) _ hr4) hK hP (15 + 6 * (s0).toNatClampNeg) (at_P (isP_of (vi_lt hi3))) rfl rfl kw_317 kw_318 kw_319 kw_2 kw_320 ⟨rfl, rfl⟩ (by decide +kernel) ⟨Nat.le_of_ble_eq_true rfl, Nat.le_of_ble_eq_true rfl⟩ rfl hl.1 rfl (Nat.le_of_ble_eq_true rfl) dd_O_nextToAct_49 ⟨Nat.le_of_ble_eq_true rfl, Nat.le_of_ble_eq_true rfl⟩ ?_
      refine lv_if_eq (tgt := 69) hx hb dd_O_nextToAct_52 (by decide) (fun hc5 => ?_) (fun hc5 => ?_)
      · have h := ip_out hc5 h
        refine lv_iinc (v := v2 + (1 : Int32)) (lv' := [(2, .int (v2 + (1 : Int32))), (3, .int s0), (0, .ref (ad 0)), (1, .int v1)]) hx hb dd_O_nextToAct_69 hl (k := 3) rfl rfl (by decide) rfl (fun ls hl => ?_)
        refine lv_goto (tgt := 2) hx hb dd_O_nextToAct_72 (by decide) ?_
        exact hk2 _ _ h _ (lv_sub hl [2, 3, 0] rfl)
      · have h := in_out hc5 h
        refine lv_aload_n hx hb dd_O_nextToAct_55 rfl (lv_at hl 1 rfl) ?_
        refine va_get (D := D) (ci := 0) (v := .ref (ad 1)) (C := "OpenDeal") (T := T_O) (N := 11) hx hb hk in_O hown hK hP 0 at_O rfl 3 (by decide) (hk _ kw_108) (fun _ h9 => h9) rfl dd_O_nextToAct_56 ?_
        refine lv_iload_n hx hb dd_O_nextToAct_59 rfl (lv_at hl 0 rfl) ?_
        obtain ⟨hi6, h⟩ := oi_out h
        refine ap_ald (b := ad (15 + 6 * (s0).toNatClampNeg)) hx hb hK hP 1 3 at_pl rfl hi6 (if_pos (vi_lt hi6)) dd_O_nextToAct_60 ?_
        refine va_get (D := D) (ci := 1) (v := .int (I (15 + 6 * (s0).toNatClampNeg) 4)) (C := "OpenDeal$Player") (T := T_P) (N := 13) hx hb hk in_P hown hK hP (15 + 6 * (s0).toNatClampNeg) (at_P (isP_of (vi_lt hi6))) rfl 4 (by decide) (hk _ kw_58) (fun _ h9 => h9) rfl dd_O_nextToAct_61 ?_
        refine lv_if_ne (tgt := 69) hx hb dd_O_nextToAct_64 (by decide) (fun hc7 => ?_) (fun hc7 => ?_)
        · have h := in_out hc7 h
          refine lv_iinc (v := v2 + (1 : Int32)) (lv' := [(2, .int (v2 + (1 : Int32))), (3, .int s0), (0, .ref (ad 0)), (1, .int v1)]) hx hb dd_O_nextToAct_69 hl (k := 3) rfl rfl (by decide) rfl (fun ls hl => ?_)
          refine lv_goto (tgt := 2) hx hb dd_O_nextToAct_72 (by decide) ?_
          exact hk2 _ _ h _ (lv_sub hl [2, 3, 0] rfl)
        · have h := ip_out hc7 h
          refine lv_iload_n hx hb dd_O_nextToAct_67 rfl (lv_at hl 0 rfl) ?_
          obtain rfl := Option.some.inj h
          exact W.iret hx hb hr (fun t ht hW => ⟨_, rfl, rfl, ht⟩) (fun q hq => by cases hq) dd_O_nextToAct_68
  have L2 : ∀  (n : Nat) (v1 : Int32) (v2 : Int32), ff_O_nextToAct_2 I J n v1 v2 = some r → ∀ ls, lv_has ls 4 [(0, .ref (ad 0)), (1, .int v1), (2, .int v2)] → W p l e (headSpec (.code yy_O_nextToAct cc_O_nextToAct 4 (some .int) :: kw) { frames := 1, cells := 0, slots := 0, locals := 21 }).room s m ([.ref (ad 0), .int a1] : List Value).toArray below meth c s.heap [] 0 0 (MQ below (vp_Si (fun z => z = r)) ([.ref (ad 0), .int a1] : List Value).toArray s 0 0 (fun _ => False)) (F0 m 2 ls []) := by
    intro  n
    induction n with
    | zero => intro v1 v2 h; exact absurd h (by simp [ff_O_nextToAct_2])
    | succ n ih =>
      intro v1 v2 h ls hl
      rw [ff_O_nextToAct_2] at h
      refine lv_iload_n hx hb dd_O_nextToAct_2 rfl (lv_at hl 2 rfl) ?_
      refine lv_aload_n hx hb dd_O_nextToAct_3 rfl (lv_at hl 0 rfl) ?_
      refine va_get (D := D) (ci := 0) (v := .int (I 0 2)) (C := "OpenDeal") (T := T_O) (N := 11) hx hb hk in_O hown hK hP 0 at_O rfl 2 (by decide) (hk _ kw_107) (fun _ h9 => h9) rfl dd_O_nextToAct_4 ?_
      refine lv_icmp_gt (tgt := 75) hx hb dd_O_nextToAct_7 (by decide) (fun hc8 => ?_) (fun hc8 => ?_)
      · have h := ip_out hc8 h
        refine lv_iconst (v := -1) hx hb dd_O_nextToAct_75 (by decide) ?_
        obtain rfl := Option.some.inj h
        exact W.iret hx hb hr (fun t ht hW => ⟨_, rfl, rfl, ht⟩) (fun q hq => by cases hq) dd_O_nextToAct_76
      · have h := in_out hc8 h
        refine lv_iload_n hx hb dd_O_nextToAct_10 rfl (lv_at hl 1 rfl) ?_
        refine lv_iload_n hx hb dd_O_nextToAct_11 rfl (lv_at hl 2 rfl) ?_
        refine lv_iadd hx hb dd_O_nextToAct_12 ?_
        refine lv_aload_n hx hb dd_O_nextToAct_13 rfl (lv_at hl 0 rfl) ?_
        refine va_get (D := D) (ci := 0) (v := .int (I 0 2)) (C := "OpenDeal") (T := T_O) (N := 11) hx hb hk in_O hown hK hP 0 at_O rfl 2 (by decide) (hk _ kw_107) (fun _ h9 => h9) rfl dd_O_nextToAct_14 ?_
        refine lv_icmp_ge (tgt := 26) hx hb dd_O_nextToAct_17 (by decide) (fun hc9 => ?_) (fun hc9 => ?_)
        · have h := ip_out hc9 h
          refine lv_iload_n hx hb dd_O_nextToAct_26 rfl (lv_at hl 1 rfl) ?_
          refine lv_iload_n hx hb dd_O_nextToAct_27 rfl (lv_at hl 2 rfl) ?_
          refine lv_iadd hx hb dd_O_nextToAct_28 ?_
          refine lv_aload_n hx hb dd_O_nextToAct_29 rfl (lv_at hl 0 rfl) ?_
          refine va_get (D := D) (ci := 0) (v := .int (I 0 2)) (C := "OpenDeal") (T := T_O) (N := 11) hx hb hk in_O hown hK hP 0 at_O rfl 2 (by decide) (hk _ kw_107) (fun _ h9 => h9) rfl dd_O_nextToAct_30 ?_
          refine lv_isub hx hb dd_O_nextToAct_33 ?_
          exact L34 _ ih _ _ _ _ h _ (lv_sub hl [0, 1, 2] rfl)
        · have h := in_out hc9 h
          refine lv_iload_n hx hb dd_O_nextToAct_20 rfl (lv_at hl 1 rfl) ?_
          refine lv_iload_n hx hb dd_O_nextToAct_21 rfl (lv_at hl 2 rfl) ?_
          refine lv_iadd hx hb dd_O_nextToAct_22 ?_
          refine lv_goto (tgt := 34) hx hb dd_O_nextToAct_23 (by decide) ?_
          exact L34 _ ih _ _ _ _ h _ (lv_sub hl [0, 1, 2] rfl)
  have hl := lv_entry ([.ref (ad 0), .int a1]) (n := 4) (Nat.le_of_ble_eq_true rfl)
  rw [lg_entry_eq]
  generalize (lg_sl ([.ref (ad 0), .int a1]) ++ List.replicate (4 - (lg_sl ([.ref (ad 0), .int a1])).length) Slot.unset).toArray = ls at hl ⊢
  have hl : lv_has ls 4 [(0, .ref (ad 0)), (1, .int a1)] := hl
  unfold ff_O_nextToAct at h
  refine lv_iconst (v := 1) hx hb dd_O_nextToAct_0 (by decide) ?_
  refine lv_istore_n (lv' := [(2, .int (1 : Int32)), (0, .ref (ad 0)), (1, .int a1)]) hx hb dd_O_nextToAct_1 rfl hl (by decide) rfl (fun ls hl => ?_)
  exact L2  _ _ _ h _ (lv_sub hl [1, 2, 0] rfl)
