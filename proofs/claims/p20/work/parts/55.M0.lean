/-! the reference, laid by program -/
def ff_M_raise (n : Nat) (I : MI) (J : MJ) (a1 : Int32) : Option (Int32 × MI × MJ) := some ((0 : Int32), ui I 0 0 a1, J)
set_option maxHeartbeats 4000000 in
set_option maxRecDepth 100000 in
theorem mm_M_raise (l : Launch) (D : va_G) (kc : Nat → ClassId) (ad : Nat → Nat) (I0 : MI) (J0 : MJ) (sz n : Nat) (a1 : Int32) (r : Int32 × MI × MJ) (h : ff_M_raise n I0 J0 a1 = some r) : Met l yy_M_raise (.code yy_M_raise cc_M_raise 2 (some .int) :: kw) { frames := 0, cells := 0, slots := 0, locals := 0 } (va_Pc [.ref (ad 0), .int a1] (BW D kc (wM kc ad I0 J0) sz)) (va_Qi (fun z (_ : Unit) => z = r.1) (EW D kc (va_A (wM kc ad I0 J0) sz) (wM kc ad r.2.1 r.2.2)) (va_A (wM kc ad I0 J0) sz)) 0 0 (va_A (wM kc ad I0 J0) sz) := by
  refine Met.ofW (cc := cc_M_raise) (maxL := 2) (ret := some .int) (by decide) rfl ?_
  intro p e s m args below meth c s₁ B hml hv
  obtain ⟨rfl, hsz, hP, hK, hD0⟩ := hv
  have hx := B.exec
  have hb := B.bytes
  have hr := B.returns
  have hlocks := B.notSynchronized
  have hk : ∀ w ∈ kw, w.before _ s = true := fun w hw => atoms_spec (ws := (.code yy_M_raise cc_M_raise 2 (some .int) :: kw)) B.pre w (List.mem_cons_of_mem _ hw)
  have hown : s.vm.findClass "OpenDealModel" = some m.cls := findClass_of_methodNamed B.named
  subst hsz
  have hD := hD0.self (sz := s.heap.size)
  generalize hAe : va_A (wM kc ad I0 J0) s.heap.size = A at hD ⊢
  have hA : ∀ q : Nat, s.heap.size ≤ q → A q := fun q h => by rw [← hAe]; exact Or.inr h
  have hS : va_S A s.heap s.heap [] := va_S.rf
  have hP : va_P D cls5 (wM kc ad I0 J0) s.heap := hP
  clear hAe hD0
  have hl := lv_entry ([.ref (ad 0), .int a1]) (n := 2) (Nat.le_of_ble_eq_true rfl)
  rw [lg_entry_eq]
  generalize (lg_sl ([.ref (ad 0), .int a1]) ++ List.replicate (2 - (lg_sl ([.ref (ad 0), .int a1])).length) Slot.unset).toArray = ls at hl ⊢
  have hl : lv_has ls 2 [(0, .ref (ad 0)), (1, .int a1)] := hl
  unfold ff_M_raise at h
  refine lv_aload_n hx hb dd_M_raise_0 rfl (lv_at hl 0 rfl) ?_
  refine lv_iload_n hx hb dd_M_raise_1 rfl (lv_at hl 1 rfl) ?_
  refine va_put (D := D) (ci := 4) (v := .int a1) (ty := .int) (C := "OpenDealModel") (T := T_M) (N := 32) hx hb hk in_M ty_M tk_M nm_M hown hK hP hD hS 0 am_0 rfl 0 (by decide) (hk _ kw_537) (fun _ h9 => h9) rfl (by decide +kernel) rfl rfl (Nat.le_of_ble_eq_true rfl) dd_M_raise_2 (fun H locs hP hD hS => ?_)
  rw [pt_M0] at hP hD
  refine lv_iconst (v := 0) hx hb dd_M_raise_5 (by decide) ?_
  obtain rfl := Option.some.inj h
  exact W.iret hx hb hr (fun t ht hW => ⟨⟨_, (), rfl, rfl, by rw [ht]; exact hP, va_K.moved hW.alike hK, hD⟩, hS.F ht⟩) hS.2.2 dd_M_raise_6
def ff_M_beginDeck_2  : Nat → MI → MJ → Int32 → Option (MI × MJ)
  | 0, _, _, _ => none
  | n + 1, I, J, v1 => if (52 : Int32) ≤ v1 then (some (ui I 0 20 (0 : Int32), J)) else (if ¬ (I 0 1) = 0 then tl (((v1 + (2 : Int32)) * (v1 + (2 : Int32))) - ((v1 + (2 : Int32)) * (v1 + (2 : Int32))) / (I 0 1) * (I 0 1)) fun y3 => if ¬ (v1 < 0 ∨ 468 ≤ (v1).toNatClampNeg) then ff_M_beginDeck_2 n (ui I 15 (v1).toNatClampNeg y3) J (v1 + (1 : Int32)) else none else none)
def ff_M_beginDeck (n : Nat) (I : MI) (J : MJ)  : Option (MI × MJ) := ff_M_beginDeck_2 n I J (0 : Int32)
set_option maxHeartbeats 4000000 in
set_option maxRecDepth 100000 in
theorem mm_M_beginDeck (l : Launch) (D : va_G) (kc : Nat → ClassId) (ad : Nat → Nat) (I0 : MI) (J0 : MJ) (sz n : Nat)  (r : MI × MJ) (h : ff_M_beginDeck n I0 J0  = some r) : Met l yy_M_beginDeck (.code yy_M_beginDeck cc_M_beginDeck 2 (none) :: kw) { frames := 0, cells := 0, slots := 0, locals := 0 } (va_Pc [.ref (ad 0)] (BW D kc (wM kc ad I0 J0) sz)) (va_Qv (fun (_ : Unit) => True) (EW D kc (va_A (wM kc ad I0 J0) sz) (wM kc ad r.1 r.2)) (va_A (wM kc ad I0 J0) sz)) 0 0 (va_A (wM kc ad I0 J0) sz) := by
  refine Met.ofW (cc := cc_M_beginDeck) (maxL := 2) (ret := none) (by decide) rfl ?_
  intro p e s m args below meth c s₁ B hml hv
  obtain ⟨rfl, hsz, hP, hK, hD0⟩ := hv
  have hx := B.exec
  have hb := B.bytes
  have hr := B.returns
  have hlocks := B.notSynchronized
  have hk : ∀ w ∈ kw, w.before _ s = true := fun w hw => atoms_spec (ws := (.code yy_M_beginDeck cc_M_beginDeck 2 (none) :: kw)) B.pre w (List.mem_cons_of_mem _ hw)
  have hown : s.vm.findClass "OpenDealModel" = some m.cls := findClass_of_methodNamed B.named
  subst hsz
  have hD := hD0.self (sz := s.heap.size)
  generalize hAe : va_A (wM kc ad I0 J0) s.heap.size = A at hD ⊢
  have hA : ∀ q : Nat, s.heap.size ≤ q → A q := fun q h => by rw [← hAe]; exact Or.inr h
  have hS : va_S A s.heap s.heap [] := va_S.rf
  have hP : va_P D cls5 (wM kc ad I0 J0) s.heap := hP
  clear hAe hD0
  have L2 : ∀  (n : Nat) (I : MI) (J : MJ) (v1 : Int32), ff_M_beginDeck_2 n I J v1 = some r → ∀ (H : Heap) (locs : List Loc), va_P D cls5 (wM kc ad I J) H → va_D A (wM kc ad I J) → va_S A s.heap H locs → ∀ ls, lv_has ls 2 [(0, .ref (ad 0)), (1, .int v1)] → W p l e (headSpec (.code yy_M_beginDeck cc_M_beginDeck 2 (none) :: kw) { frames := 0, cells := 0, slots := 0, locals := 0 }).room s m ([.ref (ad 0)] : List Value).toArray below meth c H locs 0 0 (MQ below (va_Qv (fun (_ : Unit) => True) (EW D kc A (wM kc ad r.1 r.2)) A) ([.ref (ad 0)] : List Value).toArray s 0 0 A) (F0 m 2 ls []) := by
    intro  n
    induction n with
    | zero => intro I J v1 h; exact absurd h (by simp [ff_M_beginDeck_2])
    | succ n ih =>
      intro I J v1 h H locs hP hD hS ls hl
      rw [ff_M_beginDeck_2] at h
      refine lv_iload_n hx hb dd_M_beginDeck_2 rfl (lv_at hl 1 rfl) ?_
      refine lv_bipush (v := 52) hx hb dd_M_beginDeck_3 (by decide) ?_
      refine lv_icmp_ge (tgt := 32) hx hb dd_M_beginDeck_5 (by decide) (fun hc1 => ?_) (fun hc1 => ?_)
      · have h := ip_out hc1 h
        refine lv_aload_n hx hb dd_M_beginDeck_32 rfl (lv_at hl 0 rfl) ?_
        refine lv_iconst (v := 0) hx hb dd_M_beginDeck_33 (by decide) ?_
        refine va_put (D := D) (ci := 4) (v := .int (0 : Int32)) (ty := .int) (C := "OpenDealModel") (T := T_M) (N := 32) hx hb hk in_M ty_M tk_M nm_M hown hK hP hD hS 0 am_0 rfl 20 (by decide) (hk _ kw_557) (fun _ h9 => h9) rfl (by decide +kernel) rfl rfl (Nat.le_of_ble_eq_true rfl) dd_M_beginDeck_34 (fun H locs hP hD hS => ?_)
        rw [pt_M20] at hP hD
        obtain rfl := Option.some.inj h
        exact W.vret hx hb hr (fun t ht hW => ⟨⟨(), rfl, trivial, by rw [ht]; exact hP, va_K.moved hW.alike hK, hD⟩, hS.F ht⟩) hS.2.2 dd_M_beginDeck_37
      · have h := in_out hc1 h
        refine lv_aload_n hx hb dd_M_beginDeck_8 rfl (lv_at hl 0 rfl) ?_
        refine va_get (D := D) (ci := 4) (v := .ref (ad 15)) (C := "OpenDealModel") (T := T_M) (N := 32) hx hb hk in_M hown hK hP 0 am_0 rfl 19 (by decide) (hk _ kw_556) (fun _ h9 => h9) rfl dd_M_beginDeck_9 ?_
        refine lv_iload_n hx hb dd_M_beginDeck_12 rfl (lv_at hl 1 rfl) ?_
        refine lv_iload_n hx hb dd_M_beginDeck_13 rfl (lv_at hl 1 rfl) ?_
        refine lv_iconst (v := 2) hx hb dd_M_beginDeck_14 (by decide) ?_
        refine lv_iadd hx hb dd_M_beginDeck_15 ?_
        refine lv_iload_n hx hb dd_M_beginDeck_16 rfl (lv_at hl 1 rfl) ?_
        refine lv_iconst (v := 2) hx hb dd_M_beginDeck_17 (by decide) ?_
        refine lv_iadd hx hb dd_M_beginDeck_18 ?_
        refine lv_imul hx hb dd_M_beginDeck_19 ?_
        refine lv_aload_n hx hb dd_M_beginDeck_20 rfl (lv_at hl 0 rfl) ?_
        refine va_get (D := D) (ci := 4) (v := .int (I 0 1)) (C := "OpenDealModel") (T := T_M) (N := 32) hx hb hk in_M hown hK hP 0 am_0 rfl 1 (by decide) (hk _ kw_538) (fun _ h9 => h9) rfl dd_M_beginDeck_21 ?_
        obtain ⟨hz2, h⟩ := oi_out h
        refine lv_irem hx hb dd_M_beginDeck_24 hz2 ?_
        refine lv_topi (fun y3 ey3 => ?_)
        have h := tl_at ey3 h
        obtain ⟨hi4, h⟩ := oi_out h
        refine va_iast hx hb hK hP hD hS 15 0 am_15 rfl (x := y3) hi4 dd_M_beginDeck_25 (fun H locs hP hD hS => ?_)
        rw [pm_15] at hP hD
        refine lv_iinc (v := v1 + (1 : Int32)) (lv' := [(1, .int (v1 + (1 : Int32))), (0, .ref (ad 0))]) hx hb dd_M_beginDeck_26 hl (k := 1) rfl rfl (by decide) rfl (fun ls hl => ?_)
        refine lv_goto (tgt := 2) hx hb dd_M_beginDeck_29 (by decide) ?_
        exact ih _ _ _ h _ _ hP hD hS _ (lv_sub hl [1, 0] rfl)
  have hl := lv_entry ([.ref (ad 0)]) (n := 2) (Nat.le_of_ble_eq_true rfl)
  rw [lg_entry_eq]
  generalize (lg_sl ([.ref (ad 0)]) ++ List.replicate (2 - (lg_sl ([.ref (ad 0)])).length) Slot.unset).toArray = ls at hl ⊢
  have hl : lv_has ls 2 [(0, .ref (ad 0))] := hl
  unfold ff_M_beginDeck at h
  refine lv_iconst (v := 0) hx hb dd_M_beginDeck_0 (by decide) ?_
  refine lv_istore_n (lv' := [(1, .int (0 : Int32)), (0, .ref (ad 0))]) hx hb dd_M_beginDeck_1 rfl hl (by decide) rfl (fun ls hl => ?_)
  exact L2  _ _ _ _ h _ _ hP hD hS _ (lv_sub hl [1, 0] rfl)
def ff_M_prime (n : Nat) (I : MI) (J : MJ) (a1 : Int32) : Option (Int32 × MI × MJ) := if ((ui I 0 0 (0 : Int32)) 0 1) = 0 then (if a1 ≤ (65536 : Int32) then (some ((0 : Int32), ui I 0 0 (0 : Int32), J)) else (tl (a1 - a1 / (2 : Int32) * (2 : Int32)) fun y3 => if y3 = 0 then (some ((0 : Int32), ui I 0 0 (0 : Int32), J)) else ((ff_M_isPrime n a1).bind fun r5 => if r5 = 0 then (some ((0 : Int32), ui I 0 0 (0 : Int32), J)) else ((ff_M_isPrime n ((a1 - (1 : Int32)) / (2 : Int32))).bind fun r7 => if r7 = 0 then (some ((0 : Int32), ui I 0 0 (0 : Int32), J)) else ((ff_M_beginDeck n (ui (ui (ui I 0 0 (0 : Int32)) 0 1 a1) 0 2 ((a1 - (1 : Int32)) / (2 : Int32))) J ).bind fun r9 => some ((1 : Int32), r9.1, r9.2)))))) else (some ((0 : Int32), ui I 0 0 (0 : Int32), J))
set_option maxHeartbeats 4000000 in
set_option maxRecDepth 100000 in
theorem mm_M_prime (l : Launch) (D : va_G) (kc : Nat → ClassId) (ad : Nat → Nat) (I0 : MI) (J0 : MJ) (sz n : Nat) (a1 : Int32) (r : Int32 × MI × MJ) (h : ff_M_prime n I0 J0 a1 = some r) : Met l yy_M_prime (.code yy_M_prime cc_M_prime 2 (some .boolean) :: kw) { frames := 1, cells := 0, slots := 0, locals := 21 } (va_Pc [.ref (ad 0), .int a1] (BW D kc (wM kc ad I0 J0) sz)) (va_Qi (fun z (_ : Unit) => z = r.1) (EW D kc (va_A (wM kc ad I0 J0) sz) (wM kc ad r.2.1 r.2.2)) (va_A (wM kc ad I0 J0) sz)) 0 0 (va_A (wM kc ad I0 J0) sz) := by
  refine Met.ofW (cc := cc_M_prime) (maxL := 2) (ret := some .boolean) (by decide) rfl ?_
  intro p e s m args below meth c s₁ B hml hv
  obtain ⟨rfl, hsz, hP, hK, hD0⟩ := hv
  have hx := B.exec
  have hb := B.bytes
  have hr := B.returns
  have hlocks := B.notSynchronized
  have hk : ∀ w ∈ kw, w.before _ s = true := fun w hw => atoms_spec (ws := (.code yy_M_prime cc_M_prime 2 (some .boolean) :: kw)) B.pre w (List.mem_cons_of_mem _ hw)
  have hown : s.vm.findClass "OpenDealModel" = some m.cls := findClass_of_methodNamed B.named
  subst hsz
  have hD := hD0.self (sz := s.heap.size)
  generalize hAe : va_A (wM kc ad I0 J0) s.heap.size = A at hD ⊢
  have hA : ∀ q : Nat, s.heap.size ≤ q → A q := fun q h => by rw [← hAe]; exact Or.inr h
  have hS : va_S A s.heap s.heap [] := va_S.rf
  have hP : va_P D cls5 (wM kc ad I0 J0) s.heap := hP
  clear hAe hD0
  have hl := lv_entry ([.ref (ad 0), .int a1]) (n := 2) (Nat.le_of_ble_eq_true rfl)
  rw [lg_entry_eq]
  generalize (lg_sl ([.ref (ad 0), .int a1]) ++ List.replicate (2 - (lg_sl ([.ref (ad 0), .int a1])).length) Slot.unset).toArray = ls at hl ⊢
  have hl : lv_has ls 2 [(0, .ref (ad 0)), (1, .int a1)] := hl
  unfold ff_M_prime at h
  refine lv_aload_n hx hb dd_M_prime_0 rfl (lv_at hl 0 rfl) ?_
  refine lv_iconst (v := 0) hx hb dd_M_prime_1 (by decide) ?_
  refine va_put (D := D) (ci := 4) (v := .int (0 : Int32)) (ty := .int) (C := "OpenDealModel") (T := T_M) (N := 32) hx hb hk in_M ty_M tk_M nm_M hown hK hP hD hS 0 am_0 rfl 0 (by decide) (hk _ kw_537) (fun _ h9 => h9) rfl (by decide +kernel) rfl rfl (Nat.le_of_ble_eq_true rfl) dd_M_prime_2 (fun H locs hP hD hS => ?_)
  rw [pt_M0] at hP hD
  refine lv_aload_n hx hb dd_M_prime_5 rfl (lv_at hl 0 rfl) ?_
  refine va_get (D := D) (ci := 4) (v := .int ((ui I0 0 0 (0 : Int32)) 0 1)) (C := "OpenDealModel") (T := T_M) (N := 32) hx hb hk in_M hown hK hP 0 am_0 rfl 1 (by decide) (hk _ kw_538) (fun _ h9 => h9) rfl dd_M_prime_6 ?_
  refine lv_if_ne (tgt := 42) hx hb dd_M_prime_9 (by decide) (fun hc1 => ?_) (fun hc1 => ?_)
  · have h := in_out hc1 h
    refine lv_iconst (v := 0) hx hb dd_M_prime_42 (by decide) ?_
    obtain rfl := Option.some.inj h
    exact W.zret hx hb hr rfl (fun t ht hW => ⟨⟨_, (), rfl, rfl, by rw [ht]; exact hP, va_K.moved hW.alike hK, hD⟩, hS.F ht⟩) hS.2.2 dd_M_prime_43
  · have h := ip_out hc1 h
    refine lv_iload_n hx hb dd_M_prime_12 rfl (lv_at hl 1 rfl) ?_
    refine lv_ldc (v := 65536) hx hb hown (hk _ kw_639) dd_M_prime_13 ?_
    refine lv_icmp_le (tgt := 42) hx hb dd_M_prime_15 (by decide) (fun hc2 => ?_) (fun hc2 => ?_)
    · have h := ip_out hc2 h
      refine lv_iconst (v := 0) hx hb dd_M_prime_42 (by decide) ?_
      obtain rfl := Option.some.inj h
      exact W.zret hx hb hr rfl (fun t ht hW => ⟨⟨_, (), rfl, rfl, by rw [ht]; exact hP, va_K.moved hW.alike hK, hD⟩, hS.F ht⟩) hS.2.2 dd_M_prime_43
    · have h := in_out hc2 h
      refine lv_iload_n hx hb dd_M_prime_18 rfl (lv_at hl 1 rfl) ?_
      refine lv_iconst (v := 2) hx hb dd_M_prime_19 (by decide) ?_
      refine lv_irem hx hb dd_M_prime_20 (by decide) ?_
      refine lv_topi (fun y3 ey3 => ?_)
      have h := tl_at ey3 h
      refine lv_if_eq (tgt := 42) hx hb dd_M_prime_21 (by decide) (fun hc4 => ?_) (fun hc4 => ?_)
      · have h := ip_out hc4 h
        refine lv_iconst (v := 0) hx hb dd_M_prime_42 (by decide) ?_
        obtain rfl := Option.some.inj h
        exact W.zret hx hb hr rfl (fun t ht hW => ⟨⟨_, (), rfl, rfl, by rw [ht]; exact hP, va_K.moved hW.alike hK, hD⟩, hS.F ht⟩) hS.2.2 dd_M_prime_43
      · have h := in_out hc4 h
        refine lv_iload_n hx hb dd_M_prime_24 rfl (lv_at hl 1 rfl) ?_
        obtain ⟨r5, hr5, h⟩ := ob_out h
        refine ro_Si (n := 1) (As := [.int a1]) hx hb hml hown hk (mm_M_isPrime l _ _ _ hr5) (fun U _ _ => trivial) (fun _ _ _ _ _ => trivial) kw_640 kw_641 kw_4 kw_642 ⟨rfl, rfl⟩ (by decide +kernel) ⟨Nat.le_of_ble_eq_true rfl, Nat.le_of_ble_eq_true rfl⟩ rfl hl.1 rfl (Nat.le_of_ble_eq_true rfl) dd_M_prime_25 ⟨Nat.le_of_ble_eq_true rfl, Nat.le_of_ble_eq_true rfl⟩ ?_
        refine lv_if_eq (tgt := 42) hx hb dd_M_prime_28 (by decide) (fun hc6 => ?_) (fun hc6 => ?_)
        · have h := ip_out hc6 h
          refine lv_iconst (v := 0) hx hb dd_M_prime_42 (by decide) ?_
          obtain rfl := Option.some.inj h
          exact W.zret hx hb hr rfl (fun t ht hW => ⟨⟨_, (), rfl, rfl, by rw [ht]; exact hP, va_K.moved hW.alike hK, hD⟩, hS.F ht⟩) hS.2.2 dd_M_prime_43
        · have h := in_out hc6 h
          refine lv_iload_n hx hb dd_M_prime_31 rfl (lv_at hl 1 rfl) ?_
          refine lv_iconst (v := 1) hx hb dd_M_prime_32 (by decide) ?_
          refine lv_isub hx hb dd_M_prime_33 ?_
          refine lv_iconst (v := 2) hx hb dd_M_prime_34 (by decide) ?_
          refine lv_idiv hx hb dd_M_prime_35 (by decide) ?_
          obtain ⟨r7, hr7, h⟩ := ob_out h
          refine ro_Si (n := 1) (As := [.int ((a1 - (1 : Int32)) / (2 : Int32))]) hx hb hml hown hk (mm_M_isPrime l _ _ _ hr7) (fun U _ _ => trivial) (fun _ _ _ _ _ => trivial) kw_640 kw_641 kw_4 kw_642 ⟨rfl, rfl⟩ (by decide +kernel) ⟨Nat.le_of_ble_eq_true rfl, Nat.le_of_ble_eq_true rfl⟩ rfl hl.1 rfl (Nat.le_of_ble_eq_true rfl) dd_M_prime_36 ⟨Nat.le_of_ble_eq_true rfl, Nat.le_of_ble_eq_true rfl⟩ ?_
          refine lv_if_ne (tgt := 44) hx hb dd_M_prime_39 (by decide) (fun hc8 => ?_) (fun hc8 => ?_)
          · have h := in_out hc8 h
            refine lv_aload_n hx hb dd_M_prime_44 rfl (lv_at hl 0 rfl) ?_
            refine lv_iload_n hx hb dd_M_prime_45 rfl (lv_at hl 1 rfl) ?_
            refine va_put (D := D) (ci := 4) (v := .int a1) (ty := .int) (C := "OpenDealModel") (T := T_M) (N := 32) hx hb hk in_M ty_M tk_M nm_M hown hK hP hD hS 0 am_0 rfl 1 (by decide) (hk _ kw_538) (fun _ h9 => h9) rfl (by decide +kernel) rfl rfl (Nat.le_of_ble_eq_true rfl) dd_M_prime_46 (fun H locs hP hD hS => ?_)
            rw [pt_M1] at hP hD
            refine lv_aload_n hx hb dd_M_prime_49 rfl (lv_at hl 0 rfl) ?_
            refine lv_iload_n hx hb dd_M_prime_50 rfl (lv_at hl 1 rfl) ?_
            refine lv_iconst (v := 1) hx hb dd_M_prime_51 (by decide) ?_
            refine lv_isub hx hb dd_M_prime_52 ?_
            refine lv_iconst (v := 2) hx hb dd_M_prime_53 (by decide) ?_
            refine lv_idiv hx hb dd_M_prime_54 (by decide) ?_
            refine va_put (D := D) (ci := 4) (v := .int ((a1 - (1 : Int32)) / (2 : Int32))) (ty := .int) (C := "OpenDealModel") (T := T_M) (N := 32) hx hb hk in_M ty_M tk_M nm_M hown hK hP hD hS 0 am_0 rfl 2 (by decide) (hk _ kw_539) (fun _ h9 => h9) rfl (by decide +kernel) rfl rfl (Nat.le_of_ble_eq_true rfl) dd_M_prime_55 (fun H locs hP hD hS => ?_)
            rw [pt_M2] at hP hD
            refine lv_aload_n hx hb dd_M_prime_58 rfl (lv_at hl 0 rfl) ?_
            obtain ⟨r9, hr9, h⟩ := ob_out h
            refine cw_Vv (n := 0) (As := []) (mc := 0) (ms := 0) hx hb hml hown hk (mm_M_beginDeck l D kc ad _ _ _ _  _ hr9) hK hP hD hS hA 0 am_0 rfl rfl kw_643 kw_645 sel_M_beginDeck kw_4 kw_646 ⟨rfl, rfl⟩ (by decide +kernel) ⟨Nat.le_of_ble_eq_true rfl, Nat.le_of_ble_eq_true rfl⟩ rfl hl.1 rfl (Nat.le_of_ble_eq_true rfl) dd_M_prime_59 ⟨Nat.le_of_ble_eq_true rfl, Nat.le_of_ble_eq_true rfl⟩ (fun H locs hP hD hS => ?_)
            refine lv_iconst (v := 1) hx hb dd_M_prime_62 (by decide) ?_
            obtain rfl := Option.some.inj h
            exact W.zret hx hb hr rfl (fun t ht hW => ⟨⟨_, (), rfl, rfl, by rw [ht]; exact hP, va_K.moved hW.alike hK, hD⟩, hS.F ht⟩) hS.2.2 dd_M_prime_63
          · have h := ip_out hc8 h
            refine lv_iconst (v := 0) hx hb dd_M_prime_42 (by decide) ?_
            obtain rfl := Option.some.inj h
            exact W.zret hx hb hr rfl (fun t ht hW => ⟨⟨_, (), rfl, rfl, by rw [ht]; exact hP, va_K.moved hW.alike hK, hD⟩, hS.F ht⟩) hS.2.2 dd_M_prime_43
def ff_M_clear_73  : Nat → MI → MJ → Int32 → Option (MI × MJ)
  | 0, _, _, _ => none
  | n + 1, I, J, v1 => if (208 : Int32) ≤ v1 then (some (I, J)) else (if ¬ (v1 < 0 ∨ 208 ≤ (v1).toNatClampNeg) then ff_M_clear_73 n (ui I 19 (v1).toNatClampNeg (0 : Int32)) J (v1 + (1 : Int32)) else none)
def ff_M_clear_32  : Nat → MI → MJ → Int32 → Option (MI × MJ)
  | 0, _, _, _ => none
  | n + 1, I, J, v1 => if (4 : Int32) ≤ v1 then (ff_M_clear_73 n I J (0 : Int32)) else (if ¬ (v1 < 0 ∨ 4 ≤ (v1).toNatClampNeg) then if ¬ (v1 < 0 ∨ 4 ≤ (v1).toNatClampNeg) then if ¬ (v1 < 0 ∨ 4 ≤ (v1).toNatClampNeg) then if ¬ (v1 < 0 ∨ 4 ≤ (v1).toNatClampNeg) then ff_M_clear_32 n (ui (ui (ui (ui I 2 (v1).toNatClampNeg (0 : Int32)) 21 (v1).toNatClampNeg (0 : Int32)) 22 (v1).toNatClampNeg (0 : Int32)) 20 (v1).toNatClampNeg (0 : Int32)) J (v1 + (1 : Int32)) else none else none else none else none)
def ff_M_clear (n : Nat) (I : MI) (J : MJ)  : Option (MI × MJ) := ff_M_clear_32 n (ui (ui (ui (ui (ui (ui I 0 0 (0 : Int32)) 0 1 (0 : Int32)) 0 3 (0 : Int32)) 0 4 (0 : Int32)) 0 30 (0 : Int32)) 0 31 (-1 : Int32)) J (0 : Int32)
set_option maxHeartbeats 4000000 in
set_option maxRecDepth 100000 in
theorem mm_M_clear (l : Launch) (D : va_G) (kc : Nat → ClassId) (ad : Nat → Nat) (I0 : MI) (J0 : MJ) (sz n : Nat)  (r : MI × MJ) (h : ff_M_clear n I0 J0  = some r) : Met l yy_M_clear (.code yy_M_clear cc_M_clear 2 (none) :: kw) { frames := 0, cells := 0, slots := 0, locals := 0 } (va_Pc [.ref (ad 0)] (BW D kc (wM kc ad I0 J0) sz)) (va_Qv (fun (_ : Unit) => True) (EW D kc (va_A (wM kc ad I0 J0) sz) (wM kc ad r.1 r.2)) (va_A (wM kc ad I0 J0) sz)) 0 0 (va_A (wM kc ad I0 J0) sz) := by
  refine Met.ofW (cc := cc_M_clear) (maxL := 2) (ret := none) (by decide) rfl ?_
  intro p e s m args below meth c s₁ B hml hv
  obtain ⟨rfl, hsz, hP, hK, hD0⟩ := hv
  have hx := B.exec
  have hb := B.bytes
  have hr := B.returns
  have hlocks := B.notSynchronized
  have hk : ∀ w ∈ kw, w.before _ s = true := fun w hw => atoms_spec (ws := (.code yy_M_clear cc_M_clear 2 (none) :: kw)) B.pre w (List.mem_cons_of_mem _ hw)
  have hown : s.vm.findClass "OpenDealModel" = some m.cls := findClass_of_methodNamed B.named
  subst hsz
  have hD := hD0.self (sz := s.heap.size)
  generalize hAe : va_A (wM kc ad I0 J0) s.heap.size = A at hD ⊢
  have hA : ∀ q : Nat, s.heap.size ≤ q → A q := fun q h => by rw [← hAe]; exact Or.inr h
  have hS : va_S A s.heap s.heap [] := va_S.rf
  have hP : va_P D cls5 (wM kc ad I0 J0) s.heap := hP
  clear hAe hD0
  have L73 : ∀  (n : Nat) (I : MI) (J : MJ) (v1 : Int32), ff_M_clear_73 n I J v1 = some r → ∀ (H : Heap) (locs : List Loc), va_P D cls5 (wM kc ad I J) H → va_D A (wM kc ad I J) → va_S A s.heap H locs → ∀ ls, lv_has ls 2 [(0, .ref (ad 0)), (1, .int v1)] → W p l e (headSpec (.code yy_M_clear cc_M_clear 2 (none) :: kw) { frames := 0, cells := 0, slots := 0, locals := 0 }).room s m ([.ref (ad 0)] : List Value).toArray below meth c H locs 0 0 (MQ below (va_Qv (fun (_ : Unit) => True) (EW D kc A (wM kc ad r.1 r.2)) A) ([.ref (ad 0)] : List Value).toArray s 0 0 A) (F0 m 73 ls []) := by
    intro  n
    induction n with
    | zero => intro I J v1 h; exact absurd h (by simp [ff_M_clear_73])
    | succ n ih =>
      intro I J v1 h H locs hP hD hS ls hl
      rw [ff_M_clear_73] at h
      refine lv_iload_n hx hb dd_M_clear_73 rfl (lv_at hl 1 rfl) ?_
      refine lv_sipush (v := 208) hx hb dd_M_clear_74 (by decide) ?_
      refine lv_icmp_ge (tgt := 93) hx hb dd_M_clear_77 (by decide) (fun hc1 => ?_) (fun hc1 => ?_)
      · have h := ip_out hc1 h
        obtain rfl := Option.some.inj h
        exact W.vret hx hb hr (fun t ht hW => ⟨⟨(), rfl, trivial, by rw [ht]; exact hP, va_K.moved hW.alike hK, hD⟩, hS.F ht⟩) hS.2.2 dd_M_clear_93
      · have h := in_out hc1 h
        refine lv_aload_n hx hb dd_M_clear_80 rfl (lv_at hl 0 rfl) ?_
        refine va_get (D := D) (ci := 4) (v := .ref (ad 19)) (C := "OpenDealModel") (T := T_M) (N := 32) hx hb hk in_M hown hK hP 0 am_0 rfl 24 (by decide) (hk _ kw_561) (fun _ h9 => h9) rfl dd_M_clear_81 ?_
        refine lv_iload_n hx hb dd_M_clear_84 rfl (lv_at hl 1 rfl) ?_
        refine lv_iconst (v := 0) hx hb dd_M_clear_85 (by decide) ?_
        obtain ⟨hi2, h⟩ := oi_out h
        refine va_iast hx hb hK hP hD hS 19 0 am_19 rfl (x := (0 : Int32)) hi2 dd_M_clear_86 (fun H locs hP hD hS => ?_)
        rw [pm_19] at hP hD
        refine lv_iinc (v := v1 + (1 : Int32)) (lv' := [(1, .int (v1 + (1 : Int32))), (0, .ref (ad 0))]) hx hb dd_M_clear_87 hl (k := 1) rfl rfl (by decide) rfl (fun ls hl => ?_)
        refine lv_goto (tgt := 73) hx hb dd_M_clear_90 (by decide) ?_
        exact ih _ _ _ h _ _ hP hD hS _ (lv_sub hl [1, 0] rfl)
  have L32 : ∀  (n : Nat) (I : MI) (J : MJ) (v1 : Int32), ff_M_clear_32 n I J v1 = some r → ∀ (H : Heap) (locs : List Loc), va_P D cls5 (wM kc ad I J) H → va_D A (wM kc ad I J) → va_S A s.heap H locs → ∀ ls, lv_has ls 2 [(0, .ref (ad 0)), (1, .int v1)] → W p l e (headSpec (.code yy_M_clear cc_M_clear 2 (none) :: kw) { frames := 0, cells := 0, slots := 0, locals := 0 }).room s m ([.ref (ad 0)] : List Value).toArray below meth c H locs 0 0 (MQ below (va_Qv (fun (_ : Unit) => True) (EW D kc A (wM kc ad r.1 r.2)) A) ([.ref (ad 0)] : List Value).toArray s 0 0 A) (F0 m 32 ls []) := by
    intro  n
    induction n with
    | zero => intro I J v1 h; exact absurd h (by simp [ff_M_clear_32])
    | succ n ih =>
      intro I J v1 h H locs hP hD hS ls hl
      rw [ff_M_clear_32] at h
      refine lv_iload_n hx hb dd_M_clear_32 rfl (lv_at hl 1 rfl) ?_
      refine lv_iconst (v := 4) hx hb dd_M_clear_33 (by decide) ?_
      refine lv_icmp_ge (tgt := 71) hx hb dd_M_clear_34 (by decide) (fun hc3 => ?_) (fun hc3 => ?_)
      · have h := ip_out hc3 h
        refine lv_iconst (v := 0) hx hb dd_M_clear_71 (by decide) ?_
        refine lv_istore_n (lv' := [(1, .int (0 : Int32)), (0, .ref (ad 0))]) hx hb dd_M_clear_72 rfl hl (by decide) rfl (fun ls hl => ?_)
        exact L73  _ _ _ _ h _ _ hP hD hS _ (lv_sub hl [1, 0] rfl)
      · have h := in_out hc3 h
        refine lv_aload_n hx hb dd_M_clear_37 rfl (lv_at hl 0 rfl) ?_
        refine va_get (D := D) (ci := 4) (v := .ref (ad 2)) (C := "OpenDealModel") (T := T_M) (N := 32) hx hb hk in_M hown hK hP 0 am_0 rfl 6 (by decide) (hk _ kw_543) (fun _ h9 => h9) rfl dd_M_clear_38 ?_
        refine lv_iload_n hx hb dd_M_clear_41 rfl (lv_at hl 1 rfl) ?_
        refine lv_iconst (v := 0) hx hb dd_M_clear_42 (by decide) ?_
        obtain ⟨hi4, h⟩ := oi_out h
        refine va_zast hx hb hK hP hD hS 2 2 am_2 rfl (x := (0 : Int32)) hi4 dd_M_clear_43 (fun H locs hP hD hS => ?_)
        rw [show vp_nar .boolean (0 : Int32) = (0 : Int32) from rfl] at hP hD
        rw [pm_2] at hP hD
        refine lv_aload_n hx hb dd_M_clear_44 rfl (lv_at hl 0 rfl) ?_
        refine va_get (D := D) (ci := 4) (v := .ref (ad 21)) (C := "OpenDealModel") (T := T_M) (N := 32) hx hb hk in_M hown hK hP 0 am_0 rfl 27 (by decide) (hk _ kw_564) (fun _ h9 => h9) rfl dd_M_clear_45 ?_
        refine lv_iload_n hx hb dd_M_clear_48 rfl (lv_at hl 1 rfl) ?_
        refine lv_iconst (v := 0) hx hb dd_M_clear_49 (by decide) ?_
        obtain ⟨hi5, h⟩ := oi_out h
        refine va_iast hx hb hK hP hD hS 21 0 am_21 rfl (x := (0 : Int32)) hi5 dd_M_clear_50 (fun H locs hP hD hS => ?_)
        rw [pm_21] at hP hD
        refine lv_aload_n hx hb dd_M_clear_51 rfl (lv_at hl 0 rfl) ?_
        refine va_get (D := D) (ci := 4) (v := .ref (ad 22)) (C := "OpenDealModel") (T := T_M) (N := 32) hx hb hk in_M hown hK hP 0 am_0 rfl 28 (by decide) (hk _ kw_565) (fun _ h9 => h9) rfl dd_M_clear_52 ?_
        refine lv_iload_n hx hb dd_M_clear_55 rfl (lv_at hl 1 rfl) ?_
        refine lv_iconst (v := 0) hx hb dd_M_clear_56 (by decide) ?_
        obtain ⟨hi6, h⟩ := oi_out h
        refine va_iast hx hb hK hP hD hS 22 0 am_22 rfl (x := (0 : Int32)) hi6 dd_M_clear_57 (fun H locs hP hD hS => ?_)
        rw [pm_22] at hP hD
        refine lv_aload_n hx hb dd_M_clear_58 rfl (lv_at hl 0 rfl) ?_
        refine va_get (D := D) (ci := 4) (v := .ref (ad 20)) (C := "OpenDealModel") (T := T_M) (N := 32) hx hb hk in_M hown hK hP 0 am_0 rfl 26 (by decide) (hk _ kw_563) (fun _ h9 => h9) rfl dd_M_clear_59 ?_
        refine lv_iload_n hx hb dd_M_clear_62 rfl (lv_at hl 1 rfl) ?_
        refine lv_iconst (v := 0) hx hb dd_M_clear_63 (by decide) ?_
        obtain ⟨hi7, h⟩ := oi_out h
        refine va_zast hx hb hK hP hD hS 20 2 am_20 rfl (x := (0 : Int32)) hi7 dd_M_clear_64 (fun H locs hP hD hS => ?_)
        rw [show vp_nar .boolean (0 : Int32) = (0 : Int32) from rfl] at hP hD
        rw [pm_20] at hP hD
        refine lv_iinc (v := v1 + (1 : Int32)) (lv' := [(1, .int (v1 + (1 : Int32))), (0, .ref (ad 0))]) hx hb dd_M_clear_65 hl (k := 1) rfl rfl (by decide) rfl (fun ls hl => ?_)
        refine lv_goto (tgt := 32) hx hb dd_M_clear_68 (by decide) ?_
        exact ih _ _ _ h _ _ hP hD hS _ (lv_sub hl [1, 0] rfl)
  have hl := lv_entry ([.ref (ad 0)]) (n := 2) (Nat.le_of_ble_eq_true rfl)
  rw [lg_entry_eq]
  generalize (lg_sl ([.ref (ad 0)]) ++ List.replicate (2 - (lg_sl ([.ref (ad 0)])).length) Slot.unset).toArray = ls at hl ⊢
  have hl : lv_has ls 2 [(0, .ref (ad 0))] := hl
  unfold ff_M_clear at h
  refine lv_aload_n hx hb dd_M_clear_0 rfl (lv_at hl 0 rfl) ?_
  refine lv_iconst (v := 0) hx hb dd_M_clear_1 (by decide) ?_
  refine va_put (D := D) (ci := 4) (v := .int (0 : Int32)) (ty := .int) (C := "OpenDealModel") (T := T_M) (N := 32) hx hb hk in_M ty_M tk_M nm_M hown hK hP hD hS 0 am_0 rfl 0 (by decide) (hk _ kw_537) (fun _ h9 => h9) rfl (by decide +kernel) rfl rfl (Nat.le_of_ble_eq_true rfl) dd_M_clear_2 (fun H locs hP hD hS => ?_)
  rw [pt_M0] at hP hD
  refine lv_aload_n hx hb dd_M_clear_5 rfl (lv_at hl 0 rfl) ?_
  refine lv_iconst (v := 0) hx hb dd_M_clear_6 (by decide) ?_
  refine va_put (D := D) (ci := 4) (v := .int (0 : Int32)) (ty := .int) (C := "OpenDealModel") (T := T_M) (N := 32) hx hb hk in_M ty_M tk_M nm_M hown hK hP hD hS 0 am_0 rfl 1 (by decide) (hk _ kw_538) (fun _ h9 => h9) rfl (by decide +kernel) rfl rfl (Nat.le_of_ble_eq_true rfl) dd_M_clear_7 (fun H locs hP hD hS => ?_)
  rw [pt_M1] at hP hD
  refine lv_aload_n hx hb dd_M_clear_10 rfl (lv_at hl 0 rfl) ?_
  refine lv_iconst (v := 0) hx hb dd_M_clear_11 (by decide) ?_
  refine va_put (D := D) (ci := 4) (v := .int (0 : Int32)) (ty := .int) (C := "OpenDealModel") (T := T_M) (N := 32) hx hb hk in_M ty_M tk_M nm_M hown hK hP hD hS 0 am_0 rfl 3 (by decide) (hk _ kw_540) (fun _ h9 => h9) rfl (by decide +kernel) rfl rfl (Nat.le_of_ble_eq_true rfl) dd_M_clear_12 (fun H locs hP hD hS => ?_)
  rw [pt_M3] at hP hD
  refine lv_aload_n hx hb dd_M_clear_15 rfl (lv_at hl 0 rfl) ?_
  refine lv_iconst (v := 0) hx hb dd_M_clear_16 (by decide) ?_
  refine va_put (D := D) (ci := 4) (v := .int (0 : Int32)) (ty := .int) (C := "OpenDealModel") (T := T_M) (N := 32) hx hb hk in_M ty_M tk_M nm_M hown hK hP hD hS 0 am_0 rfl 4 (by decide) (hk _ kw_541) (fun _ h9 => h9) rfl (by decide +kernel) rfl rfl (Nat.le_of_ble_eq_true rfl) dd_M_clear_17 (fun H locs hP hD hS => ?_)
  rw [pt_M4] at hP hD
  refine lv_aload_n hx hb dd_M_clear_20 rfl (lv_at hl 0 rfl) ?_
  refine lv_iconst (v := 0) hx hb dd_M_clear_21 (by decide) ?_
  refine va_put (D := D) (ci := 4) (v := .int (0 : Int32)) (ty := .boolean) (C := "OpenDealModel") (T := T_M) (N := 32) hx hb hk in_M ty_M tk_M nm_M hown hK hP hD hS 0 am_0 rfl 30 (by decide) (hk _ kw_567) (fun _ h9 => h9) rfl (by decide +kernel) rfl rfl (Nat.le_of_ble_eq_true rfl) dd_M_clear_22 (fun H locs hP hD hS => ?_)
  rw [pt_M30] at hP hD
  refine lv_aload_n hx hb dd_M_clear_25 rfl (lv_at hl 0 rfl) ?_
  refine lv_iconst (v := -1) hx hb dd_M_clear_26 (by decide) ?_
  refine va_put (D := D) (ci := 4) (v := .int (-1 : Int32)) (ty := .int) (C := "OpenDealModel") (T := T_M) (N := 32) hx hb hk in_M ty_M tk_M nm_M hown hK hP hD hS 0 am_0 rfl 31 (by decide) (hk _ kw_568) (fun _ h9 => h9) rfl (by decide +kernel) rfl rfl (Nat.le_of_ble_eq_true rfl) dd_M_clear_27 (fun H locs hP hD hS => ?_)
  rw [pt_M31] at hP hD
  refine lv_iconst (v := 0) hx hb dd_M_clear_30 (by decide) ?_
  refine lv_istore_n (lv' := [(1, .int (0 : Int32)), (0, .ref (ad 0))]) hx hb dd_M_clear_31 rfl hl (by decide) rfl (fun ls hl => ?_)
  exact L32  _ _ _ _ h _ _ hP hD hS _ (lv_sub hl [1, 0] rfl)
def ff_M_seat (n : Nat) (I : MI) (J : MJ) (a1 : Int32) : Option (Int32 × MI × MJ) := if ((ui I 0 0 (0 : Int32)) 0 3) = (4 : Int32) then (some ((-1 : Int32), ui I 0 0 (0 : Int32), J)) else (if ((ui I 0 0 (0 : Int32)) 0 4) = 0 then (if a1 < (1 : Int32) then (some ((-1 : Int32), ui I 0 0 (0 : Int32), J)) else (if a1 ≤ (100000 : Int32) then (if ¬ (((ui I 0 0 (0 : Int32)) 0 3) < 0 ∨ 4 ≤ ((ui I 0 0 (0 : Int32)) 0 3).toNatClampNeg) then if ¬ (((ui (ui I 0 0 (0 : Int32)) 1 ((ui I 0 0 (0 : Int32)) 0 3).toNatClampNeg a1) 0 3) < 0 ∨ 4 ≤ ((ui (ui I 0 0 (0 : Int32)) 1 ((ui I 0 0 (0 : Int32)) 0 3).toNatClampNeg a1) 0 3).toNatClampNeg) then some (((ui (ui (ui (ui I 0 0 (0 : Int32)) 1 ((ui I 0 0 (0 : Int32)) 0 3).toNatClampNeg a1) 21 ((ui (ui I 0 0 (0 : Int32)) 1 ((ui I 0 0 (0 : Int32)) 0 3).toNatClampNeg a1) 0 3).toNatClampNeg (0 : Int32)) 0 3 (((ui (ui (ui I 0 0 (0 : Int32)) 1 ((ui I 0 0 (0 : Int32)) 0 3).toNatClampNeg a1) 21 ((ui (ui I 0 0 (0 : Int32)) 1 ((ui I 0 0 (0 : Int32)) 0 3).toNatClampNeg a1) 0 3).toNatClampNeg (0 : Int32)) 0 3) + (1 : Int32))) 0 3) - (1 : Int32), ui (ui (ui (ui I 0 0 (0 : Int32)) 1 ((ui I 0 0 (0 : Int32)) 0 3).toNatClampNeg a1) 21 ((ui (ui I 0 0 (0 : Int32)) 1 ((ui I 0 0 (0 : Int32)) 0 3).toNatClampNeg a1) 0 3).toNatClampNeg (0 : Int32)) 0 3 (((ui (ui (ui I 0 0 (0 : Int32)) 1 ((ui I 0 0 (0 : Int32)) 0 3).toNatClampNeg a1) 21 ((ui (ui I 0 0 (0 : Int32)) 1 ((ui I 0 0 (0 : Int32)) 0 3).toNatClampNeg a1) 0 3).toNatClampNeg (0 : Int32)) 0 3) + (1 : Int32)), J) else none else none) else (some ((-1 : Int32), ui I 0 0 (0 : Int32), J)))) else (some ((-1 : Int32), ui I 0 0 (0 : Int32), J)))
set_option maxHeartbeats 4000000 in
set_option maxRecDepth 100000 in
theorem mm_M_seat (l : Launch) (D : va_G) (kc : Nat → ClassId) (ad : Nat → Nat) (I0 : MI) (J0 : MJ) (sz n : Nat) (a1 : Int32) (r : Int32 × MI × MJ) (h : ff_M_seat n I0 J0 a1 = some r) : Met l yy_M_seat (.code yy_M_seat cc_M_seat 2 (some .int) :: kw) { frames := 0, cells := 0, slots := 0, locals := 0 } (va_Pc [.ref (ad 0), .int a1] (BW D kc (wM kc ad I0 J0) sz)) (va_Qi (fun z (_ : Unit) => z = r.1) (EW D kc (va_A (wM kc ad I0 J0) sz) (wM kc ad r.2.1 r.2.2)) (va_A (wM kc ad I0 J0) sz)) 0 0 (va_A (wM kc ad I0 J0) sz) := by
  refine Met.ofW (cc := cc_M_seat) (maxL := 2) (ret := some .int) (by decide) rfl ?_
  intro p e s m args below meth c s₁ B hml hv
  obtain ⟨rfl, hsz, hP, hK, hD0⟩ := hv
  have hx := B.exec
  have hb := B.bytes
  have hr := B.returns
  have hlocks := B.notSynchronized
  have hk : ∀ w ∈ kw, w.before _ s = true := fun w hw => atoms_spec (ws := (.code yy_M_seat cc_M_seat 2 (some .int) :: kw)) B.pre w (List.mem_cons_of_mem _ hw)
  have hown : s.vm.findClass "OpenDealModel" = some m.cls := findClass_of_methodNamed B.named
  subst hsz
  have hD := hD0.self (sz := s.heap.size)
  generalize hAe : va_A (wM kc ad I0 J0) s.heap.size = A at hD ⊢
  have hA : ∀ q : Nat, s.heap.size ≤ q → A q := fun q h => by rw [← hAe]; exact Or.inr h
  have hS : va_S A s.heap s.heap [] := va_S.rf
  have hP : va_P D cls5 (wM kc ad I0 J0) s.heap := hP
  clear hAe hD0
  have hl := lv_entry ([.ref (ad 0), .int a1]) (n := 2) (Nat.le_of_ble_eq_true rfl)
  rw [lg_entry_eq]
  generalize (lg_sl ([.ref (ad 0), .int a1]) ++ List.replicate (2 - (lg_sl ([.ref (ad 0), .int a1])).length) Slot.unset).toArray = ls at hl ⊢
  have hl : lv_has ls 2 [(0, .ref (ad 0)), (1, .int a1)] := hl
  unfold ff_M_seat at h
  refine lv_aload_n hx hb dd_M_seat_0 rfl (lv_at hl 0 rfl) ?_
  refine lv_iconst (v := 0) hx hb dd_M_seat_1 (by decide) ?_
  refine va_put (D := D) (ci := 4) (v := .int (0 : Int32)) (ty := .int) (C := "OpenDealModel") (T := T_M) (N := 32) hx hb hk in_M ty_M tk_M nm_M hown hK hP hD hS 0 am_0 rfl 0 (by decide) (hk _ kw_537) (fun _ h9 => h9) rfl (by decide +kernel) rfl rfl (Nat.le_of_ble_eq_true rfl) dd_M_seat_2 (fun H locs hP hD hS => ?_)
  rw [pt_M0] at hP hD
  refine lv_aload_n hx hb dd_M_seat_5 rfl (lv_at hl 0 rfl) ?_
  refine va_get (D := D) (ci := 4) (v := .int ((ui I0 0 0 (0 : Int32)) 0 3)) (C := "OpenDealModel") (T := T_M) (N := 32) hx hb hk in_M hown hK hP 0 am_0 rfl 3 (by decide) (hk _ kw_540) (fun _ h9 => h9) rfl dd_M_seat_6 ?_
  refine lv_iconst (v := 4) hx hb dd_M_seat_9 (by decide) ?_
  refine lv_icmp_eq (tgt := 31) hx hb dd_M_seat_10 (by decide) (fun hc1 => ?_) (fun hc1 => ?_)
  · have h := ip_out hc1 h
    refine lv_iconst (v := -1) hx hb dd_M_seat_31 (by decide) ?_
    obtain rfl := Option.some.inj h
    exact W.iret hx hb hr (fun t ht hW => ⟨⟨_, (), rfl, rfl, by rw [ht]; exact hP, va_K.moved hW.alike hK, hD⟩, hS.F ht⟩) hS.2.2 dd_M_seat_32
  · have h := in_out hc1 h
    refine lv_aload_n hx hb dd_M_seat_13 rfl (lv_at hl 0 rfl) ?_
    refine va_get (D := D) (ci := 4) (v := .int ((ui I0 0 0 (0 : Int32)) 0 4)) (C := "OpenDealModel") (T := T_M) (N := 32) hx hb hk in_M hown hK hP 0 am_0 rfl 4 (by decide) (hk _ kw_541) (fun _ h9 => h9) rfl dd_M_seat_14 ?_
    refine lv_if_ne (tgt := 31) hx hb dd_M_seat_17 (by decide) (fun hc2 => ?_) (fun hc2 => ?_)
    · have h := in_out hc2 h
      refine lv_iconst (v := -1) hx hb dd_M_seat_31 (by decide) ?_
      obtain rfl := Option.some.inj h
      exact W.iret hx hb hr (fun t ht hW => ⟨⟨_, (), rfl, rfl, by rw [ht]; exact hP, va_K.moved hW.alike hK, hD⟩, hS.F ht⟩) hS.2.2 dd_M_seat_32
    · have h := ip_out hc2 h
      refine lv_iload_n hx hb dd_M_seat_20 rfl (lv_at hl 1 rfl) ?_
      refine lv_iconst (v := 1) hx hb dd_M_seat_21 (by decide) ?_
      refine lv_icmp_lt (tgt := 31) hx hb dd_M_seat_22 (by decide) (fun hc3 => ?_) (fun hc3 => ?_)
      · have h := ip_out hc3 h
        refine lv_iconst (v := -1) hx hb dd_M_seat_31 (by decide) ?_
        obtain rfl := Option.some.inj h
        exact W.iret hx hb hr (fun t ht hW => ⟨⟨_, (), rfl, rfl, by rw [ht]; exact hP, va_K.moved hW.alike hK, hD⟩, hS.F ht⟩) hS.2.2 dd_M_seat_32
      · have h := in_out hc3 h
        refine lv_iload_n hx hb dd_M_seat_25 rfl (lv_at hl 1 rfl) ?_
        refine lv_ldc (v := 100000) hx hb hown (hk _ kw_655) dd_M_seat_26 ?_
        refine lv_icmp_le (tgt := 33) hx hb dd_M_seat_28 (by decide) (fun hc4 => ?_) (fun hc4 => ?_)
        · have h := ip_out hc4 h
          refine lv_aload_n hx hb dd_M_seat_33 rfl (lv_at hl 0 rfl) ?_
          refine va_get (D := D) (ci := 4) (v := .ref (ad 1)) (C := "OpenDealModel") (T := T_M) (N := 32) hx hb hk in_M hown hK hP 0 am_0 rfl 5 (by decide) (hk _ kw_542) (fun _ h9 => h9) rfl dd_M_seat_34 ?_
          refine lv_aload_n hx hb dd_M_seat_37 rfl (lv_at hl 0 rfl) ?_
          refine va_get (D := D) (ci := 4) (v := .int ((ui I0 0 0 (0 : Int32)) 0 3)) (C := "OpenDealModel") (T := T_M) (N := 32) hx hb hk in_M hown hK hP 0 am_0 rfl 3 (by decide) (hk _ kw_540) (fun _ h9 => h9) rfl dd_M_seat_38 ?_
          refine lv_iload_n hx hb dd_M_seat_41 rfl (lv_at hl 1 rfl) ?_
          obtain ⟨hi5, h⟩ := oi_out h
          refine va_iast hx hb hK hP hD hS 1 0 am_1 rfl (x := a1) hi5 dd_M_seat_42 (fun H locs hP hD hS => ?_)
          rw [pm_1] at hP hD
          refine lv_aload_n hx hb dd_M_seat_43 rfl (lv_at hl 0 rfl) ?_
          refine va_get (D := D) (ci := 4) (v := .ref (ad 21)) (C := "OpenDealModel") (T := T_M) (N := 32) hx hb hk in_M hown hK hP 0 am_0 rfl 27 (by decide) (hk _ kw_564) (fun _ h9 => h9) rfl dd_M_seat_44 ?_
          refine lv_aload_n hx hb dd_M_seat_47 rfl (lv_at hl 0 rfl) ?_
          refine va_get (D := D) (ci := 4) (v := .int ((ui (ui I0 0 0 (0 : Int32)) 1 ((ui I0 0 0 (0 : Int32)) 0 3).toNatClampNeg a1) 0 3)) (C := "OpenDealModel") (T := T_M) (N := 32) hx hb hk in_M hown hK hP 0 am_0 rfl 3 (by decide) (hk _ kw_540) (fun _ h9 => h9) rfl dd_M_seat_48 ?_
          refine lv_iconst (v := 0) hx hb dd_M_seat_51 (by decide) ?_
          obtain ⟨hi6, h⟩ := oi_out h
          refine va_iast hx hb hK hP hD hS 21 0 am_21 rfl (x := (0 : Int32)) hi6 dd_M_seat_52 (fun H locs hP hD hS => ?_)
          rw [pm_21] at hP hD
          refine lv_aload_n hx hb dd_M_seat_53 rfl (lv_at hl 0 rfl) ?_
          refine lv_dup hx hb dd_M_seat_54 rfl ?_
          refine va_get (D := D) (ci := 4) (v := .int ((ui (ui (ui I0 0 0 (0 : Int32)) 1 ((ui I0 0 0 (0 : Int32)) 0 3).toNatClampNeg a1) 21 ((ui (ui I0 0 0 (0 : Int32)) 1 ((ui I0 0 0 (0 : Int32)) 0 3).toNatClampNeg a1) 0 3).toNatClampNeg (0 : Int32)) 0 3)) (C := "OpenDealModel") (T := T_M) (N := 32) hx hb hk in_M hown hK hP 0 am_0 rfl 3 (by decide) (hk _ kw_540) (fun _ h9 => h9) rfl dd_M_seat_55 ?_
          refine lv_iconst (v := 1) hx hb dd_M_seat_58 (by decide) ?_
          refine lv_iadd hx hb dd_M_seat_59 ?_
          refine va_put (D := D) (ci := 4) (v := .int (((ui (ui (ui I0 0 0 (0 : Int32)) 1 ((ui I0 0 0 (0 : Int32)) 0 3).toNatClampNeg a1) 21 ((ui (ui I0 0 0 (0 : Int32)) 1 ((ui I0 0 0 (0 : Int32)) 0 3).toNatClampNeg a1) 0 3).toNatClampNeg (0 : Int32)) 0 3) + (1 : Int32))) (ty := .int) (C := "OpenDealModel") (T := T_M) (N := 32) hx hb hk in_M ty_M tk_M nm_M hown hK hP hD hS 0 am_0 rfl 3 (by decide) (hk _ kw_540) (fun _ h9 => h9) rfl (by decide +kernel) rfl rfl (Nat.le_of_ble_eq_true rfl) dd_M_seat_60 (fun H locs hP hD hS => ?_)
          rw [pt_M3] at hP hD
          refine lv_aload_n hx hb dd_M_seat_63 rfl (lv_at hl 0 rfl) ?_
          refine va_get (D := D) (ci := 4) (v := .int ((ui (ui (ui (ui I0 0 0 (0 : Int32)) 1 ((ui I0 0 0 (0 : Int32)) 0 3).toNatClampNeg a1) 21 ((ui (ui I0 0 0 (0 : Int32)) 1 ((ui I0 0 0 (0 : Int32)) 0 3).toNatClampNeg a1) 0 3).toNatClampNeg (0 : Int32)) 0 3 (((ui (ui (ui I0 0 0 (0 : Int32)) 1 ((ui I0 0 0 (0 : Int32)) 0 3).toNatClampNeg a1) 21 ((ui (ui I0 0 0 (0 : Int32)) 1 ((ui I0 0 0 (0 : Int32)) 0 3).toNatClampNeg a1) 0 3).toNatClampNeg (0 : Int32)) 0 3) + (1 : Int32))) 0 3)) (C := "OpenDealModel") (T := T_M) (N := 32) hx hb hk in_M hown hK hP 0 am_0 rfl 3 (by decide) (hk _ kw_540) (fun _ h9 => h9) rfl dd_M_seat_64 ?_
          refine lv_iconst (v := 1) hx hb dd_M_seat_67 (by decide) ?_
          refine lv_isub hx hb dd_M_seat_68 ?_
          obtain rfl := Option.some.inj h
          exact W.iret hx hb hr (fun t ht hW => ⟨⟨_, (), rfl, rfl, by rw [ht]; exact hP, va_K.moved hW.alike hK, hD⟩, hS.F ht⟩) hS.2.2 dd_M_seat_69
        · have h := in_out hc4 h
          refine lv_iconst (v := -1) hx hb dd_M_seat_31 (by decide) ?_
          obtain rfl := Option.some.inj h
          exact W.iret hx hb hr (fun t ht hW => ⟨⟨_, (), rfl, rfl, by rw [ht]; exact hP, va_K.moved hW.alike hK, hD⟩, hS.F ht⟩) hS.2.2 dd_M_seat_32
def ff_M_isPlayer (n : Nat) (I : MI) (J : MJ) (a1 : Int32) : Option (Int32) := if a1 < 0 then (some (0 : Int32)) else (if (I 0 3) ≤ a1 then (some (0 : Int32)) else (some (1 : Int32)))
set_option maxHeartbeats 4000000 in
set_option maxRecDepth 100000 in
theorem mm_M_isPlayer (l : Launch) (D : va_G) (kc : Nat → ClassId) (ad : Nat → Nat) (I : MI) (J : MJ) (n : Nat) (a1 : Int32) (r : Int32) (h : ff_M_isPlayer n I J a1 = some r) : Met l yy_M_isPlayer (.code yy_M_isPlayer cc_M_isPlayer 2 (some .boolean) :: kw) { frames := 0, cells := 0, slots := 0, locals := 0 } (va_Pc [.ref (ad 0), .int a1] (BR D kc (wM kc ad I J))) (vp_Si (fun z => z = r)) 0 0 (fun _ => False) := by
  refine Met.ofW (cc := cc_M_isPlayer) (maxL := 2) (ret := some .boolean) (by decide) rfl ?_
  intro p e s m args below meth c s₁ B hml hv
  obtain ⟨rfl, hP, hK⟩ := hv
  have hx := B.exec
  have hb := B.bytes
  have hr := B.returns
  have hlocks := B.notSynchronized
  have hk : ∀ w ∈ kw, w.before _ s = true := fun w hw => atoms_spec (ws := (.code yy_M_isPlayer cc_M_isPlayer 2 (some .boolean) :: kw)) B.pre w (List.mem_cons_of_mem _ hw)
  have hown : s.vm.findClass "OpenDealModel" = some m.cls := findClass_of_methodNamed B.named
  have hl := lv_entry ([.ref (ad 0), .int a1]) (n := 2) (Nat.le_of_ble_eq_true rfl)
  rw [lg_entry_eq]
  generalize (lg_sl ([.ref (ad 0), .int a1]) ++ List.replicate (2 - (lg_sl ([.ref (ad 0), .int a1])).length) Slot.unset).toArray = ls at hl ⊢
  have hl : lv_has ls 2 [(0, .ref (ad 0)), (1, .int a1)] := hl
  unfold ff_M_isPlayer at h
  refine lv_iload_n hx hb dd_M_isPlayer_0 rfl (lv_at hl 1 rfl) ?_
  refine lv_if_lt (tgt := 16) hx hb dd_M_isPlayer_1 (by decide) (fun hc1 => ?_) (fun hc1 => ?_)
  · have h := ip_out hc1 h
    refine lv_iconst (v := 0) hx hb dd_M_isPlayer_16 (by decide) ?_
    obtain rfl := Option.some.inj h
    exact W.zret hx hb hr rfl (fun t ht hW => ⟨_, rfl, rfl, ht⟩) (fun q hq => by cases hq) dd_M_isPlayer_17
  · have h := in_out hc1 h
    refine lv_iload_n hx hb dd_M_isPlayer_4 rfl (lv_at hl 1 rfl) ?_
    refine lv_aload_n hx hb dd_M_isPlayer_5 rfl (lv_at hl 0 rfl) ?_
    refine va_get (D := D) (ci := 4) (v := .int (I 0 3)) (C := "OpenDealModel") (T := T_M) (N := 32) hx hb hk in_M hown hK hP 0 am_0 rfl 3 (by decide) (hk _ kw_540) (fun _ h9 => h9) rfl dd_M_isPlayer_6 ?_
    refine lv_icmp_ge (tgt := 16) hx hb dd_M_isPlayer_9 (by decide) (fun hc2 => ?_) (fun hc2 => ?_)
    · have h := ip_out hc2 h
      refine lv_iconst (v := 0) hx hb dd_M_isPlayer_16 (by decide) ?_
      obtain rfl := Option.some.inj h
      exact W.zret hx hb hr rfl (fun t ht hW => ⟨_, rfl, rfl, ht⟩) (fun q hq => by cases hq) dd_M_isPlayer_17
    · have h := in_out hc2 h
      refine lv_iconst (v := 1) hx hb dd_M_isPlayer_12 (by decide) ?_
      refine lv_goto (tgt := 17) hx hb dd_M_isPlayer_13 (by decide) ?_
      obtain rfl := Option.some.inj h
      exact W.zret hx hb hr rfl (fun t ht hW => ⟨_, rfl, rfl, ht⟩) (fun q hq => by cases hq) dd_M_isPlayer_17
def ff_M_deal_209  : Nat → MI → MJ → Int32 → Int32 → Option (Int32 × MI × MJ)
  | 0, _, _, _, _ => none
  | n + 1, I, J, v1, v2 => if (208 : Int32) ≤ v2 then (some ((1 : Int32), I, J)) else (if ¬ (v2 < 0 ∨ 208 ≤ (v2).toNatClampNeg) then ff_M_deal_209 n (ui I 19 (v2).toNatClampNeg (0 : Int32)) J v1 (v2 + (1 : Int32)) else none)
def ff_M_deal_187  : Nat → MI → MJ → Int32 → Int32 → Option (Int32 × MI × MJ)
  | 0, _, _, _, _ => none
  | n + 1, I, J, v1, v2 => if (52 : Int32) ≤ v2 then (ff_M_deal_209 n I J v1 (0 : Int32)) else (if ¬ (v2 < 0 ∨ 52 ≤ (v2).toNatClampNeg) then ff_M_deal_187 n (ui I 18 (v2).toNatClampNeg (-2 : Int32)) J v1 (v2 + (1 : Int32)) else none)
def ff_M_deal_104  : Nat → MI → MJ → Int32 → Int32 → Option (Int32 × MI × MJ)
  | 0, _, _, _, _ => none
  | n + 1, I, J, v1, v2 => if (4 : Int32) ≤ v2 then (ff_M_deal_187 n I J v1 (0 : Int32)) else (if ¬ (v2 < 0 ∨ 4 ≤ (v2).toNatClampNeg) then if ¬ (v2 < 0 ∨ 4 ≤ (v2).toNatClampNeg) then if ¬ (v2 < 0 ∨ 4 ≤ (v2).toNatClampNeg) then if ¬ (v2 < 0 ∨ 4 ≤ (v2).toNatClampNeg) then if ¬ (v2 < 0 ∨ 4 ≤ (v2).toNatClampNeg) then if ¬ (v2 < 0 ∨ 4 ≤ (v2).toNatClampNeg) then if ¬ (v2 < 0 ∨ 4 ≤ (v2).toNatClampNeg) then if ¬ (v2 < 0 ∨ 4 ≤ (v2).toNatClampNeg) then if ¬ (v2 < 0 ∨ 4 ≤ (v2).toNatClampNeg) then if ¬ (v2 < 0 ∨ 4 ≤ (v2).toNatClampNeg) then ff_M_deal_104 n (ui (ui (ui (ui (ui (ui (ui I 2 (v2).toNatClampNeg (0 : Int32)) 7 (v2).toNatClampNeg (0 : Int32)) 13 (v2).toNatClampNeg (0 : Int32)) 14 (v2).toNatClampNeg (0 : Int32)) 20 (v2).toNatClampNeg (1 : Int32)) 21 (v2).toNatClampNeg (0 : Int32)) 22 (v2).toNatClampNeg (0 : Int32)) (uj (uj (uj J 10 (v2).toNatClampNeg (0 : Int64)) 11 (v2).toNatClampNeg (0 : Int64)) 12 (v2).toNatClampNeg (0 : Int64)) v1 (v2 + (1 : Int32)) else none else none else none else none else none else none else none else none else none else none)
def ff_M_deal_44  : Nat → MI → MJ → Int32 → Int32 → Option (Int32 × MI × MJ)
  | 0, _, _, _, _ => none
  | n + 1, I, J, v1, v2 => if (I 0 3) ≤ v2 then (if v1 = 0 then (some ((0 : Int32), I, J)) else ((ff_M_beginDeck n (ui I 0 4 (1 : Int32)) J ).bind fun r18 => ff_M_deal_104 n (ui (ui r18.1 0 30 (0 : Int32)) 0 31 (-1 : Int32)) r18.2 v1 (0 : Int32))) else (if v1 = 0 then (ff_M_deal_44 n I J (0 : Int32) (v2 + (1 : Int32))) else (if ¬ (v2 < 0 ∨ 4 ≤ (v2).toNatClampNeg) then if (I 1 (v2).toNatClampNeg) ≤ 0 then (ff_M_deal_44 n I J (0 : Int32) (v2 + (1 : Int32))) else (ff_M_deal_44 n I J (1 : Int32) (v2 + (1 : Int32))) else none))
def ff_M_deal (n : Nat) (I : MI) (J : MJ)  : Option (Int32 × MI × MJ) := if ((ui I 0 0 (0 : Int32)) 0 1) = 0 then (ff_M_deal_44 n (ui I 0 0 (0 : Int32)) J (0 : Int32) (0 : Int32)) else (if ((ui I 0 0 (0 : Int32)) 0 3) ≤ (1 : Int32) then (ff_M_deal_44 n (ui I 0 0 (0 : Int32)) J (0 : Int32) (0 : Int32)) else (if ((ui I 0 0 (0 : Int32)) 0 4) = 0 then (ff_M_deal_44 n (ui I 0 0 (0 : Int32)) J (1 : Int32) (0 : Int32)) else (if ((ui I 0 0 (0 : Int32)) 0 4) = (6 : Int32) then (ff_M_deal_44 n (ui I 0 0 (0 : Int32)) J (1 : Int32) (0 : Int32)) else (ff_M_deal_44 n (ui I 0 0 (0 : Int32)) J (0 : Int32) (0 : Int32)))))
set_option maxHeartbeats 4000000 in
set_option maxRecDepth 100000 in
theorem mm_M_deal (l : Launch) (D : va_G) (kc : Nat → ClassId) (ad : Nat → Nat) (I0 : MI) (J0 : MJ) (sz n : Nat)  (r : Int32 × MI × MJ) (h : ff_M_deal n I0 J0  = some r) : Met l yy_M_deal (.code yy_M_deal cc_M_deal 3 (some .boolean) :: kw) { frames := 1, cells := 0, slots := 0, locals := 21 } (va_Pc [.ref (ad 0)] (BW D kc (wM kc ad I0 J0) sz)) (va_Qi (fun z (_ : Unit) => z = r.1) (EW D kc (va_A (wM kc ad I0 J0) sz) (wM kc ad r.2.1 r.2.2)) (va_A (wM kc ad I0 J0) sz)) 0 0 (va_A (wM kc ad I0 J0) sz) := by
  refine Met.ofW (cc := cc_M_deal) (maxL := 3) (ret := some .boolean) (by decide) rfl ?_
  intro p e s m args below meth c s₁ B hml hv
  obtain ⟨rfl, hsz, hP, hK, hD0⟩ := hv
  have hx := B.exec
  have hb := B.bytes
  have hr := B.returns
  have hlocks := B.notSynchronized
  have hk : ∀ w ∈ kw, w.before _ s = true := fun w hw => atoms_spec (ws := (.code yy_M_deal cc_M_deal 3 (some .boolean) :: kw)) B.pre w (List.mem_cons_of_mem _ hw)
  have hown : s.vm.findClass "OpenDealModel" = some m.cls := findClass_of_methodNamed B.named
  subst hsz
  have hD := hD0.self (sz := s.heap.size)
  generalize hAe : va_A (wM kc ad I0 J0) s.heap.size = A at hD ⊢
  have hA : ∀ q : Nat, s.heap.size ≤ q → A q := fun q h => by rw [← hAe]; exact Or.inr h
  have hS : va_S A s.heap s.heap [] := va_S.rf
  have hP : va_P D cls5 (wM kc ad I0 J0) s.heap := hP
  clear hAe hD0
  have L209 : ∀  (n : Nat) (I : MI) (J : MJ) (v1 : Int32) (v2 : Int32), ff_M_deal_209 n I J v1 v2 = some r → ∀ (H : Heap) (locs : List Loc), va_P D cls5 (wM kc ad I J) H → va_D A (wM kc ad I J) → va_S A s.heap H locs → ∀ ls, lv_has ls 3 [(0, .ref (ad 0)), (1, .int v1), (2, .int v2)] → W p l e (headSpec (.code yy_M_deal cc_M_deal 3 (some .boolean) :: kw) { frames := 1, cells := 0, slots := 0, locals := 21 }).room s m ([.ref (ad 0)] : List Value).toArray below meth c H locs 0 0 (MQ below (va_Qi (fun z (_ : Unit) => z = r.1) (EW D kc A (wM kc ad r.2.1 r.2.2)) A) ([.ref (ad 0)] : List Value).toArray s 0 0 A) (F0 m 209 ls []) := by
    intro  n
    induction n with
    | zero => intro I J v1 v2 h; exact absurd h (by simp [ff_M_deal_209])
    | succ n ih =>
      intro I J v1 v2 h H locs hP hD hS ls hl
      rw [ff_M_deal_209] at h
      refine lv_iload_n hx hb dd_M_deal_209 rfl (lv_at hl 2 rfl) ?_
      refine lv_sipush (v := 208) hx hb dd_M_deal_210 (by decide) ?_
      refine lv_icmp_ge (tgt := 229) hx hb dd_M_deal_213 (by decide) (fun hc1 => ?_) (fun hc1 => ?_)
      · have h := ip_out hc1 h
        refine lv_iconst (v := 1) hx hb dd_M_deal_229 (by decide) ?_
        obtain rfl := Option.some.inj h
        exact W.zret hx hb hr rfl (fun t ht hW => ⟨⟨_, (), rfl, rfl, by rw [ht]; exact hP, va_K.moved hW.alike hK, hD⟩, hS.F ht⟩) hS.2.2 dd_M_deal_230
      · have h := in_out hc1 h
        refine lv_aload_n hx hb dd_M_deal_216 rfl (lv_at hl 0 rfl) ?_
        refine va_get (D := D) (ci := 4) (v := .ref (ad 19)) (C := "OpenDealModel") (T := T_M) (N := 32) hx hb hk in_M hown hK hP 0 am_0 rfl 24 (by decide) (hk _ kw_561) (fun _ h9 => h9) rfl dd_M_deal_217 ?_
        refine lv_iload_n hx hb dd_M_deal_220 rfl (lv_at hl 2 rfl) ?_
        refine lv_iconst (v := 0) hx hb dd_M_deal_221 (by decide) ?_
        obtain ⟨hi2, h⟩ := oi_out h
        refine va_iast hx hb hK hP hD hS 19 0 am_19 rfl (x := (0 : Int32)) hi2 dd_M_deal_222 (fun H locs hP hD hS => ?_)
        rw [pm_19] at hP hD
        refine lv_iinc (v := v2 + (1 : Int32)) (lv' := [(2, .int (v2 + (1 : Int32))), (0, .ref (ad 0)), (1, .int v1)]) hx hb dd_M_deal_223 hl (k := 2) rfl rfl (by decide) rfl (fun ls hl => ?_)
        refine lv_goto (tgt := 209) hx hb dd_M_deal_226 (by decide) ?_
        exact ih _ _ _ _ h _ _ hP hD hS _ (lv_sub hl [1, 2, 0] rfl)
  have L187 : ∀  (n : Nat) (I : MI) (J : MJ) (v1 : Int32) (v2 : Int32), ff_M_deal_187 n I J v1 v2 = some r → ∀ (H : Heap) (locs : List Loc), va_P D cls5 (wM kc ad I J) H → va_D A (wM kc ad I J) → va_S A s.heap H locs → ∀ ls, lv_has ls 3 [(0, .ref (ad 0)), (1, .int v1), (2, .int v2)] → W p l e (headSpec (.code yy_M_deal cc_M_deal 3 (some .boolean) :: kw) { frames := 1, cells := 0, slots := 0, locals := 21 }).room s m ([.ref (ad 0)] : List Value).toArray below meth c H locs 0 0 (MQ below (va_Qi (fun z (_ : Unit) => z = r.1) (EW D kc A (wM kc ad r.2.1 r.2.2)) A) ([.ref (ad 0)] : List Value).toArray s 0 0 A) (F0 m 187 ls []) := by
    intro  n
    induction n with
    | zero => intro I J v1 v2 h; exact absurd h (by simp [ff_M_deal_187])
    | succ n ih =>
      intro I J v1 v2 h H locs hP hD hS ls hl
      rw [ff_M_deal_187] at h
      refine lv_iload_n hx hb dd_M_deal_187 rfl (lv_at hl 2 rfl) ?_
      refine lv_bipush (v := 52) hx hb dd_M_deal_188 (by decide) ?_
      refine lv_icmp_ge (tgt := 207) hx hb dd_M_deal_190 (by decide) (fun hc3 => ?_) (fun hc3 => ?_)
      · have h := ip_out hc3 h
        refine lv_iconst (v := 0) hx hb dd_M_deal_207 (by decide) ?_
        refine lv_istore_n (lv' := [(2, .int (0 : Int32)), (0, .ref (ad 0)), (1, .int v1)]) hx hb dd_M_deal_208 rfl hl (by decide) rfl (fun ls hl => ?_)
        exact L209  _ _ _ _ _ h _ _ hP hD hS _ (lv_sub hl [1, 2, 0] rfl)
      · have h := in_out hc3 h
        refine lv_aload_n hx hb dd_M_deal_193 rfl (lv_at hl 0 rfl) ?_
        refine va_get (D := D) (ci := 4) (v := .ref (ad 18)) (C := "OpenDealModel") (T := T_M) (N := 32) hx hb hk in_M hown hK hP 0 am_0 rfl 23 (by decide) (hk _ kw_560) (fun _ h9 => h9) rfl dd_M_deal_194 ?_
        refine lv_iload_n hx hb dd_M_deal_197 rfl (lv_at hl 2 rfl) ?_
        refine lv_bipush (v := -2) hx hb dd_M_deal_198 (by decide) ?_
        obtain ⟨hi4, h⟩ := oi_out h
        refine va_iast hx hb hK hP hD hS 18 0 am_18 rfl (x := (-2 : Int32)) hi4 dd_M_deal_200 (fun H locs hP hD hS => ?_)
        rw [pm_18] at hP hD
        refine lv_iinc (v := v2 + (1 : Int32)) (lv' := [(2, .int (v2 + (1 : Int32))), (0, .ref (ad 0)), (1, .int v1)]) hx hb dd_M_deal_201 hl (k := 2) rfl rfl (by decide) rfl (fun ls hl => ?_)
        refine lv_goto (tgt := 187) hx hb dd_M_deal_204 (by decide) ?_
        exact ih _ _ _ _ h _ _ hP hD hS _ (lv_sub hl [1, 2, 0] rfl)
  have L104 : ∀  (n : Nat) (I : MI) (J : MJ) (v1 : Int32) (v2 : Int32), ff_M_deal_104 n I J v1 v2 = some r → ∀ (H : Heap) (locs : List Loc), va_P D cls5 (wM kc ad I J) H → va_D A (wM kc ad I J) → va_S A s.heap H locs → ∀ ls, lv_has ls 3 [(0, .ref (ad 0)), (1, .int v1), (2, .int v2)] → W p l e (headSpec (.code yy_M_deal cc_M_deal 3 (some .boolean) :: kw) { frames := 1, cells := 0, slots := 0, locals := 21 }).room s m ([.ref (ad 0)] : List Value).toArray below meth c H locs 0 0 (MQ below (va_Qi (fun z (_ : Unit) => z = r.1) (EW D kc A (wM kc ad r.2.1 r.2.2)) A) ([.ref (ad 0)] : List Value).toArray s 0 0 A) (F0 m 104 ls []) := by
    intro  n
    induction n with
    | zero => intro I J v1 v2 h; exact absurd h (by simp [ff_M_deal_104])
    | succ n ih =>
      intro I J v1 v2 h H locs hP hD hS ls hl
      rw [ff_M_deal_104] at h
      refine lv_iload_n hx hb dd_M_deal_104 rfl (lv_at hl 2 rfl) ?_
      refine lv_iconst (v := 4) hx hb dd_M_deal_105 (by decide) ?_
      refine lv_icmp_ge (tgt := 185) hx hb dd_M_deal_106 (by decide) (fun hc5 => ?_) (fun hc5 => ?_)
      · have h := ip_out hc5 h
        refine lv_iconst (v := 0) hx hb dd_M_deal_185 (by decide) ?_
        refine lv_istore_n (lv' := [(2, .int (0 : Int32)), (0, .ref (ad 0)), (1, .int v1)]) hx hb dd_M_deal_186 rfl hl (by decide) rfl (fun ls hl => ?_)
        exact L187  _ _ _ _ _ h _ _ hP hD hS _ (lv_sub hl [1, 2, 0] rfl)
      · have h := in_out hc5 h
        refine lv_aload_n hx hb dd_M_deal_109 rfl (lv_at hl 0 rfl) ?_
        refine va_get (D := D) (ci := 4) (v := .ref (ad 2)) (C := "OpenDealModel") (T := T_M) (N := 32) hx hb hk in_M hown hK hP 0 am_0 rfl 6 (by decide) (hk _ kw_543) (fun _ h9 => h9) rfl dd_M_deal_110 ?_
        refine lv_iload_n hx hb dd_M_deal_113 rfl (lv_at hl 2 rfl) ?_
        refine lv_iconst (v := 0) hx hb dd_M_deal_114 (by decide) ?_
        obtain ⟨hi6, h⟩ := oi_out h
        refine va_zast hx hb hK hP hD hS 2 2 am_2 rfl (x := (0 : Int32)) hi6 dd_M_deal_115 (fun H locs hP hD hS => ?_)
        rw [show vp_nar .boolean (0 : Int32) = (0 : Int32) from rfl] at hP hD
        rw [pm_2] at hP hD
        refine lv_aload_n hx hb dd_M_deal_116 rfl (lv_at hl 0 rfl) ?_
        refine va_get (D := D) (ci := 4) (v := .ref (ad 7)) (C := "OpenDealModel") (T := T_M) (N := 32) hx hb hk in_M hown hK hP 0 am_0 rfl 11 (by decide) (hk _ kw_548) (fun _ h9 => h9) rfl dd_M_deal_117 ?_
        refine lv_iload_n hx hb dd_M_deal_120 rfl (lv_at hl 2 rfl) ?_
        refine lv_iconst (v := 0) hx hb dd_M_deal_121 (by decide) ?_
        obtain ⟨hi7, h⟩ := oi_out h
        refine va_zast hx hb hK hP hD hS 7 2 am_7 rfl (x := (0 : Int32)) hi7 dd_M_deal_122 (fun H locs hP hD hS => ?_)
        rw [show vp_nar .boolean (0 : Int32) = (0 : Int32) from rfl] at hP hD
        rw [pm_7] at hP hD
        refine lv_aload_n hx hb dd_M_deal_123 rfl (lv_at hl 0 rfl) ?_
        refine va_get (D := D) (ci := 4) (v := .ref (ad 10)) (C := "OpenDealModel") (T := T_M) (N := 32) hx hb hk in_M hown hK hP 0 am_0 rfl 14 (by decide) (hk _ kw_551) (fun _ h9 => h9) rfl dd_M_deal_124 ?_
        refine lv_iload_n hx hb dd_M_deal_127 rfl (lv_at hl 2 rfl) ?_
        refine lv_lconst (v := 0) hx hb dd_M_deal_128 (by decide) ?_
        obtain ⟨hi8, h⟩ := oi_out h
        refine va_last hx hb hK hP hD hS 10 1 am_10 rfl (x := (0 : Int64)) hi8 dd_M_deal_129 (fun H locs hP hD hS => ?_)
        rw [pm_10] at hP hD
        refine lv_aload_n hx hb dd_M_deal_130 rfl (lv_at hl 0 rfl) ?_
        refine va_get (D := D) (ci := 4) (v := .ref (ad 11)) (C := "OpenDealModel") (T := T_M) (N := 32) hx hb hk in_M hown hK hP 0 am_0 rfl 15 (by decide) (hk _ kw_552) (fun _ h9 => h9) rfl dd_M_deal_131 ?_
        refine lv_iload_n hx hb dd_M_deal_134 rfl (lv_at hl 2 rfl) ?_
        refine lv_lconst (v := 0) hx hb dd_M_deal_135 (by decide) ?_
        obtain ⟨hi9, h⟩ := oi_out h
        refine va_last hx hb hK hP hD hS 11 1 am_11 rfl (x := (0 : Int64)) hi9 dd_M_deal_136 (fun H locs hP hD hS => ?_)
        rw [pm_11] at hP hD
        refine lv_aload_n hx hb dd_M_deal_137 rfl (lv_at hl 0 rfl) ?_
        refine va_get (D := D) (ci := 4) (v := .ref (ad 12)) (C := "OpenDealModel") (T := T_M) (N := 32) hx hb hk in_M hown hK hP 0 am_0 rfl 16 (by decide) (hk _ kw_553) (fun _ h9 => h9) rfl dd_M_deal_138 ?_
        refine lv_iload_n hx hb dd_M_deal_141 rfl (lv_at hl 2 rfl) ?_
        refine lv_lconst (v := 0) hx hb dd_M_deal_142 (by decide) ?_
        obtain ⟨hi10, h⟩ := oi_out h
        refine va_last hx hb hK hP hD hS 12 1 am_12 rfl (x := (0 : Int64)) hi10 dd_M_deal_143 (fun H locs hP hD hS => ?_)
        rw [pm_12] at hP hD
        refine lv_aload_n hx hb dd_M_deal_144 rfl (lv_at hl 0 rfl) ?_
        refine va_get (D := D) (ci := 4) (v := .ref (ad 13)) (C := "OpenDealModel") (T := T_M) (N := 32) hx hb hk in_M hown hK hP 0 am_0 rfl 17 (by decide) (hk _ kw_554) (fun _ h9 => h9) rfl dd_M_deal_145 ?_
        refine lv_iload_n hx hb dd_M_deal_148 rfl (lv_at hl 2 rfl) ?_
        refine lv_iconst (v := 0) hx hb dd_M_deal_149 (by decide) ?_
        obtain ⟨hi11, h⟩ := oi_out h
        refine va_zast hx hb hK hP hD hS 13 2 am_13 rfl (x := (0 : Int32)) hi11 dd_M_deal_150 (fun H locs hP hD hS => ?_)
        rw [show vp_nar .boolean (0 : Int32) = (0 : Int32) from rfl] at hP hD
        rw [pm_13] at hP hD
        refine lv_aload_n hx hb dd_M_deal_151 rfl (lv_at hl 0 rfl) ?_
        refine va_get (D := D) (ci := 4) (v := .ref (ad 14)) (C := "OpenDealModel") (T := T_M) (N := 32) hx hb hk in_M hown hK hP 0 am_0 rfl 18 (by decide) (hk _ kw_555) (fun _ h9 => h9) rfl dd_M_deal_152 ?_
        refine lv_iload_n hx hb dd_M_deal_155 rfl (lv_at hl 2 rfl) ?_
        refine lv_iconst (v := 0) hx hb dd_M_deal_156 (by decide) ?_
        obtain ⟨hi12, h⟩ := oi_out h
        refine va_zast hx hb hK hP hD hS 14 2 am_14 rfl (x := (0 : Int32)) hi12 dd_M_deal_157 (fun H locs hP hD hS => ?_)
        rw [show vp_nar .boolean (0 : Int32) = (0 : Int32) from rfl] at hP hD
        rw [pm_14] at hP hD
        refine lv_aload_n hx hb dd_M_deal_158 rfl (lv_at hl 0 rfl) ?_
        refine va_get (D := D) (ci := 4) (v := .ref (ad 20)) (C := "OpenDealModel") (T := T_M) (N := 32) hx hb hk in_M hown hK hP 0 am_0 rfl 26 (by decide) (hk _ kw_563) (fun _ h9 => h9) rfl dd_M_deal_159 ?_
        refine lv_iload_n hx hb dd_M_deal_162 rfl (lv_at hl 2 rfl) ?_
        refine lv_iconst (v := 1) hx hb dd_M_deal_163 (by decide) ?_
        obtain ⟨hi13, h⟩ := oi_out h
        refine va_zast hx hb hK hP hD hS 20 2 am_20 rfl (x := (1 : Int32)) hi13 dd_M_deal_164 (fun H locs hP hD hS => ?_)
        rw [show vp_nar .boolean (1 : Int32) = (1 : Int32) from rfl] at hP hD
        rw [pm_20] at hP hD
        refine lv_aload_n hx hb dd_M_deal_165 rfl (lv_at hl 0 rfl) ?_
        refine va_get (D := D) (ci := 4) (v := .ref (ad 21)) (C := "OpenDealModel") (T := T_M) (N := 32) hx hb hk in_M hown hK hP 0 am_0 rfl 27 (by decide) (hk _ kw_564) (fun _ h9 => h9) rfl dd_M_deal_166 ?_
        refine lv_iload_n hx hb dd_M_deal_169 rfl (lv_at hl 2 rfl) ?_
        refine lv_iconst (v := 0) hx hb dd_M_deal_170 (by decide) ?_
        obtain ⟨hi14, h⟩ := oi_out h
        refine va_iast hx hb hK hP hD hS 21 0 am_21 rfl (x := (0 : Int32)) hi14 dd_M_deal_171 (fun H locs hP hD hS => ?_)
        rw [pm_21] at hP hD
        refine lv_aload_n hx hb dd_M_deal_172 rfl (lv_at hl 0 rfl) ?_
        refine va_get (D := D) (ci := 4) (v := .ref (ad 22)) (C := "OpenDealModel") (T := T_M) (N := 32) hx hb hk in_M hown hK hP 0 am_0 rfl 28 (by decide) (hk _ kw_565) (fun _ h9 => h9) rfl dd_M_deal_173 ?_
        refine lv_iload_n hx hb dd_M_deal_176 rfl (lv_at hl 2 rfl) ?_
        refine lv_iconst (v := 0) hx hb dd_M_deal_177 (by decide) ?_
        obtain ⟨hi15, h⟩ := oi_out h
        refine va_iast hx hb hK hP hD hS 22 0 am_22 rfl (x := (0 : Int32)) hi15 dd_M_deal_178 (fun H locs hP hD hS => ?_)
        rw [pm_22] at hP hD
        refine lv_iinc (v := v2 + (1 : Int32)) (lv' := [(2, .int (v2 + (1 : Int32))), (0, .ref (ad 0)), (1, .int v1)]) hx hb dd_M_deal_179 hl (k := 2) rfl rfl (by decide) rfl (fun ls hl => ?_)
        refine lv_goto (tgt := 104) hx hb dd_M_deal_182 (by decide) ?_
        exact ih _ _ _ _ h _ _ hP hD hS _ (lv_sub hl [1, 2, 0] rfl)
  have L44 : ∀  (n : Nat) (I : MI) (J : MJ) (v1 : Int32) (v2 : Int32), ff_M_deal_44 n I J v1 v2 = some r → ∀ (H : Heap) (locs : List Loc), va_P D cls5 (wM kc ad I J) H → va_D A (wM kc ad I J) → va_S A s.heap H locs → ∀ ls, lv_has ls 3 [(0, .ref (ad 0)), (1, .int v1), (2, .int v2)] → W p l e (headSpec (.code yy_M_deal cc_M_deal 3 (some .boolean) :: kw) { frames := 1, cells := 0, slots := 0, locals := 21 }).room s m ([.ref (ad 0)] : List Value).toArray below meth c H locs 0 0 (MQ below (va_Qi (fun z (_ : Unit) => z = r.1) (EW D kc A (wM kc ad r.2.1 r.2.2)) A) ([.ref (ad 0)] : List Value).toArray s 0 0 A) (F0 m 44 ls []) := by
    intro  n
    induction n with
    | zero => intro I J v1 v2 h; exact absurd h (by simp [ff_M_deal_44])
    | succ n ih =>
      intro I J v1 v2 h H locs hP hD hS ls hl
      rw [ff_M_deal_44] at h
      refine lv_iload_n hx hb dd_M_deal_44 rfl (lv_at hl 2 rfl) ?_
      refine lv_aload_n hx hb dd_M_deal_45 rfl (lv_at hl 0 rfl) ?_
      refine va_get (D := D) (ci := 4) (v := .int (I 0 3)) (C := "OpenDealModel") (T := T_M) (N := 32) hx hb hk in_M hown hK hP 0 am_0 rfl 3 (by decide) (hk _ kw_540) (fun _ h9 => h9) rfl dd_M_deal_46 ?_
      refine lv_icmp_ge (tgt := 77) hx hb dd_M_deal_49 (by decide) (fun hc16 => ?_) (fun hc16 => ?_)
      · have h := ip_out hc16 h
        refine lv_iload_n hx hb dd_M_deal_77 rfl (lv_at hl 1 rfl) ?_
        refine lv_if_ne (tgt := 83) hx hb dd_M_deal_78 (by decide) (fun hc17 => ?_) (fun hc17 => ?_)
        · have h := in_out hc17 h
          refine lv_aload_n hx hb dd_M_deal_83 rfl (lv_at hl 0 rfl) ?_
          refine lv_iconst (v := 1) hx hb dd_M_deal_84 (by decide) ?_
          refine va_put (D := D) (ci := 4) (v := .int (1 : Int32)) (ty := .int) (C := "OpenDealModel") (T := T_M) (N := 32) hx hb hk in_M ty_M tk_M nm_M hown hK hP hD hS 0 am_0 rfl 4 (by decide) (hk _ kw_541) (fun _ h9 => h9) rfl (by decide +kernel) rfl rfl (Nat.le_of_ble_eq_true rfl) dd_M_deal_85 (fun H locs hP hD hS => ?_)
          rw [pt_M4] at hP hD
          refine lv_aload_n hx hb dd_M_deal_88 rfl (lv_at hl 0 rfl) ?_
          obtain ⟨r18, hr18, h⟩ := ob_out h
          refine cw_Vv (n := 0) (As := []) (mc := 0) (ms := 0) hx hb hml hown hk (mm_M_beginDeck l D kc ad _ _ _ _  _ hr18) hK hP hD hS hA 0 am_0 rfl rfl kw_643 kw_645 sel_M_beginDeck kw_4 kw_646 ⟨rfl, rfl⟩ (by decide +kernel) ⟨Nat.le_of_ble_eq_true rfl, Nat.le_of_ble_eq_true rfl⟩ rfl hl.1 rfl (Nat.le_of_ble_eq_true rfl) dd_M_deal_89 ⟨Nat.le_of_ble_eq_true rfl, Nat.le_of_ble_eq_true rfl⟩ (fun H locs hP hD hS => ?_)
          refine lv_aload_n hx hb dd_M_deal_92 rfl (lv_at hl 0 rfl) ?_
          refine lv_iconst (v := 0) hx hb dd_M_deal_93 (by decide) ?_
          refine va_put (D := D) (ci := 4) (v := .int (0 : Int32)) (ty := .boolean) (C := "OpenDealModel") (T := T_M) (N := 32) hx hb hk in_M ty_M tk_M nm_M hown hK hP hD hS 0 am_0 rfl 30 (by decide) (hk _ kw_567) (fun _ h9 => h9) rfl (by decide +kernel) rfl rfl (Nat.le_of_ble_eq_true rfl) dd_M_deal_94 (fun H locs hP hD hS => ?_)
          rw [pt_M30] at hP hD
          refine lv_aload_n hx hb dd_M_deal_97 rfl (lv_at hl 0 rfl) ?_
          refine lv_iconst (v := -1) hx hb dd_M_deal_98 (by decide) ?_
          refine va_put (D := D) (ci := 4) (v := .int (-1 : Int32)) (ty := .int) (C := "OpenDealModel") (T := T_M) (N := 32) hx hb hk in_M ty_M tk_M nm_M hown hK hP hD hS 0 am_0 rfl 31 (by decide) (hk _ kw_568) (fun _ h9 => h9) rfl (by decide +kernel) rfl rfl (Nat.le_of_ble_eq_true rfl) dd_M_deal_99 (fun H locs hP hD hS => ?_)
          rw [pt_M31] at hP hD
          refine lv_iconst (v := 0) hx hb dd_M_deal_102 (by decide) ?_
          refine lv_istore_n (lv' := [(2, .int (0 : Int32)), (0, .ref (ad 0)), (1, .int v1)]) hx hb dd_M_deal_103 rfl hl (by decide) rfl (fun ls hl => ?_)
          exact L104  _ _ _ _ _ h _ _ hP hD hS _ (lv_sub hl [1, 2, 0] rfl)
        · have h := ip_out hc17 h
          refine lv_iconst (v := 0) hx hb dd_M_deal_81 (by decide) ?_
          obtain rfl := Option.some.inj h
          exact W.zret hx hb hr rfl (fun t ht hW => ⟨⟨_, (), rfl, rfl, by rw [ht]; exact hP, va_K.moved hW.alike hK, hD⟩, hS.F ht⟩) hS.2.2 dd_M_deal_82
      · have h := in_out hc16 h
        refine lv_iload_n hx hb dd_M_deal_52 rfl (lv_at hl 1 rfl) ?_
        refine lv_if_eq (tgt := 69) hx hb dd_M_deal_53 (by decide) (fun hc19 => ?_) (fun hc19 => ?_)
        · have h := ip_out hc19 h
          refine lv_iconst (v := 0) hx hb dd_M_deal_69 (by decide) ?_
          refine lv_istore_n (lv' := [(1, .int (0 : Int32)), (0, .ref (ad 0)), (2, .int v2)]) hx hb dd_M_deal_70 rfl hl (by decide) rfl (fun ls hl => ?_)
          refine lv_iinc (v := v2 + (1 : Int32)) (lv' := [(2, .int (v2 + (1 : Int32))), (1, .int (0 : Int32)), (0, .ref (ad 0))]) hx hb dd_M_deal_71 hl (k := 2) rfl rfl (by decide) rfl (fun ls hl => ?_)
          refine lv_goto (tgt := 44) hx hb dd_M_deal_74 (by decide) ?_
          exact ih _ _ _ _ h _ _ hP hD hS _ (lv_sub hl [2, 1, 0] rfl)
        · have h := in_out hc19 h
          refine lv_aload_n hx hb dd_M_deal_56 rfl (lv_at hl 0 rfl) ?_
          refine va_get (D := D) (ci := 4) (v := .ref (ad 1)) (C := "OpenDealModel") (T := T_M) (N := 32) hx hb hk in_M hown hK hP 0 am_0 rfl 5 (by decide) (hk _ kw_542) (fun _ h9 => h9) rfl dd_M_deal_57 ?_
          refine lv_iload_n hx hb dd_M_deal_60 rfl (lv_at hl 2 rfl) ?_
          obtain ⟨hi20, h⟩ := oi_out h
          refine va_iald hx hb hK hP 1 0 am_1 rfl hi20 dd_M_deal_61 ?_
          refine lv_if_le (tgt := 69) hx hb dd_M_deal_62 (by decide) (fun hc21 => ?_) (fun hc21 => ?_)
          · have h := ip_out hc21 h
            refine lv_iconst (v := 0) hx hb dd_M_deal_69 (by decide) ?_
            refine lv_istore_n (lv' := [(1, .int (0 : Int32)), (0, .ref (ad 0)), (2, .int v2)]) hx hb dd_M_deal_70 rfl hl (by decide) rfl (fun ls hl => ?_)
            refine lv_iinc (v := v2 + (1 : Int32)) (lv' := [(2, .int (v2 + (1 : Int32))), (1, .int (0 : Int32)), (0, .ref (ad 0))]) hx hb dd_M_deal_71 hl (k := 2) rfl rfl (by decide) rfl (fun ls hl => ?_)
            refine lv_goto (tgt := 44) hx hb dd_M_deal_74 (by decide) ?_
            exact ih _ _ _ _ h _ _ hP hD hS _ (lv_sub hl [2, 1, 0] rfl)
          · have h := in_out hc21 h
            refine lv_iconst (v := 1) hx hb dd_M_deal_65 (by decide) ?_
            refine lv_goto (tgt := 70) hx hb dd_M_deal_66 (by decide) ?_
            refine lv_istore_n (lv' := [(1, .int (1 : Int32)), (0, .ref (ad 0)), (2, .int v2)]) hx hb dd_M_deal_70 rfl hl (by decide) rfl (fun ls hl => ?_)
            refine lv_iinc (v := v2 + (1 : Int32)) (lv' := [(2, .int (v2 + (1 : Int32))), (1, .int (1 : Int32)), (0, .ref (ad 0))]) hx hb dd_M_deal_71 hl (k := 2) rfl rfl (by decide) rfl (fun ls hl => ?_)
            refine lv_goto (tgt := 44) hx hb dd_M_deal_74 (by decide) ?_
            exact ih _ _ _ _ h _ _ hP hD hS _ (lv_sub hl [2, 1, 0] rfl)
  have hl := lv_entry ([.ref (ad 0)]) (n := 3) (Nat.le_of_ble_eq_true rfl)
  rw [lg_entry_eq]
  generalize (lg_sl ([.ref (ad 0)]) ++ List.replicate (3 - (lg_sl ([.ref (ad 0)])).length) Slot.unset).toArray = ls at hl ⊢
  have hl : lv_has ls 3 [(0, .ref (ad 0))] := hl
  unfold ff_M_deal at h
  refine lv_aload_n hx hb dd_M_deal_0 rfl (lv_at hl 0 rfl) ?_
  refine lv_iconst (v := 0) hx hb dd_M_deal_1 (by decide) ?_
  refine va_put (D := D) (ci := 4) (v := .int (0 : Int32)) (ty := .int) (C := "OpenDealModel") (T := T_M) (N := 32) hx hb hk in_M ty_M tk_M nm_M hown hK hP hD hS 0 am_0 rfl 0 (by decide) (hk _ kw_537) (fun _ h9 => h9) rfl (by decide +kernel) rfl rfl (Nat.le_of_ble_eq_true rfl) dd_M_deal_2 (fun H locs hP hD hS => ?_)
  rw [pt_M0] at hP hD
  refine lv_aload_n hx hb dd_M_deal_5 rfl (lv_at hl 0 rfl) ?_
  refine va_get (D := D) (ci := 4) (v := .int ((ui I0 0 0 (0 : Int32)) 0 1)) (C := "OpenDealModel") (T := T_M) (N := 32) hx hb hk in_M hown hK hP 0 am_0 rfl 1 (by decide) (hk _ kw_538) (fun _ h9 => h9) rfl dd_M_deal_6 ?_
  refine lv_if_eq (tgt := 40) hx hb dd_M_deal_9 (by decide) (fun hc22 => ?_) (fun hc22 => ?_)
  · have h := ip_out hc22 h
    refine lv_iconst (v := 0) hx hb dd_M_deal_40 (by decide) ?_
    refine lv_istore_n (lv' := [(1, .int (0 : Int32)), (0, .ref (ad 0))]) hx hb dd_M_deal_41 rfl hl (by decide) rfl (fun ls hl => ?_)
    refine lv_iconst (v := 0) hx hb dd_M_deal_42 (by decide) ?_
    refine lv_istore_n (lv' := [(2, .int (0 : Int32)), (1, .int (0 : Int32)), (0, .ref (ad 0))]) hx hb dd_M_deal_43 rfl hl (by decide) rfl (fun ls hl => ?_)
    exact L44  _ _ _ _ _ h _ _ hP hD hS _ (lv_sub hl [2, 1, 0] rfl)
  · have h := in_out hc22 h
    refine lv_aload_n hx hb dd_M_deal_12 rfl (lv_at hl 0 rfl) ?_
    refine va_get (D := D) (ci := 4) (v := .int ((ui I0 0 0 (0 : Int32)) 0 3)) (C := "OpenDealModel") (T := T_M) (N := 32) hx hb hk in_M hown hK hP 0 am_0 rfl 3 (by decide) (hk _ kw_540) (fun _ h9 => h9) rfl dd_M_deal_13 ?_
    refine lv_iconst (v := 1) hx hb dd_M_deal_16 (by decide) ?_
    refine lv_icmp_le (tgt := 40) hx hb dd_M_deal_17 (by decide) (fun hc23 => ?_) (fun hc23 => ?_)
    · have h := ip_out hc23 h
      refine lv_iconst (v := 0) hx hb dd_M_deal_40 (by decide) ?_
      refine lv_istore_n (lv' := [(1, .int (0 : Int32)), (0, .ref (ad 0))]) hx hb dd_M_deal_41 rfl hl (by decide) rfl (fun ls hl => ?_)
      refine lv_iconst (v := 0) hx hb dd_M_deal_42 (by decide) ?_
      refine lv_istore_n (lv' := [(2, .int (0 : Int32)), (1, .int (0 : Int32)), (0, .ref (ad 0))]) hx hb dd_M_deal_43 rfl hl (by decide) rfl (fun ls hl => ?_)
      exact L44  _ _ _ _ _ h _ _ hP hD hS _ (lv_sub hl [2, 1, 0] rfl)
    · have h := in_out hc23 h
      refine lv_aload_n hx hb dd_M_deal_20 rfl (lv_at hl 0 rfl) ?_
      refine va_get (D := D) (ci := 4) (v := .int ((ui I0 0 0 (0 : Int32)) 0 4)) (C := "OpenDealModel") (T := T_M) (N := 32) hx hb hk in_M hown hK hP 0 am_0 rfl 4 (by decide) (hk _ kw_541) (fun _ h9 => h9) rfl dd_M_deal_21 ?_
      refine lv_if_eq (tgt := 36) hx hb dd_M_deal_24 (by decide) (fun hc24 => ?_) (fun hc24 => ?_)
      · have h := ip_out hc24 h
        refine lv_iconst (v := 1) hx hb dd_M_deal_36 (by decide) ?_
        refine lv_goto (tgt := 41) hx hb dd_M_deal_37 (by decide) ?_
        refine lv_istore_n (lv' := [(1, .int (1 : Int32)), (0, .ref (ad 0))]) hx hb dd_M_deal_41 rfl hl (by decide) rfl (fun ls hl => ?_)
        refine lv_iconst (v := 0) hx hb dd_M_deal_42 (by decide) ?_
        refine lv_istore_n (lv' := [(2, .int (0 : Int32)), (1, .int (1 : Int32)), (0, .ref (ad 0))]) hx hb dd_M_deal_43 rfl hl (by decide) rfl (fun ls hl => ?_)
        exact L44  _ _ _ _ _ h _ _ hP hD hS _ (lv_sub hl [2, 1, 0] rfl)
      · have h := in_out hc24 h
        refine lv_aload_n hx hb dd_M_deal_27 rfl (lv_at hl 0 rfl) ?_
        refine va_get (D := D) (ci := 4) (v := .int ((ui I0 0 0 (0 : Int32)) 0 4)) (C := "OpenDealModel") (T := T_M) (N := 32) hx hb hk in_M hown hK hP 0 am_0 rfl 4 (by decide) (hk _ kw_541) (fun _ h9 => h9) rfl dd_M_deal_28 ?_
        refine lv_bipush (v := 6) hx hb dd_M_deal_31 (by decide) ?_
        refine lv_icmp_ne (tgt := 40) hx hb dd_M_deal_33 (by decide) (fun hc25 => ?_) (fun hc25 => ?_)
        · have h := in_out hc25 h
          refine lv_iconst (v := 0) hx hb dd_M_deal_40 (by decide) ?_
          refine lv_istore_n (lv' := [(1, .int (0 : Int32)), (0, .ref (ad 0))]) hx hb dd_M_deal_41 rfl hl (by decide) rfl (fun ls hl => ?_)
          refine lv_iconst (v := 0) hx hb dd_M_deal_42 (by decide) ?_
          refine lv_istore_n (lv' := [(2, .int (0 : Int32)), (1, .int (0 : Int32)), (0, .ref (ad 0))]) hx hb dd_M_deal_43 rfl hl (by decide) rfl (fun ls hl => ?_)
          exact L44  _ _ _ _ _ h _ _ hP hD hS _ (lv_sub hl [2, 1, 0] rfl)
        · have h := ip_out hc25 h
          refine lv_iconst (v := 1) hx hb dd_M_deal_36 (by decide) ?_
          refine lv_goto (tgt := 41) hx hb dd_M_deal_37 (by decide) ?_
          refine lv_istore_n (lv' := [(1, .int (1 : Int32)), (0, .ref (ad 0))]) hx hb dd_M_deal_41 rfl hl (by decide) rfl (fun ls hl => ?_)
          refine lv_iconst (v := 0) hx hb dd_M_deal_42 (by decide) ?_
          refine lv_istore_n (lv' := [(2, .int (0 : Int32)), (1, .int (1 : Int32)), (0, .ref (ad 0))]) hx hb dd_M_deal_43 rfl hl (by decide) rfl (fun ls hl => ?_)
          exact L44  _ _ _ _ _ h _ _ hP hD hS _ (lv_sub hl [2, 1, 0] rfl)
