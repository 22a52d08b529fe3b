/-! constructors, laid by program -/
set_option maxHeartbeats 8000000 in
set_option maxRecDepth 100000 in
theorem mm_S_init (l : Launch) (D : va_G) (kc : Nat → ClassId) (w : va_W) (b sz : Nat) : Met l yy_S_init (.code yy_S_init cc_S_init 1 (none) :: kw) { frames := 1, cells := 0, slots := 0, locals := 20 } (va_Pc [.ref b] (BW D kc w sz)) (va_Qv (fun (_ : Unit) => True) (EW D kc (va_A w sz) w) (va_A w sz)) 0 0 (va_A w sz) := by
  refine Met.ofW (cc := cc_S_init) (maxL := 1) (ret := none) (by decide) rfl ?_
  intro p e s m args below meth c s₁ B hml hv
  obtain ⟨rfl, hsz, hP, hK, hD0⟩ := hv
  have hx := B.exec
  have hb := B.bytes
  have hr := B.returns
  have hlocks := B.notSynchronized
  have hk : ∀ w ∈ kw, w.before _ s = true := fun w hw => atoms_spec (ws := (.code yy_S_init cc_S_init 1 (none) :: kw)) B.pre w (List.mem_cons_of_mem _ hw)
  have hown : s.vm.findClass "OpenDeal$Secrets" = some m.cls := findClass_of_methodNamed B.named
  have hin : meth.name = "<init>" := (name_of_methodNamed B.named B.method).1
  subst hsz
  have hD := hD0.self (sz := s.heap.size)
  generalize hAe : va_A w s.heap.size = A at hD ⊢
  have hA : ∀ q : Nat, s.heap.size ≤ q → A q := fun q h => by rw [← hAe]; exact Or.inr h
  have hS : va_S A s.heap s.heap [] := va_S.rf
  have hP : va_P D cls5 w s.heap := hP
  have hl := lv_entry ([.ref b]) (n := 1) (Nat.le_of_ble_eq_true rfl)
  rw [lg_entry_eq]
  generalize (lg_sl ([.ref b]) ++ List.replicate (1 - (lg_sl ([.ref b])).length) Slot.unset).toArray = ls at hl ⊢
  have hl : lv_has ls 1 [(0, .ref b)] := hl
  refine lv_aload_n hx hb dd_S_init_0 rfl (lv_at hl 0 rfl) ?_
  refine W.objInit hx hb hown (hk _ kw_34) (hk _ kw_20) (hk _ kw_21) rfl (by rw [hml]; exact hl.1) rfl dd_S_init_1 (Nat.le_of_ble_eq_true rfl) (Nat.le_of_ble_eq_true rfl) ?_
  refine W.eq (g2 := F0 m 4 ls []) rfl ?_
  exact W.vret hx hb hr (fun t ht hW => ⟨⟨(), rfl, trivial, by rw [ht]; exact hP, va_K.moved hW.alike hK, hD⟩, hS.F ht⟩) hS.2.2 dd_S_init_4
abbrev pfr (b : Nat) : va_W := [(b, .inr (1, [.int 0, .int 0, .int 0, .int 0, .int 0, .int 0, .long 0, .int 0, .null, .null, .null, .null, .null]))]
abbrev pw (kc : Nat → ClassId) (b q1 q2 q3 q4 q5 : Nat) : va_W := [(b, .inr (1, [.int 0, .int 0, .int 0, .int 0, .int 0, .int 0, .long 0, .int 0, .ref q1, .ref q2, .ref q3, .ref q4, .ref q5])), (q1, .inr (2, [.int 0, .long 0, .long 0])), (q2, .inr (2, [.int 0, .long 0, .long 0])), (q3, .inl (kc 0, 52, .inl (fun _ => 0))), (q4, .inl (kc 0, 52, .inl (fun _ => 0))), (q5, .inl (kc 1, 5, .inr (.inl (fun _ => 0))))]
abbrev EP (D : va_G) (kc : Nat → ClassId) (A : Nat → Prop) (b : Nat) : Nat × Nat × Nat × Nat × Nat → State → Prop := fun u t => va_P D cls5 (pw kc b u.1 u.2.1 u.2.2.1 u.2.2.2.1 u.2.2.2.2) t.heap ∧ va_K D cls5 (tys5 kc) t ∧ va_D A (pw kc b u.1 u.2.1 u.2.2.1 u.2.2.2.1 u.2.2.2.2)
set_option maxHeartbeats 8000000 in
set_option maxRecDepth 100000 in
theorem mm_P_init (l : Launch) (D : va_G) (kc : Nat → ClassId) (h0 sz : Nat) : Met l yy_P_init (.code yy_P_init cc_P_init 1 (none) :: kw) { frames := 2, cells := 5, slots := 115, locals := 40 } (va_Pc [.ref h0] (fun U => BW D kc (pfr h0) sz U ∧ va_Nw (.methodLinkNest "OpenDeal$Player" 11 ⟨"OpenDeal$Secrets", "<init>", "()V"⟩ "OpenDeal") U)) (va_Qv (fun (_ : Nat × Nat × Nat × Nat × Nat) => True) (EP D kc (va_A (pfr h0) sz) h0) (va_A (pfr h0) sz)) 5 115 (va_A (pfr h0) sz) := by
  refine Met.ofW (cc := cc_P_init) (maxL := 1) (ret := none) (by decide) rfl ?_
  intro p e s m args below meth c s₁ B hml hv
  obtain ⟨rfl, ⟨hsz, hP, hK, hD0⟩, hnest⟩ := hv
  have hx := B.exec
  have hb := B.bytes
  have hr := B.returns
  have hlocks := B.notSynchronized
  have hk : ∀ w ∈ kw, w.before _ s = true := fun w hw => atoms_spec (ws := (.code yy_P_init cc_P_init 1 (none) :: kw)) B.pre w (List.mem_cons_of_mem _ hw)
  have hown : s.vm.findClass "OpenDeal$Player" = some m.cls := findClass_of_methodNamed B.named
  have hin : meth.name = "<init>" := (name_of_methodNamed B.named B.method).1
  subst hsz
  have hD := hD0.self (sz := s.heap.size)
  generalize hAe : va_A (pfr h0) s.heap.size = A at hD ⊢
  have hA : ∀ q : Nat, s.heap.size ≤ q → A q := fun q h => by rw [← hAe]; exact Or.inr h
  have hS : va_S A s.heap s.heap [] := va_S.rf
  have hP : va_P D cls5 (pfr h0) s.heap := hP
  have hl := lv_entry ([.ref h0]) (n := 1) (Nat.le_of_ble_eq_true rfl)
  rw [lg_entry_eq]
  generalize (lg_sl ([.ref h0]) ++ List.replicate (1 - (lg_sl ([.ref h0])).length) Slot.unset).toArray = ls at hl ⊢
  have hl : lv_has ls 1 [(0, .ref h0)] := hl
  refine lv_aload_n hx hb dd_P_init_0 rfl (lv_at hl 0 rfl) ?_
  refine W.objInit hx hb hown (hk _ kw_28) (hk _ kw_20) (hk _ kw_21) rfl (by rw [hml]; exact hl.1) rfl dd_P_init_1 (Nat.le_of_ble_eq_true rfl) (Nat.le_of_ble_eq_true rfl) ?_
  refine W.eq (g2 := F0 m 4 ls []) rfl ?_
  refine lv_aload_n hx hb dd_P_init_4 rfl (lv_at hl 0 rfl) ?_
  refine va_new (ci := 2) (fs := [.int 0, .long 0, .long 0]) (C := "OpenDeal$Secrets") (T := T_S) (N := 3) hx hb hk in_S ty_S tk_S hown (hk _ kw_29) (hk _ kw_30) (hk _ kw_3) hK hP hD hS hA rfl (fun j hj => by rcases (show j = 0 ∨ j = 1 ∨ j = 2 by omega) with rfl | rfl | rfl <;> rfl) (Nat.le_of_ble_eq_true rfl) (Nat.le_of_ble_eq_true rfl) dd_P_init_5 (fun q1 H hP hD hS => ?_)
  have hP : va_P D cls5 [(h0, .inr (1, [.int 0, .int 0, .int 0, .int 0, .int 0, .int 0, .long 0, .int 0, .null, .null, .null, .null, .null])), (q1, .inr (2, [.int 0, .long 0, .long 0]))] H := hP
  have hD : va_D A [(h0, .inr (1, [.int 0, .int 0, .int 0, .int 0, .int 0, .int 0, .long 0, .int 0, .null, .null, .null, .null, .null])), (q1, .inr (2, [.int 0, .long 0, .long 0]))] := hD
  refine lv_dup hx hb dd_P_init_8 rfl ?_
  refine cwn_Iv (n := 0) (As := []) (mc := 0) (ms := 0) (host := "OpenDeal") hx hb hml hown hk (mm_S_init l D kc _ q1 _) hK hP hD hS hA hnest kw_32 kw_3 kw_33 rfl ⟨rfl, rfl⟩ (by decide +kernel) ⟨(Nat.le_of_ble_eq_true rfl), (Nat.le_of_ble_eq_true rfl)⟩ rfl hl.1 rfl (Nat.le_of_ble_eq_true rfl) dd_P_init_9 ⟨(Nat.le_of_ble_eq_true rfl), (Nat.le_of_ble_eq_true rfl)⟩ (fun H locs hP hD hS => ?_)
  refine va_putF (D := D) (ci := 1) (v := .ref q1) (ty := .object "OpenDeal$Secrets") (C := "OpenDeal$Player") (T := T_P) (N := 13) hx hb hk in_P ty_P tk_P nm_P hown hK hP hD hS 0 rfl rfl 8 (by decide) (hk _ kw_64) (fun _ h9 => h9) rfl hin rfl (by decide +kernel) rfl rfl (Nat.le_of_ble_eq_true rfl) dd_P_init_12 (fun H locs hP hD hS => ?_)
  have hP : va_P D cls5 [(h0, .inr (1, [.int 0, .int 0, .int 0, .int 0, .int 0, .int 0, .long 0, .int 0, .ref q1, .null, .null, .null, .null])), (q1, .inr (2, [.int 0, .long 0, .long 0]))] H := hP
  have hD : va_D A [(h0, .inr (1, [.int 0, .int 0, .int 0, .int 0, .int 0, .int 0, .long 0, .int 0, .ref q1, .null, .null, .null, .null])), (q1, .inr (2, [.int 0, .long 0, .long 0]))] := hD
  refine lv_aload_n hx hb dd_P_init_15 rfl (lv_at hl 0 rfl) ?_
  refine va_new (ci := 2) (fs := [.int 0, .long 0, .long 0]) (C := "OpenDeal$Secrets") (T := T_S) (N := 3) hx hb hk in_S ty_S tk_S hown (hk _ kw_29) (hk _ kw_30) (hk _ kw_3) hK hP hD hS hA rfl (fun j hj => by rcases (show j = 0 ∨ j = 1 ∨ j = 2 by omega) with rfl | rfl | rfl <;> rfl) (Nat.le_of_ble_eq_true rfl) (Nat.le_of_ble_eq_true rfl) dd_P_init_16 (fun q2 H hP hD hS => ?_)
  have hP : va_P D cls5 [(h0, .inr (1, [.int 0, .int 0, .int 0, .int 0, .int 0, .int 0, .long 0, .int 0, .ref q1, .null, .null, .null, .null])), (q1, .inr (2, [.int 0, .long 0, .long 0])), (q2, .inr (2, [.int 0, .long 0, .long 0]))] H := hP
  have hD : va_D A [(h0, .inr (1, [.int 0, .int 0, .int 0, .int 0, .int 0, .int 0, .long 0, .int 0, .ref q1, .null, .null, .null, .null])), (q1, .inr (2, [.int 0, .long 0, .long 0])), (q2, .inr (2, [.int 0, .long 0, .long 0]))] := hD
  refine lv_dup hx hb dd_P_init_19 rfl ?_
  refine cwn_Iv (n := 0) (As := []) (mc := 0) (ms := 0) (host := "OpenDeal") hx hb hml hown hk (mm_S_init l D kc _ q2 _) hK hP hD hS hA hnest kw_32 kw_3 kw_33 rfl ⟨rfl, rfl⟩ (by decide +kernel) ⟨(Nat.le_of_ble_eq_true rfl), (Nat.le_of_ble_eq_true rfl)⟩ rfl hl.1 rfl (Nat.le_of_ble_eq_true rfl) dd_P_init_20 ⟨(Nat.le_of_ble_eq_true rfl), (Nat.le_of_ble_eq_true rfl)⟩ (fun H locs hP hD hS => ?_)
  refine va_putF (D := D) (ci := 1) (v := .ref q2) (ty := .object "OpenDeal$Secrets") (C := "OpenDeal$Player") (T := T_P) (N := 13) hx hb hk in_P ty_P tk_P nm_P hown hK hP hD hS 0 rfl rfl 9 (by decide) (hk _ kw_66) (fun _ h9 => h9) rfl hin rfl (by decide +kernel) rfl rfl (Nat.le_of_ble_eq_true rfl) dd_P_init_23 (fun H locs hP hD hS => ?_)
  have hP : va_P D cls5 [(h0, .inr (1, [.int 0, .int 0, .int 0, .int 0, .int 0, .int 0, .long 0, .int 0, .ref q1, .ref q2, .null, .null, .null])), (q1, .inr (2, [.int 0, .long 0, .long 0])), (q2, .inr (2, [.int 0, .long 0, .long 0]))] H := hP
  have hD : va_D A [(h0, .inr (1, [.int 0, .int 0, .int 0, .int 0, .int 0, .int 0, .long 0, .int 0, .ref q1, .ref q2, .null, .null, .null])), (q1, .inr (2, [.int 0, .long 0, .long 0])), (q2, .inr (2, [.int 0, .long 0, .long 0]))] := hD
  refine lv_aload_n hx hb dd_P_init_26 rfl (lv_at hl 0 rfl) ?_
  refine lv_bipush (v := 52) hx hb dd_P_init_27 (by decide) ?_
  refine nw_a (atype := .int) (ty := .int) (a0 := (52, .inl (fun _ => 0))) (N' := 52) (n := 52) hx hb (hk _ kw_101) rfl 0 rfl hK hP hD hS hA (fun _ => rfl) (by decide) (by decide) (by decide) (Nat.le_of_ble_eq_true rfl) (Nat.le_of_ble_eq_true rfl) dd_P_init_29 (fun q3 H hP hD hS => ?_)
  have hP : va_P D cls5 [(h0, .inr (1, [.int 0, .int 0, .int 0, .int 0, .int 0, .int 0, .long 0, .int 0, .ref q1, .ref q2, .null, .null, .null])), (q1, .inr (2, [.int 0, .long 0, .long 0])), (q2, .inr (2, [.int 0, .long 0, .long 0])), (q3, .inl (kc 0, 52, .inl (fun _ => 0)))] H := hP
  have hD : va_D A [(h0, .inr (1, [.int 0, .int 0, .int 0, .int 0, .int 0, .int 0, .long 0, .int 0, .ref q1, .ref q2, .null, .null, .null])), (q1, .inr (2, [.int 0, .long 0, .long 0])), (q2, .inr (2, [.int 0, .long 0, .long 0])), (q3, .inl (kc 0, 52, .inl (fun _ => 0)))] := hD
  refine va_putF (D := D) (ci := 1) (v := .ref q3) (ty := .array .int) (C := "OpenDeal$Player") (T := T_P) (N := 13) hx hb hk in_P ty_P tk_P nm_P hown hK hP hD hS 0 rfl rfl 10 (by decide) (hk _ kw_68) (fun _ h9 => h9) rfl hin rfl (by decide +kernel) rfl rfl (Nat.le_of_ble_eq_true rfl) dd_P_init_31 (fun H locs hP hD hS => ?_)
  have hP : va_P D cls5 [(h0, .inr (1, [.int 0, .int 0, .int 0, .int 0, .int 0, .int 0, .long 0, .int 0, .ref q1, .ref q2, .ref q3, .null, .null])), (q1, .inr (2, [.int 0, .long 0, .long 0])), (q2, .inr (2, [.int 0, .long 0, .long 0])), (q3, .inl (kc 0, 52, .inl (fun _ => 0)))] H := hP
  have hD : va_D A [(h0, .inr (1, [.int 0, .int 0, .int 0, .int 0, .int 0, .int 0, .long 0, .int 0, .ref q1, .ref q2, .ref q3, .null, .null])), (q1, .inr (2, [.int 0, .long 0, .long 0])), (q2, .inr (2, [.int 0, .long 0, .long 0])), (q3, .inl (kc 0, 52, .inl (fun _ => 0)))] := hD
  refine lv_aload_n hx hb dd_P_init_34 rfl (lv_at hl 0 rfl) ?_
  refine lv_bipush (v := 52) hx hb dd_P_init_35 (by decide) ?_
  refine nw_a (atype := .int) (ty := .int) (a0 := (52, .inl (fun _ => 0))) (N' := 52) (n := 52) hx hb (hk _ kw_101) rfl 0 rfl hK hP hD hS hA (fun _ => rfl) (by decide) (by decide) (by decide) (Nat.le_of_ble_eq_true rfl) (Nat.le_of_ble_eq_true rfl) dd_P_init_37 (fun q4 H hP hD hS => ?_)
  have hP : va_P D cls5 [(h0, .inr (1, [.int 0, .int 0, .int 0, .int 0, .int 0, .int 0, .long 0, .int 0, .ref q1, .ref q2, .ref q3, .null, .null])), (q1, .inr (2, [.int 0, .long 0, .long 0])), (q2, .inr (2, [.int 0, .long 0, .long 0])), (q3, .inl (kc 0, 52, .inl (fun _ => 0))), (q4, .inl (kc 0, 52, .inl (fun _ => 0)))] H := hP
  have hD : va_D A [(h0, .inr (1, [.int 0, .int 0, .int 0, .int 0, .int 0, .int 0, .long 0, .int 0, .ref q1, .ref q2, .ref q3, .null, .null])), (q1, .inr (2, [.int 0, .long 0, .long 0])), (q2, .inr (2, [.int 0, .long 0, .long 0])), (q3, .inl (kc 0, 52, .inl (fun _ => 0))), (q4, .inl (kc 0, 52, .inl (fun _ => 0)))] := hD
  refine va_putF (D := D) (ci := 1) (v := .ref q4) (ty := .array .int) (C := "OpenDeal$Player") (T := T_P) (N := 13) hx hb hk in_P ty_P tk_P nm_P hown hK hP hD hS 0 rfl rfl 11 (by decide) (hk _ kw_70) (fun _ h9 => h9) rfl hin rfl (by decide +kernel) rfl rfl (Nat.le_of_ble_eq_true rfl) dd_P_init_39 (fun H locs hP hD hS => ?_)
  have hP : va_P D cls5 [(h0, .inr (1, [.int 0, .int 0, .int 0, .int 0, .int 0, .int 0, .long 0, .int 0, .ref q1, .ref q2, .ref q3, .ref q4, .null])), (q1, .inr (2, [.int 0, .long 0, .long 0])), (q2, .inr (2, [.int 0, .long 0, .long 0])), (q3, .inl (kc 0, 52, .inl (fun _ => 0))), (q4, .inl (kc 0, 52, .inl (fun _ => 0)))] H := hP
  have hD : va_D A [(h0, .inr (1, [.int 0, .int 0, .int 0, .int 0, .int 0, .int 0, .long 0, .int 0, .ref q1, .ref q2, .ref q3, .ref q4, .null])), (q1, .inr (2, [.int 0, .long 0, .long 0])), (q2, .inr (2, [.int 0, .long 0, .long 0])), (q3, .inl (kc 0, 52, .inl (fun _ => 0))), (q4, .inl (kc 0, 52, .inl (fun _ => 0)))] := hD
  refine lv_aload_n hx hb dd_P_init_42 rfl (lv_at hl 0 rfl) ?_
  refine lv_iconst (v := 5) hx hb dd_P_init_43 (by decide) ?_
  refine nw_a (atype := .long) (ty := .long) (a0 := (5, .inr (.inl (fun _ => 0)))) (N' := 5) (n := 5) hx hb (hk _ kw_102) rfl 1 rfl hK hP hD hS hA (fun _ => rfl) (by decide) (by decide) (by decide) (Nat.le_of_ble_eq_true rfl) (Nat.le_of_ble_eq_true rfl) dd_P_init_44 (fun q5 H hP hD hS => ?_)
  have hP : va_P D cls5 [(h0, .inr (1, [.int 0, .int 0, .int 0, .int 0, .int 0, .int 0, .long 0, .int 0, .ref q1, .ref q2, .ref q3, .ref q4, .null])), (q1, .inr (2, [.int 0, .long 0, .long 0])), (q2, .inr (2, [.int 0, .long 0, .long 0])), (q3, .inl (kc 0, 52, .inl (fun _ => 0))), (q4, .inl (kc 0, 52, .inl (fun _ => 0))), (q5, .inl (kc 1, 5, .inr (.inl (fun _ => 0))))] H := hP
  have hD : va_D A [(h0, .inr (1, [.int 0, .int 0, .int 0, .int 0, .int 0, .int 0, .long 0, .int 0, .ref q1, .ref q2, .ref q3, .ref q4, .null])), (q1, .inr (2, [.int 0, .long 0, .long 0])), (q2, .inr (2, [.int 0, .long 0, .long 0])), (q3, .inl (kc 0, 52, .inl (fun _ => 0))), (q4, .inl (kc 0, 52, .inl (fun _ => 0))), (q5, .inl (kc 1, 5, .inr (.inl (fun _ => 0))))] := hD
  refine va_putF (D := D) (ci := 1) (v := .ref q5) (ty := .array .long) (C := "OpenDeal$Player") (T := T_P) (N := 13) hx hb hk in_P ty_P tk_P nm_P hown hK hP hD hS 0 rfl rfl 12 (by decide) (hk _ kw_72) (fun _ h9 => h9) rfl hin rfl (by decide +kernel) rfl rfl (Nat.le_of_ble_eq_true rfl) dd_P_init_46 (fun H locs hP hD hS => ?_)
  have hP : va_P D cls5 [(h0, .inr (1, [.int 0, .int 0, .int 0, .int 0, .int 0, .int 0, .long 0, .int 0, .ref q1, .ref q2, .ref q3, .ref q4, .ref q5])), (q1, .inr (2, [.int 0, .long 0, .long 0])), (q2, .inr (2, [.int 0, .long 0, .long 0])), (q3, .inl (kc 0, 52, .inl (fun _ => 0))), (q4, .inl (kc 0, 52, .inl (fun _ => 0))), (q5, .inl (kc 1, 5, .inr (.inl (fun _ => 0))))] H := hP
  have hD : va_D A [(h0, .inr (1, [.int 0, .int 0, .int 0, .int 0, .int 0, .int 0, .long 0, .int 0, .ref q1, .ref q2, .ref q3, .ref q4, .ref q5])), (q1, .inr (2, [.int 0, .long 0, .long 0])), (q2, .inr (2, [.int 0, .long 0, .long 0])), (q3, .inl (kc 0, 52, .inl (fun _ => 0))), (q4, .inl (kc 0, 52, .inl (fun _ => 0))), (q5, .inl (kc 1, 5, .inr (.inl (fun _ => 0))))] := hD
  exact W.vret hx hb hr (fun t ht hW => ⟨⟨(q1, q2, q3, q4, q5), rfl, trivial, by rw [ht]; exact hP, va_K.moved hW.alike hK, hD⟩, hS.F ht⟩) hS.2.2 dd_P_init_49
section CFP
variable {p : Program} {l : Launch} {e : Env} {R : Room} {s : State} {m : MethodId} {args : Array Value} {below : List Frame} {meth : Method} {c : Code} {H : Heap} {locs : List Loc} {cells slots : Nat} {Q : State → Prop}
variable {cc bytes : ByteArray} {pc nL maxL index n mc ms : Nat} {ls : Array Slot} {As rest st0 : List Value} {own : String} {y : MethodName} {rm : Room} {D : va_G} {kc : Nat → ClassId} {w w' z : va_W} {A : Nat → Prop} {H0 : Heap} {b : Nat}
theorem cwf_P (hx : p.tables.exec = Jvm.exec) (hb : c.code = cc) (hml : c.maxLocals = nL) (hown : s.vm.findClass own = some m.cls) (hk : ∀ w ∈ kw, w.before args s = true)
    (hM : Met l y (Cond.code y bytes maxL none :: kw) rm (va_Pc [.ref b] (fun U => BW D kc (pfr b) H.size U ∧ va_Nw (.methodLinkNest "OpenDeal$Player" 11 ⟨"OpenDeal$Secrets", "<init>", "()V"⟩ "OpenDeal") U)) (va_Qv (fun (_ : Nat × Nat × Nat × Nat × Nat) => True) (EP D kc (va_A (pfr b) H.size) b) (va_A (pfr b) H.size)) 5 115 (va_A (pfr b) H.size)) (hK : va_K D cls5 (tys5 kc) s) (hP : va_P D cls5 (z ++ pfr b) H) (hD : va_D A (z ++ pfr b)) (hS : va_S A H0 H locs) (hA : ∀ q, H0.size ≤ q → A q)
    (w1 : Cond.methodLink own index y ∈ kw) (w2 : Cond.instanceMethod y ∈ kw) (w3 : Cond.initialized y.cls ∈ kw) (w4 : Cond.code y bytes maxL none ∈ kw) (hnest : va_Nw (.methodLinkNest "OpenDeal$Player" 11 ⟨"OpenDeal$Secrets", "<init>", "()V"⟩ "OpenDeal") s) (hy1 : y.name = "<init>") (hrm : rm.cells = 5 ∧ rm.slots = 115)
    (hd : y.cls ≠ "java/lang/invoke/MethodHandle" ∧ y.cls ≠ "java/lang/invoke/VarHandle" ∧ (parseMethodDescriptor y.desc).map (fun d => d.parameters.length) = some 0) (hR : rm.frames + 1 ≤ R.frames ∧ 8 + (maxL + 11) + rm.locals ≤ R.locals)
    (hsize : ls.size = nL) (hst : st0 = .ref b :: rest) (hW : (rest.map fun v => v.category).sum ≤ 8) (hdg : decode cc pc = .ok (.invokespecial index, 3)) (hcs : cells + 5 ≤ R.cells ∧ slots + 115 ≤ R.slots)
    (kk : ∀ (q1 q2 q3 q4 q5 : Nat) (H1 : Heap) (locs1 : List Loc), va_P D cls5 (z ++ pw kc b q1 q2 q3 q4 q5) H1 → va_D A (z ++ pw kc b q1 q2 q3 q4 q5) → va_S A H0 H1 locs1 → W p l e R s m args below meth c H1 locs1 (cells + 5) (slots + 115) Q (F0 m (pc + 3) ls rest)) : W p l e R s m args below meth c H locs cells slots Q (F0 m pc ls st0) := by
  have hF := fr_r hD hS hA
  refine va_callv (va_runI (Ts := kw) (As := []) ⟨hx, hb, hml, hown, hk⟩ hM (cwI 0 hk (kw_good (fun w hw => kw_cons w4 hw)) rfl hrm.1 hrm.2 (hk _ w3) (hk _ w1) (hk _ w2) hy1 hd hR) ⟨fun a U g mk q => ⟨q.1, ⟨q.2.1.1, q.2.1.2.1, va_K.moved (u := U) (U := U.calling g mk a) (Vm.Alike.refl U.vm) q.2.1.2.2.1, q.2.1.2.2.2⟩, va_Nw.same rfl rfl q.2.2⟩, fun U hU hW => ⟨rfl, ⟨by rw [hU], by rw [hU]; exact hP.right, va_K.moved hW.alike hK, hD.right.weaken (fun _ _ _ _ => trivial)⟩, va_Nw.warmM hW hnest⟩⟩ rfl rfl hsize hst (lv_room hW) hdg hcs) hS (fun q _ h => hF q h) hF (fun u t H1 locs1 ht hvm hz hB hs1 hk1 hS1 => ?_)
  obtain ⟨hP1, hK1, hD1⟩ := hB
  rw [ht] at hP1
  obtain ⟨hP2, hD2⟩ := jn hP hD hk1 hF hP1 hD1
  exact kk _ _ _ _ _ H1 locs1 hP2 hD2 hS1
end CFP
theorem va_P.re {D : va_G} {cl : List vw_C} {ws : va_W} {H : Heap} {p a : Nat} {e e' : va_E} (h : va_P D cl ws H) (hp : ws[p]? = some (a, e)) (he : va_at D cl (a, e') H) : va_P D cl (ws.set p (a, e')) H := by
  intro k q hk
  by_cases hkp : k = p
  · subst hkp
    rw [List.getElem?_set_self (List.getElem?_eq_some_iff.mp hp).1] at hk
    cases hk
    exact he
  · rw [List.getElem?_set_ne (Ne.symm hkp)] at hk
    exact h k q hk
theorem pf_q {D : va_G} {cl : List vw_C} {a n : Nat} {cA : ClassId} {f g : Nat → Option Nat} {H : Heap} (h : va_at D cl (a, .inl (cA, n, .inr (.inr (.inr (.inr f))))) H) (e : ∀ j, j < n → f j = g j) : va_at D cl (a, .inl (cA, n, .inr (.inr (.inr (.inr g))))) H := by
  have h : H[a]? = some (vp_cell cA (n, .inr (.inr (.inr (.inr f))))) := h
  show H[a]? = some (vp_cell cA (n, .inr (.inr (.inr (.inr g)))))
  rw [h, vp_cell_q, vp_cell_q]
  unfold arrV
  congr 3
  funext j
  show va_rf (f j.val) = va_rf (g j.val)
  rw [e j.val j.isLt]
theorem mna_z (c9 : ClassId) : Jvm.Free.Multi.innerC c9 52 (defaultValue .int) = vp_cell c9 (52, .inl (fun _ => 0)) := by
  rw [vp_cell_i, ← arrV_new]
  rfl
