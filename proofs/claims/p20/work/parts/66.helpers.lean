/-! the law's helpers: a call that may throw, in a handler; laid by program -/
theorem sr1 {a : va_W} {x y : Nat × va_E} : (a ++ [x]).set (a.length + 0) y = a ++ [y] := by
  rw [Nat.add_zero, List.set_append_right _ _ (Nat.le_refl _), Nat.sub_self]
  rfl
abbrev outc (kc : Nat → ClassId) (o : Nat) (f : Nat → Int64) : va_W := [(o, .inl (kc 1, 1, .inr (.inl f)))]
theorem va_S.grow {A : Nat → Prop} {H0 H H1 : Heap} {locs : List Loc} (hS : va_S A H0 H locs) (h1 : H.size ≤ H1.size) (h2 : ∀ q : Nat, q < H.size → H1[q]? = H[q]?) : va_S A H0 H1 locs := ⟨Nat.le_trans hS.1 h1, fun q a b => (h2 q (Nat.lt_of_lt_of_le a hS.1)).trans (hS.2.1 q a b), hS.2.2⟩
theorem va_P.grow {D : va_G} {cl : List vw_C} {w : va_W} {H H1 : Heap} (hP : va_P D cl w H) (h2 : ∀ q : Nat, q < H.size → H1[q]? = H[q]?) : va_P D cl w H1 := hP.kept (fun k q hk => h2 q.1 (hP k q hk).lt)
/-- the handlers of a method, by its word -/
theorem bl_tab {p : Program} {l : Launch} {x : MethodName} {S : Spec} {code : ByteArray} {maxLocals : Nat} {ret : Option FieldType} {e : Env} {s : State} {m : MethodId} {args : Array Value} {below : List Frame} {meth : Method} {c : Code} {s₁ : State} {hh : List (Nat × Nat × Nat × Nat)} (B : BodyLoose p l x S code maxLocals ret e s m args below meth c s₁) (h : (Cond.codeWith x code maxLocals ret hh).before args s = true) : c.exceptionTable.toList.map (fun h => (h.startPc, h.endPc, h.handlerPc, h.catchType)) = hh := by
  obtain ⟨m9, meth', c', hn, hm', hc', -, -, he', -⟩ := Cond.codeWith_spec h
  cases B.named.symm.trans hn
  cases B.method.symm.trans hm'
  cases (Stand.of_body B).code.symm.trans hc'
  exact he'
abbrev cc_L_sealOf : ByteArray := method_3_code
abbrev yy_L_sealOf : MethodName := ⟨"OpenDealLaw", "sealOf", "(LOpenDeal;I[J)I"⟩
theorem dd_L_sealOf_0 : decode cc_L_sealOf 0 = .ok (.aload_n 2, 1) := by decide +kernel
theorem dd_L_sealOf_1 : decode cc_L_sealOf 1 = .ok (.iconst 0, 1) := by decide +kernel
theorem dd_L_sealOf_2 : decode cc_L_sealOf 2 = .ok (.aload_n 0, 1) := by decide +kernel
theorem dd_L_sealOf_3 : decode cc_L_sealOf 3 = .ok (.iload_n 1, 1) := by decide +kernel
theorem dd_L_sealOf_4 : decode cc_L_sealOf 4 = .ok (.invokevirtual 7, 3) := by decide +kernel
theorem dd_L_sealOf_7 : decode cc_L_sealOf 7 = .ok (.lastore, 1) := by decide +kernel
theorem dd_L_sealOf_8 : decode cc_L_sealOf 8 = .ok (.goto (6), 3) := by decide +kernel
theorem dd_L_sealOf_11 : decode cc_L_sealOf 11 = .ok (.astore_n 3, 1) := by decide +kernel
theorem dd_L_sealOf_12 : decode cc_L_sealOf 12 = .ok (.iconst 1, 1) := by decide +kernel
theorem dd_L_sealOf_13 : decode cc_L_sealOf 13 = .ok (.ireturn, 1) := by decide +kernel
theorem dd_L_sealOf_14 : decode cc_L_sealOf 14 = .ok (.iconst 0, 1) := by decide +kernel
theorem dd_L_sealOf_15 : decode cc_L_sealOf 15 = .ok (.ireturn, 1) := by decide +kernel
set_option maxRecDepth 100000 in
theorem kw_426 : (Jvm.Cond.codeWith ({ cls := "OpenDealLaw", name := "sealOf", desc := "(LOpenDeal;I[J)I" } : Jvm.MethodName) method_3_code (4 : Nat) (Option.some Jvm.ClassFile.FieldType.int) [((0 : Nat), (8 : Nat), (11 : Nat), (13 : Nat))]) ∈ kw := kw_of (List.mem_append_right _ (List.mem_of_getElem? (i := 426) rfl)) (by decide +kernel)
set_option maxHeartbeats 4000000 in
set_option maxRecDepth 100000 in
theorem hr_sealOf (l : Launch) (D : va_G) (kc : Nat → ClassId) (ad : Nat → Nat) (I : MI) (J : MJ) (o : Nat) (f : Nat → Int64) (sz n : Nat) (a1 : Int32) (v : Int64) (h : ff_O_sealOf n I J a1 = some (some v)) : Met l yy_L_sealOf (.codeWith yy_L_sealOf cc_L_sealOf 4 (some .int) [(0, 8, 11, 13)] :: kw) { frames := 7, cells := 1, slots := 6, locals := 112 } (va_Pc [.ref (ad 0), .int a1, .ref o] (fun U => BW D kc (wC kc ad I J ++ outc kc o f) sz U)) (va_Qi (fun z (_ : Unit) => z = 0) (EW D kc (va_A (wC kc ad I J ++ outc kc o f) sz) (wC kc ad I J ++ outc kc o (vp_updL f 0 v))) (va_A (wC kc ad I J ++ outc kc o f) sz)) 1 6 (va_A (wC kc ad I J ++ outc kc o f) sz) := by
  refine va_MetW (cc := cc_L_sealOf) (maxL := 4) (ret := some .int) (hh := [(0, 8, 11, 13)]) (by decide) rfl ?_
  intro p e s m args below meth c s₁ B hml hv
  obtain ⟨rfl, hsz, hP, hK, hD0⟩ := hv
  have hx := B.exec
  have hb := B.bytes
  have hr := B.returns
  have hlocks := B.notSynchronized
  have hts := atoms_spec (ws := (.codeWith yy_L_sealOf cc_L_sealOf 4 (some .int) [(0, 8, 11, 13)] :: kw)) B.pre
  have hk : ∀ w ∈ kw, w.before _ s = true := fun w hw => hts w (List.mem_cons_of_mem _ hw)
  have htab := bl_tab B (hts _ List.mem_cons_self)
  have hown : s.vm.findClass "OpenDealLaw" = some m.cls := findClass_of_methodNamed B.named
  subst hsz
  have hD := hD0.self (sz := s.heap.size)
  generalize hAe : va_A (wC kc ad I J ++ outc kc o f) s.heap.size = A at hD ⊢
  have hA : ∀ q : Nat, s.heap.size ≤ q → A q := fun q h => by rw [← hAe]; exact Or.inr h
  have hS : va_S A s.heap s.heap [] := va_S.rf
  have hP : va_P D cls5 (wC kc ad I J ++ outc kc o f) s.heap := hP
  have hl := lv_entry ([.ref (ad 0), .int a1, .ref o]) (n := 4) (Nat.le_of_ble_eq_true rfl)
  rw [lg_entry_eq]
  generalize (lg_sl ([.ref (ad 0), .int a1, .ref o]) ++ List.replicate (4 - (lg_sl ([.ref (ad 0), .int a1, .ref o])).length) Slot.unset).toArray = ls at hl ⊢
  have hl : lv_has ls 4 [(0, .ref (ad 0)), (1, .int a1), (2, .ref o)] := hl
  refine lv_aload_n hx hb dd_L_sealOf_0 rfl (lv_at hl 2 rfl) ?_
  refine lv_iconst (v := 0) hx hb dd_L_sealOf_1 (by decide) ?_
  refine lv_aload_n hx hb dd_L_sealOf_2 rfl (lv_at hl 0 rfl) ?_
  refine lv_iload_n hx hb dd_L_sealOf_3 rfl (lv_at hl 1 rfl) ?_
  refine cr_Vl (n := 1) (As := [.int a1]) (w := wC kc ad I J) hx hb hml hown hk (mm_O_sealOf l D kc ad I J _ _ _ h) hK hP.left 0 at_O rfl rfl kw_428 kw_429 kw_430 kw_1 kw_431 ⟨rfl, rfl⟩ (by decide +kernel) ⟨Nat.le_of_ble_eq_true rfl, Nat.le_of_ble_eq_true rfl⟩ rfl hl.1 rfl (Nat.le_of_ble_eq_true rfl) dd_L_sealOf_4 ⟨Nat.le_of_ble_eq_true rfl, Nat.le_of_ble_eq_true rfl⟩ ?_
  refine va_last (i := 0) hx hb hK hP hD hS ((wC kc ad I J).length + 0) 1 (ap_r (k := 0) rfl) rfl (by unfold vp_in; decide) dd_L_sealOf_7 (fun H locs hP hD hS => ?_)
  rw [sr1] at hP hD
  refine lv_goto (tgt := 14) hx hb dd_L_sealOf_8 (by decide) ?_
  refine lv_iconst (v := 0) hx hb dd_L_sealOf_14 (by decide) ?_
  refine W.widen (k := 1) (n := 6) (by omega) (by omega) ?_
  exact W.iret hx hb hr (fun t ht hW => ⟨⟨_, (), rfl, rfl, by rw [ht]; exact hP, va_K.moved hW.alike hK, hD⟩, hS.F ht⟩) hS.2.2 dd_L_sealOf_15
set_option maxHeartbeats 4000000 in
set_option maxRecDepth 100000 in
theorem ht_sealOf (l : Launch) (D : va_G) (kc : Nat → ClassId) (ad : Nat → Nat) (I : MI) (J : MJ) (o : Nat) (f : Nat → Int64) (sz n : Nat) (a1 : Int32) (q : Nat) (hfl : l.flags = pinnedFlags ++ [noTraceFlag]) (h : ff_O_sealOf n I J a1 = some none) : Met l yy_L_sealOf (.codeWith yy_L_sealOf cc_L_sealOf 4 (some .int) [(0, 8, 11, 13)] :: kw) { frames := 7, cells := 1, slots := 6, locals := 112 } (va_Pc [.ref (ad 0), .int a1, .ref o] (fun U => BW D kc (wC kc ad I J ++ outc kc o f) sz U ∧ TW 119 "java/lang/IndexOutOfBoundsException" U ∧ vk_R "OpenDeal" 117 "no such seal" q U)) (va_Qi (fun z (_ : Unit) => z = 1) (EW D kc (va_A (wC kc ad I J ++ outc kc o f) sz) (wC kc ad I J ++ outc kc o f)) (va_A (wC kc ad I J ++ outc kc o f) sz)) 1 6 (va_A (wC kc ad I J ++ outc kc o f) sz) := by
  refine va_MetW (cc := cc_L_sealOf) (maxL := 4) (ret := some .int) (hh := [(0, 8, 11, 13)]) (by decide) rfl ?_
  intro p e s m args below meth c s₁ B hml hv
  obtain ⟨rfl, ⟨hsz, hP, hK, hD0⟩, hTW, hR9⟩ := hv
  have hx := B.exec
  have hb := B.bytes
  have hr := B.returns
  have hlocks := B.notSynchronized
  have hts := atoms_spec (ws := (.codeWith yy_L_sealOf cc_L_sealOf 4 (some .int) [(0, 8, 11, 13)] :: kw)) B.pre
  have hk : ∀ w ∈ kw, w.before _ s = true := fun w hw => hts w (List.mem_cons_of_mem _ hw)
  have htab := bl_tab B (hts _ List.mem_cons_self)
  have hown : s.vm.findClass "OpenDealLaw" = some m.cls := findClass_of_methodNamed B.named
  subst hsz
  have hD := hD0.self (sz := s.heap.size)
  generalize hAe : va_A (wC kc ad I J ++ outc kc o f) s.heap.size = A at hD ⊢
  have hA : ∀ q : Nat, s.heap.size ≤ q → A q := fun q h => by rw [← hAe]; exact Or.inr h
  have hS : va_S A s.heap s.heap [] := va_S.rf
  have hP : va_P D cls5 (wC kc ad I J ++ outc kc o f) s.heap := hP
  have hl := lv_entry ([.ref (ad 0), .int a1, .ref o]) (n := 4) (Nat.le_of_ble_eq_true rfl)
  rw [lg_entry_eq]
  generalize (lg_sl ([.ref (ad 0), .int a1, .ref o]) ++ List.replicate (4 - (lg_sl ([.ref (ad 0), .int a1, .ref o])).length) Slot.unset).toArray = ls at hl ⊢
  have hl : lv_has ls 4 [(0, .ref (ad 0)), (1, .int a1), (2, .ref o)] := hl
  refine lv_aload_n hx hb dd_L_sealOf_0 rfl (lv_at hl 2 rfl) ?_
  refine lv_iconst (v := 0) hx hb dd_L_sealOf_1 (by decide) ?_
  refine lv_aload_n hx hb dd_L_sealOf_2 rfl (lv_at hl 0 rfl) ?_
  refine lv_iload_n hx hb dd_L_sealOf_3 rfl (lv_at hl 1 rfl) ?_
  refine thr_call (n := 1) (As := [.int a1]) hx hb hml hown hk (mt_O_sealOf l D kc ad I J _ _ q hfl h) (fun U hU hW => ⟨⟨by rw [hU]; exact hP.left, va_K.moved hW.alike hK⟩, tw_mv hTW hU hW, vk_R.warm hW hR9⟩) (fun U g mk a h => ⟨⟨h.1.1, va_K.moved (u := U) (U := U.calling g mk a) (Vm.Alike.refl U.vm) h.1.2⟩, tw_bl h.2.1, vk_R.same rfl h.2.2⟩) (va_recv hK hP.left rfl at_O) kw_428 kw_429 kw_430 kw_1 kw_431 ⟨rfl, rfl⟩ (by decide +kernel) ⟨Nat.le_of_ble_eq_true rfl, Nat.le_of_ble_eq_true rfl⟩ rfl hl.1 rfl (Nat.le_of_ble_eq_true rfl) dd_L_sealOf_4 ⟨Nat.le_of_ble_eq_true rfl, Nat.le_of_ble_eq_true rfl⟩ htab (by decide) (by decide) (by decide) kw_427 (fun x H1 hs1 hk1 => ?_)
  have hP := hP.grow hk1
  have hS := hS.grow hs1 hk1
  refine lv_astore_n (lv' := (3, .ref x) :: [(0, .ref (ad 0)), (1, .int a1), (2, .ref o)]) hx hb dd_L_sealOf_11 rfl hl (by decide) rfl (fun ls hl => ?_)
  refine lv_iconst (v := 1) hx hb dd_L_sealOf_12 (by decide) ?_
  exact W.iret hx hb hr (fun t ht hW => ⟨⟨_, (), rfl, rfl, by rw [ht]; exact hP, va_K.moved hW.alike hK, hD⟩, hS.F ht⟩) hS.2.2 dd_L_sealOf_13
abbrev cc_L_laid : ByteArray := method_4_code
abbrev yy_L_laid : MethodName := ⟨"OpenDealLaw", "laid", "(LOpenDeal;I[J)I"⟩
theorem dd_L_laid_0 : decode cc_L_laid 0 = .ok (.aload_n 2, 1) := by decide +kernel
theorem dd_L_laid_1 : decode cc_L_laid 1 = .ok (.iconst 0, 1) := by decide +kernel
theorem dd_L_laid_2 : decode cc_L_laid 2 = .ok (.aload_n 0, 1) := by decide +kernel
theorem dd_L_laid_3 : decode cc_L_laid 3 = .ok (.iload_n 1, 1) := by decide +kernel
theorem dd_L_laid_4 : decode cc_L_laid 4 = .ok (.invokevirtual 15, 3) := by decide +kernel
theorem dd_L_laid_7 : decode cc_L_laid 7 = .ok (.i2l, 1) := by decide +kernel
theorem dd_L_laid_8 : decode cc_L_laid 8 = .ok (.lastore, 1) := by decide +kernel
theorem dd_L_laid_9 : decode cc_L_laid 9 = .ok (.goto (6), 3) := by decide +kernel
theorem dd_L_laid_12 : decode cc_L_laid 12 = .ok (.astore_n 3, 1) := by decide +kernel
theorem dd_L_laid_13 : decode cc_L_laid 13 = .ok (.iconst 1, 1) := by decide +kernel
theorem dd_L_laid_14 : decode cc_L_laid 14 = .ok (.ireturn, 1) := by decide +kernel
theorem dd_L_laid_15 : decode cc_L_laid 15 = .ok (.iconst 0, 1) := by decide +kernel
theorem dd_L_laid_16 : decode cc_L_laid 16 = .ok (.ireturn, 1) := by decide +kernel
set_option maxRecDepth 100000 in
theorem kw_501 : (Jvm.Cond.codeWith ({ cls := "OpenDealLaw", name := "laid", desc := "(LOpenDeal;I[J)I" } : Jvm.MethodName) method_4_code (4 : Nat) (Option.some Jvm.ClassFile.FieldType.int) [((0 : Nat), (9 : Nat), (12 : Nat), (13 : Nat))]) ∈ kw := kw_of (List.mem_append_right _ (List.mem_of_getElem? (i := 501) rfl)) (by decide +kernel)
set_option maxHeartbeats 4000000 in
set_option maxRecDepth 100000 in
theorem hr_laid (l : Launch) (D : va_G) (kc : Nat → ClassId) (ad : Nat → Nat) (I : MI) (J : MJ) (o : Nat) (f : Nat → Int64) (sz n : Nat) (a1 : Int32) (v : Int32) (h : ff_O_laid n I J a1 = some (some v)) : Met l yy_L_laid (.codeWith yy_L_laid cc_L_laid 4 (some .int) [(0, 9, 12, 13)] :: kw) { frames := 7, cells := 1, slots := 6, locals := 112 } (va_Pc [.ref (ad 0), .int a1, .ref o] (fun U => BW D kc (wC kc ad I J ++ outc kc o f) sz U)) (va_Qi (fun z (_ : Unit) => z = 0) (EW D kc (va_A (wC kc ad I J ++ outc kc o f) sz) (wC kc ad I J ++ outc kc o (vp_updL f 0 (v.toInt64)))) (va_A (wC kc ad I J ++ outc kc o f) sz)) 1 6 (va_A (wC kc ad I J ++ outc kc o f) sz) := by
  refine va_MetW (cc := cc_L_laid) (maxL := 4) (ret := some .int) (hh := [(0, 9, 12, 13)]) (by decide) rfl ?_
  intro p e s m args below meth c s₁ B hml hv
  obtain ⟨rfl, hsz, hP, hK, hD0⟩ := hv
  have hx := B.exec
  have hb := B.bytes
  have hr := B.returns
  have hlocks := B.notSynchronized
  have hts := atoms_spec (ws := (.codeWith yy_L_laid cc_L_laid 4 (some .int) [(0, 9, 12, 13)] :: kw)) B.pre
  have hk : ∀ w ∈ kw, w.before _ s = true := fun w hw => hts w (List.mem_cons_of_mem _ hw)
  have htab := bl_tab B (hts _ List.mem_cons_self)
  have hown : s.vm.findClass "OpenDealLaw" = some m.cls := findClass_of_methodNamed B.named
  subst hsz
  have hD := hD0.self (sz := s.heap.size)
  generalize hAe : va_A (wC kc ad I J ++ outc kc o f) s.heap.size = A at hD ⊢
  have hA : ∀ q : Nat, s.heap.size ≤ q → A q := fun q h => by rw [← hAe]; exact Or.inr h
  have hS : va_S A s.heap s.heap [] := va_S.rf
  have hP : va_P D cls5 (wC kc ad I J ++ outc kc o f) s.heap := hP
  have hl := lv_entry ([.ref (ad 0), .int a1, .ref o]) (n := 4) (Nat.le_of_ble_eq_true rfl)
  rw [lg_entry_eq]
  generalize (lg_sl ([.ref (ad 0), .int a1, .ref o]) ++ List.replicate (4 - (lg_sl ([.ref (ad 0), .int a1, .ref o])).length) Slot.unset).toArray = ls at hl ⊢
  have hl : lv_has ls 4 [(0, .ref (ad 0)), (1, .int a1), (2, .ref o)] := hl
  refine lv_aload_n hx hb dd_L_laid_0 rfl (lv_at hl 2 rfl) ?_
  refine lv_iconst (v := 0) hx hb dd_L_laid_1 (by decide) ?_
  refine lv_aload_n hx hb dd_L_laid_2 rfl (lv_at hl 0 rfl) ?_
  refine lv_iload_n hx hb dd_L_laid_3 rfl (lv_at hl 1 rfl) ?_
  refine cr_Vi (n := 1) (As := [.int a1]) (w := wC kc ad I J) hx hb hml hown hk (mm_O_laid l D kc ad I J _ _ _ h) hK hP.left 0 at_O rfl rfl kw_502 kw_503 kw_504 kw_1 kw_505 ⟨rfl, rfl⟩ (by decide +kernel) ⟨Nat.le_of_ble_eq_true rfl, Nat.le_of_ble_eq_true rfl⟩ rfl hl.1 rfl (Nat.le_of_ble_eq_true rfl) dd_L_laid_4 ⟨Nat.le_of_ble_eq_true rfl, Nat.le_of_ble_eq_true rfl⟩ ?_
  refine lv_i2l hx hb dd_L_laid_7 rfl ?_
  refine va_last (i := 0) hx hb hK hP hD hS ((wC kc ad I J).length + 0) 1 (ap_r (k := 0) rfl) rfl (by unfold vp_in; decide) dd_L_laid_8 (fun H locs hP hD hS => ?_)
  rw [sr1] at hP hD
  refine lv_goto (tgt := 15) hx hb dd_L_laid_9 (by decide) ?_
  refine lv_iconst (v := 0) hx hb dd_L_laid_15 (by decide) ?_
  refine W.widen (k := 1) (n := 6) (by omega) (by omega) ?_
  exact W.iret hx hb hr (fun t ht hW => ⟨⟨_, (), rfl, rfl, by rw [ht]; exact hP, va_K.moved hW.alike hK, hD⟩, hS.F ht⟩) hS.2.2 dd_L_laid_16
set_option maxHeartbeats 4000000 in
set_option maxRecDepth 100000 in
theorem ht_laid (l : Launch) (D : va_G) (kc : Nat → ClassId) (ad : Nat → Nat) (I : MI) (J : MJ) (o : Nat) (f : Nat → Int64) (sz n : Nat) (a1 : Int32) (q : Nat) (hfl : l.flags = pinnedFlags ++ [noTraceFlag]) (h : ff_O_laid n I J a1 = some none) : Met l yy_L_laid (.codeWith yy_L_laid cc_L_laid 4 (some .int) [(0, 9, 12, 13)] :: kw) { frames := 7, cells := 1, slots := 6, locals := 112 } (va_Pc [.ref (ad 0), .int a1, .ref o] (fun U => BW D kc (wC kc ad I J ++ outc kc o f) sz U ∧ TW 119 "java/lang/IndexOutOfBoundsException" U ∧ vk_R "OpenDeal" 136 "no such place, or no prime" q U)) (va_Qi (fun z (_ : Unit) => z = 1) (EW D kc (va_A (wC kc ad I J ++ outc kc o f) sz) (wC kc ad I J ++ outc kc o f)) (va_A (wC kc ad I J ++ outc kc o f) sz)) 1 6 (va_A (wC kc ad I J ++ outc kc o f) sz) := by
  refine va_MetW (cc := cc_L_laid) (maxL := 4) (ret := some .int) (hh := [(0, 9, 12, 13)]) (by decide) rfl ?_
  intro p e s m args below meth c s₁ B hml hv
  obtain ⟨rfl, ⟨hsz, hP, hK, hD0⟩, hTW, hR9⟩ := hv
  have hx := B.exec
  have hb := B.bytes
  have hr := B.returns
  have hlocks := B.notSynchronized
  have hts := atoms_spec (ws := (.codeWith yy_L_laid cc_L_laid 4 (some .int) [(0, 9, 12, 13)] :: kw)) B.pre
  have hk : ∀ w ∈ kw, w.before _ s = true := fun w hw => hts w (List.mem_cons_of_mem _ hw)
  have htab := bl_tab B (hts _ List.mem_cons_self)
  have hown : s.vm.findClass "OpenDealLaw" = some m.cls := findClass_of_methodNamed B.named
  subst hsz
  have hD := hD0.self (sz := s.heap.size)
  generalize hAe : va_A (wC kc ad I J ++ outc kc o f) s.heap.size = A at hD ⊢
  have hA : ∀ q : Nat, s.heap.size ≤ q → A q := fun q h => by rw [← hAe]; exact Or.inr h
  have hS : va_S A s.heap s.heap [] := va_S.rf
  have hP : va_P D cls5 (wC kc ad I J ++ outc kc o f) s.heap := hP
  have hl := lv_entry ([.ref (ad 0), .int a1, .ref o]) (n := 4) (Nat.le_of_ble_eq_true rfl)
  rw [lg_entry_eq]
  generalize (lg_sl ([.ref (ad 0), .int a1, .ref o]) ++ List.replicate (4 - (lg_sl ([.ref (ad 0), .int a1, .ref o])).length) Slot.unset).toArray = ls at hl ⊢
  have hl : lv_has ls 4 [(0, .ref (ad 0)), (1, .int a1), (2, .ref o)] := hl
  refine lv_aload_n hx hb dd_L_laid_0 rfl (lv_at hl 2 rfl) ?_
  refine lv_iconst (v := 0) hx hb dd_L_laid_1 (by decide) ?_
  refine lv_aload_n hx hb dd_L_laid_2 rfl (lv_at hl 0 rfl) ?_
  refine lv_iload_n hx hb dd_L_laid_3 rfl (lv_at hl 1 rfl) ?_
  refine thr_call (n := 1) (As := [.int a1]) hx hb hml hown hk (mt_O_laid l D kc ad I J _ _ q hfl h) (fun U hU hW => ⟨⟨by rw [hU]; exact hP.left, va_K.moved hW.alike hK⟩, tw_mv hTW hU hW, vk_R.warm hW hR9⟩) (fun U g mk a h => ⟨⟨h.1.1, va_K.moved (u := U) (U := U.calling g mk a) (Vm.Alike.refl U.vm) h.1.2⟩, tw_bl h.2.1, vk_R.same rfl h.2.2⟩) (va_recv hK hP.left rfl at_O) kw_502 kw_503 kw_504 kw_1 kw_505 ⟨rfl, rfl⟩ (by decide +kernel) ⟨Nat.le_of_ble_eq_true rfl, Nat.le_of_ble_eq_true rfl⟩ rfl hl.1 rfl (Nat.le_of_ble_eq_true rfl) dd_L_laid_4 ⟨Nat.le_of_ble_eq_true rfl, Nat.le_of_ble_eq_true rfl⟩ htab (by decide) (by decide) (by decide) kw_427 (fun x H1 hs1 hk1 => ?_)
  have hP := hP.grow hk1
  have hS := hS.grow hs1 hk1
  refine lv_astore_n (lv' := (3, .ref x) :: [(0, .ref (ad 0)), (1, .int a1), (2, .ref o)]) hx hb dd_L_laid_12 rfl hl (by decide) rfl (fun ls hl => ?_)
  refine lv_iconst (v := 1) hx hb dd_L_laid_13 (by decide) ?_
  exact W.iret hx hb hr (fun t ht hW => ⟨⟨_, (), rfl, rfl, by rw [ht]; exact hP, va_K.moved hW.alike hK, hD⟩, hS.F ht⟩) hS.2.2 dd_L_laid_14
abbrev cc_L_audit : ByteArray := method_5_code
abbrev yy_L_audit : MethodName := ⟨"OpenDealLaw", "audit", "(LOpenDeal;[J)I"⟩
theorem dd_L_audit_0 : decode cc_L_audit 0 = .ok (.aload_n 1, 1) := by decide +kernel
theorem dd_L_audit_1 : decode cc_L_audit 1 = .ok (.iconst 0, 1) := by decide +kernel
theorem dd_L_audit_2 : decode cc_L_audit 2 = .ok (.aload_n 0, 1) := by decide +kernel
theorem dd_L_audit_3 : decode cc_L_audit 3 = .ok (.invokevirtual 19, 3) := by decide +kernel
theorem dd_L_audit_6 : decode cc_L_audit 6 = .ok (.i2l, 1) := by decide +kernel
theorem dd_L_audit_7 : decode cc_L_audit 7 = .ok (.lastore, 1) := by decide +kernel
theorem dd_L_audit_8 : decode cc_L_audit 8 = .ok (.goto (6), 3) := by decide +kernel
theorem dd_L_audit_11 : decode cc_L_audit 11 = .ok (.astore_n 2, 1) := by decide +kernel
theorem dd_L_audit_12 : decode cc_L_audit 12 = .ok (.iconst 1, 1) := by decide +kernel
theorem dd_L_audit_13 : decode cc_L_audit 13 = .ok (.ireturn, 1) := by decide +kernel
theorem dd_L_audit_14 : decode cc_L_audit 14 = .ok (.iconst 0, 1) := by decide +kernel
theorem dd_L_audit_15 : decode cc_L_audit 15 = .ok (.ireturn, 1) := by decide +kernel
set_option maxRecDepth 100000 in
theorem kw_509 : (Jvm.Cond.codeWith ({ cls := "OpenDealLaw", name := "audit", desc := "(LOpenDeal;[J)I" } : Jvm.MethodName) method_5_code (3 : Nat) (Option.some Jvm.ClassFile.FieldType.int) [((0 : Nat), (8 : Nat), (11 : Nat), (23 : Nat))]) ∈ kw := kw_of (List.mem_append_right _ (List.mem_of_getElem? (i := 509) rfl)) (by decide +kernel)
set_option maxHeartbeats 4000000 in
set_option maxRecDepth 100000 in
theorem hr_audit (l : Launch) (D : va_G) (kc : Nat → ClassId) (ad : Nat → Nat) (I : MI) (J : MJ) (o : Nat) (f : Nat → Int64) (sz n : Nat) (v : Int32) (h : ff_O_audit n I J  = some (some v)) : Met l yy_L_audit (.codeWith yy_L_audit cc_L_audit 3 (some .int) [(0, 8, 11, 23)] :: kw) { frames := 7, cells := 1, slots := 6, locals := 112 } (va_Pc [.ref (ad 0), .ref o] (fun U => BW D kc (wC kc ad I J ++ outc kc o f) sz U)) (va_Qi (fun z (_ : Unit) => z = 0) (EW D kc (va_A (wC kc ad I J ++ outc kc o f) sz) (wC kc ad I J ++ outc kc o (vp_updL f 0 (v.toInt64)))) (va_A (wC kc ad I J ++ outc kc o f) sz)) 1 6 (va_A (wC kc ad I J ++ outc kc o f) sz) := by
  refine va_MetW (cc := cc_L_audit) (maxL := 3) (ret := some .int) (hh := [(0, 8, 11, 23)]) (by decide) rfl ?_
  intro p e s m args below meth c s₁ B hml hv
  obtain ⟨rfl, hsz, hP, hK, hD0⟩ := hv
  have hx := B.exec
  have hb := B.bytes
  have hr := B.returns
  have hlocks := B.notSynchronized
  have hts := atoms_spec (ws := (.codeWith yy_L_audit cc_L_audit 3 (some .int) [(0, 8, 11, 23)] :: kw)) B.pre
  have hk : ∀ w ∈ kw, w.before _ s = true := fun w hw => hts w (List.mem_cons_of_mem _ hw)
  have htab := bl_tab B (hts _ List.mem_cons_self)
  have hown : s.vm.findClass "OpenDealLaw" = some m.cls := findClass_of_methodNamed B.named
  subst hsz
  have hD := hD0.self (sz := s.heap.size)
  generalize hAe : va_A (wC kc ad I J ++ outc kc o f) s.heap.size = A at hD ⊢
  have hA : ∀ q : Nat, s.heap.size ≤ q → A q := fun q h => by rw [← hAe]; exact Or.inr h
  have hS : va_S A s.heap s.heap [] := va_S.rf
  have hP : va_P D cls5 (wC kc ad I J ++ outc kc o f) s.heap := hP
  have hl := lv_entry ([.ref (ad 0), .ref o]) (n := 3) (Nat.le_of_ble_eq_true rfl)
  rw [lg_entry_eq]
  generalize (lg_sl ([.ref (ad 0), .ref o]) ++ List.replicate (3 - (lg_sl ([.ref (ad 0), .ref o])).length) Slot.unset).toArray = ls at hl ⊢
  have hl : lv_has ls 3 [(0, .ref (ad 0)), (1, .ref o)] := hl
  refine lv_aload_n hx hb dd_L_audit_0 rfl (lv_at hl 1 rfl) ?_
  refine lv_iconst (v := 0) hx hb dd_L_audit_1 (by decide) ?_
  refine lv_aload_n hx hb dd_L_audit_2 rfl (lv_at hl 0 rfl) ?_
  refine cr_Vi (n := 0) (As := []) (w := wC kc ad I J) hx hb hml hown hk (mm_O_audit l D kc ad I J _  _ h) hK hP.left 0 at_O rfl rfl kw_511 kw_512 kw_513 kw_1 kw_514 ⟨rfl, rfl⟩ (by decide +kernel) ⟨Nat.le_of_ble_eq_true rfl, Nat.le_of_ble_eq_true rfl⟩ rfl hl.1 rfl (Nat.le_of_ble_eq_true rfl) dd_L_audit_3 ⟨Nat.le_of_ble_eq_true rfl, Nat.le_of_ble_eq_true rfl⟩ ?_
  refine lv_i2l hx hb dd_L_audit_6 rfl ?_
  refine va_last (i := 0) hx hb hK hP hD hS ((wC kc ad I J).length + 0) 1 (ap_r (k := 0) rfl) rfl (by unfold vp_in; decide) dd_L_audit_7 (fun H locs hP hD hS => ?_)
  rw [sr1] at hP hD
  refine lv_goto (tgt := 14) hx hb dd_L_audit_8 (by decide) ?_
  refine lv_iconst (v := 0) hx hb dd_L_audit_14 (by decide) ?_
  refine W.widen (k := 1) (n := 6) (by omega) (by omega) ?_
  exact W.iret hx hb hr (fun t ht hW => ⟨⟨_, (), rfl, rfl, by rw [ht]; exact hP, va_K.moved hW.alike hK, hD⟩, hS.F ht⟩) hS.2.2 dd_L_audit_15
set_option maxHeartbeats 4000000 in
set_option maxRecDepth 100000 in
theorem ht_audit (l : Launch) (D : va_G) (kc : Nat → ClassId) (ad : Nat → Nat) (I : MI) (J : MJ) (o : Nat) (f : Nat → Int64) (sz n : Nat) (q : Nat) (hfl : l.flags = pinnedFlags ++ [noTraceFlag]) (h : ff_O_audit n I J  = some none) : Met l yy_L_audit (.codeWith yy_L_audit cc_L_audit 3 (some .int) [(0, 8, 11, 23)] :: kw) { frames := 7, cells := 1, slots := 6, locals := 112 } (va_Pc [.ref (ad 0), .ref o] (fun U => BW D kc (wC kc ad I J ++ outc kc o f) sz U ∧ TW 223 "java/lang/IllegalStateException" U ∧ vk_R "OpenDeal" 221 "not all secrets are shown" q U)) (va_Qi (fun z (_ : Unit) => z = 1) (EW D kc (va_A (wC kc ad I J ++ outc kc o f) sz) (wC kc ad I J ++ outc kc o f)) (va_A (wC kc ad I J ++ outc kc o f) sz)) 1 6 (va_A (wC kc ad I J ++ outc kc o f) sz) := by
  refine va_MetW (cc := cc_L_audit) (maxL := 3) (ret := some .int) (hh := [(0, 8, 11, 23)]) (by decide) rfl ?_
  intro p e s m args below meth c s₁ B hml hv
  obtain ⟨rfl, ⟨hsz, hP, hK, hD0⟩, hTW, hR9⟩ := hv
  have hx := B.exec
  have hb := B.bytes
  have hr := B.returns
  have hlocks := B.notSynchronized
  have hts := atoms_spec (ws := (.codeWith yy_L_audit cc_L_audit 3 (some .int) [(0, 8, 11, 23)] :: kw)) B.pre
  have hk : ∀ w ∈ kw, w.before _ s = true := fun w hw => hts w (List.mem_cons_of_mem _ hw)
  have htab := bl_tab B (hts _ List.mem_cons_self)
  have hown : s.vm.findClass "OpenDealLaw" = some m.cls := findClass_of_methodNamed B.named
  subst hsz
  have hD := hD0.self (sz := s.heap.size)
  generalize hAe : va_A (wC kc ad I J ++ outc kc o f) s.heap.size = A at hD ⊢
  have hA : ∀ q : Nat, s.heap.size ≤ q → A q := fun q h => by rw [← hAe]; exact Or.inr h
  have hS : va_S A s.heap s.heap [] := va_S.rf
  have hP : va_P D cls5 (wC kc ad I J ++ outc kc o f) s.heap := hP
  have hl := lv_entry ([.ref (ad 0), .ref o]) (n := 3) (Nat.le_of_ble_eq_true rfl)
  rw [lg_entry_eq]
  generalize (lg_sl ([.ref (ad 0), .ref o]) ++ List.replicate (3 - (lg_sl ([.ref (ad 0), .ref o])).length) Slot.unset).toArray = ls at hl ⊢
  have hl : lv_has ls 3 [(0, .ref (ad 0)), (1, .ref o)] := hl
  refine lv_aload_n hx hb dd_L_audit_0 rfl (lv_at hl 1 rfl) ?_
  refine lv_iconst (v := 0) hx hb dd_L_audit_1 (by decide) ?_
  refine lv_aload_n hx hb dd_L_audit_2 rfl (lv_at hl 0 rfl) ?_
  refine thr_call (n := 0) (As := []) hx hb hml hown hk (mt_O_audit l D kc ad I J _  q hfl h) (fun U hU hW => ⟨⟨by rw [hU]; exact hP.left, va_K.moved hW.alike hK⟩, tw_mv hTW hU hW, vk_R.warm hW hR9⟩) (fun U g mk a h => ⟨⟨h.1.1, va_K.moved (u := U) (U := U.calling g mk a) (Vm.Alike.refl U.vm) h.1.2⟩, tw_bl h.2.1, vk_R.same rfl h.2.2⟩) (va_recv hK hP.left rfl at_O) kw_511 kw_512 kw_513 kw_1 kw_514 ⟨rfl, rfl⟩ (by decide +kernel) ⟨Nat.le_of_ble_eq_true rfl, Nat.le_of_ble_eq_true rfl⟩ rfl hl.1 rfl (Nat.le_of_ble_eq_true rfl) dd_L_audit_3 ⟨Nat.le_of_ble_eq_true rfl, Nat.le_of_ble_eq_true rfl⟩ htab (by decide) (by decide) (by decide) kw_510 (fun x H1 hs1 hk1 => ?_)
  have hP := hP.grow hk1
  have hS := hS.grow hs1 hk1
  refine lv_astore_n (lv' := (2, .ref x) :: [(0, .ref (ad 0)), (1, .ref o)]) hx hb dd_L_audit_11 rfl hl (by decide) rfl (fun ls hl => ?_)
  refine lv_iconst (v := 1) hx hb dd_L_audit_12 (by decide) ?_
  exact W.iret hx hb hr (fun t ht hW => ⟨⟨_, (), rfl, rfl, by rw [ht]; exact hP, va_K.moved hW.alike hK, hD⟩, hS.F ht⟩) hS.2.2 dd_L_audit_13
