/-! the class, laid by program -/
def ff_O_clear (n : Nat) (I : MI) (J : MJ)  : Option (MI × MJ) := some (ui (ui (ui (ui (ui I 0 0 (0 : Int32)) 0 1 (0 : Int32)) 0 2 (0 : Int32)) 0 4 (0 : Int32)) 0 7 (-1 : Int32), J)
set_option maxHeartbeats 4000000 in
set_option maxRecDepth 100000 in
theorem mm_O_clear (l : Launch) (D : va_G) (kc : Nat → ClassId) (ad : Nat → Nat) (I0 : MI) (J0 : MJ) (sz n : Nat)  (r : MI × MJ) (h : ff_O_clear n I0 J0  = some r) : Met l yy_O_clear (.code yy_O_clear cc_O_clear 1 (none) :: kw) { frames := 0, cells := 0, slots := 0, locals := 0 } (va_Pc [.ref (ad 0)] (BW D kc (wC kc ad I0 J0) sz)) (va_Qv (fun (_ : Unit) => True) (EW D kc (va_A (wC kc ad I0 J0) sz) (wC kc ad r.1 r.2)) (va_A (wC kc ad I0 J0) sz)) 0 0 (va_A (wC kc ad I0 J0) sz) := by
  refine Met.ofW (cc := cc_O_clear) (maxL := 1) (ret := none) (by decide) rfl ?_
  intro p e s m args below meth c s₁ B hml hv
  obtain ⟨rfl, hsz, hP, hK, hD0⟩ := hv
  have hx := B.exec
  have hb := B.bytes
  have hr := B.returns
  have hlocks := B.notSynchronized
  have hk : ∀ w ∈ kw, w.before _ s = true := fun w hw => atoms_spec (ws := (.code yy_O_clear cc_O_clear 1 (none) :: kw)) B.pre w (List.mem_cons_of_mem _ hw)
  have hown : s.vm.findClass "OpenDeal" = some m.cls := findClass_of_methodNamed B.named
  subst hsz
  have hD := hD0.self (sz := s.heap.size)
  generalize hAe : va_A (wC kc ad I0 J0) s.heap.size = A at hD ⊢
  have hA : ∀ q : Nat, s.heap.size ≤ q → A q := fun q h => by rw [← hAe]; exact Or.inr h
  have hS : va_S A s.heap s.heap [] := va_S.rf
  have hP : va_P D cls5 (wC kc ad I0 J0) s.heap := hP
  clear hAe hD0
  have hl := lv_entry ([.ref (ad 0)]) (n := 1) (Nat.le_of_ble_eq_true rfl)
  rw [lg_entry_eq]
  generalize (lg_sl ([.ref (ad 0)]) ++ List.replicate (1 - (lg_sl ([.ref (ad 0)])).length) Slot.unset).toArray = ls at hl ⊢
  have hl : lv_has ls 1 [(0, .ref (ad 0))] := hl
  unfold ff_O_clear at h
  refine lv_aload_n hx hb dd_O_clear_0 rfl (lv_at hl 0 rfl) ?_
  refine lv_iconst (v := 0) hx hb dd_O_clear_1 (by decide) ?_
  refine va_put (D := D) (ci := 0) (v := .int (0 : Int32)) (ty := .int) (C := "OpenDeal") (T := T_O) (N := 11) hx hb hk in_O ty_O tk_O nm_O hown hK hP hD hS 0 at_O rfl 0 (by decide) (hk _ kw_105) (fun _ h9 => h9) rfl (by decide +kernel) rfl rfl (Nat.le_of_ble_eq_true rfl) dd_O_clear_2 (fun H locs hP hD hS => ?_)
  rw [pt_O0] at hP hD
  refine lv_aload_n hx hb dd_O_clear_5 rfl (lv_at hl 0 rfl) ?_
  refine lv_iconst (v := 0) hx hb dd_O_clear_6 (by decide) ?_
  refine va_put (D := D) (ci := 0) (v := .int (0 : Int32)) (ty := .int) (C := "OpenDeal") (T := T_O) (N := 11) hx hb hk in_O ty_O tk_O nm_O hown hK hP hD hS 0 at_O rfl 1 (by decide) (hk _ kw_106) (fun _ h9 => h9) rfl (by decide +kernel) rfl rfl (Nat.le_of_ble_eq_true rfl) dd_O_clear_7 (fun H locs hP hD hS => ?_)
  rw [pt_O1] at hP hD
  refine lv_aload_n hx hb dd_O_clear_10 rfl (lv_at hl 0 rfl) ?_
  refine lv_iconst (v := 0) hx hb dd_O_clear_11 (by decide) ?_
  refine va_put (D := D) (ci := 0) (v := .int (0 : Int32)) (ty := .int) (C := "OpenDeal") (T := T_O) (N := 11) hx hb hk in_O ty_O tk_O nm_O hown hK hP hD hS 0 at_O rfl 2 (by decide) (hk _ kw_107) (fun _ h9 => h9) rfl (by decide +kernel) rfl rfl (Nat.le_of_ble_eq_true rfl) dd_O_clear_12 (fun H locs hP hD hS => ?_)
  rw [pt_O2] at hP hD
  refine lv_aload_n hx hb dd_O_clear_15 rfl (lv_at hl 0 rfl) ?_
  refine lv_iconst (v := 0) hx hb dd_O_clear_16 (by decide) ?_
  refine va_put (D := D) (ci := 0) (v := .int (0 : Int32)) (ty := .int) (C := "OpenDeal") (T := T_O) (N := 11) hx hb hk in_O ty_O tk_O nm_O hown hK hP hD hS 0 at_O rfl 4 (by decide) (hk _ kw_109) (fun _ h9 => h9) rfl (by decide +kernel) rfl rfl (Nat.le_of_ble_eq_true rfl) dd_O_clear_17 (fun H locs hP hD hS => ?_)
  rw [pt_O4] at hP hD
  refine lv_aload_n hx hb dd_O_clear_20 rfl (lv_at hl 0 rfl) ?_
  refine lv_iconst (v := -1) hx hb dd_O_clear_21 (by decide) ?_
  refine va_put (D := D) (ci := 0) (v := .int (-1 : Int32)) (ty := .int) (C := "OpenDeal") (T := T_O) (N := 11) hx hb hk in_O ty_O tk_O nm_O hown hK hP hD hS 0 at_O rfl 7 (by decide) (hk _ kw_112) (fun _ h9 => h9) rfl (by decide +kernel) rfl rfl (Nat.le_of_ble_eq_true rfl) dd_O_clear_22 (fun H locs hP hD hS => ?_)
  rw [pt_O7] at hP hD
  obtain rfl := Option.some.inj h
  exact W.vret hx hb hr (fun t ht hW => ⟨⟨(), rfl, trivial, by rw [ht]; exact hP, va_K.moved hW.alike hK, hD⟩, hS.F ht⟩) hS.2.2 dd_O_clear_25
def ff_A_fill_5  : Nat → MI → MJ → Nat → Int32 → Int32 → Int32 → Option (MI × MJ)
  | 0, _, _, _, _, _, _ => none
  | n + 1, I, J, v0, v1, v2, v3 => if v3 ≤ v2 then (some (I, J)) else (if ¬ (v2 < 0 ∨ 52 ≤ (v2).toNatClampNeg) then ff_A_fill_5 n (ui I v0 (v2).toNatClampNeg v1) J v0 v1 (v2 + (1 : Int32)) v3 else none)
def ff_A_fill (n : Nat) (I : MI) (J : MJ) (a0 : Nat) (a1 : Int32) : Option (MI × MJ) := ff_A_fill_5 n I J a0 a1 (0 : Int32) (52 : Int32)
set_option maxHeartbeats 4000000 in
set_option maxRecDepth 100000 in
theorem mm_A_fill (l : Launch) (D : va_G) (kc : Nat → ClassId) (ad : Nat → Nat) (I0 : MI) (J0 : MJ) (sz n : Nat) (a0 : Nat) (ha0 : isA a0) (a1 : Int32) (r : MI × MJ) (h : ff_A_fill n I0 J0 a0 a1 = some r) : Met l yy_A_fill (.code yy_A_fill cc_A_fill 4 (none) :: kw) { frames := 0, cells := 0, slots := 0, locals := 0 } (va_Pc [.ref (ad a0), .int a1] (BW D kc (wC kc ad I0 J0) sz)) (va_Qv (fun (_ : Unit) => True) (EW D kc (va_A (wC kc ad I0 J0) sz) (wC kc ad r.1 r.2)) (va_A (wC kc ad I0 J0) sz)) 0 0 (va_A (wC kc ad I0 J0) sz) := by
  refine Met.ofW (cc := cc_A_fill) (maxL := 4) (ret := none) (by decide) rfl ?_
  intro p e s m args below meth c s₁ B hml hv
  obtain ⟨rfl, hsz, hP, hK, hD0⟩ := hv
  have hx := B.exec
  have hb := B.bytes
  have hr := B.returns
  have hlocks := B.notSynchronized
  have hk : ∀ w ∈ kw, w.before _ s = true := fun w hw => atoms_spec (ws := (.code yy_A_fill cc_A_fill 4 (none) :: kw)) B.pre w (List.mem_cons_of_mem _ hw)
  have hown : s.vm.findClass "java/util/Arrays" = some m.cls := findClass_of_methodNamed B.named
  subst hsz
  have hD := hD0.self (sz := s.heap.size)
  generalize hAe : va_A (wC kc ad I0 J0) s.heap.size = A at hD ⊢
  have hA : ∀ q : Nat, s.heap.size ≤ q → A q := fun q h => by rw [← hAe]; exact Or.inr h
  have hS : va_S A s.heap s.heap [] := va_S.rf
  have hP : va_P D cls5 (wC kc ad I0 J0) s.heap := hP
  clear hAe hD0
  have L5 : ∀  (n : Nat) (I : MI) (J : MJ) (v0 : Nat) (hv0 : isA v0) (v1 : Int32) (v2 : Int32) (v3 : Int32), ff_A_fill_5 n I J v0 v1 v2 v3 = some r → ∀ (H : Heap) (locs : List Loc), va_P D cls5 (wC kc ad I J) H → va_D A (wC kc ad I J) → va_S A s.heap H locs → ∀ ls, lv_has ls 4 [(0, .ref (ad v0)), (1, .int v1), (2, .int v2), (3, .int v3)] → W p l e (headSpec (.code yy_A_fill cc_A_fill 4 (none) :: kw) { frames := 0, cells := 0, slots := 0, locals := 0 }).room s m ([.ref (ad a0), .int a1] : List Value).toArray below meth c H locs 0 0 (MQ below (va_Qv (fun (_ : Unit) => True) (EW D kc A (wC kc ad r.1 r.2)) A) ([.ref (ad a0), .int a1] : List Value).toArray s 0 0 A) (F0 m 5 ls []) := by
    intro  n
    induction n with
    | zero => intro I J v0 hv0 v1 v2 v3 h; exact absurd h (by simp [ff_A_fill_5])
    | succ n ih =>
      intro I J v0 hv0 v1 v2 v3 h H locs hP hD hS ls hl
      rw [ff_A_fill_5] at h
      refine lv_iload_n hx hb dd_A_fill_5 rfl (lv_at hl 2 rfl) ?_
      refine lv_iload_n hx hb dd_A_fill_6 rfl (lv_at hl 3 rfl) ?_
      refine lv_icmp_ge (tgt := 20) hx hb dd_A_fill_7 (by decide) (fun hc1 => ?_) (fun hc1 => ?_)
      · have h := ip_out hc1 h
        obtain rfl := Option.some.inj h
        exact W.vret hx hb hr (fun t ht hW => ⟨⟨(), rfl, trivial, by rw [ht]; exact hP, va_K.moved hW.alike hK, hD⟩, hS.F ht⟩) hS.2.2 dd_A_fill_20
      · have h := in_out hc1 h
        refine lv_aload_n hx hb dd_A_fill_10 rfl (lv_at hl 0 rfl) ?_
        refine lv_iload_n hx hb dd_A_fill_11 rfl (lv_at hl 2 rfl) ?_
        refine lv_iload_n hx hb dd_A_fill_12 rfl (lv_at hl 1 rfl) ?_
        obtain ⟨hi2, h⟩ := oi_out h
        refine va_iast hx hb hK hP hD hS v0 0 (at_A hv0) rfl (x := v1) hi2 dd_A_fill_13 (fun H locs hP hD hS => ?_)
        rw [pt_A hv0] at hP hD
        refine lv_iinc (v := v2 + (1 : Int32)) (lv' := [(2, .int (v2 + (1 : Int32))), (0, .ref (ad v0)), (1, .int v1), (3, .int v3)]) hx hb dd_A_fill_14 hl (k := 2) rfl rfl (by decide) rfl (fun ls hl => ?_)
        refine lv_goto (tgt := 5) hx hb dd_A_fill_17 (by decide) ?_
        exact ih _ _ _ hv0 _ _ _ h _ _ hP hD hS _ (lv_sub hl [1, 2, 0, 3] rfl)
  have hl := lv_entry ([.ref (ad a0), .int a1]) (n := 4) (Nat.le_of_ble_eq_true rfl)
  rw [lg_entry_eq]
  generalize (lg_sl ([.ref (ad a0), .int a1]) ++ List.replicate (4 - (lg_sl ([.ref (ad a0), .int a1])).length) Slot.unset).toArray = ls at hl ⊢
  have hl : lv_has ls 4 [(0, .ref (ad a0)), (1, .int a1)] := hl
  unfold ff_A_fill at h
  refine lv_iconst (v := 0) hx hb dd_A_fill_0 (by decide) ?_
  refine lv_istore_n (lv' := [(2, .int (0 : Int32)), (0, .ref (ad a0)), (1, .int a1)]) hx hb dd_A_fill_1 rfl hl (by decide) rfl (fun ls hl => ?_)
  refine lv_aload_n hx hb dd_A_fill_2 rfl (lv_at hl 1 rfl) ?_
  refine va_alen (v := 52) hx hb hK hP a0 0 (at_A ha0) rfl rfl dd_A_fill_3 ?_
  refine lv_istore_n (lv' := [(3, .int (52 : Int32)), (2, .int (0 : Int32)), (0, .ref (ad a0)), (1, .int a1)]) hx hb dd_A_fill_4 rfl hl (by decide) rfl (fun ls hl => ?_)
  exact L5  _ _ _ _ ha0 _ _ _ h _ _ hP hD hS _ (lv_sub hl [2, 3, 1, 0] rfl)
def ff_A_fill2_6  : Nat → MI → MJ → Nat → Int64 → Int32 → Int32 → Option (MI × MJ)
  | 0, _, _, _, _, _, _ => none
  | n + 1, I, J, v0, v1, v3, v4 => if v4 ≤ v3 then (some (I, J)) else (if ¬ (v3 < 0 ∨ 5 ≤ (v3).toNatClampNeg) then ff_A_fill2_6 n I (uj J v0 (v3).toNatClampNeg v1) v0 v1 (v3 + (1 : Int32)) v4 else none)
def ff_A_fill2 (n : Nat) (I : MI) (J : MJ) (a0 : Nat) (a1 : Int64) : Option (MI × MJ) := ff_A_fill2_6 n I J a0 a1 (0 : Int32) (5 : Int32)
set_option maxHeartbeats 4000000 in
set_option maxRecDepth 100000 in
theorem mm_A_fill2 (l : Launch) (D : va_G) (kc : Nat → ClassId) (ad : Nat → Nat) (I0 : MI) (J0 : MJ) (sz n : Nat) (a0 : Nat) (ha0 : isL a0) (a1 : Int64) (r : MI × MJ) (h : ff_A_fill2 n I0 J0 a0 a1 = some r) : Met l yy_A_fill2 (.code yy_A_fill2 cc_A_fill2 5 (none) :: kw) { frames := 0, cells := 0, slots := 0, locals := 0 } (va_Pc [.ref (ad a0), .long a1] (BW D kc (wC kc ad I0 J0) sz)) (va_Qv (fun (_ : Unit) => True) (EW D kc (va_A (wC kc ad I0 J0) sz) (wC kc ad r.1 r.2)) (va_A (wC kc ad I0 J0) sz)) 0 0 (va_A (wC kc ad I0 J0) sz) := by
  refine Met.ofW (cc := cc_A_fill2) (maxL := 5) (ret := none) (by decide) rfl ?_
  intro p e s m args below meth c s₁ B hml hv
  obtain ⟨rfl, hsz, hP, hK, hD0⟩ := hv
  have hx := B.exec
  have hb := B.bytes
  have hr := B.returns
  have hlocks := B.notSynchronized
  have hk : ∀ w ∈ kw, w.before _ s = true := fun w hw => atoms_spec (ws := (.code yy_A_fill2 cc_A_fill2 5 (none) :: kw)) B.pre w (List.mem_cons_of_mem _ hw)
  have hown : s.vm.findClass "java/util/Arrays" = some m.cls := findClass_of_methodNamed B.named
  subst hsz
  have hD := hD0.self (sz := s.heap.size)
  generalize hAe : va_A (wC kc ad I0 J0) s.heap.size = A at hD ⊢
  have hA : ∀ q : Nat, s.heap.size ≤ q → A q := fun q h => by rw [← hAe]; exact Or.inr h
  have hS : va_S A s.heap s.heap [] := va_S.rf
  have hP : va_P D cls5 (wC kc ad I0 J0) s.heap := hP
  clear hAe hD0
  have L6 : ∀  (n : Nat) (I : MI) (J : MJ) (v0 : Nat) (hv0 : isL v0) (v1 : Int64) (v3 : Int32) (v4 : Int32), ff_A_fill2_6 n I J v0 v1 v3 v4 = some r → ∀ (H : Heap) (locs : List Loc), va_P D cls5 (wC kc ad I J) H → va_D A (wC kc ad I J) → va_S A s.heap H locs → ∀ ls, lv_has ls 5 [(0, .ref (ad v0)), (1, .long v1), (3, .int v3), (4, .int v4)] → W p l e (headSpec (.code yy_A_fill2 cc_A_fill2 5 (none) :: kw) { frames := 0, cells := 0, slots := 0, locals := 0 }).room s m ([.ref (ad a0), .long a1] : List Value).toArray below meth c H locs 0 0 (MQ below (va_Qv (fun (_ : Unit) => True) (EW D kc A (wC kc ad r.1 r.2)) A) ([.ref (ad a0), .long a1] : List Value).toArray s 0 0 A) (F0 m 6 ls []) := by
    intro  n
    induction n with
    | zero => intro I J v0 hv0 v1 v3 v4 h; exact absurd h (by simp [ff_A_fill2_6])
    | succ n ih =>
      intro I J v0 hv0 v1 v3 v4 h H locs hP hD hS ls hl
      rw [ff_A_fill2_6] at h
      refine lv_iload_n hx hb dd_A_fill2_6 rfl (lv_at hl 2 rfl) ?_
      refine lv_iload hx hb dd_A_fill2_7 (lv_at hl 3 rfl) ?_
      refine lv_icmp_ge (tgt := 22) hx hb dd_A_fill2_9 (by decide) (fun hc1 => ?_) (fun hc1 => ?_)
      · have h := ip_out hc1 h
        obtain rfl := Option.some.inj h
        exact W.vret hx hb hr (fun t ht hW => ⟨⟨(), rfl, trivial, by rw [ht]; exact hP, va_K.moved hW.alike hK, hD⟩, hS.F ht⟩) hS.2.2 dd_A_fill2_22
      · have h := in_out hc1 h
        refine lv_aload_n hx hb dd_A_fill2_12 rfl (lv_at hl 0 rfl) ?_
        refine lv_iload_n hx hb dd_A_fill2_13 rfl (lv_at hl 2 rfl) ?_
        refine lv_lload_n hx hb dd_A_fill2_14 rfl (lv_at hl 1 rfl) ?_
        obtain ⟨hi2, h⟩ := oi_out h
        refine va_last hx hb hK hP hD hS v0 1 (at_L hv0) rfl (x := v1) hi2 dd_A_fill2_15 (fun H locs hP hD hS => ?_)
        rw [pt_L hv0] at hP hD
        refine lv_iinc (v := v3 + (1 : Int32)) (lv' := [(3, .int (v3 + (1 : Int32))), (0, .ref (ad v0)), (1, .long v1), (4, .int v4)]) hx hb dd_A_fill2_16 hl (k := 2) rfl rfl (by decide) rfl (fun ls hl => ?_)
        refine lv_goto (tgt := 6) hx hb dd_A_fill2_19 (by decide) ?_
        exact ih _ _ _ hv0 _ _ _ h _ _ hP hD hS _ (lv_sub hl [1, 2, 0, 3] rfl)
  have hl := lv_entry ([.ref (ad a0), .long a1]) (n := 5) (Nat.le_of_ble_eq_true rfl)
  rw [lg_entry_eq]
  generalize (lg_sl ([.ref (ad a0), .long a1]) ++ List.replicate (5 - (lg_sl ([.ref (ad a0), .long a1])).length) Slot.unset).toArray = ls at hl ⊢
  have hl : lv_has ls 5 [(0, .ref (ad a0)), (1, .long a1)] := hl
  unfold ff_A_fill2 at h
  refine lv_iconst (v := 0) hx hb dd_A_fill2_0 (by decide) ?_
  refine lv_istore_n (lv' := [(3, .int (0 : Int32)), (0, .ref (ad a0)), (1, .long a1)]) hx hb dd_A_fill2_1 rfl hl (by decide) rfl (fun ls hl => ?_)
  refine lv_aload_n hx hb dd_A_fill2_2 rfl (lv_at hl 1 rfl) ?_
  refine va_alen (v := 5) hx hb hK hP a0 1 (at_L ha0) rfl rfl dd_A_fill2_3 ?_
  refine lv_istore (lv' := [(4, .int (5 : Int32)), (3, .int (0 : Int32)), (0, .ref (ad a0)), (1, .long a1)]) hx hb dd_A_fill2_4 hl (by decide) rfl (fun ls hl => ?_)
  exact L6  _ _ _ _ ha0 _ _ _ h _ _ hP hD hS _ (lv_sub hl [2, 3, 1, 0] rfl)
def ff_P_beginHand (n : Nat) (I : MI) (J : MJ) (a0 : Nat) : Option (MI × MJ) := (ff_A_fill n (ui (ui (ui (ui (ui I a0 1 (0 : Int32)) a0 2 (0 : Int32)) a0 3 (0 : Int32)) a0 5 (0 : Int32)) a0 7 (0 : Int32)) J (a0 + 4) (0 : Int32)).bind fun r1 => (ff_A_fill2 n r1.1 r1.2 (a0 + 5) (0 : Int64)).bind fun r2 => some (r2.1, r2.2)
set_option maxHeartbeats 4000000 in
set_option maxRecDepth 100000 in
theorem mm_P_beginHand (l : Launch) (D : va_G) (kc : Nat → ClassId) (ad : Nat → Nat) (I0 : MI) (J0 : MJ) (sz n : Nat) (a0 : Nat) (ha0 : isP a0) (r : MI × MJ) (h : ff_P_beginHand n I0 J0 a0 = some r) : Met l yy_P_beginHand (.code yy_P_beginHand cc_P_beginHand 1 (none) :: kw) { frames := 1, cells := 0, slots := 0, locals := 24 } (va_Pc [.ref (ad a0)] (BW D kc (wC kc ad I0 J0) sz)) (va_Qv (fun (_ : Unit) => True) (EW D kc (va_A (wC kc ad I0 J0) sz) (wC kc ad r.1 r.2)) (va_A (wC kc ad I0 J0) sz)) 0 0 (va_A (wC kc ad I0 J0) sz) := by
  refine Met.ofW (cc := cc_P_beginHand) (maxL := 1) (ret := none) (by decide) rfl ?_
  intro p e s m args below meth c s₁ B hml hv
  obtain ⟨rfl, hsz, hP, hK, hD0⟩ := hv
  have hx := B.exec
  have hb := B.bytes
  have hr := B.returns
  have hlocks := B.notSynchronized
  have hk : ∀ w ∈ kw, w.before _ s = true := fun w hw => atoms_spec (ws := (.code yy_P_beginHand cc_P_beginHand 1 (none) :: kw)) B.pre w (List.mem_cons_of_mem _ hw)
  have hown : s.vm.findClass "OpenDeal$Player" = some m.cls := findClass_of_methodNamed B.named
  subst hsz
  have hD := hD0.self (sz := s.heap.size)
  generalize hAe : va_A (wC kc ad I0 J0) s.heap.size = A at hD ⊢
  have hA : ∀ q : Nat, s.heap.size ≤ q → A q := fun q h => by rw [← hAe]; exact Or.inr h
  have hS : va_S A s.heap s.heap [] := va_S.rf
  have hP : va_P D cls5 (wC kc ad I0 J0) s.heap := hP
  clear hAe hD0
  have hl := lv_entry ([.ref (ad a0)]) (n := 1) (Nat.le_of_ble_eq_true rfl)
  rw [lg_entry_eq]
  generalize (lg_sl ([.ref (ad a0)]) ++ List.replicate (1 - (lg_sl ([.ref (ad a0)])).length) Slot.unset).toArray = ls at hl ⊢
  have hl : lv_has ls 1 [(0, .ref (ad a0))] := hl
  unfold ff_P_beginHand at h
  refine lv_aload_n hx hb dd_P_beginHand_0 rfl (lv_at hl 0 rfl) ?_
  refine lv_iconst (v := 0) hx hb dd_P_beginHand_1 (by decide) ?_
  refine va_put (D := D) (ci := 1) (v := .int (0 : Int32)) (ty := .int) (C := "OpenDeal$Player") (T := T_P) (N := 13) hx hb hk in_P ty_P tk_P nm_P hown hK hP hD hS a0 (at_P ha0) rfl 1 (by decide) (hk _ kw_52) (fun _ h9 => h9) rfl (by decide +kernel) rfl rfl (Nat.le_of_ble_eq_true rfl) dd_P_beginHand_2 (fun H locs hP hD hS => ?_)
  rw [pt_P1 ha0] at hP hD
  refine lv_aload_n hx hb dd_P_beginHand_5 rfl (lv_at hl 0 rfl) ?_
  refine lv_iconst (v := 0) hx hb dd_P_beginHand_6 (by decide) ?_
  refine va_put (D := D) (ci := 1) (v := .int (0 : Int32)) (ty := .int) (C := "OpenDeal$Player") (T := T_P) (N := 13) hx hb hk in_P ty_P tk_P nm_P hown hK hP hD hS a0 (at_P ha0) rfl 2 (by decide) (hk _ kw_54) (fun _ h9 => h9) rfl (by decide +kernel) rfl rfl (Nat.le_of_ble_eq_true rfl) dd_P_beginHand_7 (fun H locs hP hD hS => ?_)
  rw [pt_P2 ha0] at hP hD
  refine lv_aload_n hx hb dd_P_beginHand_10 rfl (lv_at hl 0 rfl) ?_
  refine lv_iconst (v := 0) hx hb dd_P_beginHand_11 (by decide) ?_
  refine va_put (D := D) (ci := 1) (v := .int (0 : Int32)) (ty := .boolean) (C := "OpenDeal$Player") (T := T_P) (N := 13) hx hb hk in_P ty_P tk_P nm_P hown hK hP hD hS a0 (at_P ha0) rfl 3 (by decide) (hk _ kw_56) (fun _ h9 => h9) rfl (by decide +kernel) rfl rfl (Nat.le_of_ble_eq_true rfl) dd_P_beginHand_12 (fun H locs hP hD hS => ?_)
  rw [pt_P3 ha0] at hP hD
  refine lv_aload_n hx hb dd_P_beginHand_15 rfl (lv_at hl 0 rfl) ?_
  refine lv_iconst (v := 0) hx hb dd_P_beginHand_16 (by decide) ?_
  refine va_put (D := D) (ci := 1) (v := .int (0 : Int32)) (ty := .boolean) (C := "OpenDeal$Player") (T := T_P) (N := 13) hx hb hk in_P ty_P tk_P nm_P hown hK hP hD hS a0 (at_P ha0) rfl 5 (by decide) (hk _ kw_59) (fun _ h9 => h9) rfl (by decide +kernel) rfl rfl (Nat.le_of_ble_eq_true rfl) dd_P_beginHand_17 (fun H locs hP hD hS => ?_)
  rw [pt_P5 ha0] at hP hD
  refine lv_aload_n hx hb dd_P_beginHand_20 rfl (lv_at hl 0 rfl) ?_
  refine lv_iconst (v := 0) hx hb dd_P_beginHand_21 (by decide) ?_
  refine va_put (D := D) (ci := 1) (v := .int (0 : Int32)) (ty := .boolean) (C := "OpenDeal$Player") (T := T_P) (N := 13) hx hb hk in_P ty_P tk_P nm_P hown hK hP hD hS a0 (at_P ha0) rfl 7 (by decide) (hk _ kw_62) (fun _ h9 => h9) rfl (by decide +kernel) rfl rfl (Nat.le_of_ble_eq_true rfl) dd_P_beginHand_22 (fun H locs hP hD hS => ?_)
  rw [pt_P7 ha0] at hP hD
  refine lv_aload_n hx hb dd_P_beginHand_25 rfl (lv_at hl 0 rfl) ?_
  refine va_get (D := D) (ci := 1) (v := .ref (ad (a0 + 4))) (C := "OpenDeal$Player") (T := T_P) (N := 13) hx hb hk in_P hown hK hP a0 (at_P ha0) rfl 11 (by decide) (hk _ kw_70) (fun _ h9 => h9) rfl dd_P_beginHand_26 ?_
  refine lv_iconst (v := 0) hx hb dd_P_beginHand_29 (by decide) ?_
  obtain ⟨r1, hr1, h⟩ := ob_out h
  refine cw_Sv (n := 2) (As := [.ref (ad (a0 + 4)), .int (0 : Int32)]) (mc := 0) (ms := 0) hx hb hml hown hk (mm_A_fill l D kc ad _ _ _ _ _ (isP_A4 ha0) _ _ hr1) hK hP hD hS hA kw_177 kw_178 kw_6 kw_179 ⟨rfl, rfl⟩ (by decide +kernel) ⟨Nat.le_of_ble_eq_true rfl, Nat.le_of_ble_eq_true rfl⟩ rfl hl.1 rfl (Nat.le_of_ble_eq_true rfl) dd_P_beginHand_30 ⟨Nat.le_of_ble_eq_true rfl, Nat.le_of_ble_eq_true rfl⟩ (fun H locs hP hD hS => ?_)
  refine lv_aload_n hx hb dd_P_beginHand_33 rfl (lv_at hl 0 rfl) ?_
  refine va_get (D := D) (ci := 1) (v := .ref (ad (a0 + 5))) (C := "OpenDeal$Player") (T := T_P) (N := 13) hx hb hk in_P hown hK hP a0 (at_P ha0) rfl 12 (by decide) (hk _ kw_72) (fun _ h9 => h9) rfl dd_P_beginHand_34 ?_
  refine lv_lconst (v := 0) hx hb dd_P_beginHand_37 (by decide) ?_
  obtain ⟨r2, hr2, h⟩ := ob_out h
  refine cw_Sv (n := 2) (As := [.ref (ad (a0 + 5)), .long (0 : Int64)]) (mc := 0) (ms := 0) hx hb hml hown hk (mm_A_fill2 l D kc ad _ _ _ _ _ (isP_L ha0) _ _ hr2) hK hP hD hS hA kw_180 kw_181 kw_6 kw_182 ⟨rfl, rfl⟩ (by decide +kernel) ⟨Nat.le_of_ble_eq_true rfl, Nat.le_of_ble_eq_true rfl⟩ rfl hl.1 rfl (Nat.le_of_ble_eq_true rfl) dd_P_beginHand_38 ⟨Nat.le_of_ble_eq_true rfl, Nat.le_of_ble_eq_true rfl⟩ (fun H locs hP hD hS => ?_)
  obtain rfl := Option.some.inj h
  exact W.vret hx hb hr (fun t ht hW => ⟨⟨(), rfl, trivial, by rw [ht]; exact hP, va_K.moved hW.alike hK, hD⟩, hS.F ht⟩) hS.2.2 dd_P_beginHand_41
def ff_O_seat (n : Nat) (I : MI) (J : MJ) (a1 : Int32) : Option (Int32 × MI × MJ) := if (I 0 1) = 0 then (if (4 : Int32) ≤ (I 0 2) then (some ((-1 : Int32), I, J)) else (if a1 < (1 : Int32) then (some ((-1 : Int32), I, J)) else (if a1 ≤ (100000 : Int32) then (if ¬ ((I 0 2) < 0 ∨ 4 ≤ (I 0 2).toNatClampNeg) then if ¬ (((ui I (15 + 6 * (I 0 2).toNatClampNeg) 0 a1) 0 2) < 0 ∨ 4 ≤ ((ui I (15 + 6 * (I 0 2).toNatClampNeg) 0 a1) 0 2).toNatClampNeg) then (ff_P_beginHand n (ui I (15 + 6 * (I 0 2).toNatClampNeg) 0 a1) J (15 + 6 * ((ui I (15 + 6 * (I 0 2).toNatClampNeg) 0 a1) 0 2).toNatClampNeg)).bind fun r7 => some (((ui r7.1 0 2 ((r7.1 0 2) + (1 : Int32))) 0 2) - (1 : Int32), ui r7.1 0 2 ((r7.1 0 2) + (1 : Int32)), r7.2) else none else none) else (some ((-1 : Int32), I, J))))) else (some ((-1 : Int32), I, J))
set_option maxHeartbeats 4000000 in
set_option maxRecDepth 100000 in
theorem mm_O_seat (l : Launch) (D : va_G) (kc : Nat → ClassId) (ad : Nat → Nat) (I0 : MI) (J0 : MJ) (sz n : Nat) (a1 : Int32) (r : Int32 × MI × MJ) (h : ff_O_seat n I0 J0 a1 = some r) : Met l yy_O_seat (.code yy_O_seat cc_O_seat 2 (some .int) :: kw) { frames := 2, cells := 0, slots := 0, locals := 44 } (va_Pc [.ref (ad 0), .int a1] (BW D kc (wC kc ad I0 J0) sz)) (va_Qi (fun z (_ : Unit) => z = r.1) (EW D kc (va_A (wC kc ad I0 J0) sz) (wC kc ad r.2.1 r.2.2)) (va_A (wC kc ad I0 J0) sz)) 0 0 (va_A (wC kc ad I0 J0) sz) := by
  refine Met.ofW (cc := cc_O_seat) (maxL := 2) (ret := some .int) (by decide) rfl ?_
  intro p e s m args below meth c s₁ B hml hv
  obtain ⟨rfl, hsz, hP, hK, hD0⟩ := hv
  have hx := B.exec
  have hb := B.bytes
  have hr := B.returns
  have hlocks := B.notSynchronized
  have hk : ∀ w ∈ kw, w.before _ s = true := fun w hw => atoms_spec (ws := (.code yy_O_seat cc_O_seat 2 (some .int) :: kw)) B.pre w (List.mem_cons_of_mem _ hw)
  have hown : s.vm.findClass "OpenDeal" = some m.cls := findClass_of_methodNamed B.named
  subst hsz
  have hD := hD0.self (sz := s.heap.size)
  generalize hAe : va_A (wC kc ad I0 J0) s.heap.size = A at hD ⊢
  have hA : ∀ q : Nat, s.heap.size ≤ q → A q := fun q h => by rw [← hAe]; exact Or.inr h
  have hS : va_S A s.heap s.heap [] := va_S.rf
  have hP : va_P D cls5 (wC kc ad I0 J0) s.heap := hP
  clear hAe hD0
  have hl := lv_entry ([.ref (ad 0), .int a1]) (n := 2) (Nat.le_of_ble_eq_true rfl)
  rw [lg_entry_eq]
  generalize (lg_sl ([.ref (ad 0), .int a1]) ++ List.replicate (2 - (lg_sl ([.ref (ad 0), .int a1])).length) Slot.unset).toArray = ls at hl ⊢
  have hl : lv_has ls 2 [(0, .ref (ad 0)), (1, .int a1)] := hl
  unfold ff_O_seat at h
  refine lv_aload_n hx hb dd_O_seat_0 rfl (lv_at hl 0 rfl) ?_
  refine va_get (D := D) (ci := 0) (v := .int (I0 0 1)) (C := "OpenDeal") (T := T_O) (N := 11) hx hb hk in_O hown hK hP 0 at_O rfl 1 (by decide) (hk _ kw_106) (fun _ h9 => h9) rfl dd_O_seat_1 ?_
  refine lv_if_ne (tgt := 26) hx hb dd_O_seat_4 (by decide) (fun hc1 => ?_) (fun hc1 => ?_)
  · have h := in_out hc1 h
    refine lv_iconst (v := -1) hx hb dd_O_seat_26 (by decide) ?_
    obtain rfl := Option.some.inj h
    exact W.iret hx hb hr (fun t ht hW => ⟨⟨_, (), rfl, rfl, by rw [ht]; exact hP, va_K.moved hW.alike hK, hD⟩, hS.F ht⟩) hS.2.2 dd_O_seat_27
  · have h := ip_out hc1 h
    refine lv_aload_n hx hb dd_O_seat_7 rfl (lv_at hl 0 rfl) ?_
    refine va_get (D := D) (ci := 0) (v := .int (I0 0 2)) (C := "OpenDeal") (T := T_O) (N := 11) hx hb hk in_O hown hK hP 0 at_O rfl 2 (by decide) (hk _ kw_107) (fun _ h9 => h9) rfl dd_O_seat_8 ?_
    refine lv_iconst (v := 4) hx hb dd_O_seat_11 (by decide) ?_
    refine lv_icmp_ge (tgt := 26) hx hb dd_O_seat_12 (by decide) (fun hc2 => ?_) (fun hc2 => ?_)
    · have h := ip_out hc2 h
      refine lv_iconst (v := -1) hx hb dd_O_seat_26 (by decide) ?_
      obtain rfl := Option.some.inj h
      exact W.iret hx hb hr (fun t ht hW => ⟨⟨_, (), rfl, rfl, by rw [ht]; exact hP, va_K.moved hW.alike hK, hD⟩, hS.F ht⟩) hS.2.2 dd_O_seat_27
    · have h := in_out hc2 h
      refine lv_iload_n hx hb dd_O_seat_15 rfl (lv_at hl 1 rfl) ?_
      refine lv_iconst (v := 1) hx hb dd_O_seat_16 (by decide) ?_
      refine lv_icmp_lt (tgt := 26) hx hb dd_O_seat_17 (by decide) (fun hc3 => ?_) (fun hc3 => ?_)
      · have h := ip_out hc3 h
        refine lv_iconst (v := -1) hx hb dd_O_seat_26 (by decide) ?_
        obtain rfl := Option.some.inj h
        exact W.iret hx hb hr (fun t ht hW => ⟨⟨_, (), rfl, rfl, by rw [ht]; exact hP, va_K.moved hW.alike hK, hD⟩, hS.F ht⟩) hS.2.2 dd_O_seat_27
      · have h := in_out hc3 h
        refine lv_iload_n hx hb dd_O_seat_20 rfl (lv_at hl 1 rfl) ?_
        refine lv_ldc (v := 100000) hx hb hown (hk _ kw_172) dd_O_seat_21 ?_
        refine lv_icmp_le (tgt := 28) hx hb dd_O_seat_23 (by decide) (fun hc4 => ?_) (fun hc4 => ?_)
        · have h := ip_out hc4 h
          refine lv_aload_n hx hb dd_O_seat_28 rfl (lv_at hl 0 rfl) ?_
          refine va_get (D := D) (ci := 0) (v := .ref (ad 1)) (C := "OpenDeal") (T := T_O) (N := 11) hx hb hk in_O hown hK hP 0 at_O rfl 3 (by decide) (hk _ kw_108) (fun _ h9 => h9) rfl dd_O_seat_29 ?_
          refine lv_aload_n hx hb dd_O_seat_32 rfl (lv_at hl 0 rfl) ?_
          refine va_get (D := D) (ci := 0) (v := .int (I0 0 2)) (C := "OpenDeal") (T := T_O) (N := 11) hx hb hk in_O hown hK hP 0 at_O rfl 2 (by decide) (hk _ kw_107) (fun _ h9 => h9) rfl dd_O_seat_33 ?_
          obtain ⟨hi5, h⟩ := oi_out h
          refine ap_ald (b := ad (15 + 6 * (I0 0 2).toNatClampNeg)) hx hb hK hP 1 3 at_pl rfl hi5 (if_pos (vi_lt hi5)) dd_O_seat_36 ?_
          refine lv_iload_n hx hb dd_O_seat_37 rfl (lv_at hl 1 rfl) ?_
          refine va_put (D := D) (ci := 1) (v := .int a1) (ty := .int) (C := "OpenDeal$Player") (T := T_P) (N := 13) hx hb hk in_P ty_P tk_P nm_P hown hK hP hD hS (15 + 6 * (I0 0 2).toNatClampNeg) (at_P (isP_of (vi_lt hi5))) rfl 0 (by decide) (hk _ kw_51) (fun _ h9 => h9) rfl (by decide +kernel) rfl rfl (Nat.le_of_ble_eq_true rfl) dd_O_seat_38 (fun H locs hP hD hS => ?_)
          rw [pt_P0 (isP_of (vi_lt hi5))] at hP hD
          refine lv_aload_n hx hb dd_O_seat_41 rfl (lv_at hl 0 rfl) ?_
          refine va_get (D := D) (ci := 0) (v := .ref (ad 1)) (C := "OpenDeal") (T := T_O) (N := 11) hx hb hk in_O hown hK hP 0 at_O rfl 3 (by decide) (hk _ kw_108) (fun _ h9 => h9) rfl dd_O_seat_42 ?_
          refine lv_aload_n hx hb dd_O_seat_45 rfl (lv_at hl 0 rfl) ?_
          refine va_get (D := D) (ci := 0) (v := .int ((ui I0 (15 + 6 * (I0 0 2).toNatClampNeg) 0 a1) 0 2)) (C := "OpenDeal") (T := T_O) (N := 11) hx hb hk in_O hown hK hP 0 at_O rfl 2 (by decide) (hk _ kw_107) (fun _ h9 => h9) rfl dd_O_seat_46 ?_
          obtain ⟨hi6, h⟩ := oi_out h
          refine ap_ald (b := ad (15 + 6 * ((ui I0 (15 + 6 * (I0 0 2).toNatClampNeg) 0 a1) 0 2).toNatClampNeg)) hx hb hK hP 1 3 at_pl rfl hi6 (if_pos (vi_lt hi6)) dd_O_seat_49 ?_
          obtain ⟨r7, hr7, h⟩ := ob_out h
          refine cw_Vv (n := 0) (As := []) (mc := 0) (ms := 0) hx hb hml hown hk (mm_P_beginHand l D kc ad _ _ _ _ _ (isP_of (vi_lt hi6)) _ hr7) hK hP hD hS hA (15 + 6 * ((ui I0 (15 + 6 * (I0 0 2).toNatClampNeg) 0 a1) 0 2).toNatClampNeg) (at_P (isP_of (vi_lt hi6))) rfl rfl kw_173 kw_174 kw_175 kw_2 kw_176 ⟨rfl, rfl⟩ (by decide +kernel) ⟨Nat.le_of_ble_eq_true rfl, Nat.le_of_ble_eq_true rfl⟩ rfl hl.1 rfl (Nat.le_of_ble_eq_true rfl) dd_O_seat_50 ⟨Nat.le_of_ble_eq_true rfl, Nat.le_of_ble_eq_true rfl⟩ (fun H locs hP hD hS => ?_)
          refine lv_aload_n hx hb dd_O_seat_53 rfl (lv_at hl 0 rfl) ?_
          refine lv_dup hx hb dd_O_seat_54 rfl ?_
          refine va_get (D := D) (ci := 0) (v := .int (r7.1 0 2)) (C := "OpenDeal") (T := T_O) (N := 11) hx hb hk in_O hown hK hP 0 at_O rfl 2 (by decide) (hk _ kw_107) (fun _ h9 => h9) rfl dd_O_seat_55 ?_
          refine lv_iconst (v := 1) hx hb dd_O_seat_58 (by decide) ?_
          refine lv_iadd hx hb dd_O_seat_59 ?_
          refine va_put (D := D) (ci := 0) (v := .int ((r7.1 0 2) + (1 : Int32))) (ty := .int) (C := "OpenDeal") (T := T_O) (N := 11) hx hb hk in_O ty_O tk_O nm_O hown hK hP hD hS 0 at_O rfl 2 (by decide) (hk _ kw_107) (fun _ h9 => h9) rfl (by decide +kernel) rfl rfl (Nat.le_of_ble_eq_true rfl) dd_O_seat_60 (fun H locs hP hD hS => ?_)
          rw [pt_O2] at hP hD
          refine lv_aload_n hx hb dd_O_seat_63 rfl (lv_at hl 0 rfl) ?_
          refine va_get (D := D) (ci := 0) (v := .int ((ui r7.1 0 2 ((r7.1 0 2) + (1 : Int32))) 0 2)) (C := "OpenDeal") (T := T_O) (N := 11) hx hb hk in_O hown hK hP 0 at_O rfl 2 (by decide) (hk _ kw_107) (fun _ h9 => h9) rfl dd_O_seat_64 ?_
          refine lv_iconst (v := 1) hx hb dd_O_seat_67 (by decide) ?_
          refine lv_isub hx hb dd_O_seat_68 ?_
          obtain rfl := Option.some.inj h
          exact W.iret hx hb hr (fun t ht hW => ⟨⟨_, (), rfl, rfl, by rw [ht]; exact hP, va_K.moved hW.alike hK, hD⟩, hS.F ht⟩) hS.2.2 dd_O_seat_69
        · have h := in_out hc4 h
          refine lv_iconst (v := -1) hx hb dd_O_seat_26 (by decide) ?_
          obtain rfl := Option.some.inj h
          exact W.iret hx hb hr (fun t ht hW => ⟨⟨_, (), rfl, rfl, by rw [ht]; exact hP, va_K.moved hW.alike hK, hD⟩, hS.F ht⟩) hS.2.2 dd_O_seat_27
def ff_O_countWithChips_4 (I : MI) (J : MJ)  : Nat → Int32 → Int32 → Option (Int32)
  | 0, _, _ => none
  | n + 1, v1, v2 => if (I 0 2) ≤ v2 then (some v1) else (if ¬ (v2 < 0 ∨ 4 ≤ (v2).toNatClampNeg) then if (I (15 + 6 * (v2).toNatClampNeg) 0) ≤ 0 then (ff_O_countWithChips_4 I J n v1 (v2 + (1 : Int32))) else (ff_O_countWithChips_4 I J n (v1 + (1 : Int32)) (v2 + (1 : Int32))) else none)
def ff_O_countWithChips (n : Nat) (I : MI) (J : MJ)  : Option (Int32) := ff_O_countWithChips_4 I J n (0 : Int32) (0 : Int32)
set_option maxHeartbeats 4000000 in
set_option maxRecDepth 100000 in
theorem mm_O_countWithChips (l : Launch) (D : va_G) (kc : Nat → ClassId) (ad : Nat → Nat) (I : MI) (J : MJ) (n : Nat)  (r : Int32) (h : ff_O_countWithChips n I J  = some r) : Met l yy_O_countWithChips (.code yy_O_countWithChips cc_O_countWithChips 3 (some .int) :: kw) { frames := 0, cells := 0, slots := 0, locals := 0 } (va_Pc [.ref (ad 0)] (BR D kc (wC kc ad I J))) (vp_Si (fun z => z = r)) 0 0 (fun _ => False) := by
  refine Met.ofW (cc := cc_O_countWithChips) (maxL := 3) (ret := some .int) (by decide) rfl ?_
  intro p e s m args below meth c s₁ B hml hv
  obtain ⟨rfl, hP, hK⟩ := hv
  have hx := B.exec
  have hb := B.bytes
  have hr := B.returns
  have hlocks := B.notSynchronized
  have hk : ∀ w ∈ kw, w.before _ s = true := fun w hw => atoms_spec (ws := (.code yy_O_countWithChips cc_O_countWithChips 3 (some .int) :: kw)) B.pre w (List.mem_cons_of_mem _ hw)
  have hown : s.vm.findClass "OpenDeal" = some m.cls := findClass_of_methodNamed B.named
  have L4 : ∀  (n : Nat) (v1 : Int32) (v2 : Int32), ff_O_countWithChips_4 I J n v1 v2 = some r → ∀ ls, lv_has ls 3 [(0, .ref (ad 0)), (1, .int v1), (2, .int v2)] → W p l e (headSpec (.code yy_O_countWithChips cc_O_countWithChips 3 (some .int) :: kw) { frames := 0, cells := 0, slots := 0, locals := 0 }).room s m ([.ref (ad 0)] : List Value).toArray below meth c s.heap [] 0 0 (MQ below (vp_Si (fun z => z = r)) ([.ref (ad 0)] : List Value).toArray s 0 0 (fun _ => False)) (F0 m 4 ls []) := by
    intro  n
    induction n with
    | zero => intro v1 v2 h; exact absurd h (by simp [ff_O_countWithChips_4])
    | succ n ih =>
      intro v1 v2 h ls hl
      rw [ff_O_countWithChips_4] at h
      refine lv_iload_n hx hb dd_O_countWithChips_4 rfl (lv_at hl 2 rfl) ?_
      refine lv_aload_n hx hb dd_O_countWithChips_5 rfl (lv_at hl 0 rfl) ?_
      refine va_get (D := D) (ci := 0) (v := .int (I 0 2)) (C := "OpenDeal") (T := T_O) (N := 11) hx hb hk in_O hown hK hP 0 at_O rfl 2 (by decide) (hk _ kw_107) (fun _ h9 => h9) rfl dd_O_countWithChips_6 ?_
      refine lv_icmp_ge (tgt := 33) hx hb dd_O_countWithChips_9 (by decide) (fun hc1 => ?_) (fun hc1 => ?_)
      · have h := ip_out hc1 h
        refine lv_iload_n hx hb dd_O_countWithChips_33 rfl (lv_at hl 1 rfl) ?_
        obtain rfl := Option.some.inj h
        exact W.iret hx hb hr (fun t ht hW => ⟨_, rfl, rfl, ht⟩) (fun q hq => by cases hq) dd_O_countWithChips_34
      · have h := in_out hc1 h
        refine lv_aload_n hx hb dd_O_countWithChips_12 rfl (lv_at hl 0 rfl) ?_
        refine va_get (D := D) (ci := 0) (v := .ref (ad 1)) (C := "OpenDeal") (T := T_O) (N := 11) hx hb hk in_O hown hK hP 0 at_O rfl 3 (by decide) (hk _ kw_108) (fun _ h9 => h9) rfl dd_O_countWithChips_13 ?_
        refine lv_iload_n hx hb dd_O_countWithChips_16 rfl (lv_at hl 2 rfl) ?_
        obtain ⟨hi2, h⟩ := oi_out h
        refine ap_ald (b := ad (15 + 6 * (v2).toNatClampNeg)) hx hb hK hP 1 3 at_pl rfl hi2 (if_pos (vi_lt hi2)) dd_O_countWithChips_17 ?_
        refine va_get (D := D) (ci := 1) (v := .int (I (15 + 6 * (v2).toNatClampNeg) 0)) (C := "OpenDeal$Player") (T := T_P) (N := 13) hx hb hk in_P hown hK hP (15 + 6 * (v2).toNatClampNeg) (at_P (isP_of (vi_lt hi2))) rfl 0 (by decide) (hk _ kw_51) (fun _ h9 => h9) rfl dd_O_countWithChips_18 ?_
        refine lv_if_le (tgt := 27) hx hb dd_O_countWithChips_21 (by decide) (fun hc3 => ?_) (fun hc3 => ?_)
        · have h := ip_out hc3 h
          refine lv_iinc (v := v2 + (1 : Int32)) (lv' := [(2, .int (v2 + (1 : Int32))), (0, .ref (ad 0)), (1, .int v1)]) hx hb dd_O_countWithChips_27 hl (k := 2) rfl rfl (by decide) rfl (fun ls hl => ?_)
          refine lv_goto (tgt := 4) hx hb dd_O_countWithChips_30 (by decide) ?_
          exact ih _ _ h _ (lv_sub hl [1, 2, 0] rfl)
        · have h := in_out hc3 h
          refine lv_iinc (v := v1 + (1 : Int32)) (lv' := [(1, .int (v1 + (1 : Int32))), (0, .ref (ad 0)), (2, .int v2)]) hx hb dd_O_countWithChips_24 hl (k := 1) rfl rfl (by decide) rfl (fun ls hl => ?_)
          refine lv_iinc (v := v2 + (1 : Int32)) (lv' := [(2, .int (v2 + (1 : Int32))), (1, .int (v1 + (1 : Int32))), (0, .ref (ad 0))]) hx hb dd_O_countWithChips_27 hl (k := 2) rfl rfl (by decide) rfl (fun ls hl => ?_)
          refine lv_goto (tgt := 4) hx hb dd_O_countWithChips_30 (by decide) ?_
          exact ih _ _ h _ (lv_sub hl [2, 1, 0] rfl)
  have hl := lv_entry ([.ref (ad 0)]) (n := 3) (Nat.le_of_ble_eq_true rfl)
  rw [lg_entry_eq]
  generalize (lg_sl ([.ref (ad 0)]) ++ List.replicate (3 - (lg_sl ([.ref (ad 0)])).length) Slot.unset).toArray = ls at hl ⊢
  have hl : lv_has ls 3 [(0, .ref (ad 0))] := hl
  unfold ff_O_countWithChips at h
  refine lv_iconst (v := 0) hx hb dd_O_countWithChips_0 (by decide) ?_
  refine lv_istore_n (lv' := [(1, .int (0 : Int32)), (0, .ref (ad 0))]) hx hb dd_O_countWithChips_1 rfl hl (by decide) rfl (fun ls hl => ?_)
  refine lv_iconst (v := 0) hx hb dd_O_countWithChips_2 (by decide) ?_
  refine lv_istore_n (lv' := [(2, .int (0 : Int32)), (1, .int (0 : Int32)), (0, .ref (ad 0))]) hx hb dd_O_countWithChips_3 rfl hl (by decide) rfl (fun ls hl => ?_)
  exact L4  _ _ _ h _ (lv_sub hl [2, 1, 0] rfl)
def ff_O_deal_48  : Nat → MI → MJ → Int32 → Option (Int32 × MI × MJ)
  | 0, _, _, _ => none
  | n + 1, I, J, v1 => if (I 0 2) ≤ v1 then ((ff_A_fill n I J 3 (-2 : Int32)).bind fun r2 => some ((1 : Int32), ui (ui r2.1 0 4 (0 : Int32)) 0 1 (1 : Int32), r2.2)) else (if ¬ (v1 < 0 ∨ 4 ≤ (v1).toNatClampNeg) then (ff_P_beginHand n I J (15 + 6 * (v1).toNatClampNeg)).bind fun r4 => ff_O_deal_48 n r4.1 r4.2 (v1 + (1 : Int32)) else none)
def ff_O_deal_33  (n : Nat) (I : MI) (J : MJ)  : Option (Int32 × MI × MJ) := (ff_O_countWithChips n I J ).bind fun r5 => if (I 0 2) ≤ r5 then (ff_O_deal_48 n I J (0 : Int32)) else (some ((0 : Int32), I, J))
def ff_O_deal (n : Nat) (I : MI) (J : MJ)  : Option (Int32 × MI × MJ) := if (I 0 0) = 0 then (some ((0 : Int32), I, J)) else (if (I 0 2) < (2 : Int32) then (some ((0 : Int32), I, J)) else (if (I 0 1) = 0 then (ff_O_deal_33 n I J) else (if (I 0 1) = (6 : Int32) then (ff_O_deal_33 n I J) else (some ((0 : Int32), I, J)))))
set_option maxHeartbeats 4000000 in
set_option maxRecDepth 100000 in
theorem mm_O_deal (l : Launch) (D : va_G) (kc : Nat → ClassId) (ad : Nat → Nat) (I0 : MI) (J0 : MJ) (sz n : Nat)  (r : Int32 × MI × MJ) (h : ff_O_deal n I0 J0  = some r) : Met l yy_O_deal (.code yy_O_deal cc_O_deal 2 (some .boolean) :: kw) { frames := 2, cells := 0, slots := 0, locals := 44 } (va_Pc [.ref (ad 0)] (BW D kc (wC kc ad I0 J0) sz)) (va_Qi (fun z (_ : Unit) => z = r.1) (EW D kc (va_A (wC kc ad I0 J0) sz) (wC kc ad r.2.1 r.2.2)) (va_A (wC kc ad I0 J0) sz)) 0 0 (va_A (wC kc ad I0 J0) sz) := by
  refine Met.ofW (cc := cc_O_deal) (maxL := 2) (ret := some .boolean) (by decide) rfl ?_
  intro p e s m args below meth c s₁ B hml hv
  obtain ⟨rfl, hsz, hP, hK, hD0⟩ := hv
  have hx := B.exec
  have hb := B.bytes
  have hr := B.returns
  have hlocks := B.notSynchronized
  have hk : ∀ w ∈ kw, w.before _ s = true := fun w hw => atoms_spec (ws := (.code yy_O_deal cc_O_deal 2 (some .boolean) :: kw)) B.pre w (List.mem_cons_of_mem _ hw)
  have hown : s.vm.findClass "OpenDeal" = some m.cls := findClass_of_methodNamed B.named
  subst hsz
  have hD := hD0.self (sz := s.heap.size)
  generalize hAe : va_A (wC kc ad I0 J0) s.heap.size = A at hD ⊢
  have hA : ∀ q : Nat, s.heap.size ≤ q → A q := fun q h => by rw [← hAe]; exact Or.inr h
  have hS : va_S A s.heap s.heap [] := va_S.rf
  have hP : va_P D cls5 (wC kc ad I0 J0) s.heap := hP
  clear hAe hD0
  have L48 : ∀  (n : Nat) (I : MI) (J : MJ) (v1 : Int32), ff_O_deal_48 n I J v1 = some r → ∀ (H : Heap) (locs : List Loc), va_P D cls5 (wC kc ad I J) H → va_D A (wC kc ad I J) → va_S A s.heap H locs → ∀ ls, lv_has ls 2 [(0, .ref (ad 0)), (1, .int v1)] → W p l e (headSpec (.code yy_O_deal cc_O_deal 2 (some .boolean) :: kw) { frames := 2, cells := 0, slots := 0, locals := 44 }).room s m ([.ref (ad 0)] : List Value).toArray below meth c H locs 0 0 (MQ below (va_Qi (fun z (_ : Unit) => z = r.1) (EW D kc A (wC kc ad r.2.1 r.2.2)) A) ([.ref (ad 0)] : List Value).toArray s 0 0 A) (F0 m 48 ls []) := by
    intro  n
    induction n with
    | zero => intro I J v1 h; exact absurd h (by simp [ff_O_deal_48])
    | succ n ih =>
      intro I J v1 h H locs hP hD hS ls hl
      rw [ff_O_deal_48] at h
      refine lv_iload_n hx hb dd_O_deal_48 rfl (lv_at hl 1 rfl) ?_
      refine lv_aload_n hx hb dd_O_deal_49 rfl (lv_at hl 0 rfl) ?_
      refine va_get (D := D) (ci := 0) (v := .int (I 0 2)) (C := "OpenDeal") (T := T_O) (N := 11) hx hb hk in_O hown hK hP 0 at_O rfl 2 (by decide) (hk _ kw_107) (fun _ h9 => h9) rfl dd_O_deal_50 ?_
      refine lv_icmp_ge (tgt := 71) hx hb dd_O_deal_53 (by decide) (fun hc1 => ?_) (fun hc1 => ?_)
      · have h := ip_out hc1 h
        refine lv_aload_n hx hb dd_O_deal_71 rfl (lv_at hl 0 rfl) ?_
        refine va_get (D := D) (ci := 0) (v := .ref (ad 3)) (C := "OpenDeal") (T := T_O) (N := 11) hx hb hk in_O hown hK hP 0 at_O rfl 6 (by decide) (hk _ kw_111) (fun _ h9 => h9) rfl dd_O_deal_72 ?_
        refine lv_bipush (v := -2) hx hb dd_O_deal_75 (by decide) ?_
        obtain ⟨r2, hr2, h⟩ := ob_out h
        refine cw_Sv (n := 2) (As := [.ref (ad 3), .int (-2 : Int32)]) (mc := 0) (ms := 0) hx hb hml hown hk (mm_A_fill l D kc ad _ _ _ _ _ isA3 _ _ hr2) hK hP hD hS hA kw_191 kw_178 kw_6 kw_179 ⟨rfl, rfl⟩ (by decide +kernel) ⟨Nat.le_of_ble_eq_true rfl, Nat.le_of_ble_eq_true rfl⟩ rfl hl.1 rfl (Nat.le_of_ble_eq_true rfl) dd_O_deal_77 ⟨Nat.le_of_ble_eq_true rfl, Nat.le_of_ble_eq_true rfl⟩ (fun H locs hP hD hS => ?_)
        refine lv_aload_n hx hb dd_O_deal_80 rfl (lv_at hl 0 rfl) ?_
        refine lv_iconst (v := 0) hx hb dd_O_deal_81 (by decide) ?_
        refine va_put (D := D) (ci := 0) (v := .int (0 : Int32)) (ty := .int) (C := "OpenDeal") (T := T_O) (N := 11) hx hb hk in_O ty_O tk_O nm_O hown hK hP hD hS 0 at_O rfl 4 (by decide) (hk _ kw_109) (fun _ h9 => h9) rfl (by decide +kernel) rfl rfl (Nat.le_of_ble_eq_true rfl) dd_O_deal_82 (fun H locs hP hD hS => ?_)
        rw [pt_O4] at hP hD
        refine lv_aload_n hx hb dd_O_deal_85 rfl (lv_at hl 0 rfl) ?_
        refine lv_iconst (v := 1) hx hb dd_O_deal_86 (by decide) ?_
        refine va_put (D := D) (ci := 0) (v := .int (1 : Int32)) (ty := .int) (C := "OpenDeal") (T := T_O) (N := 11) hx hb hk in_O ty_O tk_O nm_O hown hK hP hD hS 0 at_O rfl 1 (by decide) (hk _ kw_106) (fun _ h9 => h9) rfl (by decide +kernel) rfl rfl (Nat.le_of_ble_eq_true rfl) dd_O_deal_87 (fun H locs hP hD hS => ?_)
        rw [pt_O1] at hP hD
        refine lv_iconst (v := 1) hx hb dd_O_deal_90 (by decide) ?_
        obtain rfl := Option.some.inj h
        exact W.zret hx hb hr rfl (fun t ht hW => ⟨⟨_, (), rfl, rfl, by rw [ht]; exact hP, va_K.moved hW.alike hK, hD⟩, hS.F ht⟩) hS.2.2 dd_O_deal_91
      · have h := in_out hc1 h
        refine lv_aload_n hx hb dd_O_deal_56 rfl (lv_at hl 0 rfl) ?_
        refine va_get (D := D) (ci := 0) (v := .ref (ad 1)) (C := "OpenDeal") (T := T_O) (N := 11) hx hb hk in_O hown hK hP 0 at_O rfl 3 (by decide) (hk _ kw_108) (fun _ h9 => h9) rfl dd_O_deal_57 ?_
        refine lv_iload_n hx hb dd_O_deal_60 rfl (lv_at hl 1 rfl) ?_
        obtain ⟨hi3, h⟩ := oi_out h
        refine ap_ald (b := ad (15 + 6 * (v1).toNatClampNeg)) hx hb hK hP 1 3 at_pl rfl hi3 (if_pos (vi_lt hi3)) dd_O_deal_61 ?_
        obtain ⟨r4, hr4, h⟩ := ob_out h
        refine cw_Vv (n := 0) (As := []) (mc := 0) (ms := 0) hx hb hml hown hk (mm_P_beginHand l D kc ad _ _ _ _ _ (isP_of (vi_lt hi3)) _ hr4) hK hP hD hS hA (15 + 6 * (v1).toNatClampNeg) (at_P (isP_of (vi_lt hi3))) rfl rfl kw_173 kw_174 kw_175 kw_2 kw_176 ⟨rfl, rfl⟩ (by decide +kernel) ⟨Nat.le_of_ble_eq_true rfl, Nat.le_of_ble_eq_true rfl⟩ rfl hl.1 rfl (Nat.le_of_ble_eq_true rfl) dd_O_deal_62 ⟨Nat.le_of_ble_eq_true rfl, Nat.le_of_ble_eq_true rfl⟩ (fun H locs hP hD hS => ?_)
        refine lv_iinc (v := v1 + (1 : Int32)) (lv' := [(1, .int (v1 + (1 : Int32))), (0, .ref (ad 0))]) hx hb dd_O_deal_65 hl (k := 1) rfl rfl (by decide) rfl (fun ls hl => ?_)
        refine lv_goto (tgt := 48) hx hb dd_O_deal_68 (by decide) ?_
        exact ih _ _ _ h _ _ hP hD hS _ (lv_sub hl [1, 0] rfl)
  have L33 : ∀  (n : Nat) (I : MI) (J : MJ) , ff_O_deal_33 n I J  = some r → ∀ (H : Heap) (locs : List Loc), va_P D cls5 (wC kc ad I J) H → va_D A (wC kc ad I J) → va_S A s.heap H locs → ∀ ls, lv_has ls 2 [(0, .ref (ad 0))] → W p l e (headSpec (.code yy_O_deal cc_O_deal 2 (some .boolean) :: kw) { frames := 2, cells := 0, slots := 0, locals := 44 }).room s m ([.ref (ad 0)] : List Value).toArray below meth c H locs 0 0 (MQ below (va_Qi (fun z (_ : Unit) => z = r.1) (EW D kc A (wC kc ad r.2.1 r.2.2)) A) ([.ref (ad 0)] : List Value).toArray s 0 0 A) (F0 m 33 ls []) := by
    intro  n I J h H locs hP hD hS ls hl
    unfold ff_O_deal_33 at h
    refine lv_aload_n hx hb dd_O_deal_33 rfl (lv_at hl 0 rfl) ?_
    obtain ⟨r5, hr5, h⟩ := ob_out h
    refine cr_Vi (n := 0) (As := []) hx hb hml hown hk (mm_O_countWithChips l D kc ad _ _ _  _ hr5) hK hP 0 at_O rfl rfl kw_187 kw_189 sel_O_countWithChips kw_1 kw_190 ⟨rfl, rfl⟩ (by decide +kernel) ⟨Nat.le_of_ble_eq_true rfl, Nat.le_of_ble_eq_true rfl⟩ rfl hl.1 rfl (Nat.le_of_ble_eq_true rfl) dd_O_deal_34 ⟨Nat.le_of_ble_eq_true rfl, Nat.le_of_ble_eq_true rfl⟩ ?_
    refine lv_aload_n hx hb dd_O_deal_37 rfl (lv_at hl 0 rfl) ?_
    refine va_get (D := D) (ci := 0) (v := .int (I 0 2)) (C := "OpenDeal") (T := T_O) (N := 11) hx hb hk in_O hown hK hP 0 at_O rfl 2 (by decide) (hk _ kw_107) (fun _ h9 => h9) rfl dd_O_deal_38 ?_
    refine lv_icmp_ge (tgt := 46) hx hb dd_O_deal_41 (by decide) (fun hc6 => ?_) (fun hc6 => ?_)
    · have h := ip_out hc6 h
      refine lv_iconst (v := 0) hx hb dd_O_deal_46 (by decide) ?_
      refine lv_istore_n (lv' := [(1, .int (0 : Int32)), (0, .ref (ad 0))]) hx hb dd_O_deal_47 rfl hl (by decide) rfl (fun ls hl => ?_)
      exact L48  _ _ _ _ h _ _ hP hD hS _ (lv_sub hl [1, 0] rfl)
    · have h := in_out hc6 h
      refine lv_iconst (v := 0) hx hb dd_O_deal_44 (by decide) ?_
      obtain rfl := Option.some.inj h
      exact W.zret hx hb hr rfl (fun t ht hW => ⟨⟨_, (), rfl, rfl, by rw [ht]; exact hP, va_K.moved hW.alike hK, hD⟩, hS.F ht⟩) hS.2.2 dd_O_deal_45
  have hl := lv_entry ([.ref (ad 0)]) (n := 2) (Nat.le_of_ble_eq_true rfl)
  rw [lg_entry_eq]
  generalize (lg_sl ([.ref (ad 0)]) ++ List.replicate (2 - (lg_sl ([.ref (ad 0)])).length) Slot.unset).toArray = ls at hl ⊢
  have hl : lv_has ls 2 [(0, .ref (ad 0))] := hl
  unfold ff_O_deal at h
  refine lv_aload_n hx hb dd_O_deal_0 rfl (lv_at hl 0 rfl) ?_
  refine va_get (D := D) (ci := 0) (v := .int (I0 0 0)) (C := "OpenDeal") (T := T_O) (N := 11) hx hb hk in_O hown hK hP 0 at_O rfl 0 (by decide) (hk _ kw_105) (fun _ h9 => h9) rfl dd_O_deal_1 ?_
  refine lv_if_eq (tgt := 31) hx hb dd_O_deal_4 (by decide) (fun hc7 => ?_) (fun hc7 => ?_)
  · have h := ip_out hc7 h
    refine lv_iconst (v := 0) hx hb dd_O_deal_31 (by decide) ?_
    obtain rfl := Option.some.inj h
    exact W.zret hx hb hr rfl (fun t ht hW => ⟨⟨_, (), rfl, rfl, by rw [ht]; exact hP, va_K.moved hW.alike hK, hD⟩, hS.F ht⟩) hS.2.2 dd_O_deal_32
  · have h := in_out hc7 h
    refine lv_aload_n hx hb dd_O_deal_7 rfl (lv_at hl 0 rfl) ?_
    refine va_get (D := D) (ci := 0) (v := .int (I0 0 2)) (C := "OpenDeal") (T := T_O) (N := 11) hx hb hk in_O hown hK hP 0 at_O rfl 2 (by decide) (hk _ kw_107) (fun _ h9 => h9) rfl dd_O_deal_8 ?_
    refine lv_iconst (v := 2) hx hb dd_O_deal_11 (by decide) ?_
    refine lv_icmp_lt (tgt := 31) hx hb dd_O_deal_12 (by decide) (fun hc8 => ?_) (fun hc8 => ?_)
    · have h := ip_out hc8 h
      refine lv_iconst (v := 0) hx hb dd_O_deal_31 (by decide) ?_
      obtain rfl := Option.some.inj h
      exact W.zret hx hb hr rfl (fun t ht hW => ⟨⟨_, (), rfl, rfl, by rw [ht]; exact hP, va_K.moved hW.alike hK, hD⟩, hS.F ht⟩) hS.2.2 dd_O_deal_32
    · have h := in_out hc8 h
      refine lv_aload_n hx hb dd_O_deal_15 rfl (lv_at hl 0 rfl) ?_
      refine va_get (D := D) (ci := 0) (v := .int (I0 0 1)) (C := "OpenDeal") (T := T_O) (N := 11) hx hb hk in_O hown hK hP 0 at_O rfl 1 (by decide) (hk _ kw_106) (fun _ h9 => h9) rfl dd_O_deal_16 ?_
      refine lv_if_eq (tgt := 33) hx hb dd_O_deal_19 (by decide) (fun hc9 => ?_) (fun hc9 => ?_)
      · have h := ip_out hc9 h
        exact L33  _ _ _ h _ _ hP hD hS _ (lv_sub hl [0] rfl)
      · have h := in_out hc9 h
        refine lv_aload_n hx hb dd_O_deal_22 rfl (lv_at hl 0 rfl) ?_
        refine va_get (D := D) (ci := 0) (v := .int (I0 0 1)) (C := "OpenDeal") (T := T_O) (N := 11) hx hb hk in_O hown hK hP 0 at_O rfl 1 (by decide) (hk _ kw_106) (fun _ h9 => h9) rfl dd_O_deal_23 ?_
        refine lv_bipush (v := 6) hx hb dd_O_deal_26 (by decide) ?_
        refine lv_icmp_eq (tgt := 33) hx hb dd_O_deal_28 (by decide) (fun hc10 => ?_) (fun hc10 => ?_)
        · have h := ip_out hc10 h
          exact L33  _ _ _ h _ _ hP hD hS _ (lv_sub hl [0] rfl)
        · have h := in_out hc10 h
          refine lv_iconst (v := 0) hx hb dd_O_deal_31 (by decide) ?_
          obtain rfl := Option.some.inj h
          exact W.zret hx hb hr rfl (fun t ht hW => ⟨⟨_, (), rfl, rfl, by rw [ht]; exact hP, va_K.moved hW.alike hK, hD⟩, hS.F ht⟩) hS.2.2 dd_O_deal_32
def ff_O_isSeated (n : Nat) (I : MI) (J : MJ) (a1 : Int32) : Option (Int32) := if a1 < 0 then (some (0 : Int32)) else (if (I 0 2) ≤ a1 then (some (0 : Int32)) else (some (1 : Int32)))
set_option maxHeartbeats 4000000 in
set_option maxRecDepth 100000 in
theorem mm_O_isSeated (l : Launch) (D : va_G) (kc : Nat → ClassId) (ad : Nat → Nat) (I : MI) (J : MJ) (n : Nat) (a1 : Int32) (r : Int32) (h : ff_O_isSeated n I J a1 = some r) : Met l yy_O_isSeated (.code yy_O_isSeated cc_O_isSeated 2 (some .boolean) :: kw) { frames := 0, cells := 0, slots := 0, locals := 0 } (va_Pc [.ref (ad 0), .int a1] (BR D kc (wC kc ad I J))) (vp_Si (fun z => z = r)) 0 0 (fun _ => False) := by
  refine Met.ofW (cc := cc_O_isSeated) (maxL := 2) (ret := some .boolean) (by decide) rfl ?_
  intro p e s m args below meth c s₁ B hml hv
  obtain ⟨rfl, hP, hK⟩ := hv
  have hx := B.exec
  have hb := B.bytes
  have hr := B.returns
  have hlocks := B.notSynchronized
  have hk : ∀ w ∈ kw, w.before _ s = true := fun w hw => atoms_spec (ws := (.code yy_O_isSeated cc_O_isSeated 2 (some .boolean) :: kw)) B.pre w (List.mem_cons_of_mem _ hw)
  have hown : s.vm.findClass "OpenDeal" = some m.cls := findClass_of_methodNamed B.named
  have hl := lv_entry ([.ref (ad 0), .int a1]) (n := 2) (Nat.le_of_ble_eq_true rfl)
  rw [lg_entry_eq]
  generalize (lg_sl ([.ref (ad 0), .int a1]) ++ List.replicate (2 - (lg_sl ([.ref (ad 0), .int a1])).length) Slot.unset).toArray = ls at hl ⊢
  have hl : lv_has ls 2 [(0, .ref (ad 0)), (1, .int a1)] := hl
  unfold ff_O_isSeated at h
  refine lv_iload_n hx hb dd_O_isSeated_0 rfl (lv_at hl 1 rfl) ?_
  refine lv_if_lt (tgt := 16) hx hb dd_O_isSeated_1 (by decide) (fun hc1 => ?_) (fun hc1 => ?_)
  · have h := ip_out hc1 h
    refine lv_iconst (v := 0) hx hb dd_O_isSeated_16 (by decide) ?_
    obtain rfl := Option.some.inj h
    exact W.zret hx hb hr rfl (fun t ht hW => ⟨_, rfl, rfl, ht⟩) (fun q hq => by cases hq) dd_O_isSeated_17
  · have h := in_out hc1 h
    refine lv_iload_n hx hb dd_O_isSeated_4 rfl (lv_at hl 1 rfl) ?_
    refine lv_aload_n hx hb dd_O_isSeated_5 rfl (lv_at hl 0 rfl) ?_
    refine va_get (D := D) (ci := 0) (v := .int (I 0 2)) (C := "OpenDeal") (T := T_O) (N := 11) hx hb hk in_O hown hK hP 0 at_O rfl 2 (by decide) (hk _ kw_107) (fun _ h9 => h9) rfl dd_O_isSeated_6 ?_
    refine lv_icmp_ge (tgt := 16) hx hb dd_O_isSeated_9 (by decide) (fun hc2 => ?_) (fun hc2 => ?_)
    · have h := ip_out hc2 h
      refine lv_iconst (v := 0) hx hb dd_O_isSeated_16 (by decide) ?_
      obtain rfl := Option.some.inj h
      exact W.zret hx hb hr rfl (fun t ht hW => ⟨_, rfl, rfl, ht⟩) (fun q hq => by cases hq) dd_O_isSeated_17
    · have h := in_out hc2 h
      refine lv_iconst (v := 1) hx hb dd_O_isSeated_12 (by decide) ?_
      refine lv_goto (tgt := 17) hx hb dd_O_isSeated_13 (by decide) ?_
      obtain rfl := Option.some.inj h
      exact W.zret hx hb hr rfl (fun t ht hW => ⟨_, rfl, rfl, ht⟩) (fun q hq => by cases hq) dd_O_isSeated_17
def ff_S_keep (n : Nat) (I : MI) (J : MJ) (a0 : Nat) (a1 : Int32) (a2 : Int64) (a4 : Int64) : Option (MI × MJ) := some (ui I a0 0 a1, uj (uj J a0 1 a2) a0 2 a4)
set_option maxHeartbeats 4000000 in
set_option maxRecDepth 100000 in
theorem mm_S_keep (l : Launch) (D : va_G) (kc : Nat → ClassId) (ad : Nat → Nat) (I0 : MI) (J0 : MJ) (sz n : Nat) (a0 : Nat) (ha0 : isS a0) (a1 : Int32) (a2 : Int64) (a4 : Int64) (r : MI × MJ) (h : ff_S_keep n I0 J0 a0 a1 a2 a4 = some r) : Met l yy_S_keep (.code yy_S_keep cc_S_keep 6 (none) :: kw) { frames := 0, cells := 0, slots := 0, locals := 0 } (va_Pc [.ref (ad a0), .int a1, .long a2, .long a4] (BW D kc (wC kc ad I0 J0) sz)) (va_Qv (fun (_ : Unit) => True) (EW D kc (va_A (wC kc ad I0 J0) sz) (wC kc ad r.1 r.2)) (va_A (wC kc ad I0 J0) sz)) 0 0 (va_A (wC kc ad I0 J0) sz) := by
  refine Met.ofW (cc := cc_S_keep) (maxL := 6) (ret := none) (by decide) rfl ?_
  intro p e s m args below meth c s₁ B hml hv
  obtain ⟨rfl, hsz, hP, hK, hD0⟩ := hv
  have hx := B.exec
  have hb := B.bytes
  have hr := B.returns
  have hlocks := B.notSynchronized
  have hk : ∀ w ∈ kw, w.before _ s = true := fun w hw => atoms_spec (ws := (.code yy_S_keep cc_S_keep 6 (none) :: kw)) B.pre w (List.mem_cons_of_mem _ hw)
  have hown : s.vm.findClass "OpenDeal$Secrets" = some m.cls := findClass_of_methodNamed B.named
  subst hsz
  have hD := hD0.self (sz := s.heap.size)
  generalize hAe : va_A (wC kc ad I0 J0) s.heap.size = A at hD ⊢
  have hA : ∀ q : Nat, s.heap.size ≤ q → A q := fun q h => by rw [← hAe]; exact Or.inr h
  have hS : va_S A s.heap s.heap [] := va_S.rf
  have hP : va_P D cls5 (wC kc ad I0 J0) s.heap := hP
  clear hAe hD0
  have hl := lv_entry ([.ref (ad a0), .int a1, .long a2, .long a4]) (n := 6) (Nat.le_of_ble_eq_true rfl)
  rw [lg_entry_eq]
  generalize (lg_sl ([.ref (ad a0), .int a1, .long a2, .long a4]) ++ List.replicate (6 - (lg_sl ([.ref (ad a0), .int a1, .long a2, .long a4])).length) Slot.unset).toArray = ls at hl ⊢
  have hl : lv_has ls 6 [(0, .ref (ad a0)), (1, .int a1), (2, .long a2), (4, .long a4)] := hl
  unfold ff_S_keep at h
  refine lv_aload_n hx hb dd_S_keep_0 rfl (lv_at hl 0 rfl) ?_
  refine lv_iload_n hx hb dd_S_keep_1 rfl (lv_at hl 1 rfl) ?_
  refine va_put (D := D) (ci := 2) (v := .int a1) (ty := .int) (C := "OpenDeal$Secrets") (T := T_S) (N := 3) hx hb hk in_S ty_S tk_S nm_S hown hK hP hD hS a0 (at_S ha0) rfl 0 (by decide) (hk _ kw_35) (fun _ h9 => h9) rfl (by decide +kernel) rfl rfl (Nat.le_of_ble_eq_true rfl) dd_S_keep_2 (fun H locs hP hD hS => ?_)
  rw [pt_S0 ha0] at hP hD
  refine lv_aload_n hx hb dd_S_keep_5 rfl (lv_at hl 0 rfl) ?_
  refine lv_lload_n hx hb dd_S_keep_6 rfl (lv_at hl 2 rfl) ?_
  refine va_put (D := D) (ci := 2) (v := .long a2) (ty := .long) (C := "OpenDeal$Secrets") (T := T_S) (N := 3) hx hb hk in_S ty_S tk_S nm_S hown hK hP hD hS a0 (at_S ha0) rfl 1 (by decide) (hk _ kw_38) (fun _ h9 => h9) rfl (by decide +kernel) rfl rfl (Nat.le_of_ble_eq_true rfl) dd_S_keep_7 (fun H locs hP hD hS => ?_)
  rw [pt_S1 ha0] at hP hD
  refine lv_aload_n hx hb dd_S_keep_10 rfl (lv_at hl 0 rfl) ?_
  refine lv_lload hx hb dd_S_keep_11 (lv_at hl 3 rfl) ?_
  refine va_put (D := D) (ci := 2) (v := .long a4) (ty := .long) (C := "OpenDeal$Secrets") (T := T_S) (N := 3) hx hb hk in_S ty_S tk_S nm_S hown hK hP hD hS a0 (at_S ha0) rfl 2 (by decide) (hk _ kw_41) (fun _ h9 => h9) rfl (by decide +kernel) rfl rfl (Nat.le_of_ble_eq_true rfl) dd_S_keep_13 (fun H locs hP hD hS => ?_)
  rw [pt_S2 ha0] at hP hD
  obtain rfl := Option.some.inj h
  exact W.vret hx hb hr (fun t ht hW => ⟨⟨(), rfl, trivial, by rw [ht]; exact hP, va_K.moved hW.alike hK, hD⟩, hS.F ht⟩) hS.2.2 dd_S_keep_16
def ff_S_mark (n : Nat) (I : MI) (J : MJ) (a0 : Nat) : Option (Int64) := tl (Int32.toInt64 (I a0 0)) fun y1 => tl (((y1 ^^^ ((Int64.toUInt64 y1 >>> ((Int32.toInt64 (29 : Int32)).toUInt64 &&& Int64.toUInt64 63)).toInt64)) * (-4658895280553007687 : Int64)) + (J a0 1)) fun y2 => tl (((y2 ^^^ ((Int64.toUInt64 y2 >>> ((Int32.toInt64 (32 : Int32)).toUInt64 &&& Int64.toUInt64 63)).toInt64)) * (-7723592293110705685 : Int64)) + (J a0 2)) fun y3 => tl ((y3 ^^^ ((Int64.toUInt64 y3 >>> ((Int32.toInt64 (29 : Int32)).toUInt64 &&& Int64.toUInt64 63)).toInt64)) * (-4658895280553007687 : Int64)) fun y4 => some (y4 ^^^ ((Int64.toUInt64 y4 >>> ((Int32.toInt64 (32 : Int32)).toUInt64 &&& Int64.toUInt64 63)).toInt64))
set_option maxHeartbeats 4000000 in
set_option maxRecDepth 100000 in
theorem mm_S_mark (l : Launch) (D : va_G) (kc : Nat → ClassId) (ad : Nat → Nat) (I : MI) (J : MJ) (n : Nat) (a0 : Nat) (ha0 : isS a0) (r : Int64) (h : ff_S_mark n I J a0 = some r) : Met l yy_S_mark (.code yy_S_mark cc_S_mark 3 (some .long) :: kw) { frames := 0, cells := 0, slots := 0, locals := 0 } (va_Pc [.ref (ad a0)] (BR D kc (wC kc ad I J))) (vp_Sl (fun z => z = r)) 0 0 (fun _ => False) := by
  refine Met.ofW (cc := cc_S_mark) (maxL := 3) (ret := some .long) (by decide) rfl ?_
  intro p e s m args below meth c s₁ B hml hv
  obtain ⟨rfl, hP, hK⟩ := hv
  have hx := B.exec
  have hb := B.bytes
  have hr := B.returns
  have hlocks := B.notSynchronized
  have hk : ∀ w ∈ kw, w.before _ s = true := fun w hw => atoms_spec (ws := (.code yy_S_mark cc_S_mark 3 (some .long) :: kw)) B.pre w (List.mem_cons_of_mem _ hw)
  have hown : s.vm.findClass "OpenDeal$Secrets" = some m.cls := findClass_of_methodNamed B.named
  have hl := lv_entry ([.ref (ad a0)]) (n := 3) (Nat.le_of_ble_eq_true rfl)
  rw [lg_entry_eq]
  generalize (lg_sl ([.ref (ad a0)]) ++ List.replicate (3 - (lg_sl ([.ref (ad a0)])).length) Slot.unset).toArray = ls at hl ⊢
  have hl : lv_has ls 3 [(0, .ref (ad a0))] := hl
  unfold ff_S_mark at h
  refine lv_aload_n hx hb dd_S_mark_0 rfl (lv_at hl 0 rfl) ?_
  refine va_get (D := D) (ci := 2) (v := .int (I a0 0)) (C := "OpenDeal$Secrets") (T := T_S) (N := 3) hx hb hk in_S hown hK hP a0 (at_S ha0) rfl 0 (by decide) (hk _ kw_35) (fun _ h9 => h9) rfl dd_S_mark_1 ?_
  refine lv_i2l hx hb dd_S_mark_4 rfl ?_
  refine lv_topl (fun y1 ey1 => ?_)
  have h := tl_at ey1 h
  refine lv_lstore_n (lv' := [(1, .long y1), (0, .ref (ad a0))]) hx hb dd_S_mark_5 rfl hl (by decide) rfl (fun ls hl => ?_)
  refine lv_lload_n hx hb dd_S_mark_6 rfl (lv_at hl 0 rfl) ?_
  refine lv_lload_n hx hb dd_S_mark_7 rfl (lv_at hl 0 rfl) ?_
  refine lv_bipush (v := 29) hx hb dd_S_mark_8 (by decide) ?_
  refine lv_lushr hx hb dd_S_mark_10 rfl ?_
  refine lv_lxor hx hb dd_S_mark_11 ?_
  refine lv_ldc2 (v := -4658895280553007687) hx hb hown (hk _ kw_211) dd_S_mark_12 ?_
  refine lv_lmul hx hb dd_S_mark_15 ?_
  refine lv_aload_n hx hb dd_S_mark_16 rfl (lv_at hl 1 rfl) ?_
  refine va_get (D := D) (ci := 2) (v := .long (J a0 1)) (C := "OpenDeal$Secrets") (T := T_S) (N := 3) hx hb hk in_S hown hK hP a0 (at_S ha0) rfl 1 (by decide) (hk _ kw_38) (fun _ h9 => h9) rfl dd_S_mark_17 ?_
  refine lv_ladd hx hb dd_S_mark_20 ?_
  refine lv_topl (fun y2 ey2 => ?_)
  have h := tl_at ey2 h
  refine lv_lstore_n (lv' := [(1, .long y2), (0, .ref (ad a0))]) hx hb dd_S_mark_21 rfl hl (by decide) rfl (fun ls hl => ?_)
  refine lv_lload_n hx hb dd_S_mark_22 rfl (lv_at hl 0 rfl) ?_
  refine lv_lload_n hx hb dd_S_mark_23 rfl (lv_at hl 0 rfl) ?_
  refine lv_bipush (v := 32) hx hb dd_S_mark_24 (by decide) ?_
  refine lv_lushr hx hb dd_S_mark_26 rfl ?_
  refine lv_lxor hx hb dd_S_mark_27 ?_
  refine lv_ldc2 (v := -7723592293110705685) hx hb hown (hk _ kw_212) dd_S_mark_28 ?_
  refine lv_lmul hx hb dd_S_mark_31 ?_
  refine lv_aload_n hx hb dd_S_mark_32 rfl (lv_at hl 1 rfl) ?_
  refine va_get (D := D) (ci := 2) (v := .long (J a0 2)) (C := "OpenDeal$Secrets") (T := T_S) (N := 3) hx hb hk in_S hown hK hP a0 (at_S ha0) rfl 2 (by decide) (hk _ kw_41) (fun _ h9 => h9) rfl dd_S_mark_33 ?_
  refine lv_ladd hx hb dd_S_mark_36 ?_
  refine lv_topl (fun y3 ey3 => ?_)
  have h := tl_at ey3 h
  refine lv_lstore_n (lv' := [(1, .long y3), (0, .ref (ad a0))]) hx hb dd_S_mark_37 rfl hl (by decide) rfl (fun ls hl => ?_)
  refine lv_lload_n hx hb dd_S_mark_38 rfl (lv_at hl 0 rfl) ?_
  refine lv_lload_n hx hb dd_S_mark_39 rfl (lv_at hl 0 rfl) ?_
  refine lv_bipush (v := 29) hx hb dd_S_mark_40 (by decide) ?_
  refine lv_lushr hx hb dd_S_mark_42 rfl ?_
  refine lv_lxor hx hb dd_S_mark_43 ?_
  refine lv_ldc2 (v := -4658895280553007687) hx hb hown (hk _ kw_211) dd_S_mark_44 ?_
  refine lv_lmul hx hb dd_S_mark_47 ?_
  refine lv_topl (fun y4 ey4 => ?_)
  have h := tl_at ey4 h
  refine lv_lstore_n (lv' := [(1, .long y4), (0, .ref (ad a0))]) hx hb dd_S_mark_48 rfl hl (by decide) rfl (fun ls hl => ?_)
  refine lv_lload_n hx hb dd_S_mark_49 rfl (lv_at hl 0 rfl) ?_
  refine lv_lload_n hx hb dd_S_mark_50 rfl (lv_at hl 0 rfl) ?_
  refine lv_bipush (v := 32) hx hb dd_S_mark_51 (by decide) ?_
  refine lv_lushr hx hb dd_S_mark_53 rfl ?_
  refine lv_lxor hx hb dd_S_mark_54 ?_
  obtain rfl := Option.some.inj h
  exact W.lret hx hb hr (fun t ht hW => ⟨_, rfl, rfl, ht⟩) (fun q hq => by cases hq) dd_S_mark_55
def ff_D_init (n : Nat) (I : MI) (J : MJ) (a1 : Int64) : Option (MI × MJ) := some (I, uj J 39 0 a1)
set_option maxHeartbeats 4000000 in
set_option maxRecDepth 100000 in
theorem mm_D_init (l : Launch) (D : va_G) (kc : Nat → ClassId) (ad : Nat → Nat) (I0 : MI) (J0 : MJ) (sz n : Nat) (a1 : Int64) (r : MI × MJ) (h : ff_D_init n I0 J0 a1 = some r) : Met l yy_D_init (.code yy_D_init cc_D_init 3 (none) :: kw) { frames := 1, cells := 0, slots := 0, locals := 20 } (va_Pc [.ref (ad 39), .long a1] (BW D kc (wE kc ad I0 J0) sz)) (va_Qv (fun (_ : Unit) => True) (EW D kc (va_A (wE kc ad I0 J0) sz) (wE kc ad r.1 r.2)) (va_A (wE kc ad I0 J0) sz)) 0 0 (va_A (wE kc ad I0 J0) sz) := by
  refine Met.ofW (cc := cc_D_init) (maxL := 3) (ret := none) (by decide) rfl ?_
  intro p e s m args below meth c s₁ B hml hv
  obtain ⟨rfl, hsz, hP, hK, hD0⟩ := hv
  have hx := B.exec
  have hb := B.bytes
  have hr := B.returns
  have hlocks := B.notSynchronized
  have hk : ∀ w ∈ kw, w.before _ s = true := fun w hw => atoms_spec (ws := (.code yy_D_init cc_D_init 3 (none) :: kw)) B.pre w (List.mem_cons_of_mem _ hw)
  have hown : s.vm.findClass "OpenDeal$Draws" = some m.cls := findClass_of_methodNamed B.named
  subst hsz
  have hD := hD0.self (sz := s.heap.size)
  generalize hAe : va_A (wE kc ad I0 J0) s.heap.size = A at hD ⊢
  have hA : ∀ q : Nat, s.heap.size ≤ q → A q := fun q h => by rw [← hAe]; exact Or.inr h
  have hS : va_S A s.heap s.heap [] := va_S.rf
  have hP : va_P D cls5 (wE kc ad I0 J0) s.heap := hP
  clear hAe hD0
  have hl := lv_entry ([.ref (ad 39), .long a1]) (n := 3) (Nat.le_of_ble_eq_true rfl)
  rw [lg_entry_eq]
  generalize (lg_sl ([.ref (ad 39), .long a1]) ++ List.replicate (3 - (lg_sl ([.ref (ad 39), .long a1])).length) Slot.unset).toArray = ls at hl ⊢
  have hl : lv_has ls 3 [(0, .ref (ad 39)), (1, .long a1)] := hl
  unfold ff_D_init at h
  refine lv_aload_n hx hb dd_D_init_0 rfl (lv_at hl 0 rfl) ?_
  refine W.objInit hx hb hown (hk _ kw_221) (hk _ kw_20) (hk _ kw_21) rfl (by rw [hml]; exact hl.1) rfl dd_D_init_1 (Nat.le_of_ble_eq_true rfl) (Nat.le_of_ble_eq_true rfl) ?_
  refine W.eq (g2 := F0 m 4 ls []) rfl ?_
  refine lv_aload_n hx hb dd_D_init_4 rfl (lv_at hl 0 rfl) ?_
  refine lv_lload_n hx hb dd_D_init_5 rfl (lv_at hl 1 rfl) ?_
  refine va_put (D := D) (ci := 3) (v := .long a1) (ty := .long) (C := "OpenDeal$Draws") (T := T_D) (N := 1) hx hb hk in_D ty_D tk_D nm_D hown hK hP hD hS 39 ate_D rfl 0 (by decide) (hk _ kw_222) (fun _ h9 => h9) rfl (by decide +kernel) rfl rfl (Nat.le_of_ble_eq_true rfl) dd_D_init_6 (fun H locs hP hD hS => ?_)
  rw [pte_D0] at hP hD
  obtain rfl := Option.some.inj h
  exact W.vret hx hb hr (fun t ht hW => ⟨⟨(), rfl, trivial, by rw [ht]; exact hP, va_K.moved hW.alike hK, hD⟩, hS.F ht⟩) hS.2.2 dd_D_init_9
def ff_D_next (n : Nat) (I : MI) (J : MJ)  : Option (Int32 × MI × MJ) := some (Int64.toInt32 ((Int64.toUInt64 ((uj J 39 0 (((J 39 0) * (6364136223846793005 : Int64)) + (1442695040888963407 : Int64))) 39 0) >>> ((Int32.toInt64 (33 : Int32)).toUInt64 &&& Int64.toUInt64 63)).toInt64), I, uj J 39 0 (((J 39 0) * (6364136223846793005 : Int64)) + (1442695040888963407 : Int64)))
set_option maxHeartbeats 4000000 in
set_option maxRecDepth 100000 in
theorem mm_D_next (l : Launch) (D : va_G) (kc : Nat → ClassId) (ad : Nat → Nat) (I0 : MI) (J0 : MJ) (sz n : Nat)  (r : Int32 × MI × MJ) (h : ff_D_next n I0 J0  = some r) : Met l yy_D_next (.code yy_D_next cc_D_next 1 (some .int) :: kw) { frames := 0, cells := 0, slots := 0, locals := 0 } (va_Pc [.ref (ad 39)] (BW D kc (wE kc ad I0 J0) sz)) (va_Qi (fun z (_ : Unit) => z = r.1) (EW D kc (va_A (wE kc ad I0 J0) sz) (wE kc ad r.2.1 r.2.2)) (va_A (wE kc ad I0 J0) sz)) 0 0 (va_A (wE kc ad I0 J0) sz) := by
  refine Met.ofW (cc := cc_D_next) (maxL := 1) (ret := some .int) (by decide) rfl ?_
  intro p e s m args below meth c s₁ B hml hv
  obtain ⟨rfl, hsz, hP, hK, hD0⟩ := hv
  have hx := B.exec
  have hb := B.bytes
  have hr := B.returns
  have hlocks := B.notSynchronized
  have hk : ∀ w ∈ kw, w.before _ s = true := fun w hw => atoms_spec (ws := (.code yy_D_next cc_D_next 1 (some .int) :: kw)) B.pre w (List.mem_cons_of_mem _ hw)
  have hown : s.vm.findClass "OpenDeal$Draws" = some m.cls := findClass_of_methodNamed B.named
  subst hsz
  have hD := hD0.self (sz := s.heap.size)
  generalize hAe : va_A (wE kc ad I0 J0) s.heap.size = A at hD ⊢
  have hA : ∀ q : Nat, s.heap.size ≤ q → A q := fun q h => by rw [← hAe]; exact Or.inr h
  have hS : va_S A s.heap s.heap [] := va_S.rf
  have hP : va_P D cls5 (wE kc ad I0 J0) s.heap := hP
  clear hAe hD0
  have hl := lv_entry ([.ref (ad 39)]) (n := 1) (Nat.le_of_ble_eq_true rfl)
  rw [lg_entry_eq]
  generalize (lg_sl ([.ref (ad 39)]) ++ List.replicate (1 - (lg_sl ([.ref (ad 39)])).length) Slot.unset).toArray = ls at hl ⊢
  have hl : lv_has ls 1 [(0, .ref (ad 39))] := hl
  unfold ff_D_next at h
  refine lv_aload_n hx hb dd_D_next_0 rfl (lv_at hl 0 rfl) ?_
  refine lv_aload_n hx hb dd_D_next_1 rfl (lv_at hl 0 rfl) ?_
  refine va_get (D := D) (ci := 3) (v := .long (J0 39 0)) (C := "OpenDeal$Draws") (T := T_D) (N := 1) hx hb hk in_D hown hK hP 39 ate_D rfl 0 (by decide) (hk _ kw_222) (fun _ h9 => h9) rfl dd_D_next_2 ?_
  refine lv_ldc2 (v := 6364136223846793005) hx hb hown (hk _ kw_235) dd_D_next_5 ?_
  refine lv_lmul hx hb dd_D_next_8 ?_
  refine lv_ldc2 (v := 1442695040888963407) hx hb hown (hk _ kw_236) dd_D_next_9 ?_
  refine lv_ladd hx hb dd_D_next_12 ?_
  refine va_put (D := D) (ci := 3) (v := .long (((J0 39 0) * (6364136223846793005 : Int64)) + (1442695040888963407 : Int64))) (ty := .long) (C := "OpenDeal$Draws") (T := T_D) (N := 1) hx hb hk in_D ty_D tk_D nm_D hown hK hP hD hS 39 ate_D rfl 0 (by decide) (hk _ kw_222) (fun _ h9 => h9) rfl (by decide +kernel) rfl rfl (Nat.le_of_ble_eq_true rfl) dd_D_next_13 (fun H locs hP hD hS => ?_)
  rw [pte_D0] at hP hD
  refine lv_aload_n hx hb dd_D_next_16 rfl (lv_at hl 0 rfl) ?_
  refine va_get (D := D) (ci := 3) (v := .long ((uj J0 39 0 (((J0 39 0) * (6364136223846793005 : Int64)) + (1442695040888963407 : Int64))) 39 0)) (C := "OpenDeal$Draws") (T := T_D) (N := 1) hx hb hk in_D hown hK hP 39 ate_D rfl 0 (by decide) (hk _ kw_222) (fun _ h9 => h9) rfl dd_D_next_17 ?_
  refine lv_bipush (v := 33) hx hb dd_D_next_20 (by decide) ?_
  refine lv_lushr hx hb dd_D_next_22 rfl ?_
  refine lv_l2i hx hb dd_D_next_23 rfl ?_
  obtain rfl := Option.some.inj h
  exact W.iret hx hb hr (fun t ht hW => ⟨⟨_, (), rfl, rfl, by rw [ht]; exact hP, va_K.moved hW.alike hK, hD⟩, hS.F ht⟩) hS.2.2 dd_D_next_24
def ff_D_nextExponent_2  : Nat → MI → MJ → Int32 → Int32 → Option (Int32 × MI × MJ)
  | 0, _, _, _, _ => none
  | n + 1, I, J, v1, v2 => if (1000000 : Int32) ≤ v2 then (some ((3 : Int32), I, J)) else (if v1 ≤ (4 : Int32) then (some ((3 : Int32), I, J)) else ((ff_D_next n I J ).bind fun r3 => if ¬ (v1 - (4 : Int32)) = 0 then tl (r3.1 - r3.1 / (v1 - (4 : Int32)) * (v1 - (4 : Int32))) fun y5 => tl ((3 : Int32) + y5) fun y6 => (ff_N_isExponent n y6 v1).bind fun r7 => if r7 = 0 then (ff_D_nextExponent_2 n r3.2.1 r3.2.2 v1 (v2 + (1 : Int32))) else (some (y6, r3.2.1, r3.2.2)) else none))
def ff_D_nextExponent (n : Nat) (I : MI) (J : MJ) (a1 : Int32) : Option (Int32 × MI × MJ) := ff_D_nextExponent_2 n I J a1 (0 : Int32)
set_option maxHeartbeats 4000000 in
set_option maxRecDepth 100000 in
theorem mm_D_nextExponent (l : Launch) (D : va_G) (kc : Nat → ClassId) (ad : Nat → Nat) (I0 : MI) (J0 : MJ) (sz n : Nat) (a1 : Int32) (r : Int32 × MI × MJ) (h : ff_D_nextExponent n I0 J0 a1 = some r) : Met l yy_D_nextExponent (.code yy_D_nextExponent cc_D_nextExponent 4 (some .int) :: kw) { frames := 1, cells := 0, slots := 0, locals := 21 } (va_Pc [.ref (ad 39), .int a1] (BW D kc (wE kc ad I0 J0) sz)) (va_Qi (fun z (_ : Unit) => z = r.1) (EW D kc (va_A (wE kc ad I0 J0) sz) (wE kc ad r.2.1 r.2.2)) (va_A (wE kc ad I0 J0) sz)) 0 0 (va_A (wE kc ad I0 J0) sz) := by
  refine Met.ofW (cc := cc_D_nextExponent) (maxL := 4) (ret := some .int) (by decide) rfl ?_
  intro p e s m args below meth c s₁ B hml hv
  obtain ⟨rfl, hsz, hP, hK, hD0⟩ := hv
  have hx := B.exec
  have hb := B.bytes
  have hr := B.returns
  have hlocks := B.notSynchronized
  have hk : ∀ w ∈ kw, w.before _ s = true := fun w hw => atoms_spec (ws := (.code yy_D_nextExponent cc_D_nextExponent 4 (some .int) :: kw)) B.pre w (List.mem_cons_of_mem _ hw)
  have hown : s.vm.findClass "OpenDeal$Draws" = some m.cls := findClass_of_methodNamed B.named
  subst hsz
  have hD := hD0.self (sz := s.heap.size)
  generalize hAe : va_A (wE kc ad I0 J0) s.heap.size = A at hD ⊢
  have hA : ∀ q : Nat, s.heap.size ≤ q → A q := fun q h => by rw [← hAe]; exact Or.inr h
  have hS : va_S A s.heap s.heap [] := va_S.rf
  have hP : va_P D cls5 (wE kc ad I0 J0) s.heap := hP
  clear hAe hD0
  have L2 : ∀  (n : Nat) (I : MI) (J : MJ) (v1 : Int32) (v2 : Int32), ff_D_nextExponent_2 n I J v1 v2 = some r → ∀ (H : Heap) (locs : List Loc), va_P D cls5 (wE kc ad I J) H → va_D A (wE kc ad I J) → va_S A s.heap H locs → ∀ ls, lv_has ls 4 [(0, .ref (ad 39)), (1, .int v1), (2, .int v2)] → W p l e (headSpec (.code yy_D_nextExponent cc_D_nextExponent 4 (some .int) :: kw) { frames := 1, cells := 0, slots := 0, locals := 21 }).room s m ([.ref (ad 39), .int a1] : List Value).toArray below meth c H locs 0 0 (MQ below (va_Qi (fun z (_ : Unit) => z = r.1) (EW D kc A (wE kc ad r.2.1 r.2.2)) A) ([.ref (ad 39), .int a1] : List Value).toArray s 0 0 A) (F0 m 2 ls []) := by
    intro  n
    induction n with
    | zero => intro I J v1 v2 h; exact absurd h (by simp [ff_D_nextExponent_2])
    | succ n ih =>
      intro I J v1 v2 h H locs hP hD hS ls hl
      rw [ff_D_nextExponent_2] at h
      refine lv_iload_n hx hb dd_D_nextExponent_2 rfl (lv_at hl 2 rfl) ?_
      refine lv_ldc (v := 1000000) hx hb hown (hk _ kw_230) dd_D_nextExponent_3 ?_
      refine lv_icmp_ge (tgt := 40) hx hb dd_D_nextExponent_5 (by decide) (fun hc1 => ?_) (fun hc1 => ?_)
      · have h := ip_out hc1 h
        refine lv_iconst (v := 3) hx hb dd_D_nextExponent_40 (by decide) ?_
        obtain rfl := Option.some.inj h
        exact W.iret hx hb hr (fun t ht hW => ⟨⟨_, (), rfl, rfl, by rw [ht]; exact hP, va_K.moved hW.alike hK, hD⟩, hS.F ht⟩) hS.2.2 dd_D_nextExponent_41
      · have h := in_out hc1 h
        refine lv_iload_n hx hb dd_D_nextExponent_8 rfl (lv_at hl 1 rfl) ?_
        refine lv_iconst (v := 4) hx hb dd_D_nextExponent_9 (by decide) ?_
        refine lv_icmp_le (tgt := 40) hx hb dd_D_nextExponent_10 (by decide) (fun hc2 => ?_) (fun hc2 => ?_)
        · have h := ip_out hc2 h
          refine lv_iconst (v := 3) hx hb dd_D_nextExponent_40 (by decide) ?_
          obtain rfl := Option.some.inj h
          exact W.iret hx hb hr (fun t ht hW => ⟨⟨_, (), rfl, rfl, by rw [ht]; exact hP, va_K.moved hW.alike hK, hD⟩, hS.F ht⟩) hS.2.2 dd_D_nextExponent_41
        · have h := in_out hc2 h
          refine lv_iconst (v := 3) hx hb dd_D_nextExponent_13 (by decide) ?_
          refine lv_aload_n hx hb dd_D_nextExponent_14 rfl (lv_at hl 0 rfl) ?_
          obtain ⟨r3, hr3, h⟩ := ob_out h
          refine cw_Vi (n := 0) (As := []) (mc := 0) (ms := 0) hx hb hml hown hk (mm_D_next l D kc ad _ _ _ _  _ hr3) hK hP hD hS hA 39 ate_D rfl rfl kw_231 kw_233 sel_D_next kw_7 kw_234 ⟨rfl, rfl⟩ (by decide +kernel) ⟨Nat.le_of_ble_eq_true rfl, Nat.le_of_ble_eq_true rfl⟩ rfl hl.1 rfl (Nat.le_of_ble_eq_true rfl) dd_D_nextExponent_15 ⟨Nat.le_of_ble_eq_true rfl, Nat.le_of_ble_eq_true rfl⟩ (fun H locs hP hD hS => ?_)
          refine lv_iload_n hx hb dd_D_nextExponent_18 rfl (lv_at hl 1 rfl) ?_
          refine lv_iconst (v := 4) hx hb dd_D_nextExponent_19 (by decide) ?_
          refine lv_isub hx hb dd_D_nextExponent_20 ?_
          obtain ⟨hz4, h⟩ := oi_out h
          refine lv_irem hx hb dd_D_nextExponent_21 hz4 ?_
          refine lv_topi (fun y5 ey5 => ?_)
          have h := tl_at ey5 h
          refine lv_iadd hx hb dd_D_nextExponent_22 ?_
          refine lv_topi (fun y6 ey6 => ?_)
          have h := tl_at ey6 h
          refine lv_istore_n (lv' := [(3, .int y6), (0, .ref (ad 39)), (1, .int v1), (2, .int v2)]) hx hb dd_D_nextExponent_23 rfl hl (by decide) rfl (fun ls hl => ?_)
          refine lv_iload_n hx hb dd_D_nextExponent_24 rfl (lv_at hl 0 rfl) ?_
          refine lv_iload_n hx hb dd_D_nextExponent_25 rfl (lv_at hl 2 rfl) ?_
          obtain ⟨r7, hr7, h⟩ := ob_out h
          refine ro_Si (n := 2) (As := [.int y6, .int v1]) hx hb hml hown hk (mm_N_isExponent l _ _ _ _ hr7) (fun U _ _ => trivial) (fun _ _ _ _ _ => trivial) kw_237 kw_201 kw_5 kw_202 ⟨rfl, rfl⟩ (by decide +kernel) ⟨Nat.le_of_ble_eq_true rfl, Nat.le_of_ble_eq_true rfl⟩ rfl hl.1 rfl (Nat.le_of_ble_eq_true rfl) dd_D_nextExponent_26 ⟨Nat.le_of_ble_eq_true rfl, Nat.le_of_ble_eq_true rfl⟩ ?_
          refine lv_if_eq (tgt := 34) hx hb dd_D_nextExponent_29 (by decide) (fun hc8 => ?_) (fun hc8 => ?_)
          · have h := ip_out hc8 h
            refine lv_iinc (v := v2 + (1 : Int32)) (lv' := [(2, .int (v2 + (1 : Int32))), (3, .int y6), (0, .ref (ad 39)), (1, .int v1)]) hx hb dd_D_nextExponent_34 hl (k := 3) rfl rfl (by decide) rfl (fun ls hl => ?_)
            refine lv_goto (tgt := 2) hx hb dd_D_nextExponent_37 (by decide) ?_
            exact ih _ _ _ _ h _ _ hP hD hS _ (lv_sub hl [2, 3, 0] rfl)
          · have h := in_out hc8 h
            refine lv_iload_n hx hb dd_D_nextExponent_32 rfl (lv_at hl 0 rfl) ?_
            obtain rfl := Option.some.inj h
            exact W.iret hx hb hr (fun t ht hW => ⟨⟨_, (), rfl, rfl, by rw [ht]; exact hP, va_K.moved hW.alike hK, hD⟩, hS.F ht⟩) hS.2.2 dd_D_nextExponent_33
  have hl := lv_entry ([.ref (ad 39), .int a1]) (n := 4) (Nat.le_of_ble_eq_true rfl)
  rw [lg_entry_eq]
  generalize (lg_sl ([.ref (ad 39), .int a1]) ++ List.replicate (4 - (lg_sl ([.ref (ad 39), .int a1])).length) Slot.unset).toArray = ls at hl ⊢
  have hl : lv_has ls 4 [(0, .ref (ad 39)), (1, .int a1)] := hl
  unfold ff_D_nextExponent at h
  refine lv_iconst (v := 0) hx hb dd_D_nextExponent_0 (by decide) ?_
  refine lv_istore_n (lv' := [(2, .int (0 : Int32)), (0, .ref (ad 39)), (1, .int a1)]) hx hb dd_D_nextExponent_1 rfl hl (by decide) rfl (fun ls hl => ?_)
  exact L2  _ _ _ _ _ h _ _ hP hD hS _ (lv_sub hl [1, 2, 0] rfl)
def ff_D_fillLocks_13  : Nat → MI → MJ → Int64 → Int32 → Nat → Int32 → Option (MI × MJ)
  | 0, _, _, _, _, _, _ => none
  | n + 1, I, J, v0, v2, v3, v5 => if (52 : Int32) ≤ v5 then (some (I, J)) else ((ff_D_nextExponent n I J v2).bind fun r2 => if ¬ (v5 < 0 ∨ 52 ≤ (v5).toNatClampNeg) then ff_D_fillLocks_13 n (ui r2.2.1 v3 (v5).toNatClampNeg r2.1) r2.2.2 v0 v2 v3 (v5 + (1 : Int32)) else none)
def ff_D_fillLocks (n : Nat) (I : MI) (J : MJ) (a0 : Int64) (a2 : Int32) (a3 : Nat) : Option (MI × MJ) := (ff_D_init n I (va_up J 39 (fun _ => 0)) a0).bind fun r4 => ff_D_fillLocks_13 n r4.1 r4.2 a0 a2 a3 (0 : Int32)
set_option maxHeartbeats 4000000 in
set_option maxRecDepth 100000 in
theorem mm_D_fillLocks (l : Launch) (D : va_G) (kc : Nat → ClassId) (ad : Nat → Nat) (I0 : MI) (J0 : MJ) (sz n : Nat) (a0 : Int64) (a2 : Int32) (a3 : Nat) (ha3 : isA a3) (r : MI × MJ) (h : ff_D_fillLocks n I0 J0 a0 a2 a3 = some r) : Met l yy_D_fillLocks (.code yy_D_fillLocks cc_D_fillLocks 6 (none) :: kw) { frames := 2, cells := 1, slots := 1, locals := 44 } (va_Pc [.long a0, .int a2, .ref (ad a3)] (BW D kc (wC kc ad I0 J0) sz)) (va_Qv (fun (_ : Unit) => True) (EW D kc (va_A (wC kc ad I0 J0) sz) (wC kc ad r.1 r.2)) (va_A (wC kc ad I0 J0) sz)) 1 1 (va_A (wC kc ad I0 J0) sz) := by
  refine Met.ofW (cc := cc_D_fillLocks) (maxL := 6) (ret := none) (by decide) rfl ?_
  intro p e s m args below meth c s₁ B hml hv
  obtain ⟨rfl, hsz, hP, hK, hD0⟩ := hv
  have hx := B.exec
  have hb := B.bytes
  have hr := B.returns
  have hlocks := B.notSynchronized
  have hk : ∀ w ∈ kw, w.before _ s = true := fun w hw => atoms_spec (ws := (.code yy_D_fillLocks cc_D_fillLocks 6 (none) :: kw)) B.pre w (List.mem_cons_of_mem _ hw)
  have hown : s.vm.findClass "OpenDeal$Draws" = some m.cls := findClass_of_methodNamed B.named
  subst hsz
  have hD := hD0.self (sz := s.heap.size)
  generalize hAe : va_A (wC kc ad I0 J0) s.heap.size = A at hD ⊢
  have hA : ∀ q : Nat, s.heap.size ≤ q → A q := fun q h => by rw [← hAe]; exact Or.inr h
  have hS : va_S A s.heap s.heap [] := va_S.rf
  have hP : va_P D cls5 (wC kc ad I0 J0) s.heap := hP
  clear hAe hD0
  have L13 : ∀  (n : Nat) (ad1 : Nat → Nat) (b : Nat) (had1 : ad1 = va_up ad 39 b) (I : MI) (J : MJ) (v0 : Int64) (v2 : Int32) (v3 : Nat) (hv3 : isA v3) (v5 : Int32), ff_D_fillLocks_13 n I J v0 v2 v3 v5 = some r → ∀ (H : Heap) (locs : List Loc), va_P D cls5 (wE kc ad1 I J) H → va_D A (wE kc ad1 I J) → va_S A s.heap H locs → ∀ ls, lv_has ls 6 [(0, .long v0), (2, .int v2), (3, .ref (ad1 v3)), (4, .ref (ad1 39)), (5, .int v5)] → W p l e (headSpec (.code yy_D_fillLocks cc_D_fillLocks 6 (none) :: kw) { frames := 2, cells := 1, slots := 1, locals := 44 }).room s m ([.long a0, .int a2, .ref (ad a3)] : List Value).toArray below meth c H locs 1 1 (MQ below (va_Qv (fun (_ : Unit) => True) (EW D kc A (wC kc ad r.1 r.2)) A) ([.long a0, .int a2, .ref (ad a3)] : List Value).toArray s 1 1 A) (F0 m 13 ls []) := by
    intro  n
    induction n with
    | zero => intro ad1 b had1 I J v0 v2 v3 hv3 v5 h; exact absurd h (by simp [ff_D_fillLocks_13])
    | succ n ih =>
      intro ad1 b had1 I J v0 v2 v3 hv3 v5 h H locs hP hD hS ls hl
      rw [ff_D_fillLocks_13] at h
      refine lv_iload hx hb dd_D_fillLocks_13 (lv_at hl 4 rfl) ?_
      refine lv_bipush (v := 52) hx hb dd_D_fillLocks_15 (by decide) ?_
      refine lv_icmp_ge (tgt := 36) hx hb dd_D_fillLocks_17 (by decide) (fun hc1 => ?_) (fun hc1 => ?_)
      · have h := ip_out hc1 h
        obtain rfl := Option.some.inj h
        subst had1
        have hP := wE_back hP
        have hD := wE_backD hD
        exact W.vret hx hb hr (fun t ht hW => ⟨⟨(), rfl, trivial, by rw [ht]; exact hP, va_K.moved hW.alike hK, hD⟩, hS.F ht⟩) hS.2.2 dd_D_fillLocks_36
      · have h := in_out hc1 h
        refine lv_aload_n hx hb dd_D_fillLocks_20 rfl (lv_at hl 2 rfl) ?_
        refine lv_iload hx hb dd_D_fillLocks_21 (lv_at hl 4 rfl) ?_
        refine lv_aload hx hb dd_D_fillLocks_23 (lv_at hl 3 rfl) ?_
        refine lv_iload_n hx hb dd_D_fillLocks_25 rfl (lv_at hl 1 rfl) ?_
        obtain ⟨r2, hr2, h⟩ := ob_out h
        refine cw_Vi (n := 1) (As := [.int v2]) (mc := 0) (ms := 0) hx hb hml hown hk (mm_D_nextExponent l D kc ad1 _ _ _ _ _ _ hr2) hK hP hD hS hA 39 ate_D rfl rfl kw_226 kw_228 sel_D_nextExponent kw_7 kw_229 ⟨rfl, rfl⟩ (by decide +kernel) ⟨Nat.le_of_ble_eq_true rfl, Nat.le_of_ble_eq_true rfl⟩ rfl hl.1 rfl (Nat.le_of_ble_eq_true rfl) dd_D_fillLocks_26 ⟨Nat.le_of_ble_eq_true rfl, Nat.le_of_ble_eq_true rfl⟩ (fun H locs hP hD hS => ?_)
        obtain ⟨hi3, h⟩ := oi_out h
        refine va_iast hx hb hK hP hD hS v3 0 (ate_A hv3) rfl (x := r2.1) hi3 dd_D_fillLocks_29 (fun H locs hP hD hS => ?_)
        rw [pte_A hv3] at hP hD
        refine lv_iinc (v := v5 + (1 : Int32)) (lv' := [(5, .int (v5 + (1 : Int32))), (0, .long v0), (2, .int v2), (3, .ref (ad1 v3)), (4, .ref (ad1 39))]) hx hb dd_D_fillLocks_30 hl (k := 4) rfl rfl (by decide) rfl (fun ls hl => ?_)
        refine lv_goto (tgt := 13) hx hb dd_D_fillLocks_33 (by decide) ?_
        exact ih _ _ had1 _ _ _ _ _ hv3 _ h _ _ hP hD hS _ (lv_sub hl [1, 2, 3, 4, 0] rfl)
  have hl := lv_entry ([.long a0, .int a2, .ref (ad a3)]) (n := 6) (Nat.le_of_ble_eq_true rfl)
  rw [lg_entry_eq]
  generalize (lg_sl ([.long a0, .int a2, .ref (ad a3)]) ++ List.replicate (6 - (lg_sl ([.long a0, .int a2, .ref (ad a3)])).length) Slot.unset).toArray = ls at hl ⊢
  have hl : lv_has ls 6 [(0, .long a0), (2, .int a2), (3, .ref (ad a3))] := hl
  unfold ff_D_fillLocks at h
  have h_1 : 1 ≤ 1 := by decide
  refine va_new (ci := 3) (fs := [.long 0]) (C := "OpenDeal$Draws") (T := T_D) (N := 1) hx hb hk in_D ty_D tk_D hown (hk _ kw_216) (hk _ kw_217) (hk _ kw_7) hK hP hD hS hA rfl (fun j hj => by rcases (show j = 0 by omega) with rfl <;> rfl) h_1 h_1 dd_D_fillLocks_0 (fun b H hP hD hS => ?_)
  rw [wE_new] at hP hD
  obtain ⟨ad1, had1⟩ : ∃ f, f = va_up ad 39 b := ⟨_, rfl⟩
  rw [← had1] at hP hD
  refine W.eq (g2 := F0 m 3 ls [.ref (ad1 39)]) (by rw [had1, va_up_self]) ?_
  have hl : lv_has ls 6 [(0, .long a0), (2, .int a2), (3, .ref (ad1 a3))] := by
    rw [show ad1 a3 = ad a3 from by rw [had1]; exact va_up_ne _ _ (by unfold isA at ha3; omega)]
    exact hl
  refine lv_dup hx hb dd_D_fillLocks_3 rfl ?_
  refine lv_lload_n hx hb dd_D_fillLocks_4 rfl (lv_at hl 0 rfl) ?_
  obtain ⟨r4, hr4, h⟩ := ob_out h
  refine cw_Iv (n := 1) (As := [.long a0]) (mc := 0) (ms := 0) hx hb hml hown hk (mm_D_init l D kc ad1 _ _ _ _ _ _ hr4) hK hP hD hS hA kw_218 kw_219 kw_7 kw_220 rfl ⟨rfl, rfl⟩ (by decide +kernel) ⟨Nat.le_of_ble_eq_true rfl, Nat.le_of_ble_eq_true rfl⟩ rfl hl.1 rfl (Nat.le_of_ble_eq_true rfl) dd_D_fillLocks_5 ⟨Nat.le_of_ble_eq_true rfl, Nat.le_of_ble_eq_true rfl⟩ (fun H locs hP hD hS => ?_)
  refine lv_astore (lv' := [(4, .ref (ad1 39)), (0, .long a0), (2, .int a2), (3, .ref (ad1 a3))]) hx hb dd_D_fillLocks_8 hl (by decide) rfl (fun ls hl => ?_)
  refine lv_iconst (v := 0) hx hb dd_D_fillLocks_10 (by decide) ?_
  refine lv_istore (lv' := [(5, .int (0 : Int32)), (4, .ref (ad1 39)), (0, .long a0), (2, .int a2), (3, .ref (ad1 a3))]) hx hb dd_D_fillLocks_11 hl (by decide) rfl (fun ls hl => ?_)
  exact L13  _ _ _ had1 _ _ _ _ _ ha3 _ h _ _ hP hD hS _ (lv_sub hl [2, 3, 4, 1, 0] rfl)
def ff_O_allSealed_2 (I : MI) (J : MJ)  : Nat → Int32 → Option (Int32)
  | 0, _ => none
  | n + 1, v1 => if (I 0 2) ≤ v1 then (some (1 : Int32)) else (if ¬ (v1 < 0 ∨ 4 ≤ (v1).toNatClampNeg) then if (I (15 + 6 * (v1).toNatClampNeg) 5) = 0 then (some (0 : Int32)) else (ff_O_allSealed_2 I J n (v1 + (1 : Int32))) else none)
def ff_O_allSealed (n : Nat) (I : MI) (J : MJ)  : Option (Int32) := ff_O_allSealed_2 I J n (0 : Int32)
set_option maxHeartbeats 4000000 in
set_option maxRecDepth 100000 in
theorem mm_O_allSealed (l : Launch) (D : va_G) (kc : Nat → ClassId) (ad : Nat → Nat) (I : MI) (J : MJ) (n : Nat)  (r : Int32) (h : ff_O_allSealed n I J  = some r) : Met l yy_O_allSealed (.code yy_O_allSealed cc_O_allSealed 2 (some .boolean) :: kw) { frames := 0, cells := 0, slots := 0, locals := 0 } (va_Pc [.ref (ad 0)] (BR D kc (wC kc ad I J))) (vp_Si (fun z => z = r)) 0 0 (fun _ => False) := by
  refine Met.ofW (cc := cc_O_allSealed) (maxL := 2) (ret := some .boolean) (by decide) rfl ?_
  intro p e s m args below meth c s₁ B hml hv
  obtain ⟨rfl, hP, hK⟩ := hv
  have hx := B.exec
  have hb := B.bytes
  have hr := B.returns
  have hlocks := B.notSynchronized
  have hk : ∀ w ∈ kw, w.before _ s = true := fun w hw => atoms_spec (ws := (.code yy_O_allSealed cc_O_allSealed 2 (some .boolean) :: kw)) B.pre w (List.mem_cons_of_mem _ hw)
  have hown : s.vm.findClass "OpenDeal" = some m.cls := findClass_of_methodNamed B.named
  have L2 : ∀  (n : Nat) (v1 : Int32), ff_O_allSealed_2 I J n v1 = some r → ∀ ls, lv_has ls 2 [(0, .ref (ad 0)), (1, .int v1)] → W p l e (headSpec (.code yy_O_allSealed cc_O_allSealed 2 (some .boolean) :: kw) { frames := 0, cells := 0, slots := 0, locals := 0 }).room s m ([.ref (ad 0)] : List Value).toArray below meth c s.heap [] 0 0 (MQ below (vp_Si (fun z => z = r)) ([.ref (ad 0)] : List Value).toArray s 0 0 (fun _ => False)) (F0 m 2 ls []) := by
    intro  n
    induction n with
    | zero => intro v1 h; exact absurd h (by simp [ff_O_allSealed_2])
    | succ n ih =>
      intro v1 h ls hl
      rw [ff_O_allSealed_2] at h
      refine lv_iload_n hx hb dd_O_allSealed_2 rfl (lv_at hl 1 rfl) ?_
      refine lv_aload_n hx hb dd_O_allSealed_3 rfl (lv_at hl 0 rfl) ?_
      refine va_get (D := D) (ci := 0) (v := .int (I 0 2)) (C := "OpenDeal") (T := T_O) (N := 11) hx hb hk in_O hown hK hP 0 at_O rfl 2 (by decide) (hk _ kw_107) (fun _ h9 => h9) rfl dd_O_allSealed_4 ?_
      refine lv_icmp_ge (tgt := 30) hx hb dd_O_allSealed_7 (by decide) (fun hc1 => ?_) (fun hc1 => ?_)
      · have h := ip_out hc1 h
        refine lv_iconst (v := 1) hx hb dd_O_allSealed_30 (by decide) ?_
        obtain rfl := Option.some.inj h
        exact W.zret hx hb hr rfl (fun t ht hW => ⟨_, rfl, rfl, ht⟩) (fun q hq => by cases hq) dd_O_allSealed_31
      · have h := in_out hc1 h
        refine lv_aload_n hx hb dd_O_allSealed_10 rfl (lv_at hl 0 rfl) ?_
        refine va_get (D := D) (ci := 0) (v := .ref (ad 1)) (C := "OpenDeal") (T := T_O) (N := 11) hx hb hk in_O hown hK hP 0 at_O rfl 3 (by decide) (hk _ kw_108) (fun _ h9 => h9) rfl dd_O_allSealed_11 ?_
        refine lv_iload_n hx hb dd_O_allSealed_14 rfl (lv_at hl 1 rfl) ?_
        obtain ⟨hi2, h⟩ := oi_out h
        refine ap_ald (b := ad (15 + 6 * (v1).toNatClampNeg)) hx hb hK hP 1 3 at_pl rfl hi2 (if_pos (vi_lt hi2)) dd_O_allSealed_15 ?_
        refine va_get (D := D) (ci := 1) (v := .int (I (15 + 6 * (v1).toNatClampNeg) 5)) (C := "OpenDeal$Player") (T := T_P) (N := 13) hx hb hk in_P hown hK hP (15 + 6 * (v1).toNatClampNeg) (at_P (isP_of (vi_lt hi2))) rfl 5 (by decide) (hk _ kw_60) (fun _ h9 => h9) rfl dd_O_allSealed_16 ?_
        refine lv_if_ne (tgt := 24) hx hb dd_O_allSealed_19 (by decide) (fun hc3 => ?_) (fun hc3 => ?_)
        · have h := in_out hc3 h
          refine lv_iinc (v := v1 + (1 : Int32)) (lv' := [(1, .int (v1 + (1 : Int32))), (0, .ref (ad 0))]) hx hb dd_O_allSealed_24 hl (k := 1) rfl rfl (by decide) rfl (fun ls hl => ?_)
          refine lv_goto (tgt := 2) hx hb dd_O_allSealed_27 (by decide) ?_
          exact ih _ h _ (lv_sub hl [1, 0] rfl)
        · have h := ip_out hc3 h
          refine lv_iconst (v := 0) hx hb dd_O_allSealed_22 (by decide) ?_
          obtain rfl := Option.some.inj h
          exact W.zret hx hb hr rfl (fun t ht hW => ⟨_, rfl, rfl, ht⟩) (fun q hq => by cases hq) dd_O_allSealed_23
  have hl := lv_entry ([.ref (ad 0)]) (n := 2) (Nat.le_of_ble_eq_true rfl)
  rw [lg_entry_eq]
  generalize (lg_sl ([.ref (ad 0)]) ++ List.replicate (2 - (lg_sl ([.ref (ad 0)])).length) Slot.unset).toArray = ls at hl ⊢
  have hl : lv_has ls 2 [(0, .ref (ad 0))] := hl
  unfold ff_O_allSealed at h
  refine lv_iconst (v := 0) hx hb dd_O_allSealed_0 (by decide) ?_
  refine lv_istore_n (lv' := [(1, .int (0 : Int32)), (0, .ref (ad 0))]) hx hb dd_O_allSealed_1 rfl hl (by decide) rfl (fun ls hl => ?_)
  exact L2  _ _ h _ (lv_sub hl [1, 0] rfl)
