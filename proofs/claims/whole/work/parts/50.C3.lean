/-! the class, laid by program -/
def ff_O_settle_20  : Nat → MI → MJ → Int32 → Int32 → Option (Int32 × MI × MJ)
  | 0, _, _, _, _ => none
  | n + 1, I, J, v1, v2 => if (I 0 2) ≤ v2 then (some ((1 : Int32), ui I 0 1 (5 : Int32), J)) else ((ff_O_leastInHand n I J ).bind fun r2 => (ff_O_payLayer n I J r2 v1).bind fun r3 => ff_O_settle_20 n r3.1 r3.2 v1 (v2 + (1 : Int32)))
def ff_O_settle (n : Nat) (I : MI) (J : MJ) (a1 : Int32) : Option (Int32 × MI × MJ) := if (I 0 1) = (4 : Int32) then (if (I 0 7) = (-1 : Int32) then (ff_O_settle_20 n I J a1 (0 : Int32)) else (some ((0 : Int32), I, J))) else (some ((0 : Int32), I, J))
set_option maxHeartbeats 4000000 in
set_option maxRecDepth 100000 in
theorem mm_O_settle (l : Launch) (D : va_G) (kc : Nat → ClassId) (ad : Nat → Nat) (I0 : MI) (J0 : MJ) (sz n : Nat) (a1 : Int32) (r : Int32 × MI × MJ) (h : ff_O_settle n I0 J0 a1 = some r) : Met l yy_O_settle (.code yy_O_settle cc_O_settle 3 (some .boolean) :: kw) { frames := 3, cells := 0, slots := 0, locals := 73 } (va_Pc [.ref (ad 0), .int a1] (BW D kc (wC kc ad I0 J0) sz)) (va_Qi (fun z (_ : Unit) => z = r.1) (EW D kc (va_A (wC kc ad I0 J0) sz) (wC kc ad r.2.1 r.2.2)) (va_A (wC kc ad I0 J0) sz)) 0 0 (va_A (wC kc ad I0 J0) sz) := by
  refine Met.ofW (cc := cc_O_settle) (maxL := 3) (ret := some .boolean) (by decide) rfl ?_
  intro p e s m args below meth c s₁ B hml hv
  obtain ⟨rfl, hsz, hP, hK, hD0⟩ := hv
  have hx := B.exec
  have hb := B.bytes
  have hr := B.returns
  have hlocks := B.notSynchronized
  have hk : ∀ w ∈ kw, w.before _ s = true := fun w hw => atoms_spec (ws := (.code yy_O_settle cc_O_settle 3 (some .boolean) :: kw)) B.pre w (List.mem_cons_of_mem _ hw)
  have hown : s.vm.findClass "OpenDeal" = some m.cls := findClass_of_methodNamed B.named
  subst hsz
  have hD := hD0.self (sz := s.heap.size)
  generalize hAe : va_A (wC kc ad I0 J0) s.heap.size = A at hD ⊢
  have hA : ∀ q : Nat, s.heap.size ≤ q → A q := fun q h => by rw [← hAe]; exact Or.inr h
  have hS : va_S A s.heap s.heap [] := va_S.rf
  have hP : va_P D cls5 (wC kc ad I0 J0) s.heap := hP
  clear hAe hD0
  have L20 : ∀  (n : Nat) (I : MI) (J : MJ) (v1 : Int32) (v2 : Int32), ff_O_settle_20 n I J v1 v2 = some r → ∀ (H : Heap) (locs : List Loc), va_P D cls5 (wC kc ad I J) H → va_D A (wC kc ad I J) → va_S A s.heap H locs → ∀ ls, lv_has ls 3 [(0, .ref (ad 0)), (1, .int v1), (2, .int v2)] → W p l e (headSpec (.code yy_O_settle cc_O_settle 3 (some .boolean) :: kw) { frames := 3, cells := 0, slots := 0, locals := 73 }).room s m ([.ref (ad 0), .int a1] : List Value).toArray below meth c H locs 0 0 (MQ below (va_Qi (fun z (_ : Unit) => z = r.1) (EW D kc A (wC kc ad r.2.1 r.2.2)) A) ([.ref (ad 0), .int a1] : List Value).toArray s 0 0 A) (F0 m 20 ls []) := by
    intro  n
    induction n with
    | zero => intro I J v1 v2 h; exact absurd h (by simp [ff_O_settle_20])
    | succ n ih =>
      intro I J v1 v2 h H locs hP hD hS ls hl
      rw [ff_O_settle_20] at h
      refine lv_iload_n hx hb dd_O_settle_20 rfl (lv_at hl 2 rfl) ?_
      refine lv_aload_n hx hb dd_O_settle_21 rfl (lv_at hl 0 rfl) ?_
      refine va_get (D := D) (ci := 0) (v := .int (I 0 2)) (C := "OpenDeal") (T := T_O) (N := 11) hx hb hk in_O hown hK hP 0 at_O rfl 2 (by decide) (hk _ kw_107) (fun _ h9 => h9) rfl dd_O_settle_22 ?_
      refine lv_icmp_ge (tgt := 43) hx hb dd_O_settle_25 (by decide) (fun hc1 => ?_) (fun hc1 => ?_)
      · have h := ip_out hc1 h
        refine lv_aload_n hx hb dd_O_settle_43 rfl (lv_at hl 0 rfl) ?_
        refine lv_iconst (v := 5) hx hb dd_O_settle_44 (by decide) ?_
        refine va_put (D := D) (ci := 0) (v := .int (5 : Int32)) (ty := .int) (C := "OpenDeal") (T := T_O) (N := 11) hx hb hk in_O ty_O tk_O nm_O hown hK hP hD hS 0 at_O rfl 1 (by decide) (hk _ kw_106) (fun _ h9 => h9) rfl (by decide +kernel) rfl rfl (Nat.le_of_ble_eq_true rfl) dd_O_settle_45 (fun H locs hP hD hS => ?_)
        rw [pt_O1] at hP hD
        refine lv_iconst (v := 1) hx hb dd_O_settle_48 (by decide) ?_
        obtain rfl := Option.some.inj h
        exact W.zret hx hb hr rfl (fun t ht hW => ⟨⟨_, (), rfl, rfl, by rw [ht]; exact hP, va_K.moved hW.alike hK, hD⟩, hS.F ht⟩) hS.2.2 dd_O_settle_49
      · have h := in_out hc1 h
        refine lv_aload_n hx hb dd_O_settle_28 rfl (lv_at hl 0 rfl) ?_
        refine lv_aload_n hx hb dd_O_settle_29 rfl (lv_at hl 0 rfl) ?_
        obtain ⟨r2, hr2, h⟩ := ob_out h
        refine cr_Vi (n := 0) (As := []) hx hb hml hown hk (mm_O_leastInHand l D kc ad _ _ _  _ hr2) hK hP 0 at_O rfl rfl kw_355 kw_357 sel_O_leastInHand kw_1 kw_358 ⟨rfl, rfl⟩ (by decide +kernel) ⟨Nat.le_of_ble_eq_true rfl, Nat.le_of_ble_eq_true rfl⟩ rfl hl.1 rfl (Nat.le_of_ble_eq_true rfl) dd_O_settle_30 ⟨Nat.le_of_ble_eq_true rfl, Nat.le_of_ble_eq_true rfl⟩ ?_
        refine lv_iload_n hx hb dd_O_settle_33 rfl (lv_at hl 1 rfl) ?_
        obtain ⟨r3, hr3, h⟩ := ob_out h
        refine cw_Vv (n := 2) (As := [.int r2, .int v1]) (mc := 0) (ms := 0) hx hb hml hown hk (mm_O_payLayer l D kc ad _ _ _ _ _ _ _ hr3) hK hP hD hS hA 0 at_O rfl rfl kw_359 kw_361 sel_O_payLayer kw_1 kw_362 ⟨rfl, rfl⟩ (by decide +kernel) ⟨Nat.le_of_ble_eq_true rfl, Nat.le_of_ble_eq_true rfl⟩ rfl hl.1 rfl (Nat.le_of_ble_eq_true rfl) dd_O_settle_34 ⟨Nat.le_of_ble_eq_true rfl, Nat.le_of_ble_eq_true rfl⟩ (fun H locs hP hD hS => ?_)
        refine lv_iinc (v := v2 + (1 : Int32)) (lv' := [(2, .int (v2 + (1 : Int32))), (0, .ref (ad 0)), (1, .int v1)]) hx hb dd_O_settle_37 hl (k := 2) rfl rfl (by decide) rfl (fun ls hl => ?_)
        refine lv_goto (tgt := 20) hx hb dd_O_settle_40 (by decide) ?_
        exact ih _ _ _ _ h _ _ hP hD hS _ (lv_sub hl [1, 2, 0] rfl)
  have hl := lv_entry ([.ref (ad 0), .int a1]) (n := 3) (Nat.le_of_ble_eq_true rfl)
  rw [lg_entry_eq]
  generalize (lg_sl ([.ref (ad 0), .int a1]) ++ List.replicate (3 - (lg_sl ([.ref (ad 0), .int a1])).length) Slot.unset).toArray = ls at hl ⊢
  have hl : lv_has ls 3 [(0, .ref (ad 0)), (1, .int a1)] := hl
  unfold ff_O_settle at h
  refine lv_aload_n hx hb dd_O_settle_0 rfl (lv_at hl 0 rfl) ?_
  refine va_get (D := D) (ci := 0) (v := .int (I0 0 1)) (C := "OpenDeal") (T := T_O) (N := 11) hx hb hk in_O hown hK hP 0 at_O rfl 1 (by decide) (hk _ kw_106) (fun _ h9 => h9) rfl dd_O_settle_1 ?_
  refine lv_iconst (v := 4) hx hb dd_O_settle_4 (by decide) ?_
  refine lv_icmp_ne (tgt := 16) hx hb dd_O_settle_5 (by decide) (fun hc4 => ?_) (fun hc4 => ?_)
  · have h := in_out hc4 h
    refine lv_iconst (v := 0) hx hb dd_O_settle_16 (by decide) ?_
    obtain rfl := Option.some.inj h
    exact W.zret hx hb hr rfl (fun t ht hW => ⟨⟨_, (), rfl, rfl, by rw [ht]; exact hP, va_K.moved hW.alike hK, hD⟩, hS.F ht⟩) hS.2.2 dd_O_settle_17
  · have h := ip_out hc4 h
    refine lv_aload_n hx hb dd_O_settle_8 rfl (lv_at hl 0 rfl) ?_
    refine va_get (D := D) (ci := 0) (v := .int (I0 0 7)) (C := "OpenDeal") (T := T_O) (N := 11) hx hb hk in_O hown hK hP 0 at_O rfl 7 (by decide) (hk _ kw_112) (fun _ h9 => h9) rfl dd_O_settle_9 ?_
    refine lv_iconst (v := -1) hx hb dd_O_settle_12 (by decide) ?_
    refine lv_icmp_eq (tgt := 18) hx hb dd_O_settle_13 (by decide) (fun hc5 => ?_) (fun hc5 => ?_)
    · have h := ip_out hc5 h
      refine lv_iconst (v := 0) hx hb dd_O_settle_18 (by decide) ?_
      refine lv_istore_n (lv' := [(2, .int (0 : Int32)), (0, .ref (ad 0)), (1, .int a1)]) hx hb dd_O_settle_19 rfl hl (by decide) rfl (fun ls hl => ?_)
      exact L20  _ _ _ _ _ h _ _ hP hD hS _ (lv_sub hl [1, 2, 0] rfl)
    · have h := in_out hc5 h
      refine lv_iconst (v := 0) hx hb dd_O_settle_16 (by decide) ?_
      obtain rfl := Option.some.inj h
      exact W.zret hx hb hr rfl (fun t ht hW => ⟨⟨_, (), rfl, rfl, by rw [ht]; exact hP, va_K.moved hW.alike hK, hD⟩, hS.F ht⟩) hS.2.2 dd_O_settle_17
def ff_P_showSecrets_58  (n : Nat) (I : MI) (J : MJ) (v0 : Nat) (v1 : Int32) (v2 : Int32) (v3 : Int64) (s0 : Nat) (s1 : Int32) (s2 : Int64) : Option (MI × MJ) := (ff_S_keep n I J s0 s1 s2 (J (v0 + 1) 2)).bind fun r1 => some (ui r1.1 v0 7 (1 : Int32), r1.2)
def ff_P_showSecrets_40  (n : Nat) (I : MI) (J : MJ) (v0 : Nat) (v1 : Int32) (v2 : Int32) (v3 : Int64) (s0 : Nat) (s1 : Int32) : Option (MI × MJ) := if ¬ ((4 : Int32) < 0 ∨ 5 ≤ ((4 : Int32)).toNatClampNeg) then if (lg_cmp (J (v0 + 5) ((4 : Int32)).toNatClampNeg) (0 : Int64)) = 0 then (ff_P_showSecrets_58 n I J v0 v1 v2 v3 s0 s1 v3) else (ff_P_showSecrets_58 n I J v0 v1 v2 v3 s0 s1 (v3 + (1 : Int64))) else none
def ff_P_showSecrets (n : Nat) (I : MI) (J : MJ) (a0 : Nat) (a1 : Int32) : Option (MI × MJ) := tl (I (a0 + 1) 0) fun y4 => tl (J (a0 + 1) 1) fun y5 => if ¬ ((3 : Int32) < 0 ∨ 5 ≤ ((3 : Int32)).toNatClampNeg) then if (lg_cmp (J (a0 + 5) ((3 : Int32)).toNatClampNeg) (0 : Int64)) = 0 then (ff_P_showSecrets_40 n I J a0 a1 y4 y5 (a0 + 2) y4) else ((ff_N_exponentAbove n y4 a1).bind fun r8 => ff_P_showSecrets_40 n I J a0 a1 y4 y5 (a0 + 2) r8) else none
set_option maxHeartbeats 4000000 in
set_option maxRecDepth 100000 in
theorem mm_P_showSecrets (l : Launch) (D : va_G) (kc : Nat → ClassId) (ad : Nat → Nat) (I0 : MI) (J0 : MJ) (sz n : Nat) (a0 : Nat) (ha0 : isP a0) (a1 : Int32) (r : MI × MJ) (h : ff_P_showSecrets n I0 J0 a0 a1 = some r) : Met l yy_P_showSecrets (.code yy_P_showSecrets cc_P_showSecrets 5 (none) :: kw) { frames := 2, cells := 0, slots := 0, locals := 43 } (va_Pc [.ref (ad a0), .int a1] (BW D kc (wC kc ad I0 J0) sz)) (va_Qv (fun (_ : Unit) => True) (EW D kc (va_A (wC kc ad I0 J0) sz) (wC kc ad r.1 r.2)) (va_A (wC kc ad I0 J0) sz)) 0 0 (va_A (wC kc ad I0 J0) sz) := by
  refine Met.ofW (cc := cc_P_showSecrets) (maxL := 5) (ret := none) (by decide) rfl ?_
  intro p e s m args below meth c s₁ B hml hv
  obtain ⟨rfl, hsz, hP, hK, hD0⟩ := hv
  have hx := B.exec
  have hb := B.bytes
  have hr := B.returns
  have hlocks := B.notSynchronized
  have hk : ∀ w ∈ kw, w.before _ s = true := fun w hw => atoms_spec (ws := (.code yy_P_showSecrets cc_P_showSecrets 5 (none) :: kw)) B.pre w (List.mem_cons_of_mem _ hw)
  have hown : s.vm.findClass "OpenDeal$Player" = some m.cls := findClass_of_methodNamed B.named
  subst hsz
  have hD := hD0.self (sz := s.heap.size)
  generalize hAe : va_A (wC kc ad I0 J0) s.heap.size = A at hD ⊢
  have hA : ∀ q : Nat, s.heap.size ≤ q → A q := fun q h => by rw [← hAe]; exact Or.inr h
  have hS : va_S A s.heap s.heap [] := va_S.rf
  have hP : va_P D cls5 (wC kc ad I0 J0) s.heap := hP
  clear hAe hD0
  have L58 : ∀  (n : Nat) (I : MI) (J : MJ) (v0 : Nat) (hv0 : isP v0) (v1 : Int32) (v2 : Int32) (v3 : Int64) (s0 : Nat) (hs0 : isS s0) (s1 : Int32) (s2 : Int64), ff_P_showSecrets_58 n I J v0 v1 v2 v3 s0 s1 s2 = some r → ∀ (H : Heap) (locs : List Loc), va_P D cls5 (wC kc ad I J) H → va_D A (wC kc ad I J) → va_S A s.heap H locs → ∀ ls, lv_has ls 5 [(0, .ref (ad v0)), (1, .int v1), (2, .int v2), (3, .long v3)] → W p l e (headSpec (.code yy_P_showSecrets cc_P_showSecrets 5 (none) :: kw) { frames := 2, cells := 0, slots := 0, locals := 43 }).room s m ([.ref (ad a0), .int a1] : List Value).toArray below meth c H locs 0 0 (MQ below (va_Qv (fun (_ : Unit) => True) (EW D kc A (wC kc ad r.1 r.2)) A) ([.ref (ad a0), .int a1] : List Value).toArray s 0 0 A) (F0 m 58 ls [.long s2, .int s1, .ref (ad s0)]) := by
    intro  n I J v0 hv0 v1 v2 v3 s0 hs0 s1 s2 h H locs hP hD hS ls hl
    unfold ff_P_showSecrets_58 at h
    refine lv_aload_n hx hb dd_P_showSecrets_58 rfl (lv_at hl 0 rfl) ?_
    refine va_get (D := D) (ci := 1) (v := .ref (ad (v0 + 1))) (C := "OpenDeal$Player") (T := T_P) (N := 13) hx hb hk in_P hown hK hP v0 (at_P hv0) rfl 8 (by decide) (hk _ kw_64) (fun _ h9 => h9) rfl dd_P_showSecrets_59 ?_
    refine va_get (D := D) (ci := 2) (v := .long (J (v0 + 1) 2)) (C := "OpenDeal$Secrets") (T := T_S) (N := 3) hx hb hk in_S hown hK hP (v0 + 1) (at_S (isP_S1 hv0)) rfl 2 (by decide) (hk _ kw_42) (fun _ h9 => h9) rfl dd_P_showSecrets_62 ?_
    obtain ⟨r1, hr1, h⟩ := ob_out h
    refine cw_Vv (n := 3) (As := [.int s1, .long s2, .long (J (v0 + 1) 2)]) (mc := 0) (ms := 0) hx hb hml hown hk (mm_S_keep l D kc ad _ _ _ _ _ hs0 _ _ _ _ hr1) hK hP hD hS hA s0 (at_S hs0) rfl rfl kw_387 kw_204 kw_205 kw_3 kw_206 ⟨rfl, rfl⟩ (by decide +kernel) ⟨Nat.le_of_ble_eq_true rfl, Nat.le_of_ble_eq_true rfl⟩ rfl hl.1 rfl (Nat.le_of_ble_eq_true rfl) dd_P_showSecrets_65 ⟨Nat.le_of_ble_eq_true rfl, Nat.le_of_ble_eq_true rfl⟩ (fun H locs hP hD hS => ?_)
    refine lv_aload_n hx hb dd_P_showSecrets_68 rfl (lv_at hl 0 rfl) ?_
    refine lv_iconst (v := 1) hx hb dd_P_showSecrets_69 (by decide) ?_
    refine va_put (D := D) (ci := 1) (v := .int (1 : Int32)) (ty := .boolean) (C := "OpenDeal$Player") (T := T_P) (N := 13) hx hb hk in_P ty_P tk_P nm_P hown hK hP hD hS v0 (at_P hv0) rfl 7 (by decide) (hk _ kw_62) (fun _ h9 => h9) rfl (by decide +kernel) rfl rfl (Nat.le_of_ble_eq_true rfl) dd_P_showSecrets_70 (fun H locs hP hD hS => ?_)
    rw [pt_P7 hv0] at hP hD
    obtain rfl := Option.some.inj h
    exact W.vret hx hb hr (fun t ht hW => ⟨⟨(), rfl, trivial, by rw [ht]; exact hP, va_K.moved hW.alike hK, hD⟩, hS.F ht⟩) hS.2.2 dd_P_showSecrets_73
  have L40 : ∀  (n : Nat) (I : MI) (J : MJ) (v0 : Nat) (hv0 : isP v0) (v1 : Int32) (v2 : Int32) (v3 : Int64) (s0 : Nat) (hs0 : isS s0) (s1 : Int32), ff_P_showSecrets_40 n I J v0 v1 v2 v3 s0 s1 = some r → ∀ (H : Heap) (locs : List Loc), va_P D cls5 (wC kc ad I J) H → va_D A (wC kc ad I J) → va_S A s.heap H locs → ∀ ls, lv_has ls 5 [(0, .ref (ad v0)), (1, .int v1), (2, .int v2), (3, .long v3)] → W p l e (headSpec (.code yy_P_showSecrets cc_P_showSecrets 5 (none) :: kw) { frames := 2, cells := 0, slots := 0, locals := 43 }).room s m ([.ref (ad a0), .int a1] : List Value).toArray below meth c H locs 0 0 (MQ below (va_Qv (fun (_ : Unit) => True) (EW D kc A (wC kc ad r.1 r.2)) A) ([.ref (ad a0), .int a1] : List Value).toArray s 0 0 A) (F0 m 40 ls [.int s1, .ref (ad s0)]) := by
    intro  n I J v0 hv0 v1 v2 v3 s0 hs0 s1 h H locs hP hD hS ls hl
    unfold ff_P_showSecrets_40 at h
    refine lv_aload_n hx hb dd_P_showSecrets_40 rfl (lv_at hl 0 rfl) ?_
    refine va_get (D := D) (ci := 1) (v := .ref (ad (v0 + 5))) (C := "OpenDeal$Player") (T := T_P) (N := 13) hx hb hk in_P hown hK hP v0 (at_P hv0) rfl 12 (by decide) (hk _ kw_72) (fun _ h9 => h9) rfl dd_P_showSecrets_41 ?_
    refine lv_iconst (v := 4) hx hb dd_P_showSecrets_44 (by decide) ?_
    obtain ⟨hi2, h⟩ := oi_out h
    refine va_lald hx hb hK hP (v0 + 5) 1 (at_L (isP_L hv0)) rfl hi2 dd_P_showSecrets_45 ?_
    refine lv_lconst (v := 0) hx hb dd_P_showSecrets_46 (by decide) ?_
    refine W.lcmp hx hb dd_P_showSecrets_47 ?_
    refine lv_if_eq (tgt := 57) hx hb dd_P_showSecrets_48 (by decide) (fun hc3 => ?_) (fun hc3 => ?_)
    · have h := ip_out hc3 h
      refine lv_lload_n hx hb dd_P_showSecrets_57 rfl (lv_at hl 3 rfl) ?_
      exact L58  _ _ _ _ hv0 _ _ _ _ hs0 _ _ h _ _ hP hD hS _ (lv_sub hl [0, 1, 2, 3] rfl)
    · have h := in_out hc3 h
      refine lv_lload_n hx hb dd_P_showSecrets_51 rfl (lv_at hl 3 rfl) ?_
      refine lv_lconst (v := 1) hx hb dd_P_showSecrets_52 (by decide) ?_
      refine lv_ladd hx hb dd_P_showSecrets_53 ?_
      refine lv_goto (tgt := 58) hx hb dd_P_showSecrets_54 (by decide) ?_
      exact L58  _ _ _ _ hv0 _ _ _ _ hs0 _ _ h _ _ hP hD hS _ (lv_sub hl [0, 1, 2, 3] rfl)
  have hl := lv_entry ([.ref (ad a0), .int a1]) (n := 5) (Nat.le_of_ble_eq_true rfl)
  rw [lg_entry_eq]
  generalize (lg_sl ([.ref (ad a0), .int a1]) ++ List.replicate (5 - (lg_sl ([.ref (ad a0), .int a1])).length) Slot.unset).toArray = ls at hl ⊢
  have hl : lv_has ls 5 [(0, .ref (ad a0)), (1, .int a1)] := hl
  unfold ff_P_showSecrets at h
  refine lv_aload_n hx hb dd_P_showSecrets_0 rfl (lv_at hl 0 rfl) ?_
  refine va_get (D := D) (ci := 1) (v := .ref (ad (a0 + 1))) (C := "OpenDeal$Player") (T := T_P) (N := 13) hx hb hk in_P hown hK hP a0 (at_P ha0) rfl 8 (by decide) (hk _ kw_64) (fun _ h9 => h9) rfl dd_P_showSecrets_1 ?_
  refine va_get (D := D) (ci := 2) (v := .int (I0 (a0 + 1) 0)) (C := "OpenDeal$Secrets") (T := T_S) (N := 3) hx hb hk in_S hown hK hP (a0 + 1) (at_S (isP_S1 ha0)) rfl 0 (by decide) (hk _ kw_36) (fun _ h9 => h9) rfl dd_P_showSecrets_4 ?_
  refine lv_topi (fun y4 ey4 => ?_)
  have h := tl_at ey4 h
  refine lv_istore_n (lv' := [(2, .int y4), (0, .ref (ad a0)), (1, .int a1)]) hx hb dd_P_showSecrets_7 rfl hl (by decide) rfl (fun ls hl => ?_)
  refine lv_aload_n hx hb dd_P_showSecrets_8 rfl (lv_at hl 1 rfl) ?_
  refine va_get (D := D) (ci := 1) (v := .ref (ad (a0 + 1))) (C := "OpenDeal$Player") (T := T_P) (N := 13) hx hb hk in_P hown hK hP a0 (at_P ha0) rfl 8 (by decide) (hk _ kw_64) (fun _ h9 => h9) rfl dd_P_showSecrets_9 ?_
  refine va_get (D := D) (ci := 2) (v := .long (J0 (a0 + 1) 1)) (C := "OpenDeal$Secrets") (T := T_S) (N := 3) hx hb hk in_S hown hK hP (a0 + 1) (at_S (isP_S1 ha0)) rfl 1 (by decide) (hk _ kw_39) (fun _ h9 => h9) rfl dd_P_showSecrets_12 ?_
  refine lv_topl (fun y5 ey5 => ?_)
  have h := tl_at ey5 h
  refine lv_lstore_n (lv' := [(3, .long y5), (2, .int y4), (0, .ref (ad a0)), (1, .int a1)]) hx hb dd_P_showSecrets_15 rfl hl (by decide) rfl (fun ls hl => ?_)
  refine lv_aload_n hx hb dd_P_showSecrets_16 rfl (lv_at hl 2 rfl) ?_
  refine va_get (D := D) (ci := 1) (v := .ref (ad (a0 + 2))) (C := "OpenDeal$Player") (T := T_P) (N := 13) hx hb hk in_P hown hK hP a0 (at_P ha0) rfl 9 (by decide) (hk _ kw_66) (fun _ h9 => h9) rfl dd_P_showSecrets_17 ?_
  refine lv_aload_n hx hb dd_P_showSecrets_20 rfl (lv_at hl 2 rfl) ?_
  refine va_get (D := D) (ci := 1) (v := .ref (ad (a0 + 5))) (C := "OpenDeal$Player") (T := T_P) (N := 13) hx hb hk in_P hown hK hP a0 (at_P ha0) rfl 12 (by decide) (hk _ kw_72) (fun _ h9 => h9) rfl dd_P_showSecrets_21 ?_
  refine lv_iconst (v := 3) hx hb dd_P_showSecrets_24 (by decide) ?_
  obtain ⟨hi6, h⟩ := oi_out h
  refine va_lald hx hb hK hP (a0 + 5) 1 (at_L (isP_L ha0)) rfl hi6 dd_P_showSecrets_25 ?_
  refine lv_lconst (v := 0) hx hb dd_P_showSecrets_26 (by decide) ?_
  refine W.lcmp hx hb dd_P_showSecrets_27 ?_
  refine lv_if_eq (tgt := 39) hx hb dd_P_showSecrets_28 (by decide) (fun hc7 => ?_) (fun hc7 => ?_)
  · have h := ip_out hc7 h
    refine lv_iload_n hx hb dd_P_showSecrets_39 rfl (lv_at hl 1 rfl) ?_
    exact L40  _ _ _ _ ha0 _ _ _ _ (isP_S2 ha0) _ h _ _ hP hD hS _ (lv_sub hl [2, 3, 1, 0] rfl)
  · have h := in_out hc7 h
    refine lv_iload_n hx hb dd_P_showSecrets_31 rfl (lv_at hl 1 rfl) ?_
    refine lv_iload_n hx hb dd_P_showSecrets_32 rfl (lv_at hl 3 rfl) ?_
    obtain ⟨r8, hr8, h⟩ := ob_out h
    refine ro_Si (n := 2) (As := [.int y4, .int a1]) hx hb hml hown hk (mm_N_exponentAbove l _ _ _ _ hr8) (fun U _ _ => trivial) (fun _ _ _ _ _ => trivial) kw_386 kw_290 kw_5 kw_291 ⟨rfl, rfl⟩ (by decide +kernel) ⟨Nat.le_of_ble_eq_true rfl, Nat.le_of_ble_eq_true rfl⟩ rfl hl.1 rfl (Nat.le_of_ble_eq_true rfl) dd_P_showSecrets_33 ⟨Nat.zero_le _, Nat.zero_le _⟩ ?_
    refine lv_goto (tgt := 40) hx hb dd_P_showSecrets_36 (by decide) ?_
    exact L40  _ _ _ _ ha0 _ _ _ _ (isP_S2 ha0) _ h _ _ hP hD hS _ (lv_sub hl [2, 3, 1, 0] rfl)
def ff_O_allShown_2 (I : MI) (J : MJ)  : Nat → Int32 → Option (Int32)
  | 0, _ => none
  | n + 1, v1 => if (I 0 2) ≤ v1 then (some (1 : Int32)) else (if ¬ (v1 < 0 ∨ 4 ≤ (v1).toNatClampNeg) then if (I (15 + 6 * (v1).toNatClampNeg) 7) = 0 then (some (0 : Int32)) else (ff_O_allShown_2 I J n (v1 + (1 : Int32))) else none)
def ff_O_allShown (n : Nat) (I : MI) (J : MJ)  : Option (Int32) := ff_O_allShown_2 I J n (0 : Int32)
set_option maxHeartbeats 4000000 in
set_option maxRecDepth 100000 in
theorem mm_O_allShown (l : Launch) (D : va_G) (kc : Nat → ClassId) (ad : Nat → Nat) (I : MI) (J : MJ) (n : Nat)  (r : Int32) (h : ff_O_allShown n I J  = some r) : Met l yy_O_allShown (.code yy_O_allShown cc_O_allShown 2 (some .boolean) :: kw) { frames := 0, cells := 0, slots := 0, locals := 0 } (va_Pc [.ref (ad 0)] (BR D kc (wC kc ad I J))) (vp_Si (fun z => z = r)) 0 0 (fun _ => False) := by
  refine Met.ofW (cc := cc_O_allShown) (maxL := 2) (ret := some .boolean) (by decide) rfl ?_
  intro p e s m args below meth c s₁ B hml hv
  obtain ⟨rfl, hP, hK⟩ := hv
  have hx := B.exec
  have hb := B.bytes
  have hr := B.returns
  have hlocks := B.notSynchronized
  have hk : ∀ w ∈ kw, w.before _ s = true := fun w hw => atoms_spec (ws := (.code yy_O_allShown cc_O_allShown 2 (some .boolean) :: kw)) B.pre w (List.mem_cons_of_mem _ hw)
  have hown : s.vm.findClass "OpenDeal" = some m.cls := findClass_of_methodNamed B.named
  have L2 : ∀  (n : Nat) (v1 : Int32), ff_O_allShown_2 I J n v1 = some r → ∀ ls, lv_has ls 2 [(0, .ref (ad 0)), (1, .int v1)] → W p l e (headSpec (.code yy_O_allShown cc_O_allShown 2 (some .boolean) :: kw) { frames := 0, cells := 0, slots := 0, locals := 0 }).room s m ([.ref (ad 0)] : List Value).toArray below meth c s.heap [] 0 0 (MQ below (vp_Si (fun z => z = r)) ([.ref (ad 0)] : List Value).toArray s 0 0 (fun _ => False)) (F0 m 2 ls []) := by
    intro  n
    induction n with
    | zero => intro v1 h; exact absurd h (by simp [ff_O_allShown_2])
    | succ n ih =>
      intro v1 h ls hl
      rw [ff_O_allShown_2] at h
      refine lv_iload_n hx hb dd_O_allShown_2 rfl (lv_at hl 1 rfl) ?_
      refine lv_aload_n hx hb dd_O_allShown_3 rfl (lv_at hl 0 rfl) ?_
      refine va_get (D := D) (ci := 0) (v := .int (I 0 2)) (C := "OpenDeal") (T := T_O) (N := 11) hx hb hk in_O hown hK hP 0 at_O rfl 2 (by decide) (hk _ kw_107) (fun _ h9 => h9) rfl dd_O_allShown_4 ?_
      refine lv_icmp_ge (tgt := 30) hx hb dd_O_allShown_7 (by decide) (fun hc1 => ?_) (fun hc1 => ?_)
      · have h := ip_out hc1 h
        refine lv_iconst (v := 1) hx hb dd_O_allShown_30 (by decide) ?_
        obtain rfl := Option.some.inj h
        exact W.zret hx hb hr rfl (fun t ht hW => ⟨_, rfl, rfl, ht⟩) (fun q hq => by cases hq) dd_O_allShown_31
      · have h := in_out hc1 h
        refine lv_aload_n hx hb dd_O_allShown_10 rfl (lv_at hl 0 rfl) ?_
        refine va_get (D := D) (ci := 0) (v := .ref (ad 1)) (C := "OpenDeal") (T := T_O) (N := 11) hx hb hk in_O hown hK hP 0 at_O rfl 3 (by decide) (hk _ kw_108) (fun _ h9 => h9) rfl dd_O_allShown_11 ?_
        refine lv_iload_n hx hb dd_O_allShown_14 rfl (lv_at hl 1 rfl) ?_
        obtain ⟨hi2, h⟩ := oi_out h
        refine ap_ald (b := ad (15 + 6 * (v1).toNatClampNeg)) hx hb hK hP 1 3 at_pl rfl hi2 rfl dd_O_allShown_15 ?_
        refine va_get (D := D) (ci := 1) (v := .int (I (15 + 6 * (v1).toNatClampNeg) 7)) (C := "OpenDeal$Player") (T := T_P) (N := 13) hx hb hk in_P hown hK hP (15 + 6 * (v1).toNatClampNeg) (at_P (isP_of (vi_lt hi2))) rfl 7 (by decide) (hk _ kw_63) (fun _ h9 => h9) rfl dd_O_allShown_16 ?_
        refine lv_if_ne (tgt := 24) hx hb dd_O_allShown_19 (by decide) (fun hc3 => ?_) (fun hc3 => ?_)
        · have h := in_out hc3 h
          refine lv_iinc (v := v1 + (1 : Int32)) (lv' := [(1, .int (v1 + (1 : Int32))), (0, .ref (ad 0))]) hx hb dd_O_allShown_24 hl (k := 1) rfl rfl (by decide) rfl (fun ls hl => ?_)
          refine lv_goto (tgt := 2) hx hb dd_O_allShown_27 (by decide) ?_
          exact ih _ h _ (lv_sub hl [1, 0] rfl)
        · have h := ip_out hc3 h
          refine lv_iconst (v := 0) hx hb dd_O_allShown_22 (by decide) ?_
          obtain rfl := Option.some.inj h
          exact W.zret hx hb hr rfl (fun t ht hW => ⟨_, rfl, rfl, ht⟩) (fun q hq => by cases hq) dd_O_allShown_23
  have hl := lv_entry ([.ref (ad 0)]) (n := 2) (Nat.le_of_ble_eq_true rfl)
  rw [lg_entry_eq]
  generalize (lg_sl ([.ref (ad 0)]) ++ List.replicate (2 - (lg_sl ([.ref (ad 0)])).length) Slot.unset).toArray = ls at hl ⊢
  have hl : lv_has ls 2 [(0, .ref (ad 0))] := hl
  unfold ff_O_allShown at h
  refine lv_iconst (v := 0) hx hb dd_O_allShown_0 (by decide) ?_
  refine lv_istore_n (lv' := [(1, .int (0 : Int32)), (0, .ref (ad 0))]) hx hb dd_O_allShown_1 rfl hl (by decide) rfl (fun ls hl => ?_)
  exact L2  _ _ h _ (lv_sub hl [1, 0] rfl)
def ff_O_cheat (n : Nat) (I : MI) (J : MJ) (a1 : Int32) (a2 : Int32) (a3 : Int32) : Option (Int32 × MI × MJ) := if (I 0 1) < (1 : Int32) then (some ((0 : Int32), I, J)) else (if (5 : Int32) < (I 0 1) then (some ((0 : Int32), I, J)) else ((ff_O_isSeated n I J a1).bind fun r3 => if r3 = 0 then (some ((0 : Int32), I, J)) else (if a2 < 0 then (some ((0 : Int32), I, J)) else (if (5 : Int32) ≤ a2 then (some ((0 : Int32), I, J)) else ((ff_O_isPlace n a3).bind fun r7 => if r7 = 0 then (some ((0 : Int32), I, J)) else (if ¬ (a1 < 0 ∨ 4 ≤ (a1).toNatClampNeg) then if ¬ (a2 < 0 ∨ 5 ≤ (a2).toNatClampNeg) then if ¬ (a2 < 0 ∨ 5 ≤ (a2).toNatClampNeg) then some ((1 : Int32), I, uj J ((15 + 6 * (a1).toNatClampNeg) + 5) (a2).toNatClampNeg ((J ((15 + 6 * (a1).toNatClampNeg) + 5) (a2).toNatClampNeg) ||| ((1 : Int64) <<< (Int32.toInt64 a3 &&& 63)))) else none else none else none))))))
set_option maxHeartbeats 4000000 in
set_option maxRecDepth 100000 in
theorem mm_O_cheat (l : Launch) (D : va_G) (kc : Nat → ClassId) (ad : Nat → Nat) (I0 : MI) (J0 : MJ) (sz n : Nat) (a1 : Int32) (a2 : Int32) (a3 : Int32) (r : Int32 × MI × MJ) (h : ff_O_cheat n I0 J0 a1 a2 a3 = some r) : Met l yy_O_cheat (.code yy_O_cheat cc_O_cheat 4 (some .boolean) :: kw) { frames := 1, cells := 0, slots := 0, locals := 21 } (va_Pc [.ref (ad 0), .int a1, .int a2, .int a3] (BW D kc (wC kc ad I0 J0) sz)) (va_Qi (fun z (_ : Unit) => z = r.1) (EW D kc (va_A (wC kc ad I0 J0) sz) (wC kc ad r.2.1 r.2.2)) (va_A (wC kc ad I0 J0) sz)) 0 0 (va_A (wC kc ad I0 J0) sz) := by
  refine Met.ofW (cc := cc_O_cheat) (maxL := 4) (ret := some .boolean) (by decide) rfl ?_
  intro p e s m args below meth c s₁ B hml hv
  obtain ⟨rfl, hsz, hP, hK, hD0⟩ := hv
  have hx := B.exec
  have hb := B.bytes
  have hr := B.returns
  have hlocks := B.notSynchronized
  have hk : ∀ w ∈ kw, w.before _ s = true := fun w hw => atoms_spec (ws := (.code yy_O_cheat cc_O_cheat 4 (some .boolean) :: kw)) B.pre w (List.mem_cons_of_mem _ hw)
  have hown : s.vm.findClass "OpenDeal" = some m.cls := findClass_of_methodNamed B.named
  subst hsz
  have hD := hD0.self (sz := s.heap.size)
  generalize hAe : va_A (wC kc ad I0 J0) s.heap.size = A at hD ⊢
  have hA : ∀ q : Nat, s.heap.size ≤ q → A q := fun q h => by rw [← hAe]; exact Or.inr h
  have hS : va_S A s.heap s.heap [] := va_S.rf
  have hP : va_P D cls5 (wC kc ad I0 J0) s.heap := hP
  clear hAe hD0
  have hl := lv_entry ([.ref (ad 0), .int a1, .int a2, .int a3]) (n := 4) (Nat.le_of_ble_eq_true rfl)
  rw [lg_entry_eq]
  generalize (lg_sl ([.ref (ad 0), .int a1, .int a2, .int a3]) ++ List.replicate (4 - (lg_sl ([.ref (ad 0), .int a1, .int a2, .int a3])).length) Slot.unset).toArray = ls at hl ⊢
  have hl : lv_has ls 4 [(0, .ref (ad 0)), (1, .int a1), (2, .int a2), (3, .int a3)] := hl
  unfold ff_O_cheat at h
  refine lv_aload_n hx hb dd_O_cheat_0 rfl (lv_at hl 0 rfl) ?_
  refine va_get (D := D) (ci := 0) (v := .int (I0 0 1)) (C := "OpenDeal") (T := T_O) (N := 11) hx hb hk in_O hown hK hP 0 at_O rfl 1 (by decide) (hk _ kw_106) (fun _ h9 => h9) rfl dd_O_cheat_1 ?_
  refine lv_iconst (v := 1) hx hb dd_O_cheat_4 (by decide) ?_
  refine lv_icmp_lt (tgt := 24) hx hb dd_O_cheat_5 (by decide) (fun hc1 => ?_) (fun hc1 => ?_)
  · have h := ip_out hc1 h
    refine lv_iconst (v := 0) hx hb dd_O_cheat_24 (by decide) ?_
    obtain rfl := Option.some.inj h
    exact W.zret hx hb hr rfl (fun t ht hW => ⟨⟨_, (), rfl, rfl, by rw [ht]; exact hP, va_K.moved hW.alike hK, hD⟩, hS.F ht⟩) hS.2.2 dd_O_cheat_25
  · have h := in_out hc1 h
    refine lv_aload_n hx hb dd_O_cheat_8 rfl (lv_at hl 0 rfl) ?_
    refine va_get (D := D) (ci := 0) (v := .int (I0 0 1)) (C := "OpenDeal") (T := T_O) (N := 11) hx hb hk in_O hown hK hP 0 at_O rfl 1 (by decide) (hk _ kw_106) (fun _ h9 => h9) rfl dd_O_cheat_9 ?_
    refine lv_iconst (v := 5) hx hb dd_O_cheat_12 (by decide) ?_
    refine lv_icmp_gt (tgt := 24) hx hb dd_O_cheat_13 (by decide) (fun hc2 => ?_) (fun hc2 => ?_)
    · have h := ip_out hc2 h
      refine lv_iconst (v := 0) hx hb dd_O_cheat_24 (by decide) ?_
      obtain rfl := Option.some.inj h
      exact W.zret hx hb hr rfl (fun t ht hW => ⟨⟨_, (), rfl, rfl, by rw [ht]; exact hP, va_K.moved hW.alike hK, hD⟩, hS.F ht⟩) hS.2.2 dd_O_cheat_25
    · have h := in_out hc2 h
      refine lv_aload_n hx hb dd_O_cheat_16 rfl (lv_at hl 0 rfl) ?_
      refine lv_iload_n hx hb dd_O_cheat_17 rfl (lv_at hl 1 rfl) ?_
      obtain ⟨r3, hr3, h⟩ := ob_out h
      refine cr_Vi (n := 1) (As := [.int a1]) hx hb hml hown hk (mm_O_isSeated l D kc ad _ _ _ _ _ hr3) hK hP 0 at_O rfl rfl kw_196 kw_198 sel_O_isSeated kw_1 kw_199 ⟨rfl, rfl⟩ (by decide +kernel) ⟨Nat.le_of_ble_eq_true rfl, Nat.le_of_ble_eq_true rfl⟩ rfl hl.1 rfl (Nat.le_of_ble_eq_true rfl) dd_O_cheat_18 ⟨Nat.le_of_ble_eq_true rfl, Nat.le_of_ble_eq_true rfl⟩ ?_
      refine lv_if_ne (tgt := 26) hx hb dd_O_cheat_21 (by decide) (fun hc4 => ?_) (fun hc4 => ?_)
      · have h := in_out hc4 h
        refine lv_iload_n hx hb dd_O_cheat_26 rfl (lv_at hl 2 rfl) ?_
        refine lv_if_lt (tgt := 42) hx hb dd_O_cheat_27 (by decide) (fun hc5 => ?_) (fun hc5 => ?_)
        · have h := ip_out hc5 h
          refine lv_iconst (v := 0) hx hb dd_O_cheat_42 (by decide) ?_
          obtain rfl := Option.some.inj h
          exact W.zret hx hb hr rfl (fun t ht hW => ⟨⟨_, (), rfl, rfl, by rw [ht]; exact hP, va_K.moved hW.alike hK, hD⟩, hS.F ht⟩) hS.2.2 dd_O_cheat_43
        · have h := in_out hc5 h
          refine lv_iload_n hx hb dd_O_cheat_30 rfl (lv_at hl 2 rfl) ?_
          refine lv_iconst (v := 5) hx hb dd_O_cheat_31 (by decide) ?_
          refine lv_icmp_ge (tgt := 42) hx hb dd_O_cheat_32 (by decide) (fun hc6 => ?_) (fun hc6 => ?_)
          · have h := ip_out hc6 h
            refine lv_iconst (v := 0) hx hb dd_O_cheat_42 (by decide) ?_
            obtain rfl := Option.some.inj h
            exact W.zret hx hb hr rfl (fun t ht hW => ⟨⟨_, (), rfl, rfl, by rw [ht]; exact hP, va_K.moved hW.alike hK, hD⟩, hS.F ht⟩) hS.2.2 dd_O_cheat_43
          · have h := in_out hc6 h
            refine lv_iload_n hx hb dd_O_cheat_35 rfl (lv_at hl 3 rfl) ?_
            obtain ⟨r7, hr7, h⟩ := ob_out h
            refine ro_Si (n := 1) (As := [.int a3]) hx hb hml hown hk (mm_O_isPlace l _ _ _ hr7) (fun U _ _ => trivial) (fun _ _ _ _ _ => trivial) kw_278 kw_279 kw_1 kw_280 ⟨rfl, rfl⟩ (by decide +kernel) ⟨Nat.le_of_ble_eq_true rfl, Nat.le_of_ble_eq_true rfl⟩ rfl hl.1 rfl (Nat.le_of_ble_eq_true rfl) dd_O_cheat_36 ⟨Nat.zero_le _, Nat.zero_le _⟩ ?_
            refine lv_if_ne (tgt := 44) hx hb dd_O_cheat_39 (by decide) (fun hc8 => ?_) (fun hc8 => ?_)
            · have h := in_out hc8 h
              refine lv_aload_n hx hb dd_O_cheat_44 rfl (lv_at hl 0 rfl) ?_
              refine va_get (D := D) (ci := 0) (v := .ref (ad 1)) (C := "OpenDeal") (T := T_O) (N := 11) hx hb hk in_O hown hK hP 0 at_O rfl 3 (by decide) (hk _ kw_108) (fun _ h9 => h9) rfl dd_O_cheat_45 ?_
              refine lv_iload_n hx hb dd_O_cheat_48 rfl (lv_at hl 1 rfl) ?_
              obtain ⟨hi9, h⟩ := oi_out h
              refine ap_ald (b := ad (15 + 6 * (a1).toNatClampNeg)) hx hb hK hP 1 3 at_pl rfl hi9 rfl dd_O_cheat_49 ?_
              refine va_get (D := D) (ci := 1) (v := .ref (ad ((15 + 6 * (a1).toNatClampNeg) + 5))) (C := "OpenDeal$Player") (T := T_P) (N := 13) hx hb hk in_P hown hK hP (15 + 6 * (a1).toNatClampNeg) (at_P (isP_of (vi_lt hi9))) rfl 12 (by decide) (hk _ kw_73) (fun _ h9 => h9) rfl dd_O_cheat_50 ?_
              refine lv_iload_n hx hb dd_O_cheat_53 rfl (lv_at hl 2 rfl) ?_
              refine lv_dup2_11 hx hb dd_O_cheat_54 rfl rfl ?_
              obtain ⟨hi10, h⟩ := oi_out h
              refine va_lald hx hb hK hP ((15 + 6 * (a1).toNatClampNeg) + 5) 1 (at_L (isP_L (isP_of (vi_lt hi9)))) rfl hi10 dd_O_cheat_55 ?_
              refine lv_lconst (v := 1) hx hb dd_O_cheat_56 (by decide) ?_
              refine lv_iload_n hx hb dd_O_cheat_57 rfl (lv_at hl 3 rfl) ?_
              refine lv_lshl hx hb dd_O_cheat_58 rfl ?_
              refine lv_lor hx hb dd_O_cheat_59 ?_
              obtain ⟨hi11, h⟩ := oi_out h
              refine va_last hx hb hK hP hD hS ((15 + 6 * (a1).toNatClampNeg) + 5) 1 (at_L (isP_L (isP_of (vi_lt hi9)))) rfl (x := (J0 ((15 + 6 * (a1).toNatClampNeg) + 5) (a2).toNatClampNeg) ||| ((1 : Int64) <<< (Int32.toInt64 a3 &&& 63))) hi11 dd_O_cheat_60 (fun H locs hP hD hS => ?_)
              rw [pt_L (isP_L (isP_of (vi_lt hi9)))] at hP hD
              refine lv_iconst (v := 1) hx hb dd_O_cheat_61 (by decide) ?_
              obtain rfl := Option.some.inj h
              exact W.zret hx hb hr rfl (fun t ht hW => ⟨⟨_, (), rfl, rfl, by rw [ht]; exact hP, va_K.moved hW.alike hK, hD⟩, hS.F ht⟩) hS.2.2 dd_O_cheat_62
            · have h := ip_out hc8 h
              refine lv_iconst (v := 0) hx hb dd_O_cheat_42 (by decide) ?_
              obtain rfl := Option.some.inj h
              exact W.zret hx hb hr rfl (fun t ht hW => ⟨⟨_, (), rfl, rfl, by rw [ht]; exact hP, va_K.moved hW.alike hK, hD⟩, hS.F ht⟩) hS.2.2 dd_O_cheat_43
      · have h := ip_out hc4 h
        refine lv_iconst (v := 0) hx hb dd_O_cheat_24 (by decide) ?_
        obtain rfl := Option.some.inj h
        exact W.zret hx hb hr rfl (fun t ht hW => ⟨⟨_, (), rfl, rfl, by rw [ht]; exact hP, va_K.moved hW.alike hK, hD⟩, hS.F ht⟩) hS.2.2 dd_O_cheat_25
def ff_O_sumInHand_4 (I : MI) (J : MJ)  : Nat → Int32 → Int32 → Option (Int32)
  | 0, _, _ => none
  | n + 1, v1, v2 => if (I 0 2) ≤ v2 then (some v1) else (if ¬ (v2 < 0 ∨ 4 ≤ (v2).toNatClampNeg) then tl (v1 + (I (15 + 6 * (v2).toNatClampNeg) 1)) fun y3 => ff_O_sumInHand_4 I J n y3 (v2 + (1 : Int32)) else none)
def ff_O_sumInHand (n : Nat) (I : MI) (J : MJ)  : Option (Int32) := ff_O_sumInHand_4 I J n (0 : Int32) (0 : Int32)
set_option maxHeartbeats 4000000 in
set_option maxRecDepth 100000 in
theorem mm_O_sumInHand (l : Launch) (D : va_G) (kc : Nat → ClassId) (ad : Nat → Nat) (I : MI) (J : MJ) (n : Nat)  (r : Int32) (h : ff_O_sumInHand n I J  = some r) : Met l yy_O_sumInHand (.code yy_O_sumInHand cc_O_sumInHand 3 (some .int) :: kw) { frames := 0, cells := 0, slots := 0, locals := 0 } (va_Pc [.ref (ad 0)] (BR D kc (wC kc ad I J))) (vp_Si (fun z => z = r)) 0 0 (fun _ => False) := by
  refine Met.ofW (cc := cc_O_sumInHand) (maxL := 3) (ret := some .int) (by decide) rfl ?_
  intro p e s m args below meth c s₁ B hml hv
  obtain ⟨rfl, hP, hK⟩ := hv
  have hx := B.exec
  have hb := B.bytes
  have hr := B.returns
  have hlocks := B.notSynchronized
  have hk : ∀ w ∈ kw, w.before _ s = true := fun w hw => atoms_spec (ws := (.code yy_O_sumInHand cc_O_sumInHand 3 (some .int) :: kw)) B.pre w (List.mem_cons_of_mem _ hw)
  have hown : s.vm.findClass "OpenDeal" = some m.cls := findClass_of_methodNamed B.named
  have L4 : ∀  (n : Nat) (v1 : Int32) (v2 : Int32), ff_O_sumInHand_4 I J n v1 v2 = some r → ∀ ls, lv_has ls 3 [(0, .ref (ad 0)), (1, .int v1), (2, .int v2)] → W p l e (headSpec (.code yy_O_sumInHand cc_O_sumInHand 3 (some .int) :: kw) { frames := 0, cells := 0, slots := 0, locals := 0 }).room s m ([.ref (ad 0)] : List Value).toArray below meth c s.heap [] 0 0 (MQ below (vp_Si (fun z => z = r)) ([.ref (ad 0)] : List Value).toArray s 0 0 (fun _ => False)) (F0 m 4 ls []) := by
    intro  n
    induction n with
    | zero => intro v1 v2 h; exact absurd h (by simp [ff_O_sumInHand_4])
    | succ n ih =>
      intro v1 v2 h ls hl
      rw [ff_O_sumInHand_4] at h
      refine lv_iload_n hx hb dd_O_sumInHand_4 rfl (lv_at hl 2 rfl) ?_
      refine lv_aload_n hx hb dd_O_sumInHand_5 rfl (lv_at hl 0 rfl) ?_
      refine va_get (D := D) (ci := 0) (v := .int (I 0 2)) (C := "OpenDeal") (T := T_O) (N := 11) hx hb hk in_O hown hK hP 0 at_O rfl 2 (by decide) (hk _ kw_107) (fun _ h9 => h9) rfl dd_O_sumInHand_6 ?_
      refine lv_icmp_ge (tgt := 30) hx hb dd_O_sumInHand_9 (by decide) (fun hc1 => ?_) (fun hc1 => ?_)
      · have h := ip_out hc1 h
        refine lv_iload_n hx hb dd_O_sumInHand_30 rfl (lv_at hl 1 rfl) ?_
        obtain rfl := Option.some.inj h
        exact W.iret hx hb hr (fun t ht hW => ⟨_, rfl, rfl, ht⟩) (fun q hq => by cases hq) dd_O_sumInHand_31
      · have h := in_out hc1 h
        refine lv_iload_n hx hb dd_O_sumInHand_12 rfl (lv_at hl 1 rfl) ?_
        refine lv_aload_n hx hb dd_O_sumInHand_13 rfl (lv_at hl 0 rfl) ?_
        refine va_get (D := D) (ci := 0) (v := .ref (ad 1)) (C := "OpenDeal") (T := T_O) (N := 11) hx hb hk in_O hown hK hP 0 at_O rfl 3 (by decide) (hk _ kw_108) (fun _ h9 => h9) rfl dd_O_sumInHand_14 ?_
        refine lv_iload_n hx hb dd_O_sumInHand_17 rfl (lv_at hl 2 rfl) ?_
        obtain ⟨hi2, h⟩ := oi_out h
        refine ap_ald (b := ad (15 + 6 * (v2).toNatClampNeg)) hx hb hK hP 1 3 at_pl rfl hi2 rfl dd_O_sumInHand_18 ?_
        refine va_get (D := D) (ci := 1) (v := .int (I (15 + 6 * (v2).toNatClampNeg) 1)) (C := "OpenDeal$Player") (T := T_P) (N := 13) hx hb hk in_P hown hK hP (15 + 6 * (v2).toNatClampNeg) (at_P (isP_of (vi_lt hi2))) rfl 1 (by decide) (hk _ kw_53) (fun _ h9 => h9) rfl dd_O_sumInHand_19 ?_
        refine lv_iadd hx hb dd_O_sumInHand_22 ?_
        refine lv_topi (fun y3 ey3 => ?_)
        have h := tl_at ey3 h
        refine lv_istore_n (lv' := [(1, .int y3), (0, .ref (ad 0)), (2, .int v2)]) hx hb dd_O_sumInHand_23 rfl hl (by decide) rfl (fun ls hl => ?_)
        refine lv_iinc (v := v2 + (1 : Int32)) (lv' := [(2, .int (v2 + (1 : Int32))), (1, .int y3), (0, .ref (ad 0))]) hx hb dd_O_sumInHand_24 hl (k := 2) rfl rfl (by decide) rfl (fun ls hl => ?_)
        refine lv_goto (tgt := 4) hx hb dd_O_sumInHand_27 (by decide) ?_
        exact ih _ _ h _ (lv_sub hl [2, 1, 0] rfl)
  have hl := lv_entry ([.ref (ad 0)]) (n := 3) (Nat.le_of_ble_eq_true rfl)
  rw [lg_entry_eq]
  generalize (lg_sl ([.ref (ad 0)]) ++ List.replicate (3 - (lg_sl ([.ref (ad 0)])).length) Slot.unset).toArray = ls at hl ⊢
  have hl : lv_has ls 3 [(0, .ref (ad 0))] := hl
  unfold ff_O_sumInHand at h
  refine lv_iconst (v := 0) hx hb dd_O_sumInHand_0 (by decide) ?_
  refine lv_istore_n (lv' := [(1, .int (0 : Int32)), (0, .ref (ad 0))]) hx hb dd_O_sumInHand_1 rfl hl (by decide) rfl (fun ls hl => ?_)
  refine lv_iconst (v := 0) hx hb dd_O_sumInHand_2 (by decide) ?_
  refine lv_istore_n (lv' := [(2, .int (0 : Int32)), (1, .int (0 : Int32)), (0, .ref (ad 0))]) hx hb dd_O_sumInHand_3 rfl hl (by decide) rfl (fun ls hl => ?_)
  exact L4  _ _ _ h _ (lv_sub hl [2, 1, 0] rfl)
def ff_O_state (n : Nat) (I : MI) (J : MJ) (a1 : Int32) : Option (Int32) := if a1 = 0 then (some (I 0 1)) else if a1 = 1 then (some (I 0 2)) else if a1 = 2 then (if (I 0 7) = (-1 : Int32) then ((ff_O_nextToTurn n I J ).bind fun r5 => some r5) else (some (I 0 7))) else if a1 = 3 then ((ff_O_sumInHand n I J ).bind fun r7 => some r7) else if a1 = 4 then ((ff_O_mostInRound n I J ).bind fun r9 => some r9) else (some (-1 : Int32))
set_option maxHeartbeats 4000000 in
set_option maxRecDepth 100000 in
theorem mm_O_state (l : Launch) (D : va_G) (kc : Nat → ClassId) (ad : Nat → Nat) (I : MI) (J : MJ) (n : Nat) (a1 : Int32) (r : Int32) (h : ff_O_state n I J a1 = some r) : Met l yy_O_state (.code yy_O_state cc_O_state 2 (some .int) :: kw) { frames := 2, cells := 0, slots := 0, locals := 43 } (va_Pc [.ref (ad 0), .int a1] (BR D kc (wC kc ad I J))) (vp_Si (fun z => z = r)) 0 0 (fun _ => False) := by
  refine Met.ofW (cc := cc_O_state) (maxL := 2) (ret := some .int) (by decide) rfl ?_
  intro p e s m args below meth c s₁ B hml hv
  obtain ⟨rfl, hP, hK⟩ := hv
  have hx := B.exec
  have hb := B.bytes
  have hr := B.returns
  have hlocks := B.notSynchronized
  have hk : ∀ w ∈ kw, w.before _ s = true := fun w hw => atoms_spec (ws := (.code yy_O_state cc_O_state 2 (some .int) :: kw)) B.pre w (List.mem_cons_of_mem _ hw)
  have hown : s.vm.findClass "OpenDeal" = some m.cls := findClass_of_methodNamed B.named
  have hl := lv_entry ([.ref (ad 0), .int a1]) (n := 2) (Nat.le_of_ble_eq_true rfl)
  rw [lg_entry_eq]
  generalize (lg_sl ([.ref (ad 0), .int a1]) ++ List.replicate (2 - (lg_sl ([.ref (ad 0), .int a1])).length) Slot.unset).toArray = ls at hl ⊢
  have hl : lv_has ls 2 [(0, .ref (ad 0)), (1, .int a1)] := hl
  unfold ff_O_state at h
  refine lv_iload_n hx hb dd_O_state_0 rfl (lv_at hl 1 rfl) ?_
  by_cases hc1 : a1 = 0
  · have h := ip_out hc1 h
    refine lv_tableIn (tgt := 36) hx hb dd_O_state_1 (by rw [hc1]; decide) (by rw [hc1]; decide) (by rw [hc1]; rfl) (by decide) ?_
    refine lv_aload_n hx hb dd_O_state_36 rfl (lv_at hl 0 rfl) ?_
    refine va_get (D := D) (ci := 0) (v := .int (I 0 1)) (C := "OpenDeal") (T := T_O) (N := 11) hx hb hk in_O hown hK hP 0 at_O rfl 1 (by decide) (hk _ kw_106) (fun _ h9 => h9) rfl dd_O_state_37 ?_
    obtain rfl := Option.some.inj h
    exact W.iret hx hb hr (fun t ht hW => ⟨_, rfl, rfl, ht⟩) (fun q hq => by cases hq) dd_O_state_40
  have h := in_out hc1 h
  by_cases hc2 : a1 = 1
  · have h := ip_out hc2 h
    refine lv_tableIn (tgt := 41) hx hb dd_O_state_1 (by rw [hc2]; decide) (by rw [hc2]; decide) (by rw [hc2]; rfl) (by decide) ?_
    refine lv_aload_n hx hb dd_O_state_41 rfl (lv_at hl 0 rfl) ?_
    refine va_get (D := D) (ci := 0) (v := .int (I 0 2)) (C := "OpenDeal") (T := T_O) (N := 11) hx hb hk in_O hown hK hP 0 at_O rfl 2 (by decide) (hk _ kw_107) (fun _ h9 => h9) rfl dd_O_state_42 ?_
    obtain rfl := Option.some.inj h
    exact W.iret hx hb hr (fun t ht hW => ⟨_, rfl, rfl, ht⟩) (fun q hq => by cases hq) dd_O_state_45
  have h := in_out hc2 h
  by_cases hc3 : a1 = 2
  · have h := ip_out hc3 h
    refine lv_tableIn (tgt := 46) hx hb dd_O_state_1 (by rw [hc3]; decide) (by rw [hc3]; decide) (by rw [hc3]; rfl) (by decide) ?_
    refine lv_aload_n hx hb dd_O_state_46 rfl (lv_at hl 0 rfl) ?_
    refine va_get (D := D) (ci := 0) (v := .int (I 0 7)) (C := "OpenDeal") (T := T_O) (N := 11) hx hb hk in_O hown hK hP 0 at_O rfl 7 (by decide) (hk _ kw_112) (fun _ h9 => h9) rfl dd_O_state_47 ?_
    refine lv_iconst (v := -1) hx hb dd_O_state_50 (by decide) ?_
    refine lv_icmp_eq (tgt := 61) hx hb dd_O_state_51 (by decide) (fun hc4 => ?_) (fun hc4 => ?_)
    · have h := ip_out hc4 h
      refine lv_aload_n hx hb dd_O_state_61 rfl (lv_at hl 0 rfl) ?_
      obtain ⟨r5, hr5, h⟩ := ob_out h
      refine cr_Vi (n := 0) (As := []) hx hb hml hown hk (mm_O_nextToTurn l D kc ad _ _ _  _ hr5) hK hP 0 at_O rfl rfl kw_246 kw_248 sel_O_nextToTurn kw_1 kw_249 ⟨rfl, rfl⟩ (by decide +kernel) ⟨Nat.le_of_ble_eq_true rfl, Nat.le_of_ble_eq_true rfl⟩ rfl hl.1 rfl (Nat.le_of_ble_eq_true rfl) dd_O_state_62 ⟨Nat.le_of_ble_eq_true rfl, Nat.le_of_ble_eq_true rfl⟩ ?_
      obtain rfl := Option.some.inj h
      exact W.iret hx hb hr (fun t ht hW => ⟨_, rfl, rfl, ht⟩) (fun q hq => by cases hq) dd_O_state_65
    · have h := in_out hc4 h
      refine lv_aload_n hx hb dd_O_state_54 rfl (lv_at hl 0 rfl) ?_
      refine va_get (D := D) (ci := 0) (v := .int (I 0 7)) (C := "OpenDeal") (T := T_O) (N := 11) hx hb hk in_O hown hK hP 0 at_O rfl 7 (by decide) (hk _ kw_112) (fun _ h9 => h9) rfl dd_O_state_55 ?_
      refine lv_goto (tgt := 65) hx hb dd_O_state_58 (by decide) ?_
      obtain rfl := Option.some.inj h
      exact W.iret hx hb hr (fun t ht hW => ⟨_, rfl, rfl, ht⟩) (fun q hq => by cases hq) dd_O_state_65
  have h := in_out hc3 h
  by_cases hc6 : a1 = 3
  · have h := ip_out hc6 h
    refine lv_tableIn (tgt := 66) hx hb dd_O_state_1 (by rw [hc6]; decide) (by rw [hc6]; decide) (by rw [hc6]; rfl) (by decide) ?_
    refine lv_aload_n hx hb dd_O_state_66 rfl (lv_at hl 0 rfl) ?_
    obtain ⟨r7, hr7, h⟩ := ob_out h
    refine cr_Vi (n := 0) (As := []) hx hb hml hown hk (mm_O_sumInHand l D kc ad _ _ _  _ hr7) hK hP 0 at_O rfl rfl kw_412 kw_414 sel_O_sumInHand kw_1 kw_415 ⟨rfl, rfl⟩ (by decide +kernel) ⟨Nat.le_of_ble_eq_true rfl, Nat.le_of_ble_eq_true rfl⟩ rfl hl.1 rfl (Nat.le_of_ble_eq_true rfl) dd_O_state_67 ⟨Nat.le_of_ble_eq_true rfl, Nat.le_of_ble_eq_true rfl⟩ ?_
    obtain rfl := Option.some.inj h
    exact W.iret hx hb hr (fun t ht hW => ⟨_, rfl, rfl, ht⟩) (fun q hq => by cases hq) dd_O_state_70
  have h := in_out hc6 h
  by_cases hc8 : a1 = 4
  · have h := ip_out hc8 h
    refine lv_tableIn (tgt := 71) hx hb dd_O_state_1 (by rw [hc8]; decide) (by rw [hc8]; decide) (by rw [hc8]; rfl) (by decide) ?_
    refine lv_aload_n hx hb dd_O_state_71 rfl (lv_at hl 0 rfl) ?_
    obtain ⟨r9, hr9, h⟩ := ob_out h
    refine cr_Vi (n := 0) (As := []) hx hb hml hown hk (mm_O_mostInRound l D kc ad _ _ _  _ hr9) hK hP 0 at_O rfl rfl kw_329 kw_331 sel_O_mostInRound kw_1 kw_332 ⟨rfl, rfl⟩ (by decide +kernel) ⟨Nat.le_of_ble_eq_true rfl, Nat.le_of_ble_eq_true rfl⟩ rfl hl.1 rfl (Nat.le_of_ble_eq_true rfl) dd_O_state_72 ⟨Nat.le_of_ble_eq_true rfl, Nat.le_of_ble_eq_true rfl⟩ ?_
    obtain rfl := Option.some.inj h
    exact W.iret hx hb hr (fun t ht hW => ⟨_, rfl, rfl, ht⟩) (fun q hq => by cases hq) dd_O_state_75
  have h := in_out hc8 h
  have ehc1 := si_ne (k := 0) hc1 rfl
  have ehc2 := si_ne (k := 1) hc2 rfl
  have ehc3 := si_ne (k := 2) hc3 rfl
  have ehc6 := si_ne (k := 3) hc6 rfl
  have ehc8 := si_ne (k := 4) hc8 rfl
  refine lv_tableOut (tgt := 76) hx hb dd_O_state_1 (by omega) (by decide) ?_
  refine lv_iconst (v := -1) hx hb dd_O_state_76 (by decide) ?_
  obtain rfl := Option.some.inj h
  exact W.iret hx hb hr (fun t ht hW => ⟨_, rfl, rfl, ht⟩) (fun q hq => by cases hq) dd_O_state_77
def ff_P_countGiven_4 (I : MI) (J : MJ)  : Nat → Nat → Int32 → Int32 → Option (Int32)
  | 0, _, _, _ => none
  | n + 1, v0, v1, v2 => if (52 : Int32) ≤ v2 then (some v1) else ((ff_P_hasGiven n I J v0 v2).bind fun r2 => if r2 = 0 then (ff_P_countGiven_4 I J n v0 v1 (v2 + (1 : Int32))) else (ff_P_countGiven_4 I J n v0 (v1 + (1 : Int32)) (v2 + (1 : Int32))))
def ff_P_countGiven (n : Nat) (I : MI) (J : MJ) (a0 : Nat) : Option (Int32) := ff_P_countGiven_4 I J n a0 (0 : Int32) (0 : Int32)
set_option maxHeartbeats 4000000 in
set_option maxRecDepth 100000 in
theorem mm_P_countGiven (l : Launch) (D : va_G) (kc : Nat → ClassId) (ad : Nat → Nat) (I : MI) (J : MJ) (n : Nat) (a0 : Nat) (ha0 : isP a0) (r : Int32) (h : ff_P_countGiven n I J a0 = some r) : Met l yy_P_countGiven (.code yy_P_countGiven cc_P_countGiven 3 (some .int) :: kw) { frames := 1, cells := 0, slots := 0, locals := 21 } (va_Pc [.ref (ad a0)] (BR D kc (wC kc ad I J))) (vp_Si (fun z => z = r)) 0 0 (fun _ => False) := by
  refine Met.ofW (cc := cc_P_countGiven) (maxL := 3) (ret := some .int) (by decide) rfl ?_
  intro p e s m args below meth c s₁ B hml hv
  obtain ⟨rfl, hP, hK⟩ := hv
  have hx := B.exec
  have hb := B.bytes
  have hr := B.returns
  have hlocks := B.notSynchronized
  have hk : ∀ w ∈ kw, w.before _ s = true := fun w hw => atoms_spec (ws := (.code yy_P_countGiven cc_P_countGiven 3 (some .int) :: kw)) B.pre w (List.mem_cons_of_mem _ hw)
  have hown : s.vm.findClass "OpenDeal$Player" = some m.cls := findClass_of_methodNamed B.named
  have L4 : ∀  (n : Nat) (v0 : Nat) (hv0 : isP v0) (v1 : Int32) (v2 : Int32), ff_P_countGiven_4 I J n v0 v1 v2 = some r → ∀ ls, lv_has ls 3 [(0, .ref (ad v0)), (1, .int v1), (2, .int v2)] → W p l e (headSpec (.code yy_P_countGiven cc_P_countGiven 3 (some .int) :: kw) { frames := 1, cells := 0, slots := 0, locals := 21 }).room s m ([.ref (ad a0)] : List Value).toArray below meth c s.heap [] 0 0 (MQ below (vp_Si (fun z => z = r)) ([.ref (ad a0)] : List Value).toArray s 0 0 (fun _ => False)) (F0 m 4 ls []) := by
    intro  n
    induction n with
    | zero => intro v0 hv0 v1 v2 h; exact absurd h (by simp [ff_P_countGiven_4])
    | succ n ih =>
      intro v0 hv0 v1 v2 h ls hl
      rw [ff_P_countGiven_4] at h
      refine lv_iload_n hx hb dd_P_countGiven_4 rfl (lv_at hl 2 rfl) ?_
      refine lv_bipush (v := 52) hx hb dd_P_countGiven_5 (by decide) ?_
      refine lv_icmp_ge (tgt := 27) hx hb dd_P_countGiven_7 (by decide) (fun hc1 => ?_) (fun hc1 => ?_)
      · have h := ip_out hc1 h
        refine lv_iload_n hx hb dd_P_countGiven_27 rfl (lv_at hl 1 rfl) ?_
        obtain rfl := Option.some.inj h
        exact W.iret hx hb hr (fun t ht hW => ⟨_, rfl, rfl, ht⟩) (fun q hq => by cases hq) dd_P_countGiven_28
      · have h := in_out hc1 h
        refine lv_aload_n hx hb dd_P_countGiven_10 rfl (lv_at hl 0 rfl) ?_
        refine lv_iload_n hx hb dd_P_countGiven_11 rfl (lv_at hl 2 rfl) ?_
        obtain ⟨r2, hr2, h⟩ := ob_out h
        refine cr_Vi (n := 1) (As := [.int v2]) hx hb hml hown hk (mm_P_hasGiven l D kc ad _ _ _ _ hv0 _ _ hr2) hK hP v0 (at_P hv0) rfl rfl kw_403 kw_286 kw_287 kw_2 kw_288 ⟨rfl, rfl⟩ (by decide +kernel) ⟨Nat.le_of_ble_eq_true rfl, Nat.le_of_ble_eq_true rfl⟩ rfl hl.1 rfl (Nat.le_of_ble_eq_true rfl) dd_P_countGiven_12 ⟨Nat.le_of_ble_eq_true rfl, Nat.le_of_ble_eq_true rfl⟩ ?_
        refine lv_if_eq (tgt := 21) hx hb dd_P_countGiven_15 (by decide) (fun hc3 => ?_) (fun hc3 => ?_)
        · have h := ip_out hc3 h
          refine lv_iinc (v := v2 + (1 : Int32)) (lv' := [(2, .int (v2 + (1 : Int32))), (0, .ref (ad v0)), (1, .int v1)]) hx hb dd_P_countGiven_21 hl (k := 2) rfl rfl (by decide) rfl (fun ls hl => ?_)
          refine lv_goto (tgt := 4) hx hb dd_P_countGiven_24 (by decide) ?_
          exact ih _ hv0 _ _ h _ (lv_sub hl [1, 2, 0] rfl)
        · have h := in_out hc3 h
          refine lv_iinc (v := v1 + (1 : Int32)) (lv' := [(1, .int (v1 + (1 : Int32))), (0, .ref (ad v0)), (2, .int v2)]) hx hb dd_P_countGiven_18 hl (k := 1) rfl rfl (by decide) rfl (fun ls hl => ?_)
          refine lv_iinc (v := v2 + (1 : Int32)) (lv' := [(2, .int (v2 + (1 : Int32))), (1, .int (v1 + (1 : Int32))), (0, .ref (ad v0))]) hx hb dd_P_countGiven_21 hl (k := 2) rfl rfl (by decide) rfl (fun ls hl => ?_)
          refine lv_goto (tgt := 4) hx hb dd_P_countGiven_24 (by decide) ?_
          exact ih _ hv0 _ _ h _ (lv_sub hl [2, 1, 0] rfl)
  have hl := lv_entry ([.ref (ad a0)]) (n := 3) (Nat.le_of_ble_eq_true rfl)
  rw [lg_entry_eq]
  generalize (lg_sl ([.ref (ad a0)]) ++ List.replicate (3 - (lg_sl ([.ref (ad a0)])).length) Slot.unset).toArray = ls at hl ⊢
  have hl : lv_has ls 3 [(0, .ref (ad a0))] := hl
  unfold ff_P_countGiven at h
  refine lv_iconst (v := 0) hx hb dd_P_countGiven_0 (by decide) ?_
  refine lv_istore_n (lv' := [(1, .int (0 : Int32)), (0, .ref (ad a0))]) hx hb dd_P_countGiven_1 rfl hl (by decide) rfl (fun ls hl => ?_)
  refine lv_iconst (v := 0) hx hb dd_P_countGiven_2 (by decide) ?_
  refine lv_istore_n (lv' := [(2, .int (0 : Int32)), (1, .int (0 : Int32)), (0, .ref (ad a0))]) hx hb dd_P_countGiven_3 rfl hl (by decide) rfl (fun ls hl => ?_)
  exact L4  _ _ ha0 _ _ h _ (lv_sub hl [2, 1, 0] rfl)
def ff_O_player (n : Nat) (I : MI) (J : MJ) (a1 : Int32) (a2 : Int32) : Option (Int32) := (ff_O_isSeated n I J a1).bind fun r1 => if r1 = 0 then (some (-1 : Int32)) else (if ¬ (a1 < 0 ∨ 4 ≤ (a1).toNatClampNeg) then if a2 = 0 then (some (I (15 + 6 * (a1).toNatClampNeg) 0)) else if a2 = 1 then (some (I (15 + 6 * (a1).toNatClampNeg) 1)) else if a2 = 2 then (some (I (15 + 6 * (a1).toNatClampNeg) 2)) else if a2 = 3 then (if (I 0 1) < (4 : Int32) then (some (0 : Int32)) else (if (I (15 + 6 * (a1).toNatClampNeg) 3) = 0 then (some (1 : Int32)) else (some (0 : Int32)))) else if a2 = 4 then ((ff_P_countGiven n I J (15 + 6 * (a1).toNatClampNeg)).bind fun r11 => some r11) else (some (-1 : Int32)) else none)
set_option maxHeartbeats 4000000 in
set_option maxRecDepth 100000 in
theorem mm_O_player (l : Launch) (D : va_G) (kc : Nat → ClassId) (ad : Nat → Nat) (I : MI) (J : MJ) (n : Nat) (a1 : Int32) (a2 : Int32) (r : Int32) (h : ff_O_player n I J a1 a2 = some r) : Met l yy_O_player (.code yy_O_player cc_O_player 4 (some .int) :: kw) { frames := 2, cells := 0, slots := 0, locals := 43 } (va_Pc [.ref (ad 0), .int a1, .int a2] (BR D kc (wC kc ad I J))) (vp_Si (fun z => z = r)) 0 0 (fun _ => False) := by
  refine Met.ofW (cc := cc_O_player) (maxL := 4) (ret := some .int) (by decide) rfl ?_
  intro p e s m args below meth c s₁ B hml hv
  obtain ⟨rfl, hP, hK⟩ := hv
  have hx := B.exec
  have hb := B.bytes
  have hr := B.returns
  have hlocks := B.notSynchronized
  have hk : ∀ w ∈ kw, w.before _ s = true := fun w hw => atoms_spec (ws := (.code yy_O_player cc_O_player 4 (some .int) :: kw)) B.pre w (List.mem_cons_of_mem _ hw)
  have hown : s.vm.findClass "OpenDeal" = some m.cls := findClass_of_methodNamed B.named
  have hl := lv_entry ([.ref (ad 0), .int a1, .int a2]) (n := 4) (Nat.le_of_ble_eq_true rfl)
  rw [lg_entry_eq]
  generalize (lg_sl ([.ref (ad 0), .int a1, .int a2]) ++ List.replicate (4 - (lg_sl ([.ref (ad 0), .int a1, .int a2])).length) Slot.unset).toArray = ls at hl ⊢
  have hl : lv_has ls 4 [(0, .ref (ad 0)), (1, .int a1), (2, .int a2)] := hl
  unfold ff_O_player at h
  refine lv_aload_n hx hb dd_O_player_0 rfl (lv_at hl 0 rfl) ?_
  refine lv_iload_n hx hb dd_O_player_1 rfl (lv_at hl 1 rfl) ?_
  obtain ⟨r1, hr1, h⟩ := ob_out h
  refine cr_Vi (n := 1) (As := [.int a1]) hx hb hml hown hk (mm_O_isSeated l D kc ad _ _ _ _ _ hr1) hK hP 0 at_O rfl rfl kw_196 kw_198 sel_O_isSeated kw_1 kw_199 ⟨rfl, rfl⟩ (by decide +kernel) ⟨Nat.le_of_ble_eq_true rfl, Nat.le_of_ble_eq_true rfl⟩ rfl hl.1 rfl (Nat.le_of_ble_eq_true rfl) dd_O_player_2 ⟨Nat.le_of_ble_eq_true rfl, Nat.le_of_ble_eq_true rfl⟩ ?_
  refine lv_if_ne (tgt := 10) hx hb dd_O_player_5 (by decide) (fun hc2 => ?_) (fun hc2 => ?_)
  · have h := in_out hc2 h
    refine lv_aload_n hx hb dd_O_player_10 rfl (lv_at hl 0 rfl) ?_
    refine va_get (D := D) (ci := 0) (v := .ref (ad 1)) (C := "OpenDeal") (T := T_O) (N := 11) hx hb hk in_O hown hK hP 0 at_O rfl 3 (by decide) (hk _ kw_108) (fun _ h9 => h9) rfl dd_O_player_11 ?_
    refine lv_iload_n hx hb dd_O_player_14 rfl (lv_at hl 1 rfl) ?_
    obtain ⟨hi3, h⟩ := oi_out h
    refine ap_ald (b := ad (15 + 6 * (a1).toNatClampNeg)) hx hb hK hP 1 3 at_pl rfl hi3 rfl dd_O_player_15 ?_
    refine lv_astore_n (lv' := [(3, .ref (ad (15 + 6 * (a1).toNatClampNeg))), (0, .ref (ad 0)), (1, .int a1), (2, .int a2)]) hx hb dd_O_player_16 rfl hl (by decide) rfl (fun ls hl => ?_)
    refine lv_iload_n hx hb dd_O_player_17 rfl (lv_at hl 3 rfl) ?_
    by_cases hc4 : a2 = 0
    · have h := ip_out hc4 h
      refine lv_tableIn (tgt := 52) hx hb dd_O_player_18 (by rw [hc4]; decide) (by rw [hc4]; decide) (by rw [hc4]; rfl) (by decide) ?_
      refine lv_aload_n hx hb dd_O_player_52 rfl (lv_at hl 0 rfl) ?_
      refine va_get (D := D) (ci := 1) (v := .int (I (15 + 6 * (a1).toNatClampNeg) 0)) (C := "OpenDeal$Player") (T := T_P) (N := 13) hx hb hk in_P hown hK hP (15 + 6 * (a1).toNatClampNeg) (at_P (isP_of (vi_lt hi3))) rfl 0 (by decide) (hk _ kw_51) (fun _ h9 => h9) rfl dd_O_player_53 ?_
      obtain rfl := Option.some.inj h
      exact W.iret hx hb hr (fun t ht hW => ⟨_, rfl, rfl, ht⟩) (fun q hq => by cases hq) dd_O_player_56
    have h := in_out hc4 h
    by_cases hc5 : a2 = 1
    · have h := ip_out hc5 h
      refine lv_tableIn (tgt := 57) hx hb dd_O_player_18 (by rw [hc5]; decide) (by rw [hc5]; decide) (by rw [hc5]; rfl) (by decide) ?_
      refine lv_aload_n hx hb dd_O_player_57 rfl (lv_at hl 0 rfl) ?_
      refine va_get (D := D) (ci := 1) (v := .int (I (15 + 6 * (a1).toNatClampNeg) 1)) (C := "OpenDeal$Player") (T := T_P) (N := 13) hx hb hk in_P hown hK hP (15 + 6 * (a1).toNatClampNeg) (at_P (isP_of (vi_lt hi3))) rfl 1 (by decide) (hk _ kw_53) (fun _ h9 => h9) rfl dd_O_player_58 ?_
      obtain rfl := Option.some.inj h
      exact W.iret hx hb hr (fun t ht hW => ⟨_, rfl, rfl, ht⟩) (fun q hq => by cases hq) dd_O_player_61
    have h := in_out hc5 h
    by_cases hc6 : a2 = 2
    · have h := ip_out hc6 h
      refine lv_tableIn (tgt := 62) hx hb dd_O_player_18 (by rw [hc6]; decide) (by rw [hc6]; decide) (by rw [hc6]; rfl) (by decide) ?_
      refine lv_aload_n hx hb dd_O_player_62 rfl (lv_at hl 0 rfl) ?_
      refine va_get (D := D) (ci := 1) (v := .int (I (15 + 6 * (a1).toNatClampNeg) 2)) (C := "OpenDeal$Player") (T := T_P) (N := 13) hx hb hk in_P hown hK hP (15 + 6 * (a1).toNatClampNeg) (at_P (isP_of (vi_lt hi3))) rfl 2 (by decide) (hk _ kw_55) (fun _ h9 => h9) rfl dd_O_player_63 ?_
      obtain rfl := Option.some.inj h
      exact W.iret hx hb hr (fun t ht hW => ⟨_, rfl, rfl, ht⟩) (fun q hq => by cases hq) dd_O_player_66
    have h := in_out hc6 h
    by_cases hc7 : a2 = 3
    · have h := ip_out hc7 h
      refine lv_tableIn (tgt := 67) hx hb dd_O_player_18 (by rw [hc7]; decide) (by rw [hc7]; decide) (by rw [hc7]; rfl) (by decide) ?_
      refine lv_aload_n hx hb dd_O_player_67 rfl (lv_at hl 1 rfl) ?_
      refine va_get (D := D) (ci := 0) (v := .int (I 0 1)) (C := "OpenDeal") (T := T_O) (N := 11) hx hb hk in_O hown hK hP 0 at_O rfl 1 (by decide) (hk _ kw_106) (fun _ h9 => h9) rfl dd_O_player_68 ?_
      refine lv_iconst (v := 4) hx hb dd_O_player_71 (by decide) ?_
      refine lv_icmp_lt (tgt := 86) hx hb dd_O_player_72 (by decide) (fun hc8 => ?_) (fun hc8 => ?_)
      · have h := ip_out hc8 h
        refine lv_iconst (v := 0) hx hb dd_O_player_86 (by decide) ?_
        obtain rfl := Option.some.inj h
        exact W.iret hx hb hr (fun t ht hW => ⟨_, rfl, rfl, ht⟩) (fun q hq => by cases hq) dd_O_player_87
      · have h := in_out hc8 h
        refine lv_aload_n hx hb dd_O_player_75 rfl (lv_at hl 0 rfl) ?_
        refine va_get (D := D) (ci := 1) (v := .int (I (15 + 6 * (a1).toNatClampNeg) 3)) (C := "OpenDeal$Player") (T := T_P) (N := 13) hx hb hk in_P hown hK hP (15 + 6 * (a1).toNatClampNeg) (at_P (isP_of (vi_lt hi3))) rfl 3 (by decide) (hk _ kw_57) (fun _ h9 => h9) rfl dd_O_player_76 ?_
        refine lv_if_ne (tgt := 86) hx hb dd_O_player_79 (by decide) (fun hc9 => ?_) (fun hc9 => ?_)
        · have h := in_out hc9 h
          refine lv_iconst (v := 0) hx hb dd_O_player_86 (by decide) ?_
          obtain rfl := Option.some.inj h
          exact W.iret hx hb hr (fun t ht hW => ⟨_, rfl, rfl, ht⟩) (fun q hq => by cases hq) dd_O_player_87
        · have h := ip_out hc9 h
          refine lv_iconst (v := 1) hx hb dd_O_player_82 (by decide) ?_
          refine lv_goto (tgt := 87) hx hb dd_O_player_83 (by decide) ?_
          obtain rfl := Option.some.inj h
          exact W.iret hx hb hr (fun t ht hW => ⟨_, rfl, rfl, ht⟩) (fun q hq => by cases hq) dd_O_player_87
    have h := in_out hc7 h
    by_cases hc10 : a2 = 4
    · have h := ip_out hc10 h
      refine lv_tableIn (tgt := 88) hx hb dd_O_player_18 (by rw [hc10]; decide) (by rw [hc10]; decide) (by rw [hc10]; rfl) (by decide) ?_
      refine lv_aload_n hx hb dd_O_player_88 rfl (lv_at hl 0 rfl) ?_
      obtain ⟨r11, hr11, h⟩ := ob_out h
      refine cr_Vi (n := 0) (As := []) hx hb hml hown hk (mm_P_countGiven l D kc ad _ _ _ _ (isP_of (vi_lt hi3)) _ hr11) hK hP (15 + 6 * (a1).toNatClampNeg) (at_P (isP_of (vi_lt hi3))) rfl rfl kw_420 kw_421 kw_422 kw_2 kw_423 ⟨rfl, rfl⟩ (by decide +kernel) ⟨Nat.le_of_ble_eq_true rfl, Nat.le_of_ble_eq_true rfl⟩ rfl hl.1 rfl (Nat.le_of_ble_eq_true rfl) dd_O_player_89 ⟨Nat.le_of_ble_eq_true rfl, Nat.le_of_ble_eq_true rfl⟩ ?_
      obtain rfl := Option.some.inj h
      exact W.iret hx hb hr (fun t ht hW => ⟨_, rfl, rfl, ht⟩) (fun q hq => by cases hq) dd_O_player_92
    have h := in_out hc10 h
    have ehc4 := si_ne (k := 0) hc4 rfl
    have ehc5 := si_ne (k := 1) hc5 rfl
    have ehc6 := si_ne (k := 2) hc6 rfl
    have ehc7 := si_ne (k := 3) hc7 rfl
    have ehc10 := si_ne (k := 4) hc10 rfl
    refine lv_tableOut (tgt := 93) hx hb dd_O_player_18 (by omega) (by decide) ?_
    refine lv_iconst (v := -1) hx hb dd_O_player_93 (by decide) ?_
    obtain rfl := Option.some.inj h
    exact W.iret hx hb hr (fun t ht hW => ⟨_, rfl, rfl, ht⟩) (fun q hq => by cases hq) dd_O_player_94
  · have h := ip_out hc2 h
    refine lv_iconst (v := -1) hx hb dd_O_player_8 (by decide) ?_
    obtain rfl := Option.some.inj h
    exact W.iret hx hb hr (fun t ht hW => ⟨_, rfl, rfl, ht⟩) (fun q hq => by cases hq) dd_O_player_9
def ff_O_allSealed_2 (I : MI) (J : MJ)  : Nat → Int32 → Option (Int32)
  | 0, _ => none
  | n + 1, v1 => if (I 0 2) ≤ v1 then (some (1 : Int32)) else (if ¬ (v1 < 0 ∨ 4 ≤ (v1).toNatClampNeg) then if (I (15 + 6 * (v1).toNatClampNeg) 5) = 0 then (some (0 : Int32)) else (ff_O_allSealed_2 I J n (v1 + (1 : Int32))) else none)
def ff_O_allSealed (n : Nat) (I : MI) (J : MJ)  : Option (Int32) := ff_O_allSealed_2 I J n (0 : Int32)
set_option maxHeartbeats 4000000 in
set_option maxRecDepth 100000 in
theorem mm_O_allSealed (l : Launch) (D : va_G) (kc : Nat → ClassId) (ad : Nat → Nat) (I : MI) (J : MJ) (n : Nat)  (r : Int32) (h : ff_O_allSealed n I J  = some r) : Met l yy_O_allSealed (.code yy_O_allSealed cc_O_allSealed 2 (some .boolean) :: kw) { frames := 0, cells := 0, slots := 0, locals := 0 } (va_Pc [.ref (ad 0)] (BR D kc (wC kc ad I J))) (vp_Si (fun z => z = r)) 0 0 (fun _ => False) := by
  refine Met.ofW (cc := cc_O_allSealed) (maxL := 2) (ret := some .boolean) (by decide) rfl ?_
  intro p e s m args below meth c s₁ B hml hv
  obtain ⟨rfl, hP, hK⟩ := hv
  have hx := B.exec
  have hb := B.bytes
  have hr := B.returns
  have hlocks := B.notSynchronized
  have hk : ∀ w ∈ kw, w.before _ s = true := fun w hw => atoms_spec (ws := (.code yy_O_allSealed cc_O_allSealed 2 (some .boolean) :: kw)) B.pre w (List.mem_cons_of_mem _ hw)
  have hown : s.vm.findClass "OpenDeal" = some m.cls := findClass_of_methodNamed B.named
  have L2 : ∀  (n : Nat) (v1 : Int32), ff_O_allSealed_2 I J n v1 = some r → ∀ ls, lv_has ls 2 [(0, .ref (ad 0)), (1, .int v1)] → W p l e (headSpec (.code yy_O_allSealed cc_O_allSealed 2 (some .boolean) :: kw) { frames := 0, cells := 0, slots := 0, locals := 0 }).room s m ([.ref (ad 0)] : List Value).toArray below meth c s.heap [] 0 0 (MQ below (vp_Si (fun z => z = r)) ([.ref (ad 0)] : List Value).toArray s 0 0 (fun _ => False)) (F0 m 2 ls []) := by
    intro  n
    induction n with
    | zero => intro v1 h; exact absurd h (by simp [ff_O_allSealed_2])
    | succ n ih =>
      intro v1 h ls hl
      rw [ff_O_allSealed_2] at h
      refine lv_iload_n hx hb dd_O_allSealed_2 rfl (lv_at hl 1 rfl) ?_
      refine lv_aload_n hx hb dd_O_allSealed_3 rfl (lv_at hl 0 rfl) ?_
      refine va_get (D := D) (ci := 0) (v := .int (I 0 2)) (C := "OpenDeal") (T := T_O) (N := 11) hx hb hk in_O hown hK hP 0 at_O rfl 2 (by decide) (hk _ kw_107) (fun _ h9 => h9) rfl dd_O_allSealed_4 ?_
      refine lv_icmp_ge (tgt := 30) hx hb dd_O_allSealed_7 (by decide) (fun hc1 => ?_) (fun hc1 => ?_)
      · have h := ip_out hc1 h
        refine lv_iconst (v := 1) hx hb dd_O_allSealed_30 (by decide) ?_
        obtain rfl := Option.some.inj h
        exact W.zret hx hb hr rfl (fun t ht hW => ⟨_, rfl, rfl, ht⟩) (fun q hq => by cases hq) dd_O_allSealed_31
      · have h := in_out hc1 h
        refine lv_aload_n hx hb dd_O_allSealed_10 rfl (lv_at hl 0 rfl) ?_
        refine va_get (D := D) (ci := 0) (v := .ref (ad 1)) (C := "OpenDeal") (T := T_O) (N := 11) hx hb hk in_O hown hK hP 0 at_O rfl 3 (by decide) (hk _ kw_108) (fun _ h9 => h9) rfl dd_O_allSealed_11 ?_
        refine lv_iload_n hx hb dd_O_allSealed_14 rfl (lv_at hl 1 rfl) ?_
        obtain ⟨hi2, h⟩ := oi_out h
        refine ap_ald (b := ad (15 + 6 * (v1).toNatClampNeg)) hx hb hK hP 1 3 at_pl rfl hi2 rfl dd_O_allSealed_15 ?_
        refine va_get (D := D) (ci := 1) (v := .int (I (15 + 6 * (v1).toNatClampNeg) 5)) (C := "OpenDeal$Player") (T := T_P) (N := 13) hx hb hk in_P hown hK hP (15 + 6 * (v1).toNatClampNeg) (at_P (isP_of (vi_lt hi2))) rfl 5 (by decide) (hk _ kw_60) (fun _ h9 => h9) rfl dd_O_allSealed_16 ?_
        refine lv_if_ne (tgt := 24) hx hb dd_O_allSealed_19 (by decide) (fun hc3 => ?_) (fun hc3 => ?_)
        · have h := in_out hc3 h
          refine lv_iinc (v := v1 + (1 : Int32)) (lv' := [(1, .int (v1 + (1 : Int32))), (0, .ref (ad 0))]) hx hb dd_O_allSealed_24 hl (k := 1) rfl rfl (by decide) rfl (fun ls hl => ?_)
          refine lv_goto (tgt := 2) hx hb dd_O_allSealed_27 (by decide) ?_
          exact ih _ h _ (lv_sub hl [1, 0] rfl)
        · have h := ip_out hc3 h
          refine lv_iconst (v := 0) hx hb dd_O_allSealed_22 (by decide) ?_
          obtain rfl := Option.some.inj h
          exact W.zret hx hb hr rfl (fun t ht hW => ⟨_, rfl, rfl, ht⟩) (fun q hq => by cases hq) dd_O_allSealed_23
  have hl := lv_entry ([.ref (ad 0)]) (n := 2) (Nat.le_of_ble_eq_true rfl)
  rw [lg_entry_eq]
  generalize (lg_sl ([.ref (ad 0)]) ++ List.replicate (2 - (lg_sl ([.ref (ad 0)])).length) Slot.unset).toArray = ls at hl ⊢
  have hl : lv_has ls 2 [(0, .ref (ad 0))] := hl
  unfold ff_O_allSealed at h
  refine lv_iconst (v := 0) hx hb dd_O_allSealed_0 (by decide) ?_
  refine lv_istore_n (lv' := [(1, .int (0 : Int32)), (0, .ref (ad 0))]) hx hb dd_O_allSealed_1 rfl hl (by decide) rfl (fun ls hl => ?_)
  exact L2  _ _ h _ (lv_sub hl [1, 0] rfl)
def ff_O_spoil_3  : Nat → MI → MJ → Nat → Nat → Int32 → Int32 → Option (MI × MJ)
  | 0, _, _, _, _, _, _ => none
  | n + 1, I, J, v1, v2, v3, v4 => if (52 : Int32) ≤ v4 then (some (I, J)) else ((ff_P_cheatsAt n I J v2 v3 v4).bind fun r2 => if r2 = 0 then (ff_O_spoil_3 n I J v1 v2 v3 (v4 + (1 : Int32))) else (if ¬ (v4 < 0 ∨ 52 ≤ (v4).toNatClampNeg) then if (I v1 (v4).toNatClampNeg) = ((I 0 0) - (1 : Int32)) then (if ¬ (v4 < 0 ∨ 52 ≤ (v4).toNatClampNeg) then ff_O_spoil_3 n (ui I v1 (v4).toNatClampNeg (1 : Int32)) J v1 v2 v3 (v4 + (1 : Int32)) else none) else (if ¬ (v4 < 0 ∨ 52 ≤ (v4).toNatClampNeg) then if ¬ (v4 < 0 ∨ 52 ≤ (v4).toNatClampNeg) then ff_O_spoil_3 n (ui I v1 (v4).toNatClampNeg ((I v1 (v4).toNatClampNeg) + (1 : Int32))) J v1 v2 v3 (v4 + (1 : Int32)) else none else none) else none))
def ff_O_spoil (n : Nat) (I : MI) (J : MJ) (a1 : Nat) (a2 : Nat) (a3 : Int32) : Option (MI × MJ) := ff_O_spoil_3 n I J a1 a2 a3 (0 : Int32)
set_option maxHeartbeats 4000000 in
set_option maxRecDepth 100000 in
theorem mm_O_spoil (l : Launch) (D : va_G) (kc : Nat → ClassId) (ad : Nat → Nat) (I0 : MI) (J0 : MJ) (sz n : Nat) (a1 : Nat) (ha1 : isA a1) (a2 : Nat) (ha2 : isP a2) (a3 : Int32) (r : MI × MJ) (h : ff_O_spoil n I0 J0 a1 a2 a3 = some r) : Met l yy_O_spoil (.code yy_O_spoil cc_O_spoil 5 (none) :: kw) { frames := 1, cells := 0, slots := 0, locals := 22 } (va_Pc [.ref (ad 0), .ref (ad a1), .ref (ad a2), .int a3] (BW D kc (wC kc ad I0 J0) sz)) (va_Qv (fun (_ : Unit) => True) (EW D kc (va_A (wC kc ad I0 J0) sz) (wC kc ad r.1 r.2)) (va_A (wC kc ad I0 J0) sz)) 0 0 (va_A (wC kc ad I0 J0) sz) := by
  refine Met.ofW (cc := cc_O_spoil) (maxL := 5) (ret := none) (by decide) rfl ?_
  intro p e s m args below meth c s₁ B hml hv
  obtain ⟨rfl, hsz, hP, hK, hD0⟩ := hv
  have hx := B.exec
  have hb := B.bytes
  have hr := B.returns
  have hlocks := B.notSynchronized
  have hk : ∀ w ∈ kw, w.before _ s = true := fun w hw => atoms_spec (ws := (.code yy_O_spoil cc_O_spoil 5 (none) :: kw)) B.pre w (List.mem_cons_of_mem _ hw)
  have hown : s.vm.findClass "OpenDeal" = some m.cls := findClass_of_methodNamed B.named
  subst hsz
  have hD := hD0.self (sz := s.heap.size)
  generalize hAe : va_A (wC kc ad I0 J0) s.heap.size = A at hD ⊢
  have hA : ∀ q : Nat, s.heap.size ≤ q → A q := fun q h => by rw [← hAe]; exact Or.inr h
  have hS : va_S A s.heap s.heap [] := va_S.rf
  have hP : va_P D cls5 (wC kc ad I0 J0) s.heap := hP
  clear hAe hD0
  have L3 : ∀  (n : Nat) (I : MI) (J : MJ) (v1 : Nat) (hv1 : isA v1) (v2 : Nat) (hv2 : isP v2) (v3 : Int32) (v4 : Int32), ff_O_spoil_3 n I J v1 v2 v3 v4 = some r → ∀ (H : Heap) (locs : List Loc), va_P D cls5 (wC kc ad I J) H → va_D A (wC kc ad I J) → va_S A s.heap H locs → ∀ ls, lv_has ls 5 [(0, .ref (ad 0)), (1, .ref (ad v1)), (2, .ref (ad v2)), (3, .int v3), (4, .int v4)] → W p l e (headSpec (.code yy_O_spoil cc_O_spoil 5 (none) :: kw) { frames := 1, cells := 0, slots := 0, locals := 22 }).room s m ([.ref (ad 0), .ref (ad a1), .ref (ad a2), .int a3] : List Value).toArray below meth c H locs 0 0 (MQ below (va_Qv (fun (_ : Unit) => True) (EW D kc A (wC kc ad r.1 r.2)) A) ([.ref (ad 0), .ref (ad a1), .ref (ad a2), .int a3] : List Value).toArray s 0 0 A) (F0 m 3 ls []) := by
    intro  n
    induction n with
    | zero => intro I J v1 hv1 v2 hv2 v3 v4 h; exact absurd h (by simp [ff_O_spoil_3])
    | succ n ih =>
      intro I J v1 hv1 v2 hv2 v3 v4 h H locs hP hD hS ls hl
      rw [ff_O_spoil_3] at h
      refine lv_iload hx hb dd_O_spoil_3 (lv_at hl 4 rfl) ?_
      refine lv_bipush (v := 52) hx hb dd_O_spoil_5 (by decide) ?_
      refine lv_icmp_ge (tgt := 53) hx hb dd_O_spoil_7 (by decide) (fun hc1 => ?_) (fun hc1 => ?_)
      · have h := ip_out hc1 h
        obtain rfl := Option.some.inj h
        exact W.vret hx hb hr (fun t ht hW => ⟨⟨(), rfl, trivial, by rw [ht]; exact hP, va_K.moved hW.alike hK, hD⟩, hS.F ht⟩) hS.2.2 dd_O_spoil_53
      · have h := in_out hc1 h
        refine lv_aload_n hx hb dd_O_spoil_10 rfl (lv_at hl 2 rfl) ?_
        refine lv_iload_n hx hb dd_O_spoil_11 rfl (lv_at hl 3 rfl) ?_
        refine lv_iload hx hb dd_O_spoil_12 (lv_at hl 4 rfl) ?_
        obtain ⟨r2, hr2, h⟩ := ob_out h
        refine cr_Vi (n := 2) (As := [.int v3, .int v4]) hx hb hml hown hk (mm_P_cheatsAt l D kc ad _ _ _ _ hv2 _ _ _ hr2) hK hP v2 (at_P hv2) rfl rfl kw_270 kw_271 kw_272 kw_2 kw_273 ⟨rfl, rfl⟩ (by decide +kernel) ⟨Nat.le_of_ble_eq_true rfl, Nat.le_of_ble_eq_true rfl⟩ rfl hl.1 rfl (Nat.le_of_ble_eq_true rfl) dd_O_spoil_14 ⟨Nat.le_of_ble_eq_true rfl, Nat.le_of_ble_eq_true rfl⟩ ?_
        refine lv_if_eq (tgt := 47) hx hb dd_O_spoil_17 (by decide) (fun hc3 => ?_) (fun hc3 => ?_)
        · have h := ip_out hc3 h
          refine lv_iinc (v := v4 + (1 : Int32)) (lv' := [(4, .int (v4 + (1 : Int32))), (0, .ref (ad 0)), (1, .ref (ad v1)), (2, .ref (ad v2)), (3, .int v3)]) hx hb dd_O_spoil_47 hl (k := 4) rfl rfl (by decide) rfl (fun ls hl => ?_)
          refine lv_goto (tgt := 3) hx hb dd_O_spoil_50 (by decide) ?_
          exact ih _ _ _ hv1 _ hv2 _ _ h _ _ hP hD hS _ (lv_sub hl [1, 2, 3, 4, 0] rfl)
        · have h := in_out hc3 h
          refine lv_aload_n hx hb dd_O_spoil_20 rfl (lv_at hl 1 rfl) ?_
          refine lv_iload hx hb dd_O_spoil_21 (lv_at hl 4 rfl) ?_
          refine lv_aload_n hx hb dd_O_spoil_23 rfl (lv_at hl 1 rfl) ?_
          refine lv_iload hx hb dd_O_spoil_24 (lv_at hl 4 rfl) ?_
          obtain ⟨hi4, h⟩ := oi_out h
          refine va_iald hx hb hK hP v1 0 (at_A hv1) rfl hi4 dd_O_spoil_26 ?_
          refine lv_aload_n hx hb dd_O_spoil_27 rfl (lv_at hl 0 rfl) ?_
          refine va_get (D := D) (ci := 0) (v := .int (I 0 0)) (C := "OpenDeal") (T := T_O) (N := 11) hx hb hk in_O hown hK hP 0 at_O rfl 0 (by decide) (hk _ kw_105) (fun _ h9 => h9) rfl dd_O_spoil_28 ?_
          refine lv_iconst (v := 1) hx hb dd_O_spoil_31 (by decide) ?_
          refine lv_isub hx hb dd_O_spoil_32 ?_
          refine lv_icmp_ne (tgt := 40) hx hb dd_O_spoil_33 (by decide) (fun hc5 => ?_) (fun hc5 => ?_)
          · have h := in_out hc5 h
            refine lv_aload_n hx hb dd_O_spoil_40 rfl (lv_at hl 1 rfl) ?_
            refine lv_iload hx hb dd_O_spoil_41 (lv_at hl 4 rfl) ?_
            obtain ⟨hi6, h⟩ := oi_out h
            refine va_iald hx hb hK hP v1 0 (at_A hv1) rfl hi6 dd_O_spoil_43 ?_
            refine lv_iconst (v := 1) hx hb dd_O_spoil_44 (by decide) ?_
            refine lv_iadd hx hb dd_O_spoil_45 ?_
            obtain ⟨hi7, h⟩ := oi_out h
            refine va_iast hx hb hK hP hD hS v1 0 (at_A hv1) rfl (x := (I v1 (v4).toNatClampNeg) + (1 : Int32)) hi7 dd_O_spoil_46 (fun H locs hP hD hS => ?_)
            rw [pt_A hv1] at hP hD
            refine lv_iinc (v := v4 + (1 : Int32)) (lv' := [(4, .int (v4 + (1 : Int32))), (0, .ref (ad 0)), (1, .ref (ad v1)), (2, .ref (ad v2)), (3, .int v3)]) hx hb dd_O_spoil_47 hl (k := 4) rfl rfl (by decide) rfl (fun ls hl => ?_)
            refine lv_goto (tgt := 3) hx hb dd_O_spoil_50 (by decide) ?_
            exact ih _ _ _ hv1 _ hv2 _ _ h _ _ hP hD hS _ (lv_sub hl [1, 2, 3, 4, 0] rfl)
          · have h := ip_out hc5 h
            refine lv_iconst (v := 1) hx hb dd_O_spoil_36 (by decide) ?_
            refine lv_goto (tgt := 46) hx hb dd_O_spoil_37 (by decide) ?_
            obtain ⟨hi8, h⟩ := oi_out h
            refine va_iast hx hb hK hP hD hS v1 0 (at_A hv1) rfl (x := (1 : Int32)) hi8 dd_O_spoil_46 (fun H locs hP hD hS => ?_)
            rw [pt_A hv1] at hP hD
            refine lv_iinc (v := v4 + (1 : Int32)) (lv' := [(4, .int (v4 + (1 : Int32))), (0, .ref (ad 0)), (1, .ref (ad v1)), (2, .ref (ad v2)), (3, .int v3)]) hx hb dd_O_spoil_47 hl (k := 4) rfl rfl (by decide) rfl (fun ls hl => ?_)
            refine lv_goto (tgt := 3) hx hb dd_O_spoil_50 (by decide) ?_
            exact ih _ _ _ hv1 _ hv2 _ _ h _ _ hP hD hS _ (lv_sub hl [1, 2, 3, 4, 0] rfl)
  have hl := lv_entry ([.ref (ad 0), .ref (ad a1), .ref (ad a2), .int a3]) (n := 5) (Nat.le_of_ble_eq_true rfl)
  rw [lg_entry_eq]
  generalize (lg_sl ([.ref (ad 0), .ref (ad a1), .ref (ad a2), .int a3]) ++ List.replicate (5 - (lg_sl ([.ref (ad 0), .ref (ad a1), .ref (ad a2), .int a3])).length) Slot.unset).toArray = ls at hl ⊢
  have hl : lv_has ls 5 [(0, .ref (ad 0)), (1, .ref (ad a1)), (2, .ref (ad a2)), (3, .int a3)] := hl
  unfold ff_O_spoil at h
  refine lv_iconst (v := 0) hx hb dd_O_spoil_0 (by decide) ?_
  refine lv_istore (lv' := [(4, .int (0 : Int32)), (0, .ref (ad 0)), (1, .ref (ad a1)), (2, .ref (ad a2)), (3, .int a3)]) hx hb dd_O_spoil_1 hl (by decide) rfl (fun ls hl => ?_)
  exact L3  _ _ _ _ ha1 _ ha2 _ _ h _ _ hP hD hS _ (lv_sub hl [1, 2, 3, 4, 0] rfl)
def ff_O_isSameDeck_2 (I : MI) (J : MJ)  : Nat → Nat → Nat → Int32 → Option (Int32)
  | 0, _, _, _ => none
  | n + 1, v0, v1, v2 => if (52 : Int32) ≤ v2 then (some (1 : Int32)) else (if ¬ (v2 < 0 ∨ 52 ≤ (v2).toNatClampNeg) then if ¬ (v2 < 0 ∨ 52 ≤ (v2).toNatClampNeg) then if (I v0 (v2).toNatClampNeg) = (I v1 (v2).toNatClampNeg) then (ff_O_isSameDeck_2 I J n v0 v1 (v2 + (1 : Int32))) else (some (0 : Int32)) else none else none)
def ff_O_isSameDeck (n : Nat) (I : MI) (J : MJ) (a0 : Nat) (a1 : Nat) : Option (Int32) := ff_O_isSameDeck_2 I J n a0 a1 (0 : Int32)
set_option maxHeartbeats 4000000 in
set_option maxRecDepth 100000 in
theorem mm_O_isSameDeck (l : Launch) (D : va_G) (kc : Nat → ClassId) (ad : Nat → Nat) (I : MI) (J : MJ) (n : Nat) (a0 : Nat) (ha0 : isA a0) (a1 : Nat) (ha1 : isA a1) (r : Int32) (h : ff_O_isSameDeck n I J a0 a1 = some r) : Met l yy_O_isSameDeck (.code yy_O_isSameDeck cc_O_isSameDeck 3 (some .boolean) :: kw) { frames := 0, cells := 0, slots := 0, locals := 0 } (va_Pc [.ref (ad a0), .ref (ad a1)] (BR D kc (wC kc ad I J))) (vp_Si (fun z => z = r)) 0 0 (fun _ => False) := by
  refine Met.ofW (cc := cc_O_isSameDeck) (maxL := 3) (ret := some .boolean) (by decide) rfl ?_
  intro p e s m args below meth c s₁ B hml hv
  obtain ⟨rfl, hP, hK⟩ := hv
  have hx := B.exec
  have hb := B.bytes
  have hr := B.returns
  have hlocks := B.notSynchronized
  have hk : ∀ w ∈ kw, w.before _ s = true := fun w hw => atoms_spec (ws := (.code yy_O_isSameDeck cc_O_isSameDeck 3 (some .boolean) :: kw)) B.pre w (List.mem_cons_of_mem _ hw)
  have hown : s.vm.findClass "OpenDeal" = some m.cls := findClass_of_methodNamed B.named
  have L2 : ∀  (n : Nat) (v0 : Nat) (hv0 : isA v0) (v1 : Nat) (hv1 : isA v1) (v2 : Int32), ff_O_isSameDeck_2 I J n v0 v1 v2 = some r → ∀ ls, lv_has ls 3 [(0, .ref (ad v0)), (1, .ref (ad v1)), (2, .int v2)] → W p l e (headSpec (.code yy_O_isSameDeck cc_O_isSameDeck 3 (some .boolean) :: kw) { frames := 0, cells := 0, slots := 0, locals := 0 }).room s m ([.ref (ad a0), .ref (ad a1)] : List Value).toArray below meth c s.heap [] 0 0 (MQ below (vp_Si (fun z => z = r)) ([.ref (ad a0), .ref (ad a1)] : List Value).toArray s 0 0 (fun _ => False)) (F0 m 2 ls []) := by
    intro  n
    induction n with
    | zero => intro v0 hv0 v1 hv1 v2 h; exact absurd h (by simp [ff_O_isSameDeck_2])
    | succ n ih =>
      intro v0 hv0 v1 hv1 v2 h ls hl
      rw [ff_O_isSameDeck_2] at h
      refine lv_iload_n hx hb dd_O_isSameDeck_2 rfl (lv_at hl 2 rfl) ?_
      refine lv_bipush (v := 52) hx hb dd_O_isSameDeck_3 (by decide) ?_
      refine lv_icmp_ge (tgt := 25) hx hb dd_O_isSameDeck_5 (by decide) (fun hc1 => ?_) (fun hc1 => ?_)
      · have h := ip_out hc1 h
        refine lv_iconst (v := 1) hx hb dd_O_isSameDeck_25 (by decide) ?_
        obtain rfl := Option.some.inj h
        exact W.zret hx hb hr rfl (fun t ht hW => ⟨_, rfl, rfl, ht⟩) (fun q hq => by cases hq) dd_O_isSameDeck_26
      · have h := in_out hc1 h
        refine lv_aload_n hx hb dd_O_isSameDeck_8 rfl (lv_at hl 0 rfl) ?_
        refine lv_iload_n hx hb dd_O_isSameDeck_9 rfl (lv_at hl 2 rfl) ?_
        obtain ⟨hi2, h⟩ := oi_out h
        refine va_iald hx hb hK hP v0 0 (at_A hv0) rfl hi2 dd_O_isSameDeck_10 ?_
        refine lv_aload_n hx hb dd_O_isSameDeck_11 rfl (lv_at hl 1 rfl) ?_
        refine lv_iload_n hx hb dd_O_isSameDeck_12 rfl (lv_at hl 2 rfl) ?_
        obtain ⟨hi3, h⟩ := oi_out h
        refine va_iald hx hb hK hP v1 0 (at_A hv1) rfl hi3 dd_O_isSameDeck_13 ?_
        refine lv_icmp_eq (tgt := 19) hx hb dd_O_isSameDeck_14 (by decide) (fun hc4 => ?_) (fun hc4 => ?_)
        · have h := ip_out hc4 h
          refine lv_iinc (v := v2 + (1 : Int32)) (lv' := [(2, .int (v2 + (1 : Int32))), (0, .ref (ad v0)), (1, .ref (ad v1))]) hx hb dd_O_isSameDeck_19 hl (k := 2) rfl rfl (by decide) rfl (fun ls hl => ?_)
          refine lv_goto (tgt := 2) hx hb dd_O_isSameDeck_22 (by decide) ?_
          exact ih _ hv0 _ hv1 _ h _ (lv_sub hl [1, 2, 0] rfl)
        · have h := in_out hc4 h
          refine lv_iconst (v := 0) hx hb dd_O_isSameDeck_17 (by decide) ?_
          obtain rfl := Option.some.inj h
          exact W.zret hx hb hr rfl (fun t ht hW => ⟨_, rfl, rfl, ht⟩) (fun q hq => by cases hq) dd_O_isSameDeck_18
  have hl := lv_entry ([.ref (ad a0), .ref (ad a1)]) (n := 3) (Nat.le_of_ble_eq_true rfl)
  rw [lg_entry_eq]
  generalize (lg_sl ([.ref (ad a0), .ref (ad a1)]) ++ List.replicate (3 - (lg_sl ([.ref (ad a0), .ref (ad a1)])).length) Slot.unset).toArray = ls at hl ⊢
  have hl : lv_has ls 3 [(0, .ref (ad a0)), (1, .ref (ad a1))] := hl
  unfold ff_O_isSameDeck at h
  refine lv_iconst (v := 0) hx hb dd_O_isSameDeck_0 (by decide) ?_
  refine lv_istore_n (lv' := [(2, .int (0 : Int32)), (0, .ref (ad a0)), (1, .ref (ad a1))]) hx hb dd_O_isSameDeck_1 rfl hl (by decide) rfl (fun ls hl => ?_)
  exact L2  _ _ ha0 _ ha1 _ h _ (lv_sub hl [1, 2, 0] rfl)
def ff_P_gaveWrong (n : Nat) (I : MI) (J : MJ) (a0 : Nat) (a1 : Int32) : Option (Int32) := (ff_P_hasGiven n I J a0 a1).bind fun r1 => if r1 = 0 then (some (0 : Int32)) else (if ¬ (a1 < 0 ∨ 52 ≤ (a1).toNatClampNeg) then if ¬ (a1 < 0 ∨ 52 ≤ (a1).toNatClampNeg) then if (I (a0 + 4) (a1).toNatClampNeg) = (I (a0 + 3) (a1).toNatClampNeg) then (some (0 : Int32)) else (some (1 : Int32)) else none else none)
set_option maxHeartbeats 4000000 in
set_option maxRecDepth 100000 in
theorem mm_P_gaveWrong (l : Launch) (D : va_G) (kc : Nat → ClassId) (ad : Nat → Nat) (I : MI) (J : MJ) (n : Nat) (a0 : Nat) (ha0 : isP a0) (a1 : Int32) (r : Int32) (h : ff_P_gaveWrong n I J a0 a1 = some r) : Met l yy_P_gaveWrong (.code yy_P_gaveWrong cc_P_gaveWrong 2 (some .boolean) :: kw) { frames := 1, cells := 0, slots := 0, locals := 21 } (va_Pc [.ref (ad a0), .int a1] (BR D kc (wC kc ad I J))) (vp_Si (fun z => z = r)) 0 0 (fun _ => False) := by
  refine Met.ofW (cc := cc_P_gaveWrong) (maxL := 2) (ret := some .boolean) (by decide) rfl ?_
  intro p e s m args below meth c s₁ B hml hv
  obtain ⟨rfl, hP, hK⟩ := hv
  have hx := B.exec
  have hb := B.bytes
  have hr := B.returns
  have hlocks := B.notSynchronized
  have hk : ∀ w ∈ kw, w.before _ s = true := fun w hw => atoms_spec (ws := (.code yy_P_gaveWrong cc_P_gaveWrong 2 (some .boolean) :: kw)) B.pre w (List.mem_cons_of_mem _ hw)
  have hown : s.vm.findClass "OpenDeal$Player" = some m.cls := findClass_of_methodNamed B.named
  have hl := lv_entry ([.ref (ad a0), .int a1]) (n := 2) (Nat.le_of_ble_eq_true rfl)
  rw [lg_entry_eq]
  generalize (lg_sl ([.ref (ad a0), .int a1]) ++ List.replicate (2 - (lg_sl ([.ref (ad a0), .int a1])).length) Slot.unset).toArray = ls at hl ⊢
  have hl : lv_has ls 2 [(0, .ref (ad a0)), (1, .int a1)] := hl
  unfold ff_P_gaveWrong at h
  refine lv_aload_n hx hb dd_P_gaveWrong_0 rfl (lv_at hl 0 rfl) ?_
  refine lv_iload_n hx hb dd_P_gaveWrong_1 rfl (lv_at hl 1 rfl) ?_
  obtain ⟨r1, hr1, h⟩ := ob_out h
  refine cr_Vi (n := 1) (As := [.int a1]) hx hb hml hown hk (mm_P_hasGiven l D kc ad _ _ _ _ ha0 _ _ hr1) hK hP a0 (at_P ha0) rfl rfl kw_403 kw_286 kw_287 kw_2 kw_288 ⟨rfl, rfl⟩ (by decide +kernel) ⟨Nat.le_of_ble_eq_true rfl, Nat.le_of_ble_eq_true rfl⟩ rfl hl.1 rfl (Nat.le_of_ble_eq_true rfl) dd_P_gaveWrong_2 ⟨Nat.le_of_ble_eq_true rfl, Nat.le_of_ble_eq_true rfl⟩ ?_
  refine lv_if_eq (tgt := 27) hx hb dd_P_gaveWrong_5 (by decide) (fun hc2 => ?_) (fun hc2 => ?_)
  · have h := ip_out hc2 h
    refine lv_iconst (v := 0) hx hb dd_P_gaveWrong_27 (by decide) ?_
    obtain rfl := Option.some.inj h
    exact W.zret hx hb hr rfl (fun t ht hW => ⟨_, rfl, rfl, ht⟩) (fun q hq => by cases hq) dd_P_gaveWrong_28
  · have h := in_out hc2 h
    refine lv_aload_n hx hb dd_P_gaveWrong_8 rfl (lv_at hl 0 rfl) ?_
    refine va_get (D := D) (ci := 1) (v := .ref (ad (a0 + 4))) (C := "OpenDeal$Player") (T := T_P) (N := 13) hx hb hk in_P hown hK hP a0 (at_P ha0) rfl 11 (by decide) (hk _ kw_70) (fun _ h9 => h9) rfl dd_P_gaveWrong_9 ?_
    refine lv_iload_n hx hb dd_P_gaveWrong_12 rfl (lv_at hl 1 rfl) ?_
    obtain ⟨hi3, h⟩ := oi_out h
    refine va_iald hx hb hK hP (a0 + 4) 0 (at_A (isP_A4 ha0)) rfl hi3 dd_P_gaveWrong_13 ?_
    refine lv_aload_n hx hb dd_P_gaveWrong_14 rfl (lv_at hl 0 rfl) ?_
    refine va_get (D := D) (ci := 1) (v := .ref (ad (a0 + 3))) (C := "OpenDeal$Player") (T := T_P) (N := 13) hx hb hk in_P hown hK hP a0 (at_P ha0) rfl 10 (by decide) (hk _ kw_68) (fun _ h9 => h9) rfl dd_P_gaveWrong_15 ?_
    refine lv_iload_n hx hb dd_P_gaveWrong_18 rfl (lv_at hl 1 rfl) ?_
    obtain ⟨hi4, h⟩ := oi_out h
    refine va_iald hx hb hK hP (a0 + 3) 0 (at_A (isP_A3 ha0)) rfl hi4 dd_P_gaveWrong_19 ?_
    refine lv_icmp_eq (tgt := 27) hx hb dd_P_gaveWrong_20 (by decide) (fun hc5 => ?_) (fun hc5 => ?_)
    · have h := ip_out hc5 h
      refine lv_iconst (v := 0) hx hb dd_P_gaveWrong_27 (by decide) ?_
      obtain rfl := Option.some.inj h
      exact W.zret hx hb hr rfl (fun t ht hW => ⟨_, rfl, rfl, ht⟩) (fun q hq => by cases hq) dd_P_gaveWrong_28
    · have h := in_out hc5 h
      refine lv_iconst (v := 1) hx hb dd_P_gaveWrong_23 (by decide) ?_
      refine lv_goto (tgt := 28) hx hb dd_P_gaveWrong_24 (by decide) ?_
      obtain rfl := Option.some.inj h
      exact W.zret hx hb hr rfl (fun t ht hW => ⟨_, rfl, rfl, ht⟩) (fun q hq => by cases hq) dd_P_gaveWrong_28
