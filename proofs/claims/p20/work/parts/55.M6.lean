/-! the reference, laid by program -/
def ff_M_cheat_111  (n : Nat) (I : MI) (J : MJ) (v1 : Int32) (v2 : Int32) (v3 : Int32) (v4 : Int64) : Option (Int32 × MI × MJ) := if v2 = (4 : Int32) then (if ¬ (v1 < 0 ∨ 4 ≤ (v1).toNatClampNeg) then some ((1 : Int32), ui I 14 (v1).toNatClampNeg (1 : Int32), J) else none) else (some ((1 : Int32), I, J))
def ff_M_cheat_99  (n : Nat) (I : MI) (J : MJ) (v1 : Int32) (v2 : Int32) (v3 : Int32) (v4 : Int64) : Option (Int32 × MI × MJ) := if v2 = (3 : Int32) then (if ¬ (v1 < 0 ∨ 4 ≤ (v1).toNatClampNeg) then ff_M_cheat_111 n (ui I 13 (v1).toNatClampNeg (1 : Int32)) J v1 v2 v3 v4 else none) else (ff_M_cheat_111 n I J v1 v2 v3 v4)
def ff_M_cheat_83  (n : Nat) (I : MI) (J : MJ) (v1 : Int32) (v2 : Int32) (v3 : Int32) (v4 : Int64) : Option (Int32 × MI × MJ) := if v2 = (2 : Int32) then (if ¬ (v1 < 0 ∨ 4 ≤ (v1).toNatClampNeg) then if ¬ (v1 < 0 ∨ 4 ≤ (v1).toNatClampNeg) then ff_M_cheat_99 n I (uj J 12 (v1).toNatClampNeg ((J 12 (v1).toNatClampNeg) ||| v4)) v1 v2 v3 v4 else none else none) else (ff_M_cheat_99 n I J v1 v2 v3 v4)
def ff_M_cheat_67  (n : Nat) (I : MI) (J : MJ) (v1 : Int32) (v2 : Int32) (v3 : Int32) (v4 : Int64) : Option (Int32 × MI × MJ) := if v2 = (1 : Int32) then (if ¬ (v1 < 0 ∨ 4 ≤ (v1).toNatClampNeg) then if ¬ (v1 < 0 ∨ 4 ≤ (v1).toNatClampNeg) then ff_M_cheat_83 n I (uj J 11 (v1).toNatClampNeg ((J 11 (v1).toNatClampNeg) ||| v4)) v1 v2 v3 v4 else none else none) else (ff_M_cheat_83 n I J v1 v2 v3 v4)
def ff_M_cheat (n : Nat) (I : MI) (J : MJ) (a1 : Int32) (a2 : Int32) (a3 : Int32) : Option (Int32 × MI × MJ) := (ff_M_isPlayer n (ui I 0 0 (0 : Int32)) J a1).bind fun r11 => if r11 = 0 then (some ((0 : Int32), ui I 0 0 (0 : Int32), J)) else (if a2 < 0 then (some ((0 : Int32), ui I 0 0 (0 : Int32), J)) else (if (4 : Int32) < a2 then (some ((0 : Int32), ui I 0 0 (0 : Int32), J)) else ((ff_M_isPlace n a3).bind fun r15 => if r15 = 0 then (some ((0 : Int32), ui I 0 0 (0 : Int32), J)) else (if ((ui I 0 0 (0 : Int32)) 0 4) < (1 : Int32) then (some ((0 : Int32), ui I 0 0 (0 : Int32), J)) else (if ((ui I 0 0 (0 : Int32)) 0 4) ≤ (5 : Int32) then (tl ((1 : Int64) <<< (Int32.toInt64 a3 &&& 63)) fun y19 => if a2 = 0 then (if ¬ (a1 < 0 ∨ 4 ≤ (a1).toNatClampNeg) then if ¬ (a1 < 0 ∨ 4 ≤ (a1).toNatClampNeg) then ff_M_cheat_67 n (ui I 0 0 (0 : Int32)) (uj J 10 (a1).toNatClampNeg ((J 10 (a1).toNatClampNeg) ||| y19)) a1 a2 a3 y19 else none else none) else (ff_M_cheat_67 n (ui I 0 0 (0 : Int32)) J a1 a2 a3 y19)) else (some ((0 : Int32), ui I 0 0 (0 : Int32), J)))))))
set_option maxHeartbeats 4000000 in
set_option maxRecDepth 100000 in
theorem mm_M_cheat (l : Launch) (D : va_G) (kc : Nat → ClassId) (ad : Nat → Nat) (I0 : MI) (J0 : MJ) (sz n : Nat) (a1 : Int32) (a2 : Int32) (a3 : Int32) (r : Int32 × MI × MJ) (h : ff_M_cheat n I0 J0 a1 a2 a3 = some r) : Met l yy_M_cheat (.code yy_M_cheat cc_M_cheat 6 (some .boolean) :: kw) { frames := 1, cells := 0, slots := 0, locals := 21 } (va_Pc [.ref (ad 0), .int a1, .int a2, .int a3] (BW D kc (wM kc ad I0 J0) sz)) (va_Qi (fun z (_ : Unit) => z = r.1) (EW D kc (va_A (wM kc ad I0 J0) sz) (wM kc ad r.2.1 r.2.2)) (va_A (wM kc ad I0 J0) sz)) 0 0 (va_A (wM kc ad I0 J0) sz) := by
  refine Met.ofW (cc := cc_M_cheat) (maxL := 6) (ret := some .boolean) (by decide) rfl ?_
  intro p e s m args below meth c s₁ B hml hv
  obtain ⟨rfl, hsz, hP, hK, hD0⟩ := hv
  have hx := B.exec
  have hb := B.bytes
  have hr := B.returns
  have hlocks := B.notSynchronized
  have hk : ∀ w ∈ kw, w.before _ s = true := fun w hw => atoms_spec (ws := (.code yy_M_cheat cc_M_cheat 6 (some .boolean) :: kw)) B.pre w (List.mem_cons_of_mem _ hw)
  have hown : s.vm.findClass "OpenDealModel" = some m.cls := findClass_of_methodNamed B.named
  subst hsz
  have hD := hD0.self (sz := s.heap.size)
  generalize hAe : va_A (wM kc ad I0 J0) s.heap.size = A at hD ⊢
  have hA : ∀ q : Nat, s.heap.size ≤ q → A q := fun q h => by rw [← hAe]; exact Or.inr h
  have hS : va_S A s.heap s.heap [] := va_S.rf
  have hP : va_P D cls5 (wM kc ad I0 J0) s.heap := hP
  clear hAe hD0
  have L111 : ∀  (n : Nat) (I : MI) (J : MJ) (v1 : Int32) (v2 : Int32) (v3 : Int32) (v4 : Int64), ff_M_cheat_111 n I J v1 v2 v3 v4 = some r → ∀ (H : Heap) (locs : List Loc), va_P D cls5 (wM kc ad I J) H → va_D A (wM kc ad I J) → va_S A s.heap H locs → ∀ ls, lv_has ls 6 [(0, .ref (ad 0)), (1, .int v1), (2, .int v2), (3, .int v3), (4, .long v4)] → W p l e (headSpec (.code yy_M_cheat cc_M_cheat 6 (some .boolean) :: kw) { frames := 1, cells := 0, slots := 0, locals := 21 }).room s m ([.ref (ad 0), .int a1, .int a2, .int a3] : List Value).toArray below meth c H locs 0 0 (MQ below (va_Qi (fun z (_ : Unit) => z = r.1) (EW D kc A (wM kc ad r.2.1 r.2.2)) A) ([.ref (ad 0), .int a1, .int a2, .int a3] : List Value).toArray s 0 0 A) (F0 m 111 ls []) := by
    intro  n I J v1 v2 v3 v4 h H locs hP hD hS ls hl
    unfold ff_M_cheat_111 at h
    refine lv_iload_n hx hb dd_M_cheat_111 rfl (lv_at hl 2 rfl) ?_
    refine lv_iconst (v := 4) hx hb dd_M_cheat_112 (by decide) ?_
    refine lv_icmp_ne (tgt := 123) hx hb dd_M_cheat_113 (by decide) (fun hc1 => ?_) (fun hc1 => ?_)
    · have h := in_out hc1 h
      refine lv_iconst (v := 1) hx hb dd_M_cheat_123 (by decide) ?_
      obtain rfl := Option.some.inj h
      exact W.zret hx hb hr rfl (fun t ht hW => ⟨⟨_, (), rfl, rfl, by rw [ht]; exact hP, va_K.moved hW.alike hK, hD⟩, hS.F ht⟩) hS.2.2 dd_M_cheat_124
    · have h := ip_out hc1 h
      refine lv_aload_n hx hb dd_M_cheat_116 rfl (lv_at hl 0 rfl) ?_
      refine va_get (D := D) (ci := 4) (v := .ref (ad 14)) (C := "OpenDealModel") (T := T_M) (N := 32) hx hb hk in_M hown hK hP 0 am_0 rfl 18 (by decide) (hk _ kw_555) (fun _ h9 => h9) rfl dd_M_cheat_117 ?_
      refine lv_iload_n hx hb dd_M_cheat_120 rfl (lv_at hl 1 rfl) ?_
      refine lv_iconst (v := 1) hx hb dd_M_cheat_121 (by decide) ?_
      obtain ⟨hi2, h⟩ := oi_out h
      refine va_zast hx hb hK hP hD hS 14 2 am_14 rfl (x := (1 : Int32)) hi2 dd_M_cheat_122 (fun H locs hP hD hS => ?_)
      rw [show vp_nar .boolean (1 : Int32) = (1 : Int32) from rfl] at hP hD
      rw [pm_14] at hP hD
      refine lv_iconst (v := 1) hx hb dd_M_cheat_123 (by decide) ?_
      obtain rfl := Option.some.inj h
      exact W.zret hx hb hr rfl (fun t ht hW => ⟨⟨_, (), rfl, rfl, by rw [ht]; exact hP, va_K.moved hW.alike hK, hD⟩, hS.F ht⟩) hS.2.2 dd_M_cheat_124
  have L99 : ∀  (n : Nat) (I : MI) (J : MJ) (v1 : Int32) (v2 : Int32) (v3 : Int32) (v4 : Int64), ff_M_cheat_99 n I J v1 v2 v3 v4 = some r → ∀ (H : Heap) (locs : List Loc), va_P D cls5 (wM kc ad I J) H → va_D A (wM kc ad I J) → va_S A s.heap H locs → ∀ ls, lv_has ls 6 [(0, .ref (ad 0)), (1, .int v1), (2, .int v2), (3, .int v3), (4, .long v4)] → W p l e (headSpec (.code yy_M_cheat cc_M_cheat 6 (some .boolean) :: kw) { frames := 1, cells := 0, slots := 0, locals := 21 }).room s m ([.ref (ad 0), .int a1, .int a2, .int a3] : List Value).toArray below meth c H locs 0 0 (MQ below (va_Qi (fun z (_ : Unit) => z = r.1) (EW D kc A (wM kc ad r.2.1 r.2.2)) A) ([.ref (ad 0), .int a1, .int a2, .int a3] : List Value).toArray s 0 0 A) (F0 m 99 ls []) := by
    intro  n I J v1 v2 v3 v4 h H locs hP hD hS ls hl
    unfold ff_M_cheat_99 at h
    refine lv_iload_n hx hb dd_M_cheat_99 rfl (lv_at hl 2 rfl) ?_
    refine lv_iconst (v := 3) hx hb dd_M_cheat_100 (by decide) ?_
    refine lv_icmp_ne (tgt := 111) hx hb dd_M_cheat_101 (by decide) (fun hc3 => ?_) (fun hc3 => ?_)
    · have h := in_out hc3 h
      exact L111  _ _ _ _ _ _ _ h _ _ hP hD hS _ (lv_sub hl [0, 1, 2, 3, 4] rfl)
    · have h := ip_out hc3 h
      refine lv_aload_n hx hb dd_M_cheat_104 rfl (lv_at hl 0 rfl) ?_
      refine va_get (D := D) (ci := 4) (v := .ref (ad 13)) (C := "OpenDealModel") (T := T_M) (N := 32) hx hb hk in_M hown hK hP 0 am_0 rfl 17 (by decide) (hk _ kw_554) (fun _ h9 => h9) rfl dd_M_cheat_105 ?_
      refine lv_iload_n hx hb dd_M_cheat_108 rfl (lv_at hl 1 rfl) ?_
      refine lv_iconst (v := 1) hx hb dd_M_cheat_109 (by decide) ?_
      obtain ⟨hi4, h⟩ := oi_out h
      refine va_zast hx hb hK hP hD hS 13 2 am_13 rfl (x := (1 : Int32)) hi4 dd_M_cheat_110 (fun H locs hP hD hS => ?_)
      rw [show vp_nar .boolean (1 : Int32) = (1 : Int32) from rfl] at hP hD
      rw [pm_13] at hP hD
      exact L111  _ _ _ _ _ _ _ h _ _ hP hD hS _ (lv_sub hl [0, 1, 2, 3, 4] rfl)
  have L83 : ∀  (n : Nat) (I : MI) (J : MJ) (v1 : Int32) (v2 : Int32) (v3 : Int32) (v4 : Int64), ff_M_cheat_83 n I J v1 v2 v3 v4 = some r → ∀ (H : Heap) (locs : List Loc), va_P D cls5 (wM kc ad I J) H → va_D A (wM kc ad I J) → va_S A s.heap H locs → ∀ ls, lv_has ls 6 [(0, .ref (ad 0)), (1, .int v1), (2, .int v2), (3, .int v3), (4, .long v4)] → W p l e (headSpec (.code yy_M_cheat cc_M_cheat 6 (some .boolean) :: kw) { frames := 1, cells := 0, slots := 0, locals := 21 }).room s m ([.ref (ad 0), .int a1, .int a2, .int a3] : List Value).toArray below meth c H locs 0 0 (MQ below (va_Qi (fun z (_ : Unit) => z = r.1) (EW D kc A (wM kc ad r.2.1 r.2.2)) A) ([.ref (ad 0), .int a1, .int a2, .int a3] : List Value).toArray s 0 0 A) (F0 m 83 ls []) := by
    intro  n I J v1 v2 v3 v4 h H locs hP hD hS ls hl
    unfold ff_M_cheat_83 at h
    refine lv_iload_n hx hb dd_M_cheat_83 rfl (lv_at hl 2 rfl) ?_
    refine lv_iconst (v := 2) hx hb dd_M_cheat_84 (by decide) ?_
    refine lv_icmp_ne (tgt := 99) hx hb dd_M_cheat_85 (by decide) (fun hc5 => ?_) (fun hc5 => ?_)
    · have h := in_out hc5 h
      exact L99  _ _ _ _ _ _ _ h _ _ hP hD hS _ (lv_sub hl [0, 1, 2, 3, 4] rfl)
    · have h := ip_out hc5 h
      refine lv_aload_n hx hb dd_M_cheat_88 rfl (lv_at hl 0 rfl) ?_
      refine va_get (D := D) (ci := 4) (v := .ref (ad 12)) (C := "OpenDealModel") (T := T_M) (N := 32) hx hb hk in_M hown hK hP 0 am_0 rfl 16 (by decide) (hk _ kw_553) (fun _ h9 => h9) rfl dd_M_cheat_89 ?_
      refine lv_iload_n hx hb dd_M_cheat_92 rfl (lv_at hl 1 rfl) ?_
      refine lv_dup2_11 hx hb dd_M_cheat_93 rfl rfl ?_
      obtain ⟨hi6, h⟩ := oi_out h
      refine va_lald hx hb hK hP 12 1 am_12 rfl hi6 dd_M_cheat_94 ?_
      refine lv_lload hx hb dd_M_cheat_95 (lv_at hl 4 rfl) ?_
      refine lv_lor hx hb dd_M_cheat_97 ?_
      obtain ⟨hi7, h⟩ := oi_out h
      refine va_last hx hb hK hP hD hS 12 1 am_12 rfl (x := (J 12 (v1).toNatClampNeg) ||| v4) hi7 dd_M_cheat_98 (fun H locs hP hD hS => ?_)
      rw [pm_12] at hP hD
      exact L99  _ _ _ _ _ _ _ h _ _ hP hD hS _ (lv_sub hl [0, 1, 2, 3, 4] rfl)
  have L67 : ∀  (n : Nat) (I : MI) (J : MJ) (v1 : Int32) (v2 : Int32) (v3 : Int32) (v4 : Int64), ff_M_cheat_67 n I J v1 v2 v3 v4 = some r → ∀ (H : Heap) (locs : List Loc), va_P D cls5 (wM kc ad I J) H → va_D A (wM kc ad I J) → va_S A s.heap H locs → ∀ ls, lv_has ls 6 [(0, .ref (ad 0)), (1, .int v1), (2, .int v2), (3, .int v3), (4, .long v4)] → W p l e (headSpec (.code yy_M_cheat cc_M_cheat 6 (some .boolean) :: kw) { frames := 1, cells := 0, slots := 0, locals := 21 }).room s m ([.ref (ad 0), .int a1, .int a2, .int a3] : List Value).toArray below meth c H locs 0 0 (MQ below (va_Qi (fun z (_ : Unit) => z = r.1) (EW D kc A (wM kc ad r.2.1 r.2.2)) A) ([.ref (ad 0), .int a1, .int a2, .int a3] : List Value).toArray s 0 0 A) (F0 m 67 ls []) := by
    intro  n I J v1 v2 v3 v4 h H locs hP hD hS ls hl
    unfold ff_M_cheat_67 at h
    refine lv_iload_n hx hb dd_M_cheat_67 rfl (lv_at hl 2 rfl) ?_
    refine lv_iconst (v := 1) hx hb dd_M_cheat_68 (by decide) ?_
    refine lv_icmp_ne (tgt := 83) hx hb dd_M_cheat_69 (by decide) (fun hc8 => ?_) (fun hc8 => ?_)
    · have h := in_out hc8 h
      exact L83  _ _ _ _ _ _ _ h _ _ hP hD hS _ (lv_sub hl [0, 1, 2, 3, 4] rfl)
    · have h := ip_out hc8 h
      refine lv_aload_n hx hb dd_M_cheat_72 rfl (lv_at hl 0 rfl) ?_
      refine va_get (D := D) (ci := 4) (v := .ref (ad 11)) (C := "OpenDealModel") (T := T_M) (N := 32) hx hb hk in_M hown hK hP 0 am_0 rfl 15 (by decide) (hk _ kw_552) (fun _ h9 => h9) rfl dd_M_cheat_73 ?_
      refine lv_iload_n hx hb dd_M_cheat_76 rfl (lv_at hl 1 rfl) ?_
      refine lv_dup2_11 hx hb dd_M_cheat_77 rfl rfl ?_
      obtain ⟨hi9, h⟩ := oi_out h
      refine va_lald hx hb hK hP 11 1 am_11 rfl hi9 dd_M_cheat_78 ?_
      refine lv_lload hx hb dd_M_cheat_79 (lv_at hl 4 rfl) ?_
      refine lv_lor hx hb dd_M_cheat_81 ?_
      obtain ⟨hi10, h⟩ := oi_out h
      refine va_last hx hb hK hP hD hS 11 1 am_11 rfl (x := (J 11 (v1).toNatClampNeg) ||| v4) hi10 dd_M_cheat_82 (fun H locs hP hD hS => ?_)
      rw [pm_11] at hP hD
      exact L83  _ _ _ _ _ _ _ h _ _ hP hD hS _ (lv_sub hl [0, 1, 2, 3, 4] rfl)
  have hl := lv_entry ([.ref (ad 0), .int a1, .int a2, .int a3]) (n := 6) (Nat.le_of_ble_eq_true rfl)
  rw [lg_entry_eq]
  generalize (lg_sl ([.ref (ad 0), .int a1, .int a2, .int a3]) ++ List.replicate (6 - (lg_sl ([.ref (ad 0), .int a1, .int a2, .int a3])).length) Slot.unset).toArray = ls at hl ⊢
  have hl : lv_has ls 6 [(0, .ref (ad 0)), (1, .int a1), (2, .int a2), (3, .int a3)] := hl
  unfold ff_M_cheat at h
  refine lv_aload_n hx hb dd_M_cheat_0 rfl (lv_at hl 0 rfl) ?_
  refine lv_iconst (v := 0) hx hb dd_M_cheat_1 (by decide) ?_
  refine va_put (D := D) (ci := 4) (v := .int (0 : Int32)) (ty := .int) (C := "OpenDealModel") (T := T_M) (N := 32) hx hb hk in_M ty_M tk_M nm_M hown hK hP hD hS 0 am_0 rfl 0 (by decide) (hk _ kw_537) (fun _ h9 => h9) rfl (by decide +kernel) rfl rfl (Nat.le_of_ble_eq_true rfl) dd_M_cheat_2 (fun H locs hP hD hS => ?_)
  rw [pt_M0] at hP hD
  refine lv_aload_n hx hb dd_M_cheat_5 rfl (lv_at hl 0 rfl) ?_
  refine lv_iload_n hx hb dd_M_cheat_6 rfl (lv_at hl 1 rfl) ?_
  obtain ⟨r11, hr11, h⟩ := ob_out h
  refine cr_Vi (n := 1) (As := [.int a1]) hx hb hml hown hk (mm_M_isPlayer l D kc ad _ _ _ _ _ hr11) hK hP 0 am_0 rfl rfl kw_664 kw_666 sel_M_isPlayer kw_4 kw_667 ⟨rfl, rfl⟩ (by decide +kernel) ⟨Nat.le_of_ble_eq_true rfl, Nat.le_of_ble_eq_true rfl⟩ rfl hl.1 rfl (Nat.le_of_ble_eq_true rfl) dd_M_cheat_7 ⟨Nat.le_of_ble_eq_true rfl, Nat.le_of_ble_eq_true rfl⟩ ?_
  refine lv_if_eq (tgt := 45) hx hb dd_M_cheat_10 (by decide) (fun hc12 => ?_) (fun hc12 => ?_)
  · have h := ip_out hc12 h
    refine lv_iconst (v := 0) hx hb dd_M_cheat_45 (by decide) ?_
    obtain rfl := Option.some.inj h
    exact W.zret hx hb hr rfl (fun t ht hW => ⟨⟨_, (), rfl, rfl, by rw [ht]; exact hP, va_K.moved hW.alike hK, hD⟩, hS.F ht⟩) hS.2.2 dd_M_cheat_46
  · have h := in_out hc12 h
    refine lv_iload_n hx hb dd_M_cheat_13 rfl (lv_at hl 2 rfl) ?_
    refine lv_if_lt (tgt := 45) hx hb dd_M_cheat_14 (by decide) (fun hc13 => ?_) (fun hc13 => ?_)
    · have h := ip_out hc13 h
      refine lv_iconst (v := 0) hx hb dd_M_cheat_45 (by decide) ?_
      obtain rfl := Option.some.inj h
      exact W.zret hx hb hr rfl (fun t ht hW => ⟨⟨_, (), rfl, rfl, by rw [ht]; exact hP, va_K.moved hW.alike hK, hD⟩, hS.F ht⟩) hS.2.2 dd_M_cheat_46
    · have h := in_out hc13 h
      refine lv_iload_n hx hb dd_M_cheat_17 rfl (lv_at hl 2 rfl) ?_
      refine lv_iconst (v := 4) hx hb dd_M_cheat_18 (by decide) ?_
      refine lv_icmp_gt (tgt := 45) hx hb dd_M_cheat_19 (by decide) (fun hc14 => ?_) (fun hc14 => ?_)
      · have h := ip_out hc14 h
        refine lv_iconst (v := 0) hx hb dd_M_cheat_45 (by decide) ?_
        obtain rfl := Option.some.inj h
        exact W.zret hx hb hr rfl (fun t ht hW => ⟨⟨_, (), rfl, rfl, by rw [ht]; exact hP, va_K.moved hW.alike hK, hD⟩, hS.F ht⟩) hS.2.2 dd_M_cheat_46
      · have h := in_out hc14 h
        refine lv_iload_n hx hb dd_M_cheat_22 rfl (lv_at hl 3 rfl) ?_
        obtain ⟨r15, hr15, h⟩ := ob_out h
        refine ro_Si (n := 1) (As := [.int a3]) hx hb hml hown hk (mm_M_isPlace l _ _ _ hr15) (fun U _ _ => trivial) (fun _ _ _ _ _ => trivial) kw_726 kw_727 kw_4 kw_728 ⟨rfl, rfl⟩ (by decide +kernel) ⟨Nat.le_of_ble_eq_true rfl, Nat.le_of_ble_eq_true rfl⟩ rfl hl.1 rfl (Nat.le_of_ble_eq_true rfl) dd_M_cheat_23 ⟨Nat.le_of_ble_eq_true rfl, Nat.le_of_ble_eq_true rfl⟩ ?_
        refine lv_if_eq (tgt := 45) hx hb dd_M_cheat_26 (by decide) (fun hc16 => ?_) (fun hc16 => ?_)
        · have h := ip_out hc16 h
          refine lv_iconst (v := 0) hx hb dd_M_cheat_45 (by decide) ?_
          obtain rfl := Option.some.inj h
          exact W.zret hx hb hr rfl (fun t ht hW => ⟨⟨_, (), rfl, rfl, by rw [ht]; exact hP, va_K.moved hW.alike hK, hD⟩, hS.F ht⟩) hS.2.2 dd_M_cheat_46
        · have h := in_out hc16 h
          refine lv_aload_n hx hb dd_M_cheat_29 rfl (lv_at hl 0 rfl) ?_
          refine va_get (D := D) (ci := 4) (v := .int ((ui I0 0 0 (0 : Int32)) 0 4)) (C := "OpenDealModel") (T := T_M) (N := 32) hx hb hk in_M hown hK hP 0 am_0 rfl 4 (by decide) (hk _ kw_541) (fun _ h9 => h9) rfl dd_M_cheat_30 ?_
          refine lv_iconst (v := 1) hx hb dd_M_cheat_33 (by decide) ?_
          refine lv_icmp_lt (tgt := 45) hx hb dd_M_cheat_34 (by decide) (fun hc17 => ?_) (fun hc17 => ?_)
          · have h := ip_out hc17 h
            refine lv_iconst (v := 0) hx hb dd_M_cheat_45 (by decide) ?_
            obtain rfl := Option.some.inj h
            exact W.zret hx hb hr rfl (fun t ht hW => ⟨⟨_, (), rfl, rfl, by rw [ht]; exact hP, va_K.moved hW.alike hK, hD⟩, hS.F ht⟩) hS.2.2 dd_M_cheat_46
          · have h := in_out hc17 h
            refine lv_aload_n hx hb dd_M_cheat_37 rfl (lv_at hl 0 rfl) ?_
            refine va_get (D := D) (ci := 4) (v := .int ((ui I0 0 0 (0 : Int32)) 0 4)) (C := "OpenDealModel") (T := T_M) (N := 32) hx hb hk in_M hown hK hP 0 am_0 rfl 4 (by decide) (hk _ kw_541) (fun _ h9 => h9) rfl dd_M_cheat_38 ?_
            refine lv_iconst (v := 5) hx hb dd_M_cheat_41 (by decide) ?_
            refine lv_icmp_le (tgt := 47) hx hb dd_M_cheat_42 (by decide) (fun hc18 => ?_) (fun hc18 => ?_)
            · have h := ip_out hc18 h
              refine lv_lconst (v := 1) hx hb dd_M_cheat_47 (by decide) ?_
              refine lv_iload_n hx hb dd_M_cheat_48 rfl (lv_at hl 3 rfl) ?_
              refine lv_lshl hx hb dd_M_cheat_49 rfl ?_
              refine lv_topl (fun y19 ey19 => ?_)
              have h := tl_at ey19 h
              refine lv_lstore (lv' := [(4, .long y19), (0, .ref (ad 0)), (1, .int a1), (2, .int a2), (3, .int a3)]) hx hb dd_M_cheat_50 hl (by decide) rfl (fun ls hl => ?_)
              refine lv_iload_n hx hb dd_M_cheat_52 rfl (lv_at hl 3 rfl) ?_
              refine lv_if_ne (tgt := 67) hx hb dd_M_cheat_53 (by decide) (fun hc20 => ?_) (fun hc20 => ?_)
              · have h := in_out hc20 h
                exact L67  _ _ _ _ _ _ _ h _ _ hP hD hS _ (lv_sub hl [1, 2, 3, 4, 0] rfl)
              · have h := ip_out hc20 h
                refine lv_aload_n hx hb dd_M_cheat_56 rfl (lv_at hl 1 rfl) ?_
                refine va_get (D := D) (ci := 4) (v := .ref (ad 10)) (C := "OpenDealModel") (T := T_M) (N := 32) hx hb hk in_M hown hK hP 0 am_0 rfl 14 (by decide) (hk _ kw_551) (fun _ h9 => h9) rfl dd_M_cheat_57 ?_
                refine lv_iload_n hx hb dd_M_cheat_60 rfl (lv_at hl 2 rfl) ?_
                refine lv_dup2_11 hx hb dd_M_cheat_61 rfl rfl ?_
                obtain ⟨hi21, h⟩ := oi_out h
                refine va_lald hx hb hK hP 10 1 am_10 rfl hi21 dd_M_cheat_62 ?_
                refine lv_lload hx hb dd_M_cheat_63 (lv_at hl 0 rfl) ?_
                refine lv_lor hx hb dd_M_cheat_65 ?_
                obtain ⟨hi22, h⟩ := oi_out h
                refine va_last hx hb hK hP hD hS 10 1 am_10 rfl (x := (J0 10 (a1).toNatClampNeg) ||| y19) hi22 dd_M_cheat_66 (fun H locs hP hD hS => ?_)
                rw [pm_10] at hP hD
                exact L67  _ _ _ _ _ _ _ h _ _ hP hD hS _ (lv_sub hl [1, 2, 3, 4, 0] rfl)
            · have h := in_out hc18 h
              refine lv_iconst (v := 0) hx hb dd_M_cheat_45 (by decide) ?_
              obtain rfl := Option.some.inj h
              exact W.zret hx hb hr rfl (fun t ht hW => ⟨⟨_, (), rfl, rfl, by rw [ht]; exact hP, va_K.moved hW.alike hK, hD⟩, hS.F ht⟩) hS.2.2 dd_M_cheat_46
def ff_M_state_94  (n : Nat) (I : MI) (J : MJ) (v1 : Int32) (v2 : Int32) (v3 : Int32) : Option (Int32 × MI × MJ) := if ¬ (I 0 3) = 0 then tl ((I 0 20) - (I 0 20) / (I 0 3) * (I 0 3)) fun y2 => some (y2, I, J) else none
def ff_M_state_9  : Nat → MI → MJ → Int32 → Int32 → Int32 → Option (Int32 × MI × MJ)
  | 0, _, _, _, _, _ => none
  | n + 1, I, J, v1, v2, v3 => if (I 0 3) ≤ v3 then (if v1 = 0 then (some (I 0 4, I, J)) else if v1 = 1 then (some (I 0 3, I, J)) else if v1 = 2 then (if (I 0 4) = (2 : Int32) then (ff_M_state_94 n I J v1 v2 v3) else (if (I 0 4) = (3 : Int32) then (ff_M_state_94 n I J v1 v2 v3) else (some (I 0 31, I, J)))) else if v1 = 3 then (some (v2, I, J)) else if v1 = 4 then (if (I 0 30) = 0 then (some ((0 : Int32), I, J)) else ((ff_M_most n I J ).bind fun r12 => some (r12, I, J))) else (some ((-1 : Int32), I, J))) else (if ¬ (v3 < 0 ∨ 4 ≤ (v3).toNatClampNeg) then tl (v2 + (I 21 (v3).toNatClampNeg)) fun y14 => ff_M_state_9 n I J v1 y14 (v3 + (1 : Int32)) else none)
def ff_M_state (n : Nat) (I : MI) (J : MJ) (a1 : Int32) : Option (Int32 × MI × MJ) := ff_M_state_9 n (ui I 0 0 (0 : Int32)) J a1 (0 : Int32) (0 : Int32)
set_option maxHeartbeats 4000000 in
set_option maxRecDepth 100000 in
theorem mm_M_state (l : Launch) (D : va_G) (kc : Nat → ClassId) (ad : Nat → Nat) (I0 : MI) (J0 : MJ) (sz n : Nat) (a1 : Int32) (r : Int32 × MI × MJ) (h : ff_M_state n I0 J0 a1 = some r) : Met l yy_M_state (.code yy_M_state cc_M_state 4 (some .int) :: kw) { frames := 1, cells := 0, slots := 0, locals := 22 } (va_Pc [.ref (ad 0), .int a1] (BW D kc (wM kc ad I0 J0) sz)) (va_Qi (fun z (_ : Unit) => z = r.1) (EW D kc (va_A (wM kc ad I0 J0) sz) (wM kc ad r.2.1 r.2.2)) (va_A (wM kc ad I0 J0) sz)) 0 0 (va_A (wM kc ad I0 J0) sz) := by
  refine Met.ofW (cc := cc_M_state) (maxL := 4) (ret := some .int) (by decide) rfl ?_
  intro p e s m args below meth c s₁ B hml hv
  obtain ⟨rfl, hsz, hP, hK, hD0⟩ := hv
  have hx := B.exec
  have hb := B.bytes
  have hr := B.returns
  have hlocks := B.notSynchronized
  have hk : ∀ w ∈ kw, w.before _ s = true := fun w hw => atoms_spec (ws := (.code yy_M_state cc_M_state 4 (some .int) :: kw)) B.pre w (List.mem_cons_of_mem _ hw)
  have hown : s.vm.findClass "OpenDealModel" = some m.cls := findClass_of_methodNamed B.named
  subst hsz
  have hD := hD0.self (sz := s.heap.size)
  generalize hAe : va_A (wM kc ad I0 J0) s.heap.size = A at hD ⊢
  have hA : ∀ q : Nat, s.heap.size ≤ q → A q := fun q h => by rw [← hAe]; exact Or.inr h
  have hS : va_S A s.heap s.heap [] := va_S.rf
  have hP : va_P D cls5 (wM kc ad I0 J0) s.heap := hP
  clear hAe hD0
  have L94 : ∀  (n : Nat) (I : MI) (J : MJ) (v1 : Int32) (v2 : Int32) (v3 : Int32), ff_M_state_94 n I J v1 v2 v3 = some r → ∀ (H : Heap) (locs : List Loc), va_P D cls5 (wM kc ad I J) H → va_D A (wM kc ad I J) → va_S A s.heap H locs → ∀ ls, lv_has ls 4 [(0, .ref (ad 0)), (1, .int v1), (2, .int v2), (3, .int v3)] → W p l e (headSpec (.code yy_M_state cc_M_state 4 (some .int) :: kw) { frames := 1, cells := 0, slots := 0, locals := 22 }).room s m ([.ref (ad 0), .int a1] : List Value).toArray below meth c H locs 0 0 (MQ below (va_Qi (fun z (_ : Unit) => z = r.1) (EW D kc A (wM kc ad r.2.1 r.2.2)) A) ([.ref (ad 0), .int a1] : List Value).toArray s 0 0 A) (F0 m 94 ls []) := by
    intro  n I J v1 v2 v3 h H locs hP hD hS ls hl
    unfold ff_M_state_94 at h
    refine lv_aload_n hx hb dd_M_state_94 rfl (lv_at hl 0 rfl) ?_
    refine va_get (D := D) (ci := 4) (v := .int (I 0 20)) (C := "OpenDealModel") (T := T_M) (N := 32) hx hb hk in_M hown hK hP 0 am_0 rfl 20 (by decide) (hk _ kw_557) (fun _ h9 => h9) rfl dd_M_state_95 ?_
    refine lv_aload_n hx hb dd_M_state_98 rfl (lv_at hl 0 rfl) ?_
    refine va_get (D := D) (ci := 4) (v := .int (I 0 3)) (C := "OpenDealModel") (T := T_M) (N := 32) hx hb hk in_M hown hK hP 0 am_0 rfl 3 (by decide) (hk _ kw_540) (fun _ h9 => h9) rfl dd_M_state_99 ?_
    obtain ⟨hz1, h⟩ := oi_out h
    refine lv_irem hx hb dd_M_state_102 hz1 ?_
    refine lv_topi (fun y2 ey2 => ?_)
    have h := tl_at ey2 h
    refine lv_goto (tgt := 110) hx hb dd_M_state_103 (by decide) ?_
    obtain rfl := Option.some.inj h
    exact W.iret hx hb hr (fun t ht hW => ⟨⟨_, (), rfl, rfl, by rw [ht]; exact hP, va_K.moved hW.alike hK, hD⟩, hS.F ht⟩) hS.2.2 dd_M_state_110
  have L9 : ∀  (n : Nat) (I : MI) (J : MJ) (v1 : Int32) (v2 : Int32) (v3 : Int32), ff_M_state_9 n I J v1 v2 v3 = some r → ∀ (H : Heap) (locs : List Loc), va_P D cls5 (wM kc ad I J) H → va_D A (wM kc ad I J) → va_S A s.heap H locs → ∀ ls, lv_has ls 4 [(0, .ref (ad 0)), (1, .int v1), (2, .int v2), (3, .int v3)] → W p l e (headSpec (.code yy_M_state cc_M_state 4 (some .int) :: kw) { frames := 1, cells := 0, slots := 0, locals := 22 }).room s m ([.ref (ad 0), .int a1] : List Value).toArray below meth c H locs 0 0 (MQ below (va_Qi (fun z (_ : Unit) => z = r.1) (EW D kc A (wM kc ad r.2.1 r.2.2)) A) ([.ref (ad 0), .int a1] : List Value).toArray s 0 0 A) (F0 m 9 ls []) := by
    intro  n
    induction n with
    | zero => intro I J v1 v2 v3 h; exact absurd h (by simp [ff_M_state_9])
    | succ n ih =>
      intro I J v1 v2 v3 h H locs hP hD hS ls hl
      rw [ff_M_state_9] at h
      refine lv_iload_n hx hb dd_M_state_9 rfl (lv_at hl 3 rfl) ?_
      refine lv_aload_n hx hb dd_M_state_10 rfl (lv_at hl 0 rfl) ?_
      refine va_get (D := D) (ci := 4) (v := .int (I 0 3)) (C := "OpenDealModel") (T := T_M) (N := 32) hx hb hk in_M hown hK hP 0 am_0 rfl 3 (by decide) (hk _ kw_540) (fun _ h9 => h9) rfl dd_M_state_11 ?_
      refine lv_icmp_ge (tgt := 32) hx hb dd_M_state_14 (by decide) (fun hc3 => ?_) (fun hc3 => ?_)
      · have h := ip_out hc3 h
        refine lv_iload_n hx hb dd_M_state_32 rfl (lv_at hl 1 rfl) ?_
        by_cases hc4 : v1 = 0
        · have h := ip_out hc4 h
          refine lv_tableIn (tgt := 68) hx hb dd_M_state_33 (by rw [hc4]; decide) (by rw [hc4]; decide) (by rw [hc4]; rfl) (by decide) ?_
          refine lv_aload_n hx hb dd_M_state_68 rfl (lv_at hl 0 rfl) ?_
          refine va_get (D := D) (ci := 4) (v := .int (I 0 4)) (C := "OpenDealModel") (T := T_M) (N := 32) hx hb hk in_M hown hK hP 0 am_0 rfl 4 (by decide) (hk _ kw_541) (fun _ h9 => h9) rfl dd_M_state_69 ?_
          obtain rfl := Option.some.inj h
          exact W.iret hx hb hr (fun t ht hW => ⟨⟨_, (), rfl, rfl, by rw [ht]; exact hP, va_K.moved hW.alike hK, hD⟩, hS.F ht⟩) hS.2.2 dd_M_state_72
        have h := in_out hc4 h
        by_cases hc5 : v1 = 1
        · have h := ip_out hc5 h
          refine lv_tableIn (tgt := 73) hx hb dd_M_state_33 (by rw [hc5]; decide) (by rw [hc5]; decide) (by rw [hc5]; rfl) (by decide) ?_
          refine lv_aload_n hx hb dd_M_state_73 rfl (lv_at hl 0 rfl) ?_
          refine va_get (D := D) (ci := 4) (v := .int (I 0 3)) (C := "OpenDealModel") (T := T_M) (N := 32) hx hb hk in_M hown hK hP 0 am_0 rfl 3 (by decide) (hk _ kw_540) (fun _ h9 => h9) rfl dd_M_state_74 ?_
          obtain rfl := Option.some.inj h
          exact W.iret hx hb hr (fun t ht hW => ⟨⟨_, (), rfl, rfl, by rw [ht]; exact hP, va_K.moved hW.alike hK, hD⟩, hS.F ht⟩) hS.2.2 dd_M_state_77
        have h := in_out hc5 h
        by_cases hc6 : v1 = 2
        · have h := ip_out hc6 h
          refine lv_tableIn (tgt := 78) hx hb dd_M_state_33 (by rw [hc6]; decide) (by rw [hc6]; decide) (by rw [hc6]; rfl) (by decide) ?_
          refine lv_aload_n hx hb dd_M_state_78 rfl (lv_at hl 0 rfl) ?_
          refine va_get (D := D) (ci := 4) (v := .int (I 0 4)) (C := "OpenDealModel") (T := T_M) (N := 32) hx hb hk in_M hown hK hP 0 am_0 rfl 4 (by decide) (hk _ kw_541) (fun _ h9 => h9) rfl dd_M_state_79 ?_
          refine lv_iconst (v := 2) hx hb dd_M_state_82 (by decide) ?_
          refine lv_icmp_eq (tgt := 94) hx hb dd_M_state_83 (by decide) (fun hc7 => ?_) (fun hc7 => ?_)
          · have h := ip_out hc7 h
            exact L94  _ _ _ _ _ _ h _ _ hP hD hS _ (lv_sub hl [0, 1, 2, 3] rfl)
          · have h := in_out hc7 h
            refine lv_aload_n hx hb dd_M_state_86 rfl (lv_at hl 0 rfl) ?_
            refine va_get (D := D) (ci := 4) (v := .int (I 0 4)) (C := "OpenDealModel") (T := T_M) (N := 32) hx hb hk in_M hown hK hP 0 am_0 rfl 4 (by decide) (hk _ kw_541) (fun _ h9 => h9) rfl dd_M_state_87 ?_
            refine lv_iconst (v := 3) hx hb dd_M_state_90 (by decide) ?_
            refine lv_icmp_ne (tgt := 106) hx hb dd_M_state_91 (by decide) (fun hc8 => ?_) (fun hc8 => ?_)
            · have h := in_out hc8 h
              refine lv_aload_n hx hb dd_M_state_106 rfl (lv_at hl 0 rfl) ?_
              refine va_get (D := D) (ci := 4) (v := .int (I 0 31)) (C := "OpenDealModel") (T := T_M) (N := 32) hx hb hk in_M hown hK hP 0 am_0 rfl 31 (by decide) (hk _ kw_568) (fun _ h9 => h9) rfl dd_M_state_107 ?_
              obtain rfl := Option.some.inj h
              exact W.iret hx hb hr (fun t ht hW => ⟨⟨_, (), rfl, rfl, by rw [ht]; exact hP, va_K.moved hW.alike hK, hD⟩, hS.F ht⟩) hS.2.2 dd_M_state_110
            · have h := ip_out hc8 h
              exact L94  _ _ _ _ _ _ h _ _ hP hD hS _ (lv_sub hl [0, 1, 2, 3] rfl)
        have h := in_out hc6 h
        by_cases hc9 : v1 = 3
        · have h := ip_out hc9 h
          refine lv_tableIn (tgt := 111) hx hb dd_M_state_33 (by rw [hc9]; decide) (by rw [hc9]; decide) (by rw [hc9]; rfl) (by decide) ?_
          refine lv_iload_n hx hb dd_M_state_111 rfl (lv_at hl 2 rfl) ?_
          obtain rfl := Option.some.inj h
          exact W.iret hx hb hr (fun t ht hW => ⟨⟨_, (), rfl, rfl, by rw [ht]; exact hP, va_K.moved hW.alike hK, hD⟩, hS.F ht⟩) hS.2.2 dd_M_state_112
        have h := in_out hc9 h
        by_cases hc10 : v1 = 4
        · have h := ip_out hc10 h
          refine lv_tableIn (tgt := 113) hx hb dd_M_state_33 (by rw [hc10]; decide) (by rw [hc10]; decide) (by rw [hc10]; rfl) (by decide) ?_
          refine lv_aload_n hx hb dd_M_state_113 rfl (lv_at hl 0 rfl) ?_
          refine va_get (D := D) (ci := 4) (v := .int (I 0 30)) (C := "OpenDealModel") (T := T_M) (N := 32) hx hb hk in_M hown hK hP 0 am_0 rfl 30 (by decide) (hk _ kw_567) (fun _ h9 => h9) rfl dd_M_state_114 ?_
          refine lv_if_eq (tgt := 127) hx hb dd_M_state_117 (by decide) (fun hc11 => ?_) (fun hc11 => ?_)
          · have h := ip_out hc11 h
            refine lv_iconst (v := 0) hx hb dd_M_state_127 (by decide) ?_
            obtain rfl := Option.some.inj h
            exact W.iret hx hb hr (fun t ht hW => ⟨⟨_, (), rfl, rfl, by rw [ht]; exact hP, va_K.moved hW.alike hK, hD⟩, hS.F ht⟩) hS.2.2 dd_M_state_128
          · have h := in_out hc11 h
            refine lv_aload_n hx hb dd_M_state_120 rfl (lv_at hl 0 rfl) ?_
            obtain ⟨r12, hr12, h⟩ := ob_out h
            refine cr_Vi (n := 0) (As := []) hx hb hml hown hk (mm_M_most l D kc ad _ _ _  _ hr12) hK hP 0 am_0 rfl rfl kw_773 kw_775 sel_M_most kw_4 kw_776 ⟨rfl, rfl⟩ (by decide +kernel) ⟨Nat.le_of_ble_eq_true rfl, Nat.le_of_ble_eq_true rfl⟩ rfl hl.1 rfl (Nat.le_of_ble_eq_true rfl) dd_M_state_121 ⟨Nat.le_of_ble_eq_true rfl, Nat.le_of_ble_eq_true rfl⟩ ?_
            refine lv_goto (tgt := 128) hx hb dd_M_state_124 (by decide) ?_
            obtain rfl := Option.some.inj h
            exact W.iret hx hb hr (fun t ht hW => ⟨⟨_, (), rfl, rfl, by rw [ht]; exact hP, va_K.moved hW.alike hK, hD⟩, hS.F ht⟩) hS.2.2 dd_M_state_128
        have h := in_out hc10 h
        have ehc4 := si_ne (k := 0) hc4 rfl
        have ehc5 := si_ne (k := 1) hc5 rfl
        have ehc6 := si_ne (k := 2) hc6 rfl
        have ehc9 := si_ne (k := 3) hc9 rfl
        have ehc10 := si_ne (k := 4) hc10 rfl
        refine lv_tableOut (tgt := 129) hx hb dd_M_state_33 (by omega) (by decide) ?_
        refine lv_iconst (v := -1) hx hb dd_M_state_129 (by decide) ?_
        obtain rfl := Option.some.inj h
        exact W.iret hx hb hr (fun t ht hW => ⟨⟨_, (), rfl, rfl, by rw [ht]; exact hP, va_K.moved hW.alike hK, hD⟩, hS.F ht⟩) hS.2.2 dd_M_state_130
      · have h := in_out hc3 h
        refine lv_iload_n hx hb dd_M_state_17 rfl (lv_at hl 2 rfl) ?_
        refine lv_aload_n hx hb dd_M_state_18 rfl (lv_at hl 0 rfl) ?_
        refine va_get (D := D) (ci := 4) (v := .ref (ad 21)) (C := "OpenDealModel") (T := T_M) (N := 32) hx hb hk in_M hown hK hP 0 am_0 rfl 27 (by decide) (hk _ kw_564) (fun _ h9 => h9) rfl dd_M_state_19 ?_
        refine lv_iload_n hx hb dd_M_state_22 rfl (lv_at hl 3 rfl) ?_
        obtain ⟨hi13, h⟩ := oi_out h
        refine va_iald hx hb hK hP 21 0 am_21 rfl hi13 dd_M_state_23 ?_
        refine lv_iadd hx hb dd_M_state_24 ?_
        refine lv_topi (fun y14 ey14 => ?_)
        have h := tl_at ey14 h
        refine lv_istore_n (lv' := [(2, .int y14), (0, .ref (ad 0)), (1, .int v1), (3, .int v3)]) hx hb dd_M_state_25 rfl hl (by decide) rfl (fun ls hl => ?_)
        refine lv_iinc (v := v3 + (1 : Int32)) (lv' := [(3, .int (v3 + (1 : Int32))), (2, .int y14), (0, .ref (ad 0)), (1, .int v1)]) hx hb dd_M_state_26 hl (k := 3) rfl rfl (by decide) rfl (fun ls hl => ?_)
        refine lv_goto (tgt := 9) hx hb dd_M_state_29 (by decide) ?_
        exact ih _ _ _ _ _ h _ _ hP hD hS _ (lv_sub hl [2, 3, 1, 0] rfl)
  have hl := lv_entry ([.ref (ad 0), .int a1]) (n := 4) (Nat.le_of_ble_eq_true rfl)
  rw [lg_entry_eq]
  generalize (lg_sl ([.ref (ad 0), .int a1]) ++ List.replicate (4 - (lg_sl ([.ref (ad 0), .int a1])).length) Slot.unset).toArray = ls at hl ⊢
  have hl : lv_has ls 4 [(0, .ref (ad 0)), (1, .int a1)] := hl
  unfold ff_M_state at h
  refine lv_aload_n hx hb dd_M_state_0 rfl (lv_at hl 0 rfl) ?_
  refine lv_iconst (v := 0) hx hb dd_M_state_1 (by decide) ?_
  refine va_put (D := D) (ci := 4) (v := .int (0 : Int32)) (ty := .int) (C := "OpenDealModel") (T := T_M) (N := 32) hx hb hk in_M ty_M tk_M nm_M hown hK hP hD hS 0 am_0 rfl 0 (by decide) (hk _ kw_537) (fun _ h9 => h9) rfl (by decide +kernel) rfl rfl (Nat.le_of_ble_eq_true rfl) dd_M_state_2 (fun H locs hP hD hS => ?_)
  rw [pt_M0] at hP hD
  refine lv_iconst (v := 0) hx hb dd_M_state_5 (by decide) ?_
  refine lv_istore_n (lv' := [(2, .int (0 : Int32)), (0, .ref (ad 0)), (1, .int a1)]) hx hb dd_M_state_6 rfl hl (by decide) rfl (fun ls hl => ?_)
  refine lv_iconst (v := 0) hx hb dd_M_state_7 (by decide) ?_
  refine lv_istore_n (lv' := [(3, .int (0 : Int32)), (2, .int (0 : Int32)), (0, .ref (ad 0)), (1, .int a1)]) hx hb dd_M_state_8 rfl hl (by decide) rfl (fun ls hl => ?_)
  exact L9  _ _ _ _ _ _ h _ _ hP hD hS _ (lv_sub hl [2, 3, 1, 0] rfl)
def ff_M_player_20  : Nat → MI → MJ → Int32 → Int32 → Int32 → Int32 → Option (Int32 × MI × MJ)
  | 0, _, _, _, _, _, _ => none
  | n + 1, I, J, v1, v2, v3, v4 => if (52 : Int32) ≤ v4 then (if v2 = 0 then (if ¬ (v1 < 0 ∨ 4 ≤ (v1).toNatClampNeg) then some (I 1 (v1).toNatClampNeg, I, J) else none) else if v2 = 1 then (if ¬ (v1 < 0 ∨ 4 ≤ (v1).toNatClampNeg) then some (I 21 (v1).toNatClampNeg, I, J) else none) else if v2 = 2 then (if (I 0 30) = 0 then (some ((0 : Int32), I, J)) else (if ¬ (v1 < 0 ∨ 4 ≤ (v1).toNatClampNeg) then some (I 22 (v1).toNatClampNeg, I, J) else none)) else if v2 = 3 then (if (I 0 4) ≤ (3 : Int32) then (some ((0 : Int32), I, J)) else (if ¬ (v1 < 0 ∨ 4 ≤ (v1).toNatClampNeg) then if (I 20 (v1).toNatClampNeg) = 0 then (some ((0 : Int32), I, J)) else (some ((1 : Int32), I, J)) else none)) else if v2 = 4 then (some (v3, I, J)) else (some ((-1 : Int32), I, J))) else (if ¬ ((((52 : Int32) * v1) + v4) < 0 ∨ 208 ≤ (((52 : Int32) * v1) + v4).toNatClampNeg) then if (I 19 (((52 : Int32) * v1) + v4).toNatClampNeg) = 0 then (tl (v3 + (0 : Int32)) fun y16 => ff_M_player_20 n I J v1 v2 y16 (v4 + (1 : Int32))) else (tl (v3 + (1 : Int32)) fun y17 => ff_M_player_20 n I J v1 v2 y17 (v4 + (1 : Int32))) else none)
def ff_M_player (n : Nat) (I : MI) (J : MJ) (a1 : Int32) (a2 : Int32) : Option (Int32 × MI × MJ) := (ff_M_isPlayer n (ui I 0 0 (0 : Int32)) J a1).bind fun r18 => if r18 = 0 then (some ((-1 : Int32), ui I 0 0 (0 : Int32), J)) else (ff_M_player_20 n (ui I 0 0 (0 : Int32)) J a1 a2 (0 : Int32) (0 : Int32))
set_option maxHeartbeats 4000000 in
set_option maxRecDepth 100000 in
theorem mm_M_player (l : Launch) (D : va_G) (kc : Nat → ClassId) (ad : Nat → Nat) (I0 : MI) (J0 : MJ) (sz n : Nat) (a1 : Int32) (a2 : Int32) (r : Int32 × MI × MJ) (h : ff_M_player n I0 J0 a1 a2 = some r) : Met l yy_M_player (.code yy_M_player cc_M_player 5 (some .int) :: kw) { frames := 1, cells := 0, slots := 0, locals := 21 } (va_Pc [.ref (ad 0), .int a1, .int a2] (BW D kc (wM kc ad I0 J0) sz)) (va_Qi (fun z (_ : Unit) => z = r.1) (EW D kc (va_A (wM kc ad I0 J0) sz) (wM kc ad r.2.1 r.2.2)) (va_A (wM kc ad I0 J0) sz)) 0 0 (va_A (wM kc ad I0 J0) sz) := by
  refine Met.ofW (cc := cc_M_player) (maxL := 5) (ret := some .int) (by decide) rfl ?_
  intro p e s m args below meth c s₁ B hml hv
  obtain ⟨rfl, hsz, hP, hK, hD0⟩ := hv
  have hx := B.exec
  have hb := B.bytes
  have hr := B.returns
  have hlocks := B.notSynchronized
  have hk : ∀ w ∈ kw, w.before _ s = true := fun w hw => atoms_spec (ws := (.code yy_M_player cc_M_player 5 (some .int) :: kw)) B.pre w (List.mem_cons_of_mem _ hw)
  have hown : s.vm.findClass "OpenDealModel" = some m.cls := findClass_of_methodNamed B.named
  subst hsz
  have hD := hD0.self (sz := s.heap.size)
  generalize hAe : va_A (wM kc ad I0 J0) s.heap.size = A at hD ⊢
  have hA : ∀ q : Nat, s.heap.size ≤ q → A q := fun q h => by rw [← hAe]; exact Or.inr h
  have hS : va_S A s.heap s.heap [] := va_S.rf
  have hP : va_P D cls5 (wM kc ad I0 J0) s.heap := hP
  clear hAe hD0
  have L20 : ∀  (n : Nat) (I : MI) (J : MJ) (v1 : Int32) (v2 : Int32) (v3 : Int32) (v4 : Int32), ff_M_player_20 n I J v1 v2 v3 v4 = some r → ∀ (H : Heap) (locs : List Loc), va_P D cls5 (wM kc ad I J) H → va_D A (wM kc ad I J) → va_S A s.heap H locs → ∀ ls, lv_has ls 5 [(0, .ref (ad 0)), (1, .int v1), (2, .int v2), (3, .int v3), (4, .int v4)] → W p l e (headSpec (.code yy_M_player cc_M_player 5 (some .int) :: kw) { frames := 1, cells := 0, slots := 0, locals := 21 }).room s m ([.ref (ad 0), .int a1, .int a2] : List Value).toArray below meth c H locs 0 0 (MQ below (va_Qi (fun z (_ : Unit) => z = r.1) (EW D kc A (wM kc ad r.2.1 r.2.2)) A) ([.ref (ad 0), .int a1, .int a2] : List Value).toArray s 0 0 A) (F0 m 20 ls []) := by
    intro  n
    induction n with
    | zero => intro I J v1 v2 v3 v4 h; exact absurd h (by simp [ff_M_player_20])
    | succ n ih =>
      intro I J v1 v2 v3 v4 h H locs hP hD hS ls hl
      rw [ff_M_player_20] at h
      refine lv_iload hx hb dd_M_player_20 (lv_at hl 4 rfl) ?_
      refine lv_bipush (v := 52) hx hb dd_M_player_22 (by decide) ?_
      refine lv_icmp_ge (tgt := 56) hx hb dd_M_player_24 (by decide) (fun hc1 => ?_) (fun hc1 => ?_)
      · have h := ip_out hc1 h
        refine lv_iload_n hx hb dd_M_player_56 rfl (lv_at hl 2 rfl) ?_
        by_cases hc2 : v2 = 0
        · have h := ip_out hc2 h
          refine lv_tableIn (tgt := 92) hx hb dd_M_player_57 (by rw [hc2]; decide) (by rw [hc2]; decide) (by rw [hc2]; rfl) (by decide) ?_
          refine lv_aload_n hx hb dd_M_player_92 rfl (lv_at hl 0 rfl) ?_
          refine va_get (D := D) (ci := 4) (v := .ref (ad 1)) (C := "OpenDealModel") (T := T_M) (N := 32) hx hb hk in_M hown hK hP 0 am_0 rfl 5 (by decide) (hk _ kw_542) (fun _ h9 => h9) rfl dd_M_player_93 ?_
          refine lv_iload_n hx hb dd_M_player_96 rfl (lv_at hl 1 rfl) ?_
          obtain ⟨hi3, h⟩ := oi_out h
          refine va_iald hx hb hK hP 1 0 am_1 rfl hi3 dd_M_player_97 ?_
          obtain rfl := Option.some.inj h
          exact W.iret hx hb hr (fun t ht hW => ⟨⟨_, (), rfl, rfl, by rw [ht]; exact hP, va_K.moved hW.alike hK, hD⟩, hS.F ht⟩) hS.2.2 dd_M_player_98
        have h := in_out hc2 h
        by_cases hc4 : v2 = 1
        · have h := ip_out hc4 h
          refine lv_tableIn (tgt := 99) hx hb dd_M_player_57 (by rw [hc4]; decide) (by rw [hc4]; decide) (by rw [hc4]; rfl) (by decide) ?_
          refine lv_aload_n hx hb dd_M_player_99 rfl (lv_at hl 0 rfl) ?_
          refine va_get (D := D) (ci := 4) (v := .ref (ad 21)) (C := "OpenDealModel") (T := T_M) (N := 32) hx hb hk in_M hown hK hP 0 am_0 rfl 27 (by decide) (hk _ kw_564) (fun _ h9 => h9) rfl dd_M_player_100 ?_
          refine lv_iload_n hx hb dd_M_player_103 rfl (lv_at hl 1 rfl) ?_
          obtain ⟨hi5, h⟩ := oi_out h
          refine va_iald hx hb hK hP 21 0 am_21 rfl hi5 dd_M_player_104 ?_
          obtain rfl := Option.some.inj h
          exact W.iret hx hb hr (fun t ht hW => ⟨⟨_, (), rfl, rfl, by rw [ht]; exact hP, va_K.moved hW.alike hK, hD⟩, hS.F ht⟩) hS.2.2 dd_M_player_105
        have h := in_out hc4 h
        by_cases hc6 : v2 = 2
        · have h := ip_out hc6 h
          refine lv_tableIn (tgt := 106) hx hb dd_M_player_57 (by rw [hc6]; decide) (by rw [hc6]; decide) (by rw [hc6]; rfl) (by decide) ?_
          refine lv_aload_n hx hb dd_M_player_106 rfl (lv_at hl 0 rfl) ?_
          refine va_get (D := D) (ci := 4) (v := .int (I 0 30)) (C := "OpenDealModel") (T := T_M) (N := 32) hx hb hk in_M hown hK hP 0 am_0 rfl 30 (by decide) (hk _ kw_567) (fun _ h9 => h9) rfl dd_M_player_107 ?_
          refine lv_if_eq (tgt := 122) hx hb dd_M_player_110 (by decide) (fun hc7 => ?_) (fun hc7 => ?_)
          · have h := ip_out hc7 h
            refine lv_iconst (v := 0) hx hb dd_M_player_122 (by decide) ?_
            obtain rfl := Option.some.inj h
            exact W.iret hx hb hr (fun t ht hW => ⟨⟨_, (), rfl, rfl, by rw [ht]; exact hP, va_K.moved hW.alike hK, hD⟩, hS.F ht⟩) hS.2.2 dd_M_player_123
          · have h := in_out hc7 h
            refine lv_aload_n hx hb dd_M_player_113 rfl (lv_at hl 0 rfl) ?_
            refine va_get (D := D) (ci := 4) (v := .ref (ad 22)) (C := "OpenDealModel") (T := T_M) (N := 32) hx hb hk in_M hown hK hP 0 am_0 rfl 28 (by decide) (hk _ kw_565) (fun _ h9 => h9) rfl dd_M_player_114 ?_
            refine lv_iload_n hx hb dd_M_player_117 rfl (lv_at hl 1 rfl) ?_
            obtain ⟨hi8, h⟩ := oi_out h
            refine va_iald hx hb hK hP 22 0 am_22 rfl hi8 dd_M_player_118 ?_
            refine lv_goto (tgt := 123) hx hb dd_M_player_119 (by decide) ?_
            obtain rfl := Option.some.inj h
            exact W.iret hx hb hr (fun t ht hW => ⟨⟨_, (), rfl, rfl, by rw [ht]; exact hP, va_K.moved hW.alike hK, hD⟩, hS.F ht⟩) hS.2.2 dd_M_player_123
        have h := in_out hc6 h
        by_cases hc9 : v2 = 3
        · have h := ip_out hc9 h
          refine lv_tableIn (tgt := 124) hx hb dd_M_player_57 (by rw [hc9]; decide) (by rw [hc9]; decide) (by rw [hc9]; rfl) (by decide) ?_
          refine lv_aload_n hx hb dd_M_player_124 rfl (lv_at hl 0 rfl) ?_
          refine va_get (D := D) (ci := 4) (v := .int (I 0 4)) (C := "OpenDealModel") (T := T_M) (N := 32) hx hb hk in_M hown hK hP 0 am_0 rfl 4 (by decide) (hk _ kw_541) (fun _ h9 => h9) rfl dd_M_player_125 ?_
          refine lv_iconst (v := 3) hx hb dd_M_player_128 (by decide) ?_
          refine lv_icmp_le (tgt := 145) hx hb dd_M_player_129 (by decide) (fun hc10 => ?_) (fun hc10 => ?_)
          · have h := ip_out hc10 h
            refine lv_iconst (v := 0) hx hb dd_M_player_145 (by decide) ?_
            obtain rfl := Option.some.inj h
            exact W.iret hx hb hr (fun t ht hW => ⟨⟨_, (), rfl, rfl, by rw [ht]; exact hP, va_K.moved hW.alike hK, hD⟩, hS.F ht⟩) hS.2.2 dd_M_player_146
          · have h := in_out hc10 h
            refine lv_aload_n hx hb dd_M_player_132 rfl (lv_at hl 0 rfl) ?_
            refine va_get (D := D) (ci := 4) (v := .ref (ad 20)) (C := "OpenDealModel") (T := T_M) (N := 32) hx hb hk in_M hown hK hP 0 am_0 rfl 26 (by decide) (hk _ kw_563) (fun _ h9 => h9) rfl dd_M_player_133 ?_
            refine lv_iload_n hx hb dd_M_player_136 rfl (lv_at hl 1 rfl) ?_
            obtain ⟨hi11, h⟩ := oi_out h
            refine va_zald hx hb hK hP 20 2 am_20 rfl hi11 dd_M_player_137 ?_
            refine lv_if_eq (tgt := 145) hx hb dd_M_player_138 (by decide) (fun hc12 => ?_) (fun hc12 => ?_)
            · have h := ip_out hc12 h
              refine lv_iconst (v := 0) hx hb dd_M_player_145 (by decide) ?_
              obtain rfl := Option.some.inj h
              exact W.iret hx hb hr (fun t ht hW => ⟨⟨_, (), rfl, rfl, by rw [ht]; exact hP, va_K.moved hW.alike hK, hD⟩, hS.F ht⟩) hS.2.2 dd_M_player_146
            · have h := in_out hc12 h
              refine lv_iconst (v := 1) hx hb dd_M_player_141 (by decide) ?_
              refine lv_goto (tgt := 146) hx hb dd_M_player_142 (by decide) ?_
              obtain rfl := Option.some.inj h
              exact W.iret hx hb hr (fun t ht hW => ⟨⟨_, (), rfl, rfl, by rw [ht]; exact hP, va_K.moved hW.alike hK, hD⟩, hS.F ht⟩) hS.2.2 dd_M_player_146
        have h := in_out hc9 h
        by_cases hc13 : v2 = 4
        · have h := ip_out hc13 h
          refine lv_tableIn (tgt := 147) hx hb dd_M_player_57 (by rw [hc13]; decide) (by rw [hc13]; decide) (by rw [hc13]; rfl) (by decide) ?_
          refine lv_iload_n hx hb dd_M_player_147 rfl (lv_at hl 3 rfl) ?_
          obtain rfl := Option.some.inj h
          exact W.iret hx hb hr (fun t ht hW => ⟨⟨_, (), rfl, rfl, by rw [ht]; exact hP, va_K.moved hW.alike hK, hD⟩, hS.F ht⟩) hS.2.2 dd_M_player_148
        have h := in_out hc13 h
        have ehc2 := si_ne (k := 0) hc2 rfl
        have ehc4 := si_ne (k := 1) hc4 rfl
        have ehc6 := si_ne (k := 2) hc6 rfl
        have ehc9 := si_ne (k := 3) hc9 rfl
        have ehc13 := si_ne (k := 4) hc13 rfl
        refine lv_tableOut (tgt := 149) hx hb dd_M_player_57 (by omega) (by decide) ?_
        refine lv_iconst (v := -1) hx hb dd_M_player_149 (by decide) ?_
        obtain rfl := Option.some.inj h
        exact W.iret hx hb hr (fun t ht hW => ⟨⟨_, (), rfl, rfl, by rw [ht]; exact hP, va_K.moved hW.alike hK, hD⟩, hS.F ht⟩) hS.2.2 dd_M_player_150
      · have h := in_out hc1 h
        refine lv_iload_n hx hb dd_M_player_27 rfl (lv_at hl 3 rfl) ?_
        refine lv_aload_n hx hb dd_M_player_28 rfl (lv_at hl 0 rfl) ?_
        refine va_get (D := D) (ci := 4) (v := .ref (ad 19)) (C := "OpenDealModel") (T := T_M) (N := 32) hx hb hk in_M hown hK hP 0 am_0 rfl 24 (by decide) (hk _ kw_561) (fun _ h9 => h9) rfl dd_M_player_29 ?_
        refine lv_bipush (v := 52) hx hb dd_M_player_32 (by decide) ?_
        refine lv_iload_n hx hb dd_M_player_34 rfl (lv_at hl 1 rfl) ?_
        refine lv_imul hx hb dd_M_player_35 ?_
        refine lv_iload hx hb dd_M_player_36 (lv_at hl 4 rfl) ?_
        refine lv_iadd hx hb dd_M_player_38 ?_
        obtain ⟨hi14, h⟩ := oi_out h
        refine va_iald hx hb hK hP 19 0 am_19 rfl hi14 dd_M_player_39 ?_
        refine lv_if_eq (tgt := 47) hx hb dd_M_player_40 (by decide) (fun hc15 => ?_) (fun hc15 => ?_)
        · have h := ip_out hc15 h
          refine lv_iconst (v := 0) hx hb dd_M_player_47 (by decide) ?_
          refine lv_iadd hx hb dd_M_player_48 ?_
          refine lv_topi (fun y16 ey16 => ?_)
          have h := tl_at ey16 h
          refine lv_istore_n (lv' := [(3, .int y16), (0, .ref (ad 0)), (1, .int v1), (2, .int v2), (4, .int v4)]) hx hb dd_M_player_49 rfl hl (by decide) rfl (fun ls hl => ?_)
          refine lv_iinc (v := v4 + (1 : Int32)) (lv' := [(4, .int (v4 + (1 : Int32))), (3, .int y16), (0, .ref (ad 0)), (1, .int v1), (2, .int v2)]) hx hb dd_M_player_50 hl (k := 4) rfl rfl (by decide) rfl (fun ls hl => ?_)
          refine lv_goto (tgt := 20) hx hb dd_M_player_53 (by decide) ?_
          exact ih _ _ _ _ _ _ h _ _ hP hD hS _ (lv_sub hl [2, 3, 4, 1, 0] rfl)
        · have h := in_out hc15 h
          refine lv_iconst (v := 1) hx hb dd_M_player_43 (by decide) ?_
          refine lv_goto (tgt := 48) hx hb dd_M_player_44 (by decide) ?_
          refine lv_iadd hx hb dd_M_player_48 ?_
          refine lv_topi (fun y17 ey17 => ?_)
          have h := tl_at ey17 h
          refine lv_istore_n (lv' := [(3, .int y17), (0, .ref (ad 0)), (1, .int v1), (2, .int v2), (4, .int v4)]) hx hb dd_M_player_49 rfl hl (by decide) rfl (fun ls hl => ?_)
          refine lv_iinc (v := v4 + (1 : Int32)) (lv' := [(4, .int (v4 + (1 : Int32))), (3, .int y17), (0, .ref (ad 0)), (1, .int v1), (2, .int v2)]) hx hb dd_M_player_50 hl (k := 4) rfl rfl (by decide) rfl (fun ls hl => ?_)
          refine lv_goto (tgt := 20) hx hb dd_M_player_53 (by decide) ?_
          exact ih _ _ _ _ _ _ h _ _ hP hD hS _ (lv_sub hl [2, 3, 4, 1, 0] rfl)
  have hl := lv_entry ([.ref (ad 0), .int a1, .int a2]) (n := 5) (Nat.le_of_ble_eq_true rfl)
  rw [lg_entry_eq]
  generalize (lg_sl ([.ref (ad 0), .int a1, .int a2]) ++ List.replicate (5 - (lg_sl ([.ref (ad 0), .int a1, .int a2])).length) Slot.unset).toArray = ls at hl ⊢
  have hl : lv_has ls 5 [(0, .ref (ad 0)), (1, .int a1), (2, .int a2)] := hl
  unfold ff_M_player at h
  refine lv_aload_n hx hb dd_M_player_0 rfl (lv_at hl 0 rfl) ?_
  refine lv_iconst (v := 0) hx hb dd_M_player_1 (by decide) ?_
  refine va_put (D := D) (ci := 4) (v := .int (0 : Int32)) (ty := .int) (C := "OpenDealModel") (T := T_M) (N := 32) hx hb hk in_M ty_M tk_M nm_M hown hK hP hD hS 0 am_0 rfl 0 (by decide) (hk _ kw_537) (fun _ h9 => h9) rfl (by decide +kernel) rfl rfl (Nat.le_of_ble_eq_true rfl) dd_M_player_2 (fun H locs hP hD hS => ?_)
  rw [pt_M0] at hP hD
  refine lv_aload_n hx hb dd_M_player_5 rfl (lv_at hl 0 rfl) ?_
  refine lv_iload_n hx hb dd_M_player_6 rfl (lv_at hl 1 rfl) ?_
  obtain ⟨r18, hr18, h⟩ := ob_out h
  refine cr_Vi (n := 1) (As := [.int a1]) hx hb hml hown hk (mm_M_isPlayer l D kc ad _ _ _ _ _ hr18) hK hP 0 am_0 rfl rfl kw_664 kw_666 sel_M_isPlayer kw_4 kw_667 ⟨rfl, rfl⟩ (by decide +kernel) ⟨Nat.le_of_ble_eq_true rfl, Nat.le_of_ble_eq_true rfl⟩ rfl hl.1 rfl (Nat.le_of_ble_eq_true rfl) dd_M_player_7 ⟨Nat.le_of_ble_eq_true rfl, Nat.le_of_ble_eq_true rfl⟩ ?_
  refine lv_if_ne (tgt := 15) hx hb dd_M_player_10 (by decide) (fun hc19 => ?_) (fun hc19 => ?_)
  · have h := in_out hc19 h
    refine lv_iconst (v := 0) hx hb dd_M_player_15 (by decide) ?_
    refine lv_istore_n (lv' := [(3, .int (0 : Int32)), (0, .ref (ad 0)), (1, .int a1), (2, .int a2)]) hx hb dd_M_player_16 rfl hl (by decide) rfl (fun ls hl => ?_)
    refine lv_iconst (v := 0) hx hb dd_M_player_17 (by decide) ?_
    refine lv_istore (lv' := [(4, .int (0 : Int32)), (3, .int (0 : Int32)), (0, .ref (ad 0)), (1, .int a1), (2, .int a2)]) hx hb dd_M_player_18 hl (by decide) rfl (fun ls hl => ?_)
    exact L20  _ _ _ _ _ _ _ h _ _ hP hD hS _ (lv_sub hl [2, 3, 4, 1, 0] rfl)
  · have h := ip_out hc19 h
    refine lv_iconst (v := -1) hx hb dd_M_player_13 (by decide) ?_
    obtain rfl := Option.some.inj h
    exact W.iret hx hb hr (fun t ht hW => ⟨⟨_, (), rfl, rfl, by rw [ht]; exact hP, va_K.moved hW.alike hK, hD⟩, hS.F ht⟩) hS.2.2 dd_M_player_14
