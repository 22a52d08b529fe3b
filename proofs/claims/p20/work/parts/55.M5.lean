/-! the reference, laid by program -/
def ff_M_settle_24  : Nat → MI → MJ → Int32 → Int32 → Option (Int32 × MI × MJ)
  | 0, _, _, _, _ => none
  | n + 1, I, J, v1, v2 => if v2 = 0 then (some ((1 : Int32), ui I 0 4 (5 : Int32), J)) else ((ff_M_payLayer n I J v1).bind fun r2 => ff_M_settle_24 n r2.2.1 r2.2.2 v1 r2.1)
def ff_M_settle (n : Nat) (I : MI) (J : MJ) (a1 : Int32) : Option (Int32 × MI × MJ) := if ((ui I 0 0 (0 : Int32)) 0 4) = (4 : Int32) then (if ((ui I 0 0 (0 : Int32)) 0 30) = 0 then (ff_M_settle_24 n (ui I 0 0 (0 : Int32)) J a1 (1 : Int32)) else (some ((0 : Int32), ui I 0 0 (0 : Int32), J))) else (some ((0 : Int32), ui I 0 0 (0 : Int32), J))
set_option maxHeartbeats 4000000 in
set_option maxRecDepth 100000 in
theorem mm_M_settle (l : Launch) (D : va_G) (kc : Nat → ClassId) (ad : Nat → Nat) (I0 : MI) (J0 : MJ) (sz n : Nat) (a1 : Int32) (r : Int32 × MI × MJ) (h : ff_M_settle n I0 J0 a1 = some r) : Met l yy_M_settle (.code yy_M_settle cc_M_settle 3 (some .boolean) :: kw) { frames := 1, cells := 0, slots := 0, locals := 27 } (va_Pc [.ref (ad 0), .int a1] (BW D kc (wM kc ad I0 J0) sz)) (va_Qi (fun z (_ : Unit) => z = r.1) (EW D kc (va_A (wM kc ad I0 J0) sz) (wM kc ad r.2.1 r.2.2)) (va_A (wM kc ad I0 J0) sz)) 0 0 (va_A (wM kc ad I0 J0) sz) := by
  refine Met.ofW (cc := cc_M_settle) (maxL := 3) (ret := some .boolean) (by decide) rfl ?_
  intro p e s m args below meth c s₁ B hml hv
  obtain ⟨rfl, hsz, hP, hK, hD0⟩ := hv
  have hx := B.exec
  have hb := B.bytes
  have hr := B.returns
  have hlocks := B.notSynchronized
  have hk : ∀ w ∈ kw, w.before _ s = true := fun w hw => atoms_spec (ws := (.code yy_M_settle cc_M_settle 3 (some .boolean) :: kw)) B.pre w (List.mem_cons_of_mem _ hw)
  have hown : s.vm.findClass "OpenDealModel" = some m.cls := findClass_of_methodNamed B.named
  subst hsz
  have hD := hD0.self (sz := s.heap.size)
  generalize hAe : va_A (wM kc ad I0 J0) s.heap.size = A at hD ⊢
  have hA : ∀ q : Nat, s.heap.size ≤ q → A q := fun q h => by rw [← hAe]; exact Or.inr h
  have hS : va_S A s.heap s.heap [] := va_S.rf
  have hP : va_P D cls5 (wM kc ad I0 J0) s.heap := hP
  clear hAe hD0
  have L24 : ∀  (n : Nat) (I : MI) (J : MJ) (v1 : Int32) (v2 : Int32), ff_M_settle_24 n I J v1 v2 = some r → ∀ (H : Heap) (locs : List Loc), va_P D cls5 (wM kc ad I J) H → va_D A (wM kc ad I J) → va_S A s.heap H locs → ∀ ls, lv_has ls 3 [(0, .ref (ad 0)), (1, .int v1), (2, .int v2)] → W p l e (headSpec (.code yy_M_settle cc_M_settle 3 (some .boolean) :: kw) { frames := 1, cells := 0, slots := 0, locals := 27 }).room s m ([.ref (ad 0), .int a1] : List Value).toArray below meth c H locs 0 0 (MQ below (va_Qi (fun z (_ : Unit) => z = r.1) (EW D kc A (wM kc ad r.2.1 r.2.2)) A) ([.ref (ad 0), .int a1] : List Value).toArray s 0 0 A) (F0 m 24 ls []) := by
    intro  n
    induction n with
    | zero => intro I J v1 v2 h; exact absurd h (by simp [ff_M_settle_24])
    | succ n ih =>
      intro I J v1 v2 h H locs hP hD hS ls hl
      rw [ff_M_settle_24] at h
      refine lv_iload_n hx hb dd_M_settle_24 rfl (lv_at hl 2 rfl) ?_
      refine lv_if_eq (tgt := 37) hx hb dd_M_settle_25 (by decide) (fun hc1 => ?_) (fun hc1 => ?_)
      · have h := ip_out hc1 h
        refine lv_aload_n hx hb dd_M_settle_37 rfl (lv_at hl 0 rfl) ?_
        refine lv_iconst (v := 5) hx hb dd_M_settle_38 (by decide) ?_
        refine va_put (D := D) (ci := 4) (v := .int (5 : Int32)) (ty := .int) (C := "OpenDealModel") (T := T_M) (N := 32) hx hb hk in_M ty_M tk_M nm_M hown hK hP hD hS 0 am_0 rfl 4 (by decide) (hk _ kw_541) (fun _ h9 => h9) rfl (by decide +kernel) rfl rfl (Nat.le_of_ble_eq_true rfl) dd_M_settle_39 (fun H locs hP hD hS => ?_)
        rw [pt_M4] at hP hD
        refine lv_iconst (v := 1) hx hb dd_M_settle_42 (by decide) ?_
        obtain rfl := Option.some.inj h
        exact W.zret hx hb hr rfl (fun t ht hW => ⟨⟨_, (), rfl, rfl, by rw [ht]; exact hP, va_K.moved hW.alike hK, hD⟩, hS.F ht⟩) hS.2.2 dd_M_settle_43
      · have h := in_out hc1 h
        refine lv_aload_n hx hb dd_M_settle_28 rfl (lv_at hl 0 rfl) ?_
        refine lv_iload_n hx hb dd_M_settle_29 rfl (lv_at hl 1 rfl) ?_
        obtain ⟨r2, hr2, h⟩ := ob_out h
        refine cw_Vi (n := 1) (As := [.int v1]) (mc := 0) (ms := 0) hx hb hml hown hk (mm_M_payLayer l D kc ad _ _ _ _ _ _ hr2) hK hP hD hS hA 0 am_0 rfl rfl kw_785 kw_787 sel_M_payLayer kw_4 kw_788 ⟨rfl, rfl⟩ (by decide +kernel) ⟨Nat.le_of_ble_eq_true rfl, Nat.le_of_ble_eq_true rfl⟩ rfl hl.1 rfl (Nat.le_of_ble_eq_true rfl) dd_M_settle_30 ⟨Nat.le_of_ble_eq_true rfl, Nat.le_of_ble_eq_true rfl⟩ (fun H locs hP hD hS => ?_)
        refine lv_istore_n (lv' := [(2, .int r2.1), (0, .ref (ad 0)), (1, .int v1)]) hx hb dd_M_settle_33 rfl hl (by decide) rfl (fun ls hl => ?_)
        refine lv_goto (tgt := 24) hx hb dd_M_settle_34 (by decide) ?_
        exact ih _ _ _ _ h _ _ hP hD hS _ (lv_sub hl [1, 2, 0] rfl)
  have hl := lv_entry ([.ref (ad 0), .int a1]) (n := 3) (Nat.le_of_ble_eq_true rfl)
  rw [lg_entry_eq]
  generalize (lg_sl ([.ref (ad 0), .int a1]) ++ List.replicate (3 - (lg_sl ([.ref (ad 0), .int a1])).length) Slot.unset).toArray = ls at hl ⊢
  have hl : lv_has ls 3 [(0, .ref (ad 0)), (1, .int a1)] := hl
  unfold ff_M_settle at h
  refine lv_aload_n hx hb dd_M_settle_0 rfl (lv_at hl 0 rfl) ?_
  refine lv_iconst (v := 0) hx hb dd_M_settle_1 (by decide) ?_
  refine va_put (D := D) (ci := 4) (v := .int (0 : Int32)) (ty := .int) (C := "OpenDealModel") (T := T_M) (N := 32) hx hb hk in_M ty_M tk_M nm_M hown hK hP hD hS 0 am_0 rfl 0 (by decide) (hk _ kw_537) (fun _ h9 => h9) rfl (by decide +kernel) rfl rfl (Nat.le_of_ble_eq_true rfl) dd_M_settle_2 (fun H locs hP hD hS => ?_)
  rw [pt_M0] at hP hD
  refine lv_aload_n hx hb dd_M_settle_5 rfl (lv_at hl 0 rfl) ?_
  refine va_get (D := D) (ci := 4) (v := .int ((ui I0 0 0 (0 : Int32)) 0 4)) (C := "OpenDealModel") (T := T_M) (N := 32) hx hb hk in_M hown hK hP 0 am_0 rfl 4 (by decide) (hk _ kw_541) (fun _ h9 => h9) rfl dd_M_settle_6 ?_
  refine lv_iconst (v := 4) hx hb dd_M_settle_9 (by decide) ?_
  refine lv_icmp_ne (tgt := 20) hx hb dd_M_settle_10 (by decide) (fun hc3 => ?_) (fun hc3 => ?_)
  · have h := in_out hc3 h
    refine lv_iconst (v := 0) hx hb dd_M_settle_20 (by decide) ?_
    obtain rfl := Option.some.inj h
    exact W.zret hx hb hr rfl (fun t ht hW => ⟨⟨_, (), rfl, rfl, by rw [ht]; exact hP, va_K.moved hW.alike hK, hD⟩, hS.F ht⟩) hS.2.2 dd_M_settle_21
  · have h := ip_out hc3 h
    refine lv_aload_n hx hb dd_M_settle_13 rfl (lv_at hl 0 rfl) ?_
    refine va_get (D := D) (ci := 4) (v := .int ((ui I0 0 0 (0 : Int32)) 0 30)) (C := "OpenDealModel") (T := T_M) (N := 32) hx hb hk in_M hown hK hP 0 am_0 rfl 30 (by decide) (hk _ kw_567) (fun _ h9 => h9) rfl dd_M_settle_14 ?_
    refine lv_if_eq (tgt := 22) hx hb dd_M_settle_17 (by decide) (fun hc4 => ?_) (fun hc4 => ?_)
    · have h := ip_out hc4 h
      refine lv_iconst (v := 1) hx hb dd_M_settle_22 (by decide) ?_
      refine lv_istore_n (lv' := [(2, .int (1 : Int32)), (0, .ref (ad 0)), (1, .int a1)]) hx hb dd_M_settle_23 rfl hl (by decide) rfl (fun ls hl => ?_)
      exact L24  _ _ _ _ _ h _ _ hP hD hS _ (lv_sub hl [1, 2, 0] rfl)
    · have h := in_out hc4 h
      refine lv_iconst (v := 0) hx hb dd_M_settle_20 (by decide) ?_
      obtain rfl := Option.some.inj h
      exact W.zret hx hb hr rfl (fun t ht hW => ⟨⟨_, (), rfl, rfl, by rw [ht]; exact hP, va_K.moved hW.alike hK, hD⟩, hS.F ht⟩) hS.2.2 dd_M_settle_21
def ff_M_show_104  : Nat → MI → MJ → Int32 → Int32 → Int32 → Option (Int32 × MI × MJ)
  | 0, _, _, _, _, _ => none
  | n + 1, I, J, v1, v2, v3 => if (I 0 3) ≤ v3 then (if v2 = 0 then (some ((1 : Int32), I, J)) else (some ((1 : Int32), ui I 0 4 (6 : Int32), J))) else (if v2 = 0 then (ff_M_show_104 n I J v1 (0 : Int32) (v3 + (1 : Int32))) else (if ¬ (v3 < 0 ∨ 4 ≤ (v3).toNatClampNeg) then if (I 7 (v3).toNatClampNeg) = 0 then (ff_M_show_104 n I J v1 (0 : Int32) (v3 + (1 : Int32))) else (ff_M_show_104 n I J v1 (1 : Int32) (v3 + (1 : Int32))) else none))
def ff_M_show_72  (n : Nat) (I : MI) (J : MJ) (v1 : Int32) (s1 : Int32) (s2 : Int32) : Option (Int32 × MI × MJ) := if ¬ (s1 < 0 ∨ 4 ≤ (s1).toNatClampNeg) then if ¬ (v1 < 0 ∨ 4 ≤ (v1).toNatClampNeg) then if ¬ (v1 < 0 ∨ 4 ≤ (v1).toNatClampNeg) then if ((ui I 8 (s1).toNatClampNeg s2) 14 (v1).toNatClampNeg) = 0 then (if ¬ (v1 < 0 ∨ 4 ≤ (v1).toNatClampNeg) then ff_M_show_104 n (ui I 8 (s1).toNatClampNeg s2) (uj J 9 (v1).toNatClampNeg ((J 5 (v1).toNatClampNeg) + (0 : Int64))) v1 (1 : Int32) (0 : Int32) else none) else (if ¬ (v1 < 0 ∨ 4 ≤ (v1).toNatClampNeg) then ff_M_show_104 n (ui I 8 (s1).toNatClampNeg s2) (uj J 9 (v1).toNatClampNeg ((J 5 (v1).toNatClampNeg) + (1 : Int64))) v1 (1 : Int32) (0 : Int32) else none) else none else none else none
def ff_M_show (n : Nat) (I : MI) (J : MJ) (a1 : Int32) : Option (Int32 × MI × MJ) := (ff_M_isPlayer n (ui I 0 0 (0 : Int32)) J a1).bind fun r12 => if r12 = 0 then (some ((0 : Int32), ui I 0 0 (0 : Int32), J)) else (if ((ui I 0 0 (0 : Int32)) 0 4) = (5 : Int32) then (if ¬ (a1 < 0 ∨ 4 ≤ (a1).toNatClampNeg) then if ((ui I 0 0 (0 : Int32)) 7 (a1).toNatClampNeg) = 0 then (if ¬ (a1 < 0 ∨ 4 ≤ (a1).toNatClampNeg) then if ¬ (a1 < 0 ∨ 4 ≤ (a1).toNatClampNeg) then if ((ui (ui I 0 0 (0 : Int32)) 7 (a1).toNatClampNeg (1 : Int32)) 13 (a1).toNatClampNeg) = 0 then (if ¬ (a1 < 0 ∨ 4 ≤ (a1).toNatClampNeg) then ff_M_show_72 n (ui (ui I 0 0 (0 : Int32)) 7 (a1).toNatClampNeg (1 : Int32)) J a1 a1 ((ui (ui I 0 0 (0 : Int32)) 7 (a1).toNatClampNeg (1 : Int32)) 4 (a1).toNatClampNeg) else none) else (if ¬ (a1 < 0 ∨ 4 ≤ (a1).toNatClampNeg) then (ff_M_leastAbove n (ui (ui I 0 0 (0 : Int32)) 7 (a1).toNatClampNeg (1 : Int32)) J ((ui (ui I 0 0 (0 : Int32)) 7 (a1).toNatClampNeg (1 : Int32)) 4 (a1).toNatClampNeg)).bind fun r22 => ff_M_show_72 n (ui (ui I 0 0 (0 : Int32)) 7 (a1).toNatClampNeg (1 : Int32)) J a1 a1 r22 else none) else none else none) else (some ((0 : Int32), ui I 0 0 (0 : Int32), J)) else none) else (some ((0 : Int32), ui I 0 0 (0 : Int32), J)))
set_option maxHeartbeats 4000000 in
set_option maxRecDepth 100000 in
theorem mm_M_show (l : Launch) (D : va_G) (kc : Nat → ClassId) (ad : Nat → Nat) (I0 : MI) (J0 : MJ) (sz n : Nat) (a1 : Int32) (r : Int32 × MI × MJ) (h : ff_M_show n I0 J0 a1 = some r) : Met l yy_M_show (.code yy_M_show cc_M_show 4 (some .boolean) :: kw) { frames := 2, cells := 0, slots := 0, locals := 43 } (va_Pc [.ref (ad 0), .int a1] (BW D kc (wM kc ad I0 J0) sz)) (va_Qi (fun z (_ : Unit) => z = r.1) (EW D kc (va_A (wM kc ad I0 J0) sz) (wM kc ad r.2.1 r.2.2)) (va_A (wM kc ad I0 J0) sz)) 0 0 (va_A (wM kc ad I0 J0) sz) := by
  refine Met.ofW (cc := cc_M_show) (maxL := 4) (ret := some .boolean) (by decide) rfl ?_
  intro p e s m args below meth c s₁ B hml hv
  obtain ⟨rfl, hsz, hP, hK, hD0⟩ := hv
  have hx := B.exec
  have hb := B.bytes
  have hr := B.returns
  have hlocks := B.notSynchronized
  have hk : ∀ w ∈ kw, w.before _ s = true := fun w hw => atoms_spec (ws := (.code yy_M_show cc_M_show 4 (some .boolean) :: kw)) B.pre w (List.mem_cons_of_mem _ hw)
  have hown : s.vm.findClass "OpenDealModel" = some m.cls := findClass_of_methodNamed B.named
  subst hsz
  have hD := hD0.self (sz := s.heap.size)
  generalize hAe : va_A (wM kc ad I0 J0) s.heap.size = A at hD ⊢
  have hA : ∀ q : Nat, s.heap.size ≤ q → A q := fun q h => by rw [← hAe]; exact Or.inr h
  have hS : va_S A s.heap s.heap [] := va_S.rf
  have hP : va_P D cls5 (wM kc ad I0 J0) s.heap := hP
  clear hAe hD0
  have L104 : ∀  (n : Nat) (I : MI) (J : MJ) (v1 : Int32) (v2 : Int32) (v3 : Int32), ff_M_show_104 n I J v1 v2 v3 = some r → ∀ (H : Heap) (locs : List Loc), va_P D cls5 (wM kc ad I J) H → va_D A (wM kc ad I J) → va_S A s.heap H locs → ∀ ls, lv_has ls 4 [(0, .ref (ad 0)), (1, .int v1), (2, .int v2), (3, .int v3)] → W p l e (headSpec (.code yy_M_show cc_M_show 4 (some .boolean) :: kw) { frames := 2, cells := 0, slots := 0, locals := 43 }).room s m ([.ref (ad 0), .int a1] : List Value).toArray below meth c H locs 0 0 (MQ below (va_Qi (fun z (_ : Unit) => z = r.1) (EW D kc A (wM kc ad r.2.1 r.2.2)) A) ([.ref (ad 0), .int a1] : List Value).toArray s 0 0 A) (F0 m 104 ls []) := by
    intro  n
    induction n with
    | zero => intro I J v1 v2 v3 h; exact absurd h (by simp [ff_M_show_104])
    | succ n ih =>
      intro I J v1 v2 v3 h H locs hP hD hS ls hl
      rw [ff_M_show_104] at h
      refine lv_iload_n hx hb dd_M_show_104 rfl (lv_at hl 3 rfl) ?_
      refine lv_aload_n hx hb dd_M_show_105 rfl (lv_at hl 0 rfl) ?_
      refine va_get (D := D) (ci := 4) (v := .int (I 0 3)) (C := "OpenDealModel") (T := T_M) (N := 32) hx hb hk in_M hown hK hP 0 am_0 rfl 3 (by decide) (hk _ kw_540) (fun _ h9 => h9) rfl dd_M_show_106 ?_
      refine lv_icmp_ge (tgt := 137) hx hb dd_M_show_109 (by decide) (fun hc1 => ?_) (fun hc1 => ?_)
      · have h := ip_out hc1 h
        refine lv_iload_n hx hb dd_M_show_137 rfl (lv_at hl 2 rfl) ?_
        refine lv_if_eq (tgt := 147) hx hb dd_M_show_138 (by decide) (fun hc2 => ?_) (fun hc2 => ?_)
        · have h := ip_out hc2 h
          refine lv_iconst (v := 1) hx hb dd_M_show_147 (by decide) ?_
          obtain rfl := Option.some.inj h
          exact W.zret hx hb hr rfl (fun t ht hW => ⟨⟨_, (), rfl, rfl, by rw [ht]; exact hP, va_K.moved hW.alike hK, hD⟩, hS.F ht⟩) hS.2.2 dd_M_show_148
        · have h := in_out hc2 h
          refine lv_aload_n hx hb dd_M_show_141 rfl (lv_at hl 0 rfl) ?_
          refine lv_bipush (v := 6) hx hb dd_M_show_142 (by decide) ?_
          refine va_put (D := D) (ci := 4) (v := .int (6 : Int32)) (ty := .int) (C := "OpenDealModel") (T := T_M) (N := 32) hx hb hk in_M ty_M tk_M nm_M hown hK hP hD hS 0 am_0 rfl 4 (by decide) (hk _ kw_541) (fun _ h9 => h9) rfl (by decide +kernel) rfl rfl (Nat.le_of_ble_eq_true rfl) dd_M_show_144 (fun H locs hP hD hS => ?_)
          rw [pt_M4] at hP hD
          refine lv_iconst (v := 1) hx hb dd_M_show_147 (by decide) ?_
          obtain rfl := Option.some.inj h
          exact W.zret hx hb hr rfl (fun t ht hW => ⟨⟨_, (), rfl, rfl, by rw [ht]; exact hP, va_K.moved hW.alike hK, hD⟩, hS.F ht⟩) hS.2.2 dd_M_show_148
      · have h := in_out hc1 h
        refine lv_iload_n hx hb dd_M_show_112 rfl (lv_at hl 2 rfl) ?_
        refine lv_if_eq (tgt := 129) hx hb dd_M_show_113 (by decide) (fun hc3 => ?_) (fun hc3 => ?_)
        · have h := ip_out hc3 h
          refine lv_iconst (v := 0) hx hb dd_M_show_129 (by decide) ?_
          refine lv_istore_n (lv' := [(2, .int (0 : Int32)), (0, .ref (ad 0)), (1, .int v1), (3, .int v3)]) hx hb dd_M_show_130 rfl hl (by decide) rfl (fun ls hl => ?_)
          refine lv_iinc (v := v3 + (1 : Int32)) (lv' := [(3, .int (v3 + (1 : Int32))), (2, .int (0 : Int32)), (0, .ref (ad 0)), (1, .int v1)]) hx hb dd_M_show_131 hl (k := 3) rfl rfl (by decide) rfl (fun ls hl => ?_)
          refine lv_goto (tgt := 104) hx hb dd_M_show_134 (by decide) ?_
          exact ih _ _ _ _ _ h _ _ hP hD hS _ (lv_sub hl [2, 3, 1, 0] rfl)
        · have h := in_out hc3 h
          refine lv_aload_n hx hb dd_M_show_116 rfl (lv_at hl 0 rfl) ?_
          refine va_get (D := D) (ci := 4) (v := .ref (ad 7)) (C := "OpenDealModel") (T := T_M) (N := 32) hx hb hk in_M hown hK hP 0 am_0 rfl 11 (by decide) (hk _ kw_548) (fun _ h9 => h9) rfl dd_M_show_117 ?_
          refine lv_iload_n hx hb dd_M_show_120 rfl (lv_at hl 3 rfl) ?_
          obtain ⟨hi4, h⟩ := oi_out h
          refine va_zald hx hb hK hP 7 2 am_7 rfl hi4 dd_M_show_121 ?_
          refine lv_if_eq (tgt := 129) hx hb dd_M_show_122 (by decide) (fun hc5 => ?_) (fun hc5 => ?_)
          · have h := ip_out hc5 h
            refine lv_iconst (v := 0) hx hb dd_M_show_129 (by decide) ?_
            refine lv_istore_n (lv' := [(2, .int (0 : Int32)), (0, .ref (ad 0)), (1, .int v1), (3, .int v3)]) hx hb dd_M_show_130 rfl hl (by decide) rfl (fun ls hl => ?_)
            refine lv_iinc (v := v3 + (1 : Int32)) (lv' := [(3, .int (v3 + (1 : Int32))), (2, .int (0 : Int32)), (0, .ref (ad 0)), (1, .int v1)]) hx hb dd_M_show_131 hl (k := 3) rfl rfl (by decide) rfl (fun ls hl => ?_)
            refine lv_goto (tgt := 104) hx hb dd_M_show_134 (by decide) ?_
            exact ih _ _ _ _ _ h _ _ hP hD hS _ (lv_sub hl [2, 3, 1, 0] rfl)
          · have h := in_out hc5 h
            refine lv_iconst (v := 1) hx hb dd_M_show_125 (by decide) ?_
            refine lv_goto (tgt := 130) hx hb dd_M_show_126 (by decide) ?_
            refine lv_istore_n (lv' := [(2, .int (1 : Int32)), (0, .ref (ad 0)), (1, .int v1), (3, .int v3)]) hx hb dd_M_show_130 rfl hl (by decide) rfl (fun ls hl => ?_)
            refine lv_iinc (v := v3 + (1 : Int32)) (lv' := [(3, .int (v3 + (1 : Int32))), (2, .int (1 : Int32)), (0, .ref (ad 0)), (1, .int v1)]) hx hb dd_M_show_131 hl (k := 3) rfl rfl (by decide) rfl (fun ls hl => ?_)
            refine lv_goto (tgt := 104) hx hb dd_M_show_134 (by decide) ?_
            exact ih _ _ _ _ _ h _ _ hP hD hS _ (lv_sub hl [2, 3, 1, 0] rfl)
  have L72 : ∀  (n : Nat) (I : MI) (J : MJ) (v1 : Int32) (s1 : Int32) (s2 : Int32), ff_M_show_72 n I J v1 s1 s2 = some r → ∀ (H : Heap) (locs : List Loc), va_P D cls5 (wM kc ad I J) H → va_D A (wM kc ad I J) → va_S A s.heap H locs → ∀ ls, lv_has ls 4 [(0, .ref (ad 0)), (1, .int v1)] → W p l e (headSpec (.code yy_M_show cc_M_show 4 (some .boolean) :: kw) { frames := 2, cells := 0, slots := 0, locals := 43 }).room s m ([.ref (ad 0), .int a1] : List Value).toArray below meth c H locs 0 0 (MQ below (va_Qi (fun z (_ : Unit) => z = r.1) (EW D kc A (wM kc ad r.2.1 r.2.2)) A) ([.ref (ad 0), .int a1] : List Value).toArray s 0 0 A) (F0 m 72 ls [.int s2, .int s1, .ref (ad 8)]) := by
    intro  n I J v1 s1 s2 h H locs hP hD hS ls hl
    unfold ff_M_show_72 at h
    obtain ⟨hi6, h⟩ := oi_out h
    refine va_iast hx hb hK hP hD hS 8 0 am_8 rfl (x := s2) hi6 dd_M_show_72 (fun H locs hP hD hS => ?_)
    rw [pm_8] at hP hD
    refine lv_aload_n hx hb dd_M_show_73 rfl (lv_at hl 0 rfl) ?_
    refine va_get (D := D) (ci := 4) (v := .ref (ad 9)) (C := "OpenDealModel") (T := T_M) (N := 32) hx hb hk in_M hown hK hP 0 am_0 rfl 13 (by decide) (hk _ kw_550) (fun _ h9 => h9) rfl dd_M_show_74 ?_
    refine lv_iload_n hx hb dd_M_show_77 rfl (lv_at hl 1 rfl) ?_
    refine lv_aload_n hx hb dd_M_show_78 rfl (lv_at hl 0 rfl) ?_
    refine va_get (D := D) (ci := 4) (v := .ref (ad 5)) (C := "OpenDealModel") (T := T_M) (N := 32) hx hb hk in_M hown hK hP 0 am_0 rfl 9 (by decide) (hk _ kw_546) (fun _ h9 => h9) rfl dd_M_show_79 ?_
    refine lv_iload_n hx hb dd_M_show_82 rfl (lv_at hl 1 rfl) ?_
    obtain ⟨hi7, h⟩ := oi_out h
    refine va_lald hx hb hK hP 5 1 am_5 rfl hi7 dd_M_show_83 ?_
    refine lv_aload_n hx hb dd_M_show_84 rfl (lv_at hl 0 rfl) ?_
    refine va_get (D := D) (ci := 4) (v := .ref (ad 14)) (C := "OpenDealModel") (T := T_M) (N := 32) hx hb hk in_M hown hK hP 0 am_0 rfl 18 (by decide) (hk _ kw_555) (fun _ h9 => h9) rfl dd_M_show_85 ?_
    refine lv_iload_n hx hb dd_M_show_88 rfl (lv_at hl 1 rfl) ?_
    obtain ⟨hi8, h⟩ := oi_out h
    refine va_zald hx hb hK hP 14 2 am_14 rfl hi8 dd_M_show_89 ?_
    refine lv_if_eq (tgt := 97) hx hb dd_M_show_90 (by decide) (fun hc9 => ?_) (fun hc9 => ?_)
    · have h := ip_out hc9 h
      refine lv_lconst (v := 0) hx hb dd_M_show_97 (by decide) ?_
      refine lv_ladd hx hb dd_M_show_98 ?_
      obtain ⟨hi10, h⟩ := oi_out h
      refine va_last hx hb hK hP hD hS 9 1 am_9 rfl (x := (J 5 (v1).toNatClampNeg) + (0 : Int64)) hi10 dd_M_show_99 (fun H locs hP hD hS => ?_)
      rw [pm_9] at hP hD
      refine lv_iconst (v := 1) hx hb dd_M_show_100 (by decide) ?_
      refine lv_istore_n (lv' := [(2, .int (1 : Int32)), (0, .ref (ad 0)), (1, .int v1)]) hx hb dd_M_show_101 rfl hl (by decide) rfl (fun ls hl => ?_)
      refine lv_iconst (v := 0) hx hb dd_M_show_102 (by decide) ?_
      refine lv_istore_n (lv' := [(3, .int (0 : Int32)), (2, .int (1 : Int32)), (0, .ref (ad 0)), (1, .int v1)]) hx hb dd_M_show_103 rfl hl (by decide) rfl (fun ls hl => ?_)
      exact L104  _ _ _ _ _ _ h _ _ hP hD hS _ (lv_sub hl [2, 3, 1, 0] rfl)
    · have h := in_out hc9 h
      refine lv_lconst (v := 1) hx hb dd_M_show_93 (by decide) ?_
      refine lv_goto (tgt := 98) hx hb dd_M_show_94 (by decide) ?_
      refine lv_ladd hx hb dd_M_show_98 ?_
      obtain ⟨hi11, h⟩ := oi_out h
      refine va_last hx hb hK hP hD hS 9 1 am_9 rfl (x := (J 5 (v1).toNatClampNeg) + (1 : Int64)) hi11 dd_M_show_99 (fun H locs hP hD hS => ?_)
      rw [pm_9] at hP hD
      refine lv_iconst (v := 1) hx hb dd_M_show_100 (by decide) ?_
      refine lv_istore_n (lv' := [(2, .int (1 : Int32)), (0, .ref (ad 0)), (1, .int v1)]) hx hb dd_M_show_101 rfl hl (by decide) rfl (fun ls hl => ?_)
      refine lv_iconst (v := 0) hx hb dd_M_show_102 (by decide) ?_
      refine lv_istore_n (lv' := [(3, .int (0 : Int32)), (2, .int (1 : Int32)), (0, .ref (ad 0)), (1, .int v1)]) hx hb dd_M_show_103 rfl hl (by decide) rfl (fun ls hl => ?_)
      exact L104  _ _ _ _ _ _ h _ _ hP hD hS _ (lv_sub hl [2, 3, 1, 0] rfl)
  have hl := lv_entry ([.ref (ad 0), .int a1]) (n := 4) (Nat.le_of_ble_eq_true rfl)
  rw [lg_entry_eq]
  generalize (lg_sl ([.ref (ad 0), .int a1]) ++ List.replicate (4 - (lg_sl ([.ref (ad 0), .int a1])).length) Slot.unset).toArray = ls at hl ⊢
  have hl : lv_has ls 4 [(0, .ref (ad 0)), (1, .int a1)] := hl
  unfold ff_M_show at h
  refine lv_aload_n hx hb dd_M_show_0 rfl (lv_at hl 0 rfl) ?_
  refine lv_iconst (v := 0) hx hb dd_M_show_1 (by decide) ?_
  refine va_put (D := D) (ci := 4) (v := .int (0 : Int32)) (ty := .int) (C := "OpenDealModel") (T := T_M) (N := 32) hx hb hk in_M ty_M tk_M nm_M hown hK hP hD hS 0 am_0 rfl 0 (by decide) (hk _ kw_537) (fun _ h9 => h9) rfl (by decide +kernel) rfl rfl (Nat.le_of_ble_eq_true rfl) dd_M_show_2 (fun H locs hP hD hS => ?_)
  rw [pt_M0] at hP hD
  refine lv_aload_n hx hb dd_M_show_5 rfl (lv_at hl 0 rfl) ?_
  refine lv_iload_n hx hb dd_M_show_6 rfl (lv_at hl 1 rfl) ?_
  obtain ⟨r12, hr12, h⟩ := ob_out h
  refine cr_Vi (n := 1) (As := [.int a1]) hx hb hml hown hk (mm_M_isPlayer l D kc ad _ _ _ _ _ hr12) hK hP 0 am_0 rfl rfl kw_664 kw_666 sel_M_isPlayer kw_4 kw_667 ⟨rfl, rfl⟩ (by decide +kernel) ⟨Nat.le_of_ble_eq_true rfl, Nat.le_of_ble_eq_true rfl⟩ rfl hl.1 rfl (Nat.le_of_ble_eq_true rfl) dd_M_show_7 ⟨Nat.le_of_ble_eq_true rfl, Nat.le_of_ble_eq_true rfl⟩ ?_
  refine lv_if_eq (tgt := 30) hx hb dd_M_show_10 (by decide) (fun hc13 => ?_) (fun hc13 => ?_)
  · have h := ip_out hc13 h
    refine lv_iconst (v := 0) hx hb dd_M_show_30 (by decide) ?_
    obtain rfl := Option.some.inj h
    exact W.zret hx hb hr rfl (fun t ht hW => ⟨⟨_, (), rfl, rfl, by rw [ht]; exact hP, va_K.moved hW.alike hK, hD⟩, hS.F ht⟩) hS.2.2 dd_M_show_31
  · have h := in_out hc13 h
    refine lv_aload_n hx hb dd_M_show_13 rfl (lv_at hl 0 rfl) ?_
    refine va_get (D := D) (ci := 4) (v := .int ((ui I0 0 0 (0 : Int32)) 0 4)) (C := "OpenDealModel") (T := T_M) (N := 32) hx hb hk in_M hown hK hP 0 am_0 rfl 4 (by decide) (hk _ kw_541) (fun _ h9 => h9) rfl dd_M_show_14 ?_
    refine lv_iconst (v := 5) hx hb dd_M_show_17 (by decide) ?_
    refine lv_icmp_ne (tgt := 30) hx hb dd_M_show_18 (by decide) (fun hc14 => ?_) (fun hc14 => ?_)
    · have h := in_out hc14 h
      refine lv_iconst (v := 0) hx hb dd_M_show_30 (by decide) ?_
      obtain rfl := Option.some.inj h
      exact W.zret hx hb hr rfl (fun t ht hW => ⟨⟨_, (), rfl, rfl, by rw [ht]; exact hP, va_K.moved hW.alike hK, hD⟩, hS.F ht⟩) hS.2.2 dd_M_show_31
    · have h := ip_out hc14 h
      refine lv_aload_n hx hb dd_M_show_21 rfl (lv_at hl 0 rfl) ?_
      refine va_get (D := D) (ci := 4) (v := .ref (ad 7)) (C := "OpenDealModel") (T := T_M) (N := 32) hx hb hk in_M hown hK hP 0 am_0 rfl 11 (by decide) (hk _ kw_548) (fun _ h9 => h9) rfl dd_M_show_22 ?_
      refine lv_iload_n hx hb dd_M_show_25 rfl (lv_at hl 1 rfl) ?_
      obtain ⟨hi15, h⟩ := oi_out h
      refine va_zald hx hb hK hP 7 2 am_7 rfl hi15 dd_M_show_26 ?_
      refine lv_if_eq (tgt := 32) hx hb dd_M_show_27 (by decide) (fun hc16 => ?_) (fun hc16 => ?_)
      · have h := ip_out hc16 h
        refine lv_aload_n hx hb dd_M_show_32 rfl (lv_at hl 0 rfl) ?_
        refine va_get (D := D) (ci := 4) (v := .ref (ad 7)) (C := "OpenDealModel") (T := T_M) (N := 32) hx hb hk in_M hown hK hP 0 am_0 rfl 11 (by decide) (hk _ kw_548) (fun _ h9 => h9) rfl dd_M_show_33 ?_
        refine lv_iload_n hx hb dd_M_show_36 rfl (lv_at hl 1 rfl) ?_
        refine lv_iconst (v := 1) hx hb dd_M_show_37 (by decide) ?_
        obtain ⟨hi17, h⟩ := oi_out h
        refine va_zast hx hb hK hP hD hS 7 2 am_7 rfl (x := (1 : Int32)) hi17 dd_M_show_38 (fun H locs hP hD hS => ?_)
        rw [show vp_nar .boolean (1 : Int32) = (1 : Int32) from rfl] at hP hD
        rw [pm_7] at hP hD
        refine lv_aload_n hx hb dd_M_show_39 rfl (lv_at hl 0 rfl) ?_
        refine va_get (D := D) (ci := 4) (v := .ref (ad 8)) (C := "OpenDealModel") (T := T_M) (N := 32) hx hb hk in_M hown hK hP 0 am_0 rfl 12 (by decide) (hk _ kw_549) (fun _ h9 => h9) rfl dd_M_show_40 ?_
        refine lv_iload_n hx hb dd_M_show_43 rfl (lv_at hl 1 rfl) ?_
        refine lv_aload_n hx hb dd_M_show_44 rfl (lv_at hl 0 rfl) ?_
        refine va_get (D := D) (ci := 4) (v := .ref (ad 13)) (C := "OpenDealModel") (T := T_M) (N := 32) hx hb hk in_M hown hK hP 0 am_0 rfl 17 (by decide) (hk _ kw_554) (fun _ h9 => h9) rfl dd_M_show_45 ?_
        refine lv_iload_n hx hb dd_M_show_48 rfl (lv_at hl 1 rfl) ?_
        obtain ⟨hi18, h⟩ := oi_out h
        refine va_zald hx hb hK hP 13 2 am_13 rfl hi18 dd_M_show_49 ?_
        refine lv_if_eq (tgt := 66) hx hb dd_M_show_50 (by decide) (fun hc19 => ?_) (fun hc19 => ?_)
        · have h := ip_out hc19 h
          refine lv_aload_n hx hb dd_M_show_66 rfl (lv_at hl 0 rfl) ?_
          refine va_get (D := D) (ci := 4) (v := .ref (ad 4)) (C := "OpenDealModel") (T := T_M) (N := 32) hx hb hk in_M hown hK hP 0 am_0 rfl 8 (by decide) (hk _ kw_545) (fun _ h9 => h9) rfl dd_M_show_67 ?_
          refine lv_iload_n hx hb dd_M_show_70 rfl (lv_at hl 1 rfl) ?_
          obtain ⟨hi20, h⟩ := oi_out h
          refine va_iald hx hb hK hP 4 0 am_4 rfl hi20 dd_M_show_71 ?_
          exact L72  _ _ _ _ _ _ h _ _ hP hD hS _ (lv_sub hl [0, 1] rfl)
        · have h := in_out hc19 h
          refine lv_aload_n hx hb dd_M_show_53 rfl (lv_at hl 0 rfl) ?_
          refine lv_aload_n hx hb dd_M_show_54 rfl (lv_at hl 0 rfl) ?_
          refine va_get (D := D) (ci := 4) (v := .ref (ad 4)) (C := "OpenDealModel") (T := T_M) (N := 32) hx hb hk in_M hown hK hP 0 am_0 rfl 8 (by decide) (hk _ kw_545) (fun _ h9 => h9) rfl dd_M_show_55 ?_
          refine lv_iload_n hx hb dd_M_show_58 rfl (lv_at hl 1 rfl) ?_
          obtain ⟨hi21, h⟩ := oi_out h
          refine va_iald hx hb hK hP 4 0 am_4 rfl hi21 dd_M_show_59 ?_
          obtain ⟨r22, hr22, h⟩ := ob_out h
          refine cr_Vi (n := 1) (As := [.int ((ui (ui I0 0 0 (0 : Int32)) 7 (a1).toNatClampNeg (1 : Int32)) 4 (a1).toNatClampNeg)]) hx hb hml hown hk (mm_M_leastAbove l D kc ad _ _ _ _ _ hr22) hK hP 0 am_0 rfl rfl kw_741 kw_743 sel_M_leastAbove kw_4 kw_744 ⟨rfl, rfl⟩ (by decide +kernel) ⟨Nat.le_of_ble_eq_true rfl, Nat.le_of_ble_eq_true rfl⟩ rfl hl.1 rfl (Nat.le_of_ble_eq_true rfl) dd_M_show_60 ⟨Nat.le_of_ble_eq_true rfl, Nat.le_of_ble_eq_true rfl⟩ ?_
          refine lv_goto (tgt := 72) hx hb dd_M_show_63 (by decide) ?_
          exact L72  _ _ _ _ _ _ h _ _ hP hD hS _ (lv_sub hl [0, 1] rfl)
      · have h := in_out hc16 h
        refine lv_iconst (v := 0) hx hb dd_M_show_30 (by decide) ?_
        obtain rfl := Option.some.inj h
        exact W.zret hx hb hr rfl (fun t ht hW => ⟨⟨_, (), rfl, rfl, by rw [ht]; exact hP, va_K.moved hW.alike hK, hD⟩, hS.F ht⟩) hS.2.2 dd_M_show_31
def ff_M_fitsLocked_12  : Nat → MI → MJ → Int32 → Int32 → Option (Int32 × MI × MJ)
  | 0, _, _, _, _ => none
  | n + 1, I, J, v1, v2 => if (52 : Int32) ≤ v2 then (some ((1 : Int32), I, J)) else (if ¬ ((((52 : Int32) * (v1 + (1 : Int32))) + v2) < 0 ∨ 468 ≤ (((52 : Int32) * (v1 + (1 : Int32))) + v2).toNatClampNeg) then if ¬ (v1 < 0 ∨ 4 ≤ (v1).toNatClampNeg) then (ff_M_lockedAt n I J v1 v2 (I 8 (v1).toNatClampNeg)).bind fun r4 => if (I 15 (((52 : Int32) * (v1 + (1 : Int32))) + v2).toNatClampNeg) = r4 then (ff_M_fitsLocked_12 n I J v1 (v2 + (1 : Int32))) else (some ((0 : Int32), I, J)) else none else none)
def ff_M_fitsLocked (n : Nat) (I : MI) (J : MJ) (a1 : Int32) : Option (Int32 × MI × MJ) := if ¬ (a1 < 0 ∨ 4 ≤ (a1).toNatClampNeg) then (ff_M_makeOrder n I J (J 9 (a1).toNatClampNeg)).bind fun r7 => ff_M_fitsLocked_12 n r7.1 r7.2 a1 (0 : Int32) else none
set_option maxHeartbeats 4000000 in
set_option maxRecDepth 100000 in
theorem mm_M_fitsLocked (l : Launch) (D : va_G) (kc : Nat → ClassId) (ad : Nat → Nat) (I0 : MI) (J0 : MJ) (sz n : Nat) (a1 : Int32) (r : Int32 × MI × MJ) (h : ff_M_fitsLocked n I0 J0 a1 = some r) : Met l yy_M_fitsLocked (.code yy_M_fitsLocked cc_M_fitsLocked 3 (some .boolean) :: kw) { frames := 2, cells := 0, slots := 0, locals := 50 } (va_Pc [.ref (ad 0), .int a1] (BW D kc (wM kc ad I0 J0) sz)) (va_Qi (fun z (_ : Unit) => z = r.1) (EW D kc (va_A (wM kc ad I0 J0) sz) (wM kc ad r.2.1 r.2.2)) (va_A (wM kc ad I0 J0) sz)) 0 0 (va_A (wM kc ad I0 J0) sz) := by
  refine Met.ofW (cc := cc_M_fitsLocked) (maxL := 3) (ret := some .boolean) (by decide) rfl ?_
  intro p e s m args below meth c s₁ B hml hv
  obtain ⟨rfl, hsz, hP, hK, hD0⟩ := hv
  have hx := B.exec
  have hb := B.bytes
  have hr := B.returns
  have hlocks := B.notSynchronized
  have hk : ∀ w ∈ kw, w.before _ s = true := fun w hw => atoms_spec (ws := (.code yy_M_fitsLocked cc_M_fitsLocked 3 (some .boolean) :: kw)) B.pre w (List.mem_cons_of_mem _ hw)
  have hown : s.vm.findClass "OpenDealModel" = some m.cls := findClass_of_methodNamed B.named
  subst hsz
  have hD := hD0.self (sz := s.heap.size)
  generalize hAe : va_A (wM kc ad I0 J0) s.heap.size = A at hD ⊢
  have hA : ∀ q : Nat, s.heap.size ≤ q → A q := fun q h => by rw [← hAe]; exact Or.inr h
  have hS : va_S A s.heap s.heap [] := va_S.rf
  have hP : va_P D cls5 (wM kc ad I0 J0) s.heap := hP
  clear hAe hD0
  have L12 : ∀  (n : Nat) (I : MI) (J : MJ) (v1 : Int32) (v2 : Int32), ff_M_fitsLocked_12 n I J v1 v2 = some r → ∀ (H : Heap) (locs : List Loc), va_P D cls5 (wM kc ad I J) H → va_D A (wM kc ad I J) → va_S A s.heap H locs → ∀ ls, lv_has ls 3 [(0, .ref (ad 0)), (1, .int v1), (2, .int v2)] → W p l e (headSpec (.code yy_M_fitsLocked cc_M_fitsLocked 3 (some .boolean) :: kw) { frames := 2, cells := 0, slots := 0, locals := 50 }).room s m ([.ref (ad 0), .int a1] : List Value).toArray below meth c H locs 0 0 (MQ below (va_Qi (fun z (_ : Unit) => z = r.1) (EW D kc A (wM kc ad r.2.1 r.2.2)) A) ([.ref (ad 0), .int a1] : List Value).toArray s 0 0 A) (F0 m 12 ls []) := by
    intro  n
    induction n with
    | zero => intro I J v1 v2 h; exact absurd h (by simp [ff_M_fitsLocked_12])
    | succ n ih =>
      intro I J v1 v2 h H locs hP hD hS ls hl
      rw [ff_M_fitsLocked_12] at h
      refine lv_iload_n hx hb dd_M_fitsLocked_12 rfl (lv_at hl 2 rfl) ?_
      refine lv_bipush (v := 52) hx hb dd_M_fitsLocked_13 (by decide) ?_
      refine lv_icmp_ge (tgt := 54) hx hb dd_M_fitsLocked_15 (by decide) (fun hc1 => ?_) (fun hc1 => ?_)
      · have h := ip_out hc1 h
        refine lv_iconst (v := 1) hx hb dd_M_fitsLocked_54 (by decide) ?_
        obtain rfl := Option.some.inj h
        exact W.zret hx hb hr rfl (fun t ht hW => ⟨⟨_, (), rfl, rfl, by rw [ht]; exact hP, va_K.moved hW.alike hK, hD⟩, hS.F ht⟩) hS.2.2 dd_M_fitsLocked_55
      · have h := in_out hc1 h
        refine lv_aload_n hx hb dd_M_fitsLocked_18 rfl (lv_at hl 0 rfl) ?_
        refine va_get (D := D) (ci := 4) (v := .ref (ad 15)) (C := "OpenDealModel") (T := T_M) (N := 32) hx hb hk in_M hown hK hP 0 am_0 rfl 19 (by decide) (hk _ kw_556) (fun _ h9 => h9) rfl dd_M_fitsLocked_19 ?_
        refine lv_bipush (v := 52) hx hb dd_M_fitsLocked_22 (by decide) ?_
        refine lv_iload_n hx hb dd_M_fitsLocked_24 rfl (lv_at hl 1 rfl) ?_
        refine lv_iconst (v := 1) hx hb dd_M_fitsLocked_25 (by decide) ?_
        refine lv_iadd hx hb dd_M_fitsLocked_26 ?_
        refine lv_imul hx hb dd_M_fitsLocked_27 ?_
        refine lv_iload_n hx hb dd_M_fitsLocked_28 rfl (lv_at hl 2 rfl) ?_
        refine lv_iadd hx hb dd_M_fitsLocked_29 ?_
        obtain ⟨hi2, h⟩ := oi_out h
        refine va_iald hx hb hK hP 15 0 am_15 rfl hi2 dd_M_fitsLocked_30 ?_
        refine lv_aload_n hx hb dd_M_fitsLocked_31 rfl (lv_at hl 0 rfl) ?_
        refine lv_iload_n hx hb dd_M_fitsLocked_32 rfl (lv_at hl 1 rfl) ?_
        refine lv_iload_n hx hb dd_M_fitsLocked_33 rfl (lv_at hl 2 rfl) ?_
        refine lv_aload_n hx hb dd_M_fitsLocked_34 rfl (lv_at hl 0 rfl) ?_
        refine va_get (D := D) (ci := 4) (v := .ref (ad 8)) (C := "OpenDealModel") (T := T_M) (N := 32) hx hb hk in_M hown hK hP 0 am_0 rfl 12 (by decide) (hk _ kw_549) (fun _ h9 => h9) rfl dd_M_fitsLocked_35 ?_
        refine lv_iload_n hx hb dd_M_fitsLocked_38 rfl (lv_at hl 1 rfl) ?_
        obtain ⟨hi3, h⟩ := oi_out h
        refine va_iald hx hb hK hP 8 0 am_8 rfl hi3 dd_M_fitsLocked_39 ?_
        obtain ⟨r4, hr4, h⟩ := ob_out h
        refine cr_Vi (n := 3) (As := [.int v1, .int v2, .int (I 8 (v1).toNatClampNeg)]) hx hb hml hown hk (mm_M_lockedAt l D kc ad _ _ _ _ _ _ _ hr4) hK hP 0 am_0 rfl rfl kw_703 kw_705 sel_M_lockedAt kw_4 kw_706 ⟨rfl, rfl⟩ (by decide +kernel) ⟨Nat.le_of_ble_eq_true rfl, Nat.le_of_ble_eq_true rfl⟩ rfl hl.1 rfl (Nat.le_of_ble_eq_true rfl) dd_M_fitsLocked_40 ⟨Nat.le_of_ble_eq_true rfl, Nat.le_of_ble_eq_true rfl⟩ ?_
        refine lv_icmp_eq (tgt := 48) hx hb dd_M_fitsLocked_43 (by decide) (fun hc5 => ?_) (fun hc5 => ?_)
        · have h := ip_out hc5 h
          refine lv_iinc (v := v2 + (1 : Int32)) (lv' := [(2, .int (v2 + (1 : Int32))), (0, .ref (ad 0)), (1, .int v1)]) hx hb dd_M_fitsLocked_48 hl (k := 2) rfl rfl (by decide) rfl (fun ls hl => ?_)
          refine lv_goto (tgt := 12) hx hb dd_M_fitsLocked_51 (by decide) ?_
          exact ih _ _ _ _ h _ _ hP hD hS _ (lv_sub hl [1, 2, 0] rfl)
        · have h := in_out hc5 h
          refine lv_iconst (v := 0) hx hb dd_M_fitsLocked_46 (by decide) ?_
          obtain rfl := Option.some.inj h
          exact W.zret hx hb hr rfl (fun t ht hW => ⟨⟨_, (), rfl, rfl, by rw [ht]; exact hP, va_K.moved hW.alike hK, hD⟩, hS.F ht⟩) hS.2.2 dd_M_fitsLocked_47
  have hl := lv_entry ([.ref (ad 0), .int a1]) (n := 3) (Nat.le_of_ble_eq_true rfl)
  rw [lg_entry_eq]
  generalize (lg_sl ([.ref (ad 0), .int a1]) ++ List.replicate (3 - (lg_sl ([.ref (ad 0), .int a1])).length) Slot.unset).toArray = ls at hl ⊢
  have hl : lv_has ls 3 [(0, .ref (ad 0)), (1, .int a1)] := hl
  unfold ff_M_fitsLocked at h
  refine lv_aload_n hx hb dd_M_fitsLocked_0 rfl (lv_at hl 0 rfl) ?_
  refine lv_aload_n hx hb dd_M_fitsLocked_1 rfl (lv_at hl 0 rfl) ?_
  refine va_get (D := D) (ci := 4) (v := .ref (ad 9)) (C := "OpenDealModel") (T := T_M) (N := 32) hx hb hk in_M hown hK hP 0 am_0 rfl 13 (by decide) (hk _ kw_550) (fun _ h9 => h9) rfl dd_M_fitsLocked_2 ?_
  refine lv_iload_n hx hb dd_M_fitsLocked_5 rfl (lv_at hl 1 rfl) ?_
  obtain ⟨hi6, h⟩ := oi_out h
  refine va_lald hx hb hK hP 9 1 am_9 rfl hi6 dd_M_fitsLocked_6 ?_
  obtain ⟨r7, hr7, h⟩ := ob_out h
  refine cw_Vv (n := 1) (As := [.long (J0 9 (a1).toNatClampNeg)]) (mc := 0) (ms := 0) hx hb hml hown hk (mm_M_makeOrder l D kc ad _ _ _ _ _ _ hr7) hK hP hD hS hA 0 am_0 rfl rfl kw_689 kw_691 sel_M_makeOrder kw_4 kw_692 ⟨rfl, rfl⟩ (by decide +kernel) ⟨Nat.le_of_ble_eq_true rfl, Nat.le_of_ble_eq_true rfl⟩ rfl hl.1 rfl (Nat.le_of_ble_eq_true rfl) dd_M_fitsLocked_7 ⟨Nat.le_of_ble_eq_true rfl, Nat.le_of_ble_eq_true rfl⟩ (fun H locs hP hD hS => ?_)
  refine lv_iconst (v := 0) hx hb dd_M_fitsLocked_10 (by decide) ?_
  refine lv_istore_n (lv' := [(2, .int (0 : Int32)), (0, .ref (ad 0)), (1, .int a1)]) hx hb dd_M_fitsLocked_11 rfl hl (by decide) rfl (fun ls hl => ?_)
  exact L12  _ _ _ _ _ h _ _ hP hD hS _ (lv_sub hl [1, 2, 0] rfl)
def ff_M_fitsRelocked_12  : Nat → MI → MJ → Int32 → Int32 → Option (Int32 × MI × MJ)
  | 0, _, _, _, _ => none
  | n + 1, I, J, v1, v2 => if (52 : Int32) ≤ v2 then (some ((1 : Int32), I, J)) else (if ¬ ((((52 : Int32) * (((I 0 3) + v1) + (1 : Int32))) + v2) < 0 ∨ 468 ≤ (((52 : Int32) * (((I 0 3) + v1) + (1 : Int32))) + v2).toNatClampNeg) then if ¬ (v1 < 0 ∨ 4 ≤ (v1).toNatClampNeg) then (ff_M_relockedAt n I J ((I 0 3) + v1) v2 (I 8 (v1).toNatClampNeg)).bind fun r4 => if (I 15 (((52 : Int32) * (((I 0 3) + v1) + (1 : Int32))) + v2).toNatClampNeg) = r4 then (ff_M_fitsRelocked_12 n I J v1 (v2 + (1 : Int32))) else (some ((0 : Int32), I, J)) else none else none)
def ff_M_fitsRelocked (n : Nat) (I : MI) (J : MJ) (a1 : Int32) : Option (Int32 × MI × MJ) := if ¬ (a1 < 0 ∨ 4 ≤ (a1).toNatClampNeg) then (ff_M_makeLocks n I J (J 6 (a1).toNatClampNeg)).bind fun r7 => ff_M_fitsRelocked_12 n r7.1 r7.2 a1 (0 : Int32) else none
set_option maxHeartbeats 4000000 in
set_option maxRecDepth 100000 in
theorem mm_M_fitsRelocked (l : Launch) (D : va_G) (kc : Nat → ClassId) (ad : Nat → Nat) (I0 : MI) (J0 : MJ) (sz n : Nat) (a1 : Int32) (r : Int32 × MI × MJ) (h : ff_M_fitsRelocked n I0 J0 a1 = some r) : Met l yy_M_fitsRelocked (.code yy_M_fitsRelocked cc_M_fitsRelocked 3 (some .boolean) :: kw) { frames := 3, cells := 0, slots := 0, locals := 71 } (va_Pc [.ref (ad 0), .int a1] (BW D kc (wM kc ad I0 J0) sz)) (va_Qi (fun z (_ : Unit) => z = r.1) (EW D kc (va_A (wM kc ad I0 J0) sz) (wM kc ad r.2.1 r.2.2)) (va_A (wM kc ad I0 J0) sz)) 0 0 (va_A (wM kc ad I0 J0) sz) := by
  refine Met.ofW (cc := cc_M_fitsRelocked) (maxL := 3) (ret := some .boolean) (by decide) rfl ?_
  intro p e s m args below meth c s₁ B hml hv
  obtain ⟨rfl, hsz, hP, hK, hD0⟩ := hv
  have hx := B.exec
  have hb := B.bytes
  have hr := B.returns
  have hlocks := B.notSynchronized
  have hk : ∀ w ∈ kw, w.before _ s = true := fun w hw => atoms_spec (ws := (.code yy_M_fitsRelocked cc_M_fitsRelocked 3 (some .boolean) :: kw)) B.pre w (List.mem_cons_of_mem _ hw)
  have hown : s.vm.findClass "OpenDealModel" = some m.cls := findClass_of_methodNamed B.named
  subst hsz
  have hD := hD0.self (sz := s.heap.size)
  generalize hAe : va_A (wM kc ad I0 J0) s.heap.size = A at hD ⊢
  have hA : ∀ q : Nat, s.heap.size ≤ q → A q := fun q h => by rw [← hAe]; exact Or.inr h
  have hS : va_S A s.heap s.heap [] := va_S.rf
  have hP : va_P D cls5 (wM kc ad I0 J0) s.heap := hP
  clear hAe hD0
  have L12 : ∀  (n : Nat) (I : MI) (J : MJ) (v1 : Int32) (v2 : Int32), ff_M_fitsRelocked_12 n I J v1 v2 = some r → ∀ (H : Heap) (locs : List Loc), va_P D cls5 (wM kc ad I J) H → va_D A (wM kc ad I J) → va_S A s.heap H locs → ∀ ls, lv_has ls 3 [(0, .ref (ad 0)), (1, .int v1), (2, .int v2)] → W p l e (headSpec (.code yy_M_fitsRelocked cc_M_fitsRelocked 3 (some .boolean) :: kw) { frames := 3, cells := 0, slots := 0, locals := 71 }).room s m ([.ref (ad 0), .int a1] : List Value).toArray below meth c H locs 0 0 (MQ below (va_Qi (fun z (_ : Unit) => z = r.1) (EW D kc A (wM kc ad r.2.1 r.2.2)) A) ([.ref (ad 0), .int a1] : List Value).toArray s 0 0 A) (F0 m 12 ls []) := by
    intro  n
    induction n with
    | zero => intro I J v1 v2 h; exact absurd h (by simp [ff_M_fitsRelocked_12])
    | succ n ih =>
      intro I J v1 v2 h H locs hP hD hS ls hl
      rw [ff_M_fitsRelocked_12] at h
      refine lv_iload_n hx hb dd_M_fitsRelocked_12 rfl (lv_at hl 2 rfl) ?_
      refine lv_bipush (v := 52) hx hb dd_M_fitsRelocked_13 (by decide) ?_
      refine lv_icmp_ge (tgt := 64) hx hb dd_M_fitsRelocked_15 (by decide) (fun hc1 => ?_) (fun hc1 => ?_)
      · have h := ip_out hc1 h
        refine lv_iconst (v := 1) hx hb dd_M_fitsRelocked_64 (by decide) ?_
        obtain rfl := Option.some.inj h
        exact W.zret hx hb hr rfl (fun t ht hW => ⟨⟨_, (), rfl, rfl, by rw [ht]; exact hP, va_K.moved hW.alike hK, hD⟩, hS.F ht⟩) hS.2.2 dd_M_fitsRelocked_65
      · have h := in_out hc1 h
        refine lv_aload_n hx hb dd_M_fitsRelocked_18 rfl (lv_at hl 0 rfl) ?_
        refine va_get (D := D) (ci := 4) (v := .ref (ad 15)) (C := "OpenDealModel") (T := T_M) (N := 32) hx hb hk in_M hown hK hP 0 am_0 rfl 19 (by decide) (hk _ kw_556) (fun _ h9 => h9) rfl dd_M_fitsRelocked_19 ?_
        refine lv_bipush (v := 52) hx hb dd_M_fitsRelocked_22 (by decide) ?_
        refine lv_aload_n hx hb dd_M_fitsRelocked_24 rfl (lv_at hl 0 rfl) ?_
        refine va_get (D := D) (ci := 4) (v := .int (I 0 3)) (C := "OpenDealModel") (T := T_M) (N := 32) hx hb hk in_M hown hK hP 0 am_0 rfl 3 (by decide) (hk _ kw_540) (fun _ h9 => h9) rfl dd_M_fitsRelocked_25 ?_
        refine lv_iload_n hx hb dd_M_fitsRelocked_28 rfl (lv_at hl 1 rfl) ?_
        refine lv_iadd hx hb dd_M_fitsRelocked_29 ?_
        refine lv_iconst (v := 1) hx hb dd_M_fitsRelocked_30 (by decide) ?_
        refine lv_iadd hx hb dd_M_fitsRelocked_31 ?_
        refine lv_imul hx hb dd_M_fitsRelocked_32 ?_
        refine lv_iload_n hx hb dd_M_fitsRelocked_33 rfl (lv_at hl 2 rfl) ?_
        refine lv_iadd hx hb dd_M_fitsRelocked_34 ?_
        obtain ⟨hi2, h⟩ := oi_out h
        refine va_iald hx hb hK hP 15 0 am_15 rfl hi2 dd_M_fitsRelocked_35 ?_
        refine lv_aload_n hx hb dd_M_fitsRelocked_36 rfl (lv_at hl 0 rfl) ?_
        refine lv_aload_n hx hb dd_M_fitsRelocked_37 rfl (lv_at hl 0 rfl) ?_
        refine va_get (D := D) (ci := 4) (v := .int (I 0 3)) (C := "OpenDealModel") (T := T_M) (N := 32) hx hb hk in_M hown hK hP 0 am_0 rfl 3 (by decide) (hk _ kw_540) (fun _ h9 => h9) rfl dd_M_fitsRelocked_38 ?_
        refine lv_iload_n hx hb dd_M_fitsRelocked_41 rfl (lv_at hl 1 rfl) ?_
        refine lv_iadd hx hb dd_M_fitsRelocked_42 ?_
        refine lv_iload_n hx hb dd_M_fitsRelocked_43 rfl (lv_at hl 2 rfl) ?_
        refine lv_aload_n hx hb dd_M_fitsRelocked_44 rfl (lv_at hl 0 rfl) ?_
        refine va_get (D := D) (ci := 4) (v := .ref (ad 8)) (C := "OpenDealModel") (T := T_M) (N := 32) hx hb hk in_M hown hK hP 0 am_0 rfl 12 (by decide) (hk _ kw_549) (fun _ h9 => h9) rfl dd_M_fitsRelocked_45 ?_
        refine lv_iload_n hx hb dd_M_fitsRelocked_48 rfl (lv_at hl 1 rfl) ?_
        obtain ⟨hi3, h⟩ := oi_out h
        refine va_iald hx hb hK hP 8 0 am_8 rfl hi3 dd_M_fitsRelocked_49 ?_
        obtain ⟨r4, hr4, h⟩ := ob_out h
        refine cr_Vi (n := 3) (As := [.int ((I 0 3) + v1), .int v2, .int (I 8 (v1).toNatClampNeg)]) hx hb hml hown hk (mm_M_relockedAt l D kc ad _ _ _ _ _ _ _ hr4) hK hP 0 am_0 rfl rfl kw_710 kw_712 sel_M_relockedAt kw_4 kw_713 ⟨rfl, rfl⟩ (by decide +kernel) ⟨Nat.le_of_ble_eq_true rfl, Nat.le_of_ble_eq_true rfl⟩ rfl hl.1 rfl (Nat.le_of_ble_eq_true rfl) dd_M_fitsRelocked_50 ⟨Nat.le_of_ble_eq_true rfl, Nat.le_of_ble_eq_true rfl⟩ ?_
        refine lv_icmp_eq (tgt := 58) hx hb dd_M_fitsRelocked_53 (by decide) (fun hc5 => ?_) (fun hc5 => ?_)
        · have h := ip_out hc5 h
          refine lv_iinc (v := v2 + (1 : Int32)) (lv' := [(2, .int (v2 + (1 : Int32))), (0, .ref (ad 0)), (1, .int v1)]) hx hb dd_M_fitsRelocked_58 hl (k := 2) rfl rfl (by decide) rfl (fun ls hl => ?_)
          refine lv_goto (tgt := 12) hx hb dd_M_fitsRelocked_61 (by decide) ?_
          exact ih _ _ _ _ h _ _ hP hD hS _ (lv_sub hl [1, 2, 0] rfl)
        · have h := in_out hc5 h
          refine lv_iconst (v := 0) hx hb dd_M_fitsRelocked_56 (by decide) ?_
          obtain rfl := Option.some.inj h
          exact W.zret hx hb hr rfl (fun t ht hW => ⟨⟨_, (), rfl, rfl, by rw [ht]; exact hP, va_K.moved hW.alike hK, hD⟩, hS.F ht⟩) hS.2.2 dd_M_fitsRelocked_57
  have hl := lv_entry ([.ref (ad 0), .int a1]) (n := 3) (Nat.le_of_ble_eq_true rfl)
  rw [lg_entry_eq]
  generalize (lg_sl ([.ref (ad 0), .int a1]) ++ List.replicate (3 - (lg_sl ([.ref (ad 0), .int a1])).length) Slot.unset).toArray = ls at hl ⊢
  have hl : lv_has ls 3 [(0, .ref (ad 0)), (1, .int a1)] := hl
  unfold ff_M_fitsRelocked at h
  refine lv_aload_n hx hb dd_M_fitsRelocked_0 rfl (lv_at hl 0 rfl) ?_
  refine lv_aload_n hx hb dd_M_fitsRelocked_1 rfl (lv_at hl 0 rfl) ?_
  refine va_get (D := D) (ci := 4) (v := .ref (ad 6)) (C := "OpenDealModel") (T := T_M) (N := 32) hx hb hk in_M hown hK hP 0 am_0 rfl 10 (by decide) (hk _ kw_547) (fun _ h9 => h9) rfl dd_M_fitsRelocked_2 ?_
  refine lv_iload_n hx hb dd_M_fitsRelocked_5 rfl (lv_at hl 1 rfl) ?_
  obtain ⟨hi6, h⟩ := oi_out h
  refine va_lald hx hb hK hP 6 1 am_6 rfl hi6 dd_M_fitsRelocked_6 ?_
  obtain ⟨r7, hr7, h⟩ := ob_out h
  refine cw_Vv (n := 1) (As := [.long (J0 6 (a1).toNatClampNeg)]) (mc := 0) (ms := 0) hx hb hml hown hk (mm_M_makeLocks l D kc ad _ _ _ _ _ _ hr7) hK hP hD hS hA 0 am_0 rfl rfl kw_699 kw_701 sel_M_makeLocks kw_4 kw_702 ⟨rfl, rfl⟩ (by decide +kernel) ⟨Nat.le_of_ble_eq_true rfl, Nat.le_of_ble_eq_true rfl⟩ rfl hl.1 rfl (Nat.le_of_ble_eq_true rfl) dd_M_fitsRelocked_7 ⟨Nat.le_of_ble_eq_true rfl, Nat.le_of_ble_eq_true rfl⟩ (fun H locs hP hD hS => ?_)
  refine lv_iconst (v := 0) hx hb dd_M_fitsRelocked_10 (by decide) ?_
  refine lv_istore_n (lv' := [(2, .int (0 : Int32)), (0, .ref (ad 0)), (1, .int a1)]) hx hb dd_M_fitsRelocked_11 rfl hl (by decide) rfl (fun ls hl => ?_)
  exact L12  _ _ _ _ _ h _ _ hP hD hS _ (lv_sub hl [1, 2, 0] rfl)
def ff_M_audit_146 (k138 : MI → MJ → Int32 → Option (Int32 × MI × MJ)) : Nat → MI → MJ → Int32 → Int32 → Option (Int32 × MI × MJ)
  | 0, _, _, _, _ => none
  | n + 1, I, J, v1, v2 => if (I 0 3) ≤ v2 then (k138 I J (v1 + (1 : Int32))) else (if ¬ ((((52 : Int32) * v2) + v1) < 0 ∨ 208 ≤ (((52 : Int32) * v2) + v1).toNatClampNeg) then tl (I 19 (((52 : Int32) * v2) + v1).toNatClampNeg) fun y3 => if y3 = 0 then (ff_M_audit_146 k138 n I J v1 (v2 + (1 : Int32))) else ((ff_M_lockOf n I J v2 v1).bind fun r5 => if y3 = r5.1 then (ff_M_audit_146 k138 n r5.2.1 r5.2.2 v1 (v2 + (1 : Int32))) else (some (((16 : Int32) * v2) + (4 : Int32), r5.2.1, r5.2.2))) else none)
def ff_M_audit_138  : Nat → MI → MJ → Int32 → Option (Int32 × MI × MJ)
  | 0, _, _, _ => none
  | n + 1, I, J, v1 => if (52 : Int32) ≤ v1 then (some ((0 : Int32), I, J)) else (ff_M_audit_146 (ff_M_audit_138 n) n I J v1 (0 : Int32))
def ff_M_audit_107  : Nat → MI → MJ → Int32 → Option (Int32 × MI × MJ)
  | 0, _, _, _ => none
  | n + 1, I, J, v1 => if (I 0 3) ≤ v1 then (ff_M_audit_138 n I J (0 : Int32)) else ((ff_M_fitsRelocked n I J v1).bind fun r9 => if r9.1 = 0 then (some (((16 : Int32) * v1) + (3 : Int32), r9.2.1, r9.2.2)) else (ff_M_audit_107 n r9.2.1 r9.2.2 (v1 + (1 : Int32))))
def ff_M_audit_76  : Nat → MI → MJ → Int32 → Option (Int32 × MI × MJ)
  | 0, _, _, _ => none
  | n + 1, I, J, v1 => if (I 0 3) ≤ v1 then (ff_M_audit_107 n I J (0 : Int32)) else ((ff_M_fitsLocked n I J v1).bind fun r12 => if r12.1 = 0 then (some (((16 : Int32) * v1) + (2 : Int32), r12.2.1, r12.2.2)) else (ff_M_audit_76 n r12.2.1 r12.2.2 (v1 + (1 : Int32))))
def ff_M_audit_22  : Nat → MI → MJ → Int32 → Option (Int32 × MI × MJ)
  | 0, _, _, _ => none
  | n + 1, I, J, v1 => if (I 0 3) ≤ v1 then (ff_M_audit_76 n I J (0 : Int32)) else (if ¬ (v1 < 0 ∨ 4 ≤ (v1).toNatClampNeg) then if ¬ (v1 < 0 ∨ 4 ≤ (v1).toNatClampNeg) then if ¬ (v1 < 0 ∨ 4 ≤ (v1).toNatClampNeg) then if ¬ (v1 < 0 ∨ 4 ≤ (v1).toNatClampNeg) then (ff_M_sealOf n (I 8 (v1).toNatClampNeg) (J 9 (v1).toNatClampNeg) (J 6 (v1).toNatClampNeg)).bind fun r19 => if (lg_cmp (J 3 (v1).toNatClampNeg) r19) = 0 then (ff_M_audit_22 n I J (v1 + (1 : Int32))) else (some (((16 : Int32) * v1) + (1 : Int32), I, J)) else none else none else none else none)
def ff_M_audit (n : Nat) (I : MI) (J : MJ)  : Option (Int32 × MI × MJ) := if (I 0 4) = (6 : Int32) then (ff_M_audit_22 n (ui I 0 0 (0 : Int32)) J (0 : Int32)) else ((ff_M_raise n I J (1 : Int32)).bind fun r22 => some (r22.1, r22.2.1, r22.2.2))
set_option maxHeartbeats 4000000 in
set_option maxRecDepth 100000 in
theorem mm_M_audit (l : Launch) (D : va_G) (kc : Nat → ClassId) (ad : Nat → Nat) (I0 : MI) (J0 : MJ) (sz n : Nat)  (r : Int32 × MI × MJ) (h : ff_M_audit n I0 J0  = some r) : Met l yy_M_audit (.code yy_M_audit cc_M_audit 4 (some .int) :: kw) { frames := 4, cells := 0, slots := 0, locals := 93 } (va_Pc [.ref (ad 0)] (BW D kc (wM kc ad I0 J0) sz)) (va_Qi (fun z (_ : Unit) => z = r.1) (EW D kc (va_A (wM kc ad I0 J0) sz) (wM kc ad r.2.1 r.2.2)) (va_A (wM kc ad I0 J0) sz)) 0 0 (va_A (wM kc ad I0 J0) sz) := by
  refine Met.ofW (cc := cc_M_audit) (maxL := 4) (ret := some .int) (by decide) rfl ?_
  intro p e s m args below meth c s₁ B hml hv
  obtain ⟨rfl, hsz, hP, hK, hD0⟩ := hv
  have hx := B.exec
  have hb := B.bytes
  have hr := B.returns
  have hlocks := B.notSynchronized
  have hk : ∀ w ∈ kw, w.before _ s = true := fun w hw => atoms_spec (ws := (.code yy_M_audit cc_M_audit 4 (some .int) :: kw)) B.pre w (List.mem_cons_of_mem _ hw)
  have hown : s.vm.findClass "OpenDealModel" = some m.cls := findClass_of_methodNamed B.named
  subst hsz
  have hD := hD0.self (sz := s.heap.size)
  generalize hAe : va_A (wM kc ad I0 J0) s.heap.size = A at hD ⊢
  have hA : ∀ q : Nat, s.heap.size ≤ q → A q := fun q h => by rw [← hAe]; exact Or.inr h
  have hS : va_S A s.heap s.heap [] := va_S.rf
  have hP : va_P D cls5 (wM kc ad I0 J0) s.heap := hP
  clear hAe hD0
  have L146 : ∀ (k138 : MI → MJ → Int32 → Option (Int32 × MI × MJ)) (hk138 : ∀ (I : MI) (J : MJ) (v1 : Int32), k138 I J v1 = some r → ∀ (H : Heap) (locs : List Loc), va_P D cls5 (wM kc ad I J) H → va_D A (wM kc ad I J) → va_S A s.heap H locs → ∀ ls, lv_has ls 4 [(0, .ref (ad 0)), (1, .int v1)] → W p l e (headSpec (.code yy_M_audit cc_M_audit 4 (some .int) :: kw) { frames := 4, cells := 0, slots := 0, locals := 93 }).room s m ([.ref (ad 0)] : List Value).toArray below meth c H locs 0 0 (MQ below (va_Qi (fun z (_ : Unit) => z = r.1) (EW D kc A (wM kc ad r.2.1 r.2.2)) A) ([.ref (ad 0)] : List Value).toArray s 0 0 A) (F0 m 138 ls [])) (n : Nat) (I : MI) (J : MJ) (v1 : Int32) (v2 : Int32), ff_M_audit_146 k138 n I J v1 v2 = some r → ∀ (H : Heap) (locs : List Loc), va_P D cls5 (wM kc ad I J) H → va_D A (wM kc ad I J) → va_S A s.heap H locs → ∀ ls, lv_has ls 4 [(0, .ref (ad 0)), (1, .int v1), (2, .int v2)] → W p l e (headSpec (.code yy_M_audit cc_M_audit 4 (some .int) :: kw) { frames := 4, cells := 0, slots := 0, locals := 93 }).room s m ([.ref (ad 0)] : List Value).toArray below meth c H locs 0 0 (MQ below (va_Qi (fun z (_ : Unit) => z = r.1) (EW D kc A (wM kc ad r.2.1 r.2.2)) A) ([.ref (ad 0)] : List Value).toArray s 0 0 A) (F0 m 146 ls []) := by
    intro k138 hk138 n
    induction n with
    | zero => intro I J v1 v2 h; exact absurd h (by simp [ff_M_audit_146])
    | succ n ih =>
      intro I J v1 v2 h H locs hP hD hS ls hl
      rw [ff_M_audit_146] at h
      refine lv_iload_n hx hb dd_M_audit_146 rfl (lv_at hl 2 rfl) ?_
      refine lv_aload_n hx hb dd_M_audit_147 rfl (lv_at hl 0 rfl) ?_
      refine va_get (D := D) (ci := 4) (v := .int (I 0 3)) (C := "OpenDealModel") (T := T_M) (N := 32) hx hb hk in_M hown hK hP 0 am_0 rfl 3 (by decide) (hk _ kw_540) (fun _ h9 => h9) rfl dd_M_audit_148 ?_
      refine lv_icmp_ge (tgt := 193) hx hb dd_M_audit_151 (by decide) (fun hc1 => ?_) (fun hc1 => ?_)
      · have h := ip_out hc1 h
        refine lv_iinc (v := v1 + (1 : Int32)) (lv' := [(1, .int (v1 + (1 : Int32))), (0, .ref (ad 0)), (2, .int v2)]) hx hb dd_M_audit_193 hl (k := 1) rfl rfl (by decide) rfl (fun ls hl => ?_)
        refine lv_goto (tgt := 138) hx hb dd_M_audit_196 (by decide) ?_
        exact hk138 _ _ _ h _ _ hP hD hS _ (lv_sub hl [1, 0] rfl)
      · have h := in_out hc1 h
        refine lv_aload_n hx hb dd_M_audit_154 rfl (lv_at hl 0 rfl) ?_
        refine va_get (D := D) (ci := 4) (v := .ref (ad 19)) (C := "OpenDealModel") (T := T_M) (N := 32) hx hb hk in_M hown hK hP 0 am_0 rfl 24 (by decide) (hk _ kw_561) (fun _ h9 => h9) rfl dd_M_audit_155 ?_
        refine lv_bipush (v := 52) hx hb dd_M_audit_158 (by decide) ?_
        refine lv_iload_n hx hb dd_M_audit_160 rfl (lv_at hl 2 rfl) ?_
        refine lv_imul hx hb dd_M_audit_161 ?_
        refine lv_iload_n hx hb dd_M_audit_162 rfl (lv_at hl 1 rfl) ?_
        refine lv_iadd hx hb dd_M_audit_163 ?_
        obtain ⟨hi2, h⟩ := oi_out h
        refine va_iald hx hb hK hP 19 0 am_19 rfl hi2 dd_M_audit_164 ?_
        refine lv_topi (fun y3 ey3 => ?_)
        have h := tl_at ey3 h
        refine lv_istore_n (lv' := [(3, .int y3), (0, .ref (ad 0)), (1, .int v1), (2, .int v2)]) hx hb dd_M_audit_165 rfl hl (by decide) rfl (fun ls hl => ?_)
        refine lv_iload_n hx hb dd_M_audit_166 rfl (lv_at hl 0 rfl) ?_
        refine lv_if_eq (tgt := 187) hx hb dd_M_audit_167 (by decide) (fun hc4 => ?_) (fun hc4 => ?_)
        · have h := ip_out hc4 h
          refine lv_iinc (v := v2 + (1 : Int32)) (lv' := [(2, .int (v2 + (1 : Int32))), (3, .int y3), (0, .ref (ad 0)), (1, .int v1)]) hx hb dd_M_audit_187 hl (k := 3) rfl rfl (by decide) rfl (fun ls hl => ?_)
          refine lv_goto (tgt := 146) hx hb dd_M_audit_190 (by decide) ?_
          exact ih _ _ _ _ h _ _ hP hD hS _ (lv_sub hl [2, 3, 0] rfl)
        · have h := in_out hc4 h
          refine lv_iload_n hx hb dd_M_audit_170 rfl (lv_at hl 0 rfl) ?_
          refine lv_aload_n hx hb dd_M_audit_171 rfl (lv_at hl 1 rfl) ?_
          refine lv_iload_n hx hb dd_M_audit_172 rfl (lv_at hl 3 rfl) ?_
          refine lv_iload_n hx hb dd_M_audit_173 rfl (lv_at hl 2 rfl) ?_
          obtain ⟨r5, hr5, h⟩ := ob_out h
          refine cw_Vi (n := 2) (As := [.int v2, .int v1]) (mc := 0) (ms := 0) hx hb hml hown hk (mm_M_lockOf l D kc ad _ _ _ _ _ _ _ hr5) hK hP hD hS hA 0 am_0 rfl rfl kw_737 kw_739 sel_M_lockOf kw_4 kw_740 ⟨rfl, rfl⟩ (by decide +kernel) ⟨Nat.le_of_ble_eq_true rfl, Nat.le_of_ble_eq_true rfl⟩ rfl hl.1 rfl (Nat.le_of_ble_eq_true rfl) dd_M_audit_174 ⟨Nat.le_of_ble_eq_true rfl, Nat.le_of_ble_eq_true rfl⟩ (fun H locs hP hD hS => ?_)
          refine lv_icmp_eq (tgt := 187) hx hb dd_M_audit_177 (by decide) (fun hc6 => ?_) (fun hc6 => ?_)
          · have h := ip_out hc6 h
            refine lv_iinc (v := v2 + (1 : Int32)) (lv' := [(2, .int (v2 + (1 : Int32))), (3, .int y3), (0, .ref (ad 0)), (1, .int v1)]) hx hb dd_M_audit_187 hl (k := 3) rfl rfl (by decide) rfl (fun ls hl => ?_)
            refine lv_goto (tgt := 146) hx hb dd_M_audit_190 (by decide) ?_
            exact ih _ _ _ _ h _ _ hP hD hS _ (lv_sub hl [2, 3, 0] rfl)
          · have h := in_out hc6 h
            refine lv_bipush (v := 16) hx hb dd_M_audit_180 (by decide) ?_
            refine lv_iload_n hx hb dd_M_audit_182 rfl (lv_at hl 3 rfl) ?_
            refine lv_imul hx hb dd_M_audit_183 ?_
            refine lv_iconst (v := 4) hx hb dd_M_audit_184 (by decide) ?_
            refine lv_iadd hx hb dd_M_audit_185 ?_
            obtain rfl := Option.some.inj h
            exact W.iret hx hb hr (fun t ht hW => ⟨⟨_, (), rfl, rfl, by rw [ht]; exact hP, va_K.moved hW.alike hK, hD⟩, hS.F ht⟩) hS.2.2 dd_M_audit_186
  have L138 : ∀  (n : Nat) (I : MI) (J : MJ) (v1 : Int32), ff_M_audit_138 n I J v1 = some r → ∀ (H : Heap) (locs : List Loc), va_P D cls5 (wM kc ad I J) H → va_D A (wM kc ad I J) → va_S A s.heap H locs → ∀ ls, lv_has ls 4 [(0, .ref (ad 0)), (1, .int v1)] → W p l e (headSpec (.code yy_M_audit cc_M_audit 4 (some .int) :: kw) { frames := 4, cells := 0, slots := 0, locals := 93 }).room s m ([.ref (ad 0)] : List Value).toArray below meth c H locs 0 0 (MQ below (va_Qi (fun z (_ : Unit) => z = r.1) (EW D kc A (wM kc ad r.2.1 r.2.2)) A) ([.ref (ad 0)] : List Value).toArray s 0 0 A) (F0 m 138 ls []) := by
    intro  n
    induction n with
    | zero => intro I J v1 h; exact absurd h (by simp [ff_M_audit_138])
    | succ n ih =>
      intro I J v1 h H locs hP hD hS ls hl
      rw [ff_M_audit_138] at h
      refine lv_iload_n hx hb dd_M_audit_138 rfl (lv_at hl 1 rfl) ?_
      refine lv_bipush (v := 52) hx hb dd_M_audit_139 (by decide) ?_
      refine lv_icmp_ge (tgt := 199) hx hb dd_M_audit_141 (by decide) (fun hc7 => ?_) (fun hc7 => ?_)
      · have h := ip_out hc7 h
        refine lv_iconst (v := 0) hx hb dd_M_audit_199 (by decide) ?_
        obtain rfl := Option.some.inj h
        exact W.iret hx hb hr (fun t ht hW => ⟨⟨_, (), rfl, rfl, by rw [ht]; exact hP, va_K.moved hW.alike hK, hD⟩, hS.F ht⟩) hS.2.2 dd_M_audit_200
      · have h := in_out hc7 h
        refine lv_iconst (v := 0) hx hb dd_M_audit_144 (by decide) ?_
        refine lv_istore_n (lv' := [(2, .int (0 : Int32)), (0, .ref (ad 0)), (1, .int v1)]) hx hb dd_M_audit_145 rfl hl (by decide) rfl (fun ls hl => ?_)
        exact L146 _ ih _ _ _ _ _ h _ _ hP hD hS _ (lv_sub hl [1, 2, 0] rfl)
  have L107 : ∀  (n : Nat) (I : MI) (J : MJ) (v1 : Int32), ff_M_audit_107 n I J v1 = some r → ∀ (H : Heap) (locs : List Loc), va_P D cls5 (wM kc ad I J) H → va_D A (wM kc ad I J) → va_S A s.heap H locs → ∀ ls, lv_has ls 4 [(0, .ref (ad 0)), (1, .int v1)] → W p l e (headSpec (.code yy_M_audit cc_M_audit 4 (some .int) :: kw) { frames := 4, cells := 0, slots := 0, locals := 93 }).room s m ([.ref (ad 0)] : List Value).toArray below meth c H locs 0 0 (MQ below (va_Qi (fun z (_ : Unit) => z = r.1) (EW D kc A (wM kc ad r.2.1 r.2.2)) A) ([.ref (ad 0)] : List Value).toArray s 0 0 A) (F0 m 107 ls []) := by
    intro  n
    induction n with
    | zero => intro I J v1 h; exact absurd h (by simp [ff_M_audit_107])
    | succ n ih =>
      intro I J v1 h H locs hP hD hS ls hl
      rw [ff_M_audit_107] at h
      refine lv_iload_n hx hb dd_M_audit_107 rfl (lv_at hl 1 rfl) ?_
      refine lv_aload_n hx hb dd_M_audit_108 rfl (lv_at hl 0 rfl) ?_
      refine va_get (D := D) (ci := 4) (v := .int (I 0 3)) (C := "OpenDealModel") (T := T_M) (N := 32) hx hb hk in_M hown hK hP 0 am_0 rfl 3 (by decide) (hk _ kw_540) (fun _ h9 => h9) rfl dd_M_audit_109 ?_
      refine lv_icmp_ge (tgt := 136) hx hb dd_M_audit_112 (by decide) (fun hc8 => ?_) (fun hc8 => ?_)
      · have h := ip_out hc8 h
        refine lv_iconst (v := 0) hx hb dd_M_audit_136 (by decide) ?_
        refine lv_istore_n (lv' := [(1, .int (0 : Int32)), (0, .ref (ad 0))]) hx hb dd_M_audit_137 rfl hl (by decide) rfl (fun ls hl => ?_)
        exact L138  _ _ _ _ h _ _ hP hD hS _ (lv_sub hl [1, 0] rfl)
      · have h := in_out hc8 h
        refine lv_aload_n hx hb dd_M_audit_115 rfl (lv_at hl 0 rfl) ?_
        refine lv_iload_n hx hb dd_M_audit_116 rfl (lv_at hl 1 rfl) ?_
        obtain ⟨r9, hr9, h⟩ := ob_out h
        refine cw_Vi (n := 1) (As := [.int v1]) (mc := 0) (ms := 0) hx hb hml hown hk (mm_M_fitsRelocked l D kc ad _ _ _ _ _ _ hr9) hK hP hD hS hA 0 am_0 rfl rfl kw_801 kw_803 sel_M_fitsRelocked kw_4 kw_804 ⟨rfl, rfl⟩ (by decide +kernel) ⟨Nat.le_of_ble_eq_true rfl, Nat.le_of_ble_eq_true rfl⟩ rfl hl.1 rfl (Nat.le_of_ble_eq_true rfl) dd_M_audit_117 ⟨Nat.le_of_ble_eq_true rfl, Nat.le_of_ble_eq_true rfl⟩ (fun H locs hP hD hS => ?_)
        refine lv_if_ne (tgt := 130) hx hb dd_M_audit_120 (by decide) (fun hc10 => ?_) (fun hc10 => ?_)
        · have h := in_out hc10 h
          refine lv_iinc (v := v1 + (1 : Int32)) (lv' := [(1, .int (v1 + (1 : Int32))), (0, .ref (ad 0))]) hx hb dd_M_audit_130 hl (k := 1) rfl rfl (by decide) rfl (fun ls hl => ?_)
          refine lv_goto (tgt := 107) hx hb dd_M_audit_133 (by decide) ?_
          exact ih _ _ _ h _ _ hP hD hS _ (lv_sub hl [1, 0] rfl)
        · have h := ip_out hc10 h
          refine lv_bipush (v := 16) hx hb dd_M_audit_123 (by decide) ?_
          refine lv_iload_n hx hb dd_M_audit_125 rfl (lv_at hl 1 rfl) ?_
          refine lv_imul hx hb dd_M_audit_126 ?_
          refine lv_iconst (v := 3) hx hb dd_M_audit_127 (by decide) ?_
          refine lv_iadd hx hb dd_M_audit_128 ?_
          obtain rfl := Option.some.inj h
          exact W.iret hx hb hr (fun t ht hW => ⟨⟨_, (), rfl, rfl, by rw [ht]; exact hP, va_K.moved hW.alike hK, hD⟩, hS.F ht⟩) hS.2.2 dd_M_audit_129
  have L76 : ∀  (n : Nat) (I : MI) (J : MJ) (v1 : Int32), ff_M_audit_76 n I J v1 = some r → ∀ (H : Heap) (locs : List Loc), va_P D cls5 (wM kc ad I J) H → va_D A (wM kc ad I J) → va_S A s.heap H locs → ∀ ls, lv_has ls 4 [(0, .ref (ad 0)), (1, .int v1)] → W p l e (headSpec (.code yy_M_audit cc_M_audit 4 (some .int) :: kw) { frames := 4, cells := 0, slots := 0, locals := 93 }).room s m ([.ref (ad 0)] : List Value).toArray below meth c H locs 0 0 (MQ below (va_Qi (fun z (_ : Unit) => z = r.1) (EW D kc A (wM kc ad r.2.1 r.2.2)) A) ([.ref (ad 0)] : List Value).toArray s 0 0 A) (F0 m 76 ls []) := by
    intro  n
    induction n with
    | zero => intro I J v1 h; exact absurd h (by simp [ff_M_audit_76])
    | succ n ih =>
      intro I J v1 h H locs hP hD hS ls hl
      rw [ff_M_audit_76] at h
      refine lv_iload_n hx hb dd_M_audit_76 rfl (lv_at hl 1 rfl) ?_
      refine lv_aload_n hx hb dd_M_audit_77 rfl (lv_at hl 0 rfl) ?_
      refine va_get (D := D) (ci := 4) (v := .int (I 0 3)) (C := "OpenDealModel") (T := T_M) (N := 32) hx hb hk in_M hown hK hP 0 am_0 rfl 3 (by decide) (hk _ kw_540) (fun _ h9 => h9) rfl dd_M_audit_78 ?_
      refine lv_icmp_ge (tgt := 105) hx hb dd_M_audit_81 (by decide) (fun hc11 => ?_) (fun hc11 => ?_)
      · have h := ip_out hc11 h
        refine lv_iconst (v := 0) hx hb dd_M_audit_105 (by decide) ?_
        refine lv_istore_n (lv' := [(1, .int (0 : Int32)), (0, .ref (ad 0))]) hx hb dd_M_audit_106 rfl hl (by decide) rfl (fun ls hl => ?_)
        exact L107  _ _ _ _ h _ _ hP hD hS _ (lv_sub hl [1, 0] rfl)
      · have h := in_out hc11 h
        refine lv_aload_n hx hb dd_M_audit_84 rfl (lv_at hl 0 rfl) ?_
        refine lv_iload_n hx hb dd_M_audit_85 rfl (lv_at hl 1 rfl) ?_
        obtain ⟨r12, hr12, h⟩ := ob_out h
        refine cw_Vi (n := 1) (As := [.int v1]) (mc := 0) (ms := 0) hx hb hml hown hk (mm_M_fitsLocked l D kc ad _ _ _ _ _ _ hr12) hK hP hD hS hA 0 am_0 rfl rfl kw_797 kw_799 sel_M_fitsLocked kw_4 kw_800 ⟨rfl, rfl⟩ (by decide +kernel) ⟨Nat.le_of_ble_eq_true rfl, Nat.le_of_ble_eq_true rfl⟩ rfl hl.1 rfl (Nat.le_of_ble_eq_true rfl) dd_M_audit_86 ⟨Nat.le_of_ble_eq_true rfl, Nat.le_of_ble_eq_true rfl⟩ (fun H locs hP hD hS => ?_)
        refine lv_if_ne (tgt := 99) hx hb dd_M_audit_89 (by decide) (fun hc13 => ?_) (fun hc13 => ?_)
        · have h := in_out hc13 h
          refine lv_iinc (v := v1 + (1 : Int32)) (lv' := [(1, .int (v1 + (1 : Int32))), (0, .ref (ad 0))]) hx hb dd_M_audit_99 hl (k := 1) rfl rfl (by decide) rfl (fun ls hl => ?_)
          refine lv_goto (tgt := 76) hx hb dd_M_audit_102 (by decide) ?_
          exact ih _ _ _ h _ _ hP hD hS _ (lv_sub hl [1, 0] rfl)
        · have h := ip_out hc13 h
          refine lv_bipush (v := 16) hx hb dd_M_audit_92 (by decide) ?_
          refine lv_iload_n hx hb dd_M_audit_94 rfl (lv_at hl 1 rfl) ?_
          refine lv_imul hx hb dd_M_audit_95 ?_
          refine lv_iconst (v := 2) hx hb dd_M_audit_96 (by decide) ?_
          refine lv_iadd hx hb dd_M_audit_97 ?_
          obtain rfl := Option.some.inj h
          exact W.iret hx hb hr (fun t ht hW => ⟨⟨_, (), rfl, rfl, by rw [ht]; exact hP, va_K.moved hW.alike hK, hD⟩, hS.F ht⟩) hS.2.2 dd_M_audit_98
  have L22 : ∀  (n : Nat) (I : MI) (J : MJ) (v1 : Int32), ff_M_audit_22 n I J v1 = some r → ∀ (H : Heap) (locs : List Loc), va_P D cls5 (wM kc ad I J) H → va_D A (wM kc ad I J) → va_S A s.heap H locs → ∀ ls, lv_has ls 4 [(0, .ref (ad 0)), (1, .int v1)] → W p l e (headSpec (.code yy_M_audit cc_M_audit 4 (some .int) :: kw) { frames := 4, cells := 0, slots := 0, locals := 93 }).room s m ([.ref (ad 0)] : List Value).toArray below meth c H locs 0 0 (MQ below (va_Qi (fun z (_ : Unit) => z = r.1) (EW D kc A (wM kc ad r.2.1 r.2.2)) A) ([.ref (ad 0)] : List Value).toArray s 0 0 A) (F0 m 22 ls []) := by
    intro  n
    induction n with
    | zero => intro I J v1 h; exact absurd h (by simp [ff_M_audit_22])
    | succ n ih =>
      intro I J v1 h H locs hP hD hS ls hl
      rw [ff_M_audit_22] at h
      refine lv_iload_n hx hb dd_M_audit_22 rfl (lv_at hl 1 rfl) ?_
      refine lv_aload_n hx hb dd_M_audit_23 rfl (lv_at hl 0 rfl) ?_
      refine va_get (D := D) (ci := 4) (v := .int (I 0 3)) (C := "OpenDealModel") (T := T_M) (N := 32) hx hb hk in_M hown hK hP 0 am_0 rfl 3 (by decide) (hk _ kw_540) (fun _ h9 => h9) rfl dd_M_audit_24 ?_
      refine lv_icmp_ge (tgt := 74) hx hb dd_M_audit_27 (by decide) (fun hc14 => ?_) (fun hc14 => ?_)
      · have h := ip_out hc14 h
        refine lv_iconst (v := 0) hx hb dd_M_audit_74 (by decide) ?_
        refine lv_istore_n (lv' := [(1, .int (0 : Int32)), (0, .ref (ad 0))]) hx hb dd_M_audit_75 rfl hl (by decide) rfl (fun ls hl => ?_)
        exact L76  _ _ _ _ h _ _ hP hD hS _ (lv_sub hl [1, 0] rfl)
      · have h := in_out hc14 h
        refine lv_aload_n hx hb dd_M_audit_30 rfl (lv_at hl 0 rfl) ?_
        refine va_get (D := D) (ci := 4) (v := .ref (ad 3)) (C := "OpenDealModel") (T := T_M) (N := 32) hx hb hk in_M hown hK hP 0 am_0 rfl 7 (by decide) (hk _ kw_544) (fun _ h9 => h9) rfl dd_M_audit_31 ?_
        refine lv_iload_n hx hb dd_M_audit_34 rfl (lv_at hl 1 rfl) ?_
        obtain ⟨hi15, h⟩ := oi_out h
        refine va_lald hx hb hK hP 3 1 am_3 rfl hi15 dd_M_audit_35 ?_
        refine lv_aload_n hx hb dd_M_audit_36 rfl (lv_at hl 0 rfl) ?_
        refine va_get (D := D) (ci := 4) (v := .ref (ad 8)) (C := "OpenDealModel") (T := T_M) (N := 32) hx hb hk in_M hown hK hP 0 am_0 rfl 12 (by decide) (hk _ kw_549) (fun _ h9 => h9) rfl dd_M_audit_37 ?_
        refine lv_iload_n hx hb dd_M_audit_40 rfl (lv_at hl 1 rfl) ?_
        obtain ⟨hi16, h⟩ := oi_out h
        refine va_iald hx hb hK hP 8 0 am_8 rfl hi16 dd_M_audit_41 ?_
        refine lv_aload_n hx hb dd_M_audit_42 rfl (lv_at hl 0 rfl) ?_
        refine va_get (D := D) (ci := 4) (v := .ref (ad 9)) (C := "OpenDealModel") (T := T_M) (N := 32) hx hb hk in_M hown hK hP 0 am_0 rfl 13 (by decide) (hk _ kw_550) (fun _ h9 => h9) rfl dd_M_audit_43 ?_
        refine lv_iload_n hx hb dd_M_audit_46 rfl (lv_at hl 1 rfl) ?_
        obtain ⟨hi17, h⟩ := oi_out h
        refine va_lald hx hb hK hP 9 1 am_9 rfl hi17 dd_M_audit_47 ?_
        refine lv_aload_n hx hb dd_M_audit_48 rfl (lv_at hl 0 rfl) ?_
        refine va_get (D := D) (ci := 4) (v := .ref (ad 6)) (C := "OpenDealModel") (T := T_M) (N := 32) hx hb hk in_M hown hK hP 0 am_0 rfl 10 (by decide) (hk _ kw_547) (fun _ h9 => h9) rfl dd_M_audit_49 ?_
        refine lv_iload_n hx hb dd_M_audit_52 rfl (lv_at hl 1 rfl) ?_
        obtain ⟨hi18, h⟩ := oi_out h
        refine va_lald hx hb hK hP 6 1 am_6 rfl hi18 dd_M_audit_53 ?_
        obtain ⟨r19, hr19, h⟩ := ob_out h
        refine ro_Sl (n := 3) (As := [.int (I 8 (v1).toNatClampNeg), .long (J 9 (v1).toNatClampNeg), .long (J 6 (v1).toNatClampNeg)]) hx hb hml hown hk (mm_M_sealOf l _ _ _ _ _ hr19) (fun U _ _ => trivial) (fun _ _ _ _ _ => trivial) kw_672 kw_673 kw_4 kw_674 ⟨rfl, rfl⟩ (by decide +kernel) ⟨Nat.le_of_ble_eq_true rfl, Nat.le_of_ble_eq_true rfl⟩ rfl hl.1 rfl (Nat.le_of_ble_eq_true rfl) dd_M_audit_54 ⟨Nat.le_of_ble_eq_true rfl, Nat.le_of_ble_eq_true rfl⟩ ?_
        refine W.lcmp hx hb dd_M_audit_57 ?_
        refine lv_if_eq (tgt := 68) hx hb dd_M_audit_58 (by decide) (fun hc20 => ?_) (fun hc20 => ?_)
        · have h := ip_out hc20 h
          refine lv_iinc (v := v1 + (1 : Int32)) (lv' := [(1, .int (v1 + (1 : Int32))), (0, .ref (ad 0))]) hx hb dd_M_audit_68 hl (k := 1) rfl rfl (by decide) rfl (fun ls hl => ?_)
          refine lv_goto (tgt := 22) hx hb dd_M_audit_71 (by decide) ?_
          exact ih _ _ _ h _ _ hP hD hS _ (lv_sub hl [1, 0] rfl)
        · have h := in_out hc20 h
          refine lv_bipush (v := 16) hx hb dd_M_audit_61 (by decide) ?_
          refine lv_iload_n hx hb dd_M_audit_63 rfl (lv_at hl 1 rfl) ?_
          refine lv_imul hx hb dd_M_audit_64 ?_
          refine lv_iconst (v := 1) hx hb dd_M_audit_65 (by decide) ?_
          refine lv_iadd hx hb dd_M_audit_66 ?_
          obtain rfl := Option.some.inj h
          exact W.iret hx hb hr (fun t ht hW => ⟨⟨_, (), rfl, rfl, by rw [ht]; exact hP, va_K.moved hW.alike hK, hD⟩, hS.F ht⟩) hS.2.2 dd_M_audit_67
  have hl := lv_entry ([.ref (ad 0)]) (n := 4) (Nat.le_of_ble_eq_true rfl)
  rw [lg_entry_eq]
  generalize (lg_sl ([.ref (ad 0)]) ++ List.replicate (4 - (lg_sl ([.ref (ad 0)])).length) Slot.unset).toArray = ls at hl ⊢
  have hl : lv_has ls 4 [(0, .ref (ad 0))] := hl
  unfold ff_M_audit at h
  refine lv_aload_n hx hb dd_M_audit_0 rfl (lv_at hl 0 rfl) ?_
  refine va_get (D := D) (ci := 4) (v := .int (I0 0 4)) (C := "OpenDealModel") (T := T_M) (N := 32) hx hb hk in_M hown hK hP 0 am_0 rfl 4 (by decide) (hk _ kw_541) (fun _ h9 => h9) rfl dd_M_audit_1 ?_
  refine lv_bipush (v := 6) hx hb dd_M_audit_4 (by decide) ?_
  refine lv_icmp_eq (tgt := 15) hx hb dd_M_audit_6 (by decide) (fun hc21 => ?_) (fun hc21 => ?_)
  · have h := ip_out hc21 h
    refine lv_aload_n hx hb dd_M_audit_15 rfl (lv_at hl 0 rfl) ?_
    refine lv_iconst (v := 0) hx hb dd_M_audit_16 (by decide) ?_
    refine va_put (D := D) (ci := 4) (v := .int (0 : Int32)) (ty := .int) (C := "OpenDealModel") (T := T_M) (N := 32) hx hb hk in_M ty_M tk_M nm_M hown hK hP hD hS 0 am_0 rfl 0 (by decide) (hk _ kw_537) (fun _ h9 => h9) rfl (by decide +kernel) rfl rfl (Nat.le_of_ble_eq_true rfl) dd_M_audit_17 (fun H locs hP hD hS => ?_)
    rw [pt_M0] at hP hD
    refine lv_iconst (v := 0) hx hb dd_M_audit_20 (by decide) ?_
    refine lv_istore_n (lv' := [(1, .int (0 : Int32)), (0, .ref (ad 0))]) hx hb dd_M_audit_21 rfl hl (by decide) rfl (fun ls hl => ?_)
    exact L22  _ _ _ _ h _ _ hP hD hS _ (lv_sub hl [1, 0] rfl)
  · have h := in_out hc21 h
    refine lv_aload_n hx hb dd_M_audit_9 rfl (lv_at hl 0 rfl) ?_
    refine lv_iconst (v := 1) hx hb dd_M_audit_10 (by decide) ?_
    obtain ⟨r22, hr22, h⟩ := ob_out h
    refine cw_Vi (n := 1) (As := [.int (1 : Int32)]) (mc := 0) (ms := 0) hx hb hml hown hk (mm_M_raise l D kc ad _ _ _ _ _ _ hr22) hK hP hD hS hA 0 am_0 rfl rfl kw_681 kw_683 sel_M_raise kw_4 kw_684 ⟨rfl, rfl⟩ (by decide +kernel) ⟨Nat.le_of_ble_eq_true rfl, Nat.le_of_ble_eq_true rfl⟩ rfl hl.1 rfl (Nat.le_of_ble_eq_true rfl) dd_M_audit_11 ⟨Nat.le_of_ble_eq_true rfl, Nat.le_of_ble_eq_true rfl⟩ (fun H locs hP hD hS => ?_)
    obtain rfl := Option.some.inj h
    exact W.iret hx hb hr (fun t ht hW => ⟨⟨_, (), rfl, rfl, by rw [ht]; exact hP, va_K.moved hW.alike hK, hD⟩, hS.F ht⟩) hS.2.2 dd_M_audit_14
