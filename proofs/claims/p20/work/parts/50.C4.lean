/-! the class, laid by program -/
def ff_O_payLayer_166 (k92 : MI → MJ → Int32 → Int32 → Int32 → Int32 → Int32 → Int32 → Int32 → Int32 → Option (MI × MJ)) (n : Nat) (I : MI) (J : MJ) (v1 : Int32) (v2 : Int32) (v3 : Int32) (v4 : Int32) (v5 : Int32) (v6 : Int32) (v7 : Int32) (v8 : Int32) (v9 : Nat) : Option (MI × MJ) := if (I v9 1) ≤ 0 then (k92 (ui I v9 1 ((I v9 1) - (0 : Int32))) J v1 v2 v3 v4 v5 v6 v7 (v8 + (1 : Int32))) else (k92 (ui I v9 1 ((I v9 1) - v1)) J v1 v2 v3 v4 v5 v6 v7 (v8 + (1 : Int32)))
def ff_O_payLayer_137 (k92 : MI → MJ → Int32 → Int32 → Int32 → Int32 → Int32 → Int32 → Int32 → Int32 → Option (MI × MJ)) (n : Nat) (I : MI) (J : MJ) (v1 : Int32) (v2 : Int32) (v3 : Int32) (v4 : Int32) (v5 : Int32) (v6 : Int32) (v7 : Int32) (v8 : Int32) (v9 : Nat) : Option (MI × MJ) := (ff_O_winsLayer n I J v8 v2 v3).bind fun r2 => if r2 = 0 then (ff_O_payLayer_166 k92 n I J v1 v2 v3 v4 v5 v6 v7 v8 v9) else (ff_O_payLayer_166 k92 n (ui I v9 0 ((I v9 0) + (v6 + v7))) J v1 v2 v3 v4 v5 v6 (0 : Int32) v8 v9)
def ff_O_payLayer_92  : Nat → MI → MJ → Int32 → Int32 → Int32 → Int32 → Int32 → Int32 → Int32 → Int32 → Option (MI × MJ)
  | 0, _, _, _, _, _, _, _, _, _, _ => none
  | n + 1, I, J, v1, v2, v3, v4, v5, v6, v7, v8 => if (I 0 2) ≤ v8 then (some (I, J)) else (if ¬ (v8 < 0 ∨ 4 ≤ (v8).toNatClampNeg) then if v5 = 0 then (if (I (15 + 6 * (v8).toNatClampNeg) 1) ≤ 0 then (ff_O_payLayer_137 (ff_O_payLayer_92 n) n I J v1 v2 v3 v4 v5 v6 v7 v8 (15 + 6 * (v8).toNatClampNeg)) else (ff_O_payLayer_166 (ff_O_payLayer_92 n) n (ui I (15 + 6 * (v8).toNatClampNeg) 0 ((I (15 + 6 * (v8).toNatClampNeg) 0) + v1)) J v1 v2 v3 v4 v5 v6 v7 v8 (15 + 6 * (v8).toNatClampNeg))) else (ff_O_payLayer_137 (ff_O_payLayer_92 n) n I J v1 v2 v3 v4 v5 v6 v7 v8 (15 + 6 * (v8).toNatClampNeg)) else none)
def ff_O_payLayer_77  (n : Nat) (I : MI) (J : MJ) (v1 : Int32) (v2 : Int32) (v3 : Int32) (v4 : Int32) (v5 : Int32) (v6 : Int32) (s0 : Int32) : Option (MI × MJ) := tl (v4 - (s0 * v5)) fun y8 => ff_O_payLayer_92 n I J v1 v2 v3 v4 v5 s0 y8 (0 : Int32)
def ff_O_payLayer_43 (k15 : MI → MJ → Int32 → Int32 → Int32 → Int32 → Int32 → Int32 → Option (MI × MJ)) (n : Nat) (I : MI) (J : MJ) (v1 : Int32) (v2 : Int32) (v3 : Int32) (v4 : Int32) (v5 : Int32) (v6 : Int32) : Option (MI × MJ) := (ff_O_winsLayer n I J v6 v2 v3).bind fun r9 => if r9 = 0 then (k15 I J v1 v2 v3 v4 v5 (v6 + (1 : Int32))) else (k15 I J v1 v2 v3 v4 (v5 + (1 : Int32)) (v6 + (1 : Int32)))
def ff_O_payLayer_15  : Nat → MI → MJ → Int32 → Int32 → Int32 → Int32 → Int32 → Int32 → Option (MI × MJ)
  | 0, _, _, _, _, _, _, _, _ => none
  | n + 1, I, J, v1, v2, v3, v4, v5, v6 => if (I 0 2) ≤ v6 then (if v5 ≤ 0 then (ff_O_payLayer_77 n I J v1 v2 v3 v4 v5 v6 (0 : Int32)) else (if ¬ v5 = 0 then ff_O_payLayer_77 n I J v1 v2 v3 v4 v5 v6 (v4 / v5) else none)) else (if ¬ (v6 < 0 ∨ 4 ≤ (v6).toNatClampNeg) then if (I (15 + 6 * (v6).toNatClampNeg) 1) ≤ 0 then (ff_O_payLayer_43 (ff_O_payLayer_15 n) n I J v1 v2 v3 v4 v5 v6) else (tl (v4 + v1) fun y16 => ff_O_payLayer_43 (ff_O_payLayer_15 n) n I J v1 v2 v3 y16 v5 v6) else none)
def ff_O_payLayer (n : Nat) (I : MI) (J : MJ) (a1 : Int32) (a2 : Int32) : Option (MI × MJ) := (ff_O_bestRank n I J a2).bind fun r17 => ff_O_payLayer_15 n I J a1 a2 r17 (0 : Int32) (0 : Int32) (0 : Int32)
set_option maxHeartbeats 4000000 in
set_option maxRecDepth 100000 in
theorem mm_O_payLayer (l : Launch) (D : va_G) (kc : Nat → ClassId) (ad : Nat → Nat) (I0 : MI) (J0 : MJ) (sz n : Nat) (a1 : Int32) (a2 : Int32) (r : MI × MJ) (h : ff_O_payLayer n I0 J0 a1 a2 = some r) : Met l yy_O_payLayer (.code yy_O_payLayer cc_O_payLayer 10 (none) :: kw) { frames := 2, cells := 0, slots := 0, locals := 44 } (va_Pc [.ref (ad 0), .int a1, .int a2] (BW D kc (wC kc ad I0 J0) sz)) (va_Qv (fun (_ : Unit) => True) (EW D kc (va_A (wC kc ad I0 J0) sz) (wC kc ad r.1 r.2)) (va_A (wC kc ad I0 J0) sz)) 0 0 (va_A (wC kc ad I0 J0) sz) := by
  refine Met.ofW (cc := cc_O_payLayer) (maxL := 10) (ret := none) (by decide) rfl ?_
  intro p e s m args below meth c s₁ B hml hv
  obtain ⟨rfl, hsz, hP, hK, hD0⟩ := hv
  have hx := B.exec
  have hb := B.bytes
  have hr := B.returns
  have hlocks := B.notSynchronized
  have hk : ∀ w ∈ kw, w.before _ s = true := fun w hw => atoms_spec (ws := (.code yy_O_payLayer cc_O_payLayer 10 (none) :: kw)) B.pre w (List.mem_cons_of_mem _ hw)
  have hown : s.vm.findClass "OpenDeal" = some m.cls := findClass_of_methodNamed B.named
  subst hsz
  have hD := hD0.self (sz := s.heap.size)
  generalize hAe : va_A (wC kc ad I0 J0) s.heap.size = A at hD ⊢
  have hA : ∀ q : Nat, s.heap.size ≤ q → A q := fun q h => by rw [← hAe]; exact Or.inr h
  have hS : va_S A s.heap s.heap [] := va_S.rf
  have hP : va_P D cls5 (wC kc ad I0 J0) s.heap := hP
  clear hAe hD0
  have L166 : ∀ (k92 : MI → MJ → Int32 → Int32 → Int32 → Int32 → Int32 → Int32 → Int32 → Int32 → Option (MI × MJ)) (hk92 : ∀ (I : MI) (J : MJ) (v1 : Int32) (v2 : Int32) (v3 : Int32) (v4 : Int32) (v5 : Int32) (v6 : Int32) (v7 : Int32) (v8 : Int32), k92 I J v1 v2 v3 v4 v5 v6 v7 v8 = some r → ∀ (H : Heap) (locs : List Loc), va_P D cls5 (wC kc ad I J) H → va_D A (wC kc ad I J) → va_S A s.heap H locs → ∀ ls, lv_has ls 10 [(0, .ref (ad 0)), (1, .int v1), (2, .int v2), (3, .int v3), (4, .int v4), (5, .int v5), (6, .int v6), (7, .int v7), (8, .int v8)] → W p l e (headSpec (.code yy_O_payLayer cc_O_payLayer 10 (none) :: kw) { frames := 2, cells := 0, slots := 0, locals := 44 }).room s m ([.ref (ad 0), .int a1, .int a2] : List Value).toArray below meth c H locs 0 0 (MQ below (va_Qv (fun (_ : Unit) => True) (EW D kc A (wC kc ad r.1 r.2)) A) ([.ref (ad 0), .int a1, .int a2] : List Value).toArray s 0 0 A) (F0 m 92 ls [])) (n : Nat) (I : MI) (J : MJ) (v1 : Int32) (v2 : Int32) (v3 : Int32) (v4 : Int32) (v5 : Int32) (v6 : Int32) (v7 : Int32) (v8 : Int32) (v9 : Nat) (hv9 : isP v9), ff_O_payLayer_166 k92 n I J v1 v2 v3 v4 v5 v6 v7 v8 v9 = some r → ∀ (H : Heap) (locs : List Loc), va_P D cls5 (wC kc ad I J) H → va_D A (wC kc ad I J) → va_S A s.heap H locs → ∀ ls, lv_has ls 10 [(0, .ref (ad 0)), (1, .int v1), (2, .int v2), (3, .int v3), (4, .int v4), (5, .int v5), (6, .int v6), (7, .int v7), (8, .int v8), (9, .ref (ad v9))] → W p l e (headSpec (.code yy_O_payLayer cc_O_payLayer 10 (none) :: kw) { frames := 2, cells := 0, slots := 0, locals := 44 }).room s m ([.ref (ad 0), .int a1, .int a2] : List Value).toArray below meth c H locs 0 0 (MQ below (va_Qv (fun (_ : Unit) => True) (EW D kc A (wC kc ad r.1 r.2)) A) ([.ref (ad 0), .int a1, .int a2] : List Value).toArray s 0 0 A) (F0 m 166 ls []) := by
    intro k92 hk92 n I J v1 v2 v3 v4 v5 v6 v7 v8 v9 hv9 h H locs hP hD hS ls hl
    unfold ff_O_payLayer_166 at h
    refine lv_aload hx hb dd_O_payLayer_166 (lv_at hl 9 rfl) ?_
    refine lv_dup hx hb dd_O_payLayer_168 rfl ?_
    refine va_get (D := D) (ci := 1) (v := .int (I v9 1)) (C := "OpenDeal$Player") (T := T_P) (N := 13) hx hb hk in_P hown hK hP v9 (at_P hv9) rfl 1 (by decide) (hk _ kw_53) (fun _ h9 => h9) rfl dd_O_payLayer_169 ?_
    refine lv_aload hx hb dd_O_payLayer_172 (lv_at hl 9 rfl) ?_
    refine va_get (D := D) (ci := 1) (v := .int (I v9 1)) (C := "OpenDeal$Player") (T := T_P) (N := 13) hx hb hk in_P hown hK hP v9 (at_P hv9) rfl 1 (by decide) (hk _ kw_53) (fun _ h9 => h9) rfl dd_O_payLayer_174 ?_
    refine lv_if_le (tgt := 184) hx hb dd_O_payLayer_177 (by decide) (fun hc1 => ?_) (fun hc1 => ?_)
    · have h := ip_out hc1 h
      refine lv_iconst (v := 0) hx hb dd_O_payLayer_184 (by decide) ?_
      refine lv_isub hx hb dd_O_payLayer_185 ?_
      refine va_put (D := D) (ci := 1) (v := .int ((I v9 1) - (0 : Int32))) (ty := .int) (C := "OpenDeal$Player") (T := T_P) (N := 13) hx hb hk in_P ty_P tk_P nm_P hown hK hP hD hS v9 (at_P hv9) rfl 1 (by decide) (hk _ kw_53) (fun _ h9 => h9) rfl (by decide +kernel) rfl rfl (Nat.le_of_ble_eq_true rfl) dd_O_payLayer_186 (fun H locs hP hD hS => ?_)
      rw [pt_P1 hv9] at hP hD
      refine lv_iinc (v := v8 + (1 : Int32)) (lv' := [(8, .int (v8 + (1 : Int32))), (0, .ref (ad 0)), (1, .int v1), (2, .int v2), (3, .int v3), (4, .int v4), (5, .int v5), (6, .int v6), (7, .int v7), (9, .ref (ad v9))]) hx hb dd_O_payLayer_189 hl (k := 8) rfl rfl (by decide) rfl (fun ls hl => ?_)
      refine lv_goto (tgt := 92) hx hb dd_O_payLayer_192 (by decide) ?_
      exact hk92 _ _ _ _ _ _ _ _ _ _ h _ _ hP hD hS _ (lv_sub hl [1, 2, 3, 4, 5, 6, 7, 8, 0] rfl)
    · have h := in_out hc1 h
      refine lv_iload_n hx hb dd_O_payLayer_180 rfl (lv_at hl 1 rfl) ?_
      refine lv_goto (tgt := 185) hx hb dd_O_payLayer_181 (by decide) ?_
      refine lv_isub hx hb dd_O_payLayer_185 ?_
      refine va_put (D := D) (ci := 1) (v := .int ((I v9 1) - v1)) (ty := .int) (C := "OpenDeal$Player") (T := T_P) (N := 13) hx hb hk in_P ty_P tk_P nm_P hown hK hP hD hS v9 (at_P hv9) rfl 1 (by decide) (hk _ kw_53) (fun _ h9 => h9) rfl (by decide +kernel) rfl rfl (Nat.le_of_ble_eq_true rfl) dd_O_payLayer_186 (fun H locs hP hD hS => ?_)
      rw [pt_P1 hv9] at hP hD
      refine lv_iinc (v := v8 + (1 : Int32)) (lv' := [(8, .int (v8 + (1 : Int32))), (0, .ref (ad 0)), (1, .int v1), (2, .int v2), (3, .int v3), (4, .int v4), (5, .int v5), (6, .int v6), (7, .int v7), (9, .ref (ad v9))]) hx hb dd_O_payLayer_189 hl (k := 8) rfl rfl (by decide) rfl (fun ls hl => ?_)
      refine lv_goto (tgt := 92) hx hb dd_O_payLayer_192 (by decide) ?_
      exact hk92 _ _ _ _ _ _ _ _ _ _ h _ _ hP hD hS _ (lv_sub hl [1, 2, 3, 4, 5, 6, 7, 8, 0] rfl)
  have L137 : ∀ (k92 : MI → MJ → Int32 → Int32 → Int32 → Int32 → Int32 → Int32 → Int32 → Int32 → Option (MI × MJ)) (hk92 : ∀ (I : MI) (J : MJ) (v1 : Int32) (v2 : Int32) (v3 : Int32) (v4 : Int32) (v5 : Int32) (v6 : Int32) (v7 : Int32) (v8 : Int32), k92 I J v1 v2 v3 v4 v5 v6 v7 v8 = some r → ∀ (H : Heap) (locs : List Loc), va_P D cls5 (wC kc ad I J) H → va_D A (wC kc ad I J) → va_S A s.heap H locs → ∀ ls, lv_has ls 10 [(0, .ref (ad 0)), (1, .int v1), (2, .int v2), (3, .int v3), (4, .int v4), (5, .int v5), (6, .int v6), (7, .int v7), (8, .int v8)] → W p l e (headSpec (.code yy_O_payLayer cc_O_payLayer 10 (none) :: kw) { frames := 2, cells := 0, slots := 0, locals := 44 }).room s m ([.ref (ad 0), .int a1, .int a2] : List Value).toArray below meth c H locs 0 0 (MQ below (va_Qv (fun (_ : Unit) => True) (EW D kc A (wC kc ad r.1 r.2)) A) ([.ref (ad 0), .int a1, .int a2] : List Value).toArray s 0 0 A) (F0 m 92 ls [])) (n : Nat) (I : MI) (J : MJ) (v1 : Int32) (v2 : Int32) (v3 : Int32) (v4 : Int32) (v5 : Int32) (v6 : Int32) (v7 : Int32) (v8 : Int32) (v9 : Nat) (hv9 : isP v9), ff_O_payLayer_137 k92 n I J v1 v2 v3 v4 v5 v6 v7 v8 v9 = some r → ∀ (H : Heap) (locs : List Loc), va_P D cls5 (wC kc ad I J) H → va_D A (wC kc ad I J) → va_S A s.heap H locs → ∀ ls, lv_has ls 10 [(0, .ref (ad 0)), (1, .int v1), (2, .int v2), (3, .int v3), (4, .int v4), (5, .int v5), (6, .int v6), (7, .int v7), (8, .int v8), (9, .ref (ad v9))] → W p l e (headSpec (.code yy_O_payLayer cc_O_payLayer 10 (none) :: kw) { frames := 2, cells := 0, slots := 0, locals := 44 }).room s m ([.ref (ad 0), .int a1, .int a2] : List Value).toArray below meth c H locs 0 0 (MQ below (va_Qv (fun (_ : Unit) => True) (EW D kc A (wC kc ad r.1 r.2)) A) ([.ref (ad 0), .int a1, .int a2] : List Value).toArray s 0 0 A) (F0 m 137 ls []) := by
    intro k92 hk92 n I J v1 v2 v3 v4 v5 v6 v7 v8 v9 hv9 h H locs hP hD hS ls hl
    unfold ff_O_payLayer_137 at h
    refine lv_aload_n hx hb dd_O_payLayer_137 rfl (lv_at hl 0 rfl) ?_
    refine lv_iload hx hb dd_O_payLayer_138 (lv_at hl 8 rfl) ?_
    refine lv_iload_n hx hb dd_O_payLayer_140 rfl (lv_at hl 2 rfl) ?_
    refine lv_iload_n hx hb dd_O_payLayer_141 rfl (lv_at hl 3 rfl) ?_
    obtain ⟨r2, hr2, h⟩ := ob_out h
    refine cr_Vi (n := 3) (As := [.int v8, .int v2, .int v3]) hx hb hml hown hk (mm_O_winsLayer l D kc ad _ _ _ _ _ _ _ hr2) hK hP 0 at_O rfl rfl kw_374 kw_376 sel_O_winsLayer kw_1 kw_377 ⟨rfl, rfl⟩ (by decide +kernel) ⟨Nat.le_of_ble_eq_true rfl, Nat.le_of_ble_eq_true rfl⟩ rfl hl.1 rfl (Nat.le_of_ble_eq_true rfl) dd_O_payLayer_142 ⟨Nat.le_of_ble_eq_true rfl, Nat.le_of_ble_eq_true rfl⟩ ?_
    refine lv_if_eq (tgt := 166) hx hb dd_O_payLayer_145 (by decide) (fun hc3 => ?_) (fun hc3 => ?_)
    · have h := ip_out hc3 h
      exact L166 _ hk92 _ _ _ _ _ _ _ _ _ _ _ _ hv9 h _ _ hP hD hS _ (lv_sub hl [0, 1, 2, 3, 4, 5, 6, 7, 8, 9] rfl)
    · have h := in_out hc3 h
      refine lv_aload hx hb dd_O_payLayer_148 (lv_at hl 9 rfl) ?_
      refine lv_dup hx hb dd_O_payLayer_150 rfl ?_
      refine va_get (D := D) (ci := 1) (v := .int (I v9 0)) (C := "OpenDeal$Player") (T := T_P) (N := 13) hx hb hk in_P hown hK hP v9 (at_P hv9) rfl 0 (by decide) (hk _ kw_51) (fun _ h9 => h9) rfl dd_O_payLayer_151 ?_
      refine lv_iload hx hb dd_O_payLayer_154 (lv_at hl 6 rfl) ?_
      refine lv_iload hx hb dd_O_payLayer_156 (lv_at hl 7 rfl) ?_
      refine lv_iadd hx hb dd_O_payLayer_158 ?_
      refine lv_iadd hx hb dd_O_payLayer_159 ?_
      refine va_put (D := D) (ci := 1) (v := .int ((I v9 0) + (v6 + v7))) (ty := .int) (C := "OpenDeal$Player") (T := T_P) (N := 13) hx hb hk in_P ty_P tk_P nm_P hown hK hP hD hS v9 (at_P hv9) rfl 0 (by decide) (hk _ kw_51) (fun _ h9 => h9) rfl (by decide +kernel) rfl rfl (Nat.le_of_ble_eq_true rfl) dd_O_payLayer_160 (fun H locs hP hD hS => ?_)
      rw [pt_P0 hv9] at hP hD
      refine lv_iconst (v := 0) hx hb dd_O_payLayer_163 (by decide) ?_
      refine lv_istore (lv' := [(7, .int (0 : Int32)), (0, .ref (ad 0)), (1, .int v1), (2, .int v2), (3, .int v3), (4, .int v4), (5, .int v5), (6, .int v6), (8, .int v8), (9, .ref (ad v9))]) hx hb dd_O_payLayer_164 hl (by decide) rfl (fun ls hl => ?_)
      exact L166 _ hk92 _ _ _ _ _ _ _ _ _ _ _ _ hv9 h _ _ hP hD hS _ (lv_sub hl [1, 2, 3, 4, 5, 6, 7, 0, 8, 9] rfl)
  have L92 : ∀  (n : Nat) (I : MI) (J : MJ) (v1 : Int32) (v2 : Int32) (v3 : Int32) (v4 : Int32) (v5 : Int32) (v6 : Int32) (v7 : Int32) (v8 : Int32), ff_O_payLayer_92 n I J v1 v2 v3 v4 v5 v6 v7 v8 = some r → ∀ (H : Heap) (locs : List Loc), va_P D cls5 (wC kc ad I J) H → va_D A (wC kc ad I J) → va_S A s.heap H locs → ∀ ls, lv_has ls 10 [(0, .ref (ad 0)), (1, .int v1), (2, .int v2), (3, .int v3), (4, .int v4), (5, .int v5), (6, .int v6), (7, .int v7), (8, .int v8)] → W p l e (headSpec (.code yy_O_payLayer cc_O_payLayer 10 (none) :: kw) { frames := 2, cells := 0, slots := 0, locals := 44 }).room s m ([.ref (ad 0), .int a1, .int a2] : List Value).toArray below meth c H locs 0 0 (MQ below (va_Qv (fun (_ : Unit) => True) (EW D kc A (wC kc ad r.1 r.2)) A) ([.ref (ad 0), .int a1, .int a2] : List Value).toArray s 0 0 A) (F0 m 92 ls []) := by
    intro  n
    induction n with
    | zero => intro I J v1 v2 v3 v4 v5 v6 v7 v8 h; exact absurd h (by simp [ff_O_payLayer_92])
    | succ n ih =>
      intro I J v1 v2 v3 v4 v5 v6 v7 v8 h H locs hP hD hS ls hl
      rw [ff_O_payLayer_92] at h
      refine lv_iload hx hb dd_O_payLayer_92 (lv_at hl 8 rfl) ?_
      refine lv_aload_n hx hb dd_O_payLayer_94 rfl (lv_at hl 0 rfl) ?_
      refine va_get (D := D) (ci := 0) (v := .int (I 0 2)) (C := "OpenDeal") (T := T_O) (N := 11) hx hb hk in_O hown hK hP 0 at_O rfl 2 (by decide) (hk _ kw_107) (fun _ h9 => h9) rfl dd_O_payLayer_95 ?_
      refine lv_icmp_ge (tgt := 195) hx hb dd_O_payLayer_98 (by decide) (fun hc4 => ?_) (fun hc4 => ?_)
      · have h := ip_out hc4 h
        obtain rfl := Option.some.inj h
        exact W.vret hx hb hr (fun t ht hW => ⟨⟨(), rfl, trivial, by rw [ht]; exact hP, va_K.moved hW.alike hK, hD⟩, hS.F ht⟩) hS.2.2 dd_O_payLayer_195
      · have h := in_out hc4 h
        refine lv_aload_n hx hb dd_O_payLayer_101 rfl (lv_at hl 0 rfl) ?_
        refine va_get (D := D) (ci := 0) (v := .ref (ad 1)) (C := "OpenDeal") (T := T_O) (N := 11) hx hb hk in_O hown hK hP 0 at_O rfl 3 (by decide) (hk _ kw_108) (fun _ h9 => h9) rfl dd_O_payLayer_102 ?_
        refine lv_iload hx hb dd_O_payLayer_105 (lv_at hl 8 rfl) ?_
        obtain ⟨hi5, h⟩ := oi_out h
        refine ap_ald (b := ad (15 + 6 * (v8).toNatClampNeg)) hx hb hK hP 1 3 at_pl rfl hi5 (if_pos (vi_lt hi5)) dd_O_payLayer_107 ?_
        refine lv_astore (lv' := [(9, .ref (ad (15 + 6 * (v8).toNatClampNeg))), (0, .ref (ad 0)), (1, .int v1), (2, .int v2), (3, .int v3), (4, .int v4), (5, .int v5), (6, .int v6), (7, .int v7), (8, .int v8)]) hx hb dd_O_payLayer_108 hl (by decide) rfl (fun ls hl => ?_)
        refine lv_iload hx hb dd_O_payLayer_110 (lv_at hl 6 rfl) ?_
        refine lv_if_ne (tgt := 137) hx hb dd_O_payLayer_112 (by decide) (fun hc6 => ?_) (fun hc6 => ?_)
        · have h := in_out hc6 h
          exact L137 _ ih _ _ _ _ _ _ _ _ _ _ _ _ (isP_of (vi_lt hi5)) h _ _ hP hD hS _ (lv_sub hl [1, 2, 3, 4, 5, 6, 7, 8, 9, 0] rfl)
        · have h := ip_out hc6 h
          refine lv_aload hx hb dd_O_payLayer_115 (lv_at hl 0 rfl) ?_
          refine va_get (D := D) (ci := 1) (v := .int (I (15 + 6 * (v8).toNatClampNeg) 1)) (C := "OpenDeal$Player") (T := T_P) (N := 13) hx hb hk in_P hown hK hP (15 + 6 * (v8).toNatClampNeg) (at_P (isP_of (vi_lt hi5))) rfl 1 (by decide) (hk _ kw_53) (fun _ h9 => h9) rfl dd_O_payLayer_117 ?_
          refine lv_if_le (tgt := 137) hx hb dd_O_payLayer_120 (by decide) (fun hc7 => ?_) (fun hc7 => ?_)
          · have h := ip_out hc7 h
            exact L137 _ ih _ _ _ _ _ _ _ _ _ _ _ _ (isP_of (vi_lt hi5)) h _ _ hP hD hS _ (lv_sub hl [1, 2, 3, 4, 5, 6, 7, 8, 9, 0] rfl)
          · have h := in_out hc7 h
            refine lv_aload hx hb dd_O_payLayer_123 (lv_at hl 0 rfl) ?_
            refine lv_dup hx hb dd_O_payLayer_125 rfl ?_
            refine va_get (D := D) (ci := 1) (v := .int (I (15 + 6 * (v8).toNatClampNeg) 0)) (C := "OpenDeal$Player") (T := T_P) (N := 13) hx hb hk in_P hown hK hP (15 + 6 * (v8).toNatClampNeg) (at_P (isP_of (vi_lt hi5))) rfl 0 (by decide) (hk _ kw_51) (fun _ h9 => h9) rfl dd_O_payLayer_126 ?_
            refine lv_iload_n hx hb dd_O_payLayer_129 rfl (lv_at hl 2 rfl) ?_
            refine lv_iadd hx hb dd_O_payLayer_130 ?_
            refine va_put (D := D) (ci := 1) (v := .int ((I (15 + 6 * (v8).toNatClampNeg) 0) + v1)) (ty := .int) (C := "OpenDeal$Player") (T := T_P) (N := 13) hx hb hk in_P ty_P tk_P nm_P hown hK hP hD hS (15 + 6 * (v8).toNatClampNeg) (at_P (isP_of (vi_lt hi5))) rfl 0 (by decide) (hk _ kw_51) (fun _ h9 => h9) rfl (by decide +kernel) rfl rfl (Nat.le_of_ble_eq_true rfl) dd_O_payLayer_131 (fun H locs hP hD hS => ?_)
            rw [pt_P0 (isP_of (vi_lt hi5))] at hP hD
            refine lv_goto (tgt := 166) hx hb dd_O_payLayer_134 (by decide) ?_
            exact L166 _ ih _ _ _ _ _ _ _ _ _ _ _ _ (isP_of (vi_lt hi5)) h _ _ hP hD hS _ (lv_sub hl [1, 2, 3, 4, 5, 6, 7, 8, 9, 0] rfl)
  have L77 : ∀  (n : Nat) (I : MI) (J : MJ) (v1 : Int32) (v2 : Int32) (v3 : Int32) (v4 : Int32) (v5 : Int32) (v6 : Int32) (s0 : Int32), ff_O_payLayer_77 n I J v1 v2 v3 v4 v5 v6 s0 = some r → ∀ (H : Heap) (locs : List Loc), va_P D cls5 (wC kc ad I J) H → va_D A (wC kc ad I J) → va_S A s.heap H locs → ∀ ls, lv_has ls 10 [(0, .ref (ad 0)), (1, .int v1), (2, .int v2), (3, .int v3), (4, .int v4), (5, .int v5), (6, .int v6)] → W p l e (headSpec (.code yy_O_payLayer cc_O_payLayer 10 (none) :: kw) { frames := 2, cells := 0, slots := 0, locals := 44 }).room s m ([.ref (ad 0), .int a1, .int a2] : List Value).toArray below meth c H locs 0 0 (MQ below (va_Qv (fun (_ : Unit) => True) (EW D kc A (wC kc ad r.1 r.2)) A) ([.ref (ad 0), .int a1, .int a2] : List Value).toArray s 0 0 A) (F0 m 77 ls [.int s0]) := by
    intro  n I J v1 v2 v3 v4 v5 v6 s0 h H locs hP hD hS ls hl
    unfold ff_O_payLayer_77 at h
    refine lv_istore (lv' := [(6, .int s0), (0, .ref (ad 0)), (1, .int v1), (2, .int v2), (3, .int v3), (4, .int v4), (5, .int v5)]) hx hb dd_O_payLayer_77 hl (by decide) rfl (fun ls hl => ?_)
    refine lv_iload hx hb dd_O_payLayer_79 (lv_at hl 5 rfl) ?_
    refine lv_iload hx hb dd_O_payLayer_81 (lv_at hl 0 rfl) ?_
    refine lv_iload hx hb dd_O_payLayer_83 (lv_at hl 6 rfl) ?_
    refine lv_imul hx hb dd_O_payLayer_85 ?_
    refine lv_isub hx hb dd_O_payLayer_86 ?_
    refine lv_topi (fun y8 ey8 => ?_)
    have h := tl_at ey8 h
    refine lv_istore (lv' := [(7, .int y8), (6, .int s0), (0, .ref (ad 0)), (1, .int v1), (2, .int v2), (3, .int v3), (4, .int v4), (5, .int v5)]) hx hb dd_O_payLayer_87 hl (by decide) rfl (fun ls hl => ?_)
    refine lv_iconst (v := 0) hx hb dd_O_payLayer_89 (by decide) ?_
    refine lv_istore (lv' := [(8, .int (0 : Int32)), (7, .int y8), (6, .int s0), (0, .ref (ad 0)), (1, .int v1), (2, .int v2), (3, .int v3), (4, .int v4), (5, .int v5)]) hx hb dd_O_payLayer_90 hl (by decide) rfl (fun ls hl => ?_)
    exact L92  _ _ _ _ _ _ _ _ _ _ _ h _ _ hP hD hS _ (lv_sub hl [3, 4, 5, 6, 7, 8, 2, 1, 0] rfl)
  have L43 : ∀ (k15 : MI → MJ → Int32 → Int32 → Int32 → Int32 → Int32 → Int32 → Option (MI × MJ)) (hk15 : ∀ (I : MI) (J : MJ) (v1 : Int32) (v2 : Int32) (v3 : Int32) (v4 : Int32) (v5 : Int32) (v6 : Int32), k15 I J v1 v2 v3 v4 v5 v6 = some r → ∀ (H : Heap) (locs : List Loc), va_P D cls5 (wC kc ad I J) H → va_D A (wC kc ad I J) → va_S A s.heap H locs → ∀ ls, lv_has ls 10 [(0, .ref (ad 0)), (1, .int v1), (2, .int v2), (3, .int v3), (4, .int v4), (5, .int v5), (6, .int v6)] → W p l e (headSpec (.code yy_O_payLayer cc_O_payLayer 10 (none) :: kw) { frames := 2, cells := 0, slots := 0, locals := 44 }).room s m ([.ref (ad 0), .int a1, .int a2] : List Value).toArray below meth c H locs 0 0 (MQ below (va_Qv (fun (_ : Unit) => True) (EW D kc A (wC kc ad r.1 r.2)) A) ([.ref (ad 0), .int a1, .int a2] : List Value).toArray s 0 0 A) (F0 m 15 ls [])) (n : Nat) (I : MI) (J : MJ) (v1 : Int32) (v2 : Int32) (v3 : Int32) (v4 : Int32) (v5 : Int32) (v6 : Int32), ff_O_payLayer_43 k15 n I J v1 v2 v3 v4 v5 v6 = some r → ∀ (H : Heap) (locs : List Loc), va_P D cls5 (wC kc ad I J) H → va_D A (wC kc ad I J) → va_S A s.heap H locs → ∀ ls, lv_has ls 10 [(0, .ref (ad 0)), (1, .int v1), (2, .int v2), (3, .int v3), (4, .int v4), (5, .int v5), (6, .int v6)] → W p l e (headSpec (.code yy_O_payLayer cc_O_payLayer 10 (none) :: kw) { frames := 2, cells := 0, slots := 0, locals := 44 }).room s m ([.ref (ad 0), .int a1, .int a2] : List Value).toArray below meth c H locs 0 0 (MQ below (va_Qv (fun (_ : Unit) => True) (EW D kc A (wC kc ad r.1 r.2)) A) ([.ref (ad 0), .int a1, .int a2] : List Value).toArray s 0 0 A) (F0 m 43 ls []) := by
    intro k15 hk15 n I J v1 v2 v3 v4 v5 v6 h H locs hP hD hS ls hl
    unfold ff_O_payLayer_43 at h
    refine lv_aload_n hx hb dd_O_payLayer_43 rfl (lv_at hl 0 rfl) ?_
    refine lv_iload hx hb dd_O_payLayer_44 (lv_at hl 6 rfl) ?_
    refine lv_iload_n hx hb dd_O_payLayer_46 rfl (lv_at hl 2 rfl) ?_
    refine lv_iload_n hx hb dd_O_payLayer_47 rfl (lv_at hl 3 rfl) ?_
    obtain ⟨r9, hr9, h⟩ := ob_out h
    refine cr_Vi (n := 3) (As := [.int v6, .int v2, .int v3]) hx hb hml hown hk (mm_O_winsLayer l D kc ad _ _ _ _ _ _ _ hr9) hK hP 0 at_O rfl rfl kw_374 kw_376 sel_O_winsLayer kw_1 kw_377 ⟨rfl, rfl⟩ (by decide +kernel) ⟨Nat.le_of_ble_eq_true rfl, Nat.le_of_ble_eq_true rfl⟩ rfl hl.1 rfl (Nat.le_of_ble_eq_true rfl) dd_O_payLayer_48 ⟨Nat.le_of_ble_eq_true rfl, Nat.le_of_ble_eq_true rfl⟩ ?_
    refine lv_if_eq (tgt := 57) hx hb dd_O_payLayer_51 (by decide) (fun hc10 => ?_) (fun hc10 => ?_)
    · have h := ip_out hc10 h
      refine lv_iinc (v := v6 + (1 : Int32)) (lv' := [(6, .int (v6 + (1 : Int32))), (0, .ref (ad 0)), (1, .int v1), (2, .int v2), (3, .int v3), (4, .int v4), (5, .int v5)]) hx hb dd_O_payLayer_57 hl (k := 6) rfl rfl (by decide) rfl (fun ls hl => ?_)
      refine lv_goto (tgt := 15) hx hb dd_O_payLayer_60 (by decide) ?_
      exact hk15 _ _ _ _ _ _ _ _ h _ _ hP hD hS _ (lv_sub hl [1, 2, 3, 4, 5, 6, 0] rfl)
    · have h := in_out hc10 h
      refine lv_iinc (v := v5 + (1 : Int32)) (lv' := [(5, .int (v5 + (1 : Int32))), (0, .ref (ad 0)), (1, .int v1), (2, .int v2), (3, .int v3), (4, .int v4), (6, .int v6)]) hx hb dd_O_payLayer_54 hl (k := 5) rfl rfl (by decide) rfl (fun ls hl => ?_)
      refine lv_iinc (v := v6 + (1 : Int32)) (lv' := [(6, .int (v6 + (1 : Int32))), (5, .int (v5 + (1 : Int32))), (0, .ref (ad 0)), (1, .int v1), (2, .int v2), (3, .int v3), (4, .int v4)]) hx hb dd_O_payLayer_57 hl (k := 6) rfl rfl (by decide) rfl (fun ls hl => ?_)
      refine lv_goto (tgt := 15) hx hb dd_O_payLayer_60 (by decide) ?_
      exact hk15 _ _ _ _ _ _ _ _ h _ _ hP hD hS _ (lv_sub hl [2, 3, 4, 5, 6, 1, 0] rfl)
  have L15 : ∀  (n : Nat) (I : MI) (J : MJ) (v1 : Int32) (v2 : Int32) (v3 : Int32) (v4 : Int32) (v5 : Int32) (v6 : Int32), ff_O_payLayer_15 n I J v1 v2 v3 v4 v5 v6 = some r → ∀ (H : Heap) (locs : List Loc), va_P D cls5 (wC kc ad I J) H → va_D A (wC kc ad I J) → va_S A s.heap H locs → ∀ ls, lv_has ls 10 [(0, .ref (ad 0)), (1, .int v1), (2, .int v2), (3, .int v3), (4, .int v4), (5, .int v5), (6, .int v6)] → W p l e (headSpec (.code yy_O_payLayer cc_O_payLayer 10 (none) :: kw) { frames := 2, cells := 0, slots := 0, locals := 44 }).room s m ([.ref (ad 0), .int a1, .int a2] : List Value).toArray below meth c H locs 0 0 (MQ below (va_Qv (fun (_ : Unit) => True) (EW D kc A (wC kc ad r.1 r.2)) A) ([.ref (ad 0), .int a1, .int a2] : List Value).toArray s 0 0 A) (F0 m 15 ls []) := by
    intro  n
    induction n with
    | zero => intro I J v1 v2 v3 v4 v5 v6 h; exact absurd h (by simp [ff_O_payLayer_15])
    | succ n ih =>
      intro I J v1 v2 v3 v4 v5 v6 h H locs hP hD hS ls hl
      rw [ff_O_payLayer_15] at h
      refine lv_iload hx hb dd_O_payLayer_15 (lv_at hl 6 rfl) ?_
      refine lv_aload_n hx hb dd_O_payLayer_17 rfl (lv_at hl 0 rfl) ?_
      refine va_get (D := D) (ci := 0) (v := .int (I 0 2)) (C := "OpenDeal") (T := T_O) (N := 11) hx hb hk in_O hown hK hP 0 at_O rfl 2 (by decide) (hk _ kw_107) (fun _ h9 => h9) rfl dd_O_payLayer_18 ?_
      refine lv_icmp_ge (tgt := 63) hx hb dd_O_payLayer_21 (by decide) (fun hc11 => ?_) (fun hc11 => ?_)
      · have h := ip_out hc11 h
        refine lv_iload hx hb dd_O_payLayer_63 (lv_at hl 5 rfl) ?_
        refine lv_if_le (tgt := 76) hx hb dd_O_payLayer_65 (by decide) (fun hc12 => ?_) (fun hc12 => ?_)
        · have h := ip_out hc12 h
          refine lv_iconst (v := 0) hx hb dd_O_payLayer_76 (by decide) ?_
          exact L77  _ _ _ _ _ _ _ _ _ _ h _ _ hP hD hS _ (lv_sub hl [0, 1, 2, 3, 4, 5, 6] rfl)
        · have h := in_out hc12 h
          refine lv_iload hx hb dd_O_payLayer_68 (lv_at hl 4 rfl) ?_
          refine lv_iload hx hb dd_O_payLayer_70 (lv_at hl 5 rfl) ?_
          obtain ⟨hz13, h⟩ := oi_out h
          refine lv_idiv hx hb dd_O_payLayer_72 hz13 ?_
          refine lv_goto (tgt := 77) hx hb dd_O_payLayer_73 (by decide) ?_
          exact L77  _ _ _ _ _ _ _ _ _ _ h _ _ hP hD hS _ (lv_sub hl [0, 1, 2, 3, 4, 5, 6] rfl)
      · have h := in_out hc11 h
        refine lv_aload_n hx hb dd_O_payLayer_24 rfl (lv_at hl 0 rfl) ?_
        refine va_get (D := D) (ci := 0) (v := .ref (ad 1)) (C := "OpenDeal") (T := T_O) (N := 11) hx hb hk in_O hown hK hP 0 at_O rfl 3 (by decide) (hk _ kw_108) (fun _ h9 => h9) rfl dd_O_payLayer_25 ?_
        refine lv_iload hx hb dd_O_payLayer_28 (lv_at hl 6 rfl) ?_
        obtain ⟨hi14, h⟩ := oi_out h
        refine ap_ald (b := ad (15 + 6 * (v6).toNatClampNeg)) hx hb hK hP 1 3 at_pl rfl hi14 (if_pos (vi_lt hi14)) dd_O_payLayer_30 ?_
        refine va_get (D := D) (ci := 1) (v := .int (I (15 + 6 * (v6).toNatClampNeg) 1)) (C := "OpenDeal$Player") (T := T_P) (N := 13) hx hb hk in_P hown hK hP (15 + 6 * (v6).toNatClampNeg) (at_P (isP_of (vi_lt hi14))) rfl 1 (by decide) (hk _ kw_53) (fun _ h9 => h9) rfl dd_O_payLayer_31 ?_
        refine lv_if_le (tgt := 43) hx hb dd_O_payLayer_34 (by decide) (fun hc15 => ?_) (fun hc15 => ?_)
        · have h := ip_out hc15 h
          exact L43 _ ih _ _ _ _ _ _ _ _ _ h _ _ hP hD hS _ (lv_sub hl [0, 1, 2, 3, 4, 5, 6] rfl)
        · have h := in_out hc15 h
          refine lv_iload hx hb dd_O_payLayer_37 (lv_at hl 4 rfl) ?_
          refine lv_iload_n hx hb dd_O_payLayer_39 rfl (lv_at hl 1 rfl) ?_
          refine lv_iadd hx hb dd_O_payLayer_40 ?_
          refine lv_topi (fun y16 ey16 => ?_)
          have h := tl_at ey16 h
          refine lv_istore (lv' := [(4, .int y16), (0, .ref (ad 0)), (1, .int v1), (2, .int v2), (3, .int v3), (5, .int v5), (6, .int v6)]) hx hb dd_O_payLayer_41 hl (by decide) rfl (fun ls hl => ?_)
          exact L43 _ ih _ _ _ _ _ _ _ _ _ h _ _ hP hD hS _ (lv_sub hl [1, 2, 3, 4, 0, 5, 6] rfl)
  have hl := lv_entry ([.ref (ad 0), .int a1, .int a2]) (n := 10) (Nat.le_of_ble_eq_true rfl)
  rw [lg_entry_eq]
  generalize (lg_sl ([.ref (ad 0), .int a1, .int a2]) ++ List.replicate (10 - (lg_sl ([.ref (ad 0), .int a1, .int a2])).length) Slot.unset).toArray = ls at hl ⊢
  have hl : lv_has ls 10 [(0, .ref (ad 0)), (1, .int a1), (2, .int a2)] := hl
  unfold ff_O_payLayer at h
  refine lv_aload_n hx hb dd_O_payLayer_0 rfl (lv_at hl 0 rfl) ?_
  refine lv_iload_n hx hb dd_O_payLayer_1 rfl (lv_at hl 2 rfl) ?_
  obtain ⟨r17, hr17, h⟩ := ob_out h
  refine cr_Vi (n := 1) (As := [.int a2]) hx hb hml hown hk (mm_O_bestRank l D kc ad _ _ _ _ _ hr17) hK hP 0 at_O rfl rfl kw_363 kw_365 sel_O_bestRank kw_1 kw_366 ⟨rfl, rfl⟩ (by decide +kernel) ⟨Nat.le_of_ble_eq_true rfl, Nat.le_of_ble_eq_true rfl⟩ rfl hl.1 rfl (Nat.le_of_ble_eq_true rfl) dd_O_payLayer_2 ⟨Nat.le_of_ble_eq_true rfl, Nat.le_of_ble_eq_true rfl⟩ ?_
  refine lv_istore_n (lv' := [(3, .int r17), (0, .ref (ad 0)), (1, .int a1), (2, .int a2)]) hx hb dd_O_payLayer_5 rfl hl (by decide) rfl (fun ls hl => ?_)
  refine lv_iconst (v := 0) hx hb dd_O_payLayer_6 (by decide) ?_
  refine lv_istore (lv' := [(4, .int (0 : Int32)), (3, .int r17), (0, .ref (ad 0)), (1, .int a1), (2, .int a2)]) hx hb dd_O_payLayer_7 hl (by decide) rfl (fun ls hl => ?_)
  refine lv_iconst (v := 0) hx hb dd_O_payLayer_9 (by decide) ?_
  refine lv_istore (lv' := [(5, .int (0 : Int32)), (4, .int (0 : Int32)), (3, .int r17), (0, .ref (ad 0)), (1, .int a1), (2, .int a2)]) hx hb dd_O_payLayer_10 hl (by decide) rfl (fun ls hl => ?_)
  refine lv_iconst (v := 0) hx hb dd_O_payLayer_12 (by decide) ?_
  refine lv_istore (lv' := [(6, .int (0 : Int32)), (5, .int (0 : Int32)), (4, .int (0 : Int32)), (3, .int r17), (0, .ref (ad 0)), (1, .int a1), (2, .int a2)]) hx hb dd_O_payLayer_13 hl (by decide) rfl (fun ls hl => ?_)
  exact L15  _ _ _ _ _ _ _ _ _ h _ _ hP hD hS _ (lv_sub hl [4, 5, 6, 3, 2, 1, 0] rfl)
def ff_O_settle_20  : Nat → MI → MJ → Int32 → Int32 → Option (Int32 × MI × MJ)
  | 0, _, _, _, _ => none
  | n + 1, I, J, v1, v2 => if (I 0 2) ≤ v2 then (some ((1 : Int32), ui I 0 1 (5 : Int32), J)) else ((ff_O_leastInHand n I J ).bind fun r2 => (ff_O_payLayer n I J r2 v1).bind fun r3 => ff_O_settle_20 n r3.1 r3.2 v1 (v2 + (1 : Int32)))
def ff_O_settle (n : Nat) (I : MI) (J : MJ) (a1 : Int32) : Option (Int32 × MI × MJ) := if (I 0 1) = (4 : Int32) then (if (I 0 7) = (-1 : Int32) then (ff_O_settle_20 n I J a1 (0 : Int32)) else (some ((0 : Int32), I, J))) else (some ((0 : Int32), I, J))
set_option maxHeartbeats 4000000 in
set_option maxRecDepth 100000 in
theorem mm_O_settle (l : Launch) (D : va_G) (kc : Nat → ClassId) (ad : Nat → Nat) (I0 : MI) (J0 : MJ) (sz n : Nat) (a1 : Int32) (r : Int32 × MI × MJ) (h : ff_O_settle n I0 J0 a1 = some r) : Met l yy_O_settle (.code yy_O_settle cc_O_settle 3 (some .boolean) :: kw) { frames := 3, cells := 0, slots := 0, locals := 73 } (va_Pc [.ref (ad 0), .int a1] (BW D kc (wC kc ad I0 J0) sz)) (va_Qi (fun z (_ : Unit) => z = r.1) (EW D kc (va_A (wC kc ad I0 J0) sz) (wC kc ad r.2.1 r.2.2)) (va_A (wC kc ad I0 J0) sz)) 0 0 (va_A (wC kc ad I0 J0) sz) := by
  refine Met.ofW (cc := cc_O_settle) (maxL := 3) (ret := some .boolean) (by decide) rfl ?_
  intro p e s m args below meth c s₁ B hml hv
  obtain ⟨rfl, hsz, hP, hK, hD0⟩ := hv
  have hx := B.exec
  have hb := B.bytes
  have hr := B.returns
  have hlocks := B.notSynchronized
  have hk : ∀ w ∈ kw, w.before _ s = true := fun w hw => atoms_spec (ws := (.code yy_O_settle cc_O_settle 3 (some .boolean) :: kw)) B.pre w (List.mem_cons_of_mem _ hw)
  have hown : s.vm.findClass "OpenDeal" = some m.cls := findClass_of_methodNamed B.named
  subst hsz
  have hD := hD0.self (sz := s.heap.size)
  generalize hAe : va_A (wC kc ad I0 J0) s.heap.size = A at hD ⊢
  have hA : ∀ q : Nat, s.heap.size ≤ q → A q := fun q h => by rw [← hAe]; exact Or.inr h
  have hS : va_S A s.heap s.heap [] := va_S.rf
  have hP : va_P D cls5 (wC kc ad I0 J0) s.heap := hP
  clear hAe hD0
  have L20 : ∀  (n : Nat) (I : MI) (J : MJ) (v1 : Int32) (v2 : Int32), ff_O_settle_20 n I J v1 v2 = some r → ∀ (H : Heap) (locs : List Loc), va_P D cls5 (wC kc ad I J) H → va_D A (wC kc ad I J) → va_S A s.heap H locs → ∀ ls, lv_has ls 3 [(0, .ref (ad 0)), (1, .int v1), (2, .int v2)] → W p l e (headSpec (.code yy_O_settle cc_O_settle 3 (some .boolean) :: kw) { frames := 3, cells := 0, slots := 0, locals := 73 }).room s m ([.ref (ad 0), .int a1] : List Value).toArray below meth c H locs 0 0 (MQ below (va_Qi (fun z (_ : Unit) => z = r.1) (EW D kc A (wC kc ad r.2.1 r.2.2)) A) ([.ref (ad 0), .int a1] : List Value).toArray s 0 0 A) (F0 m 20 ls []) := by
    intro  n
    induction n with
    | zero => intro I J v1 v2 h; exact absurd h (by simp [ff_O_settle_20])
    | succ n ih =>
      intro I J v1 v2 h H locs hP hD hS ls hl
      rw [ff_O_settle_20] at h
      refine lv_iload_n hx hb dd_O_settle_20 rfl (lv_at hl 2 rfl) ?_
      refine lv_aload_n hx hb dd_O_settle_21 rfl (lv_at hl 0 rfl) ?_
      refine va_get (D := D) (ci := 0) (v := .int (I 0 2)) (C := "OpenDeal") (T := T_O) (N := 11) hx hb hk in_O hown hK hP 0 at_O rfl 2 (by decide) (hk _ kw_107) (fun _ h9 => h9) rfl dd_O_settle_22 ?_
      refine lv_icmp_ge (tgt := 43) hx hb dd_O_settle_25 (by decide) (fun hc1 => ?_) (fun hc1 => ?_)
      · have h := ip_out hc1 h
        refine lv_aload_n hx hb dd_O_settle_43 rfl (lv_at hl 0 rfl) ?_
        refine lv_iconst (v := 5) hx hb dd_O_settle_44 (by decide) ?_
        refine va_put (D := D) (ci := 0) (v := .int (5 : Int32)) (ty := .int) (C := "OpenDeal") (T := T_O) (N := 11) hx hb hk in_O ty_O tk_O nm_O hown hK hP hD hS 0 at_O rfl 1 (by decide) (hk _ kw_106) (fun _ h9 => h9) rfl (by decide +kernel) rfl rfl (Nat.le_of_ble_eq_true rfl) dd_O_settle_45 (fun H locs hP hD hS => ?_)
        rw [pt_O1] at hP hD
        refine lv_iconst (v := 1) hx hb dd_O_settle_48 (by decide) ?_
        obtain rfl := Option.some.inj h
        exact W.zret hx hb hr rfl (fun t ht hW => ⟨⟨_, (), rfl, rfl, by rw [ht]; exact hP, va_K.moved hW.alike hK, hD⟩, hS.F ht⟩) hS.2.2 dd_O_settle_49
      · have h := in_out hc1 h
        refine lv_aload_n hx hb dd_O_settle_28 rfl (lv_at hl 0 rfl) ?_
        refine lv_aload_n hx hb dd_O_settle_29 rfl (lv_at hl 0 rfl) ?_
        obtain ⟨r2, hr2, h⟩ := ob_out h
        refine cr_Vi (n := 0) (As := []) hx hb hml hown hk (mm_O_leastInHand l D kc ad _ _ _  _ hr2) hK hP 0 at_O rfl rfl kw_355 kw_357 sel_O_leastInHand kw_1 kw_358 ⟨rfl, rfl⟩ (by decide +kernel) ⟨Nat.le_of_ble_eq_true rfl, Nat.le_of_ble_eq_true rfl⟩ rfl hl.1 rfl (Nat.le_of_ble_eq_true rfl) dd_O_settle_30 ⟨Nat.le_of_ble_eq_true rfl, Nat.le_of_ble_eq_true rfl⟩ ?_
        refine lv_iload_n hx hb dd_O_settle_33 rfl (lv_at hl 1 rfl) ?_
        obtain ⟨r3, hr3, h⟩ := ob_out h
        refine cw_Vv (n := 2) (As := [.int r2, .int v1]) (mc := 0) (ms := 0) hx hb hml hown hk (mm_O_payLayer l D kc ad _ _ _ _ _ _ _ hr3) hK hP hD hS hA 0 at_O rfl rfl kw_359 kw_361 sel_O_payLayer kw_1 kw_362 ⟨rfl, rfl⟩ (by decide +kernel) ⟨Nat.le_of_ble_eq_true rfl, Nat.le_of_ble_eq_true rfl⟩ rfl hl.1 rfl (Nat.le_of_ble_eq_true rfl) dd_O_settle_34 ⟨Nat.le_of_ble_eq_true rfl, Nat.le_of_ble_eq_true rfl⟩ (fun H locs hP hD hS => ?_)
        refine lv_iinc (v := v2 + (1 : Int32)) (lv' := [(2, .int (v2 + (1 : Int32))), (0, .ref (ad 0)), (1, .int v1)]) hx hb dd_O_settle_37 hl (k := 2) rfl rfl (by decide) rfl (fun ls hl => ?_)
        refine lv_goto (tgt := 20) hx hb dd_O_settle_40 (by decide) ?_
        exact ih _ _ _ _ h _ _ hP hD hS _ (lv_sub hl [1, 2, 0] rfl)
  have hl := lv_entry ([.ref (ad 0), .int a1]) (n := 3) (Nat.le_of_ble_eq_true rfl)
  rw [lg_entry_eq]
  generalize (lg_sl ([.ref (ad 0), .int a1]) ++ List.replicate (3 - (lg_sl ([.ref (ad 0), .int a1])).length) Slot.unset).toArray = ls at hl ⊢
  have hl : lv_has ls 3 [(0, .ref (ad 0)), (1, .int a1)] := hl
  unfold ff_O_settle at h
  refine lv_aload_n hx hb dd_O_settle_0 rfl (lv_at hl 0 rfl) ?_
  refine va_get (D := D) (ci := 0) (v := .int (I0 0 1)) (C := "OpenDeal") (T := T_O) (N := 11) hx hb hk in_O hown hK hP 0 at_O rfl 1 (by decide) (hk _ kw_106) (fun _ h9 => h9) rfl dd_O_settle_1 ?_
  refine lv_iconst (v := 4) hx hb dd_O_settle_4 (by decide) ?_
  refine lv_icmp_ne (tgt := 16) hx hb dd_O_settle_5 (by decide) (fun hc4 => ?_) (fun hc4 => ?_)
  · have h := in_out hc4 h
    refine lv_iconst (v := 0) hx hb dd_O_settle_16 (by decide) ?_
    obtain rfl := Option.some.inj h
    exact W.zret hx hb hr rfl (fun t ht hW => ⟨⟨_, (), rfl, rfl, by rw [ht]; exact hP, va_K.moved hW.alike hK, hD⟩, hS.F ht⟩) hS.2.2 dd_O_settle_17
  · have h := ip_out hc4 h
    refine lv_aload_n hx hb dd_O_settle_8 rfl (lv_at hl 0 rfl) ?_
    refine va_get (D := D) (ci := 0) (v := .int (I0 0 7)) (C := "OpenDeal") (T := T_O) (N := 11) hx hb hk in_O hown hK hP 0 at_O rfl 7 (by decide) (hk _ kw_112) (fun _ h9 => h9) rfl dd_O_settle_9 ?_
    refine lv_iconst (v := -1) hx hb dd_O_settle_12 (by decide) ?_
    refine lv_icmp_eq (tgt := 18) hx hb dd_O_settle_13 (by decide) (fun hc5 => ?_) (fun hc5 => ?_)
    · have h := ip_out hc5 h
      refine lv_iconst (v := 0) hx hb dd_O_settle_18 (by decide) ?_
      refine lv_istore_n (lv' := [(2, .int (0 : Int32)), (0, .ref (ad 0)), (1, .int a1)]) hx hb dd_O_settle_19 rfl hl (by decide) rfl (fun ls hl => ?_)
      exact L20  _ _ _ _ _ h _ _ hP hD hS _ (lv_sub hl [1, 2, 0] rfl)
    · have h := in_out hc5 h
      refine lv_iconst (v := 0) hx hb dd_O_settle_16 (by decide) ?_
      obtain rfl := Option.some.inj h
      exact W.zret hx hb hr rfl (fun t ht hW => ⟨⟨_, (), rfl, rfl, by rw [ht]; exact hP, va_K.moved hW.alike hK, hD⟩, hS.F ht⟩) hS.2.2 dd_O_settle_17
def ff_P_showSecrets_58  (n : Nat) (I : MI) (J : MJ) (v0 : Nat) (v1 : Int32) (v2 : Int32) (v3 : Int64) (s0 : Nat) (s1 : Int32) (s2 : Int64) : Option (MI × MJ) := (ff_S_keep n I J s0 s1 s2 (J (v0 + 1) 2)).bind fun r1 => some (ui r1.1 v0 7 (1 : Int32), r1.2)
def ff_P_showSecrets_40  (n : Nat) (I : MI) (J : MJ) (v0 : Nat) (v1 : Int32) (v2 : Int32) (v3 : Int64) (s0 : Nat) (s1 : Int32) : Option (MI × MJ) := if ¬ ((4 : Int32) < 0 ∨ 5 ≤ ((4 : Int32)).toNatClampNeg) then if (lg_cmp (J (v0 + 5) ((4 : Int32)).toNatClampNeg) (0 : Int64)) = 0 then (ff_P_showSecrets_58 n I J v0 v1 v2 v3 s0 s1 v3) else (ff_P_showSecrets_58 n I J v0 v1 v2 v3 s0 s1 (v3 + (1 : Int64))) else none
def ff_P_showSecrets (n : Nat) (I : MI) (J : MJ) (a0 : Nat) (a1 : Int32) : Option (MI × MJ) := tl (I (a0 + 1) 0) fun y4 => tl (J (a0 + 1) 1) fun y5 => if ¬ ((3 : Int32) < 0 ∨ 5 ≤ ((3 : Int32)).toNatClampNeg) then if (lg_cmp (J (a0 + 5) ((3 : Int32)).toNatClampNeg) (0 : Int64)) = 0 then (ff_P_showSecrets_40 n I J a0 a1 y4 y5 (a0 + 2) y4) else ((ff_N_exponentAbove n y4 a1).bind fun r8 => ff_P_showSecrets_40 n I J a0 a1 y4 y5 (a0 + 2) r8) else none
set_option maxHeartbeats 4000000 in
set_option maxRecDepth 100000 in
theorem mm_P_showSecrets (l : Launch) (D : va_G) (kc : Nat → ClassId) (ad : Nat → Nat) (I0 : MI) (J0 : MJ) (sz n : Nat) (a0 : Nat) (ha0 : isP a0) (a1 : Int32) (r : MI × MJ) (h : ff_P_showSecrets n I0 J0 a0 a1 = some r) : Met l yy_P_showSecrets (.code yy_P_showSecrets cc_P_showSecrets 5 (none) :: kw) { frames := 2, cells := 0, slots := 0, locals := 43 } (va_Pc [.ref (ad a0), .int a1] (BW D kc (wC kc ad I0 J0) sz)) (va_Qv (fun (_ : Unit) => True) (EW D kc (va_A (wC kc ad I0 J0) sz) (wC kc ad r.1 r.2)) (va_A (wC kc ad I0 J0) sz)) 0 0 (va_A (wC kc ad I0 J0) sz) := by
  refine Met.ofW (cc := cc_P_showSecrets) (maxL := 5) (ret := none) (by decide) rfl ?_
  intro p e s m args below meth c s₁ B hml hv
  obtain ⟨rfl, hsz, hP, hK, hD0⟩ := hv
  have hx := B.exec
  have hb := B.bytes
  have hr := B.returns
  have hlocks := B.notSynchronized
  have hk : ∀ w ∈ kw, w.before _ s = true := fun w hw => atoms_spec (ws := (.code yy_P_showSecrets cc_P_showSecrets 5 (none) :: kw)) B.pre w (List.mem_cons_of_mem _ hw)
  have hown : s.vm.findClass "OpenDeal$Player" = some m.cls := findClass_of_methodNamed B.named
  subst hsz
  have hD := hD0.self (sz := s.heap.size)
  generalize hAe : va_A (wC kc ad I0 J0) s.heap.size = A at hD ⊢
  have hA : ∀ q : Nat, s.heap.size ≤ q → A q := fun q h => by rw [← hAe]; exact Or.inr h
  have hS : va_S A s.heap s.heap [] := va_S.rf
  have hP : va_P D cls5 (wC kc ad I0 J0) s.heap := hP
  clear hAe hD0
  have L58 : ∀  (n : Nat) (I : MI) (J : MJ) (v0 : Nat) (hv0 : isP v0) (v1 : Int32) (v2 : Int32) (v3 : Int64) (s0 : Nat) (hs0 : isS s0) (s1 : Int32) (s2 : Int64), ff_P_showSecrets_58 n I J v0 v1 v2 v3 s0 s1 s2 = some r → ∀ (H : Heap) (locs : List Loc), va_P D cls5 (wC kc ad I J) H → va_D A (wC kc ad I J) → va_S A s.heap H locs → ∀ ls, lv_has ls 5 [(0, .ref (ad v0)), (1, .int v1), (2, .int v2), (3, .long v3)] → W p l e (headSpec (.code yy_P_showSecrets cc_P_showSecrets 5 (none) :: kw) { frames := 2, cells := 0, slots := 0, locals := 43 }).room s m ([.ref (ad a0), .int a1] : List Value).toArray below meth c H locs 0 0 (MQ below (va_Qv (fun (_ : Unit) => True) (EW D kc A (wC kc ad r.1 r.2)) A) ([.ref (ad a0), .int a1] : List Value).toArray s 0 0 A) (F0 m 58 ls [.long s2, .int s1, .ref (ad s0)]) := by
    intro  n I J v0 hv0 v1 v2 v3 s0 hs0 s1 s2 h H locs hP hD hS ls hl
    unfold ff_P_showSecrets_58 at h
    refine lv_aload_n hx hb dd_P_showSecrets_58 rfl (lv_at hl 0 rfl) ?_
    refine va_get (D := D) (ci := 1) (v := .ref (ad (v0 + 1))) (C := "OpenDeal$Player") (T := T_P) (N := 13) hx hb hk in_P hown hK hP v0 (at_P hv0) rfl 8 (by decide) (hk _ kw_64) (fun _ h9 => h9) rfl dd_P_showSecrets_59 ?_
    refine va_get (D := D) (ci := 2) (v := .long (J (v0 + 1) 2)) (C := "OpenDeal$Secrets") (T := T_S) (N := 3) hx hb hk in_S hown hK hP (v0 + 1) (at_S (isP_S1 hv0)) rfl 2 (by decide) (hk _ kw_42) (fun _ h9 => h9) rfl dd_P_showSecrets_62 ?_
    obtain ⟨r1, hr1, h⟩ := ob_out h
    refine cw_Vv (n := 3) (As := [.int s1, .long s2, .long (J (v0 + 1) 2)]) (mc := 0) (ms := 0) hx hb hml hown hk (mm_S_keep l D kc ad _ _ _ _ _ hs0 _ _ _ _ hr1) hK hP hD hS hA s0 (at_S hs0) rfl rfl kw_387 kw_204 kw_205 kw_3 kw_206 ⟨rfl, rfl⟩ (by decide +kernel) ⟨Nat.le_of_ble_eq_true rfl, Nat.le_of_ble_eq_true rfl⟩ rfl hl.1 rfl (Nat.le_of_ble_eq_true rfl) dd_P_showSecrets_65 ⟨Nat.le_of_ble_eq_true rfl, Nat.le_of_ble_eq_true rfl⟩ (fun H locs hP hD hS => ?_)
    refine lv_aload_n hx hb dd_P_showSecrets_68 rfl (lv_at hl 0 rfl) ?_
    refine lv_iconst (v := 1) hx hb dd_P_showSecrets_69 (by decide) ?_
    refine va_put (D := D) (ci := 1) (v := .int (1 : Int32)) (ty := .boolean) (C := "OpenDeal$Player") (T := T_P) (N := 13) hx hb hk in_P ty_P tk_P nm_P hown hK hP hD hS v0 (at_P hv0) rfl 7 (by decide) (hk _ kw_62) (fun _ h9 => h9) rfl (by decide +kernel) rfl rfl (Nat.le_of_ble_eq_true rfl) dd_P_showSecrets_70 (fun H locs hP hD hS => ?_)
    rw [pt_P7 hv0] at hP hD
    obtain rfl := Option.some.inj h
    exact W.vret hx hb hr (fun t ht hW => ⟨⟨(), rfl, trivial, by rw [ht]; exact hP, va_K.moved hW.alike hK, hD⟩, hS.F ht⟩) hS.2.2 dd_P_showSecrets_73
  have L40 : ∀  (n : Nat) (I : MI) (J : MJ) (v0 : Nat) (hv0 : isP v0) (v1 : Int32) (v2 : Int32) (v3 : Int64) (s0 : Nat) (hs0 : isS s0) (s1 : Int32), ff_P_showSecrets_40 n I J v0 v1 v2 v3 s0 s1 = some r → ∀ (H : Heap) (locs : List Loc), va_P D cls5 (wC kc ad I J) H → va_D A (wC kc ad I J) → va_S A s.heap H locs → ∀ ls, lv_has ls 5 [(0, .ref (ad v0)), (1, .int v1), (2, .int v2), (3, .long v3)] → W p l e (headSpec (.code yy_P_showSecrets cc_P_showSecrets 5 (none) :: kw) { frames := 2, cells := 0, slots := 0, locals := 43 }).room s m ([.ref (ad a0), .int a1] : List Value).toArray below meth c H locs 0 0 (MQ below (va_Qv (fun (_ : Unit) => True) (EW D kc A (wC kc ad r.1 r.2)) A) ([.ref (ad a0), .int a1] : List Value).toArray s 0 0 A) (F0 m 40 ls [.int s1, .ref (ad s0)]) := by
    intro  n I J v0 hv0 v1 v2 v3 s0 hs0 s1 h H locs hP hD hS ls hl
    unfold ff_P_showSecrets_40 at h
    refine lv_aload_n hx hb dd_P_showSecrets_40 rfl (lv_at hl 0 rfl) ?_
    refine va_get (D := D) (ci := 1) (v := .ref (ad (v0 + 5))) (C := "OpenDeal$Player") (T := T_P) (N := 13) hx hb hk in_P hown hK hP v0 (at_P hv0) rfl 12 (by decide) (hk _ kw_72) (fun _ h9 => h9) rfl dd_P_showSecrets_41 ?_
    refine lv_iconst (v := 4) hx hb dd_P_showSecrets_44 (by decide) ?_
    obtain ⟨hi2, h⟩ := oi_out h
    refine va_lald hx hb hK hP (v0 + 5) 1 (at_L (isP_L hv0)) rfl hi2 dd_P_showSecrets_45 ?_
    refine lv_lconst (v := 0) hx hb dd_P_showSecrets_46 (by decide) ?_
    refine W.lcmp hx hb dd_P_showSecrets_47 ?_
    refine lv_if_eq (tgt := 57) hx hb dd_P_showSecrets_48 (by decide) (fun hc3 => ?_) (fun hc3 => ?_)
    · have h := ip_out hc3 h
      refine lv_lload_n hx hb dd_P_showSecrets_57 rfl (lv_at hl 3 rfl) ?_
      exact L58  _ _ _ _ hv0 _ _ _ _ hs0 _ _ h _ _ hP hD hS _ (lv_sub hl [0, 1, 2, 3] rfl)
    · have h := in_out hc3 h
      refine lv_lload_n hx hb dd_P_showSecrets_51 rfl (lv_at hl 3 rfl) ?_
      refine lv_lconst (v := 1) hx hb dd_P_showSecrets_52 (by decide) ?_
      refine lv_ladd hx hb dd_P_showSecrets_53 ?_
      refine lv_goto (tgt := 58) hx hb dd_P_showSecrets_54 (by decide) ?_
      exact L58  _ _ _ _ hv0 _ _ _ _ hs0 _ _ h _ _ hP hD hS _ (lv_sub hl [0, 1, 2, 3] rfl)
  have hl := lv_entry ([.ref (ad a0), .int a1]) (n := 5) (Nat.le_of_ble_eq_true rfl)
  rw [lg_entry_eq]
  generalize (lg_sl ([.ref (ad a0), .int a1]) ++ List.replicate (5 - (lg_sl ([.ref (ad a0), .int a1])).length) Slot.unset).toArray = ls at hl ⊢
  have hl : lv_has ls 5 [(0, .ref (ad a0)), (1, .int a1)] := hl
  unfold ff_P_showSecrets at h
  refine lv_aload_n hx hb dd_P_showSecrets_0 rfl (lv_at hl 0 rfl) ?_
  refine va_get (D := D) (ci := 1) (v := .ref (ad (a0 + 1))) (C := "OpenDeal$Player") (T := T_P) (N := 13) hx hb hk in_P hown hK hP a0 (at_P ha0) rfl 8 (by decide) (hk _ kw_64) (fun _ h9 => h9) rfl dd_P_showSecrets_1 ?_
  refine va_get (D := D) (ci := 2) (v := .int (I0 (a0 + 1) 0)) (C := "OpenDeal$Secrets") (T := T_S) (N := 3) hx hb hk in_S hown hK hP (a0 + 1) (at_S (isP_S1 ha0)) rfl 0 (by decide) (hk _ kw_36) (fun _ h9 => h9) rfl dd_P_showSecrets_4 ?_
  refine lv_topi (fun y4 ey4 => ?_)
  have h := tl_at ey4 h
  refine lv_istore_n (lv' := [(2, .int y4), (0, .ref (ad a0)), (1, .int a1)]) hx hb dd_P_showSecrets_7 rfl hl (by decide) rfl (fun ls hl => ?_)
  refine lv_aload_n hx hb dd_P_showSecrets_8 rfl (lv_at hl 1 rfl) ?_
  refine va_get (D := D) (ci := 1) (v := .ref (ad (a0 + 1))) (C := "OpenDeal$Player") (T := T_P) (N := 13) hx hb hk in_P hown hK hP a0 (at_P ha0) rfl 8 (by decide) (hk _ kw_64) (fun _ h9 => h9) rfl dd_P_showSecrets_9 ?_
  refine va_get (D := D) (ci := 2) (v := .long (J0 (a0 + 1) 1)) (C := "OpenDeal$Secrets") (T := T_S) (N := 3) hx hb hk in_S hown hK hP (a0 + 1) (at_S (isP_S1 ha0)) rfl 1 (by decide) (hk _ kw_39) (fun _ h9 => h9) rfl dd_P_showSecrets_12 ?_
  refine lv_topl (fun y5 ey5 => ?_)
  have h := tl_at ey5 h
  refine lv_lstore_n (lv' := [(3, .long y5), (2, .int y4), (0, .ref (ad a0)), (1, .int a1)]) hx hb dd_P_showSecrets_15 rfl hl (by decide) rfl (fun ls hl => ?_)
  refine lv_aload_n hx hb dd_P_showSecrets_16 rfl (lv_at hl 2 rfl) ?_
  refine va_get (D := D) (ci := 1) (v := .ref (ad (a0 + 2))) (C := "OpenDeal$Player") (T := T_P) (N := 13) hx hb hk in_P hown hK hP a0 (at_P ha0) rfl 9 (by decide) (hk _ kw_66) (fun _ h9 => h9) rfl dd_P_showSecrets_17 ?_
  refine lv_aload_n hx hb dd_P_showSecrets_20 rfl (lv_at hl 2 rfl) ?_
  refine va_get (D := D) (ci := 1) (v := .ref (ad (a0 + 5))) (C := "OpenDeal$Player") (T := T_P) (N := 13) hx hb hk in_P hown hK hP a0 (at_P ha0) rfl 12 (by decide) (hk _ kw_72) (fun _ h9 => h9) rfl dd_P_showSecrets_21 ?_
  refine lv_iconst (v := 3) hx hb dd_P_showSecrets_24 (by decide) ?_
  obtain ⟨hi6, h⟩ := oi_out h
  refine va_lald hx hb hK hP (a0 + 5) 1 (at_L (isP_L ha0)) rfl hi6 dd_P_showSecrets_25 ?_
  refine lv_lconst (v := 0) hx hb dd_P_showSecrets_26 (by decide) ?_
  refine W.lcmp hx hb dd_P_showSecrets_27 ?_
  refine lv_if_eq (tgt := 39) hx hb dd_P_showSecrets_28 (by decide) (fun hc7 => ?_) (fun hc7 => ?_)
  · have h := ip_out hc7 h
    refine lv_iload_n hx hb dd_P_showSecrets_39 rfl (lv_at hl 1 rfl) ?_
    exact L40  _ _ _ _ ha0 _ _ _ _ (isP_S2 ha0) _ h _ _ hP hD hS _ (lv_sub hl [2, 3, 1, 0] rfl)
  · have h := in_out hc7 h
    refine lv_iload_n hx hb dd_P_showSecrets_31 rfl (lv_at hl 1 rfl) ?_
    refine lv_iload_n hx hb dd_P_showSecrets_32 rfl (lv_at hl 3 rfl) ?_
    obtain ⟨r8, hr8, h⟩ := ob_out h
    refine ro_Si (n := 2) (As := [.int y4, .int a1]) hx hb hml hown hk (mm_N_exponentAbove l _ _ _ _ hr8) (fun U _ _ => trivial) (fun _ _ _ _ _ => trivial) kw_386 kw_290 kw_5 kw_291 ⟨rfl, rfl⟩ (by decide +kernel) ⟨Nat.le_of_ble_eq_true rfl, Nat.le_of_ble_eq_true rfl⟩ rfl hl.1 rfl (Nat.le_of_ble_eq_true rfl) dd_P_showSecrets_33 ⟨Nat.le_of_ble_eq_true rfl, Nat.le_of_ble_eq_true rfl⟩ ?_
    refine lv_goto (tgt := 40) hx hb dd_P_showSecrets_36 (by decide) ?_
    exact L40  _ _ _ _ ha0 _ _ _ _ (isP_S2 ha0) _ h _ _ hP hD hS _ (lv_sub hl [2, 3, 1, 0] rfl)
def ff_O_allShown_2 (I : MI) (J : MJ)  : Nat → Int32 → Option (Int32)
  | 0, _ => none
  | n + 1, v1 => if (I 0 2) ≤ v1 then (some (1 : Int32)) else (if ¬ (v1 < 0 ∨ 4 ≤ (v1).toNatClampNeg) then if (I (15 + 6 * (v1).toNatClampNeg) 7) = 0 then (some (0 : Int32)) else (ff_O_allShown_2 I J n (v1 + (1 : Int32))) else none)
def ff_O_allShown (n : Nat) (I : MI) (J : MJ)  : Option (Int32) := ff_O_allShown_2 I J n (0 : Int32)
set_option maxHeartbeats 4000000 in
set_option maxRecDepth 100000 in
theorem mm_O_allShown (l : Launch) (D : va_G) (kc : Nat → ClassId) (ad : Nat → Nat) (I : MI) (J : MJ) (n : Nat)  (r : Int32) (h : ff_O_allShown n I J  = some r) : Met l yy_O_allShown (.code yy_O_allShown cc_O_allShown 2 (some .boolean) :: kw) { frames := 0, cells := 0, slots := 0, locals := 0 } (va_Pc [.ref (ad 0)] (BR D kc (wC kc ad I J))) (vp_Si (fun z => z = r)) 0 0 (fun _ => False) := by
  refine Met.ofW (cc := cc_O_allShown) (maxL := 2) (ret := some .boolean) (by decide) rfl ?_
  intro p e s m args below meth c s₁ B hml hv
  obtain ⟨rfl, hP, hK⟩ := hv
  have hx := B.exec
  have hb := B.bytes
  have hr := B.returns
  have hlocks := B.notSynchronized
  have hk : ∀ w ∈ kw, w.before _ s = true := fun w hw => atoms_spec (ws := (.code yy_O_allShown cc_O_allShown 2 (some .boolean) :: kw)) B.pre w (List.mem_cons_of_mem _ hw)
  have hown : s.vm.findClass "OpenDeal" = some m.cls := findClass_of_methodNamed B.named
  have L2 : ∀  (n : Nat) (v1 : Int32), ff_O_allShown_2 I J n v1 = some r → ∀ ls, lv_has ls 2 [(0, .ref (ad 0)), (1, .int v1)] → W p l e (headSpec (.code yy_O_allShown cc_O_allShown 2 (some .boolean) :: kw) { frames := 0, cells := 0, slots := 0, locals := 0 }).room s m ([.ref (ad 0)] : List Value).toArray below meth c s.heap [] 0 0 (MQ below (vp_Si (fun z => z = r)) ([.ref (ad 0)] : List Value).toArray s 0 0 (fun _ => False)) (F0 m 2 ls []) := by
    intro  n
    induction n with
    | zero => intro v1 h; exact absurd h (by simp [ff_O_allShown_2])
    | succ n ih =>
      intro v1 h ls hl
      rw [ff_O_allShown_2] at h
      refine lv_iload_n hx hb dd_O_allShown_2 rfl (lv_at hl 1 rfl) ?_
      refine lv_aload_n hx hb dd_O_allShown_3 rfl (lv_at hl 0 rfl) ?_
      refine va_get (D := D) (ci := 0) (v := .int (I 0 2)) (C := "OpenDeal") (T := T_O) (N := 11) hx hb hk in_O hown hK hP 0 at_O rfl 2 (by decide) (hk _ kw_107) (fun _ h9 => h9) rfl dd_O_allShown_4 ?_
      refine lv_icmp_ge (tgt := 30) hx hb dd_O_allShown_7 (by decide) (fun hc1 => ?_) (fun hc1 => ?_)
      · have h := ip_out hc1 h
        refine lv_iconst (v := 1) hx hb dd_O_allShown_30 (by decide) ?_
        obtain rfl := Option.some.inj h
        exact W.zret hx hb hr rfl (fun t ht hW => ⟨_, rfl, rfl, ht⟩) (fun q hq => by cases hq) dd_O_allShown_31
      · have h := in_out hc1 h
        refine lv_aload_n hx hb dd_O_allShown_10 rfl (lv_at hl 0 rfl) ?_
        refine va_get (D := D) (ci := 0) (v := .ref (ad 1)) (C := "OpenDeal") (T := T_O) (N := 11) hx hb hk in_O hown hK hP 0 at_O rfl 3 (by decide) (hk _ kw_108) (fun _ h9 => h9) rfl dd_O_allShown_11 ?_
        refine lv_iload_n hx hb dd_O_allShown_14 rfl (lv_at hl 1 rfl) ?_
        obtain ⟨hi2, h⟩ := oi_out h
        refine ap_ald (b := ad (15 + 6 * (v1).toNatClampNeg)) hx hb hK hP 1 3 at_pl rfl hi2 (if_pos (vi_lt hi2)) dd_O_allShown_15 ?_
        refine va_get (D := D) (ci := 1) (v := .int (I (15 + 6 * (v1).toNatClampNeg) 7)) (C := "OpenDeal$Player") (T := T_P) (N := 13) hx hb hk in_P hown hK hP (15 + 6 * (v1).toNatClampNeg) (at_P (isP_of (vi_lt hi2))) rfl 7 (by decide) (hk _ kw_63) (fun _ h9 => h9) rfl dd_O_allShown_16 ?_
        refine lv_if_ne (tgt := 24) hx hb dd_O_allShown_19 (by decide) (fun hc3 => ?_) (fun hc3 => ?_)
        · have h := in_out hc3 h
          refine lv_iinc (v := v1 + (1 : Int32)) (lv' := [(1, .int (v1 + (1 : Int32))), (0, .ref (ad 0))]) hx hb dd_O_allShown_24 hl (k := 1) rfl rfl (by decide) rfl (fun ls hl => ?_)
          refine lv_goto (tgt := 2) hx hb dd_O_allShown_27 (by decide) ?_
          exact ih _ h _ (lv_sub hl [1, 0] rfl)
        · have h := ip_out hc3 h
          refine lv_iconst (v := 0) hx hb dd_O_allShown_22 (by decide) ?_
          obtain rfl := Option.some.inj h
          exact W.zret hx hb hr rfl (fun t ht hW => ⟨_, rfl, rfl, ht⟩) (fun q hq => by cases hq) dd_O_allShown_23
  have hl := lv_entry ([.ref (ad 0)]) (n := 2) (Nat.le_of_ble_eq_true rfl)
  rw [lg_entry_eq]
  generalize (lg_sl ([.ref (ad 0)]) ++ List.replicate (2 - (lg_sl ([.ref (ad 0)])).length) Slot.unset).toArray = ls at hl ⊢
  have hl : lv_has ls 2 [(0, .ref (ad 0))] := hl
  unfold ff_O_allShown at h
  refine lv_iconst (v := 0) hx hb dd_O_allShown_0 (by decide) ?_
  refine lv_istore_n (lv' := [(1, .int (0 : Int32)), (0, .ref (ad 0))]) hx hb dd_O_allShown_1 rfl hl (by decide) rfl (fun ls hl => ?_)
  exact L2  _ _ h _ (lv_sub hl [1, 0] rfl)
def ff_O_isSameDeck_2 (I : MI) (J : MJ)  : Nat → Nat → Nat → Int32 → Option (Int32)
  | 0, _, _, _ => none
  | n + 1, v0, v1, v2 => if (52 : Int32) ≤ v2 then (some (1 : Int32)) else (if ¬ (v2 < 0 ∨ 52 ≤ (v2).toNatClampNeg) then if ¬ (v2 < 0 ∨ 52 ≤ (v2).toNatClampNeg) then if (I v0 (v2).toNatClampNeg) = (I v1 (v2).toNatClampNeg) then (ff_O_isSameDeck_2 I J n v0 v1 (v2 + (1 : Int32))) else (some (0 : Int32)) else none else none)
def ff_O_isSameDeck (n : Nat) (I : MI) (J : MJ) (a0 : Nat) (a1 : Nat) : Option (Int32) := ff_O_isSameDeck_2 I J n a0 a1 (0 : Int32)
set_option maxHeartbeats 4000000 in
set_option maxRecDepth 100000 in
theorem mm_O_isSameDeck (l : Launch) (D : va_G) (kc : Nat → ClassId) (ad : Nat → Nat) (I : MI) (J : MJ) (n : Nat) (a0 : Nat) (ha0 : isA a0) (a1 : Nat) (ha1 : isA a1) (r : Int32) (h : ff_O_isSameDeck n I J a0 a1 = some r) : Met l yy_O_isSameDeck (.code yy_O_isSameDeck cc_O_isSameDeck 3 (some .boolean) :: kw) { frames := 0, cells := 0, slots := 0, locals := 0 } (va_Pc [.ref (ad a0), .ref (ad a1)] (BR D kc (wC kc ad I J))) (vp_Si (fun z => z = r)) 0 0 (fun _ => False) := by
  refine Met.ofW (cc := cc_O_isSameDeck) (maxL := 3) (ret := some .boolean) (by decide) rfl ?_
  intro p e s m args below meth c s₁ B hml hv
  obtain ⟨rfl, hP, hK⟩ := hv
  have hx := B.exec
  have hb := B.bytes
  have hr := B.returns
  have hlocks := B.notSynchronized
  have hk : ∀ w ∈ kw, w.before _ s = true := fun w hw => atoms_spec (ws := (.code yy_O_isSameDeck cc_O_isSameDeck 3 (some .boolean) :: kw)) B.pre w (List.mem_cons_of_mem _ hw)
  have hown : s.vm.findClass "OpenDeal" = some m.cls := findClass_of_methodNamed B.named
  have L2 : ∀  (n : Nat) (v0 : Nat) (hv0 : isA v0) (v1 : Nat) (hv1 : isA v1) (v2 : Int32), ff_O_isSameDeck_2 I J n v0 v1 v2 = some r → ∀ ls, lv_has ls 3 [(0, .ref (ad v0)), (1, .ref (ad v1)), (2, .int v2)] → W p l e (headSpec (.code yy_O_isSameDeck cc_O_isSameDeck 3 (some .boolean) :: kw) { frames := 0, cells := 0, slots := 0, locals := 0 }).room s m ([.ref (ad a0), .ref (ad a1)] : List Value).toArray below meth c s.heap [] 0 0 (MQ below (vp_Si (fun z => z = r)) ([.ref (ad a0), .ref (ad a1)] : List Value).toArray s 0 0 (fun _ => False)) (F0 m 2 ls []) := by
    intro  n
    induction n with
    | zero => intro v0 hv0 v1 hv1 v2 h; exact absurd h (by simp [ff_O_isSameDeck_2])
    | succ n ih =>
      intro v0 hv0 v1 hv1 v2 h ls hl
      rw [ff_O_isSameDeck_2] at h
      refine lv_iload_n hx hb dd_O_isSameDeck_2 rfl (lv_at hl 2 rfl) ?_
      refine lv_bipush (v := 52) hx hb dd_O_isSameDeck_3 (by decide) ?_
      refine lv_icmp_ge (tgt := 25) hx hb dd_O_isSameDeck_5 (by decide) (fun hc1 => ?_) (fun hc1 => ?_)
      · have h := ip_out hc1 h
        refine lv_iconst (v := 1) hx hb dd_O_isSameDeck_25 (by decide) ?_
        obtain rfl := Option.some.inj h
        exact W.zret hx hb hr rfl (fun t ht hW => ⟨_, rfl, rfl, ht⟩) (fun q hq => by cases hq) dd_O_isSameDeck_26
      · have h := in_out hc1 h
        refine lv_aload_n hx hb dd_O_isSameDeck_8 rfl (lv_at hl 0 rfl) ?_
        refine lv_iload_n hx hb dd_O_isSameDeck_9 rfl (lv_at hl 2 rfl) ?_
        obtain ⟨hi2, h⟩ := oi_out h
        refine va_iald hx hb hK hP v0 0 (at_A hv0) rfl hi2 dd_O_isSameDeck_10 ?_
        refine lv_aload_n hx hb dd_O_isSameDeck_11 rfl (lv_at hl 1 rfl) ?_
        refine lv_iload_n hx hb dd_O_isSameDeck_12 rfl (lv_at hl 2 rfl) ?_
        obtain ⟨hi3, h⟩ := oi_out h
        refine va_iald hx hb hK hP v1 0 (at_A hv1) rfl hi3 dd_O_isSameDeck_13 ?_
        refine lv_icmp_eq (tgt := 19) hx hb dd_O_isSameDeck_14 (by decide) (fun hc4 => ?_) (fun hc4 => ?_)
        · have h := ip_out hc4 h
          refine lv_iinc (v := v2 + (1 : Int32)) (lv' := [(2, .int (v2 + (1 : Int32))), (0, .ref (ad v0)), (1, .ref (ad v1))]) hx hb dd_O_isSameDeck_19 hl (k := 2) rfl rfl (by decide) rfl (fun ls hl => ?_)
          refine lv_goto (tgt := 2) hx hb dd_O_isSameDeck_22 (by decide) ?_
          exact ih _ hv0 _ hv1 _ h _ (lv_sub hl [1, 2, 0] rfl)
        · have h := in_out hc4 h
          refine lv_iconst (v := 0) hx hb dd_O_isSameDeck_17 (by decide) ?_
          obtain rfl := Option.some.inj h
          exact W.zret hx hb hr rfl (fun t ht hW => ⟨_, rfl, rfl, ht⟩) (fun q hq => by cases hq) dd_O_isSameDeck_18
  have hl := lv_entry ([.ref (ad a0), .ref (ad a1)]) (n := 3) (Nat.le_of_ble_eq_true rfl)
  rw [lg_entry_eq]
  generalize (lg_sl ([.ref (ad a0), .ref (ad a1)]) ++ List.replicate (3 - (lg_sl ([.ref (ad a0), .ref (ad a1)])).length) Slot.unset).toArray = ls at hl ⊢
  have hl : lv_has ls 3 [(0, .ref (ad a0)), (1, .ref (ad a1))] := hl
  unfold ff_O_isSameDeck at h
  refine lv_iconst (v := 0) hx hb dd_O_isSameDeck_0 (by decide) ?_
  refine lv_istore_n (lv' := [(2, .int (0 : Int32)), (0, .ref (ad a0)), (1, .ref (ad a1))]) hx hb dd_O_isSameDeck_1 rfl hl (by decide) rfl (fun ls hl => ?_)
  exact L2  _ _ ha0 _ ha1 _ h _ (lv_sub hl [1, 2, 0] rfl)
def ff_P_gaveWrong (n : Nat) (I : MI) (J : MJ) (a0 : Nat) (a1 : Int32) : Option (Int32) := (ff_P_hasGiven n I J a0 a1).bind fun r1 => if r1 = 0 then (some (0 : Int32)) else (if ¬ (a1 < 0 ∨ 52 ≤ (a1).toNatClampNeg) then if ¬ (a1 < 0 ∨ 52 ≤ (a1).toNatClampNeg) then if (I (a0 + 4) (a1).toNatClampNeg) = (I (a0 + 3) (a1).toNatClampNeg) then (some (0 : Int32)) else (some (1 : Int32)) else none else none)
set_option maxHeartbeats 4000000 in
set_option maxRecDepth 100000 in
theorem mm_P_gaveWrong (l : Launch) (D : va_G) (kc : Nat → ClassId) (ad : Nat → Nat) (I : MI) (J : MJ) (n : Nat) (a0 : Nat) (ha0 : isP a0) (a1 : Int32) (r : Int32) (h : ff_P_gaveWrong n I J a0 a1 = some r) : Met l yy_P_gaveWrong (.code yy_P_gaveWrong cc_P_gaveWrong 2 (some .boolean) :: kw) { frames := 1, cells := 0, slots := 0, locals := 21 } (va_Pc [.ref (ad a0), .int a1] (BR D kc (wC kc ad I J))) (vp_Si (fun z => z = r)) 0 0 (fun _ => False) := by
  refine Met.ofW (cc := cc_P_gaveWrong) (maxL := 2) (ret := some .boolean) (by decide) rfl ?_
  intro p e s m args below meth c s₁ B hml hv
  obtain ⟨rfl, hP, hK⟩ := hv
  have hx := B.exec
  have hb := B.bytes
  have hr := B.returns
  have hlocks := B.notSynchronized
  have hk : ∀ w ∈ kw, w.before _ s = true := fun w hw => atoms_spec (ws := (.code yy_P_gaveWrong cc_P_gaveWrong 2 (some .boolean) :: kw)) B.pre w (List.mem_cons_of_mem _ hw)
  have hown : s.vm.findClass "OpenDeal$Player" = some m.cls := findClass_of_methodNamed B.named
  have hl := lv_entry ([.ref (ad a0), .int a1]) (n := 2) (Nat.le_of_ble_eq_true rfl)
  rw [lg_entry_eq]
  generalize (lg_sl ([.ref (ad a0), .int a1]) ++ List.replicate (2 - (lg_sl ([.ref (ad a0), .int a1])).length) Slot.unset).toArray = ls at hl ⊢
  have hl : lv_has ls 2 [(0, .ref (ad a0)), (1, .int a1)] := hl
  unfold ff_P_gaveWrong at h
  refine lv_aload_n hx hb dd_P_gaveWrong_0 rfl (lv_at hl 0 rfl) ?_
  refine lv_iload_n hx hb dd_P_gaveWrong_1 rfl (lv_at hl 1 rfl) ?_
  obtain ⟨r1, hr1, h⟩ := ob_out h
  refine cr_Vi (n := 1) (As := [.int a1]) hx hb hml hown hk (mm_P_hasGiven l D kc ad _ _ _ _ ha0 _ _ hr1) hK hP a0 (at_P ha0) rfl rfl kw_403 kw_286 kw_287 kw_2 kw_288 ⟨rfl, rfl⟩ (by decide +kernel) ⟨Nat.le_of_ble_eq_true rfl, Nat.le_of_ble_eq_true rfl⟩ rfl hl.1 rfl (Nat.le_of_ble_eq_true rfl) dd_P_gaveWrong_2 ⟨Nat.le_of_ble_eq_true rfl, Nat.le_of_ble_eq_true rfl⟩ ?_
  refine lv_if_eq (tgt := 27) hx hb dd_P_gaveWrong_5 (by decide) (fun hc2 => ?_) (fun hc2 => ?_)
  · have h := ip_out hc2 h
    refine lv_iconst (v := 0) hx hb dd_P_gaveWrong_27 (by decide) ?_
    obtain rfl := Option.some.inj h
    exact W.zret hx hb hr rfl (fun t ht hW => ⟨_, rfl, rfl, ht⟩) (fun q hq => by cases hq) dd_P_gaveWrong_28
  · have h := in_out hc2 h
    refine lv_aload_n hx hb dd_P_gaveWrong_8 rfl (lv_at hl 0 rfl) ?_
    refine va_get (D := D) (ci := 1) (v := .ref (ad (a0 + 4))) (C := "OpenDeal$Player") (T := T_P) (N := 13) hx hb hk in_P hown hK hP a0 (at_P ha0) rfl 11 (by decide) (hk _ kw_70) (fun _ h9 => h9) rfl dd_P_gaveWrong_9 ?_
    refine lv_iload_n hx hb dd_P_gaveWrong_12 rfl (lv_at hl 1 rfl) ?_
    obtain ⟨hi3, h⟩ := oi_out h
    refine va_iald hx hb hK hP (a0 + 4) 0 (at_A (isP_A4 ha0)) rfl hi3 dd_P_gaveWrong_13 ?_
    refine lv_aload_n hx hb dd_P_gaveWrong_14 rfl (lv_at hl 0 rfl) ?_
    refine va_get (D := D) (ci := 1) (v := .ref (ad (a0 + 3))) (C := "OpenDeal$Player") (T := T_P) (N := 13) hx hb hk in_P hown hK hP a0 (at_P ha0) rfl 10 (by decide) (hk _ kw_68) (fun _ h9 => h9) rfl dd_P_gaveWrong_15 ?_
    refine lv_iload_n hx hb dd_P_gaveWrong_18 rfl (lv_at hl 1 rfl) ?_
    obtain ⟨hi4, h⟩ := oi_out h
    refine va_iald hx hb hK hP (a0 + 3) 0 (at_A (isP_A3 ha0)) rfl hi4 dd_P_gaveWrong_19 ?_
    refine lv_icmp_eq (tgt := 27) hx hb dd_P_gaveWrong_20 (by decide) (fun hc5 => ?_) (fun hc5 => ?_)
    · have h := ip_out hc5 h
      refine lv_iconst (v := 0) hx hb dd_P_gaveWrong_27 (by decide) ?_
      obtain rfl := Option.some.inj h
      exact W.zret hx hb hr rfl (fun t ht hW => ⟨_, rfl, rfl, ht⟩) (fun q hq => by cases hq) dd_P_gaveWrong_28
    · have h := in_out hc5 h
      refine lv_iconst (v := 1) hx hb dd_P_gaveWrong_23 (by decide) ?_
      refine lv_goto (tgt := 28) hx hb dd_P_gaveWrong_24 (by decide) ?_
      obtain rfl := Option.some.inj h
      exact W.zret hx hb hr rfl (fun t ht hW => ⟨_, rfl, rfl, ht⟩) (fun q hq => by cases hq) dd_P_gaveWrong_28
