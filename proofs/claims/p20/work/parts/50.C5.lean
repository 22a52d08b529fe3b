/-! the class, laid by program -/
def ff_O_reckonAudit_137 (k129 : MI → MJ → Nat → Int32 → Option (Int32 × MI × MJ)) : Nat → MI → MJ → Nat → Int32 → Int32 → Option (Int32 × MI × MJ)
  | 0, _, _, _, _, _ => none
  | n + 1, I, J, cn, v1, v2 => if (I 0 2) ≤ v2 then (k129 I J cn (v1 + (1 : Int32))) else (if ¬ (v2 < 0 ∨ 4 ≤ (v2).toNatClampNeg) then (ff_P_gaveWrong n I J (15 + 6 * (v2).toNatClampNeg) v1).bind fun r3 => if r3 = 0 then (ff_O_reckonAudit_137 k129 n I J cn v1 (v2 + (1 : Int32))) else (some (((16 : Int32) * v2) + (4 : Int32), I, J)) else none)
def ff_O_reckonAudit_129  : Nat → MI → MJ → Nat → Int32 → Option (Int32 × MI × MJ)
  | 0, _, _, _, _ => none
  | n + 1, I, J, cn, v1 => if (52 : Int32) ≤ v1 then (some ((0 : Int32), I, J)) else (ff_O_reckonAudit_137 (ff_O_reckonAudit_129 n) n I J cn v1 (0 : Int32))
def ff_O_reckonAudit_50  : Nat → MI → MJ → Nat → Int32 → Option (Int32 × MI × MJ)
  | 0, _, _, _, _ => none
  | n + 1, I, J, cn, v1 => if ((2 : Int32) * (I 0 2)) ≤ v1 then (ff_O_reckonAudit_129 n I J cn (0 : Int32)) else ((ff_O_playerOfTurn n I J v1).bind fun r7 => if ¬ (r7 < 0 ∨ 4 ≤ (r7).toNatClampNeg) then if cn + 1 ≤ 8 then (ff_O_reckonTurn n I J v1 ((15 + 6 * (r7).toNatClampNeg) + 2) 5).bind fun r9 => if ¬ ((v1 + (1 : Int32)) < 0 ∨ 9 ≤ (v1 + (1 : Int32)).toNatClampNeg) then (ff_O_isSameDeck n r9.1 r9.2 5 (6 + (v1 + (1 : Int32)).toNatClampNeg)).bind fun r12 => if r12 = 0 then (if (r9.1 0 2) ≤ v1 then (some (((16 : Int32) * r7) + (3 : Int32), r9.1, r9.2)) else (some (((16 : Int32) * r7) + (2 : Int32), r9.1, r9.2))) else (ff_O_reckonAudit_50 n r9.1 r9.2 (cn + 1) (v1 + (1 : Int32))) else none else none else none)
def ff_O_reckonAudit_2  : Nat → MI → MJ → Nat → Int32 → Option (Int32 × MI × MJ)
  | 0, _, _, _, _ => none
  | n + 1, I, J, cn, v1 => if (I 0 2) ≤ v1 then (ff_O_reckonAudit_50 n I J cn (0 : Int32)) else (if ¬ (v1 < 0 ∨ 4 ≤ (v1).toNatClampNeg) then if ¬ (v1 < 0 ∨ 4 ≤ (v1).toNatClampNeg) then (ff_S_mark n I J ((15 + 6 * (v1).toNatClampNeg) + 2)).bind fun r18 => if (lg_cmp (J (15 + 6 * (v1).toNatClampNeg) 6) r18) = 0 then (ff_O_reckonAudit_2 n I J cn (v1 + (1 : Int32))) else (some (((16 : Int32) * v1) + (1 : Int32), I, J)) else none else none)
def ff_O_reckonAudit (n : Nat) (I : MI) (J : MJ)  : Option (Int32 × MI × MJ) := ff_O_reckonAudit_2 n I J 0 (0 : Int32)
set_option maxHeartbeats 4000000 in
set_option maxRecDepth 100000 in
theorem mm_O_reckonAudit (l : Launch) (D : va_G) (kc : Nat → ClassId) (ad : Nat → Nat) (I0 : MI) (J0 : MJ) (sz n : Nat)  (r : Int32 × MI × MJ) (h : ff_O_reckonAudit n I0 J0  = some r) : Met l yy_O_reckonAudit (.code yy_O_reckonAudit cc_O_reckonAudit 3 (some .int) :: kw) { frames := 4, cells := 8, slots := 8, locals := 95 } (va_Pc [.ref (ad 0)] (BW D kc (wC kc ad I0 J0) sz)) (va_Qi (fun z (_ : Unit) => z = r.1) (EW D kc (va_A (wC kc ad I0 J0) sz) (wC kc ad r.2.1 r.2.2)) (va_A (wC kc ad I0 J0) sz)) 8 8 (va_A (wC kc ad I0 J0) sz) := by
  refine Met.ofW (cc := cc_O_reckonAudit) (maxL := 3) (ret := some .int) (by decide) rfl ?_
  intro p e s m args below meth c s₁ B hml hv
  obtain ⟨rfl, hsz, hP, hK, hD0⟩ := hv
  have hx := B.exec
  have hb := B.bytes
  have hr := B.returns
  have hlocks := B.notSynchronized
  have hk : ∀ w ∈ kw, w.before _ s = true := fun w hw => atoms_spec (ws := (.code yy_O_reckonAudit cc_O_reckonAudit 3 (some .int) :: kw)) B.pre w (List.mem_cons_of_mem _ hw)
  have hown : s.vm.findClass "OpenDeal" = some m.cls := findClass_of_methodNamed B.named
  subst hsz
  have hD := hD0.self (sz := s.heap.size)
  generalize hAe : va_A (wC kc ad I0 J0) s.heap.size = A at hD ⊢
  have hA : ∀ q : Nat, s.heap.size ≤ q → A q := fun q h => by rw [← hAe]; exact Or.inr h
  have hS : va_S A s.heap s.heap [] := va_S.rf
  have hP : va_P D cls5 (wC kc ad I0 J0) s.heap := hP
  clear hAe hD0
  have L137 : ∀ (k129 : MI → MJ → Nat → Int32 → Option (Int32 × MI × MJ)) (hk129 : ∀ (I : MI) (J : MJ) (cn : Nat) (hcn : cn ≤ 8) (v1 : Int32), k129 I J cn v1 = some r → ∀ (H : Heap) (locs : List Loc), va_P D cls5 (wC kc ad I J) H → va_D A (wC kc ad I J) → va_S A s.heap H locs → ∀ ls, lv_has ls 3 [(0, .ref (ad 0)), (1, .int v1)] → W p l e (headSpec (.code yy_O_reckonAudit cc_O_reckonAudit 3 (some .int) :: kw) { frames := 4, cells := 8, slots := 8, locals := 95 }).room s m ([.ref (ad 0)] : List Value).toArray below meth c H locs cn cn (MQ below (va_Qi (fun z (_ : Unit) => z = r.1) (EW D kc A (wC kc ad r.2.1 r.2.2)) A) ([.ref (ad 0)] : List Value).toArray s 8 8 A) (F0 m 129 ls [])) (n : Nat) (I : MI) (J : MJ) (cn : Nat) (hcn : cn ≤ 8) (v1 : Int32) (v2 : Int32), ff_O_reckonAudit_137 k129 n I J cn v1 v2 = some r → ∀ (H : Heap) (locs : List Loc), va_P D cls5 (wC kc ad I J) H → va_D A (wC kc ad I J) → va_S A s.heap H locs → ∀ ls, lv_has ls 3 [(0, .ref (ad 0)), (1, .int v1), (2, .int v2)] → W p l e (headSpec (.code yy_O_reckonAudit cc_O_reckonAudit 3 (some .int) :: kw) { frames := 4, cells := 8, slots := 8, locals := 95 }).room s m ([.ref (ad 0)] : List Value).toArray below meth c H locs cn cn (MQ below (va_Qi (fun z (_ : Unit) => z = r.1) (EW D kc A (wC kc ad r.2.1 r.2.2)) A) ([.ref (ad 0)] : List Value).toArray s 8 8 A) (F0 m 137 ls []) := by
    intro k129 hk129 n
    induction n with
    | zero => intro I J cn hcn v1 v2 h; exact absurd h (by simp [ff_O_reckonAudit_137])
    | succ n ih =>
      intro I J cn hcn v1 v2 h H locs hP hD hS ls hl
      rw [ff_O_reckonAudit_137] at h
      refine lv_iload_n hx hb dd_O_reckonAudit_137 rfl (lv_at hl 2 rfl) ?_
      refine lv_aload_n hx hb dd_O_reckonAudit_138 rfl (lv_at hl 0 rfl) ?_
      refine va_get (D := D) (ci := 0) (v := .int (I 0 2)) (C := "OpenDeal") (T := T_O) (N := 11) hx hb hk in_O hown hK hP 0 at_O rfl 2 (by decide) (hk _ kw_107) (fun _ h9 => h9) rfl dd_O_reckonAudit_139 ?_
      refine lv_icmp_ge (tgt := 171) hx hb dd_O_reckonAudit_142 (by decide) (fun hc1 => ?_) (fun hc1 => ?_)
      · have h := ip_out hc1 h
        refine lv_iinc (v := v1 + (1 : Int32)) (lv' := [(1, .int (v1 + (1 : Int32))), (0, .ref (ad 0)), (2, .int v2)]) hx hb dd_O_reckonAudit_171 hl (k := 1) rfl rfl (by decide) rfl (fun ls hl => ?_)
        refine lv_goto (tgt := 129) hx hb dd_O_reckonAudit_174 (by decide) ?_
        exact hk129 _ _ _ hcn _ h _ _ hP hD hS _ (lv_sub hl [1, 0] rfl)
      · have h := in_out hc1 h
        refine lv_aload_n hx hb dd_O_reckonAudit_145 rfl (lv_at hl 0 rfl) ?_
        refine va_get (D := D) (ci := 0) (v := .ref (ad 1)) (C := "OpenDeal") (T := T_O) (N := 11) hx hb hk in_O hown hK hP 0 at_O rfl 3 (by decide) (hk _ kw_108) (fun _ h9 => h9) rfl dd_O_reckonAudit_146 ?_
        refine lv_iload_n hx hb dd_O_reckonAudit_149 rfl (lv_at hl 2 rfl) ?_
        obtain ⟨hi2, h⟩ := oi_out h
        refine ap_ald (b := ad (15 + 6 * (v2).toNatClampNeg)) hx hb hK hP 1 3 at_pl rfl hi2 (if_pos (vi_lt hi2)) dd_O_reckonAudit_150 ?_
        refine lv_iload_n hx hb dd_O_reckonAudit_151 rfl (lv_at hl 1 rfl) ?_
        obtain ⟨r3, hr3, h⟩ := ob_out h
        refine cr_Vi (n := 1) (As := [.int v1]) hx hb hml hown hk (mm_P_gaveWrong l D kc ad _ _ _ _ (isP_of (vi_lt hi2)) _ _ hr3) hK hP (15 + 6 * (v2).toNatClampNeg) (at_P (isP_of (vi_lt hi2))) rfl rfl kw_399 kw_400 kw_401 kw_2 kw_402 ⟨rfl, rfl⟩ (by decide +kernel) ⟨Nat.le_of_ble_eq_true rfl, Nat.le_of_ble_eq_true rfl⟩ rfl hl.1 rfl (Nat.le_of_ble_eq_true rfl) dd_O_reckonAudit_152 ⟨hcn, hcn⟩ ?_
        refine lv_if_eq (tgt := 165) hx hb dd_O_reckonAudit_155 (by decide) (fun hc4 => ?_) (fun hc4 => ?_)
        · have h := ip_out hc4 h
          refine lv_iinc (v := v2 + (1 : Int32)) (lv' := [(2, .int (v2 + (1 : Int32))), (0, .ref (ad 0)), (1, .int v1)]) hx hb dd_O_reckonAudit_165 hl (k := 2) rfl rfl (by decide) rfl (fun ls hl => ?_)
          refine lv_goto (tgt := 137) hx hb dd_O_reckonAudit_168 (by decide) ?_
          exact ih _ _ _ hcn _ _ h _ _ hP hD hS _ (lv_sub hl [1, 2, 0] rfl)
        · have h := in_out hc4 h
          refine lv_bipush (v := 16) hx hb dd_O_reckonAudit_158 (by decide) ?_
          refine lv_iload_n hx hb dd_O_reckonAudit_160 rfl (lv_at hl 2 rfl) ?_
          refine lv_imul hx hb dd_O_reckonAudit_161 ?_
          refine lv_iconst (v := 4) hx hb dd_O_reckonAudit_162 (by decide) ?_
          refine lv_iadd hx hb dd_O_reckonAudit_163 ?_
          obtain rfl := Option.some.inj h
          refine W.widen (k := 8) (n := 8) hcn hcn ?_
          exact W.iret hx hb hr (fun t ht hW => ⟨⟨_, (), rfl, rfl, by rw [ht]; exact hP, va_K.moved hW.alike hK, hD⟩, hS.F ht⟩) hS.2.2 dd_O_reckonAudit_164
  have L129 : ∀  (n : Nat) (I : MI) (J : MJ) (cn : Nat) (hcn : cn ≤ 8) (v1 : Int32), ff_O_reckonAudit_129 n I J cn v1 = some r → ∀ (H : Heap) (locs : List Loc), va_P D cls5 (wC kc ad I J) H → va_D A (wC kc ad I J) → va_S A s.heap H locs → ∀ ls, lv_has ls 3 [(0, .ref (ad 0)), (1, .int v1)] → W p l e (headSpec (.code yy_O_reckonAudit cc_O_reckonAudit 3 (some .int) :: kw) { frames := 4, cells := 8, slots := 8, locals := 95 }).room s m ([.ref (ad 0)] : List Value).toArray below meth c H locs cn cn (MQ below (va_Qi (fun z (_ : Unit) => z = r.1) (EW D kc A (wC kc ad r.2.1 r.2.2)) A) ([.ref (ad 0)] : List Value).toArray s 8 8 A) (F0 m 129 ls []) := by
    intro  n
    induction n with
    | zero => intro I J cn hcn v1 h; exact absurd h (by simp [ff_O_reckonAudit_129])
    | succ n ih =>
      intro I J cn hcn v1 h H locs hP hD hS ls hl
      rw [ff_O_reckonAudit_129] at h
      refine lv_iload_n hx hb dd_O_reckonAudit_129 rfl (lv_at hl 1 rfl) ?_
      refine lv_bipush (v := 52) hx hb dd_O_reckonAudit_130 (by decide) ?_
      refine lv_icmp_ge (tgt := 177) hx hb dd_O_reckonAudit_132 (by decide) (fun hc5 => ?_) (fun hc5 => ?_)
      · have h := ip_out hc5 h
        refine lv_iconst (v := 0) hx hb dd_O_reckonAudit_177 (by decide) ?_
        obtain rfl := Option.some.inj h
        refine W.widen (k := 8) (n := 8) hcn hcn ?_
        exact W.iret hx hb hr (fun t ht hW => ⟨⟨_, (), rfl, rfl, by rw [ht]; exact hP, va_K.moved hW.alike hK, hD⟩, hS.F ht⟩) hS.2.2 dd_O_reckonAudit_178
      · have h := in_out hc5 h
        refine lv_iconst (v := 0) hx hb dd_O_reckonAudit_135 (by decide) ?_
        refine lv_istore_n (lv' := [(2, .int (0 : Int32)), (0, .ref (ad 0)), (1, .int v1)]) hx hb dd_O_reckonAudit_136 rfl hl (by decide) rfl (fun ls hl => ?_)
        exact L137 _ ih _ _ _ _ hcn _ _ h _ _ hP hD hS _ (lv_sub hl [1, 2, 0] rfl)
  have L50 : ∀  (n : Nat) (I : MI) (J : MJ) (cn : Nat) (hcn : cn ≤ 8) (v1 : Int32), ff_O_reckonAudit_50 n I J cn v1 = some r → ∀ (H : Heap) (locs : List Loc), va_P D cls5 (wC kc ad I J) H → va_D A (wC kc ad I J) → va_S A s.heap H locs → ∀ ls, lv_has ls 3 [(0, .ref (ad 0)), (1, .int v1)] → W p l e (headSpec (.code yy_O_reckonAudit cc_O_reckonAudit 3 (some .int) :: kw) { frames := 4, cells := 8, slots := 8, locals := 95 }).room s m ([.ref (ad 0)] : List Value).toArray below meth c H locs cn cn (MQ below (va_Qi (fun z (_ : Unit) => z = r.1) (EW D kc A (wC kc ad r.2.1 r.2.2)) A) ([.ref (ad 0)] : List Value).toArray s 8 8 A) (F0 m 50 ls []) := by
    intro  n
    induction n with
    | zero => intro I J cn hcn v1 h; exact absurd h (by simp [ff_O_reckonAudit_50])
    | succ n ih =>
      intro I J cn hcn v1 h H locs hP hD hS ls hl
      rw [ff_O_reckonAudit_50] at h
      refine lv_iload_n hx hb dd_O_reckonAudit_50 rfl (lv_at hl 1 rfl) ?_
      refine lv_iconst (v := 2) hx hb dd_O_reckonAudit_51 (by decide) ?_
      refine lv_aload_n hx hb dd_O_reckonAudit_52 rfl (lv_at hl 0 rfl) ?_
      refine va_get (D := D) (ci := 0) (v := .int (I 0 2)) (C := "OpenDeal") (T := T_O) (N := 11) hx hb hk in_O hown hK hP 0 at_O rfl 2 (by decide) (hk _ kw_107) (fun _ h9 => h9) rfl dd_O_reckonAudit_53 ?_
      refine lv_imul hx hb dd_O_reckonAudit_56 ?_
      refine lv_icmp_ge (tgt := 127) hx hb dd_O_reckonAudit_57 (by decide) (fun hc6 => ?_) (fun hc6 => ?_)
      · have h := ip_out hc6 h
        refine lv_iconst (v := 0) hx hb dd_O_reckonAudit_127 (by decide) ?_
        refine lv_istore_n (lv' := [(1, .int (0 : Int32)), (0, .ref (ad 0))]) hx hb dd_O_reckonAudit_128 rfl hl (by decide) rfl (fun ls hl => ?_)
        exact L129  _ _ _ _ hcn _ h _ _ hP hD hS _ (lv_sub hl [1, 0] rfl)
      · have h := in_out hc6 h
        refine lv_aload_n hx hb dd_O_reckonAudit_60 rfl (lv_at hl 0 rfl) ?_
        refine lv_iload_n hx hb dd_O_reckonAudit_61 rfl (lv_at hl 1 rfl) ?_
        obtain ⟨r7, hr7, h⟩ := ob_out h
        refine cr_Vi (n := 1) (As := [.int v1]) hx hb hml hown hk (mm_O_playerOfTurn l D kc ad _ _ _ _ _ hr7) hK hP 0 at_O rfl rfl kw_250 kw_252 sel_O_playerOfTurn kw_1 kw_253 ⟨rfl, rfl⟩ (by decide +kernel) ⟨Nat.le_of_ble_eq_true rfl, Nat.le_of_ble_eq_true rfl⟩ rfl hl.1 rfl (Nat.le_of_ble_eq_true rfl) dd_O_reckonAudit_62 ⟨hcn, hcn⟩ ?_
        refine lv_istore_n (lv' := [(2, .int r7), (0, .ref (ad 0)), (1, .int v1)]) hx hb dd_O_reckonAudit_65 rfl hl (by decide) rfl (fun ls hl => ?_)
        refine lv_aload_n hx hb dd_O_reckonAudit_66 rfl (lv_at hl 1 rfl) ?_
        refine lv_iload_n hx hb dd_O_reckonAudit_67 rfl (lv_at hl 2 rfl) ?_
        refine lv_aload_n hx hb dd_O_reckonAudit_68 rfl (lv_at hl 1 rfl) ?_
        refine va_get (D := D) (ci := 0) (v := .ref (ad 1)) (C := "OpenDeal") (T := T_O) (N := 11) hx hb hk in_O hown hK hP 0 at_O rfl 3 (by decide) (hk _ kw_108) (fun _ h9 => h9) rfl dd_O_reckonAudit_69 ?_
        refine lv_iload_n hx hb dd_O_reckonAudit_72 rfl (lv_at hl 0 rfl) ?_
        obtain ⟨hi8, h⟩ := oi_out h
        refine ap_ald (b := ad (15 + 6 * (r7).toNatClampNeg)) hx hb hK hP 1 3 at_pl rfl hi8 (if_pos (vi_lt hi8)) dd_O_reckonAudit_73 ?_
        refine va_get (D := D) (ci := 1) (v := .ref (ad ((15 + 6 * (r7).toNatClampNeg) + 2))) (C := "OpenDeal$Player") (T := T_P) (N := 13) hx hb hk in_P hown hK hP (15 + 6 * (r7).toNatClampNeg) (at_P (isP_of (vi_lt hi8))) rfl 9 (by decide) (hk _ kw_67) (fun _ h9 => h9) rfl dd_O_reckonAudit_74 ?_
        refine lv_aload_n hx hb dd_O_reckonAudit_77 rfl (lv_at hl 1 rfl) ?_
        refine va_get (D := D) (ci := 0) (v := .ref (ad 5)) (C := "OpenDeal") (T := T_O) (N := 11) hx hb hk in_O hown hK hP 0 at_O rfl 10 (by decide) (hk _ kw_115) (fun _ h9 => h9) rfl dd_O_reckonAudit_78 ?_
        obtain ⟨hq10, h⟩ := oi_out h
        obtain ⟨r9, hr9, h⟩ := ob_out h
        refine cw_Vv (n := 3) (As := [.int v1, .ref (ad ((15 + 6 * (r7).toNatClampNeg) + 2)), .ref (ad 5)]) (mc := 1) (ms := 1) hx hb hml hown hk (mm_O_reckonTurn l D kc ad _ _ _ _ _ _ (isP_S2 (isP_of (vi_lt hi8))) _ isA5 _ hr9) hK hP hD hS hA 0 at_O rfl rfl kw_254 kw_256 sel_O_reckonTurn kw_1 kw_257 ⟨rfl, rfl⟩ (by decide +kernel) ⟨Nat.le_of_ble_eq_true rfl, Nat.le_of_ble_eq_true rfl⟩ rfl hl.1 rfl (Nat.le_of_ble_eq_true rfl) dd_O_reckonAudit_81 ⟨hq10, hq10⟩ (fun H locs hP hD hS => ?_)
        refine lv_aload_n hx hb dd_O_reckonAudit_84 rfl (lv_at hl 1 rfl) ?_
        refine va_get (D := D) (ci := 0) (v := .ref (ad 5)) (C := "OpenDeal") (T := T_O) (N := 11) hx hb hk in_O hown hK hP 0 at_O rfl 10 (by decide) (hk _ kw_115) (fun _ h9 => h9) rfl dd_O_reckonAudit_85 ?_
        refine lv_aload_n hx hb dd_O_reckonAudit_88 rfl (lv_at hl 1 rfl) ?_
        refine va_get (D := D) (ci := 0) (v := .ref (ad 2)) (C := "OpenDeal") (T := T_O) (N := 11) hx hb hk in_O hown hK hP 0 at_O rfl 5 (by decide) (hk _ kw_110) (fun _ h9 => h9) rfl dd_O_reckonAudit_89 ?_
        refine lv_iload_n hx hb dd_O_reckonAudit_92 rfl (lv_at hl 2 rfl) ?_
        refine lv_iconst (v := 1) hx hb dd_O_reckonAudit_93 (by decide) ?_
        refine lv_iadd hx hb dd_O_reckonAudit_94 ?_
        obtain ⟨hi11, h⟩ := oi_out h
        refine ag_ald (b := ad (6 + (v1 + (1 : Int32)).toNatClampNeg)) hx hb hK hP 2 4 at_dk rfl hi11 (if_pos (vi_lt hi11)) dd_O_reckonAudit_95 ?_
        obtain ⟨r12, hr12, h⟩ := ob_out h
        refine cr_Si (n := 2) (As := [.ref (ad 5), .ref (ad (6 + (v1 + (1 : Int32)).toNatClampNeg))]) hx hb hml hown hk (mm_O_isSameDeck l D kc ad _ _ _ _ isA5 _ (isA_deck (vi_lt hi11)) _ hr12) hK hP kw_396 kw_397 kw_1 kw_398 ⟨rfl, rfl⟩ (by decide +kernel) ⟨Nat.le_of_ble_eq_true rfl, Nat.le_of_ble_eq_true rfl⟩ rfl hl.1 rfl (Nat.le_of_ble_eq_true rfl) dd_O_reckonAudit_96 ⟨hq10, hq10⟩ ?_
        refine lv_if_ne (tgt := 121) hx hb dd_O_reckonAudit_99 (by decide) (fun hc13 => ?_) (fun hc13 => ?_)
        · have h := in_out hc13 h
          refine lv_iinc (v := v1 + (1 : Int32)) (lv' := [(1, .int (v1 + (1 : Int32))), (2, .int r7), (0, .ref (ad 0))]) hx hb dd_O_reckonAudit_121 hl (k := 2) rfl rfl (by decide) rfl (fun ls hl => ?_)
          refine lv_goto (tgt := 50) hx hb dd_O_reckonAudit_124 (by decide) ?_
          exact ih _ _ _ hq10 _ h _ _ hP hD hS _ (lv_sub hl [2, 0] rfl)
        · have h := ip_out hc13 h
          refine lv_bipush (v := 16) hx hb dd_O_reckonAudit_102 (by decide) ?_
          refine lv_iload_n hx hb dd_O_reckonAudit_104 rfl (lv_at hl 0 rfl) ?_
          refine lv_imul hx hb dd_O_reckonAudit_105 ?_
          refine lv_iload_n hx hb dd_O_reckonAudit_106 rfl (lv_at hl 2 rfl) ?_
          refine lv_aload_n hx hb dd_O_reckonAudit_107 rfl (lv_at hl 1 rfl) ?_
          refine va_get (D := D) (ci := 0) (v := .int (r9.1 0 2)) (C := "OpenDeal") (T := T_O) (N := 11) hx hb hk in_O hown hK hP 0 at_O rfl 2 (by decide) (hk _ kw_107) (fun _ h9 => h9) rfl dd_O_reckonAudit_108 ?_
          refine lv_icmp_ge (tgt := 118) hx hb dd_O_reckonAudit_111 (by decide) (fun hc14 => ?_) (fun hc14 => ?_)
          · have h := ip_out hc14 h
            refine lv_iconst (v := 3) hx hb dd_O_reckonAudit_118 (by decide) ?_
            refine lv_iadd hx hb dd_O_reckonAudit_119 ?_
            obtain rfl := Option.some.inj h
            refine W.widen (k := 8) (n := 8) hq10 hq10 ?_
            exact W.iret hx hb hr (fun t ht hW => ⟨⟨_, (), rfl, rfl, by rw [ht]; exact hP, va_K.moved hW.alike hK, hD⟩, hS.F ht⟩) hS.2.2 dd_O_reckonAudit_120
          · have h := in_out hc14 h
            refine lv_iconst (v := 2) hx hb dd_O_reckonAudit_114 (by decide) ?_
            refine lv_goto (tgt := 119) hx hb dd_O_reckonAudit_115 (by decide) ?_
            refine lv_iadd hx hb dd_O_reckonAudit_119 ?_
            obtain rfl := Option.some.inj h
            refine W.widen (k := 8) (n := 8) hq10 hq10 ?_
            exact W.iret hx hb hr (fun t ht hW => ⟨⟨_, (), rfl, rfl, by rw [ht]; exact hP, va_K.moved hW.alike hK, hD⟩, hS.F ht⟩) hS.2.2 dd_O_reckonAudit_120
  have L2 : ∀  (n : Nat) (I : MI) (J : MJ) (cn : Nat) (hcn : cn ≤ 8) (v1 : Int32), ff_O_reckonAudit_2 n I J cn v1 = some r → ∀ (H : Heap) (locs : List Loc), va_P D cls5 (wC kc ad I J) H → va_D A (wC kc ad I J) → va_S A s.heap H locs → ∀ ls, lv_has ls 3 [(0, .ref (ad 0)), (1, .int v1)] → W p l e (headSpec (.code yy_O_reckonAudit cc_O_reckonAudit 3 (some .int) :: kw) { frames := 4, cells := 8, slots := 8, locals := 95 }).room s m ([.ref (ad 0)] : List Value).toArray below meth c H locs cn cn (MQ below (va_Qi (fun z (_ : Unit) => z = r.1) (EW D kc A (wC kc ad r.2.1 r.2.2)) A) ([.ref (ad 0)] : List Value).toArray s 8 8 A) (F0 m 2 ls []) := by
    intro  n
    induction n with
    | zero => intro I J cn hcn v1 h; exact absurd h (by simp [ff_O_reckonAudit_2])
    | succ n ih =>
      intro I J cn hcn v1 h H locs hP hD hS ls hl
      rw [ff_O_reckonAudit_2] at h
      refine lv_iload_n hx hb dd_O_reckonAudit_2 rfl (lv_at hl 1 rfl) ?_
      refine lv_aload_n hx hb dd_O_reckonAudit_3 rfl (lv_at hl 0 rfl) ?_
      refine va_get (D := D) (ci := 0) (v := .int (I 0 2)) (C := "OpenDeal") (T := T_O) (N := 11) hx hb hk in_O hown hK hP 0 at_O rfl 2 (by decide) (hk _ kw_107) (fun _ h9 => h9) rfl dd_O_reckonAudit_4 ?_
      refine lv_icmp_ge (tgt := 48) hx hb dd_O_reckonAudit_7 (by decide) (fun hc15 => ?_) (fun hc15 => ?_)
      · have h := ip_out hc15 h
        refine lv_iconst (v := 0) hx hb dd_O_reckonAudit_48 (by decide) ?_
        refine lv_istore_n (lv' := [(1, .int (0 : Int32)), (0, .ref (ad 0))]) hx hb dd_O_reckonAudit_49 rfl hl (by decide) rfl (fun ls hl => ?_)
        exact L50  _ _ _ _ hcn _ h _ _ hP hD hS _ (lv_sub hl [1, 0] rfl)
      · have h := in_out hc15 h
        refine lv_aload_n hx hb dd_O_reckonAudit_10 rfl (lv_at hl 0 rfl) ?_
        refine va_get (D := D) (ci := 0) (v := .ref (ad 1)) (C := "OpenDeal") (T := T_O) (N := 11) hx hb hk in_O hown hK hP 0 at_O rfl 3 (by decide) (hk _ kw_108) (fun _ h9 => h9) rfl dd_O_reckonAudit_11 ?_
        refine lv_iload_n hx hb dd_O_reckonAudit_14 rfl (lv_at hl 1 rfl) ?_
        obtain ⟨hi16, h⟩ := oi_out h
        refine ap_ald (b := ad (15 + 6 * (v1).toNatClampNeg)) hx hb hK hP 1 3 at_pl rfl hi16 (if_pos (vi_lt hi16)) dd_O_reckonAudit_15 ?_
        refine va_get (D := D) (ci := 1) (v := .long (J (15 + 6 * (v1).toNatClampNeg) 6)) (C := "OpenDeal$Player") (T := T_P) (N := 13) hx hb hk in_P hown hK hP (15 + 6 * (v1).toNatClampNeg) (at_P (isP_of (vi_lt hi16))) rfl 6 (by decide) (hk _ kw_61) (fun _ h9 => h9) rfl dd_O_reckonAudit_16 ?_
        refine lv_aload_n hx hb dd_O_reckonAudit_19 rfl (lv_at hl 0 rfl) ?_
        refine va_get (D := D) (ci := 0) (v := .ref (ad 1)) (C := "OpenDeal") (T := T_O) (N := 11) hx hb hk in_O hown hK hP 0 at_O rfl 3 (by decide) (hk _ kw_108) (fun _ h9 => h9) rfl dd_O_reckonAudit_20 ?_
        refine lv_iload_n hx hb dd_O_reckonAudit_23 rfl (lv_at hl 1 rfl) ?_
        obtain ⟨hi17, h⟩ := oi_out h
        refine ap_ald (b := ad (15 + 6 * (v1).toNatClampNeg)) hx hb hK hP 1 3 at_pl rfl hi17 (if_pos (vi_lt hi17)) dd_O_reckonAudit_24 ?_
        refine va_get (D := D) (ci := 1) (v := .ref (ad ((15 + 6 * (v1).toNatClampNeg) + 2))) (C := "OpenDeal$Player") (T := T_P) (N := 13) hx hb hk in_P hown hK hP (15 + 6 * (v1).toNatClampNeg) (at_P (isP_of (vi_lt hi17))) rfl 9 (by decide) (hk _ kw_67) (fun _ h9 => h9) rfl dd_O_reckonAudit_25 ?_
        obtain ⟨r18, hr18, h⟩ := ob_out h
        refine cr_Vl (n := 0) (As := []) hx hb hml hown hk (mm_S_mark l D kc ad _ _ _ _ (isP_S2 (isP_of (vi_lt hi17))) _ hr18) hK hP ((15 + 6 * (v1).toNatClampNeg) + 2) (at_S (isP_S2 (isP_of (vi_lt hi17)))) rfl rfl kw_207 kw_208 kw_209 kw_3 kw_210 ⟨rfl, rfl⟩ (by decide +kernel) ⟨Nat.le_of_ble_eq_true rfl, Nat.le_of_ble_eq_true rfl⟩ rfl hl.1 rfl (Nat.le_of_ble_eq_true rfl) dd_O_reckonAudit_28 ⟨hcn, hcn⟩ ?_
        refine W.lcmp hx hb dd_O_reckonAudit_31 ?_
        refine lv_if_eq (tgt := 42) hx hb dd_O_reckonAudit_32 (by decide) (fun hc19 => ?_) (fun hc19 => ?_)
        · have h := ip_out hc19 h
          refine lv_iinc (v := v1 + (1 : Int32)) (lv' := [(1, .int (v1 + (1 : Int32))), (0, .ref (ad 0))]) hx hb dd_O_reckonAudit_42 hl (k := 1) rfl rfl (by decide) rfl (fun ls hl => ?_)
          refine lv_goto (tgt := 2) hx hb dd_O_reckonAudit_45 (by decide) ?_
          exact ih _ _ _ hcn _ h _ _ hP hD hS _ (lv_sub hl [1, 0] rfl)
        · have h := in_out hc19 h
          refine lv_bipush (v := 16) hx hb dd_O_reckonAudit_35 (by decide) ?_
          refine lv_iload_n hx hb dd_O_reckonAudit_37 rfl (lv_at hl 1 rfl) ?_
          refine lv_imul hx hb dd_O_reckonAudit_38 ?_
          refine lv_iconst (v := 1) hx hb dd_O_reckonAudit_39 (by decide) ?_
          refine lv_iadd hx hb dd_O_reckonAudit_40 ?_
          obtain rfl := Option.some.inj h
          refine W.widen (k := 8) (n := 8) hcn hcn ?_
          exact W.iret hx hb hr (fun t ht hW => ⟨⟨_, (), rfl, rfl, by rw [ht]; exact hP, va_K.moved hW.alike hK, hD⟩, hS.F ht⟩) hS.2.2 dd_O_reckonAudit_41
  have hl := lv_entry ([.ref (ad 0)]) (n := 3) (Nat.le_of_ble_eq_true rfl)
  rw [lg_entry_eq]
  generalize (lg_sl ([.ref (ad 0)]) ++ List.replicate (3 - (lg_sl ([.ref (ad 0)])).length) Slot.unset).toArray = ls at hl ⊢
  have hl : lv_has ls 3 [(0, .ref (ad 0))] := hl
  unfold ff_O_reckonAudit at h
  refine lv_iconst (v := 0) hx hb dd_O_reckonAudit_0 (by decide) ?_
  refine lv_istore_n (lv' := [(1, .int (0 : Int32)), (0, .ref (ad 0))]) hx hb dd_O_reckonAudit_1 rfl hl (by decide) rfl (fun ls hl => ?_)
  exact L2  _ _ _ _ (Nat.zero_le 8) _ h _ _ hP hD hS _ (lv_sub hl [1, 0] rfl)
def ff_O_show (n : Nat) (I : MI) (J : MJ) (a1 : Int32) : Option (Int32 × MI × MJ) := if (I 0 1) = (5 : Int32) then ((ff_O_isSeated n I J a1).bind fun r2 => if r2 = 0 then (some ((0 : Int32), I, J)) else (if ¬ (a1 < 0 ∨ 4 ≤ (a1).toNatClampNeg) then if (I (15 + 6 * (a1).toNatClampNeg) 7) = 0 then (if ¬ (a1 < 0 ∨ 4 ≤ (a1).toNatClampNeg) then (ff_P_showSecrets n I J (15 + 6 * (a1).toNatClampNeg) (I 0 0)).bind fun r7 => (ff_O_allShown n r7.1 r7.2 ).bind fun r8 => if r8 = 0 then (some ((1 : Int32), r7.1, r7.2)) else ((ff_O_reckonAudit n (ui r7.1 0 1 (6 : Int32)) r7.2 ).bind fun r10 => some ((1 : Int32), ui r10.2.1 0 8 r10.1, r10.2.2)) else none) else (some ((0 : Int32), I, J)) else none)) else (some ((0 : Int32), I, J))
set_option maxHeartbeats 4000000 in
set_option maxRecDepth 100000 in
theorem mm_O_show (l : Launch) (D : va_G) (kc : Nat → ClassId) (ad : Nat → Nat) (I0 : MI) (J0 : MJ) (sz n : Nat) (a1 : Int32) (r : Int32 × MI × MJ) (h : ff_O_show n I0 J0 a1 = some r) : Met l yy_O_show (.code yy_O_show cc_O_show 2 (some .boolean) :: kw) { frames := 5, cells := 8, slots := 8, locals := 117 } (va_Pc [.ref (ad 0), .int a1] (BW D kc (wC kc ad I0 J0) sz)) (va_Qi (fun z (_ : Unit) => z = r.1) (EW D kc (va_A (wC kc ad I0 J0) sz) (wC kc ad r.2.1 r.2.2)) (va_A (wC kc ad I0 J0) sz)) 8 8 (va_A (wC kc ad I0 J0) sz) := by
  refine Met.ofW (cc := cc_O_show) (maxL := 2) (ret := some .boolean) (by decide) rfl ?_
  intro p e s m args below meth c s₁ B hml hv
  obtain ⟨rfl, hsz, hP, hK, hD0⟩ := hv
  have hx := B.exec
  have hb := B.bytes
  have hr := B.returns
  have hlocks := B.notSynchronized
  have hk : ∀ w ∈ kw, w.before _ s = true := fun w hw => atoms_spec (ws := (.code yy_O_show cc_O_show 2 (some .boolean) :: kw)) B.pre w (List.mem_cons_of_mem _ hw)
  have hown : s.vm.findClass "OpenDeal" = some m.cls := findClass_of_methodNamed B.named
  subst hsz
  have hD := hD0.self (sz := s.heap.size)
  generalize hAe : va_A (wC kc ad I0 J0) s.heap.size = A at hD ⊢
  have hA : ∀ q : Nat, s.heap.size ≤ q → A q := fun q h => by rw [← hAe]; exact Or.inr h
  have hS : va_S A s.heap s.heap [] := va_S.rf
  have hP : va_P D cls5 (wC kc ad I0 J0) s.heap := hP
  clear hAe hD0
  have hl := lv_entry ([.ref (ad 0), .int a1]) (n := 2) (Nat.le_of_ble_eq_true rfl)
  rw [lg_entry_eq]
  generalize (lg_sl ([.ref (ad 0), .int a1]) ++ List.replicate (2 - (lg_sl ([.ref (ad 0), .int a1])).length) Slot.unset).toArray = ls at hl ⊢
  have hl : lv_has ls 2 [(0, .ref (ad 0)), (1, .int a1)] := hl
  unfold ff_O_show at h
  refine lv_aload_n hx hb dd_O_show_0 rfl (lv_at hl 0 rfl) ?_
  refine va_get (D := D) (ci := 0) (v := .int (I0 0 1)) (C := "OpenDeal") (T := T_O) (N := 11) hx hb hk in_O hown hK hP 0 at_O rfl 1 (by decide) (hk _ kw_106) (fun _ h9 => h9) rfl dd_O_show_1 ?_
  refine lv_iconst (v := 5) hx hb dd_O_show_4 (by decide) ?_
  refine lv_icmp_ne (tgt := 28) hx hb dd_O_show_5 (by decide) (fun hc1 => ?_) (fun hc1 => ?_)
  · have h := in_out hc1 h
    refine lv_iconst (v := 0) hx hb dd_O_show_28 (by decide) ?_
    obtain rfl := Option.some.inj h
    refine W.widen (k := 8) (n := 8) (by omega) (by omega) ?_
    exact W.zret hx hb hr rfl (fun t ht hW => ⟨⟨_, (), rfl, rfl, by rw [ht]; exact hP, va_K.moved hW.alike hK, hD⟩, hS.F ht⟩) hS.2.2 dd_O_show_29
  · have h := ip_out hc1 h
    refine lv_aload_n hx hb dd_O_show_8 rfl (lv_at hl 0 rfl) ?_
    refine lv_iload_n hx hb dd_O_show_9 rfl (lv_at hl 1 rfl) ?_
    obtain ⟨r2, hr2, h⟩ := ob_out h
    refine cr_Vi (n := 1) (As := [.int a1]) hx hb hml hown hk (mm_O_isSeated l D kc ad _ _ _ _ _ hr2) hK hP 0 at_O rfl rfl kw_196 kw_198 sel_O_isSeated kw_1 kw_199 ⟨rfl, rfl⟩ (by decide +kernel) ⟨Nat.le_of_ble_eq_true rfl, Nat.le_of_ble_eq_true rfl⟩ rfl hl.1 rfl (Nat.le_of_ble_eq_true rfl) dd_O_show_10 ⟨Nat.le_of_ble_eq_true rfl, Nat.le_of_ble_eq_true rfl⟩ ?_
    refine lv_if_eq (tgt := 28) hx hb dd_O_show_13 (by decide) (fun hc3 => ?_) (fun hc3 => ?_)
    · have h := ip_out hc3 h
      refine lv_iconst (v := 0) hx hb dd_O_show_28 (by decide) ?_
      obtain rfl := Option.some.inj h
      refine W.widen (k := 8) (n := 8) (by omega) (by omega) ?_
      exact W.zret hx hb hr rfl (fun t ht hW => ⟨⟨_, (), rfl, rfl, by rw [ht]; exact hP, va_K.moved hW.alike hK, hD⟩, hS.F ht⟩) hS.2.2 dd_O_show_29
    · have h := in_out hc3 h
      refine lv_aload_n hx hb dd_O_show_16 rfl (lv_at hl 0 rfl) ?_
      refine va_get (D := D) (ci := 0) (v := .ref (ad 1)) (C := "OpenDeal") (T := T_O) (N := 11) hx hb hk in_O hown hK hP 0 at_O rfl 3 (by decide) (hk _ kw_108) (fun _ h9 => h9) rfl dd_O_show_17 ?_
      refine lv_iload_n hx hb dd_O_show_20 rfl (lv_at hl 1 rfl) ?_
      obtain ⟨hi4, h⟩ := oi_out h
      refine ap_ald (b := ad (15 + 6 * (a1).toNatClampNeg)) hx hb hK hP 1 3 at_pl rfl hi4 (if_pos (vi_lt hi4)) dd_O_show_21 ?_
      refine va_get (D := D) (ci := 1) (v := .int (I0 (15 + 6 * (a1).toNatClampNeg) 7)) (C := "OpenDeal$Player") (T := T_P) (N := 13) hx hb hk in_P hown hK hP (15 + 6 * (a1).toNatClampNeg) (at_P (isP_of (vi_lt hi4))) rfl 7 (by decide) (hk _ kw_63) (fun _ h9 => h9) rfl dd_O_show_22 ?_
      refine lv_if_eq (tgt := 30) hx hb dd_O_show_25 (by decide) (fun hc5 => ?_) (fun hc5 => ?_)
      · have h := ip_out hc5 h
        refine lv_aload_n hx hb dd_O_show_30 rfl (lv_at hl 0 rfl) ?_
        refine va_get (D := D) (ci := 0) (v := .ref (ad 1)) (C := "OpenDeal") (T := T_O) (N := 11) hx hb hk in_O hown hK hP 0 at_O rfl 3 (by decide) (hk _ kw_108) (fun _ h9 => h9) rfl dd_O_show_31 ?_
        refine lv_iload_n hx hb dd_O_show_34 rfl (lv_at hl 1 rfl) ?_
        obtain ⟨hi6, h⟩ := oi_out h
        refine ap_ald (b := ad (15 + 6 * (a1).toNatClampNeg)) hx hb hK hP 1 3 at_pl rfl hi6 (if_pos (vi_lt hi6)) dd_O_show_35 ?_
        refine lv_aload_n hx hb dd_O_show_36 rfl (lv_at hl 0 rfl) ?_
        refine va_get (D := D) (ci := 0) (v := .int (I0 0 0)) (C := "OpenDeal") (T := T_O) (N := 11) hx hb hk in_O hown hK hP 0 at_O rfl 0 (by decide) (hk _ kw_105) (fun _ h9 => h9) rfl dd_O_show_37 ?_
        obtain ⟨r7, hr7, h⟩ := ob_out h
        refine cw_Vv (n := 1) (As := [.int (I0 0 0)]) (mc := 0) (ms := 0) hx hb hml hown hk (mm_P_showSecrets l D kc ad _ _ _ _ _ (isP_of (vi_lt hi6)) _ _ hr7) hK hP hD hS hA (15 + 6 * (a1).toNatClampNeg) (at_P (isP_of (vi_lt hi6))) rfl rfl kw_382 kw_383 kw_384 kw_2 kw_385 ⟨rfl, rfl⟩ (by decide +kernel) ⟨Nat.le_of_ble_eq_true rfl, Nat.le_of_ble_eq_true rfl⟩ rfl hl.1 rfl (Nat.le_of_ble_eq_true rfl) dd_O_show_40 ⟨Nat.le_of_ble_eq_true rfl, Nat.le_of_ble_eq_true rfl⟩ (fun H locs hP hD hS => ?_)
        refine lv_aload_n hx hb dd_O_show_43 rfl (lv_at hl 0 rfl) ?_
        obtain ⟨r8, hr8, h⟩ := ob_out h
        refine cr_Vi (n := 0) (As := []) hx hb hml hown hk (mm_O_allShown l D kc ad _ _ _  _ hr8) hK hP 0 at_O rfl rfl kw_388 kw_390 sel_O_allShown kw_1 kw_391 ⟨rfl, rfl⟩ (by decide +kernel) ⟨Nat.le_of_ble_eq_true rfl, Nat.le_of_ble_eq_true rfl⟩ rfl hl.1 rfl (Nat.le_of_ble_eq_true rfl) dd_O_show_44 ⟨Nat.le_of_ble_eq_true rfl, Nat.le_of_ble_eq_true rfl⟩ ?_
        refine lv_if_eq (tgt := 64) hx hb dd_O_show_47 (by decide) (fun hc9 => ?_) (fun hc9 => ?_)
        · have h := ip_out hc9 h
          refine lv_iconst (v := 1) hx hb dd_O_show_64 (by decide) ?_
          obtain rfl := Option.some.inj h
          refine W.widen (k := 8) (n := 8) (by omega) (by omega) ?_
          exact W.zret hx hb hr rfl (fun t ht hW => ⟨⟨_, (), rfl, rfl, by rw [ht]; exact hP, va_K.moved hW.alike hK, hD⟩, hS.F ht⟩) hS.2.2 dd_O_show_65
        · have h := in_out hc9 h
          refine lv_aload_n hx hb dd_O_show_50 rfl (lv_at hl 0 rfl) ?_
          refine lv_bipush (v := 6) hx hb dd_O_show_51 (by decide) ?_
          refine va_put (D := D) (ci := 0) (v := .int (6 : Int32)) (ty := .int) (C := "OpenDeal") (T := T_O) (N := 11) hx hb hk in_O ty_O tk_O nm_O hown hK hP hD hS 0 at_O rfl 1 (by decide) (hk _ kw_106) (fun _ h9 => h9) rfl (by decide +kernel) rfl rfl (Nat.le_of_ble_eq_true rfl) dd_O_show_53 (fun H locs hP hD hS => ?_)
          rw [pt_O1] at hP hD
          refine lv_aload_n hx hb dd_O_show_56 rfl (lv_at hl 0 rfl) ?_
          refine lv_aload_n hx hb dd_O_show_57 rfl (lv_at hl 0 rfl) ?_
          obtain ⟨r10, hr10, h⟩ := ob_out h
          refine cw_Vi (n := 0) (As := []) (mc := 8) (ms := 8) hx hb hml hown hk (mm_O_reckonAudit l D kc ad _ _ _ _  _ hr10) hK hP hD hS hA 0 at_O rfl rfl kw_392 kw_394 sel_O_reckonAudit kw_1 kw_395 ⟨rfl, rfl⟩ (by decide +kernel) ⟨Nat.le_of_ble_eq_true rfl, Nat.le_of_ble_eq_true rfl⟩ rfl hl.1 rfl (Nat.le_of_ble_eq_true rfl) dd_O_show_58 ⟨Nat.le_of_ble_eq_true rfl, Nat.le_of_ble_eq_true rfl⟩ (fun H locs hP hD hS => ?_)
          refine va_put (D := D) (ci := 0) (v := .int r10.1) (ty := .int) (C := "OpenDeal") (T := T_O) (N := 11) hx hb hk in_O ty_O tk_O nm_O hown hK hP hD hS 0 at_O rfl 8 (by decide) (hk _ kw_113) (fun _ h9 => h9) rfl (by decide +kernel) rfl rfl (Nat.le_of_ble_eq_true rfl) dd_O_show_61 (fun H locs hP hD hS => ?_)
          rw [pt_O8] at hP hD
          refine lv_iconst (v := 1) hx hb dd_O_show_64 (by decide) ?_
          obtain rfl := Option.some.inj h
          exact W.zret hx hb hr rfl (fun t ht hW => ⟨⟨_, (), rfl, rfl, by rw [ht]; exact hP, va_K.moved hW.alike hK, hD⟩, hS.F ht⟩) hS.2.2 dd_O_show_65
      · have h := in_out hc5 h
        refine lv_iconst (v := 0) hx hb dd_O_show_28 (by decide) ?_
        obtain rfl := Option.some.inj h
        refine W.widen (k := 8) (n := 8) (by omega) (by omega) ?_
        exact W.zret hx hb hr rfl (fun t ht hW => ⟨⟨_, (), rfl, rfl, by rw [ht]; exact hP, va_K.moved hW.alike hK, hD⟩, hS.F ht⟩) hS.2.2 dd_O_show_29
def ff_O_cheat (n : Nat) (I : MI) (J : MJ) (a1 : Int32) (a2 : Int32) (a3 : Int32) : Option (Int32 × MI × MJ) := if (I 0 1) < (1 : Int32) then (some ((0 : Int32), I, J)) else (if (5 : Int32) < (I 0 1) then (some ((0 : Int32), I, J)) else ((ff_O_isSeated n I J a1).bind fun r3 => if r3 = 0 then (some ((0 : Int32), I, J)) else (if a2 < 0 then (some ((0 : Int32), I, J)) else (if (5 : Int32) ≤ a2 then (some ((0 : Int32), I, J)) else ((ff_O_isPlace n a3).bind fun r7 => if r7 = 0 then (some ((0 : Int32), I, J)) else (if ¬ (a1 < 0 ∨ 4 ≤ (a1).toNatClampNeg) then if ¬ (a2 < 0 ∨ 5 ≤ (a2).toNatClampNeg) then if ¬ (a2 < 0 ∨ 5 ≤ (a2).toNatClampNeg) then some ((1 : Int32), I, uj J ((15 + 6 * (a1).toNatClampNeg) + 5) (a2).toNatClampNeg ((J ((15 + 6 * (a1).toNatClampNeg) + 5) (a2).toNatClampNeg) ||| ((1 : Int64) <<< (Int32.toInt64 a3 &&& 63)))) else none else none else none))))))
set_option maxHeartbeats 4000000 in
set_option maxRecDepth 100000 in
theorem mm_O_cheat (l : Launch) (D : va_G) (kc : Nat → ClassId) (ad : Nat → Nat) (I0 : MI) (J0 : MJ) (sz n : Nat) (a1 : Int32) (a2 : Int32) (a3 : Int32) (r : Int32 × MI × MJ) (h : ff_O_cheat n I0 J0 a1 a2 a3 = some r) : Met l yy_O_cheat (.code yy_O_cheat cc_O_cheat 4 (some .boolean) :: kw) { frames := 1, cells := 0, slots := 0, locals := 21 } (va_Pc [.ref (ad 0), .int a1, .int a2, .int a3] (BW D kc (wC kc ad I0 J0) sz)) (va_Qi (fun z (_ : Unit) => z = r.1) (EW D kc (va_A (wC kc ad I0 J0) sz) (wC kc ad r.2.1 r.2.2)) (va_A (wC kc ad I0 J0) sz)) 0 0 (va_A (wC kc ad I0 J0) sz) := by
  refine Met.ofW (cc := cc_O_cheat) (maxL := 4) (ret := some .boolean) (by decide) rfl ?_
  intro p e s m args below meth c s₁ B hml hv
  obtain ⟨rfl, hsz, hP, hK, hD0⟩ := hv
  have hx := B.exec
  have hb := B.bytes
  have hr := B.returns
  have hlocks := B.notSynchronized
  have hk : ∀ w ∈ kw, w.before _ s = true := fun w hw => atoms_spec (ws := (.code yy_O_cheat cc_O_cheat 4 (some .boolean) :: kw)) B.pre w (List.mem_cons_of_mem _ hw)
  have hown : s.vm.findClass "OpenDeal" = some m.cls := findClass_of_methodNamed B.named
  subst hsz
  have hD := hD0.self (sz := s.heap.size)
  generalize hAe : va_A (wC kc ad I0 J0) s.heap.size = A at hD ⊢
  have hA : ∀ q : Nat, s.heap.size ≤ q → A q := fun q h => by rw [← hAe]; exact Or.inr h
  have hS : va_S A s.heap s.heap [] := va_S.rf
  have hP : va_P D cls5 (wC kc ad I0 J0) s.heap := hP
  clear hAe hD0
  have hl := lv_entry ([.ref (ad 0), .int a1, .int a2, .int a3]) (n := 4) (Nat.le_of_ble_eq_true rfl)
  rw [lg_entry_eq]
  generalize (lg_sl ([.ref (ad 0), .int a1, .int a2, .int a3]) ++ List.replicate (4 - (lg_sl ([.ref (ad 0), .int a1, .int a2, .int a3])).length) Slot.unset).toArray = ls at hl ⊢
  have hl : lv_has ls 4 [(0, .ref (ad 0)), (1, .int a1), (2, .int a2), (3, .int a3)] := hl
  unfold ff_O_cheat at h
  refine lv_aload_n hx hb dd_O_cheat_0 rfl (lv_at hl 0 rfl) ?_
  refine va_get (D := D) (ci := 0) (v := .int (I0 0 1)) (C := "OpenDeal") (T := T_O) (N := 11) hx hb hk in_O hown hK hP 0 at_O rfl 1 (by decide) (hk _ kw_106) (fun _ h9 => h9) rfl dd_O_cheat_1 ?_
  refine lv_iconst (v := 1) hx hb dd_O_cheat_4 (by decide) ?_
  refine lv_icmp_lt (tgt := 24) hx hb dd_O_cheat_5 (by decide) (fun hc1 => ?_) (fun hc1 => ?_)
  · have h := ip_out hc1 h
    refine lv_iconst (v := 0) hx hb dd_O_cheat_24 (by decide) ?_
    obtain rfl := Option.some.inj h
    exact W.zret hx hb hr rfl (fun t ht hW => ⟨⟨_, (), rfl, rfl, by rw [ht]; exact hP, va_K.moved hW.alike hK, hD⟩, hS.F ht⟩) hS.2.2 dd_O_cheat_25
  · have h := in_out hc1 h
    refine lv_aload_n hx hb dd_O_cheat_8 rfl (lv_at hl 0 rfl) ?_
    refine va_get (D := D) (ci := 0) (v := .int (I0 0 1)) (C := "OpenDeal") (T := T_O) (N := 11) hx hb hk in_O hown hK hP 0 at_O rfl 1 (by decide) (hk _ kw_106) (fun _ h9 => h9) rfl dd_O_cheat_9 ?_
    refine lv_iconst (v := 5) hx hb dd_O_cheat_12 (by decide) ?_
    refine lv_icmp_gt (tgt := 24) hx hb dd_O_cheat_13 (by decide) (fun hc2 => ?_) (fun hc2 => ?_)
    · have h := ip_out hc2 h
      refine lv_iconst (v := 0) hx hb dd_O_cheat_24 (by decide) ?_
      obtain rfl := Option.some.inj h
      exact W.zret hx hb hr rfl (fun t ht hW => ⟨⟨_, (), rfl, rfl, by rw [ht]; exact hP, va_K.moved hW.alike hK, hD⟩, hS.F ht⟩) hS.2.2 dd_O_cheat_25
    · have h := in_out hc2 h
      refine lv_aload_n hx hb dd_O_cheat_16 rfl (lv_at hl 0 rfl) ?_
      refine lv_iload_n hx hb dd_O_cheat_17 rfl (lv_at hl 1 rfl) ?_
      obtain ⟨r3, hr3, h⟩ := ob_out h
      refine cr_Vi (n := 1) (As := [.int a1]) hx hb hml hown hk (mm_O_isSeated l D kc ad _ _ _ _ _ hr3) hK hP 0 at_O rfl rfl kw_196 kw_198 sel_O_isSeated kw_1 kw_199 ⟨rfl, rfl⟩ (by decide +kernel) ⟨Nat.le_of_ble_eq_true rfl, Nat.le_of_ble_eq_true rfl⟩ rfl hl.1 rfl (Nat.le_of_ble_eq_true rfl) dd_O_cheat_18 ⟨Nat.le_of_ble_eq_true rfl, Nat.le_of_ble_eq_true rfl⟩ ?_
      refine lv_if_ne (tgt := 26) hx hb dd_O_cheat_21 (by decide) (fun hc4 => ?_) (fun hc4 => ?_)
      · have h := in_out hc4 h
        refine lv_iload_n hx hb dd_O_cheat_26 rfl (lv_at hl 2 rfl) ?_
        refine lv_if_lt (tgt := 42) hx hb dd_O_cheat_27 (by decide) (fun hc5 => ?_) (fun hc5 => ?_)
        · have h := ip_out hc5 h
          refine lv_iconst (v := 0) hx hb dd_O_cheat_42 (by decide) ?_
          obtain rfl := Option.some.inj h
          exact W.zret hx hb hr rfl (fun t ht hW => ⟨⟨_, (), rfl, rfl, by rw [ht]; exact hP, va_K.moved hW.alike hK, hD⟩, hS.F ht⟩) hS.2.2 dd_O_cheat_43
        · have h := in_out hc5 h
          refine lv_iload_n hx hb dd_O_cheat_30 rfl (lv_at hl 2 rfl) ?_
          refine lv_iconst (v := 5) hx hb dd_O_cheat_31 (by decide) ?_
          refine lv_icmp_ge (tgt := 42) hx hb dd_O_cheat_32 (by decide) (fun hc6 => ?_) (fun hc6 => ?_)
          · have h := ip_out hc6 h
            refine lv_iconst (v := 0) hx hb dd_O_cheat_42 (by decide) ?_
            obtain rfl := Option.some.inj h
            exact W.zret hx hb hr rfl (fun t ht hW => ⟨⟨_, (), rfl, rfl, by rw [ht]; exact hP, va_K.moved hW.alike hK, hD⟩, hS.F ht⟩) hS.2.2 dd_O_cheat_43
          · have h := in_out hc6 h
            refine lv_iload_n hx hb dd_O_cheat_35 rfl (lv_at hl 3 rfl) ?_
            obtain ⟨r7, hr7, h⟩ := ob_out h
            refine ro_Si (n := 1) (As := [.int a3]) hx hb hml hown hk (mm_O_isPlace l _ _ _ hr7) (fun U _ _ => trivial) (fun _ _ _ _ _ => trivial) kw_278 kw_279 kw_1 kw_280 ⟨rfl, rfl⟩ (by decide +kernel) ⟨Nat.le_of_ble_eq_true rfl, Nat.le_of_ble_eq_true rfl⟩ rfl hl.1 rfl (Nat.le_of_ble_eq_true rfl) dd_O_cheat_36 ⟨Nat.le_of_ble_eq_true rfl, Nat.le_of_ble_eq_true rfl⟩ ?_
            refine lv_if_ne (tgt := 44) hx hb dd_O_cheat_39 (by decide) (fun hc8 => ?_) (fun hc8 => ?_)
            · have h := in_out hc8 h
              refine lv_aload_n hx hb dd_O_cheat_44 rfl (lv_at hl 0 rfl) ?_
              refine va_get (D := D) (ci := 0) (v := .ref (ad 1)) (C := "OpenDeal") (T := T_O) (N := 11) hx hb hk in_O hown hK hP 0 at_O rfl 3 (by decide) (hk _ kw_108) (fun _ h9 => h9) rfl dd_O_cheat_45 ?_
              refine lv_iload_n hx hb dd_O_cheat_48 rfl (lv_at hl 1 rfl) ?_
              obtain ⟨hi9, h⟩ := oi_out h
              refine ap_ald (b := ad (15 + 6 * (a1).toNatClampNeg)) hx hb hK hP 1 3 at_pl rfl hi9 (if_pos (vi_lt hi9)) dd_O_cheat_49 ?_
              refine va_get (D := D) (ci := 1) (v := .ref (ad ((15 + 6 * (a1).toNatClampNeg) + 5))) (C := "OpenDeal$Player") (T := T_P) (N := 13) hx hb hk in_P hown hK hP (15 + 6 * (a1).toNatClampNeg) (at_P (isP_of (vi_lt hi9))) rfl 12 (by decide) (hk _ kw_73) (fun _ h9 => h9) rfl dd_O_cheat_50 ?_
              refine lv_iload_n hx hb dd_O_cheat_53 rfl (lv_at hl 2 rfl) ?_
              refine lv_dup2_11 hx hb dd_O_cheat_54 rfl rfl ?_
              obtain ⟨hi10, h⟩ := oi_out h
              refine va_lald hx hb hK hP ((15 + 6 * (a1).toNatClampNeg) + 5) 1 (at_L (isP_L (isP_of (vi_lt hi9)))) rfl hi10 dd_O_cheat_55 ?_
              refine lv_lconst (v := 1) hx hb dd_O_cheat_56 (by decide) ?_
              refine lv_iload_n hx hb dd_O_cheat_57 rfl (lv_at hl 3 rfl) ?_
              refine lv_lshl hx hb dd_O_cheat_58 rfl ?_
              refine lv_lor hx hb dd_O_cheat_59 ?_
              obtain ⟨hi11, h⟩ := oi_out h
              refine va_last hx hb hK hP hD hS ((15 + 6 * (a1).toNatClampNeg) + 5) 1 (at_L (isP_L (isP_of (vi_lt hi9)))) rfl (x := (J0 ((15 + 6 * (a1).toNatClampNeg) + 5) (a2).toNatClampNeg) ||| ((1 : Int64) <<< (Int32.toInt64 a3 &&& 63))) hi11 dd_O_cheat_60 (fun H locs hP hD hS => ?_)
              rw [pt_L (isP_L (isP_of (vi_lt hi9)))] at hP hD
              refine lv_iconst (v := 1) hx hb dd_O_cheat_61 (by decide) ?_
              obtain rfl := Option.some.inj h
              exact W.zret hx hb hr rfl (fun t ht hW => ⟨⟨_, (), rfl, rfl, by rw [ht]; exact hP, va_K.moved hW.alike hK, hD⟩, hS.F ht⟩) hS.2.2 dd_O_cheat_62
            · have h := ip_out hc8 h
              refine lv_iconst (v := 0) hx hb dd_O_cheat_42 (by decide) ?_
              obtain rfl := Option.some.inj h
              exact W.zret hx hb hr rfl (fun t ht hW => ⟨⟨_, (), rfl, rfl, by rw [ht]; exact hP, va_K.moved hW.alike hK, hD⟩, hS.F ht⟩) hS.2.2 dd_O_cheat_43
      · have h := ip_out hc4 h
        refine lv_iconst (v := 0) hx hb dd_O_cheat_24 (by decide) ?_
        obtain rfl := Option.some.inj h
        exact W.zret hx hb hr rfl (fun t ht hW => ⟨⟨_, (), rfl, rfl, by rw [ht]; exact hP, va_K.moved hW.alike hK, hD⟩, hS.F ht⟩) hS.2.2 dd_O_cheat_25
def ff_O_sumInHand_4 (I : MI) (J : MJ)  : Nat → Int32 → Int32 → Option (Int32)
  | 0, _, _ => none
  | n + 1, v1, v2 => if (I 0 2) ≤ v2 then (some v1) else (if ¬ (v2 < 0 ∨ 4 ≤ (v2).toNatClampNeg) then tl (v1 + (I (15 + 6 * (v2).toNatClampNeg) 1)) fun y3 => ff_O_sumInHand_4 I J n y3 (v2 + (1 : Int32)) else none)
def ff_O_sumInHand (n : Nat) (I : MI) (J : MJ)  : Option (Int32) := ff_O_sumInHand_4 I J n (0 : Int32) (0 : Int32)
set_option maxHeartbeats 4000000 in
set_option maxRecDepth 100000 in
theorem mm_O_sumInHand (l : Launch) (D : va_G) (kc : Nat → ClassId) (ad : Nat → Nat) (I : MI) (J : MJ) (n : Nat)  (r : Int32) (h : ff_O_sumInHand n I J  = some r) : Met l yy_O_sumInHand (.code yy_O_sumInHand cc_O_sumInHand 3 (some .int) :: kw) { frames := 0, cells := 0, slots := 0, locals := 0 } (va_Pc [.ref (ad 0)] (BR D kc (wC kc ad I J))) (vp_Si (fun z => z = r)) 0 0 (fun _ => False) := by
  refine Met.ofW (cc := cc_O_sumInHand) (maxL := 3) (ret := some .int) (by decide) rfl ?_
  intro p e s m args below meth c s₁ B hml hv
  obtain ⟨rfl, hP, hK⟩ := hv
  have hx := B.exec
  have hb := B.bytes
  have hr := B.returns
  have hlocks := B.notSynchronized
  have hk : ∀ w ∈ kw, w.before _ s = true := fun w hw => atoms_spec (ws := (.code yy_O_sumInHand cc_O_sumInHand 3 (some .int) :: kw)) B.pre w (List.mem_cons_of_mem _ hw)
  have hown : s.vm.findClass "OpenDeal" = some m.cls := findClass_of_methodNamed B.named
  have L4 : ∀  (n : Nat) (v1 : Int32) (v2 : Int32), ff_O_sumInHand_4 I J n v1 v2 = some r → ∀ ls, lv_has ls 3 [(0, .ref (ad 0)), (1, .int v1), (2, .int v2)] → W p l e (headSpec (.code yy_O_sumInHand cc_O_sumInHand 3 (some .int) :: kw) { frames := 0, cells := 0, slots := 0, locals := 0 }).room s m ([.ref (ad 0)] : List Value).toArray below meth c s.heap [] 0 0 (MQ below (vp_Si (fun z => z = r)) ([.ref (ad 0)] : List Value).toArray s 0 0 (fun _ => False)) (F0 m 4 ls []) := by
    intro  n
    induction n with
    | zero => intro v1 v2 h; exact absurd h (by simp [ff_O_sumInHand_4])
    | succ n ih =>
      intro v1 v2 h ls hl
      rw [ff_O_sumInHand_4] at h
      refine lv_iload_n hx hb dd_O_sumInHand_4 rfl (lv_at hl 2 rfl) ?_
      refine lv_aload_n hx hb dd_O_sumInHand_5 rfl (lv_at hl 0 rfl) ?_
      refine va_get (D := D) (ci := 0) (v := .int (I 0 2)) (C := "OpenDeal") (T := T_O) (N := 11) hx hb hk in_O hown hK hP 0 at_O rfl 2 (by decide) (hk _ kw_107) (fun _ h9 => h9) rfl dd_O_sumInHand_6 ?_
      refine lv_icmp_ge (tgt := 30) hx hb dd_O_sumInHand_9 (by decide) (fun hc1 => ?_) (fun hc1 => ?_)
      · have h := ip_out hc1 h
        refine lv_iload_n hx hb dd_O_sumInHand_30 rfl (lv_at hl 1 rfl) ?_
        obtain rfl := Option.some.inj h
        exact W.iret hx hb hr (fun t ht hW => ⟨_, rfl, rfl, ht⟩) (fun q hq => by cases hq) dd_O_sumInHand_31
      · have h := in_out hc1 h
        refine lv_iload_n hx hb dd_O_sumInHand_12 rfl (lv_at hl 1 rfl) ?_
        refine lv_aload_n hx hb dd_O_sumInHand_13 rfl (lv_at hl 0 rfl) ?_
        refine va_get (D := D) (ci := 0) (v := .ref (ad 1)) (C := "OpenDeal") (T := T_O) (N := 11) hx hb hk in_O hown hK hP 0 at_O rfl 3 (by decide) (hk _ kw_108) (fun _ h9 => h9) rfl dd_O_sumInHand_14 ?_
        refine lv_iload_n hx hb dd_O_sumInHand_17 rfl (lv_at hl 2 rfl) ?_
        obtain ⟨hi2, h⟩ := oi_out h
        refine ap_ald (b := ad (15 + 6 * (v2).toNatClampNeg)) hx hb hK hP 1 3 at_pl rfl hi2 (if_pos (vi_lt hi2)) dd_O_sumInHand_18 ?_
        refine va_get (D := D) (ci := 1) (v := .int (I (15 + 6 * (v2).toNatClampNeg) 1)) (C := "OpenDeal$Player") (T := T_P) (N := 13) hx hb hk in_P hown hK hP (15 + 6 * (v2).toNatClampNeg) (at_P (isP_of (vi_lt hi2))) rfl 1 (by decide) (hk _ kw_53) (fun _ h9 => h9) rfl dd_O_sumInHand_19 ?_
        refine lv_iadd hx hb dd_O_sumInHand_22 ?_
        refine lv_topi (fun y3 ey3 => ?_)
        have h := tl_at ey3 h
        refine lv_istore_n (lv' := [(1, .int y3), (0, .ref (ad 0)), (2, .int v2)]) hx hb dd_O_sumInHand_23 rfl hl (by decide) rfl (fun ls hl => ?_)
        refine lv_iinc (v := v2 + (1 : Int32)) (lv' := [(2, .int (v2 + (1 : Int32))), (1, .int y3), (0, .ref (ad 0))]) hx hb dd_O_sumInHand_24 hl (k := 2) rfl rfl (by decide) rfl (fun ls hl => ?_)
        refine lv_goto (tgt := 4) hx hb dd_O_sumInHand_27 (by decide) ?_
        exact ih _ _ h _ (lv_sub hl [2, 1, 0] rfl)
  have hl := lv_entry ([.ref (ad 0)]) (n := 3) (Nat.le_of_ble_eq_true rfl)
  rw [lg_entry_eq]
  generalize (lg_sl ([.ref (ad 0)]) ++ List.replicate (3 - (lg_sl ([.ref (ad 0)])).length) Slot.unset).toArray = ls at hl ⊢
  have hl : lv_has ls 3 [(0, .ref (ad 0))] := hl
  unfold ff_O_sumInHand at h
  refine lv_iconst (v := 0) hx hb dd_O_sumInHand_0 (by decide) ?_
  refine lv_istore_n (lv' := [(1, .int (0 : Int32)), (0, .ref (ad 0))]) hx hb dd_O_sumInHand_1 rfl hl (by decide) rfl (fun ls hl => ?_)
  refine lv_iconst (v := 0) hx hb dd_O_sumInHand_2 (by decide) ?_
  refine lv_istore_n (lv' := [(2, .int (0 : Int32)), (1, .int (0 : Int32)), (0, .ref (ad 0))]) hx hb dd_O_sumInHand_3 rfl hl (by decide) rfl (fun ls hl => ?_)
  exact L4  _ _ _ h _ (lv_sub hl [2, 1, 0] rfl)
def ff_O_state (n : Nat) (I : MI) (J : MJ) (a1 : Int32) : Option (Int32) := if a1 = 0 then (some (I 0 1)) else if a1 = 1 then (some (I 0 2)) else if a1 = 2 then (if (I 0 7) = (-1 : Int32) then ((ff_O_nextToTurn n I J ).bind fun r5 => some r5) else (some (I 0 7))) else if a1 = 3 then ((ff_O_sumInHand n I J ).bind fun r7 => some r7) else if a1 = 4 then ((ff_O_mostInRound n I J ).bind fun r9 => some r9) else (some (-1 : Int32))
set_option maxHeartbeats 4000000 in
set_option maxRecDepth 100000 in
theorem mm_O_state (l : Launch) (D : va_G) (kc : Nat → ClassId) (ad : Nat → Nat) (I : MI) (J : MJ) (n : Nat) (a1 : Int32) (r : Int32) (h : ff_O_state n I J a1 = some r) : Met l yy_O_state (.code yy_O_state cc_O_state 2 (some .int) :: kw) { frames := 2, cells := 0, slots := 0, locals := 43 } (va_Pc [.ref (ad 0), .int a1] (BR D kc (wC kc ad I J))) (vp_Si (fun z => z = r)) 0 0 (fun _ => False) := by
  refine Met.ofW (cc := cc_O_state) (maxL := 2) (ret := some .int) (by decide) rfl ?_
  intro p e s m args below meth c s₁ B hml hv
  obtain ⟨rfl, hP, hK⟩ := hv
  have hx := B.exec
  have hb := B.bytes
  have hr := B.returns
  have hlocks := B.notSynchronized
  have hk : ∀ w ∈ kw, w.before _ s = true := fun w hw => atoms_spec (ws := (.code yy_O_state cc_O_state 2 (some .int) :: kw)) B.pre w (List.mem_cons_of_mem _ hw)
  have hown : s.vm.findClass "OpenDeal" = some m.cls := findClass_of_methodNamed B.named
  have hl := lv_entry ([.ref (ad 0), .int a1]) (n := 2) (Nat.le_of_ble_eq_true rfl)
  rw [lg_entry_eq]
  generalize (lg_sl ([.ref (ad 0), .int a1]) ++ List.replicate (2 - (lg_sl ([.ref (ad 0), .int a1])).length) Slot.unset).toArray = ls at hl ⊢
  have hl : lv_has ls 2 [(0, .ref (ad 0)), (1, .int a1)] := hl
  unfold ff_O_state at h
  refine lv_iload_n hx hb dd_O_state_0 rfl (lv_at hl 1 rfl) ?_
  by_cases hc1 : a1 = 0
  · have h := ip_out hc1 h
    refine lv_tableIn (tgt := 36) hx hb dd_O_state_1 (by rw [hc1]; decide) (by rw [hc1]; decide) (by rw [hc1]; rfl) (by decide) ?_
    refine lv_aload_n hx hb dd_O_state_36 rfl (lv_at hl 0 rfl) ?_
    refine va_get (D := D) (ci := 0) (v := .int (I 0 1)) (C := "OpenDeal") (T := T_O) (N := 11) hx hb hk in_O hown hK hP 0 at_O rfl 1 (by decide) (hk _ kw_106) (fun _ h9 => h9) rfl dd_O_state_37 ?_
    obtain rfl := Option.some.inj h
    exact W.iret hx hb hr (fun t ht hW => ⟨_, rfl, rfl, ht⟩) (fun q hq => by cases hq) dd_O_state_40
  have h := in_out hc1 h
  by_cases hc2 : a1 = 1
  · have h := ip_out hc2 h
    refine lv_tableIn (tgt := 41) hx hb dd_O_state_1 (by rw [hc2]; decide) (by rw [hc2]; decide) (by rw [hc2]; rfl) (by decide) ?_
    refine lv_aload_n hx hb dd_O_state_41 rfl (lv_at hl 0 rfl) ?_
    refine va_get (D := D) (ci := 0) (v := .int (I 0 2)) (C := "OpenDeal") (T := T_O) (N := 11) hx hb hk in_O hown hK hP 0 at_O rfl 2 (by decide) (hk _ kw_107) (fun _ h9 => h9) rfl dd_O_state_42 ?_
    obtain rfl := Option.some.inj h
    exact W.iret hx hb hr (fun t ht hW => ⟨_, rfl, rfl, ht⟩) (fun q hq => by cases hq) dd_O_state_45
  have h := in_out hc2 h
  by_cases hc3 : a1 = 2
  · have h := ip_out hc3 h
    refine lv_tableIn (tgt := 46) hx hb dd_O_state_1 (by rw [hc3]; decide) (by rw [hc3]; decide) (by rw [hc3]; rfl) (by decide) ?_
    refine lv_aload_n hx hb dd_O_state_46 rfl (lv_at hl 0 rfl) ?_
    refine va_get (D := D) (ci := 0) (v := .int (I 0 7)) (C := "OpenDeal") (T := T_O) (N := 11) hx hb hk in_O hown hK hP 0 at_O rfl 7 (by decide) (hk _ kw_112) (fun _ h9 => h9) rfl dd_O_state_47 ?_
    refine lv_iconst (v := -1) hx hb dd_O_state_50 (by decide) ?_
    refine lv_icmp_eq (tgt := 61) hx hb dd_O_state_51 (by decide) (fun hc4 => ?_) (fun hc4 => ?_)
    · have h := ip_out hc4 h
      refine lv_aload_n hx hb dd_O_state_61 rfl (lv_at hl 0 rfl) ?_
      obtain ⟨r5, hr5, h⟩ := ob_out h
      refine cr_Vi (n := 0) (As := []) hx hb hml hown hk (mm_O_nextToTurn l D kc ad _ _ _  _ hr5) hK hP 0 at_O rfl rfl kw_246 kw_248 sel_O_nextToTurn kw_1 kw_249 ⟨rfl, rfl⟩ (by decide +kernel) ⟨Nat.le_of_ble_eq_true rfl, Nat.le_of_ble_eq_true rfl⟩ rfl hl.1 rfl (Nat.le_of_ble_eq_true rfl) dd_O_state_62 ⟨Nat.le_of_ble_eq_true rfl, Nat.le_of_ble_eq_true rfl⟩ ?_
      obtain rfl := Option.some.inj h
      exact W.iret hx hb hr (fun t ht hW => ⟨_, rfl, rfl, ht⟩) (fun q hq => by cases hq) dd_O_state_65
    · have h := in_out hc4 h
      refine lv_aload_n hx hb dd_O_state_54 rfl (lv_at hl 0 rfl) ?_
      refine va_get (D := D) (ci := 0) (v := .int (I 0 7)) (C := "OpenDeal") (T := T_O) (N := 11) hx hb hk in_O hown hK hP 0 at_O rfl 7 (by decide) (hk _ kw_112) (fun _ h9 => h9) rfl dd_O_state_55 ?_
      refine lv_goto (tgt := 65) hx hb dd_O_state_58 (by decide) ?_
      obtain rfl := Option.some.inj h
      exact W.iret hx hb hr (fun t ht hW => ⟨_, rfl, rfl, ht⟩) (fun q hq => by cases hq) dd_O_state_65
  have h := in_out hc3 h
  by_cases hc6 : a1 = 3
  · have h := ip_out hc6 h
    refine lv_tableIn (tgt := 66) hx hb dd_O_state_1 (by rw [hc6]; decide) (by rw [hc6]; decide) (by rw [hc6]; rfl) (by decide) ?_
    refine lv_aload_n hx hb dd_O_state_66 rfl (lv_at hl 0 rfl) ?_
    obtain ⟨r7, hr7, h⟩ := ob_out h
    refine cr_Vi (n := 0) (As := []) hx hb hml hown hk (mm_O_sumInHand l D kc ad _ _ _  _ hr7) hK hP 0 at_O rfl rfl kw_412 kw_414 sel_O_sumInHand kw_1 kw_415 ⟨rfl, rfl⟩ (by decide +kernel) ⟨Nat.le_of_ble_eq_true rfl, Nat.le_of_ble_eq_true rfl⟩ rfl hl.1 rfl (Nat.le_of_ble_eq_true rfl) dd_O_state_67 ⟨Nat.le_of_ble_eq_true rfl, Nat.le_of_ble_eq_true rfl⟩ ?_
    obtain rfl := Option.some.inj h
    exact W.iret hx hb hr (fun t ht hW => ⟨_, rfl, rfl, ht⟩) (fun q hq => by cases hq) dd_O_state_70
  have h := in_out hc6 h
  by_cases hc8 : a1 = 4
  · have h := ip_out hc8 h
    refine lv_tableIn (tgt := 71) hx hb dd_O_state_1 (by rw [hc8]; decide) (by rw [hc8]; decide) (by rw [hc8]; rfl) (by decide) ?_
    refine lv_aload_n hx hb dd_O_state_71 rfl (lv_at hl 0 rfl) ?_
    obtain ⟨r9, hr9, h⟩ := ob_out h
    refine cr_Vi (n := 0) (As := []) hx hb hml hown hk (mm_O_mostInRound l D kc ad _ _ _  _ hr9) hK hP 0 at_O rfl rfl kw_329 kw_331 sel_O_mostInRound kw_1 kw_332 ⟨rfl, rfl⟩ (by decide +kernel) ⟨Nat.le_of_ble_eq_true rfl, Nat.le_of_ble_eq_true rfl⟩ rfl hl.1 rfl (Nat.le_of_ble_eq_true rfl) dd_O_state_72 ⟨Nat.le_of_ble_eq_true rfl, Nat.le_of_ble_eq_true rfl⟩ ?_
    obtain rfl := Option.some.inj h
    exact W.iret hx hb hr (fun t ht hW => ⟨_, rfl, rfl, ht⟩) (fun q hq => by cases hq) dd_O_state_75
  have h := in_out hc8 h
  have ehc1 := si_ne (k := 0) hc1 rfl
  have ehc2 := si_ne (k := 1) hc2 rfl
  have ehc3 := si_ne (k := 2) hc3 rfl
  have ehc6 := si_ne (k := 3) hc6 rfl
  have ehc8 := si_ne (k := 4) hc8 rfl
  refine lv_tableOut (tgt := 76) hx hb dd_O_state_1 (by omega) (by decide) ?_
  refine lv_iconst (v := -1) hx hb dd_O_state_76 (by decide) ?_
  obtain rfl := Option.some.inj h
  exact W.iret hx hb hr (fun t ht hW => ⟨_, rfl, rfl, ht⟩) (fun q hq => by cases hq) dd_O_state_77
def ff_P_countGiven_4 (I : MI) (J : MJ)  : Nat → Nat → Int32 → Int32 → Option (Int32)
  | 0, _, _, _ => none
  | n + 1, v0, v1, v2 => if (52 : Int32) ≤ v2 then (some v1) else ((ff_P_hasGiven n I J v0 v2).bind fun r2 => if r2 = 0 then (ff_P_countGiven_4 I J n v0 v1 (v2 + (1 : Int32))) else (ff_P_countGiven_4 I J n v0 (v1 + (1 : Int32)) (v2 + (1 : Int32))))
def ff_P_countGiven (n : Nat) (I : MI) (J : MJ) (a0 : Nat) : Option (Int32) := ff_P_countGiven_4 I J n a0 (0 : Int32) (0 : Int32)
set_option maxHeartbeats 4000000 in
set_option maxRecDepth 100000 in
theorem mm_P_countGiven (l : Launch) (D : va_G) (kc : Nat → ClassId) (ad : Nat → Nat) (I : MI) (J : MJ) (n : Nat) (a0 : Nat) (ha0 : isP a0) (r : Int32) (h : ff_P_countGiven n I J a0 = some r) : Met l yy_P_countGiven (.code yy_P_countGiven cc_P_countGiven 3 (some .int) :: kw) { frames := 1, cells := 0, slots := 0, locals := 21 } (va_Pc [.ref (ad a0)] (BR D kc (wC kc ad I J))) (vp_Si (fun z => z = r)) 0 0 (fun _ => False) := by
  refine Met.ofW (cc := cc_P_countGiven) (maxL := 3) (ret := some .int) (by decide) rfl ?_
  intro p e s m args below meth c s₁ B hml hv
  obtain ⟨rfl, hP, hK⟩ := hv
  have hx := B.exec
  have hb := B.bytes
  have hr := B.returns
  have hlocks := B.notSynchronized
  have hk : ∀ w ∈ kw, w.before _ s = true := fun w hw => atoms_spec (ws := (.code yy_P_countGiven cc_P_countGiven 3 (some .int) :: kw)) B.pre w (List.mem_cons_of_mem _ hw)
  have hown : s.vm.findClass "OpenDeal$Player" = some m.cls := findClass_of_methodNamed B.named
  have L4 : ∀  (n : Nat) (v0 : Nat) (hv0 : isP v0) (v1 : Int32) (v2 : Int32), ff_P_countGiven_4 I J n v0 v1 v2 = some r → ∀ ls, lv_has ls 3 [(0, .ref (ad v0)), (1, .int v1), (2, .int v2)] → W p l e (headSpec (.code yy_P_countGiven cc_P_countGiven 3 (some .int) :: kw) { frames := 1, cells := 0, slots := 0, locals := 21 }).room s m ([.ref (ad a0)] : List Value).toArray below meth c s.heap [] 0 0 (MQ below (vp_Si (fun z => z = r)) ([.ref (ad a0)] : List Value).toArray s 0 0 (fun _ => False)) (F0 m 4 ls []) := by
    intro  n
    induction n with
    | zero => intro v0 hv0 v1 v2 h; exact absurd h (by simp [ff_P_countGiven_4])
    | succ n ih =>
      intro v0 hv0 v1 v2 h ls hl
      rw [ff_P_countGiven_4] at h
      refine lv_iload_n hx hb dd_P_countGiven_4 rfl (lv_at hl 2 rfl) ?_
      refine lv_bipush (v := 52) hx hb dd_P_countGiven_5 (by decide) ?_
      refine lv_icmp_ge (tgt := 27) hx hb dd_P_countGiven_7 (by decide) (fun hc1 => ?_) (fun hc1 => ?_)
      · have h := ip_out hc1 h
        refine lv_iload_n hx hb dd_P_countGiven_27 rfl (lv_at hl 1 rfl) ?_
        obtain rfl := Option.some.inj h
        exact W.iret hx hb hr (fun t ht hW => ⟨_, rfl, rfl, ht⟩) (fun q hq => by cases hq) dd_P_countGiven_28
      · have h := in_out hc1 h
        refine lv_aload_n hx hb dd_P_countGiven_10 rfl (lv_at hl 0 rfl) ?_
        refine lv_iload_n hx hb dd_P_countGiven_11 rfl (lv_at hl 2 rfl) ?_
        obtain ⟨r2, hr2, h⟩ := ob_out h
        refine cr_Vi (n := 1) (As := [.int v2]) hx hb hml hown hk (mm_P_hasGiven l D kc ad _ _ _ _ hv0 _ _ hr2) hK hP v0 (at_P hv0) rfl rfl kw_403 kw_286 kw_287 kw_2 kw_288 ⟨rfl, rfl⟩ (by decide +kernel) ⟨Nat.le_of_ble_eq_true rfl, Nat.le_of_ble_eq_true rfl⟩ rfl hl.1 rfl (Nat.le_of_ble_eq_true rfl) dd_P_countGiven_12 ⟨Nat.le_of_ble_eq_true rfl, Nat.le_of_ble_eq_true rfl⟩ ?_
        refine lv_if_eq (tgt := 21) hx hb dd_P_countGiven_15 (by decide) (fun hc3 => ?_) (fun hc3 => ?_)
        · have h := ip_out hc3 h
          refine lv_iinc (v := v2 + (1 : Int32)) (lv' := [(2, .int (v2 + (1 : Int32))), (0, .ref (ad v0)), (1, .int v1)]) hx hb dd_P_countGiven_21 hl (k := 2) rfl rfl (by decide) rfl (fun ls hl => ?_)
          refine lv_goto (tgt := 4) hx hb dd_P_countGiven_24 (by decide) ?_
          exact ih _ hv0 _ _ h _ (lv_sub hl [1, 2, 0] rfl)
        · have h := in_out hc3 h
          refine lv_iinc (v := v1 + (1 : Int32)) (lv' := [(1, .int (v1 + (1 : Int32))), (0, .ref (ad v0)), (2, .int v2)]) hx hb dd_P_countGiven_18 hl (k := 1) rfl rfl (by decide) rfl (fun ls hl => ?_)
          refine lv_iinc (v := v2 + (1 : Int32)) (lv' := [(2, .int (v2 + (1 : Int32))), (1, .int (v1 + (1 : Int32))), (0, .ref (ad v0))]) hx hb dd_P_countGiven_21 hl (k := 2) rfl rfl (by decide) rfl (fun ls hl => ?_)
          refine lv_goto (tgt := 4) hx hb dd_P_countGiven_24 (by decide) ?_
          exact ih _ hv0 _ _ h _ (lv_sub hl [2, 1, 0] rfl)
  have hl := lv_entry ([.ref (ad a0)]) (n := 3) (Nat.le_of_ble_eq_true rfl)
  rw [lg_entry_eq]
  generalize (lg_sl ([.ref (ad a0)]) ++ List.replicate (3 - (lg_sl ([.ref (ad a0)])).length) Slot.unset).toArray = ls at hl ⊢
  have hl : lv_has ls 3 [(0, .ref (ad a0))] := hl
  unfold ff_P_countGiven at h
  refine lv_iconst (v := 0) hx hb dd_P_countGiven_0 (by decide) ?_
  refine lv_istore_n (lv' := [(1, .int (0 : Int32)), (0, .ref (ad a0))]) hx hb dd_P_countGiven_1 rfl hl (by decide) rfl (fun ls hl => ?_)
  refine lv_iconst (v := 0) hx hb dd_P_countGiven_2 (by decide) ?_
  refine lv_istore_n (lv' := [(2, .int (0 : Int32)), (1, .int (0 : Int32)), (0, .ref (ad a0))]) hx hb dd_P_countGiven_3 rfl hl (by decide) rfl (fun ls hl => ?_)
  exact L4  _ _ ha0 _ _ h _ (lv_sub hl [2, 1, 0] rfl)
def ff_O_player (n : Nat) (I : MI) (J : MJ) (a1 : Int32) (a2 : Int32) : Option (Int32) := (ff_O_isSeated n I J a1).bind fun r1 => if r1 = 0 then (some (-1 : Int32)) else (if ¬ (a1 < 0 ∨ 4 ≤ (a1).toNatClampNeg) then if a2 = 0 then (some (I (15 + 6 * (a1).toNatClampNeg) 0)) else if a2 = 1 then (some (I (15 + 6 * (a1).toNatClampNeg) 1)) else if a2 = 2 then (some (I (15 + 6 * (a1).toNatClampNeg) 2)) else if a2 = 3 then (if (I 0 1) < (4 : Int32) then (some (0 : Int32)) else (if (I (15 + 6 * (a1).toNatClampNeg) 3) = 0 then (some (1 : Int32)) else (some (0 : Int32)))) else if a2 = 4 then ((ff_P_countGiven n I J (15 + 6 * (a1).toNatClampNeg)).bind fun r11 => some r11) else (some (-1 : Int32)) else none)
set_option maxHeartbeats 4000000 in
set_option maxRecDepth 100000 in
theorem mm_O_player (l : Launch) (D : va_G) (kc : Nat → ClassId) (ad : Nat → Nat) (I : MI) (J : MJ) (n : Nat) (a1 : Int32) (a2 : Int32) (r : Int32) (h : ff_O_player n I J a1 a2 = some r) : Met l yy_O_player (.code yy_O_player cc_O_player 4 (some .int) :: kw) { frames := 2, cells := 0, slots := 0, locals := 43 } (va_Pc [.ref (ad 0), .int a1, .int a2] (BR D kc (wC kc ad I J))) (vp_Si (fun z => z = r)) 0 0 (fun _ => False) := by
  refine Met.ofW (cc := cc_O_player) (maxL := 4) (ret := some .int) (by decide) rfl ?_
  intro p e s m args below meth c s₁ B hml hv
  obtain ⟨rfl, hP, hK⟩ := hv
  have hx := B.exec
  have hb := B.bytes
  have hr := B.returns
  have hlocks := B.notSynchronized
  have hk : ∀ w ∈ kw, w.before _ s = true := fun w hw => atoms_spec (ws := (.code yy_O_player cc_O_player 4 (some .int) :: kw)) B.pre w (List.mem_cons_of_mem _ hw)
  have hown : s.vm.findClass "OpenDeal" = some m.cls := findClass_of_methodNamed B.named
  have hl := lv_entry ([.ref (ad 0), .int a1, .int a2]) (n := 4) (Nat.le_of_ble_eq_true rfl)
  rw [lg_entry_eq]
  generalize (lg_sl ([.ref (ad 0), .int a1, .int a2]) ++ List.replicate (4 - (lg_sl ([.ref (ad 0), .int a1, .int a2])).length) Slot.unset).toArray = ls at hl ⊢
  have hl : lv_has ls 4 [(0, .ref (ad 0)), (1, .int a1), (2, .int a2)] := hl
  unfold ff_O_player at h
  refine lv_aload_n hx hb dd_O_player_0 rfl (lv_at hl 0 rfl) ?_
  refine lv_iload_n hx hb dd_O_player_1 rfl (lv_at hl 1 rfl) ?_
  obtain ⟨r1, hr1, h⟩ := ob_out h
  refine cr_Vi (n := 1) (As := [.int a1]) hx hb hml hown hk (mm_O_isSeated l D kc ad _ _ _ _ _ hr1) hK hP 0 at_O rfl rfl kw_196 kw_198 sel_O_isSeated kw_1 kw_199 ⟨rfl, rfl⟩ (by decide +kernel) ⟨Nat.le_of_ble_eq_true rfl, Nat.le_of_ble_eq_true rfl⟩ rfl hl.1 rfl (Nat.le_of_ble_eq_true rfl) dd_O_player_2 ⟨Nat.le_of_ble_eq_true rfl, Nat.le_of_ble_eq_true rfl⟩ ?_
  refine lv_if_ne (tgt := 10) hx hb dd_O_player_5 (by decide) (fun hc2 => ?_) (fun hc2 => ?_)
  · have h := in_out hc2 h
    refine lv_aload_n hx hb dd_O_player_10 rfl (lv_at hl 0 rfl) ?_
    refine va_get (D := D) (ci := 0) (v := .ref (ad 1)) (C := "OpenDeal") (T := T_O) (N := 11) hx hb hk in_O hown hK hP 0 at_O rfl 3 (by decide) (hk _ kw_108) (fun _ h9 => h9) rfl dd_O_player_11 ?_
    refine lv_iload_n hx hb dd_O_player_14 rfl (lv_at hl 1 rfl) ?_
    obtain ⟨hi3, h⟩ := oi_out h
    refine ap_ald (b := ad (15 + 6 * (a1).toNatClampNeg)) hx hb hK hP 1 3 at_pl rfl hi3 (if_pos (vi_lt hi3)) dd_O_player_15 ?_
    refine lv_astore_n (lv' := [(3, .ref (ad (15 + 6 * (a1).toNatClampNeg))), (0, .ref (ad 0)), (1, .int a1), (2, .int a2)]) hx hb dd_O_player_16 rfl hl (by decide) rfl (fun ls hl => ?_)
    refine lv_iload_n hx hb dd_O_player_17 rfl (lv_at hl 3 rfl) ?_
    by_cases hc4 : a2 = 0
    · have h := ip_out hc4 h
      refine lv_tableIn (tgt := 52) hx hb dd_O_player_18 (by rw [hc4]; decide) (by rw [hc4]; decide) (by rw [hc4]; rfl) (by decide) ?_
      refine lv_aload_n hx hb dd_O_player_52 rfl (lv_at hl 0 rfl) ?_
      refine va_get (D := D) (ci := 1) (v := .int (I (15 + 6 * (a1).toNatClampNeg) 0)) (C := "OpenDeal$Player") (T := T_P) (N := 13) hx hb hk in_P hown hK hP (15 + 6 * (a1).toNatClampNeg) (at_P (isP_of (vi_lt hi3))) rfl 0 (by decide) (hk _ kw_51) (fun _ h9 => h9) rfl dd_O_player_53 ?_
      obtain rfl := Option.some.inj h
      exact W.iret hx hb hr (fun t ht hW => ⟨_, rfl, rfl, ht⟩) (fun q hq => by cases hq) dd_O_player_56
    have h := in_out hc4 h
    by_cases hc5 : a2 = 1
    · have h := ip_out hc5 h
      refine lv_tableIn (tgt := 57) hx hb dd_O_player_18 (by rw [hc5]; decide) (by rw [hc5]; decide) (by rw [hc5]; rfl) (by decide) ?_
      refine lv_aload_n hx hb dd_O_player_57 rfl (lv_at hl 0 rfl) ?_
      refine va_get (D := D) (ci := 1) (v := .int (I (15 + 6 * (a1).toNatClampNeg) 1)) (C := "OpenDeal$Player") (T := T_P) (N := 13) hx hb hk in_P hown hK hP (15 + 6 * (a1).toNatClampNeg) (at_P (isP_of (vi_lt hi3))) rfl 1 (by decide) (hk _ kw_53) (fun _ h9 => h9) rfl dd_O_player_58 ?_
      obtain rfl := Option.some.inj h
      exact W.iret hx hb hr (fun t ht hW => ⟨_, rfl, rfl, ht⟩) (fun q hq => by cases hq) dd_O_player_61
    have h := in_out hc5 h
    by_cases hc6 : a2 = 2
    · have h := ip_out hc6 h
      refine lv_tableIn (tgt := 62) hx hb dd_O_player_18 (by rw [hc6]; decide) (by rw [hc6]; decide) (by rw [hc6]; rfl) (by decide) ?_
      refine lv_aload_n hx hb dd_O_player_62 rfl (lv_at hl 0 rfl) ?_
      refine va_get (D := D) (ci := 1) (v := .int (I (15 + 6 * (a1).toNatClampNeg) 2)) (C := "OpenDeal$Player") (T := T_P) (N := 13) hx hb hk in_P hown hK hP (15 + 6 * (a1).toNatClampNeg) (at_P (isP_of (vi_lt hi3))) rfl 2 (by decide) (hk _ kw_55) (fun _ h9 => h9) rfl dd_O_player_63 ?_
      obtain rfl := Option.some.inj h
      exact W.iret hx hb hr (fun t ht hW => ⟨_, rfl, rfl, ht⟩) (fun q hq => by cases hq) dd_O_player_66
    have h := in_out hc6 h
    by_cases hc7 : a2 = 3
    · have h := ip_out hc7 h
      refine lv_tableIn (tgt := 67) hx hb dd_O_player_18 (by rw [hc7]; decide) (by rw [hc7]; decide) (by rw [hc7]; rfl) (by decide) ?_
      refine lv_aload_n hx hb dd_O_player_67 rfl (lv_at hl 1 rfl) ?_
      refine va_get (D := D) (ci := 0) (v := .int (I 0 1)) (C := "OpenDeal") (T := T_O) (N := 11) hx hb hk in_O hown hK hP 0 at_O rfl 1 (by decide) (hk _ kw_106) (fun _ h9 => h9) rfl dd_O_player_68 ?_
      refine lv_iconst (v := 4) hx hb dd_O_player_71 (by decide) ?_
      refine lv_icmp_lt (tgt := 86) hx hb dd_O_player_72 (by decide) (fun hc8 => ?_) (fun hc8 => ?_)
      · have h := ip_out hc8 h
        refine lv_iconst (v := 0) hx hb dd_O_player_86 (by decide) ?_
        obtain rfl := Option.some.inj h
        exact W.iret hx hb hr (fun t ht hW => ⟨_, rfl, rfl, ht⟩) (fun q hq => by cases hq) dd_O_player_87
      · have h := in_out hc8 h
        refine lv_aload_n hx hb dd_O_player_75 rfl (lv_at hl 0 rfl) ?_
        refine va_get (D := D) (ci := 1) (v := .int (I (15 + 6 * (a1).toNatClampNeg) 3)) (C := "OpenDeal$Player") (T := T_P) (N := 13) hx hb hk in_P hown hK hP (15 + 6 * (a1).toNatClampNeg) (at_P (isP_of (vi_lt hi3))) rfl 3 (by decide) (hk _ kw_57) (fun _ h9 => h9) rfl dd_O_player_76 ?_
        refine lv_if_ne (tgt := 86) hx hb dd_O_player_79 (by decide) (fun hc9 => ?_) (fun hc9 => ?_)
        · have h := in_out hc9 h
          refine lv_iconst (v := 0) hx hb dd_O_player_86 (by decide) ?_
          obtain rfl := Option.some.inj h
          exact W.iret hx hb hr (fun t ht hW => ⟨_, rfl, rfl, ht⟩) (fun q hq => by cases hq) dd_O_player_87
        · have h := ip_out hc9 h
          refine lv_iconst (v := 1) hx hb dd_O_player_82 (by decide) ?_
          refine lv_goto (tgt := 87) hx hb dd_O_player_83 (by decide) ?_
          obtain rfl := Option.some.inj h
          exact W.iret hx hb hr (fun t ht hW => ⟨_, rfl, rfl, ht⟩) (fun q hq => by cases hq) dd_O_player_87
    have h := in_out hc7 h
    by_cases hc10 : a2 = 4
    · have h := ip_out hc10 h
      refine lv_tableIn (tgt := 88) hx hb dd_O_player_18 (by rw [hc10]; decide) (by rw [hc10]; decide) (by rw [hc10]; rfl) (by decide) ?_
      refine lv_aload_n hx hb dd_O_player_88 rfl (lv_at hl 0 rfl) ?_
      obtain ⟨r11, hr11, h⟩ := ob_out h
      refine cr_Vi (n := 0) (As := []) hx hb hml hown hk (mm_P_countGiven l D kc ad _ _ _ _ (isP_of (vi_lt hi3)) _ hr11) hK hP (15 + 6 * (a1).toNatClampNeg) (at_P (isP_of (vi_lt hi3))) rfl rfl kw_420 kw_421 kw_422 kw_2 kw_423 ⟨rfl, rfl⟩ (by decide +kernel) ⟨Nat.le_of_ble_eq_true rfl, Nat.le_of_ble_eq_true rfl⟩ rfl hl.1 rfl (Nat.le_of_ble_eq_true rfl) dd_O_player_89 ⟨Nat.le_of_ble_eq_true rfl, Nat.le_of_ble_eq_true rfl⟩ ?_
      obtain rfl := Option.some.inj h
      exact W.iret hx hb hr (fun t ht hW => ⟨_, rfl, rfl, ht⟩) (fun q hq => by cases hq) dd_O_player_92
    have h := in_out hc10 h
    have ehc4 := si_ne (k := 0) hc4 rfl
    have ehc5 := si_ne (k := 1) hc5 rfl
    have ehc6 := si_ne (k := 2) hc6 rfl
    have ehc7 := si_ne (k := 3) hc7 rfl
    have ehc10 := si_ne (k := 4) hc10 rfl
    refine lv_tableOut (tgt := 93) hx hb dd_O_player_18 (by omega) (by decide) ?_
    refine lv_iconst (v := -1) hx hb dd_O_player_93 (by decide) ?_
    obtain rfl := Option.some.inj h
    exact W.iret hx hb hr (fun t ht hW => ⟨_, rfl, rfl, ht⟩) (fun q hq => by cases hq) dd_O_player_94
  · have h := ip_out hc2 h
    refine lv_iconst (v := -1) hx hb dd_O_player_8 (by decide) ?_
    obtain rfl := Option.some.inj h
    exact W.iret hx hb hr (fun t ht hW => ⟨_, rfl, rfl, ht⟩) (fun q hq => by cases hq) dd_O_player_9
