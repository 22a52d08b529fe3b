/-! the reference, laid by program -/
def ff_M_turn_164 (k77 : MI → MJ → Int32 → Int32 → Option (Int32 × MI × MJ)) (n : Nat) (I : MI) (J : MJ) (v1 : Int32) (v2 : Int32) (v3 : Int32) (s1 : Int32) (s3 : Int64) : Option (Int32 × MI × MJ) := (ff_M_cheated n I J s3 v2 v3).bind fun r1 => if ¬ (s1 < 0 ∨ 468 ≤ (s1).toNatClampNeg) then k77 (ui I 15 (s1).toNatClampNeg r1) J v1 (v2 + (1 : Int32)) else none
def ff_M_turn_124 (k77 : MI → MJ → Int32 → Int32 → Option (Int32 × MI × MJ)) (n : Nat) (I : MI) (J : MJ) (v1 : Int32) (v2 : Int32) (s0 : Int32) : Option (Int32 × MI × MJ) := if (I 0 4) = (2 : Int32) then (if ¬ (v1 < 0 ∨ 4 ≤ (v1).toNatClampNeg) then ff_M_turn_164 k77 n I J v1 v2 s0 (((52 : Int32) * ((I 0 20) + (1 : Int32))) + v2) (J 10 (v1).toNatClampNeg) else none) else (if ¬ (v1 < 0 ∨ 4 ≤ (v1).toNatClampNeg) then ff_M_turn_164 k77 n I J v1 v2 s0 (((52 : Int32) * ((I 0 20) + (1 : Int32))) + v2) (J 11 (v1).toNatClampNeg) else none)
def ff_M_turn_77  : Nat → MI → MJ → Int32 → Int32 → Option (Int32 × MI × MJ)
  | 0, _, _, _, _ => none
  | n + 1, I, J, v1, v2 => if (52 : Int32) ≤ v2 then (if ¬ ((ui I 0 20 ((I 0 20) + (1 : Int32))) 0 3) = 0 then tl (((ui I 0 20 ((I 0 20) + (1 : Int32))) 0 20) - ((ui I 0 20 ((I 0 20) + (1 : Int32))) 0 20) / ((ui I 0 20 ((I 0 20) + (1 : Int32))) 0 3) * ((ui I 0 20 ((I 0 20) + (1 : Int32))) 0 3)) fun y8 => if y8 = 0 then (some ((1 : Int32), ui (ui I 0 20 ((I 0 20) + (1 : Int32))) 0 4 (((ui I 0 20 ((I 0 20) + (1 : Int32))) 0 4) + (1 : Int32)), J)) else (some ((1 : Int32), ui I 0 20 ((I 0 20) + (1 : Int32)), J)) else none) else (if (I 0 4) = (2 : Int32) then (if ¬ (v1 < 0 ∨ 4 ≤ (v1).toNatClampNeg) then (ff_M_lockedAt n I J (I 0 20) v2 (I 4 (v1).toNatClampNeg)).bind fun r14 => ff_M_turn_124 (ff_M_turn_77 n) n I J v1 v2 r14 else none) else (if ¬ (v1 < 0 ∨ 4 ≤ (v1).toNatClampNeg) then (ff_M_relockedAt n I J (I 0 20) v2 (I 4 (v1).toNatClampNeg)).bind fun r12 => ff_M_turn_124 (ff_M_turn_77 n) n I J v1 v2 r12 else none))
def ff_M_turn_21  (n : Nat) (I : MI) (J : MJ) (v1 : Int32) : Option (Int32 × MI × MJ) := (ff_M_isPlayer n I J v1).bind fun r15 => if r15 = 0 then (some ((0 : Int32), I, J)) else (if ¬ (I 0 3) = 0 then tl ((I 0 20) - (I 0 20) / (I 0 3) * (I 0 3)) fun y18 => if y18 = v1 then (if (I 0 4) = (2 : Int32) then (if ¬ (v1 < 0 ∨ 4 ≤ (v1).toNatClampNeg) then (ff_M_makeOrder n I J (J 5 (v1).toNatClampNeg)).bind fun r24 => ff_M_turn_77 n r24.1 r24.2 v1 (0 : Int32) else none) else (if ¬ (v1 < 0 ∨ 4 ≤ (v1).toNatClampNeg) then (ff_M_makeLocks n I J (J 6 (v1).toNatClampNeg)).bind fun r22 => ff_M_turn_77 n r22.1 r22.2 v1 (0 : Int32) else none)) else (some ((0 : Int32), I, J)) else none)
def ff_M_turn (n : Nat) (I : MI) (J : MJ) (a1 : Int32) : Option (Int32 × MI × MJ) := if ((ui I 0 0 (0 : Int32)) 0 4) = (2 : Int32) then (ff_M_turn_21 n (ui I 0 0 (0 : Int32)) J a1) else (if ((ui I 0 0 (0 : Int32)) 0 4) = (3 : Int32) then (ff_M_turn_21 n (ui I 0 0 (0 : Int32)) J a1) else (some ((0 : Int32), ui I 0 0 (0 : Int32), J)))
set_option maxHeartbeats 4000000 in
set_option maxRecDepth 100000 in
theorem mm_M_turn (l : Launch) (D : va_G) (kc : Nat → ClassId) (ad : Nat → Nat) (I0 : MI) (J0 : MJ) (sz n : Nat) (a1 : Int32) (r : Int32 × MI × MJ) (h : ff_M_turn n I0 J0 a1 = some r) : Met l yy_M_turn (.code yy_M_turn cc_M_turn 4 (some .boolean) :: kw) { frames := 3, cells := 0, slots := 0, locals := 71 } (va_Pc [.ref (ad 0), .int a1] (BW D kc (wM kc ad I0 J0) sz)) (va_Qi (fun z (_ : Unit) => z = r.1) (EW D kc (va_A (wM kc ad I0 J0) sz) (wM kc ad r.2.1 r.2.2)) (va_A (wM kc ad I0 J0) sz)) 0 0 (va_A (wM kc ad I0 J0) sz) := by
  refine Met.ofW (cc := cc_M_turn) (maxL := 4) (ret := some .boolean) (by decide) rfl ?_
  intro p e s m args below meth c s₁ B hml hv
  obtain ⟨rfl, hsz, hP, hK, hD0⟩ := hv
  have hx := B.exec
  have hb := B.bytes
  have hr := B.returns
  have hlocks := B.notSynchronized
  have hk : ∀ w ∈ kw, w.before _ s = true := fun w hw => atoms_spec (ws := (.code yy_M_turn cc_M_turn 4 (some .boolean) :: kw)) B.pre w (List.mem_cons_of_mem _ hw)
  have hown : s.vm.findClass "OpenDealModel" = some m.cls := findClass_of_methodNamed B.named
  subst hsz
  have hD := hD0.self (sz := s.heap.size)
  generalize hAe : va_A (wM kc ad I0 J0) s.heap.size = A at hD ⊢
  have hA : ∀ q : Nat, s.heap.size ≤ q → A q := fun q h => by rw [← hAe]; exact Or.inr h
  have hS : va_S A s.heap s.heap [] := va_S.rf
  have hP : va_P D cls5 (wM kc ad I0 J0) s.heap := hP
  clear hAe hD0
  have L164 : ∀ (k77 : MI → MJ → Int32 → Int32 → Option (Int32 × MI × MJ)) (hk77 : ∀ (I : MI) (J : MJ) (v1 : Int32) (v2 : Int32), k77 I J v1 v2 = some r → ∀ (H : Heap) (locs : List Loc), va_P D cls5 (wM kc ad I J) H → va_D A (wM kc ad I J) → va_S A s.heap H locs → ∀ ls, lv_has ls 4 [(0, .ref (ad 0)), (1, .int v1), (2, .int v2)] → W p l e (headSpec (.code yy_M_turn cc_M_turn 4 (some .boolean) :: kw) { frames := 3, cells := 0, slots := 0, locals := 71 }).room s m ([.ref (ad 0), .int a1] : List Value).toArray below meth c H locs 0 0 (MQ below (va_Qi (fun z (_ : Unit) => z = r.1) (EW D kc A (wM kc ad r.2.1 r.2.2)) A) ([.ref (ad 0), .int a1] : List Value).toArray s 0 0 A) (F0 m 77 ls [])) (n : Nat) (I : MI) (J : MJ) (v1 : Int32) (v2 : Int32) (v3 : Int32) (s1 : Int32) (s3 : Int64), ff_M_turn_164 k77 n I J v1 v2 v3 s1 s3 = some r → ∀ (H : Heap) (locs : List Loc), va_P D cls5 (wM kc ad I J) H → va_D A (wM kc ad I J) → va_S A s.heap H locs → ∀ ls, lv_has ls 4 [(0, .ref (ad 0)), (1, .int v1), (2, .int v2), (3, .int v3)] → W p l e (headSpec (.code yy_M_turn cc_M_turn 4 (some .boolean) :: kw) { frames := 3, cells := 0, slots := 0, locals := 71 }).room s m ([.ref (ad 0), .int a1] : List Value).toArray below meth c H locs 0 0 (MQ below (va_Qi (fun z (_ : Unit) => z = r.1) (EW D kc A (wM kc ad r.2.1 r.2.2)) A) ([.ref (ad 0), .int a1] : List Value).toArray s 0 0 A) (F0 m 164 ls [.long s3, .ref (ad 0), .int s1, .ref (ad 15)]) := by
    intro k77 hk77 n I J v1 v2 v3 s1 s3 h H locs hP hD hS ls hl
    unfold ff_M_turn_164 at h
    refine lv_iload_n hx hb dd_M_turn_164 rfl (lv_at hl 2 rfl) ?_
    refine lv_iload_n hx hb dd_M_turn_165 rfl (lv_at hl 3 rfl) ?_
    obtain ⟨r1, hr1, h⟩ := ob_out h
    refine cr_Vi (n := 3) (As := [.long s3, .int v2, .int v3]) hx hb hml hown hk (mm_M_cheated l D kc ad _ _ _ _ _ _ _ hr1) hK hP 0 am_0 rfl rfl kw_718 kw_720 sel_M_cheated kw_4 kw_721 ⟨rfl, rfl⟩ (by decide +kernel) ⟨Nat.le_of_ble_eq_true rfl, Nat.le_of_ble_eq_true rfl⟩ rfl hl.1 rfl (Nat.le_of_ble_eq_true rfl) dd_M_turn_166 ⟨Nat.le_of_ble_eq_true rfl, Nat.le_of_ble_eq_true rfl⟩ ?_
    obtain ⟨hi2, h⟩ := oi_out h
    refine va_iast hx hb hK hP hD hS 15 0 am_15 rfl (x := r1) hi2 dd_M_turn_169 (fun H locs hP hD hS => ?_)
    rw [pm_15] at hP hD
    refine lv_iinc (v := v2 + (1 : Int32)) (lv' := [(2, .int (v2 + (1 : Int32))), (0, .ref (ad 0)), (1, .int v1), (3, .int v3)]) hx hb dd_M_turn_170 hl (k := 2) rfl rfl (by decide) rfl (fun ls hl => ?_)
    refine lv_goto (tgt := 77) hx hb dd_M_turn_173 (by decide) ?_
    exact hk77 _ _ _ _ h _ _ hP hD hS _ (lv_sub hl [1, 2, 0] rfl)
  have L124 : ∀ (k77 : MI → MJ → Int32 → Int32 → Option (Int32 × MI × MJ)) (hk77 : ∀ (I : MI) (J : MJ) (v1 : Int32) (v2 : Int32), k77 I J v1 v2 = some r → ∀ (H : Heap) (locs : List Loc), va_P D cls5 (wM kc ad I J) H → va_D A (wM kc ad I J) → va_S A s.heap H locs → ∀ ls, lv_has ls 4 [(0, .ref (ad 0)), (1, .int v1), (2, .int v2)] → W p l e (headSpec (.code yy_M_turn cc_M_turn 4 (some .boolean) :: kw) { frames := 3, cells := 0, slots := 0, locals := 71 }).room s m ([.ref (ad 0), .int a1] : List Value).toArray below meth c H locs 0 0 (MQ below (va_Qi (fun z (_ : Unit) => z = r.1) (EW D kc A (wM kc ad r.2.1 r.2.2)) A) ([.ref (ad 0), .int a1] : List Value).toArray s 0 0 A) (F0 m 77 ls [])) (n : Nat) (I : MI) (J : MJ) (v1 : Int32) (v2 : Int32) (s0 : Int32), ff_M_turn_124 k77 n I J v1 v2 s0 = some r → ∀ (H : Heap) (locs : List Loc), va_P D cls5 (wM kc ad I J) H → va_D A (wM kc ad I J) → va_S A s.heap H locs → ∀ ls, lv_has ls 4 [(0, .ref (ad 0)), (1, .int v1), (2, .int v2)] → W p l e (headSpec (.code yy_M_turn cc_M_turn 4 (some .boolean) :: kw) { frames := 3, cells := 0, slots := 0, locals := 71 }).room s m ([.ref (ad 0), .int a1] : List Value).toArray below meth c H locs 0 0 (MQ below (va_Qi (fun z (_ : Unit) => z = r.1) (EW D kc A (wM kc ad r.2.1 r.2.2)) A) ([.ref (ad 0), .int a1] : List Value).toArray s 0 0 A) (F0 m 124 ls [.int s0]) := by
    intro k77 hk77 n I J v1 v2 s0 h H locs hP hD hS ls hl
    unfold ff_M_turn_124 at h
    refine lv_istore_n (lv' := [(3, .int s0), (0, .ref (ad 0)), (1, .int v1), (2, .int v2)]) hx hb dd_M_turn_124 rfl hl (by decide) rfl (fun ls hl => ?_)
    refine lv_aload_n hx hb dd_M_turn_125 rfl (lv_at hl 1 rfl) ?_
    refine va_get (D := D) (ci := 4) (v := .ref (ad 15)) (C := "OpenDealModel") (T := T_M) (N := 32) hx hb hk in_M hown hK hP 0 am_0 rfl 19 (by decide) (hk _ kw_556) (fun _ h9 => h9) rfl dd_M_turn_126 ?_
    refine lv_bipush (v := 52) hx hb dd_M_turn_129 (by decide) ?_
    refine lv_aload_n hx hb dd_M_turn_131 rfl (lv_at hl 1 rfl) ?_
    refine va_get (D := D) (ci := 4) (v := .int (I 0 20)) (C := "OpenDealModel") (T := T_M) (N := 32) hx hb hk in_M hown hK hP 0 am_0 rfl 20 (by decide) (hk _ kw_557) (fun _ h9 => h9) rfl dd_M_turn_132 ?_
    refine lv_iconst (v := 1) hx hb dd_M_turn_135 (by decide) ?_
    refine lv_iadd hx hb dd_M_turn_136 ?_
    refine lv_imul hx hb dd_M_turn_137 ?_
    refine lv_iload_n hx hb dd_M_turn_138 rfl (lv_at hl 3 rfl) ?_
    refine lv_iadd hx hb dd_M_turn_139 ?_
    refine lv_aload_n hx hb dd_M_turn_140 rfl (lv_at hl 1 rfl) ?_
    refine lv_aload_n hx hb dd_M_turn_141 rfl (lv_at hl 1 rfl) ?_
    refine va_get (D := D) (ci := 4) (v := .int (I 0 4)) (C := "OpenDealModel") (T := T_M) (N := 32) hx hb hk in_M hown hK hP 0 am_0 rfl 4 (by decide) (hk _ kw_541) (fun _ h9 => h9) rfl dd_M_turn_142 ?_
    refine lv_iconst (v := 2) hx hb dd_M_turn_145 (by decide) ?_
    refine lv_icmp_ne (tgt := 158) hx hb dd_M_turn_146 (by decide) (fun hc3 => ?_) (fun hc3 => ?_)
    · have h := in_out hc3 h
      refine lv_aload_n hx hb dd_M_turn_158 rfl (lv_at hl 1 rfl) ?_
      refine va_get (D := D) (ci := 4) (v := .ref (ad 11)) (C := "OpenDealModel") (T := T_M) (N := 32) hx hb hk in_M hown hK hP 0 am_0 rfl 15 (by decide) (hk _ kw_552) (fun _ h9 => h9) rfl dd_M_turn_159 ?_
      refine lv_iload_n hx hb dd_M_turn_162 rfl (lv_at hl 2 rfl) ?_
      obtain ⟨hi4, h⟩ := oi_out h
      refine va_lald hx hb hK hP 11 1 am_11 rfl hi4 dd_M_turn_163 ?_
      exact L164 _ hk77 _ _ _ _ _ _ _ _ h _ _ hP hD hS _ (lv_sub hl [1, 2, 3, 0] rfl)
    · have h := ip_out hc3 h
      refine lv_aload_n hx hb dd_M_turn_149 rfl (lv_at hl 1 rfl) ?_
      refine va_get (D := D) (ci := 4) (v := .ref (ad 10)) (C := "OpenDealModel") (T := T_M) (N := 32) hx hb hk in_M hown hK hP 0 am_0 rfl 14 (by decide) (hk _ kw_551) (fun _ h9 => h9) rfl dd_M_turn_150 ?_
      refine lv_iload_n hx hb dd_M_turn_153 rfl (lv_at hl 2 rfl) ?_
      obtain ⟨hi5, h⟩ := oi_out h
      refine va_lald hx hb hK hP 10 1 am_10 rfl hi5 dd_M_turn_154 ?_
      refine lv_goto (tgt := 164) hx hb dd_M_turn_155 (by decide) ?_
      exact L164 _ hk77 _ _ _ _ _ _ _ _ h _ _ hP hD hS _ (lv_sub hl [1, 2, 3, 0] rfl)
  have L77 : ∀  (n : Nat) (I : MI) (J : MJ) (v1 : Int32) (v2 : Int32), ff_M_turn_77 n I J v1 v2 = some r → ∀ (H : Heap) (locs : List Loc), va_P D cls5 (wM kc ad I J) H → va_D A (wM kc ad I J) → va_S A s.heap H locs → ∀ ls, lv_has ls 4 [(0, .ref (ad 0)), (1, .int v1), (2, .int v2)] → W p l e (headSpec (.code yy_M_turn cc_M_turn 4 (some .boolean) :: kw) { frames := 3, cells := 0, slots := 0, locals := 71 }).room s m ([.ref (ad 0), .int a1] : List Value).toArray below meth c H locs 0 0 (MQ below (va_Qi (fun z (_ : Unit) => z = r.1) (EW D kc A (wM kc ad r.2.1 r.2.2)) A) ([.ref (ad 0), .int a1] : List Value).toArray s 0 0 A) (F0 m 77 ls []) := by
    intro  n
    induction n with
    | zero => intro I J v1 v2 h; exact absurd h (by simp [ff_M_turn_77])
    | succ n ih =>
      intro I J v1 v2 h H locs hP hD hS ls hl
      rw [ff_M_turn_77] at h
      refine lv_iload_n hx hb dd_M_turn_77 rfl (lv_at hl 2 rfl) ?_
      refine lv_bipush (v := 52) hx hb dd_M_turn_78 (by decide) ?_
      refine lv_icmp_ge (tgt := 176) hx hb dd_M_turn_80 (by decide) (fun hc6 => ?_) (fun hc6 => ?_)
      · have h := ip_out hc6 h
        refine lv_aload_n hx hb dd_M_turn_176 rfl (lv_at hl 0 rfl) ?_
        refine lv_dup hx hb dd_M_turn_177 rfl ?_
        refine va_get (D := D) (ci := 4) (v := .int (I 0 20)) (C := "OpenDealModel") (T := T_M) (N := 32) hx hb hk in_M hown hK hP 0 am_0 rfl 20 (by decide) (hk _ kw_557) (fun _ h9 => h9) rfl dd_M_turn_178 ?_
        refine lv_iconst (v := 1) hx hb dd_M_turn_181 (by decide) ?_
        refine lv_iadd hx hb dd_M_turn_182 ?_
        refine va_put (D := D) (ci := 4) (v := .int ((I 0 20) + (1 : Int32))) (ty := .int) (C := "OpenDealModel") (T := T_M) (N := 32) hx hb hk in_M ty_M tk_M nm_M hown hK hP hD hS 0 am_0 rfl 20 (by decide) (hk _ kw_557) (fun _ h9 => h9) rfl (by decide +kernel) rfl rfl (Nat.le_of_ble_eq_true rfl) dd_M_turn_183 (fun H locs hP hD hS => ?_)
        rw [pt_M20] at hP hD
        refine lv_aload_n hx hb dd_M_turn_186 rfl (lv_at hl 0 rfl) ?_
        refine va_get (D := D) (ci := 4) (v := .int ((ui I 0 20 ((I 0 20) + (1 : Int32))) 0 20)) (C := "OpenDealModel") (T := T_M) (N := 32) hx hb hk in_M hown hK hP 0 am_0 rfl 20 (by decide) (hk _ kw_557) (fun _ h9 => h9) rfl dd_M_turn_187 ?_
        refine lv_aload_n hx hb dd_M_turn_190 rfl (lv_at hl 0 rfl) ?_
        refine va_get (D := D) (ci := 4) (v := .int ((ui I 0 20 ((I 0 20) + (1 : Int32))) 0 3)) (C := "OpenDealModel") (T := T_M) (N := 32) hx hb hk in_M hown hK hP 0 am_0 rfl 3 (by decide) (hk _ kw_540) (fun _ h9 => h9) rfl dd_M_turn_191 ?_
        obtain ⟨hz7, h⟩ := oi_out h
        refine lv_irem hx hb dd_M_turn_194 hz7 ?_
        refine lv_topi (fun y8 ey8 => ?_)
        have h := tl_at ey8 h
        refine lv_if_ne (tgt := 208) hx hb dd_M_turn_195 (by decide) (fun hc9 => ?_) (fun hc9 => ?_)
        · have h := in_out hc9 h
          refine lv_iconst (v := 1) hx hb dd_M_turn_208 (by decide) ?_
          obtain rfl := Option.some.inj h
          exact W.zret hx hb hr rfl (fun t ht hW => ⟨⟨_, (), rfl, rfl, by rw [ht]; exact hP, va_K.moved hW.alike hK, hD⟩, hS.F ht⟩) hS.2.2 dd_M_turn_209
        · have h := ip_out hc9 h
          refine lv_aload_n hx hb dd_M_turn_198 rfl (lv_at hl 0 rfl) ?_
          refine lv_dup hx hb dd_M_turn_199 rfl ?_
          refine va_get (D := D) (ci := 4) (v := .int ((ui I 0 20 ((I 0 20) + (1 : Int32))) 0 4)) (C := "OpenDealModel") (T := T_M) (N := 32) hx hb hk in_M hown hK hP 0 am_0 rfl 4 (by decide) (hk _ kw_541) (fun _ h9 => h9) rfl dd_M_turn_200 ?_
          refine lv_iconst (v := 1) hx hb dd_M_turn_203 (by decide) ?_
          refine lv_iadd hx hb dd_M_turn_204 ?_
          refine va_put (D := D) (ci := 4) (v := .int (((ui I 0 20 ((I 0 20) + (1 : Int32))) 0 4) + (1 : Int32))) (ty := .int) (C := "OpenDealModel") (T := T_M) (N := 32) hx hb hk in_M ty_M tk_M nm_M hown hK hP hD hS 0 am_0 rfl 4 (by decide) (hk _ kw_541) (fun _ h9 => h9) rfl (by decide +kernel) rfl rfl (Nat.le_of_ble_eq_true rfl) dd_M_turn_205 (fun H locs hP hD hS => ?_)
          rw [pt_M4] at hP hD
          refine lv_iconst (v := 1) hx hb dd_M_turn_208 (by decide) ?_
          obtain rfl := Option.some.inj h
          exact W.zret hx hb hr rfl (fun t ht hW => ⟨⟨_, (), rfl, rfl, by rw [ht]; exact hP, va_K.moved hW.alike hK, hD⟩, hS.F ht⟩) hS.2.2 dd_M_turn_209
      · have h := in_out hc6 h
        refine lv_aload_n hx hb dd_M_turn_83 rfl (lv_at hl 0 rfl) ?_
        refine va_get (D := D) (ci := 4) (v := .int (I 0 4)) (C := "OpenDealModel") (T := T_M) (N := 32) hx hb hk in_M hown hK hP 0 am_0 rfl 4 (by decide) (hk _ kw_541) (fun _ h9 => h9) rfl dd_M_turn_84 ?_
        refine lv_iconst (v := 2) hx hb dd_M_turn_87 (by decide) ?_
        refine lv_icmp_ne (tgt := 109) hx hb dd_M_turn_88 (by decide) (fun hc10 => ?_) (fun hc10 => ?_)
        · have h := in_out hc10 h
          refine lv_aload_n hx hb dd_M_turn_109 rfl (lv_at hl 0 rfl) ?_
          refine lv_aload_n hx hb dd_M_turn_110 rfl (lv_at hl 0 rfl) ?_
          refine va_get (D := D) (ci := 4) (v := .int (I 0 20)) (C := "OpenDealModel") (T := T_M) (N := 32) hx hb hk in_M hown hK hP 0 am_0 rfl 20 (by decide) (hk _ kw_557) (fun _ h9 => h9) rfl dd_M_turn_111 ?_
          refine lv_iload_n hx hb dd_M_turn_114 rfl (lv_at hl 2 rfl) ?_
          refine lv_aload_n hx hb dd_M_turn_115 rfl (lv_at hl 0 rfl) ?_
          refine va_get (D := D) (ci := 4) (v := .ref (ad 4)) (C := "OpenDealModel") (T := T_M) (N := 32) hx hb hk in_M hown hK hP 0 am_0 rfl 8 (by decide) (hk _ kw_545) (fun _ h9 => h9) rfl dd_M_turn_116 ?_
          refine lv_iload_n hx hb dd_M_turn_119 rfl (lv_at hl 1 rfl) ?_
          obtain ⟨hi11, h⟩ := oi_out h
          refine va_iald hx hb hK hP 4 0 am_4 rfl hi11 dd_M_turn_120 ?_
          obtain ⟨r12, hr12, h⟩ := ob_out h
          refine cr_Vi (n := 3) (As := [.int (I 0 20), .int v2, .int (I 4 (v1).toNatClampNeg)]) hx hb hml hown hk (mm_M_relockedAt l D kc ad _ _ _ _ _ _ _ hr12) hK hP 0 am_0 rfl rfl kw_710 kw_712 sel_M_relockedAt kw_4 kw_713 ⟨rfl, rfl⟩ (by decide +kernel) ⟨Nat.le_of_ble_eq_true rfl, Nat.le_of_ble_eq_true rfl⟩ rfl hl.1 rfl (Nat.le_of_ble_eq_true rfl) dd_M_turn_121 ⟨Nat.le_of_ble_eq_true rfl, Nat.le_of_ble_eq_true rfl⟩ ?_
          exact L124 _ ih _ _ _ _ _ _ h _ _ hP hD hS _ (lv_sub hl [0, 1, 2] rfl)
        · have h := ip_out hc10 h
          refine lv_aload_n hx hb dd_M_turn_91 rfl (lv_at hl 0 rfl) ?_
          refine lv_aload_n hx hb dd_M_turn_92 rfl (lv_at hl 0 rfl) ?_
          refine va_get (D := D) (ci := 4) (v := .int (I 0 20)) (C := "OpenDealModel") (T := T_M) (N := 32) hx hb hk in_M hown hK hP 0 am_0 rfl 20 (by decide) (hk _ kw_557) (fun _ h9 => h9) rfl dd_M_turn_93 ?_
          refine lv_iload_n hx hb dd_M_turn_96 rfl (lv_at hl 2 rfl) ?_
          refine lv_aload_n hx hb dd_M_turn_97 rfl (lv_at hl 0 rfl) ?_
          refine va_get (D := D) (ci := 4) (v := .ref (ad 4)) (C := "OpenDealModel") (T := T_M) (N := 32) hx hb hk in_M hown hK hP 0 am_0 rfl 8 (by decide) (hk _ kw_545) (fun _ h9 => h9) rfl dd_M_turn_98 ?_
          refine lv_iload_n hx hb dd_M_turn_101 rfl (lv_at hl 1 rfl) ?_
          obtain ⟨hi13, h⟩ := oi_out h
          refine va_iald hx hb hK hP 4 0 am_4 rfl hi13 dd_M_turn_102 ?_
          obtain ⟨r14, hr14, h⟩ := ob_out h
          refine cr_Vi (n := 3) (As := [.int (I 0 20), .int v2, .int (I 4 (v1).toNatClampNeg)]) hx hb hml hown hk (mm_M_lockedAt l D kc ad _ _ _ _ _ _ _ hr14) hK hP 0 am_0 rfl rfl kw_703 kw_705 sel_M_lockedAt kw_4 kw_706 ⟨rfl, rfl⟩ (by decide +kernel) ⟨Nat.le_of_ble_eq_true rfl, Nat.le_of_ble_eq_true rfl⟩ rfl hl.1 rfl (Nat.le_of_ble_eq_true rfl) dd_M_turn_103 ⟨Nat.le_of_ble_eq_true rfl, Nat.le_of_ble_eq_true rfl⟩ ?_
          refine lv_goto (tgt := 124) hx hb dd_M_turn_106 (by decide) ?_
          exact L124 _ ih _ _ _ _ _ _ h _ _ hP hD hS _ (lv_sub hl [0, 1, 2] rfl)
  have L21 : ∀  (n : Nat) (I : MI) (J : MJ) (v1 : Int32), ff_M_turn_21 n I J v1 = some r → ∀ (H : Heap) (locs : List Loc), va_P D cls5 (wM kc ad I J) H → va_D A (wM kc ad I J) → va_S A s.heap H locs → ∀ ls, lv_has ls 4 [(0, .ref (ad 0)), (1, .int v1)] → W p l e (headSpec (.code yy_M_turn cc_M_turn 4 (some .boolean) :: kw) { frames := 3, cells := 0, slots := 0, locals := 71 }).room s m ([.ref (ad 0), .int a1] : List Value).toArray below meth c H locs 0 0 (MQ below (va_Qi (fun z (_ : Unit) => z = r.1) (EW D kc A (wM kc ad r.2.1 r.2.2)) A) ([.ref (ad 0), .int a1] : List Value).toArray s 0 0 A) (F0 m 21 ls []) := by
    intro  n I J v1 h H locs hP hD hS ls hl
    unfold ff_M_turn_21 at h
    refine lv_aload_n hx hb dd_M_turn_21 rfl (lv_at hl 0 rfl) ?_
    refine lv_iload_n hx hb dd_M_turn_22 rfl (lv_at hl 1 rfl) ?_
    obtain ⟨r15, hr15, h⟩ := ob_out h
    refine cr_Vi (n := 1) (As := [.int v1]) hx hb hml hown hk (mm_M_isPlayer l D kc ad _ _ _ _ _ hr15) hK hP 0 am_0 rfl rfl kw_664 kw_666 sel_M_isPlayer kw_4 kw_667 ⟨rfl, rfl⟩ (by decide +kernel) ⟨Nat.le_of_ble_eq_true rfl, Nat.le_of_ble_eq_true rfl⟩ rfl hl.1 rfl (Nat.le_of_ble_eq_true rfl) dd_M_turn_23 ⟨Nat.le_of_ble_eq_true rfl, Nat.le_of_ble_eq_true rfl⟩ ?_
    refine lv_if_eq (tgt := 42) hx hb dd_M_turn_26 (by decide) (fun hc16 => ?_) (fun hc16 => ?_)
    · have h := ip_out hc16 h
      refine lv_iconst (v := 0) hx hb dd_M_turn_42 (by decide) ?_
      obtain rfl := Option.some.inj h
      exact W.zret hx hb hr rfl (fun t ht hW => ⟨⟨_, (), rfl, rfl, by rw [ht]; exact hP, va_K.moved hW.alike hK, hD⟩, hS.F ht⟩) hS.2.2 dd_M_turn_43
    · have h := in_out hc16 h
      refine lv_aload_n hx hb dd_M_turn_29 rfl (lv_at hl 0 rfl) ?_
      refine va_get (D := D) (ci := 4) (v := .int (I 0 20)) (C := "OpenDealModel") (T := T_M) (N := 32) hx hb hk in_M hown hK hP 0 am_0 rfl 20 (by decide) (hk _ kw_557) (fun _ h9 => h9) rfl dd_M_turn_30 ?_
      refine lv_aload_n hx hb dd_M_turn_33 rfl (lv_at hl 0 rfl) ?_
      refine va_get (D := D) (ci := 4) (v := .int (I 0 3)) (C := "OpenDealModel") (T := T_M) (N := 32) hx hb hk in_M hown hK hP 0 am_0 rfl 3 (by decide) (hk _ kw_540) (fun _ h9 => h9) rfl dd_M_turn_34 ?_
      obtain ⟨hz17, h⟩ := oi_out h
      refine lv_irem hx hb dd_M_turn_37 hz17 ?_
      refine lv_topi (fun y18 ey18 => ?_)
      have h := tl_at ey18 h
      refine lv_iload_n hx hb dd_M_turn_38 rfl (lv_at hl 1 rfl) ?_
      refine lv_icmp_eq (tgt := 44) hx hb dd_M_turn_39 (by decide) (fun hc19 => ?_) (fun hc19 => ?_)
      · have h := ip_out hc19 h
        refine lv_aload_n hx hb dd_M_turn_44 rfl (lv_at hl 0 rfl) ?_
        refine va_get (D := D) (ci := 4) (v := .int (I 0 4)) (C := "OpenDealModel") (T := T_M) (N := 32) hx hb hk in_M hown hK hP 0 am_0 rfl 4 (by decide) (hk _ kw_541) (fun _ h9 => h9) rfl dd_M_turn_45 ?_
        refine lv_iconst (v := 2) hx hb dd_M_turn_48 (by decide) ?_
        refine lv_icmp_ne (tgt := 65) hx hb dd_M_turn_49 (by decide) (fun hc20 => ?_) (fun hc20 => ?_)
        · have h := in_out hc20 h
          refine lv_aload_n hx hb dd_M_turn_65 rfl (lv_at hl 0 rfl) ?_
          refine lv_aload_n hx hb dd_M_turn_66 rfl (lv_at hl 0 rfl) ?_
          refine va_get (D := D) (ci := 4) (v := .ref (ad 6)) (C := "OpenDealModel") (T := T_M) (N := 32) hx hb hk in_M hown hK hP 0 am_0 rfl 10 (by decide) (hk _ kw_547) (fun _ h9 => h9) rfl dd_M_turn_67 ?_
          refine lv_iload_n hx hb dd_M_turn_70 rfl (lv_at hl 1 rfl) ?_
          obtain ⟨hi21, h⟩ := oi_out h
          refine va_lald hx hb hK hP 6 1 am_6 rfl hi21 dd_M_turn_71 ?_
          obtain ⟨r22, hr22, h⟩ := ob_out h
          refine cw_Vv (n := 1) (As := [.long (J 6 (v1).toNatClampNeg)]) (mc := 0) (ms := 0) hx hb hml hown hk (mm_M_makeLocks l D kc ad _ _ _ _ _ _ hr22) hK hP hD hS hA 0 am_0 rfl rfl kw_699 kw_701 sel_M_makeLocks kw_4 kw_702 ⟨rfl, rfl⟩ (by decide +kernel) ⟨Nat.le_of_ble_eq_true rfl, Nat.le_of_ble_eq_true rfl⟩ rfl hl.1 rfl (Nat.le_of_ble_eq_true rfl) dd_M_turn_72 ⟨Nat.le_of_ble_eq_true rfl, Nat.le_of_ble_eq_true rfl⟩ (fun H locs hP hD hS => ?_)
          refine lv_iconst (v := 0) hx hb dd_M_turn_75 (by decide) ?_
          refine lv_istore_n (lv' := [(2, .int (0 : Int32)), (0, .ref (ad 0)), (1, .int v1)]) hx hb dd_M_turn_76 rfl hl (by decide) rfl (fun ls hl => ?_)
          exact L77  _ _ _ _ _ h _ _ hP hD hS _ (lv_sub hl [1, 2, 0] rfl)
        · have h := ip_out hc20 h
          refine lv_aload_n hx hb dd_M_turn_52 rfl (lv_at hl 0 rfl) ?_
          refine lv_aload_n hx hb dd_M_turn_53 rfl (lv_at hl 0 rfl) ?_
          refine va_get (D := D) (ci := 4) (v := .ref (ad 5)) (C := "OpenDealModel") (T := T_M) (N := 32) hx hb hk in_M hown hK hP 0 am_0 rfl 9 (by decide) (hk _ kw_546) (fun _ h9 => h9) rfl dd_M_turn_54 ?_
          refine lv_iload_n hx hb dd_M_turn_57 rfl (lv_at hl 1 rfl) ?_
          obtain ⟨hi23, h⟩ := oi_out h
          refine va_lald hx hb hK hP 5 1 am_5 rfl hi23 dd_M_turn_58 ?_
          obtain ⟨r24, hr24, h⟩ := ob_out h
          refine cw_Vv (n := 1) (As := [.long (J 5 (v1).toNatClampNeg)]) (mc := 0) (ms := 0) hx hb hml hown hk (mm_M_makeOrder l D kc ad _ _ _ _ _ _ hr24) hK hP hD hS hA 0 am_0 rfl rfl kw_689 kw_691 sel_M_makeOrder kw_4 kw_692 ⟨rfl, rfl⟩ (by decide +kernel) ⟨Nat.le_of_ble_eq_true rfl, Nat.le_of_ble_eq_true rfl⟩ rfl hl.1 rfl (Nat.le_of_ble_eq_true rfl) dd_M_turn_59 ⟨Nat.le_of_ble_eq_true rfl, Nat.le_of_ble_eq_true rfl⟩ (fun H locs hP hD hS => ?_)
          refine lv_goto (tgt := 75) hx hb dd_M_turn_62 (by decide) ?_
          refine lv_iconst (v := 0) hx hb dd_M_turn_75 (by decide) ?_
          refine lv_istore_n (lv' := [(2, .int (0 : Int32)), (0, .ref (ad 0)), (1, .int v1)]) hx hb dd_M_turn_76 rfl hl (by decide) rfl (fun ls hl => ?_)
          exact L77  _ _ _ _ _ h _ _ hP hD hS _ (lv_sub hl [1, 2, 0] rfl)
      · have h := in_out hc19 h
        refine lv_iconst (v := 0) hx hb dd_M_turn_42 (by decide) ?_
        obtain rfl := Option.some.inj h
        exact W.zret hx hb hr rfl (fun t ht hW => ⟨⟨_, (), rfl, rfl, by rw [ht]; exact hP, va_K.moved hW.alike hK, hD⟩, hS.F ht⟩) hS.2.2 dd_M_turn_43
  have hl := lv_entry ([.ref (ad 0), .int a1]) (n := 4) (Nat.le_of_ble_eq_true rfl)
  rw [lg_entry_eq]
  generalize (lg_sl ([.ref (ad 0), .int a1]) ++ List.replicate (4 - (lg_sl ([.ref (ad 0), .int a1])).length) Slot.unset).toArray = ls at hl ⊢
  have hl : lv_has ls 4 [(0, .ref (ad 0)), (1, .int a1)] := hl
  unfold ff_M_turn at h
  refine lv_aload_n hx hb dd_M_turn_0 rfl (lv_at hl 0 rfl) ?_
  refine lv_iconst (v := 0) hx hb dd_M_turn_1 (by decide) ?_
  refine va_put (D := D) (ci := 4) (v := .int (0 : Int32)) (ty := .int) (C := "OpenDealModel") (T := T_M) (N := 32) hx hb hk in_M ty_M tk_M nm_M hown hK hP hD hS 0 am_0 rfl 0 (by decide) (hk _ kw_537) (fun _ h9 => h9) rfl (by decide +kernel) rfl rfl (Nat.le_of_ble_eq_true rfl) dd_M_turn_2 (fun H locs hP hD hS => ?_)
  rw [pt_M0] at hP hD
  refine lv_aload_n hx hb dd_M_turn_5 rfl (lv_at hl 0 rfl) ?_
  refine va_get (D := D) (ci := 4) (v := .int ((ui I0 0 0 (0 : Int32)) 0 4)) (C := "OpenDealModel") (T := T_M) (N := 32) hx hb hk in_M hown hK hP 0 am_0 rfl 4 (by decide) (hk _ kw_541) (fun _ h9 => h9) rfl dd_M_turn_6 ?_
  refine lv_iconst (v := 2) hx hb dd_M_turn_9 (by decide) ?_
  refine lv_icmp_eq (tgt := 21) hx hb dd_M_turn_10 (by decide) (fun hc25 => ?_) (fun hc25 => ?_)
  · have h := ip_out hc25 h
    exact L21  _ _ _ _ h _ _ hP hD hS _ (lv_sub hl [0, 1] rfl)
  · have h := in_out hc25 h
    refine lv_aload_n hx hb dd_M_turn_13 rfl (lv_at hl 0 rfl) ?_
    refine va_get (D := D) (ci := 4) (v := .int ((ui I0 0 0 (0 : Int32)) 0 4)) (C := "OpenDealModel") (T := T_M) (N := 32) hx hb hk in_M hown hK hP 0 am_0 rfl 4 (by decide) (hk _ kw_541) (fun _ h9 => h9) rfl dd_M_turn_14 ?_
    refine lv_iconst (v := 3) hx hb dd_M_turn_17 (by decide) ?_
    refine lv_icmp_ne (tgt := 42) hx hb dd_M_turn_18 (by decide) (fun hc26 => ?_) (fun hc26 => ?_)
    · have h := in_out hc26 h
      refine lv_iconst (v := 0) hx hb dd_M_turn_42 (by decide) ?_
      obtain rfl := Option.some.inj h
      exact W.zret hx hb hr rfl (fun t ht hW => ⟨⟨_, (), rfl, rfl, by rw [ht]; exact hP, va_K.moved hW.alike hK, hD⟩, hS.F ht⟩) hS.2.2 dd_M_turn_43
    · have h := ip_out hc26 h
      exact L21  _ _ _ _ h _ _ hP hD hS _ (lv_sub hl [0, 1] rfl)
def ff_M_laid_14  (n : Nat) (I : MI) (J : MJ) (v1 : Int32) : Option (Int32 × MI × MJ) := (ff_M_raise n I J (1 : Int32)).bind fun r1 => some (r1.1, r1.2.1, r1.2.2)
def ff_M_laid (n : Nat) (I : MI) (J : MJ) (a1 : Int32) : Option (Int32 × MI × MJ) := (ff_M_isPlace n a1).bind fun r2 => if r2 = 0 then (ff_M_laid_14 n I J a1) else (if (I 0 1) = 0 then (ff_M_laid_14 n I J a1) else (if ¬ ((((52 : Int32) * ((ui I 0 0 (0 : Int32)) 0 20)) + a1) < 0 ∨ 468 ≤ (((52 : Int32) * ((ui I 0 0 (0 : Int32)) 0 20)) + a1).toNatClampNeg) then some ((ui I 0 0 (0 : Int32)) 15 (((52 : Int32) * ((ui I 0 0 (0 : Int32)) 0 20)) + a1).toNatClampNeg, ui I 0 0 (0 : Int32), J) else none))
set_option maxHeartbeats 4000000 in
set_option maxRecDepth 100000 in
theorem mm_M_laid (l : Launch) (D : va_G) (kc : Nat → ClassId) (ad : Nat → Nat) (I0 : MI) (J0 : MJ) (sz n : Nat) (a1 : Int32) (r : Int32 × MI × MJ) (h : ff_M_laid n I0 J0 a1 = some r) : Met l yy_M_laid (.code yy_M_laid cc_M_laid 2 (some .int) :: kw) { frames := 1, cells := 0, slots := 0, locals := 21 } (va_Pc [.ref (ad 0), .int a1] (BW D kc (wM kc ad I0 J0) sz)) (va_Qi (fun z (_ : Unit) => z = r.1) (EW D kc (va_A (wM kc ad I0 J0) sz) (wM kc ad r.2.1 r.2.2)) (va_A (wM kc ad I0 J0) sz)) 0 0 (va_A (wM kc ad I0 J0) sz) := by
  refine Met.ofW (cc := cc_M_laid) (maxL := 2) (ret := some .int) (by decide) rfl ?_
  intro p e s m args below meth c s₁ B hml hv
  obtain ⟨rfl, hsz, hP, hK, hD0⟩ := hv
  have hx := B.exec
  have hb := B.bytes
  have hr := B.returns
  have hlocks := B.notSynchronized
  have hk : ∀ w ∈ kw, w.before _ s = true := fun w hw => atoms_spec (ws := (.code yy_M_laid cc_M_laid 2 (some .int) :: kw)) B.pre w (List.mem_cons_of_mem _ hw)
  have hown : s.vm.findClass "OpenDealModel" = some m.cls := findClass_of_methodNamed B.named
  subst hsz
  have hD := hD0.self (sz := s.heap.size)
  generalize hAe : va_A (wM kc ad I0 J0) s.heap.size = A at hD ⊢
  have hA : ∀ q : Nat, s.heap.size ≤ q → A q := fun q h => by rw [← hAe]; exact Or.inr h
  have hS : va_S A s.heap s.heap [] := va_S.rf
  have hP : va_P D cls5 (wM kc ad I0 J0) s.heap := hP
  clear hAe hD0
  have L14 : ∀  (n : Nat) (I : MI) (J : MJ) (v1 : Int32), ff_M_laid_14 n I J v1 = some r → ∀ (H : Heap) (locs : List Loc), va_P D cls5 (wM kc ad I J) H → va_D A (wM kc ad I J) → va_S A s.heap H locs → ∀ ls, lv_has ls 2 [(0, .ref (ad 0)), (1, .int v1)] → W p l e (headSpec (.code yy_M_laid cc_M_laid 2 (some .int) :: kw) { frames := 1, cells := 0, slots := 0, locals := 21 }).room s m ([.ref (ad 0), .int a1] : List Value).toArray below meth c H locs 0 0 (MQ below (va_Qi (fun z (_ : Unit) => z = r.1) (EW D kc A (wM kc ad r.2.1 r.2.2)) A) ([.ref (ad 0), .int a1] : List Value).toArray s 0 0 A) (F0 m 14 ls []) := by
    intro  n I J v1 h H locs hP hD hS ls hl
    unfold ff_M_laid_14 at h
    refine lv_aload_n hx hb dd_M_laid_14 rfl (lv_at hl 0 rfl) ?_
    refine lv_iconst (v := 1) hx hb dd_M_laid_15 (by decide) ?_
    obtain ⟨r1, hr1, h⟩ := ob_out h
    refine cw_Vi (n := 1) (As := [.int (1 : Int32)]) (mc := 0) (ms := 0) hx hb hml hown hk (mm_M_raise l D kc ad _ _ _ _ _ _ hr1) hK hP hD hS hA 0 am_0 rfl rfl kw_681 kw_683 sel_M_raise kw_4 kw_684 ⟨rfl, rfl⟩ (by decide +kernel) ⟨Nat.le_of_ble_eq_true rfl, Nat.le_of_ble_eq_true rfl⟩ rfl hl.1 rfl (Nat.le_of_ble_eq_true rfl) dd_M_laid_16 ⟨Nat.le_of_ble_eq_true rfl, Nat.le_of_ble_eq_true rfl⟩ (fun H locs hP hD hS => ?_)
    obtain rfl := Option.some.inj h
    exact W.iret hx hb hr (fun t ht hW => ⟨⟨_, (), rfl, rfl, by rw [ht]; exact hP, va_K.moved hW.alike hK, hD⟩, hS.F ht⟩) hS.2.2 dd_M_laid_19
  have hl := lv_entry ([.ref (ad 0), .int a1]) (n := 2) (Nat.le_of_ble_eq_true rfl)
  rw [lg_entry_eq]
  generalize (lg_sl ([.ref (ad 0), .int a1]) ++ List.replicate (2 - (lg_sl ([.ref (ad 0), .int a1])).length) Slot.unset).toArray = ls at hl ⊢
  have hl : lv_has ls 2 [(0, .ref (ad 0)), (1, .int a1)] := hl
  unfold ff_M_laid at h
  refine lv_iload_n hx hb dd_M_laid_0 rfl (lv_at hl 1 rfl) ?_
  obtain ⟨r2, hr2, h⟩ := ob_out h
  refine ro_Si (n := 1) (As := [.int a1]) hx hb hml hown hk (mm_M_isPlace l _ _ _ hr2) (fun U _ _ => trivial) (fun _ _ _ _ _ => trivial) kw_726 kw_727 kw_4 kw_728 ⟨rfl, rfl⟩ (by decide +kernel) ⟨Nat.le_of_ble_eq_true rfl, Nat.le_of_ble_eq_true rfl⟩ rfl hl.1 rfl (Nat.le_of_ble_eq_true rfl) dd_M_laid_1 ⟨Nat.le_of_ble_eq_true rfl, Nat.le_of_ble_eq_true rfl⟩ ?_
  refine lv_if_eq (tgt := 14) hx hb dd_M_laid_4 (by decide) (fun hc3 => ?_) (fun hc3 => ?_)
  · have h := ip_out hc3 h
    exact L14  _ _ _ _ h _ _ hP hD hS _ (lv_sub hl [0, 1] rfl)
  · have h := in_out hc3 h
    refine lv_aload_n hx hb dd_M_laid_7 rfl (lv_at hl 0 rfl) ?_
    refine va_get (D := D) (ci := 4) (v := .int (I0 0 1)) (C := "OpenDealModel") (T := T_M) (N := 32) hx hb hk in_M hown hK hP 0 am_0 rfl 1 (by decide) (hk _ kw_538) (fun _ h9 => h9) rfl dd_M_laid_8 ?_
    refine lv_if_ne (tgt := 20) hx hb dd_M_laid_11 (by decide) (fun hc4 => ?_) (fun hc4 => ?_)
    · have h := in_out hc4 h
      refine lv_aload_n hx hb dd_M_laid_20 rfl (lv_at hl 0 rfl) ?_
      refine lv_iconst (v := 0) hx hb dd_M_laid_21 (by decide) ?_
      refine va_put (D := D) (ci := 4) (v := .int (0 : Int32)) (ty := .int) (C := "OpenDealModel") (T := T_M) (N := 32) hx hb hk in_M ty_M tk_M nm_M hown hK hP hD hS 0 am_0 rfl 0 (by decide) (hk _ kw_537) (fun _ h9 => h9) rfl (by decide +kernel) rfl rfl (Nat.le_of_ble_eq_true rfl) dd_M_laid_22 (fun H locs hP hD hS => ?_)
      rw [pt_M0] at hP hD
      refine lv_aload_n hx hb dd_M_laid_25 rfl (lv_at hl 0 rfl) ?_
      refine va_get (D := D) (ci := 4) (v := .ref (ad 15)) (C := "OpenDealModel") (T := T_M) (N := 32) hx hb hk in_M hown hK hP 0 am_0 rfl 19 (by decide) (hk _ kw_556) (fun _ h9 => h9) rfl dd_M_laid_26 ?_
      refine lv_bipush (v := 52) hx hb dd_M_laid_29 (by decide) ?_
      refine lv_aload_n hx hb dd_M_laid_31 rfl (lv_at hl 0 rfl) ?_
      refine va_get (D := D) (ci := 4) (v := .int ((ui I0 0 0 (0 : Int32)) 0 20)) (C := "OpenDealModel") (T := T_M) (N := 32) hx hb hk in_M hown hK hP 0 am_0 rfl 20 (by decide) (hk _ kw_557) (fun _ h9 => h9) rfl dd_M_laid_32 ?_
      refine lv_imul hx hb dd_M_laid_35 ?_
      refine lv_iload_n hx hb dd_M_laid_36 rfl (lv_at hl 1 rfl) ?_
      refine lv_iadd hx hb dd_M_laid_37 ?_
      obtain ⟨hi5, h⟩ := oi_out h
      refine va_iald hx hb hK hP 15 0 am_15 rfl hi5 dd_M_laid_38 ?_
      obtain rfl := Option.some.inj h
      exact W.iret hx hb hr (fun t ht hW => ⟨⟨_, (), rfl, rfl, by rw [ht]; exact hP, va_K.moved hW.alike hK, hD⟩, hS.F ht⟩) hS.2.2 dd_M_laid_39
    · have h := ip_out hc4 h
      exact L14  _ _ _ _ h _ _ hP hD hS _ (lv_sub hl [0, 1] rfl)
def ff_M_assign_46  (n : Nat) (I : MI) (J : MJ) (v1 : Int32) (v2 : Int32) : Option (Int32 × MI × MJ) := if ¬ (v1 < 0 ∨ 52 ≤ (v1).toNatClampNeg) then some ((1 : Int32), ui I 18 (v1).toNatClampNeg v2, J) else none
def ff_M_assign (n : Nat) (I : MI) (J : MJ) (a1 : Int32) (a2 : Int32) : Option (Int32 × MI × MJ) := (ff_M_isPlace n a1).bind fun r2 => if r2 = 0 then (some ((0 : Int32), ui I 0 0 (0 : Int32), J)) else (if ((ui I 0 0 (0 : Int32)) 0 4) = (4 : Int32) then (if ¬ (a1 < 0 ∨ 52 ≤ (a1).toNatClampNeg) then if ((ui I 0 0 (0 : Int32)) 18 (a1).toNatClampNeg) = (-2 : Int32) then (if a2 = (-1 : Int32) then (ff_M_assign_46 n (ui I 0 0 (0 : Int32)) J a1 a2) else ((ff_M_isPlayer n (ui I 0 0 (0 : Int32)) J a2).bind fun r8 => if r8 = 0 then (some ((0 : Int32), ui I 0 0 (0 : Int32), J)) else (ff_M_assign_46 n (ui I 0 0 (0 : Int32)) J a1 a2))) else (some ((0 : Int32), ui I 0 0 (0 : Int32), J)) else none) else (some ((0 : Int32), ui I 0 0 (0 : Int32), J)))
set_option maxHeartbeats 4000000 in
set_option maxRecDepth 100000 in
theorem mm_M_assign (l : Launch) (D : va_G) (kc : Nat → ClassId) (ad : Nat → Nat) (I0 : MI) (J0 : MJ) (sz n : Nat) (a1 : Int32) (a2 : Int32) (r : Int32 × MI × MJ) (h : ff_M_assign n I0 J0 a1 a2 = some r) : Met l yy_M_assign (.code yy_M_assign cc_M_assign 3 (some .boolean) :: kw) { frames := 1, cells := 0, slots := 0, locals := 21 } (va_Pc [.ref (ad 0), .int a1, .int a2] (BW D kc (wM kc ad I0 J0) sz)) (va_Qi (fun z (_ : Unit) => z = r.1) (EW D kc (va_A (wM kc ad I0 J0) sz) (wM kc ad r.2.1 r.2.2)) (va_A (wM kc ad I0 J0) sz)) 0 0 (va_A (wM kc ad I0 J0) sz) := by
  refine Met.ofW (cc := cc_M_assign) (maxL := 3) (ret := some .boolean) (by decide) rfl ?_
  intro p e s m args below meth c s₁ B hml hv
  obtain ⟨rfl, hsz, hP, hK, hD0⟩ := hv
  have hx := B.exec
  have hb := B.bytes
  have hr := B.returns
  have hlocks := B.notSynchronized
  have hk : ∀ w ∈ kw, w.before _ s = true := fun w hw => atoms_spec (ws := (.code yy_M_assign cc_M_assign 3 (some .boolean) :: kw)) B.pre w (List.mem_cons_of_mem _ hw)
  have hown : s.vm.findClass "OpenDealModel" = some m.cls := findClass_of_methodNamed B.named
  subst hsz
  have hD := hD0.self (sz := s.heap.size)
  generalize hAe : va_A (wM kc ad I0 J0) s.heap.size = A at hD ⊢
  have hA : ∀ q : Nat, s.heap.size ≤ q → A q := fun q h => by rw [← hAe]; exact Or.inr h
  have hS : va_S A s.heap s.heap [] := va_S.rf
  have hP : va_P D cls5 (wM kc ad I0 J0) s.heap := hP
  clear hAe hD0
  have L46 : ∀  (n : Nat) (I : MI) (J : MJ) (v1 : Int32) (v2 : Int32), ff_M_assign_46 n I J v1 v2 = some r → ∀ (H : Heap) (locs : List Loc), va_P D cls5 (wM kc ad I J) H → va_D A (wM kc ad I J) → va_S A s.heap H locs → ∀ ls, lv_has ls 3 [(0, .ref (ad 0)), (1, .int v1), (2, .int v2)] → W p l e (headSpec (.code yy_M_assign cc_M_assign 3 (some .boolean) :: kw) { frames := 1, cells := 0, slots := 0, locals := 21 }).room s m ([.ref (ad 0), .int a1, .int a2] : List Value).toArray below meth c H locs 0 0 (MQ below (va_Qi (fun z (_ : Unit) => z = r.1) (EW D kc A (wM kc ad r.2.1 r.2.2)) A) ([.ref (ad 0), .int a1, .int a2] : List Value).toArray s 0 0 A) (F0 m 46 ls []) := by
    intro  n I J v1 v2 h H locs hP hD hS ls hl
    unfold ff_M_assign_46 at h
    refine lv_aload_n hx hb dd_M_assign_46 rfl (lv_at hl 0 rfl) ?_
    refine va_get (D := D) (ci := 4) (v := .ref (ad 18)) (C := "OpenDealModel") (T := T_M) (N := 32) hx hb hk in_M hown hK hP 0 am_0 rfl 23 (by decide) (hk _ kw_560) (fun _ h9 => h9) rfl dd_M_assign_47 ?_
    refine lv_iload_n hx hb dd_M_assign_50 rfl (lv_at hl 1 rfl) ?_
    refine lv_iload_n hx hb dd_M_assign_51 rfl (lv_at hl 2 rfl) ?_
    obtain ⟨hi1, h⟩ := oi_out h
    refine va_iast hx hb hK hP hD hS 18 0 am_18 rfl (x := v2) hi1 dd_M_assign_52 (fun H locs hP hD hS => ?_)
    rw [pm_18] at hP hD
    refine lv_iconst (v := 1) hx hb dd_M_assign_53 (by decide) ?_
    obtain rfl := Option.some.inj h
    exact W.zret hx hb hr rfl (fun t ht hW => ⟨⟨_, (), rfl, rfl, by rw [ht]; exact hP, va_K.moved hW.alike hK, hD⟩, hS.F ht⟩) hS.2.2 dd_M_assign_54
  have hl := lv_entry ([.ref (ad 0), .int a1, .int a2]) (n := 3) (Nat.le_of_ble_eq_true rfl)
  rw [lg_entry_eq]
  generalize (lg_sl ([.ref (ad 0), .int a1, .int a2]) ++ List.replicate (3 - (lg_sl ([.ref (ad 0), .int a1, .int a2])).length) Slot.unset).toArray = ls at hl ⊢
  have hl : lv_has ls 3 [(0, .ref (ad 0)), (1, .int a1), (2, .int a2)] := hl
  unfold ff_M_assign at h
  refine lv_aload_n hx hb dd_M_assign_0 rfl (lv_at hl 0 rfl) ?_
  refine lv_iconst (v := 0) hx hb dd_M_assign_1 (by decide) ?_
  refine va_put (D := D) (ci := 4) (v := .int (0 : Int32)) (ty := .int) (C := "OpenDealModel") (T := T_M) (N := 32) hx hb hk in_M ty_M tk_M nm_M hown hK hP hD hS 0 am_0 rfl 0 (by decide) (hk _ kw_537) (fun _ h9 => h9) rfl (by decide +kernel) rfl rfl (Nat.le_of_ble_eq_true rfl) dd_M_assign_2 (fun H locs hP hD hS => ?_)
  rw [pt_M0] at hP hD
  refine lv_iload_n hx hb dd_M_assign_5 rfl (lv_at hl 1 rfl) ?_
  obtain ⟨r2, hr2, h⟩ := ob_out h
  refine ro_Si (n := 1) (As := [.int a1]) hx hb hml hown hk (mm_M_isPlace l _ _ _ hr2) (fun U _ _ => trivial) (fun _ _ _ _ _ => trivial) kw_726 kw_727 kw_4 kw_728 ⟨rfl, rfl⟩ (by decide +kernel) ⟨Nat.le_of_ble_eq_true rfl, Nat.le_of_ble_eq_true rfl⟩ rfl hl.1 rfl (Nat.le_of_ble_eq_true rfl) dd_M_assign_6 ⟨Nat.le_of_ble_eq_true rfl, Nat.le_of_ble_eq_true rfl⟩ ?_
  refine lv_if_eq (tgt := 44) hx hb dd_M_assign_9 (by decide) (fun hc3 => ?_) (fun hc3 => ?_)
  · have h := ip_out hc3 h
    refine lv_iconst (v := 0) hx hb dd_M_assign_44 (by decide) ?_
    obtain rfl := Option.some.inj h
    exact W.zret hx hb hr rfl (fun t ht hW => ⟨⟨_, (), rfl, rfl, by rw [ht]; exact hP, va_K.moved hW.alike hK, hD⟩, hS.F ht⟩) hS.2.2 dd_M_assign_45
  · have h := in_out hc3 h
    refine lv_aload_n hx hb dd_M_assign_12 rfl (lv_at hl 0 rfl) ?_
    refine va_get (D := D) (ci := 4) (v := .int ((ui I0 0 0 (0 : Int32)) 0 4)) (C := "OpenDealModel") (T := T_M) (N := 32) hx hb hk in_M hown hK hP 0 am_0 rfl 4 (by decide) (hk _ kw_541) (fun _ h9 => h9) rfl dd_M_assign_13 ?_
    refine lv_iconst (v := 4) hx hb dd_M_assign_16 (by decide) ?_
    refine lv_icmp_ne (tgt := 44) hx hb dd_M_assign_17 (by decide) (fun hc4 => ?_) (fun hc4 => ?_)
    · have h := in_out hc4 h
      refine lv_iconst (v := 0) hx hb dd_M_assign_44 (by decide) ?_
      obtain rfl := Option.some.inj h
      exact W.zret hx hb hr rfl (fun t ht hW => ⟨⟨_, (), rfl, rfl, by rw [ht]; exact hP, va_K.moved hW.alike hK, hD⟩, hS.F ht⟩) hS.2.2 dd_M_assign_45
    · have h := ip_out hc4 h
      refine lv_aload_n hx hb dd_M_assign_20 rfl (lv_at hl 0 rfl) ?_
      refine va_get (D := D) (ci := 4) (v := .ref (ad 18)) (C := "OpenDealModel") (T := T_M) (N := 32) hx hb hk in_M hown hK hP 0 am_0 rfl 23 (by decide) (hk _ kw_560) (fun _ h9 => h9) rfl dd_M_assign_21 ?_
      refine lv_iload_n hx hb dd_M_assign_24 rfl (lv_at hl 1 rfl) ?_
      obtain ⟨hi5, h⟩ := oi_out h
      refine va_iald hx hb hK hP 18 0 am_18 rfl hi5 dd_M_assign_25 ?_
      refine lv_bipush (v := -2) hx hb dd_M_assign_26 (by decide) ?_
      refine lv_icmp_ne (tgt := 44) hx hb dd_M_assign_28 (by decide) (fun hc6 => ?_) (fun hc6 => ?_)
      · have h := in_out hc6 h
        refine lv_iconst (v := 0) hx hb dd_M_assign_44 (by decide) ?_
        obtain rfl := Option.some.inj h
        exact W.zret hx hb hr rfl (fun t ht hW => ⟨⟨_, (), rfl, rfl, by rw [ht]; exact hP, va_K.moved hW.alike hK, hD⟩, hS.F ht⟩) hS.2.2 dd_M_assign_45
      · have h := ip_out hc6 h
        refine lv_iload_n hx hb dd_M_assign_31 rfl (lv_at hl 2 rfl) ?_
        refine lv_iconst (v := -1) hx hb dd_M_assign_32 (by decide) ?_
        refine lv_icmp_eq (tgt := 46) hx hb dd_M_assign_33 (by decide) (fun hc7 => ?_) (fun hc7 => ?_)
        · have h := ip_out hc7 h
          exact L46  _ _ _ _ _ h _ _ hP hD hS _ (lv_sub hl [0, 1, 2] rfl)
        · have h := in_out hc7 h
          refine lv_aload_n hx hb dd_M_assign_36 rfl (lv_at hl 0 rfl) ?_
          refine lv_iload_n hx hb dd_M_assign_37 rfl (lv_at hl 2 rfl) ?_
          obtain ⟨r8, hr8, h⟩ := ob_out h
          refine cr_Vi (n := 1) (As := [.int a2]) hx hb hml hown hk (mm_M_isPlayer l D kc ad _ _ _ _ _ hr8) hK hP 0 am_0 rfl rfl kw_664 kw_666 sel_M_isPlayer kw_4 kw_667 ⟨rfl, rfl⟩ (by decide +kernel) ⟨Nat.le_of_ble_eq_true rfl, Nat.le_of_ble_eq_true rfl⟩ rfl hl.1 rfl (Nat.le_of_ble_eq_true rfl) dd_M_assign_38 ⟨Nat.le_of_ble_eq_true rfl, Nat.le_of_ble_eq_true rfl⟩ ?_
          refine lv_if_ne (tgt := 46) hx hb dd_M_assign_41 (by decide) (fun hc9 => ?_) (fun hc9 => ?_)
          · have h := in_out hc9 h
            exact L46  _ _ _ _ _ h _ _ hP hD hS _ (lv_sub hl [0, 1, 2] rfl)
          · have h := ip_out hc9 h
            refine lv_iconst (v := 0) hx hb dd_M_assign_44 (by decide) ?_
            obtain rfl := Option.some.inj h
            exact W.zret hx hb hr rfl (fun t ht hW => ⟨⟨_, (), rfl, rfl, by rw [ht]; exact hP, va_K.moved hW.alike hK, hD⟩, hS.F ht⟩) hS.2.2 dd_M_assign_45
def ff_M_lockOf (n : Nat) (I : MI) (J : MJ) (a1 : Int32) (a2 : Int32) : Option (Int32 × MI × MJ) := if ¬ (a1 < 0 ∨ 4 ≤ (a1).toNatClampNeg) then (ff_M_makeLocks n I J (J 6 (a1).toNatClampNeg)).bind fun r2 => if ¬ (a2 < 0 ∨ 52 ≤ (a2).toNatClampNeg) then some (r2.1 17 (a2).toNatClampNeg, r2.1, r2.2) else none else none
set_option maxHeartbeats 4000000 in
set_option maxRecDepth 100000 in
theorem mm_M_lockOf (l : Launch) (D : va_G) (kc : Nat → ClassId) (ad : Nat → Nat) (I0 : MI) (J0 : MJ) (sz n : Nat) (a1 : Int32) (a2 : Int32) (r : Int32 × MI × MJ) (h : ff_M_lockOf n I0 J0 a1 a2 = some r) : Met l yy_M_lockOf (.code yy_M_lockOf cc_M_lockOf 3 (some .int) :: kw) { frames := 2, cells := 0, slots := 0, locals := 44 } (va_Pc [.ref (ad 0), .int a1, .int a2] (BW D kc (wM kc ad I0 J0) sz)) (va_Qi (fun z (_ : Unit) => z = r.1) (EW D kc (va_A (wM kc ad I0 J0) sz) (wM kc ad r.2.1 r.2.2)) (va_A (wM kc ad I0 J0) sz)) 0 0 (va_A (wM kc ad I0 J0) sz) := by
  refine Met.ofW (cc := cc_M_lockOf) (maxL := 3) (ret := some .int) (by decide) rfl ?_
  intro p e s m args below meth c s₁ B hml hv
  obtain ⟨rfl, hsz, hP, hK, hD0⟩ := hv
  have hx := B.exec
  have hb := B.bytes
  have hr := B.returns
  have hlocks := B.notSynchronized
  have hk : ∀ w ∈ kw, w.before _ s = true := fun w hw => atoms_spec (ws := (.code yy_M_lockOf cc_M_lockOf 3 (some .int) :: kw)) B.pre w (List.mem_cons_of_mem _ hw)
  have hown : s.vm.findClass "OpenDealModel" = some m.cls := findClass_of_methodNamed B.named
  subst hsz
  have hD := hD0.self (sz := s.heap.size)
  generalize hAe : va_A (wM kc ad I0 J0) s.heap.size = A at hD ⊢
  have hA : ∀ q : Nat, s.heap.size ≤ q → A q := fun q h => by rw [← hAe]; exact Or.inr h
  have hS : va_S A s.heap s.heap [] := va_S.rf
  have hP : va_P D cls5 (wM kc ad I0 J0) s.heap := hP
  clear hAe hD0
  have hl := lv_entry ([.ref (ad 0), .int a1, .int a2]) (n := 3) (Nat.le_of_ble_eq_true rfl)
  rw [lg_entry_eq]
  generalize (lg_sl ([.ref (ad 0), .int a1, .int a2]) ++ List.replicate (3 - (lg_sl ([.ref (ad 0), .int a1, .int a2])).length) Slot.unset).toArray = ls at hl ⊢
  have hl : lv_has ls 3 [(0, .ref (ad 0)), (1, .int a1), (2, .int a2)] := hl
  unfold ff_M_lockOf at h
  refine lv_aload_n hx hb dd_M_lockOf_0 rfl (lv_at hl 0 rfl) ?_
  refine lv_aload_n hx hb dd_M_lockOf_1 rfl (lv_at hl 0 rfl) ?_
  refine va_get (D := D) (ci := 4) (v := .ref (ad 6)) (C := "OpenDealModel") (T := T_M) (N := 32) hx hb hk in_M hown hK hP 0 am_0 rfl 10 (by decide) (hk _ kw_547) (fun _ h9 => h9) rfl dd_M_lockOf_2 ?_
  refine lv_iload_n hx hb dd_M_lockOf_5 rfl (lv_at hl 1 rfl) ?_
  obtain ⟨hi1, h⟩ := oi_out h
  refine va_lald hx hb hK hP 6 1 am_6 rfl hi1 dd_M_lockOf_6 ?_
  obtain ⟨r2, hr2, h⟩ := ob_out h
  refine cw_Vv (n := 1) (As := [.long (J0 6 (a1).toNatClampNeg)]) (mc := 0) (ms := 0) hx hb hml hown hk (mm_M_makeLocks l D kc ad _ _ _ _ _ _ hr2) hK hP hD hS hA 0 am_0 rfl rfl kw_699 kw_701 sel_M_makeLocks kw_4 kw_702 ⟨rfl, rfl⟩ (by decide +kernel) ⟨Nat.le_of_ble_eq_true rfl, Nat.le_of_ble_eq_true rfl⟩ rfl hl.1 rfl (Nat.le_of_ble_eq_true rfl) dd_M_lockOf_7 ⟨Nat.le_of_ble_eq_true rfl, Nat.le_of_ble_eq_true rfl⟩ (fun H locs hP hD hS => ?_)
  refine lv_aload_n hx hb dd_M_lockOf_10 rfl (lv_at hl 0 rfl) ?_
  refine va_get (D := D) (ci := 4) (v := .ref (ad 17)) (C := "OpenDealModel") (T := T_M) (N := 32) hx hb hk in_M hown hK hP 0 am_0 rfl 22 (by decide) (hk _ kw_559) (fun _ h9 => h9) rfl dd_M_lockOf_11 ?_
  refine lv_iload_n hx hb dd_M_lockOf_14 rfl (lv_at hl 2 rfl) ?_
  obtain ⟨hi3, h⟩ := oi_out h
  refine va_iald hx hb hK hP 17 0 am_17 rfl hi3 dd_M_lockOf_15 ?_
  obtain rfl := Option.some.inj h
  exact W.iret hx hb hr (fun t ht hW => ⟨⟨_, (), rfl, rfl, by rw [ht]; exact hP, va_K.moved hW.alike hK, hD⟩, hS.F ht⟩) hS.2.2 dd_M_lockOf_16
def ff_M_give (n : Nat) (I : MI) (J : MJ) (a1 : Int32) (a2 : Int32) : Option (Int32 × MI × MJ) := (ff_M_isPlayer n (ui I 0 0 (0 : Int32)) J a1).bind fun r1 => if r1 = 0 then (some ((0 : Int32), ui I 0 0 (0 : Int32), J)) else ((ff_M_isPlace n a2).bind fun r3 => if r3 = 0 then (some ((0 : Int32), ui I 0 0 (0 : Int32), J)) else (if ((ui I 0 0 (0 : Int32)) 0 4) = (4 : Int32) then (if ¬ (a2 < 0 ∨ 52 ≤ (a2).toNatClampNeg) then if ((ui I 0 0 (0 : Int32)) 18 (a2).toNatClampNeg) = (-2 : Int32) then (some ((0 : Int32), ui I 0 0 (0 : Int32), J)) else (if ¬ (a2 < 0 ∨ 52 ≤ (a2).toNatClampNeg) then if ((ui I 0 0 (0 : Int32)) 18 (a2).toNatClampNeg) = a1 then (some ((0 : Int32), ui I 0 0 (0 : Int32), J)) else (if ¬ ((((52 : Int32) * a1) + a2) < 0 ∨ 208 ≤ (((52 : Int32) * a1) + a2).toNatClampNeg) then if ((ui I 0 0 (0 : Int32)) 19 (((52 : Int32) * a1) + a2).toNatClampNeg) = 0 then ((ff_M_lockOf n (ui I 0 0 (0 : Int32)) J a1 a2).bind fun r12 => if ¬ (a1 < 0 ∨ 4 ≤ (a1).toNatClampNeg) then if (lg_cmp (((r12.2.2 12 (a1).toNatClampNeg) >>> (Int32.toInt64 a2 &&& 63)) &&& (1 : Int64)) (1 : Int64)) = 0 then ((ff_M_leastAbove n r12.2.1 r12.2.2 r12.1).bind fun r16 => if ¬ ((((52 : Int32) * a1) + a2) < 0 ∨ 208 ≤ (((52 : Int32) * a1) + a2).toNatClampNeg) then some ((1 : Int32), ui r12.2.1 19 (((52 : Int32) * a1) + a2).toNatClampNeg r16, r12.2.2) else none) else (if ¬ ((((52 : Int32) * a1) + a2) < 0 ∨ 208 ≤ (((52 : Int32) * a1) + a2).toNatClampNeg) then some ((1 : Int32), ui r12.2.1 19 (((52 : Int32) * a1) + a2).toNatClampNeg r12.1, r12.2.2) else none) else none) else (some ((0 : Int32), ui I 0 0 (0 : Int32), J)) else none) else none) else none) else (some ((0 : Int32), ui I 0 0 (0 : Int32), J))))
set_option maxHeartbeats 4000000 in
set_option maxRecDepth 100000 in
theorem mm_M_give (l : Launch) (D : va_G) (kc : Nat → ClassId) (ad : Nat → Nat) (I0 : MI) (J0 : MJ) (sz n : Nat) (a1 : Int32) (a2 : Int32) (r : Int32 × MI × MJ) (h : ff_M_give n I0 J0 a1 a2 = some r) : Met l yy_M_give (.code yy_M_give cc_M_give 4 (some .boolean) :: kw) { frames := 3, cells := 0, slots := 0, locals := 66 } (va_Pc [.ref (ad 0), .int a1, .int a2] (BW D kc (wM kc ad I0 J0) sz)) (va_Qi (fun z (_ : Unit) => z = r.1) (EW D kc (va_A (wM kc ad I0 J0) sz) (wM kc ad r.2.1 r.2.2)) (va_A (wM kc ad I0 J0) sz)) 0 0 (va_A (wM kc ad I0 J0) sz) := by
  refine Met.ofW (cc := cc_M_give) (maxL := 4) (ret := some .boolean) (by decide) rfl ?_
  intro p e s m args below meth c s₁ B hml hv
  obtain ⟨rfl, hsz, hP, hK, hD0⟩ := hv
  have hx := B.exec
  have hb := B.bytes
  have hr := B.returns
  have hlocks := B.notSynchronized
  have hk : ∀ w ∈ kw, w.before _ s = true := fun w hw => atoms_spec (ws := (.code yy_M_give cc_M_give 4 (some .boolean) :: kw)) B.pre w (List.mem_cons_of_mem _ hw)
  have hown : s.vm.findClass "OpenDealModel" = some m.cls := findClass_of_methodNamed B.named
  subst hsz
  have hD := hD0.self (sz := s.heap.size)
  generalize hAe : va_A (wM kc ad I0 J0) s.heap.size = A at hD ⊢
  have hA : ∀ q : Nat, s.heap.size ≤ q → A q := fun q h => by rw [← hAe]; exact Or.inr h
  have hS : va_S A s.heap s.heap [] := va_S.rf
  have hP : va_P D cls5 (wM kc ad I0 J0) s.heap := hP
  clear hAe hD0
  have hl := lv_entry ([.ref (ad 0), .int a1, .int a2]) (n := 4) (Nat.le_of_ble_eq_true rfl)
  rw [lg_entry_eq]
  generalize (lg_sl ([.ref (ad 0), .int a1, .int a2]) ++ List.replicate (4 - (lg_sl ([.ref (ad 0), .int a1, .int a2])).length) Slot.unset).toArray = ls at hl ⊢
  have hl : lv_has ls 4 [(0, .ref (ad 0)), (1, .int a1), (2, .int a2)] := hl
  unfold ff_M_give at h
  refine lv_aload_n hx hb dd_M_give_0 rfl (lv_at hl 0 rfl) ?_
  refine lv_iconst (v := 0) hx hb dd_M_give_1 (by decide) ?_
  refine va_put (D := D) (ci := 4) (v := .int (0 : Int32)) (ty := .int) (C := "OpenDealModel") (T := T_M) (N := 32) hx hb hk in_M ty_M tk_M nm_M hown hK hP hD hS 0 am_0 rfl 0 (by decide) (hk _ kw_537) (fun _ h9 => h9) rfl (by decide +kernel) rfl rfl (Nat.le_of_ble_eq_true rfl) dd_M_give_2 (fun H locs hP hD hS => ?_)
  rw [pt_M0] at hP hD
  refine lv_aload_n hx hb dd_M_give_5 rfl (lv_at hl 0 rfl) ?_
  refine lv_iload_n hx hb dd_M_give_6 rfl (lv_at hl 1 rfl) ?_
  obtain ⟨r1, hr1, h⟩ := ob_out h
  refine cr_Vi (n := 1) (As := [.int a1]) hx hb hml hown hk (mm_M_isPlayer l D kc ad _ _ _ _ _ hr1) hK hP 0 am_0 rfl rfl kw_664 kw_666 sel_M_isPlayer kw_4 kw_667 ⟨rfl, rfl⟩ (by decide +kernel) ⟨Nat.le_of_ble_eq_true rfl, Nat.le_of_ble_eq_true rfl⟩ rfl hl.1 rfl (Nat.le_of_ble_eq_true rfl) dd_M_give_7 ⟨Nat.le_of_ble_eq_true rfl, Nat.le_of_ble_eq_true rfl⟩ ?_
  refine lv_if_eq (tgt := 63) hx hb dd_M_give_10 (by decide) (fun hc2 => ?_) (fun hc2 => ?_)
  · have h := ip_out hc2 h
    refine lv_iconst (v := 0) hx hb dd_M_give_63 (by decide) ?_
    obtain rfl := Option.some.inj h
    exact W.zret hx hb hr rfl (fun t ht hW => ⟨⟨_, (), rfl, rfl, by rw [ht]; exact hP, va_K.moved hW.alike hK, hD⟩, hS.F ht⟩) hS.2.2 dd_M_give_64
  · have h := in_out hc2 h
    refine lv_iload_n hx hb dd_M_give_13 rfl (lv_at hl 2 rfl) ?_
    obtain ⟨r3, hr3, h⟩ := ob_out h
    refine ro_Si (n := 1) (As := [.int a2]) hx hb hml hown hk (mm_M_isPlace l _ _ _ hr3) (fun U _ _ => trivial) (fun _ _ _ _ _ => trivial) kw_726 kw_727 kw_4 kw_728 ⟨rfl, rfl⟩ (by decide +kernel) ⟨Nat.le_of_ble_eq_true rfl, Nat.le_of_ble_eq_true rfl⟩ rfl hl.1 rfl (Nat.le_of_ble_eq_true rfl) dd_M_give_14 ⟨Nat.le_of_ble_eq_true rfl, Nat.le_of_ble_eq_true rfl⟩ ?_
    refine lv_if_eq (tgt := 63) hx hb dd_M_give_17 (by decide) (fun hc4 => ?_) (fun hc4 => ?_)
    · have h := ip_out hc4 h
      refine lv_iconst (v := 0) hx hb dd_M_give_63 (by decide) ?_
      obtain rfl := Option.some.inj h
      exact W.zret hx hb hr rfl (fun t ht hW => ⟨⟨_, (), rfl, rfl, by rw [ht]; exact hP, va_K.moved hW.alike hK, hD⟩, hS.F ht⟩) hS.2.2 dd_M_give_64
    · have h := in_out hc4 h
      refine lv_aload_n hx hb dd_M_give_20 rfl (lv_at hl 0 rfl) ?_
      refine va_get (D := D) (ci := 4) (v := .int ((ui I0 0 0 (0 : Int32)) 0 4)) (C := "OpenDealModel") (T := T_M) (N := 32) hx hb hk in_M hown hK hP 0 am_0 rfl 4 (by decide) (hk _ kw_541) (fun _ h9 => h9) rfl dd_M_give_21 ?_
      refine lv_iconst (v := 4) hx hb dd_M_give_24 (by decide) ?_
      refine lv_icmp_ne (tgt := 63) hx hb dd_M_give_25 (by decide) (fun hc5 => ?_) (fun hc5 => ?_)
      · have h := in_out hc5 h
        refine lv_iconst (v := 0) hx hb dd_M_give_63 (by decide) ?_
        obtain rfl := Option.some.inj h
        exact W.zret hx hb hr rfl (fun t ht hW => ⟨⟨_, (), rfl, rfl, by rw [ht]; exact hP, va_K.moved hW.alike hK, hD⟩, hS.F ht⟩) hS.2.2 dd_M_give_64
      · have h := ip_out hc5 h
        refine lv_aload_n hx hb dd_M_give_28 rfl (lv_at hl 0 rfl) ?_
        refine va_get (D := D) (ci := 4) (v := .ref (ad 18)) (C := "OpenDealModel") (T := T_M) (N := 32) hx hb hk in_M hown hK hP 0 am_0 rfl 23 (by decide) (hk _ kw_560) (fun _ h9 => h9) rfl dd_M_give_29 ?_
        refine lv_iload_n hx hb dd_M_give_32 rfl (lv_at hl 2 rfl) ?_
        obtain ⟨hi6, h⟩ := oi_out h
        refine va_iald hx hb hK hP 18 0 am_18 rfl hi6 dd_M_give_33 ?_
        refine lv_bipush (v := -2) hx hb dd_M_give_34 (by decide) ?_
        refine lv_icmp_eq (tgt := 63) hx hb dd_M_give_36 (by decide) (fun hc7 => ?_) (fun hc7 => ?_)
        · have h := ip_out hc7 h
          refine lv_iconst (v := 0) hx hb dd_M_give_63 (by decide) ?_
          obtain rfl := Option.some.inj h
          exact W.zret hx hb hr rfl (fun t ht hW => ⟨⟨_, (), rfl, rfl, by rw [ht]; exact hP, va_K.moved hW.alike hK, hD⟩, hS.F ht⟩) hS.2.2 dd_M_give_64
        · have h := in_out hc7 h
          refine lv_aload_n hx hb dd_M_give_39 rfl (lv_at hl 0 rfl) ?_
          refine va_get (D := D) (ci := 4) (v := .ref (ad 18)) (C := "OpenDealModel") (T := T_M) (N := 32) hx hb hk in_M hown hK hP 0 am_0 rfl 23 (by decide) (hk _ kw_560) (fun _ h9 => h9) rfl dd_M_give_40 ?_
          refine lv_iload_n hx hb dd_M_give_43 rfl (lv_at hl 2 rfl) ?_
          obtain ⟨hi8, h⟩ := oi_out h
          refine va_iald hx hb hK hP 18 0 am_18 rfl hi8 dd_M_give_44 ?_
          refine lv_iload_n hx hb dd_M_give_45 rfl (lv_at hl 1 rfl) ?_
          refine lv_icmp_eq (tgt := 63) hx hb dd_M_give_46 (by decide) (fun hc9 => ?_) (fun hc9 => ?_)
          · have h := ip_out hc9 h
            refine lv_iconst (v := 0) hx hb dd_M_give_63 (by decide) ?_
            obtain rfl := Option.some.inj h
            exact W.zret hx hb hr rfl (fun t ht hW => ⟨⟨_, (), rfl, rfl, by rw [ht]; exact hP, va_K.moved hW.alike hK, hD⟩, hS.F ht⟩) hS.2.2 dd_M_give_64
          · have h := in_out hc9 h
            refine lv_aload_n hx hb dd_M_give_49 rfl (lv_at hl 0 rfl) ?_
            refine va_get (D := D) (ci := 4) (v := .ref (ad 19)) (C := "OpenDealModel") (T := T_M) (N := 32) hx hb hk in_M hown hK hP 0 am_0 rfl 24 (by decide) (hk _ kw_561) (fun _ h9 => h9) rfl dd_M_give_50 ?_
            refine lv_bipush (v := 52) hx hb dd_M_give_53 (by decide) ?_
            refine lv_iload_n hx hb dd_M_give_55 rfl (lv_at hl 1 rfl) ?_
            refine lv_imul hx hb dd_M_give_56 ?_
            refine lv_iload_n hx hb dd_M_give_57 rfl (lv_at hl 2 rfl) ?_
            refine lv_iadd hx hb dd_M_give_58 ?_
            obtain ⟨hi10, h⟩ := oi_out h
            refine va_iald hx hb hK hP 19 0 am_19 rfl hi10 dd_M_give_59 ?_
            refine lv_if_eq (tgt := 65) hx hb dd_M_give_60 (by decide) (fun hc11 => ?_) (fun hc11 => ?_)
            · have h := ip_out hc11 h
              refine lv_aload_n hx hb dd_M_give_65 rfl (lv_at hl 0 rfl) ?_
              refine lv_iload_n hx hb dd_M_give_66 rfl (lv_at hl 1 rfl) ?_
              refine lv_iload_n hx hb dd_M_give_67 rfl (lv_at hl 2 rfl) ?_
              obtain ⟨r12, hr12, h⟩ := ob_out h
              refine cw_Vi (n := 2) (As := [.int a1, .int a2]) (mc := 0) (ms := 0) hx hb hml hown hk (mm_M_lockOf l D kc ad _ _ _ _ _ _ _ hr12) hK hP hD hS hA 0 am_0 rfl rfl kw_737 kw_739 sel_M_lockOf kw_4 kw_740 ⟨rfl, rfl⟩ (by decide +kernel) ⟨Nat.le_of_ble_eq_true rfl, Nat.le_of_ble_eq_true rfl⟩ rfl hl.1 rfl (Nat.le_of_ble_eq_true rfl) dd_M_give_68 ⟨Nat.le_of_ble_eq_true rfl, Nat.le_of_ble_eq_true rfl⟩ (fun H locs hP hD hS => ?_)
              refine lv_istore_n (lv' := [(3, .int r12.1), (0, .ref (ad 0)), (1, .int a1), (2, .int a2)]) hx hb dd_M_give_71 rfl hl (by decide) rfl (fun ls hl => ?_)
              refine lv_aload_n hx hb dd_M_give_72 rfl (lv_at hl 1 rfl) ?_
              refine va_get (D := D) (ci := 4) (v := .ref (ad 19)) (C := "OpenDealModel") (T := T_M) (N := 32) hx hb hk in_M hown hK hP 0 am_0 rfl 24 (by decide) (hk _ kw_561) (fun _ h9 => h9) rfl dd_M_give_73 ?_
              refine lv_bipush (v := 52) hx hb dd_M_give_76 (by decide) ?_
              refine lv_iload_n hx hb dd_M_give_78 rfl (lv_at hl 2 rfl) ?_
              refine lv_imul hx hb dd_M_give_79 ?_
              refine lv_iload_n hx hb dd_M_give_80 rfl (lv_at hl 3 rfl) ?_
              refine lv_iadd hx hb dd_M_give_81 ?_
              refine lv_aload_n hx hb dd_M_give_82 rfl (lv_at hl 1 rfl) ?_
              refine va_get (D := D) (ci := 4) (v := .ref (ad 12)) (C := "OpenDealModel") (T := T_M) (N := 32) hx hb hk in_M hown hK hP 0 am_0 rfl 16 (by decide) (hk _ kw_553) (fun _ h9 => h9) rfl dd_M_give_83 ?_
              refine lv_iload_n hx hb dd_M_give_86 rfl (lv_at hl 2 rfl) ?_
              obtain ⟨hi13, h⟩ := oi_out h
              refine va_lald hx hb hK hP 12 1 am_12 rfl hi13 dd_M_give_87 ?_
              refine lv_iload_n hx hb dd_M_give_88 rfl (lv_at hl 3 rfl) ?_
              refine lv_lshr hx hb dd_M_give_89 rfl ?_
              refine lv_lconst (v := 1) hx hb dd_M_give_90 (by decide) ?_
              refine lv_land hx hb dd_M_give_91 ?_
              refine lv_lconst (v := 1) hx hb dd_M_give_92 (by decide) ?_
              refine W.lcmp hx hb dd_M_give_93 ?_
              refine lv_if_ne (tgt := 105) hx hb dd_M_give_94 (by decide) (fun hc14 => ?_) (fun hc14 => ?_)
              · have h := in_out hc14 h
                refine lv_iload_n hx hb dd_M_give_105 rfl (lv_at hl 0 rfl) ?_
                obtain ⟨hi15, h⟩ := oi_out h
                refine va_iast hx hb hK hP hD hS 19 0 am_19 rfl (x := r12.1) hi15 dd_M_give_106 (fun H locs hP hD hS => ?_)
                rw [pm_19] at hP hD
                refine lv_iconst (v := 1) hx hb dd_M_give_107 (by decide) ?_
                obtain rfl := Option.some.inj h
                exact W.zret hx hb hr rfl (fun t ht hW => ⟨⟨_, (), rfl, rfl, by rw [ht]; exact hP, va_K.moved hW.alike hK, hD⟩, hS.F ht⟩) hS.2.2 dd_M_give_108
              · have h := ip_out hc14 h
                refine lv_aload_n hx hb dd_M_give_97 rfl (lv_at hl 1 rfl) ?_
                refine lv_iload_n hx hb dd_M_give_98 rfl (lv_at hl 0 rfl) ?_
                obtain ⟨r16, hr16, h⟩ := ob_out h
                refine cr_Vi (n := 1) (As := [.int r12.1]) hx hb hml hown hk (mm_M_leastAbove l D kc ad _ _ _ _ _ hr16) hK hP 0 am_0 rfl rfl kw_741 kw_743 sel_M_leastAbove kw_4 kw_744 ⟨rfl, rfl⟩ (by decide +kernel) ⟨Nat.le_of_ble_eq_true rfl, Nat.le_of_ble_eq_true rfl⟩ rfl hl.1 rfl (Nat.le_of_ble_eq_true rfl) dd_M_give_99 ⟨Nat.le_of_ble_eq_true rfl, Nat.le_of_ble_eq_true rfl⟩ ?_
                refine lv_goto (tgt := 106) hx hb dd_M_give_102 (by decide) ?_
                obtain ⟨hi17, h⟩ := oi_out h
                refine va_iast hx hb hK hP hD hS 19 0 am_19 rfl (x := r16) hi17 dd_M_give_106 (fun H locs hP hD hS => ?_)
                rw [pm_19] at hP hD
                refine lv_iconst (v := 1) hx hb dd_M_give_107 (by decide) ?_
                obtain rfl := Option.some.inj h
                exact W.zret hx hb hr rfl (fun t ht hW => ⟨⟨_, (), rfl, rfl, by rw [ht]; exact hP, va_K.moved hW.alike hK, hD⟩, hS.F ht⟩) hS.2.2 dd_M_give_108
            · have h := in_out hc11 h
              refine lv_iconst (v := 0) hx hb dd_M_give_63 (by decide) ?_
              obtain rfl := Option.some.inj h
              exact W.zret hx hb hr rfl (fun t ht hW => ⟨⟨_, (), rfl, rfl, by rw [ht]; exact hP, va_K.moved hW.alike hK, hD⟩, hS.F ht⟩) hS.2.2 dd_M_give_64
