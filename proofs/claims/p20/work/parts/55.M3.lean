/-! the reference, laid by program -/
def ff_M_open_159  : Nat → MI → MJ → Int32 → Int32 → Int32 → Int32 → Option (Int32 × MI × MJ)
  | 0, _, _, _, _, _, _ => none
  | n + 1, I, J, v1, v2, v3, v4 => if (52 : Int32) ≤ v4 then (some ((52 : Int32), I, J)) else (if ¬ (v4 < 0 ∨ 468 ≤ (v4).toNatClampNeg) then if (I 15 (v4).toNatClampNeg) = v3 then (some (v4, I, J)) else (ff_M_open_159 n I J v1 v2 v3 (v4 + (1 : Int32))) else none)
def ff_M_open_139 (k79 : MI → MJ → Int32 → Int32 → Int32 → Int32 → Option (Int32 × MI × MJ)) (n : Nat) (I : MI) (J : MJ) (v1 : Int32) (v2 : Int32) (v3 : Int32) (v4 : Int32) (v5 : Int32) (s0 : Int32) (s2 : Int32) : Option (Int32 × MI × MJ) := (ff_M_inverse n I J s2).bind fun r4 => (ff_M_power n s0 r4 (I 0 1)).bind fun r5 => k79 I J v1 v2 r5 (v4 + (1 : Int32))
def ff_M_open_120 (k79 : MI → MJ → Int32 → Int32 → Int32 → Int32 → Option (Int32 × MI × MJ)) (n : Nat) (I : MI) (J : MJ) (v1 : Int32) (v2 : Int32) (v3 : Int32) (v4 : Int32) (v5 : Int32) : Option (Int32 × MI × MJ) := if v5 = 0 then ((ff_M_lockOf n I J v4 v2).bind fun r7 => ff_M_open_139 k79 n r7.2.1 r7.2.2 v1 v2 v3 v4 v5 v3 r7.1) else (ff_M_open_139 k79 n I J v1 v2 v3 v4 v5 v3 v5)
def ff_M_open_79  : Nat → MI → MJ → Int32 → Int32 → Int32 → Int32 → Option (Int32 × MI × MJ)
  | 0, _, _, _, _, _, _ => none
  | n + 1, I, J, v1, v2, v3, v4 => if (I 0 3) ≤ v4 then (ff_M_open_159 n I J v1 v2 v3 (0 : Int32)) else (if ¬ ((((52 : Int32) * v4) + v2) < 0 ∨ 208 ≤ (((52 : Int32) * v4) + v2).toNatClampNeg) then tl (I 19 (((52 : Int32) * v4) + v2).toNatClampNeg) fun y10 => if y10 = 0 then (if ¬ (v2 < 0 ∨ 52 ≤ (v2).toNatClampNeg) then if (I 18 (v2).toNatClampNeg) = v4 then (ff_M_open_120 (ff_M_open_79 n) n I J v1 v2 v3 v4 y10) else (some ((-1 : Int32), I, J)) else none) else (ff_M_open_120 (ff_M_open_79 n) n I J v1 v2 v3 v4 y10) else none)
def ff_M_open_61  (n : Nat) (I : MI) (J : MJ) (v1 : Int32) (v2 : Int32) : Option (Int32 × MI × MJ) := if ¬ ((((52 : Int32) * (I 0 20)) + v2) < 0 ∨ 468 ≤ (((52 : Int32) * (I 0 20)) + v2).toNatClampNeg) then tl (I 15 (((52 : Int32) * (I 0 20)) + v2).toNatClampNeg) fun y15 => ff_M_open_79 n I J v1 v2 y15 (0 : Int32) else none
def ff_M_open (n : Nat) (I : MI) (J : MJ) (a1 : Int32) (a2 : Int32) : Option (Int32 × MI × MJ) := (ff_M_isPlayer n (ui I 0 0 (0 : Int32)) J a1).bind fun r16 => if r16 = 0 then (some ((-1 : Int32), ui I 0 0 (0 : Int32), J)) else ((ff_M_isPlace n a2).bind fun r18 => if r18 = 0 then (some ((-1 : Int32), ui I 0 0 (0 : Int32), J)) else (if ((ui I 0 0 (0 : Int32)) 0 4) < (4 : Int32) then (some ((-1 : Int32), ui I 0 0 (0 : Int32), J)) else (if ¬ (a2 < 0 ∨ 52 ≤ (a2).toNatClampNeg) then if ((ui I 0 0 (0 : Int32)) 18 (a2).toNatClampNeg) = (-2 : Int32) then (some ((-1 : Int32), ui I 0 0 (0 : Int32), J)) else (if ¬ (a2 < 0 ∨ 52 ≤ (a2).toNatClampNeg) then if ((ui I 0 0 (0 : Int32)) 18 (a2).toNatClampNeg) = (-1 : Int32) then (ff_M_open_61 n (ui I 0 0 (0 : Int32)) J a1 a2) else (if ¬ (a2 < 0 ∨ 52 ≤ (a2).toNatClampNeg) then if ((ui I 0 0 (0 : Int32)) 18 (a2).toNatClampNeg) = a1 then (ff_M_open_61 n (ui I 0 0 (0 : Int32)) J a1 a2) else (some ((-1 : Int32), ui I 0 0 (0 : Int32), J)) else none) else none) else none)))
set_option maxHeartbeats 4000000 in
set_option maxRecDepth 100000 in
theorem mm_M_open (l : Launch) (D : va_G) (kc : Nat → ClassId) (ad : Nat → Nat) (I0 : MI) (J0 : MJ) (sz n : Nat) (a1 : Int32) (a2 : Int32) (r : Int32 × MI × MJ) (h : ff_M_open n I0 J0 a1 a2 = some r) : Met l yy_M_open (.code yy_M_open cc_M_open 6 (some .int) :: kw) { frames := 3, cells := 0, slots := 0, locals := 66 } (va_Pc [.ref (ad 0), .int a1, .int a2] (BW D kc (wM kc ad I0 J0) sz)) (va_Qi (fun z (_ : Unit) => z = r.1) (EW D kc (va_A (wM kc ad I0 J0) sz) (wM kc ad r.2.1 r.2.2)) (va_A (wM kc ad I0 J0) sz)) 0 0 (va_A (wM kc ad I0 J0) sz) := by
  refine Met.ofW (cc := cc_M_open) (maxL := 6) (ret := some .int) (by decide) rfl ?_
  intro p e s m args below meth c s₁ B hml hv
  obtain ⟨rfl, hsz, hP, hK, hD0⟩ := hv
  have hx := B.exec
  have hb := B.bytes
  have hr := B.returns
  have hlocks := B.notSynchronized
  have hk : ∀ w ∈ kw, w.before _ s = true := fun w hw => atoms_spec (ws := (.code yy_M_open cc_M_open 6 (some .int) :: kw)) B.pre w (List.mem_cons_of_mem _ hw)
  have hown : s.vm.findClass "OpenDealModel" = some m.cls := findClass_of_methodNamed B.named
  subst hsz
  have hD := hD0.self (sz := s.heap.size)
  generalize hAe : va_A (wM kc ad I0 J0) s.heap.size = A at hD ⊢
  have hA : ∀ q : Nat, s.heap.size ≤ q → A q := fun q h => by rw [← hAe]; exact Or.inr h
  have hS : va_S A s.heap s.heap [] := va_S.rf
  have hP : va_P D cls5 (wM kc ad I0 J0) s.heap := hP
  clear hAe hD0
  have L159 : ∀  (n : Nat) (I : MI) (J : MJ) (v1 : Int32) (v2 : Int32) (v3 : Int32) (v4 : Int32), ff_M_open_159 n I J v1 v2 v3 v4 = some r → ∀ (H : Heap) (locs : List Loc), va_P D cls5 (wM kc ad I J) H → va_D A (wM kc ad I J) → va_S A s.heap H locs → ∀ ls, lv_has ls 6 [(0, .ref (ad 0)), (1, .int v1), (2, .int v2), (3, .int v3), (4, .int v4)] → W p l e (headSpec (.code yy_M_open cc_M_open 6 (some .int) :: kw) { frames := 3, cells := 0, slots := 0, locals := 66 }).room s m ([.ref (ad 0), .int a1, .int a2] : List Value).toArray below meth c H locs 0 0 (MQ below (va_Qi (fun z (_ : Unit) => z = r.1) (EW D kc A (wM kc ad r.2.1 r.2.2)) A) ([.ref (ad 0), .int a1, .int a2] : List Value).toArray s 0 0 A) (F0 m 159 ls []) := by
    intro  n
    induction n with
    | zero => intro I J v1 v2 v3 v4 h; exact absurd h (by simp [ff_M_open_159])
    | succ n ih =>
      intro I J v1 v2 v3 v4 h H locs hP hD hS ls hl
      rw [ff_M_open_159] at h
      refine lv_iload hx hb dd_M_open_159 (lv_at hl 4 rfl) ?_
      refine lv_bipush (v := 52) hx hb dd_M_open_161 (by decide) ?_
      refine lv_icmp_ge (tgt := 186) hx hb dd_M_open_163 (by decide) (fun hc1 => ?_) (fun hc1 => ?_)
      · have h := ip_out hc1 h
        refine lv_bipush (v := 52) hx hb dd_M_open_186 (by decide) ?_
        obtain rfl := Option.some.inj h
        exact W.iret hx hb hr (fun t ht hW => ⟨⟨_, (), rfl, rfl, by rw [ht]; exact hP, va_K.moved hW.alike hK, hD⟩, hS.F ht⟩) hS.2.2 dd_M_open_188
      · have h := in_out hc1 h
        refine lv_aload_n hx hb dd_M_open_166 rfl (lv_at hl 0 rfl) ?_
        refine va_get (D := D) (ci := 4) (v := .ref (ad 15)) (C := "OpenDealModel") (T := T_M) (N := 32) hx hb hk in_M hown hK hP 0 am_0 rfl 19 (by decide) (hk _ kw_556) (fun _ h9 => h9) rfl dd_M_open_167 ?_
        refine lv_iload hx hb dd_M_open_170 (lv_at hl 4 rfl) ?_
        obtain ⟨hi2, h⟩ := oi_out h
        refine va_iald hx hb hK hP 15 0 am_15 rfl hi2 dd_M_open_172 ?_
        refine lv_iload_n hx hb dd_M_open_173 rfl (lv_at hl 3 rfl) ?_
        refine lv_icmp_ne (tgt := 180) hx hb dd_M_open_174 (by decide) (fun hc3 => ?_) (fun hc3 => ?_)
        · have h := in_out hc3 h
          refine lv_iinc (v := v4 + (1 : Int32)) (lv' := [(4, .int (v4 + (1 : Int32))), (0, .ref (ad 0)), (1, .int v1), (2, .int v2), (3, .int v3)]) hx hb dd_M_open_180 hl (k := 4) rfl rfl (by decide) rfl (fun ls hl => ?_)
          refine lv_goto (tgt := 159) hx hb dd_M_open_183 (by decide) ?_
          exact ih _ _ _ _ _ _ h _ _ hP hD hS _ (lv_sub hl [1, 2, 3, 4, 0] rfl)
        · have h := ip_out hc3 h
          refine lv_iload hx hb dd_M_open_177 (lv_at hl 4 rfl) ?_
          obtain rfl := Option.some.inj h
          exact W.iret hx hb hr (fun t ht hW => ⟨⟨_, (), rfl, rfl, by rw [ht]; exact hP, va_K.moved hW.alike hK, hD⟩, hS.F ht⟩) hS.2.2 dd_M_open_179
  have L139 : ∀ (k79 : MI → MJ → Int32 → Int32 → Int32 → Int32 → Option (Int32 × MI × MJ)) (hk79 : ∀ (I : MI) (J : MJ) (v1 : Int32) (v2 : Int32) (v3 : Int32) (v4 : Int32), k79 I J v1 v2 v3 v4 = some r → ∀ (H : Heap) (locs : List Loc), va_P D cls5 (wM kc ad I J) H → va_D A (wM kc ad I J) → va_S A s.heap H locs → ∀ ls, lv_has ls 6 [(0, .ref (ad 0)), (1, .int v1), (2, .int v2), (3, .int v3), (4, .int v4)] → W p l e (headSpec (.code yy_M_open cc_M_open 6 (some .int) :: kw) { frames := 3, cells := 0, slots := 0, locals := 66 }).room s m ([.ref (ad 0), .int a1, .int a2] : List Value).toArray below meth c H locs 0 0 (MQ below (va_Qi (fun z (_ : Unit) => z = r.1) (EW D kc A (wM kc ad r.2.1 r.2.2)) A) ([.ref (ad 0), .int a1, .int a2] : List Value).toArray s 0 0 A) (F0 m 79 ls [])) (n : Nat) (I : MI) (J : MJ) (v1 : Int32) (v2 : Int32) (v3 : Int32) (v4 : Int32) (v5 : Int32) (s0 : Int32) (s2 : Int32), ff_M_open_139 k79 n I J v1 v2 v3 v4 v5 s0 s2 = some r → ∀ (H : Heap) (locs : List Loc), va_P D cls5 (wM kc ad I J) H → va_D A (wM kc ad I J) → va_S A s.heap H locs → ∀ ls, lv_has ls 6 [(0, .ref (ad 0)), (1, .int v1), (2, .int v2), (3, .int v3), (4, .int v4), (5, .int v5)] → W p l e (headSpec (.code yy_M_open cc_M_open 6 (some .int) :: kw) { frames := 3, cells := 0, slots := 0, locals := 66 }).room s m ([.ref (ad 0), .int a1, .int a2] : List Value).toArray below meth c H locs 0 0 (MQ below (va_Qi (fun z (_ : Unit) => z = r.1) (EW D kc A (wM kc ad r.2.1 r.2.2)) A) ([.ref (ad 0), .int a1, .int a2] : List Value).toArray s 0 0 A) (F0 m 139 ls [.int s2, .ref (ad 0), .int s0]) := by
    intro k79 hk79 n I J v1 v2 v3 v4 v5 s0 s2 h H locs hP hD hS ls hl
    unfold ff_M_open_139 at h
    obtain ⟨r4, hr4, h⟩ := ob_out h
    refine cr_Vi (n := 1) (As := [.int s2]) hx hb hml hown hk (mm_M_inverse l D kc ad _ _ _ _ _ hr4) hK hP 0 am_0 rfl rfl kw_714 kw_716 sel_M_inverse kw_4 kw_717 ⟨rfl, rfl⟩ (by decide +kernel) ⟨Nat.le_of_ble_eq_true rfl, Nat.le_of_ble_eq_true rfl⟩ rfl hl.1 rfl (Nat.le_of_ble_eq_true rfl) dd_M_open_139 ⟨Nat.le_of_ble_eq_true rfl, Nat.le_of_ble_eq_true rfl⟩ ?_
    refine lv_aload_n hx hb dd_M_open_142 rfl (lv_at hl 0 rfl) ?_
    refine va_get (D := D) (ci := 4) (v := .int (I 0 1)) (C := "OpenDealModel") (T := T_M) (N := 32) hx hb hk in_M hown hK hP 0 am_0 rfl 1 (by decide) (hk _ kw_538) (fun _ h9 => h9) rfl dd_M_open_143 ?_
    obtain ⟨r5, hr5, h⟩ := ob_out h
    refine ro_Si (n := 3) (As := [.int s0, .int r4, .int (I 0 1)]) hx hb hml hown hk (mm_M_power l _ _ _ _ _ hr5) (fun U _ _ => trivial) (fun _ _ _ _ _ => trivial) kw_707 kw_708 kw_4 kw_709 ⟨rfl, rfl⟩ (by decide +kernel) ⟨Nat.le_of_ble_eq_true rfl, Nat.le_of_ble_eq_true rfl⟩ rfl hl.1 rfl (Nat.le_of_ble_eq_true rfl) dd_M_open_146 ⟨Nat.le_of_ble_eq_true rfl, Nat.le_of_ble_eq_true rfl⟩ ?_
    refine lv_istore_n (lv' := [(3, .int r5), (0, .ref (ad 0)), (1, .int v1), (2, .int v2), (4, .int v4), (5, .int v5)]) hx hb dd_M_open_149 rfl hl (by decide) rfl (fun ls hl => ?_)
    refine lv_iinc (v := v4 + (1 : Int32)) (lv' := [(4, .int (v4 + (1 : Int32))), (3, .int r5), (0, .ref (ad 0)), (1, .int v1), (2, .int v2), (5, .int v5)]) hx hb dd_M_open_150 hl (k := 4) rfl rfl (by decide) rfl (fun ls hl => ?_)
    refine lv_goto (tgt := 79) hx hb dd_M_open_153 (by decide) ?_
    exact hk79 _ _ _ _ _ _ h _ _ hP hD hS _ (lv_sub hl [2, 3, 4, 1, 0] rfl)
  have L120 : ∀ (k79 : MI → MJ → Int32 → Int32 → Int32 → Int32 → Option (Int32 × MI × MJ)) (hk79 : ∀ (I : MI) (J : MJ) (v1 : Int32) (v2 : Int32) (v3 : Int32) (v4 : Int32), k79 I J v1 v2 v3 v4 = some r → ∀ (H : Heap) (locs : List Loc), va_P D cls5 (wM kc ad I J) H → va_D A (wM kc ad I J) → va_S A s.heap H locs → ∀ ls, lv_has ls 6 [(0, .ref (ad 0)), (1, .int v1), (2, .int v2), (3, .int v3), (4, .int v4)] → W p l e (headSpec (.code yy_M_open cc_M_open 6 (some .int) :: kw) { frames := 3, cells := 0, slots := 0, locals := 66 }).room s m ([.ref (ad 0), .int a1, .int a2] : List Value).toArray below meth c H locs 0 0 (MQ below (va_Qi (fun z (_ : Unit) => z = r.1) (EW D kc A (wM kc ad r.2.1 r.2.2)) A) ([.ref (ad 0), .int a1, .int a2] : List Value).toArray s 0 0 A) (F0 m 79 ls [])) (n : Nat) (I : MI) (J : MJ) (v1 : Int32) (v2 : Int32) (v3 : Int32) (v4 : Int32) (v5 : Int32), ff_M_open_120 k79 n I J v1 v2 v3 v4 v5 = some r → ∀ (H : Heap) (locs : List Loc), va_P D cls5 (wM kc ad I J) H → va_D A (wM kc ad I J) → va_S A s.heap H locs → ∀ ls, lv_has ls 6 [(0, .ref (ad 0)), (1, .int v1), (2, .int v2), (3, .int v3), (4, .int v4), (5, .int v5)] → W p l e (headSpec (.code yy_M_open cc_M_open 6 (some .int) :: kw) { frames := 3, cells := 0, slots := 0, locals := 66 }).room s m ([.ref (ad 0), .int a1, .int a2] : List Value).toArray below meth c H locs 0 0 (MQ below (va_Qi (fun z (_ : Unit) => z = r.1) (EW D kc A (wM kc ad r.2.1 r.2.2)) A) ([.ref (ad 0), .int a1, .int a2] : List Value).toArray s 0 0 A) (F0 m 120 ls []) := by
    intro k79 hk79 n I J v1 v2 v3 v4 v5 h H locs hP hD hS ls hl
    unfold ff_M_open_120 at h
    refine lv_iload_n hx hb dd_M_open_120 rfl (lv_at hl 3 rfl) ?_
    refine lv_aload_n hx hb dd_M_open_121 rfl (lv_at hl 0 rfl) ?_
    refine lv_iload hx hb dd_M_open_122 (lv_at hl 5 rfl) ?_
    refine lv_if_ne (tgt := 137) hx hb dd_M_open_124 (by decide) (fun hc6 => ?_) (fun hc6 => ?_)
    · have h := in_out hc6 h
      refine lv_iload hx hb dd_M_open_137 (lv_at hl 5 rfl) ?_
      exact L139 _ hk79 _ _ _ _ _ _ _ _ _ _ h _ _ hP hD hS _ (lv_sub hl [0, 1, 2, 3, 4, 5] rfl)
    · have h := ip_out hc6 h
      refine lv_aload_n hx hb dd_M_open_127 rfl (lv_at hl 0 rfl) ?_
      refine lv_iload hx hb dd_M_open_128 (lv_at hl 4 rfl) ?_
      refine lv_iload_n hx hb dd_M_open_130 rfl (lv_at hl 2 rfl) ?_
      obtain ⟨r7, hr7, h⟩ := ob_out h
      refine cw_Vi (n := 2) (As := [.int v4, .int v2]) (mc := 0) (ms := 0) hx hb hml hown hk (mm_M_lockOf l D kc ad _ _ _ _ _ _ _ hr7) hK hP hD hS hA 0 am_0 rfl rfl kw_737 kw_739 sel_M_lockOf kw_4 kw_740 ⟨rfl, rfl⟩ (by decide +kernel) ⟨Nat.le_of_ble_eq_true rfl, Nat.le_of_ble_eq_true rfl⟩ rfl hl.1 rfl (Nat.le_of_ble_eq_true rfl) dd_M_open_131 ⟨Nat.le_of_ble_eq_true rfl, Nat.le_of_ble_eq_true rfl⟩ (fun H locs hP hD hS => ?_)
      refine lv_goto (tgt := 139) hx hb dd_M_open_134 (by decide) ?_
      exact L139 _ hk79 _ _ _ _ _ _ _ _ _ _ h _ _ hP hD hS _ (lv_sub hl [0, 1, 2, 3, 4, 5] rfl)
  have L79 : ∀  (n : Nat) (I : MI) (J : MJ) (v1 : Int32) (v2 : Int32) (v3 : Int32) (v4 : Int32), ff_M_open_79 n I J v1 v2 v3 v4 = some r → ∀ (H : Heap) (locs : List Loc), va_P D cls5 (wM kc ad I J) H → va_D A (wM kc ad I J) → va_S A s.heap H locs → ∀ ls, lv_has ls 6 [(0, .ref (ad 0)), (1, .int v1), (2, .int v2), (3, .int v3), (4, .int v4)] → W p l e (headSpec (.code yy_M_open cc_M_open 6 (some .int) :: kw) { frames := 3, cells := 0, slots := 0, locals := 66 }).room s m ([.ref (ad 0), .int a1, .int a2] : List Value).toArray below meth c H locs 0 0 (MQ below (va_Qi (fun z (_ : Unit) => z = r.1) (EW D kc A (wM kc ad r.2.1 r.2.2)) A) ([.ref (ad 0), .int a1, .int a2] : List Value).toArray s 0 0 A) (F0 m 79 ls []) := by
    intro  n
    induction n with
    | zero => intro I J v1 v2 v3 v4 h; exact absurd h (by simp [ff_M_open_79])
    | succ n ih =>
      intro I J v1 v2 v3 v4 h H locs hP hD hS ls hl
      rw [ff_M_open_79] at h
      refine lv_iload hx hb dd_M_open_79 (lv_at hl 4 rfl) ?_
      refine lv_aload_n hx hb dd_M_open_81 rfl (lv_at hl 0 rfl) ?_
      refine va_get (D := D) (ci := 4) (v := .int (I 0 3)) (C := "OpenDealModel") (T := T_M) (N := 32) hx hb hk in_M hown hK hP 0 am_0 rfl 3 (by decide) (hk _ kw_540) (fun _ h9 => h9) rfl dd_M_open_82 ?_
      refine lv_icmp_ge (tgt := 156) hx hb dd_M_open_85 (by decide) (fun hc8 => ?_) (fun hc8 => ?_)
      · have h := ip_out hc8 h
        refine lv_iconst (v := 0) hx hb dd_M_open_156 (by decide) ?_
        refine lv_istore (lv' := [(4, .int (0 : Int32)), (0, .ref (ad 0)), (1, .int v1), (2, .int v2), (3, .int v3)]) hx hb dd_M_open_157 hl (by decide) rfl (fun ls hl => ?_)
        exact L159  _ _ _ _ _ _ _ h _ _ hP hD hS _ (lv_sub hl [1, 2, 3, 4, 0] rfl)
      · have h := in_out hc8 h
        refine lv_aload_n hx hb dd_M_open_88 rfl (lv_at hl 0 rfl) ?_
        refine va_get (D := D) (ci := 4) (v := .ref (ad 19)) (C := "OpenDealModel") (T := T_M) (N := 32) hx hb hk in_M hown hK hP 0 am_0 rfl 24 (by decide) (hk _ kw_561) (fun _ h9 => h9) rfl dd_M_open_89 ?_
        refine lv_bipush (v := 52) hx hb dd_M_open_92 (by decide) ?_
        refine lv_iload hx hb dd_M_open_94 (lv_at hl 4 rfl) ?_
        refine lv_imul hx hb dd_M_open_96 ?_
        refine lv_iload_n hx hb dd_M_open_97 rfl (lv_at hl 2 rfl) ?_
        refine lv_iadd hx hb dd_M_open_98 ?_
        obtain ⟨hi9, h⟩ := oi_out h
        refine va_iald hx hb hK hP 19 0 am_19 rfl hi9 dd_M_open_99 ?_
        refine lv_topi (fun y10 ey10 => ?_)
        have h := tl_at ey10 h
        refine lv_istore (lv' := [(5, .int y10), (0, .ref (ad 0)), (1, .int v1), (2, .int v2), (3, .int v3), (4, .int v4)]) hx hb dd_M_open_100 hl (by decide) rfl (fun ls hl => ?_)
        refine lv_iload hx hb dd_M_open_102 (lv_at hl 0 rfl) ?_
        refine lv_if_ne (tgt := 120) hx hb dd_M_open_104 (by decide) (fun hc11 => ?_) (fun hc11 => ?_)
        · have h := in_out hc11 h
          exact L120 _ ih _ _ _ _ _ _ _ _ h _ _ hP hD hS _ (lv_sub hl [1, 2, 3, 4, 5, 0] rfl)
        · have h := ip_out hc11 h
          refine lv_aload_n hx hb dd_M_open_107 rfl (lv_at hl 1 rfl) ?_
          refine va_get (D := D) (ci := 4) (v := .ref (ad 18)) (C := "OpenDealModel") (T := T_M) (N := 32) hx hb hk in_M hown hK hP 0 am_0 rfl 23 (by decide) (hk _ kw_560) (fun _ h9 => h9) rfl dd_M_open_108 ?_
          refine lv_iload_n hx hb dd_M_open_111 rfl (lv_at hl 3 rfl) ?_
          obtain ⟨hi12, h⟩ := oi_out h
          refine va_iald hx hb hK hP 18 0 am_18 rfl hi12 dd_M_open_112 ?_
          refine lv_iload hx hb dd_M_open_113 (lv_at hl 5 rfl) ?_
          refine lv_icmp_eq (tgt := 120) hx hb dd_M_open_115 (by decide) (fun hc13 => ?_) (fun hc13 => ?_)
          · have h := ip_out hc13 h
            exact L120 _ ih _ _ _ _ _ _ _ _ h _ _ hP hD hS _ (lv_sub hl [1, 2, 3, 4, 5, 0] rfl)
          · have h := in_out hc13 h
            refine lv_iconst (v := -1) hx hb dd_M_open_118 (by decide) ?_
            obtain rfl := Option.some.inj h
            exact W.iret hx hb hr (fun t ht hW => ⟨⟨_, (), rfl, rfl, by rw [ht]; exact hP, va_K.moved hW.alike hK, hD⟩, hS.F ht⟩) hS.2.2 dd_M_open_119
  have L61 : ∀  (n : Nat) (I : MI) (J : MJ) (v1 : Int32) (v2 : Int32), ff_M_open_61 n I J v1 v2 = some r → ∀ (H : Heap) (locs : List Loc), va_P D cls5 (wM kc ad I J) H → va_D A (wM kc ad I J) → va_S A s.heap H locs → ∀ ls, lv_has ls 6 [(0, .ref (ad 0)), (1, .int v1), (2, .int v2)] → W p l e (headSpec (.code yy_M_open cc_M_open 6 (some .int) :: kw) { frames := 3, cells := 0, slots := 0, locals := 66 }).room s m ([.ref (ad 0), .int a1, .int a2] : List Value).toArray below meth c H locs 0 0 (MQ below (va_Qi (fun z (_ : Unit) => z = r.1) (EW D kc A (wM kc ad r.2.1 r.2.2)) A) ([.ref (ad 0), .int a1, .int a2] : List Value).toArray s 0 0 A) (F0 m 61 ls []) := by
    intro  n I J v1 v2 h H locs hP hD hS ls hl
    unfold ff_M_open_61 at h
    refine lv_aload_n hx hb dd_M_open_61 rfl (lv_at hl 0 rfl) ?_
    refine va_get (D := D) (ci := 4) (v := .ref (ad 15)) (C := "OpenDealModel") (T := T_M) (N := 32) hx hb hk in_M hown hK hP 0 am_0 rfl 19 (by decide) (hk _ kw_556) (fun _ h9 => h9) rfl dd_M_open_62 ?_
    refine lv_bipush (v := 52) hx hb dd_M_open_65 (by decide) ?_
    refine lv_aload_n hx hb dd_M_open_67 rfl (lv_at hl 0 rfl) ?_
    refine va_get (D := D) (ci := 4) (v := .int (I 0 20)) (C := "OpenDealModel") (T := T_M) (N := 32) hx hb hk in_M hown hK hP 0 am_0 rfl 20 (by decide) (hk _ kw_557) (fun _ h9 => h9) rfl dd_M_open_68 ?_
    refine lv_imul hx hb dd_M_open_71 ?_
    refine lv_iload_n hx hb dd_M_open_72 rfl (lv_at hl 2 rfl) ?_
    refine lv_iadd hx hb dd_M_open_73 ?_
    obtain ⟨hi14, h⟩ := oi_out h
    refine va_iald hx hb hK hP 15 0 am_15 rfl hi14 dd_M_open_74 ?_
    refine lv_topi (fun y15 ey15 => ?_)
    have h := tl_at ey15 h
    refine lv_istore_n (lv' := [(3, .int y15), (0, .ref (ad 0)), (1, .int v1), (2, .int v2)]) hx hb dd_M_open_75 rfl hl (by decide) rfl (fun ls hl => ?_)
    refine lv_iconst (v := 0) hx hb dd_M_open_76 (by decide) ?_
    refine lv_istore (lv' := [(4, .int (0 : Int32)), (3, .int y15), (0, .ref (ad 0)), (1, .int v1), (2, .int v2)]) hx hb dd_M_open_77 hl (by decide) rfl (fun ls hl => ?_)
    exact L79  _ _ _ _ _ _ _ h _ _ hP hD hS _ (lv_sub hl [2, 3, 4, 1, 0] rfl)
  have hl := lv_entry ([.ref (ad 0), .int a1, .int a2]) (n := 6) (Nat.le_of_ble_eq_true rfl)
  rw [lg_entry_eq]
  generalize (lg_sl ([.ref (ad 0), .int a1, .int a2]) ++ List.replicate (6 - (lg_sl ([.ref (ad 0), .int a1, .int a2])).length) Slot.unset).toArray = ls at hl ⊢
  have hl : lv_has ls 6 [(0, .ref (ad 0)), (1, .int a1), (2, .int a2)] := hl
  unfold ff_M_open at h
  refine lv_aload_n hx hb dd_M_open_0 rfl (lv_at hl 0 rfl) ?_
  refine lv_iconst (v := 0) hx hb dd_M_open_1 (by decide) ?_
  refine va_put (D := D) (ci := 4) (v := .int (0 : Int32)) (ty := .int) (C := "OpenDealModel") (T := T_M) (N := 32) hx hb hk in_M ty_M tk_M nm_M hown hK hP hD hS 0 am_0 rfl 0 (by decide) (hk _ kw_537) (fun _ h9 => h9) rfl (by decide +kernel) rfl rfl (Nat.le_of_ble_eq_true rfl) dd_M_open_2 (fun H locs hP hD hS => ?_)
  rw [pt_M0] at hP hD
  refine lv_aload_n hx hb dd_M_open_5 rfl (lv_at hl 0 rfl) ?_
  refine lv_iload_n hx hb dd_M_open_6 rfl (lv_at hl 1 rfl) ?_
  obtain ⟨r16, hr16, h⟩ := ob_out h
  refine cr_Vi (n := 1) (As := [.int a1]) hx hb hml hown hk (mm_M_isPlayer l D kc ad _ _ _ _ _ hr16) hK hP 0 am_0 rfl rfl kw_664 kw_666 sel_M_isPlayer kw_4 kw_667 ⟨rfl, rfl⟩ (by decide +kernel) ⟨Nat.le_of_ble_eq_true rfl, Nat.le_of_ble_eq_true rfl⟩ rfl hl.1 rfl (Nat.le_of_ble_eq_true rfl) dd_M_open_7 ⟨Nat.le_of_ble_eq_true rfl, Nat.le_of_ble_eq_true rfl⟩ ?_
  refine lv_if_eq (tgt := 59) hx hb dd_M_open_10 (by decide) (fun hc17 => ?_) (fun hc17 => ?_)
  · have h := ip_out hc17 h
    refine lv_iconst (v := -1) hx hb dd_M_open_59 (by decide) ?_
    obtain rfl := Option.some.inj h
    exact W.iret hx hb hr (fun t ht hW => ⟨⟨_, (), rfl, rfl, by rw [ht]; exact hP, va_K.moved hW.alike hK, hD⟩, hS.F ht⟩) hS.2.2 dd_M_open_60
  · have h := in_out hc17 h
    refine lv_iload_n hx hb dd_M_open_13 rfl (lv_at hl 2 rfl) ?_
    obtain ⟨r18, hr18, h⟩ := ob_out h
    refine ro_Si (n := 1) (As := [.int a2]) hx hb hml hown hk (mm_M_isPlace l _ _ _ hr18) (fun U _ _ => trivial) (fun _ _ _ _ _ => trivial) kw_726 kw_727 kw_4 kw_728 ⟨rfl, rfl⟩ (by decide +kernel) ⟨Nat.le_of_ble_eq_true rfl, Nat.le_of_ble_eq_true rfl⟩ rfl hl.1 rfl (Nat.le_of_ble_eq_true rfl) dd_M_open_14 ⟨Nat.le_of_ble_eq_true rfl, Nat.le_of_ble_eq_true rfl⟩ ?_
    refine lv_if_eq (tgt := 59) hx hb dd_M_open_17 (by decide) (fun hc19 => ?_) (fun hc19 => ?_)
    · have h := ip_out hc19 h
      refine lv_iconst (v := -1) hx hb dd_M_open_59 (by decide) ?_
      obtain rfl := Option.some.inj h
      exact W.iret hx hb hr (fun t ht hW => ⟨⟨_, (), rfl, rfl, by rw [ht]; exact hP, va_K.moved hW.alike hK, hD⟩, hS.F ht⟩) hS.2.2 dd_M_open_60
    · have h := in_out hc19 h
      refine lv_aload_n hx hb dd_M_open_20 rfl (lv_at hl 0 rfl) ?_
      refine va_get (D := D) (ci := 4) (v := .int ((ui I0 0 0 (0 : Int32)) 0 4)) (C := "OpenDealModel") (T := T_M) (N := 32) hx hb hk in_M hown hK hP 0 am_0 rfl 4 (by decide) (hk _ kw_541) (fun _ h9 => h9) rfl dd_M_open_21 ?_
      refine lv_iconst (v := 4) hx hb dd_M_open_24 (by decide) ?_
      refine lv_icmp_lt (tgt := 59) hx hb dd_M_open_25 (by decide) (fun hc20 => ?_) (fun hc20 => ?_)
      · have h := ip_out hc20 h
        refine lv_iconst (v := -1) hx hb dd_M_open_59 (by decide) ?_
        obtain rfl := Option.some.inj h
        exact W.iret hx hb hr (fun t ht hW => ⟨⟨_, (), rfl, rfl, by rw [ht]; exact hP, va_K.moved hW.alike hK, hD⟩, hS.F ht⟩) hS.2.2 dd_M_open_60
      · have h := in_out hc20 h
        refine lv_aload_n hx hb dd_M_open_28 rfl (lv_at hl 0 rfl) ?_
        refine va_get (D := D) (ci := 4) (v := .ref (ad 18)) (C := "OpenDealModel") (T := T_M) (N := 32) hx hb hk in_M hown hK hP 0 am_0 rfl 23 (by decide) (hk _ kw_560) (fun _ h9 => h9) rfl dd_M_open_29 ?_
        refine lv_iload_n hx hb dd_M_open_32 rfl (lv_at hl 2 rfl) ?_
        obtain ⟨hi21, h⟩ := oi_out h
        refine va_iald hx hb hK hP 18 0 am_18 rfl hi21 dd_M_open_33 ?_
        refine lv_bipush (v := -2) hx hb dd_M_open_34 (by decide) ?_
        refine lv_icmp_eq (tgt := 59) hx hb dd_M_open_36 (by decide) (fun hc22 => ?_) (fun hc22 => ?_)
        · have h := ip_out hc22 h
          refine lv_iconst (v := -1) hx hb dd_M_open_59 (by decide) ?_
          obtain rfl := Option.some.inj h
          exact W.iret hx hb hr (fun t ht hW => ⟨⟨_, (), rfl, rfl, by rw [ht]; exact hP, va_K.moved hW.alike hK, hD⟩, hS.F ht⟩) hS.2.2 dd_M_open_60
        · have h := in_out hc22 h
          refine lv_aload_n hx hb dd_M_open_39 rfl (lv_at hl 0 rfl) ?_
          refine va_get (D := D) (ci := 4) (v := .ref (ad 18)) (C := "OpenDealModel") (T := T_M) (N := 32) hx hb hk in_M hown hK hP 0 am_0 rfl 23 (by decide) (hk _ kw_560) (fun _ h9 => h9) rfl dd_M_open_40 ?_
          refine lv_iload_n hx hb dd_M_open_43 rfl (lv_at hl 2 rfl) ?_
          obtain ⟨hi23, h⟩ := oi_out h
          refine va_iald hx hb hK hP 18 0 am_18 rfl hi23 dd_M_open_44 ?_
          refine lv_iconst (v := -1) hx hb dd_M_open_45 (by decide) ?_
          refine lv_icmp_eq (tgt := 61) hx hb dd_M_open_46 (by decide) (fun hc24 => ?_) (fun hc24 => ?_)
          · have h := ip_out hc24 h
            exact L61  _ _ _ _ _ h _ _ hP hD hS _ (lv_sub hl [0, 1, 2] rfl)
          · have h := in_out hc24 h
            refine lv_aload_n hx hb dd_M_open_49 rfl (lv_at hl 0 rfl) ?_
            refine va_get (D := D) (ci := 4) (v := .ref (ad 18)) (C := "OpenDealModel") (T := T_M) (N := 32) hx hb hk in_M hown hK hP 0 am_0 rfl 23 (by decide) (hk _ kw_560) (fun _ h9 => h9) rfl dd_M_open_50 ?_
            refine lv_iload_n hx hb dd_M_open_53 rfl (lv_at hl 2 rfl) ?_
            obtain ⟨hi25, h⟩ := oi_out h
            refine va_iald hx hb hK hP 18 0 am_18 rfl hi25 dd_M_open_54 ?_
            refine lv_iload_n hx hb dd_M_open_55 rfl (lv_at hl 1 rfl) ?_
            refine lv_icmp_eq (tgt := 61) hx hb dd_M_open_56 (by decide) (fun hc26 => ?_) (fun hc26 => ?_)
            · have h := ip_out hc26 h
              exact L61  _ _ _ _ _ h _ _ hP hD hS _ (lv_sub hl [0, 1, 2] rfl)
            · have h := in_out hc26 h
              refine lv_iconst (v := -1) hx hb dd_M_open_59 (by decide) ?_
              obtain rfl := Option.some.inj h
              exact W.iret hx hb hr (fun t ht hW => ⟨⟨_, (), rfl, rfl, by rw [ht]; exact hP, va_K.moved hW.alike hK, hD⟩, hS.F ht⟩) hS.2.2 dd_M_open_60
def ff_M_canAct (n : Nat) (I : MI) (J : MJ) (a1 : Int32) : Option (Int32) := if ¬ (a1 < 0 ∨ 4 ≤ (a1).toNatClampNeg) then if (I 20 (a1).toNatClampNeg) = 0 then (some (0 : Int32)) else (if ¬ (a1 < 0 ∨ 4 ≤ (a1).toNatClampNeg) then if (I 1 (a1).toNatClampNeg) ≤ 0 then (some (0 : Int32)) else (some (1 : Int32)) else none) else none
set_option maxHeartbeats 4000000 in
set_option maxRecDepth 100000 in
theorem mm_M_canAct (l : Launch) (D : va_G) (kc : Nat → ClassId) (ad : Nat → Nat) (I : MI) (J : MJ) (n : Nat) (a1 : Int32) (r : Int32) (h : ff_M_canAct n I J a1 = some r) : Met l yy_M_canAct (.code yy_M_canAct cc_M_canAct 2 (some .boolean) :: kw) { frames := 0, cells := 0, slots := 0, locals := 0 } (va_Pc [.ref (ad 0), .int a1] (BR D kc (wM kc ad I J))) (vp_Si (fun z => z = r)) 0 0 (fun _ => False) := by
  refine Met.ofW (cc := cc_M_canAct) (maxL := 2) (ret := some .boolean) (by decide) rfl ?_
  intro p e s m args below meth c s₁ B hml hv
  obtain ⟨rfl, hP, hK⟩ := hv
  have hx := B.exec
  have hb := B.bytes
  have hr := B.returns
  have hlocks := B.notSynchronized
  have hk : ∀ w ∈ kw, w.before _ s = true := fun w hw => atoms_spec (ws := (.code yy_M_canAct cc_M_canAct 2 (some .boolean) :: kw)) B.pre w (List.mem_cons_of_mem _ hw)
  have hown : s.vm.findClass "OpenDealModel" = some m.cls := findClass_of_methodNamed B.named
  have hl := lv_entry ([.ref (ad 0), .int a1]) (n := 2) (Nat.le_of_ble_eq_true rfl)
  rw [lg_entry_eq]
  generalize (lg_sl ([.ref (ad 0), .int a1]) ++ List.replicate (2 - (lg_sl ([.ref (ad 0), .int a1])).length) Slot.unset).toArray = ls at hl ⊢
  have hl : lv_has ls 2 [(0, .ref (ad 0)), (1, .int a1)] := hl
  unfold ff_M_canAct at h
  refine lv_aload_n hx hb dd_M_canAct_0 rfl (lv_at hl 0 rfl) ?_
  refine va_get (D := D) (ci := 4) (v := .ref (ad 20)) (C := "OpenDealModel") (T := T_M) (N := 32) hx hb hk in_M hown hK hP 0 am_0 rfl 26 (by decide) (hk _ kw_563) (fun _ h9 => h9) rfl dd_M_canAct_1 ?_
  refine lv_iload_n hx hb dd_M_canAct_4 rfl (lv_at hl 1 rfl) ?_
  obtain ⟨hi1, h⟩ := oi_out h
  refine va_zald hx hb hK hP 20 2 am_20 rfl hi1 dd_M_canAct_5 ?_
  refine lv_if_eq (tgt := 22) hx hb dd_M_canAct_6 (by decide) (fun hc2 => ?_) (fun hc2 => ?_)
  · have h := ip_out hc2 h
    refine lv_iconst (v := 0) hx hb dd_M_canAct_22 (by decide) ?_
    obtain rfl := Option.some.inj h
    exact W.zret hx hb hr rfl (fun t ht hW => ⟨_, rfl, rfl, ht⟩) (fun q hq => by cases hq) dd_M_canAct_23
  · have h := in_out hc2 h
    refine lv_aload_n hx hb dd_M_canAct_9 rfl (lv_at hl 0 rfl) ?_
    refine va_get (D := D) (ci := 4) (v := .ref (ad 1)) (C := "OpenDealModel") (T := T_M) (N := 32) hx hb hk in_M hown hK hP 0 am_0 rfl 5 (by decide) (hk _ kw_542) (fun _ h9 => h9) rfl dd_M_canAct_10 ?_
    refine lv_iload_n hx hb dd_M_canAct_13 rfl (lv_at hl 1 rfl) ?_
    obtain ⟨hi3, h⟩ := oi_out h
    refine va_iald hx hb hK hP 1 0 am_1 rfl hi3 dd_M_canAct_14 ?_
    refine lv_if_le (tgt := 22) hx hb dd_M_canAct_15 (by decide) (fun hc4 => ?_) (fun hc4 => ?_)
    · have h := ip_out hc4 h
      refine lv_iconst (v := 0) hx hb dd_M_canAct_22 (by decide) ?_
      obtain rfl := Option.some.inj h
      exact W.zret hx hb hr rfl (fun t ht hW => ⟨_, rfl, rfl, ht⟩) (fun q hq => by cases hq) dd_M_canAct_23
    · have h := in_out hc4 h
      refine lv_iconst (v := 1) hx hb dd_M_canAct_18 (by decide) ?_
      refine lv_goto (tgt := 23) hx hb dd_M_canAct_19 (by decide) ?_
      obtain rfl := Option.some.inj h
      exact W.zret hx hb hr rfl (fun t ht hW => ⟨_, rfl, rfl, ht⟩) (fun q hq => by cases hq) dd_M_canAct_23
def ff_M_many_4 (I : MI) (J : MJ)  : Nat → Int32 → Int32 → Option (Int32)
  | 0, _, _ => none
  | n + 1, v1, v2 => if (I 0 3) ≤ v2 then (some v1) else (if ¬ (v2 < 0 ∨ 4 ≤ (v2).toNatClampNeg) then if (I 20 (v2).toNatClampNeg) = 0 then (tl (v1 + (0 : Int32)) fun y4 => ff_M_many_4 I J n y4 (v2 + (1 : Int32))) else (tl (v1 + (1 : Int32)) fun y5 => ff_M_many_4 I J n y5 (v2 + (1 : Int32))) else none)
def ff_M_many (n : Nat) (I : MI) (J : MJ)  : Option (Int32) := ff_M_many_4 I J n (0 : Int32) (0 : Int32)
set_option maxHeartbeats 4000000 in
set_option maxRecDepth 100000 in
theorem mm_M_many (l : Launch) (D : va_G) (kc : Nat → ClassId) (ad : Nat → Nat) (I : MI) (J : MJ) (n : Nat)  (r : Int32) (h : ff_M_many n I J  = some r) : Met l yy_M_many (.code yy_M_many cc_M_many 3 (some .int) :: kw) { frames := 0, cells := 0, slots := 0, locals := 0 } (va_Pc [.ref (ad 0)] (BR D kc (wM kc ad I J))) (vp_Si (fun z => z = r)) 0 0 (fun _ => False) := by
  refine Met.ofW (cc := cc_M_many) (maxL := 3) (ret := some .int) (by decide) rfl ?_
  intro p e s m args below meth c s₁ B hml hv
  obtain ⟨rfl, hP, hK⟩ := hv
  have hx := B.exec
  have hb := B.bytes
  have hr := B.returns
  have hlocks := B.notSynchronized
  have hk : ∀ w ∈ kw, w.before _ s = true := fun w hw => atoms_spec (ws := (.code yy_M_many cc_M_many 3 (some .int) :: kw)) B.pre w (List.mem_cons_of_mem _ hw)
  have hown : s.vm.findClass "OpenDealModel" = some m.cls := findClass_of_methodNamed B.named
  have L4 : ∀  (n : Nat) (v1 : Int32) (v2 : Int32), ff_M_many_4 I J n v1 v2 = some r → ∀ ls, lv_has ls 3 [(0, .ref (ad 0)), (1, .int v1), (2, .int v2)] → W p l e (headSpec (.code yy_M_many cc_M_many 3 (some .int) :: kw) { frames := 0, cells := 0, slots := 0, locals := 0 }).room s m ([.ref (ad 0)] : List Value).toArray below meth c s.heap [] 0 0 (MQ below (vp_Si (fun z => z = r)) ([.ref (ad 0)] : List Value).toArray s 0 0 (fun _ => False)) (F0 m 4 ls []) := by
    intro  n
    induction n with
    | zero => intro v1 v2 h; exact absurd h (by simp [ff_M_many_4])
    | succ n ih =>
      intro v1 v2 h ls hl
      rw [ff_M_many_4] at h
      refine lv_iload_n hx hb dd_M_many_4 rfl (lv_at hl 2 rfl) ?_
      refine lv_aload_n hx hb dd_M_many_5 rfl (lv_at hl 0 rfl) ?_
      refine va_get (D := D) (ci := 4) (v := .int (I 0 3)) (C := "OpenDealModel") (T := T_M) (N := 32) hx hb hk in_M hown hK hP 0 am_0 rfl 3 (by decide) (hk _ kw_540) (fun _ h9 => h9) rfl dd_M_many_6 ?_
      refine lv_icmp_ge (tgt := 35) hx hb dd_M_many_9 (by decide) (fun hc1 => ?_) (fun hc1 => ?_)
      · have h := ip_out hc1 h
        refine lv_iload_n hx hb dd_M_many_35 rfl (lv_at hl 1 rfl) ?_
        obtain rfl := Option.some.inj h
        exact W.iret hx hb hr (fun t ht hW => ⟨_, rfl, rfl, ht⟩) (fun q hq => by cases hq) dd_M_many_36
      · have h := in_out hc1 h
        refine lv_iload_n hx hb dd_M_many_12 rfl (lv_at hl 1 rfl) ?_
        refine lv_aload_n hx hb dd_M_many_13 rfl (lv_at hl 0 rfl) ?_
        refine va_get (D := D) (ci := 4) (v := .ref (ad 20)) (C := "OpenDealModel") (T := T_M) (N := 32) hx hb hk in_M hown hK hP 0 am_0 rfl 26 (by decide) (hk _ kw_563) (fun _ h9 => h9) rfl dd_M_many_14 ?_
        refine lv_iload_n hx hb dd_M_many_17 rfl (lv_at hl 2 rfl) ?_
        obtain ⟨hi2, h⟩ := oi_out h
        refine va_zald hx hb hK hP 20 2 am_20 rfl hi2 dd_M_many_18 ?_
        refine lv_if_eq (tgt := 26) hx hb dd_M_many_19 (by decide) (fun hc3 => ?_) (fun hc3 => ?_)
        · have h := ip_out hc3 h
          refine lv_iconst (v := 0) hx hb dd_M_many_26 (by decide) ?_
          refine lv_iadd hx hb dd_M_many_27 ?_
          refine lv_topi (fun y4 ey4 => ?_)
          have h := tl_at ey4 h
          refine lv_istore_n (lv' := [(1, .int y4), (0, .ref (ad 0)), (2, .int v2)]) hx hb dd_M_many_28 rfl hl (by decide) rfl (fun ls hl => ?_)
          refine lv_iinc (v := v2 + (1 : Int32)) (lv' := [(2, .int (v2 + (1 : Int32))), (1, .int y4), (0, .ref (ad 0))]) hx hb dd_M_many_29 hl (k := 2) rfl rfl (by decide) rfl (fun ls hl => ?_)
          refine lv_goto (tgt := 4) hx hb dd_M_many_32 (by decide) ?_
          exact ih _ _ h _ (lv_sub hl [2, 1, 0] rfl)
        · have h := in_out hc3 h
          refine lv_iconst (v := 1) hx hb dd_M_many_22 (by decide) ?_
          refine lv_goto (tgt := 27) hx hb dd_M_many_23 (by decide) ?_
          refine lv_iadd hx hb dd_M_many_27 ?_
          refine lv_topi (fun y5 ey5 => ?_)
          have h := tl_at ey5 h
          refine lv_istore_n (lv' := [(1, .int y5), (0, .ref (ad 0)), (2, .int v2)]) hx hb dd_M_many_28 rfl hl (by decide) rfl (fun ls hl => ?_)
          refine lv_iinc (v := v2 + (1 : Int32)) (lv' := [(2, .int (v2 + (1 : Int32))), (1, .int y5), (0, .ref (ad 0))]) hx hb dd_M_many_29 hl (k := 2) rfl rfl (by decide) rfl (fun ls hl => ?_)
          refine lv_goto (tgt := 4) hx hb dd_M_many_32 (by decide) ?_
          exact ih _ _ h _ (lv_sub hl [2, 1, 0] rfl)
  have hl := lv_entry ([.ref (ad 0)]) (n := 3) (Nat.le_of_ble_eq_true rfl)
  rw [lg_entry_eq]
  generalize (lg_sl ([.ref (ad 0)]) ++ List.replicate (3 - (lg_sl ([.ref (ad 0)])).length) Slot.unset).toArray = ls at hl ⊢
  have hl : lv_has ls 3 [(0, .ref (ad 0))] := hl
  unfold ff_M_many at h
  refine lv_iconst (v := 0) hx hb dd_M_many_0 (by decide) ?_
  refine lv_istore_n (lv' := [(1, .int (0 : Int32)), (0, .ref (ad 0))]) hx hb dd_M_many_1 rfl hl (by decide) rfl (fun ls hl => ?_)
  refine lv_iconst (v := 0) hx hb dd_M_many_2 (by decide) ?_
  refine lv_istore_n (lv' := [(2, .int (0 : Int32)), (1, .int (0 : Int32)), (0, .ref (ad 0))]) hx hb dd_M_many_3 rfl hl (by decide) rfl (fun ls hl => ?_)
  exact L4  _ _ _ h _ (lv_sub hl [2, 1, 0] rfl)
def ff_M_most_4 (I : MI) (J : MJ)  : Nat → Int32 → Int32 → Option (Int32)
  | 0, _, _ => none
  | n + 1, v1, v2 => if (I 0 3) ≤ v2 then (some v1) else (if ¬ (v2 < 0 ∨ 4 ≤ (v2).toNatClampNeg) then if (I 22 (v2).toNatClampNeg) ≤ v1 then (ff_M_most_4 I J n v1 (v2 + (1 : Int32))) else (if ¬ (v2 < 0 ∨ 4 ≤ (v2).toNatClampNeg) then tl (I 22 (v2).toNatClampNeg) fun y5 => ff_M_most_4 I J n y5 (v2 + (1 : Int32)) else none) else none)
def ff_M_most (n : Nat) (I : MI) (J : MJ)  : Option (Int32) := ff_M_most_4 I J n (0 : Int32) (0 : Int32)
set_option maxHeartbeats 4000000 in
set_option maxRecDepth 100000 in
theorem mm_M_most (l : Launch) (D : va_G) (kc : Nat → ClassId) (ad : Nat → Nat) (I : MI) (J : MJ) (n : Nat)  (r : Int32) (h : ff_M_most n I J  = some r) : Met l yy_M_most (.code yy_M_most cc_M_most 3 (some .int) :: kw) { frames := 0, cells := 0, slots := 0, locals := 0 } (va_Pc [.ref (ad 0)] (BR D kc (wM kc ad I J))) (vp_Si (fun z => z = r)) 0 0 (fun _ => False) := by
  refine Met.ofW (cc := cc_M_most) (maxL := 3) (ret := some .int) (by decide) rfl ?_
  intro p e s m args below meth c s₁ B hml hv
  obtain ⟨rfl, hP, hK⟩ := hv
  have hx := B.exec
  have hb := B.bytes
  have hr := B.returns
  have hlocks := B.notSynchronized
  have hk : ∀ w ∈ kw, w.before _ s = true := fun w hw => atoms_spec (ws := (.code yy_M_most cc_M_most 3 (some .int) :: kw)) B.pre w (List.mem_cons_of_mem _ hw)
  have hown : s.vm.findClass "OpenDealModel" = some m.cls := findClass_of_methodNamed B.named
  have L4 : ∀  (n : Nat) (v1 : Int32) (v2 : Int32), ff_M_most_4 I J n v1 v2 = some r → ∀ ls, lv_has ls 3 [(0, .ref (ad 0)), (1, .int v1), (2, .int v2)] → W p l e (headSpec (.code yy_M_most cc_M_most 3 (some .int) :: kw) { frames := 0, cells := 0, slots := 0, locals := 0 }).room s m ([.ref (ad 0)] : List Value).toArray below meth c s.heap [] 0 0 (MQ below (vp_Si (fun z => z = r)) ([.ref (ad 0)] : List Value).toArray s 0 0 (fun _ => False)) (F0 m 4 ls []) := by
    intro  n
    induction n with
    | zero => intro v1 v2 h; exact absurd h (by simp [ff_M_most_4])
    | succ n ih =>
      intro v1 v2 h ls hl
      rw [ff_M_most_4] at h
      refine lv_iload_n hx hb dd_M_most_4 rfl (lv_at hl 2 rfl) ?_
      refine lv_aload_n hx hb dd_M_most_5 rfl (lv_at hl 0 rfl) ?_
      refine va_get (D := D) (ci := 4) (v := .int (I 0 3)) (C := "OpenDealModel") (T := T_M) (N := 32) hx hb hk in_M hown hK hP 0 am_0 rfl 3 (by decide) (hk _ kw_540) (fun _ h9 => h9) rfl dd_M_most_6 ?_
      refine lv_icmp_ge (tgt := 39) hx hb dd_M_most_9 (by decide) (fun hc1 => ?_) (fun hc1 => ?_)
      · have h := ip_out hc1 h
        refine lv_iload_n hx hb dd_M_most_39 rfl (lv_at hl 1 rfl) ?_
        obtain rfl := Option.some.inj h
        exact W.iret hx hb hr (fun t ht hW => ⟨_, rfl, rfl, ht⟩) (fun q hq => by cases hq) dd_M_most_40
      · have h := in_out hc1 h
        refine lv_aload_n hx hb dd_M_most_12 rfl (lv_at hl 0 rfl) ?_
        refine va_get (D := D) (ci := 4) (v := .ref (ad 22)) (C := "OpenDealModel") (T := T_M) (N := 32) hx hb hk in_M hown hK hP 0 am_0 rfl 28 (by decide) (hk _ kw_565) (fun _ h9 => h9) rfl dd_M_most_13 ?_
        refine lv_iload_n hx hb dd_M_most_16 rfl (lv_at hl 2 rfl) ?_
        obtain ⟨hi2, h⟩ := oi_out h
        refine va_iald hx hb hK hP 22 0 am_22 rfl hi2 dd_M_most_17 ?_
        refine lv_iload_n hx hb dd_M_most_18 rfl (lv_at hl 1 rfl) ?_
        refine lv_icmp_le (tgt := 31) hx hb dd_M_most_19 (by decide) (fun hc3 => ?_) (fun hc3 => ?_)
        · have h := ip_out hc3 h
          refine lv_iload_n hx hb dd_M_most_31 rfl (lv_at hl 1 rfl) ?_
          refine lv_istore_n (lv' := [(1, .int v1), (0, .ref (ad 0)), (2, .int v2)]) hx hb dd_M_most_32 rfl hl (by decide) rfl (fun ls hl => ?_)
          refine lv_iinc (v := v2 + (1 : Int32)) (lv' := [(2, .int (v2 + (1 : Int32))), (1, .int v1), (0, .ref (ad 0))]) hx hb dd_M_most_33 hl (k := 2) rfl rfl (by decide) rfl (fun ls hl => ?_)
          refine lv_goto (tgt := 4) hx hb dd_M_most_36 (by decide) ?_
          exact ih _ _ h _ (lv_sub hl [2, 1, 0] rfl)
        · have h := in_out hc3 h
          refine lv_aload_n hx hb dd_M_most_22 rfl (lv_at hl 0 rfl) ?_
          refine va_get (D := D) (ci := 4) (v := .ref (ad 22)) (C := "OpenDealModel") (T := T_M) (N := 32) hx hb hk in_M hown hK hP 0 am_0 rfl 28 (by decide) (hk _ kw_565) (fun _ h9 => h9) rfl dd_M_most_23 ?_
          refine lv_iload_n hx hb dd_M_most_26 rfl (lv_at hl 2 rfl) ?_
          obtain ⟨hi4, h⟩ := oi_out h
          refine va_iald hx hb hK hP 22 0 am_22 rfl hi4 dd_M_most_27 ?_
          refine lv_goto (tgt := 32) hx hb dd_M_most_28 (by decide) ?_
          refine lv_topi (fun y5 ey5 => ?_)
          have h := tl_at ey5 h
          refine lv_istore_n (lv' := [(1, .int y5), (0, .ref (ad 0)), (2, .int v2)]) hx hb dd_M_most_32 rfl hl (by decide) rfl (fun ls hl => ?_)
          refine lv_iinc (v := v2 + (1 : Int32)) (lv' := [(2, .int (v2 + (1 : Int32))), (1, .int y5), (0, .ref (ad 0))]) hx hb dd_M_most_33 hl (k := 2) rfl rfl (by decide) rfl (fun ls hl => ?_)
          refine lv_goto (tgt := 4) hx hb dd_M_most_36 (by decide) ?_
          exact ih _ _ h _ (lv_sub hl [2, 1, 0] rfl)
  have hl := lv_entry ([.ref (ad 0)]) (n := 3) (Nat.le_of_ble_eq_true rfl)
  rw [lg_entry_eq]
  generalize (lg_sl ([.ref (ad 0)]) ++ List.replicate (3 - (lg_sl ([.ref (ad 0)])).length) Slot.unset).toArray = ls at hl ⊢
  have hl : lv_has ls 3 [(0, .ref (ad 0))] := hl
  unfold ff_M_most at h
  refine lv_iconst (v := 0) hx hb dd_M_most_0 (by decide) ?_
  refine lv_istore_n (lv' := [(1, .int (0 : Int32)), (0, .ref (ad 0))]) hx hb dd_M_most_1 rfl hl (by decide) rfl (fun ls hl => ?_)
  refine lv_iconst (v := 0) hx hb dd_M_most_2 (by decide) ?_
  refine lv_istore_n (lv' := [(2, .int (0 : Int32)), (1, .int (0 : Int32)), (0, .ref (ad 0))]) hx hb dd_M_most_3 rfl hl (by decide) rfl (fun ls hl => ?_)
  exact L4  _ _ _ h _ (lv_sub hl [2, 1, 0] rfl)
def ff_M_endRound_12  : Nat → MI → MJ → Int32 → Option (MI × MJ)
  | 0, _, _, _ => none
  | n + 1, I, J, v1 => if (4 : Int32) ≤ v1 then (some (I, J)) else (if ¬ (v1 < 0 ∨ 4 ≤ (v1).toNatClampNeg) then ff_M_endRound_12 n (ui I 22 (v1).toNatClampNeg (0 : Int32)) J (v1 + (1 : Int32)) else none)
def ff_M_endRound (n : Nat) (I : MI) (J : MJ)  : Option (MI × MJ) := ff_M_endRound_12 n (ui (ui I 0 30 (0 : Int32)) 0 31 (-1 : Int32)) J (0 : Int32)
set_option maxHeartbeats 4000000 in
set_option maxRecDepth 100000 in
theorem mm_M_endRound (l : Launch) (D : va_G) (kc : Nat → ClassId) (ad : Nat → Nat) (I0 : MI) (J0 : MJ) (sz n : Nat)  (r : MI × MJ) (h : ff_M_endRound n I0 J0  = some r) : Met l yy_M_endRound (.code yy_M_endRound cc_M_endRound 2 (none) :: kw) { frames := 0, cells := 0, slots := 0, locals := 0 } (va_Pc [.ref (ad 0)] (BW D kc (wM kc ad I0 J0) sz)) (va_Qv (fun (_ : Unit) => True) (EW D kc (va_A (wM kc ad I0 J0) sz) (wM kc ad r.1 r.2)) (va_A (wM kc ad I0 J0) sz)) 0 0 (va_A (wM kc ad I0 J0) sz) := by
  refine Met.ofW (cc := cc_M_endRound) (maxL := 2) (ret := none) (by decide) rfl ?_
  intro p e s m args below meth c s₁ B hml hv
  obtain ⟨rfl, hsz, hP, hK, hD0⟩ := hv
  have hx := B.exec
  have hb := B.bytes
  have hr := B.returns
  have hlocks := B.notSynchronized
  have hk : ∀ w ∈ kw, w.before _ s = true := fun w hw => atoms_spec (ws := (.code yy_M_endRound cc_M_endRound 2 (none) :: kw)) B.pre w (List.mem_cons_of_mem _ hw)
  have hown : s.vm.findClass "OpenDealModel" = some m.cls := findClass_of_methodNamed B.named
  subst hsz
  have hD := hD0.self (sz := s.heap.size)
  generalize hAe : va_A (wM kc ad I0 J0) s.heap.size = A at hD ⊢
  have hA : ∀ q : Nat, s.heap.size ≤ q → A q := fun q h => by rw [← hAe]; exact Or.inr h
  have hS : va_S A s.heap s.heap [] := va_S.rf
  have hP : va_P D cls5 (wM kc ad I0 J0) s.heap := hP
  clear hAe hD0
  have L12 : ∀  (n : Nat) (I : MI) (J : MJ) (v1 : Int32), ff_M_endRound_12 n I J v1 = some r → ∀ (H : Heap) (locs : List Loc), va_P D cls5 (wM kc ad I J) H → va_D A (wM kc ad I J) → va_S A s.heap H locs → ∀ ls, lv_has ls 2 [(0, .ref (ad 0)), (1, .int v1)] → W p l e (headSpec (.code yy_M_endRound cc_M_endRound 2 (none) :: kw) { frames := 0, cells := 0, slots := 0, locals := 0 }).room s m ([.ref (ad 0)] : List Value).toArray below meth c H locs 0 0 (MQ below (va_Qv (fun (_ : Unit) => True) (EW D kc A (wM kc ad r.1 r.2)) A) ([.ref (ad 0)] : List Value).toArray s 0 0 A) (F0 m 12 ls []) := by
    intro  n
    induction n with
    | zero => intro I J v1 h; exact absurd h (by simp [ff_M_endRound_12])
    | succ n ih =>
      intro I J v1 h H locs hP hD hS ls hl
      rw [ff_M_endRound_12] at h
      refine lv_iload_n hx hb dd_M_endRound_12 rfl (lv_at hl 1 rfl) ?_
      refine lv_iconst (v := 4) hx hb dd_M_endRound_13 (by decide) ?_
      refine lv_icmp_ge (tgt := 30) hx hb dd_M_endRound_14 (by decide) (fun hc1 => ?_) (fun hc1 => ?_)
      · have h := ip_out hc1 h
        obtain rfl := Option.some.inj h
        exact W.vret hx hb hr (fun t ht hW => ⟨⟨(), rfl, trivial, by rw [ht]; exact hP, va_K.moved hW.alike hK, hD⟩, hS.F ht⟩) hS.2.2 dd_M_endRound_30
      · have h := in_out hc1 h
        refine lv_aload_n hx hb dd_M_endRound_17 rfl (lv_at hl 0 rfl) ?_
        refine va_get (D := D) (ci := 4) (v := .ref (ad 22)) (C := "OpenDealModel") (T := T_M) (N := 32) hx hb hk in_M hown hK hP 0 am_0 rfl 28 (by decide) (hk _ kw_565) (fun _ h9 => h9) rfl dd_M_endRound_18 ?_
        refine lv_iload_n hx hb dd_M_endRound_21 rfl (lv_at hl 1 rfl) ?_
        refine lv_iconst (v := 0) hx hb dd_M_endRound_22 (by decide) ?_
        obtain ⟨hi2, h⟩ := oi_out h
        refine va_iast hx hb hK hP hD hS 22 0 am_22 rfl (x := (0 : Int32)) hi2 dd_M_endRound_23 (fun H locs hP hD hS => ?_)
        rw [pm_22] at hP hD
        refine lv_iinc (v := v1 + (1 : Int32)) (lv' := [(1, .int (v1 + (1 : Int32))), (0, .ref (ad 0))]) hx hb dd_M_endRound_24 hl (k := 1) rfl rfl (by decide) rfl (fun ls hl => ?_)
        refine lv_goto (tgt := 12) hx hb dd_M_endRound_27 (by decide) ?_
        exact ih _ _ _ h _ _ hP hD hS _ (lv_sub hl [1, 0] rfl)
  have hl := lv_entry ([.ref (ad 0)]) (n := 2) (Nat.le_of_ble_eq_true rfl)
  rw [lg_entry_eq]
  generalize (lg_sl ([.ref (ad 0)]) ++ List.replicate (2 - (lg_sl ([.ref (ad 0)])).length) Slot.unset).toArray = ls at hl ⊢
  have hl : lv_has ls 2 [(0, .ref (ad 0))] := hl
  unfold ff_M_endRound at h
  refine lv_aload_n hx hb dd_M_endRound_0 rfl (lv_at hl 0 rfl) ?_
  refine lv_iconst (v := 0) hx hb dd_M_endRound_1 (by decide) ?_
  refine va_put (D := D) (ci := 4) (v := .int (0 : Int32)) (ty := .boolean) (C := "OpenDealModel") (T := T_M) (N := 32) hx hb hk in_M ty_M tk_M nm_M hown hK hP hD hS 0 am_0 rfl 30 (by decide) (hk _ kw_567) (fun _ h9 => h9) rfl (by decide +kernel) rfl rfl (Nat.le_of_ble_eq_true rfl) dd_M_endRound_2 (fun H locs hP hD hS => ?_)
  rw [pt_M30] at hP hD
  refine lv_aload_n hx hb dd_M_endRound_5 rfl (lv_at hl 0 rfl) ?_
  refine lv_iconst (v := -1) hx hb dd_M_endRound_6 (by decide) ?_
  refine va_put (D := D) (ci := 4) (v := .int (-1 : Int32)) (ty := .int) (C := "OpenDealModel") (T := T_M) (N := 32) hx hb hk in_M ty_M tk_M nm_M hown hK hP hD hS 0 am_0 rfl 31 (by decide) (hk _ kw_568) (fun _ h9 => h9) rfl (by decide +kernel) rfl rfl (Nat.le_of_ble_eq_true rfl) dd_M_endRound_7 (fun H locs hP hD hS => ?_)
  rw [pt_M31] at hP hD
  refine lv_iconst (v := 0) hx hb dd_M_endRound_10 (by decide) ?_
  refine lv_istore_n (lv' := [(1, .int (0 : Int32)), (0, .ref (ad 0))]) hx hb dd_M_endRound_11 rfl hl (by decide) rfl (fun ls hl => ?_)
  exact L12  _ _ _ _ h _ _ hP hD hS _ (lv_sub hl [1, 0] rfl)
def ff_M_findNext_76  (n : Nat) (I : MI) (J : MJ) (v1 : Int32) (v2 : Int32) : Option (MI × MJ) := (ff_M_endRound n I J ).bind fun r1 => some (r1.1, r1.2)
def ff_M_findNext_60  (n : Nat) (I : MI) (J : MJ) (v1 : Int32) (v2 : Int32) : Option (MI × MJ) := if (I 0 31) = (-1 : Int32) then (ff_M_findNext_76 n I J v1 v2) else ((ff_M_many n I J ).bind fun r3 => if (2 : Int32) ≤ r3 then (some (I, J)) else (ff_M_findNext_76 n I J v1 v2))
def ff_M_findNext_7  : Nat → MI → MJ → Int32 → Int32 → Option (MI × MJ)
  | 0, _, _, _, _ => none
  | n + 1, I, J, v1, v2 => if (I 0 3) ≤ v2 then (ff_M_findNext_60 n I J v1 v2) else (if (I 0 31) = (-1 : Int32) then (if ¬ (I 0 3) = 0 then tl ((v1 + v2) - (v1 + v2) / (I 0 3) * (I 0 3)) fun y8 => (ff_M_canAct n I J y8).bind fun r9 => if r9 = 0 then (ff_M_findNext_7 n I J v1 (v2 + (1 : Int32))) else (if ¬ (y8 < 0 ∨ 4 ≤ (y8).toNatClampNeg) then if (I 23 (y8).toNatClampNeg) = 0 then (ff_M_findNext_7 n (ui I 0 31 y8) J v1 (v2 + (1 : Int32))) else (ff_M_findNext_7 n I J v1 (v2 + (1 : Int32))) else none) else none) else (ff_M_findNext_60 n I J v1 v2))
def ff_M_findNext (n : Nat) (I : MI) (J : MJ) (a1 : Int32) : Option (MI × MJ) := ff_M_findNext_7 n (ui I 0 31 (-1 : Int32)) J a1 (0 : Int32)
set_option maxHeartbeats 4000000 in
set_option maxRecDepth 100000 in
theorem mm_M_findNext (l : Launch) (D : va_G) (kc : Nat → ClassId) (ad : Nat → Nat) (I0 : MI) (J0 : MJ) (sz n : Nat) (a1 : Int32) (r : MI × MJ) (h : ff_M_findNext n I0 J0 a1 = some r) : Met l yy_M_findNext (.code yy_M_findNext cc_M_findNext 4 (none) :: kw) { frames := 1, cells := 0, slots := 0, locals := 22 } (va_Pc [.ref (ad 0), .int a1] (BW D kc (wM kc ad I0 J0) sz)) (va_Qv (fun (_ : Unit) => True) (EW D kc (va_A (wM kc ad I0 J0) sz) (wM kc ad r.1 r.2)) (va_A (wM kc ad I0 J0) sz)) 0 0 (va_A (wM kc ad I0 J0) sz) := by
  refine Met.ofW (cc := cc_M_findNext) (maxL := 4) (ret := none) (by decide) rfl ?_
  intro p e s m args below meth c s₁ B hml hv
  obtain ⟨rfl, hsz, hP, hK, hD0⟩ := hv
  have hx := B.exec
  have hb := B.bytes
  have hr := B.returns
  have hlocks := B.notSynchronized
  have hk : ∀ w ∈ kw, w.before _ s = true := fun w hw => atoms_spec (ws := (.code yy_M_findNext cc_M_findNext 4 (none) :: kw)) B.pre w (List.mem_cons_of_mem _ hw)
  have hown : s.vm.findClass "OpenDealModel" = some m.cls := findClass_of_methodNamed B.named
  subst hsz
  have hD := hD0.self (sz := s.heap.size)
  generalize hAe : va_A (wM kc ad I0 J0) s.heap.size = A at hD ⊢
  have hA : ∀ q : Nat, s.heap.size ≤ q → A q := fun q h => by rw [← hAe]; exact Or.inr h
  have hS : va_S A s.heap s.heap [] := va_S.rf
  have hP : va_P D cls5 (wM kc ad I0 J0) s.heap := hP
  clear hAe hD0
  have L76 : ∀  (n : Nat) (I : MI) (J : MJ) (v1 : Int32) (v2 : Int32), ff_M_findNext_76 n I J v1 v2 = some r → ∀ (H : Heap) (locs : List Loc), va_P D cls5 (wM kc ad I J) H → va_D A (wM kc ad I J) → va_S A s.heap H locs → ∀ ls, lv_has ls 4 [(0, .ref (ad 0)), (1, .int v1), (2, .int v2)] → W p l e (headSpec (.code yy_M_findNext cc_M_findNext 4 (none) :: kw) { frames := 1, cells := 0, slots := 0, locals := 22 }).room s m ([.ref (ad 0), .int a1] : List Value).toArray below meth c H locs 0 0 (MQ below (va_Qv (fun (_ : Unit) => True) (EW D kc A (wM kc ad r.1 r.2)) A) ([.ref (ad 0), .int a1] : List Value).toArray s 0 0 A) (F0 m 76 ls []) := by
    intro  n I J v1 v2 h H locs hP hD hS ls hl
    unfold ff_M_findNext_76 at h
    refine lv_aload_n hx hb dd_M_findNext_76 rfl (lv_at hl 0 rfl) ?_
    obtain ⟨r1, hr1, h⟩ := ob_out h
    refine cw_Vv (n := 0) (As := []) (mc := 0) (ms := 0) hx hb hml hown hk (mm_M_endRound l D kc ad _ _ _ _  _ hr1) hK hP hD hS hA 0 am_0 rfl rfl kw_765 kw_767 sel_M_endRound kw_4 kw_768 ⟨rfl, rfl⟩ (by decide +kernel) ⟨Nat.le_of_ble_eq_true rfl, Nat.le_of_ble_eq_true rfl⟩ rfl hl.1 rfl (Nat.le_of_ble_eq_true rfl) dd_M_findNext_77 ⟨Nat.le_of_ble_eq_true rfl, Nat.le_of_ble_eq_true rfl⟩ (fun H locs hP hD hS => ?_)
    obtain rfl := Option.some.inj h
    exact W.vret hx hb hr (fun t ht hW => ⟨⟨(), rfl, trivial, by rw [ht]; exact hP, va_K.moved hW.alike hK, hD⟩, hS.F ht⟩) hS.2.2 dd_M_findNext_80
  have L60 : ∀  (n : Nat) (I : MI) (J : MJ) (v1 : Int32) (v2 : Int32), ff_M_findNext_60 n I J v1 v2 = some r → ∀ (H : Heap) (locs : List Loc), va_P D cls5 (wM kc ad I J) H → va_D A (wM kc ad I J) → va_S A s.heap H locs → ∀ ls, lv_has ls 4 [(0, .ref (ad 0)), (1, .int v1), (2, .int v2)] → W p l e (headSpec (.code yy_M_findNext cc_M_findNext 4 (none) :: kw) { frames := 1, cells := 0, slots := 0, locals := 22 }).room s m ([.ref (ad 0), .int a1] : List Value).toArray below meth c H locs 0 0 (MQ below (va_Qv (fun (_ : Unit) => True) (EW D kc A (wM kc ad r.1 r.2)) A) ([.ref (ad 0), .int a1] : List Value).toArray s 0 0 A) (F0 m 60 ls []) := by
    intro  n I J v1 v2 h H locs hP hD hS ls hl
    unfold ff_M_findNext_60 at h
    refine lv_aload_n hx hb dd_M_findNext_60 rfl (lv_at hl 0 rfl) ?_
    refine va_get (D := D) (ci := 4) (v := .int (I 0 31)) (C := "OpenDealModel") (T := T_M) (N := 32) hx hb hk in_M hown hK hP 0 am_0 rfl 31 (by decide) (hk _ kw_568) (fun _ h9 => h9) rfl dd_M_findNext_61 ?_
    refine lv_iconst (v := -1) hx hb dd_M_findNext_64 (by decide) ?_
    refine lv_icmp_eq (tgt := 76) hx hb dd_M_findNext_65 (by decide) (fun hc2 => ?_) (fun hc2 => ?_)
    · have h := ip_out hc2 h
      exact L76  _ _ _ _ _ h _ _ hP hD hS _ (lv_sub hl [0, 1, 2] rfl)
    · have h := in_out hc2 h
      refine lv_aload_n hx hb dd_M_findNext_68 rfl (lv_at hl 0 rfl) ?_
      obtain ⟨r3, hr3, h⟩ := ob_out h
      refine cr_Vi (n := 0) (As := []) hx hb hml hown hk (mm_M_many l D kc ad _ _ _  _ hr3) hK hP 0 am_0 rfl rfl kw_761 kw_763 sel_M_many kw_4 kw_764 ⟨rfl, rfl⟩ (by decide +kernel) ⟨Nat.le_of_ble_eq_true rfl, Nat.le_of_ble_eq_true rfl⟩ rfl hl.1 rfl (Nat.le_of_ble_eq_true rfl) dd_M_findNext_69 ⟨Nat.le_of_ble_eq_true rfl, Nat.le_of_ble_eq_true rfl⟩ ?_
      refine lv_iconst (v := 2) hx hb dd_M_findNext_72 (by decide) ?_
      refine lv_icmp_ge (tgt := 80) hx hb dd_M_findNext_73 (by decide) (fun hc4 => ?_) (fun hc4 => ?_)
      · have h := ip_out hc4 h
        obtain rfl := Option.some.inj h
        exact W.vret hx hb hr (fun t ht hW => ⟨⟨(), rfl, trivial, by rw [ht]; exact hP, va_K.moved hW.alike hK, hD⟩, hS.F ht⟩) hS.2.2 dd_M_findNext_80
      · have h := in_out hc4 h
        exact L76  _ _ _ _ _ h _ _ hP hD hS _ (lv_sub hl [0, 1, 2] rfl)
  have L7 : ∀  (n : Nat) (I : MI) (J : MJ) (v1 : Int32) (v2 : Int32), ff_M_findNext_7 n I J v1 v2 = some r → ∀ (H : Heap) (locs : List Loc), va_P D cls5 (wM kc ad I J) H → va_D A (wM kc ad I J) → va_S A s.heap H locs → ∀ ls, lv_has ls 4 [(0, .ref (ad 0)), (1, .int v1), (2, .int v2)] → W p l e (headSpec (.code yy_M_findNext cc_M_findNext 4 (none) :: kw) { frames := 1, cells := 0, slots := 0, locals := 22 }).room s m ([.ref (ad 0), .int a1] : List Value).toArray below meth c H locs 0 0 (MQ below (va_Qv (fun (_ : Unit) => True) (EW D kc A (wM kc ad r.1 r.2)) A) ([.ref (ad 0), .int a1] : List Value).toArray s 0 0 A) (F0 m 7 ls []) := by
    intro  n
    induction n with
    | zero => intro I J v1 v2 h; exact absurd h (by simp [ff_M_findNext_7])
    | succ n ih =>
      intro I J v1 v2 h H locs hP hD hS ls hl
      rw [ff_M_findNext_7] at h
      refine lv_iload_n hx hb dd_M_findNext_7 rfl (lv_at hl 2 rfl) ?_
      refine lv_aload_n hx hb dd_M_findNext_8 rfl (lv_at hl 0 rfl) ?_
      refine va_get (D := D) (ci := 4) (v := .int (I 0 3)) (C := "OpenDealModel") (T := T_M) (N := 32) hx hb hk in_M hown hK hP 0 am_0 rfl 3 (by decide) (hk _ kw_540) (fun _ h9 => h9) rfl dd_M_findNext_9 ?_
      refine lv_icmp_ge (tgt := 60) hx hb dd_M_findNext_12 (by decide) (fun hc5 => ?_) (fun hc5 => ?_)
      · have h := ip_out hc5 h
        exact L60  _ _ _ _ _ h _ _ hP hD hS _ (lv_sub hl [0, 1, 2] rfl)
      · have h := in_out hc5 h
        refine lv_aload_n hx hb dd_M_findNext_15 rfl (lv_at hl 0 rfl) ?_
        refine va_get (D := D) (ci := 4) (v := .int (I 0 31)) (C := "OpenDealModel") (T := T_M) (N := 32) hx hb hk in_M hown hK hP 0 am_0 rfl 31 (by decide) (hk _ kw_568) (fun _ h9 => h9) rfl dd_M_findNext_16 ?_
        refine lv_iconst (v := -1) hx hb dd_M_findNext_19 (by decide) ?_
        refine lv_icmp_ne (tgt := 60) hx hb dd_M_findNext_20 (by decide) (fun hc6 => ?_) (fun hc6 => ?_)
        · have h := in_out hc6 h
          exact L60  _ _ _ _ _ h _ _ hP hD hS _ (lv_sub hl [0, 1, 2] rfl)
        · have h := ip_out hc6 h
          refine lv_iload_n hx hb dd_M_findNext_23 rfl (lv_at hl 1 rfl) ?_
          refine lv_iload_n hx hb dd_M_findNext_24 rfl (lv_at hl 2 rfl) ?_
          refine lv_iadd hx hb dd_M_findNext_25 ?_
          refine lv_aload_n hx hb dd_M_findNext_26 rfl (lv_at hl 0 rfl) ?_
          refine va_get (D := D) (ci := 4) (v := .int (I 0 3)) (C := "OpenDealModel") (T := T_M) (N := 32) hx hb hk in_M hown hK hP 0 am_0 rfl 3 (by decide) (hk _ kw_540) (fun _ h9 => h9) rfl dd_M_findNext_27 ?_
          obtain ⟨hz7, h⟩ := oi_out h
          refine lv_irem hx hb dd_M_findNext_30 hz7 ?_
          refine lv_topi (fun y8 ey8 => ?_)
          have h := tl_at ey8 h
          refine lv_istore_n (lv' := [(3, .int y8), (0, .ref (ad 0)), (1, .int v1), (2, .int v2)]) hx hb dd_M_findNext_31 rfl hl (by decide) rfl (fun ls hl => ?_)
          refine lv_aload_n hx hb dd_M_findNext_32 rfl (lv_at hl 1 rfl) ?_
          refine lv_iload_n hx hb dd_M_findNext_33 rfl (lv_at hl 0 rfl) ?_
          obtain ⟨r9, hr9, h⟩ := ob_out h
          refine cr_Vi (n := 1) (As := [.int y8]) hx hb hml hown hk (mm_M_canAct l D kc ad _ _ _ _ _ hr9) hK hP 0 am_0 rfl rfl kw_753 kw_755 sel_M_canAct kw_4 kw_756 ⟨rfl, rfl⟩ (by decide +kernel) ⟨Nat.le_of_ble_eq_true rfl, Nat.le_of_ble_eq_true rfl⟩ rfl hl.1 rfl (Nat.le_of_ble_eq_true rfl) dd_M_findNext_34 ⟨Nat.le_of_ble_eq_true rfl, Nat.le_of_ble_eq_true rfl⟩ ?_
          refine lv_if_eq (tgt := 54) hx hb dd_M_findNext_37 (by decide) (fun hc10 => ?_) (fun hc10 => ?_)
          · have h := ip_out hc10 h
            refine lv_iinc (v := v2 + (1 : Int32)) (lv' := [(2, .int (v2 + (1 : Int32))), (3, .int y8), (0, .ref (ad 0)), (1, .int v1)]) hx hb dd_M_findNext_54 hl (k := 3) rfl rfl (by decide) rfl (fun ls hl => ?_)
            refine lv_goto (tgt := 7) hx hb dd_M_findNext_57 (by decide) ?_
            exact ih _ _ _ _ h _ _ hP hD hS _ (lv_sub hl [2, 3, 0] rfl)
          · have h := in_out hc10 h
            refine lv_aload_n hx hb dd_M_findNext_40 rfl (lv_at hl 1 rfl) ?_
            refine va_get (D := D) (ci := 4) (v := .ref (ad 23)) (C := "OpenDealModel") (T := T_M) (N := 32) hx hb hk in_M hown hK hP 0 am_0 rfl 29 (by decide) (hk _ kw_566) (fun _ h9 => h9) rfl dd_M_findNext_41 ?_
            refine lv_iload_n hx hb dd_M_findNext_44 rfl (lv_at hl 0 rfl) ?_
            obtain ⟨hi11, h⟩ := oi_out h
            refine va_zald hx hb hK hP 23 2 am_23 rfl hi11 dd_M_findNext_45 ?_
            refine lv_if_ne (tgt := 54) hx hb dd_M_findNext_46 (by decide) (fun hc12 => ?_) (fun hc12 => ?_)
            · have h := in_out hc12 h
              refine lv_iinc (v := v2 + (1 : Int32)) (lv' := [(2, .int (v2 + (1 : Int32))), (3, .int y8), (0, .ref (ad 0)), (1, .int v1)]) hx hb dd_M_findNext_54 hl (k := 3) rfl rfl (by decide) rfl (fun ls hl => ?_)
              refine lv_goto (tgt := 7) hx hb dd_M_findNext_57 (by decide) ?_
              exact ih _ _ _ _ h _ _ hP hD hS _ (lv_sub hl [2, 3, 0] rfl)
            · have h := ip_out hc12 h
              refine lv_aload_n hx hb dd_M_findNext_49 rfl (lv_at hl 1 rfl) ?_
              refine lv_iload_n hx hb dd_M_findNext_50 rfl (lv_at hl 0 rfl) ?_
              refine va_put (D := D) (ci := 4) (v := .int y8) (ty := .int) (C := "OpenDealModel") (T := T_M) (N := 32) hx hb hk in_M ty_M tk_M nm_M hown hK hP hD hS 0 am_0 rfl 31 (by decide) (hk _ kw_568) (fun _ h9 => h9) rfl (by decide +kernel) rfl rfl (Nat.le_of_ble_eq_true rfl) dd_M_findNext_51 (fun H locs hP hD hS => ?_)
              rw [pt_M31] at hP hD
              refine lv_iinc (v := v2 + (1 : Int32)) (lv' := [(2, .int (v2 + (1 : Int32))), (3, .int y8), (0, .ref (ad 0)), (1, .int v1)]) hx hb dd_M_findNext_54 hl (k := 3) rfl rfl (by decide) rfl (fun ls hl => ?_)
              refine lv_goto (tgt := 7) hx hb dd_M_findNext_57 (by decide) ?_
              exact ih _ _ _ _ h _ _ hP hD hS _ (lv_sub hl [2, 3, 0] rfl)
  have hl := lv_entry ([.ref (ad 0), .int a1]) (n := 4) (Nat.le_of_ble_eq_true rfl)
  rw [lg_entry_eq]
  generalize (lg_sl ([.ref (ad 0), .int a1]) ++ List.replicate (4 - (lg_sl ([.ref (ad 0), .int a1])).length) Slot.unset).toArray = ls at hl ⊢
  have hl : lv_has ls 4 [(0, .ref (ad 0)), (1, .int a1)] := hl
  unfold ff_M_findNext at h
  refine lv_aload_n hx hb dd_M_findNext_0 rfl (lv_at hl 0 rfl) ?_
  refine lv_iconst (v := -1) hx hb dd_M_findNext_1 (by decide) ?_
  refine va_put (D := D) (ci := 4) (v := .int (-1 : Int32)) (ty := .int) (C := "OpenDealModel") (T := T_M) (N := 32) hx hb hk in_M ty_M tk_M nm_M hown hK hP hD hS 0 am_0 rfl 31 (by decide) (hk _ kw_568) (fun _ h9 => h9) rfl (by decide +kernel) rfl rfl (Nat.le_of_ble_eq_true rfl) dd_M_findNext_2 (fun H locs hP hD hS => ?_)
  rw [pt_M31] at hP hD
  refine lv_iconst (v := 0) hx hb dd_M_findNext_5 (by decide) ?_
  refine lv_istore_n (lv' := [(2, .int (0 : Int32)), (0, .ref (ad 0)), (1, .int a1)]) hx hb dd_M_findNext_6 rfl hl (by decide) rfl (fun ls hl => ?_)
  exact L7  _ _ _ _ _ h _ _ hP hD hS _ (lv_sub hl [1, 2, 0] rfl)
def ff_M_round_81  (n : Nat) (I : MI) (J : MJ) (v1 : Int32) (v2 : Int32) (s1 : Int32) : Option (Int32 × MI × MJ) := if narrow .boolean (.int s1) = .int s1 ∧ fits .boolean (.int s1) = true then if ((ui I 0 30 s1) 0 30) = 0 then (some ((1 : Int32), ui I 0 30 s1, J)) else ((ff_M_findNext n (ui I 0 30 s1) J (0 : Int32)).bind fun r3 => some ((1 : Int32), r3.1, r3.2)) else none
def ff_M_round_26  : Nat → MI → MJ → Int32 → Int32 → Option (Int32 × MI × MJ)
  | 0, _, _, _, _ => none
  | n + 1, I, J, v1, v2 => if (I 0 3) ≤ v2 then (if v1 ≤ (1 : Int32) then (ff_M_round_81 n I J v1 v2 (0 : Int32)) else (ff_M_round_81 n I J v1 v2 (1 : Int32))) else (if ¬ (v2 < 0 ∨ 4 ≤ (v2).toNatClampNeg) then if ¬ (v2 < 0 ∨ 4 ≤ (v2).toNatClampNeg) then (ff_M_canAct n (ui (ui I 23 (v2).toNatClampNeg (0 : Int32)) 22 (v2).toNatClampNeg (0 : Int32)) J v2).bind fun r8 => if r8 = 0 then (tl (v1 + (0 : Int32)) fun y10 => ff_M_round_26 n (ui (ui I 23 (v2).toNatClampNeg (0 : Int32)) 22 (v2).toNatClampNeg (0 : Int32)) J y10 (v2 + (1 : Int32))) else (tl (v1 + (1 : Int32)) fun y11 => ff_M_round_26 n (ui (ui I 23 (v2).toNatClampNeg (0 : Int32)) 22 (v2).toNatClampNeg (0 : Int32)) J y11 (v2 + (1 : Int32))) else none else none)
def ff_M_round (n : Nat) (I : MI) (J : MJ)  : Option (Int32 × MI × MJ) := if ((ui I 0 0 (0 : Int32)) 0 4) = (4 : Int32) then (if ((ui I 0 0 (0 : Int32)) 0 30) = 0 then (ff_M_round_26 n (ui I 0 0 (0 : Int32)) J (0 : Int32) (0 : Int32)) else (some ((0 : Int32), ui I 0 0 (0 : Int32), J))) else (some ((0 : Int32), ui I 0 0 (0 : Int32), J))
set_option maxHeartbeats 4000000 in
set_option maxRecDepth 100000 in
theorem mm_M_round (l : Launch) (D : va_G) (kc : Nat → ClassId) (ad : Nat → Nat) (I0 : MI) (J0 : MJ) (sz n : Nat)  (r : Int32 × MI × MJ) (h : ff_M_round n I0 J0  = some r) : Met l yy_M_round (.code yy_M_round cc_M_round 3 (some .boolean) :: kw) { frames := 2, cells := 0, slots := 0, locals := 45 } (va_Pc [.ref (ad 0)] (BW D kc (wM kc ad I0 J0) sz)) (va_Qi (fun z (_ : Unit) => z = r.1) (EW D kc (va_A (wM kc ad I0 J0) sz) (wM kc ad r.2.1 r.2.2)) (va_A (wM kc ad I0 J0) sz)) 0 0 (va_A (wM kc ad I0 J0) sz) := by
  refine Met.ofW (cc := cc_M_round) (maxL := 3) (ret := some .boolean) (by decide) rfl ?_
  intro p e s m args below meth c s₁ B hml hv
  obtain ⟨rfl, hsz, hP, hK, hD0⟩ := hv
  have hx := B.exec
  have hb := B.bytes
  have hr := B.returns
  have hlocks := B.notSynchronized
  have hk : ∀ w ∈ kw, w.before _ s = true := fun w hw => atoms_spec (ws := (.code yy_M_round cc_M_round 3 (some .boolean) :: kw)) B.pre w (List.mem_cons_of_mem _ hw)
  have hown : s.vm.findClass "OpenDealModel" = some m.cls := findClass_of_methodNamed B.named
  subst hsz
  have hD := hD0.self (sz := s.heap.size)
  generalize hAe : va_A (wM kc ad I0 J0) s.heap.size = A at hD ⊢
  have hA : ∀ q : Nat, s.heap.size ≤ q → A q := fun q h => by rw [← hAe]; exact Or.inr h
  have hS : va_S A s.heap s.heap [] := va_S.rf
  have hP : va_P D cls5 (wM kc ad I0 J0) s.heap := hP
  clear hAe hD0
  have L81 : ∀  (n : Nat) (I : MI) (J : MJ) (v1 : Int32) (v2 : Int32) (s1 : Int32), ff_M_round_81 n I J v1 v2 s1 = some r → ∀ (H : Heap) (locs : List Loc), va_P D cls5 (wM kc ad I J) H → va_D A (wM kc ad I J) → va_S A s.heap H locs → ∀ ls, lv_has ls 3 [(0, .ref (ad 0)), (1, .int v1), (2, .int v2)] → W p l e (headSpec (.code yy_M_round cc_M_round 3 (some .boolean) :: kw) { frames := 2, cells := 0, slots := 0, locals := 45 }).room s m ([.ref (ad 0)] : List Value).toArray below meth c H locs 0 0 (MQ below (va_Qi (fun z (_ : Unit) => z = r.1) (EW D kc A (wM kc ad r.2.1 r.2.2)) A) ([.ref (ad 0)] : List Value).toArray s 0 0 A) (F0 m 81 ls [.int s1, .ref (ad 0)]) := by
    intro  n I J v1 v2 s1 h H locs hP hD hS ls hl
    unfold ff_M_round_81 at h
    obtain ⟨hn1, h⟩ := oi_out h
    refine va_put (D := D) (ci := 4) (v := .int s1) (ty := .boolean) (C := "OpenDealModel") (T := T_M) (N := 32) hx hb hk in_M ty_M tk_M nm_M hown hK hP hD hS 0 am_0 rfl 30 (by decide) (hk _ kw_567) (fun _ h9 => h9) rfl (by decide +kernel) hn1.1 hn1.2 (Nat.le_of_ble_eq_true rfl) dd_M_round_81 (fun H locs hP hD hS => ?_)
    rw [pt_M30] at hP hD
    refine lv_aload_n hx hb dd_M_round_84 rfl (lv_at hl 0 rfl) ?_
    refine va_get (D := D) (ci := 4) (v := .int ((ui I 0 30 s1) 0 30)) (C := "OpenDealModel") (T := T_M) (N := 32) hx hb hk in_M hown hK hP 0 am_0 rfl 30 (by decide) (hk _ kw_567) (fun _ h9 => h9) rfl dd_M_round_85 ?_
    refine lv_if_eq (tgt := 96) hx hb dd_M_round_88 (by decide) (fun hc2 => ?_) (fun hc2 => ?_)
    · have h := ip_out hc2 h
      refine lv_iconst (v := 1) hx hb dd_M_round_96 (by decide) ?_
      obtain rfl := Option.some.inj h
      exact W.zret hx hb hr rfl (fun t ht hW => ⟨⟨_, (), rfl, rfl, by rw [ht]; exact hP, va_K.moved hW.alike hK, hD⟩, hS.F ht⟩) hS.2.2 dd_M_round_97
    · have h := in_out hc2 h
      refine lv_aload_n hx hb dd_M_round_91 rfl (lv_at hl 0 rfl) ?_
      refine lv_iconst (v := 0) hx hb dd_M_round_92 (by decide) ?_
      obtain ⟨r3, hr3, h⟩ := ob_out h
      refine cw_Vv (n := 1) (As := [.int (0 : Int32)]) (mc := 0) (ms := 0) hx hb hml hown hk (mm_M_findNext l D kc ad _ _ _ _ _ _ hr3) hK hP hD hS hA 0 am_0 rfl rfl kw_757 kw_759 sel_M_findNext kw_4 kw_760 ⟨rfl, rfl⟩ (by decide +kernel) ⟨Nat.le_of_ble_eq_true rfl, Nat.le_of_ble_eq_true rfl⟩ rfl hl.1 rfl (Nat.le_of_ble_eq_true rfl) dd_M_round_93 ⟨Nat.le_of_ble_eq_true rfl, Nat.le_of_ble_eq_true rfl⟩ (fun H locs hP hD hS => ?_)
      refine lv_iconst (v := 1) hx hb dd_M_round_96 (by decide) ?_
      obtain rfl := Option.some.inj h
      exact W.zret hx hb hr rfl (fun t ht hW => ⟨⟨_, (), rfl, rfl, by rw [ht]; exact hP, va_K.moved hW.alike hK, hD⟩, hS.F ht⟩) hS.2.2 dd_M_round_97
  have L26 : ∀  (n : Nat) (I : MI) (J : MJ) (v1 : Int32) (v2 : Int32), ff_M_round_26 n I J v1 v2 = some r → ∀ (H : Heap) (locs : List Loc), va_P D cls5 (wM kc ad I J) H → va_D A (wM kc ad I J) → va_S A s.heap H locs → ∀ ls, lv_has ls 3 [(0, .ref (ad 0)), (1, .int v1), (2, .int v2)] → W p l e (headSpec (.code yy_M_round cc_M_round 3 (some .boolean) :: kw) { frames := 2, cells := 0, slots := 0, locals := 45 }).room s m ([.ref (ad 0)] : List Value).toArray below meth c H locs 0 0 (MQ below (va_Qi (fun z (_ : Unit) => z = r.1) (EW D kc A (wM kc ad r.2.1 r.2.2)) A) ([.ref (ad 0)] : List Value).toArray s 0 0 A) (F0 m 26 ls []) := by
    intro  n
    induction n with
    | zero => intro I J v1 v2 h; exact absurd h (by simp [ff_M_round_26])
    | succ n ih =>
      intro I J v1 v2 h H locs hP hD hS ls hl
      rw [ff_M_round_26] at h
      refine lv_iload_n hx hb dd_M_round_26 rfl (lv_at hl 2 rfl) ?_
      refine lv_aload_n hx hb dd_M_round_27 rfl (lv_at hl 0 rfl) ?_
      refine va_get (D := D) (ci := 4) (v := .int (I 0 3)) (C := "OpenDealModel") (T := T_M) (N := 32) hx hb hk in_M hown hK hP 0 am_0 rfl 3 (by decide) (hk _ kw_540) (fun _ h9 => h9) rfl dd_M_round_28 ?_
      refine lv_icmp_ge (tgt := 70) hx hb dd_M_round_31 (by decide) (fun hc4 => ?_) (fun hc4 => ?_)
      · have h := ip_out hc4 h
        refine lv_aload_n hx hb dd_M_round_70 rfl (lv_at hl 0 rfl) ?_
        refine lv_iload_n hx hb dd_M_round_71 rfl (lv_at hl 1 rfl) ?_
        refine lv_iconst (v := 1) hx hb dd_M_round_72 (by decide) ?_
        refine lv_icmp_le (tgt := 80) hx hb dd_M_round_73 (by decide) (fun hc5 => ?_) (fun hc5 => ?_)
        · have h := ip_out hc5 h
          refine lv_iconst (v := 0) hx hb dd_M_round_80 (by decide) ?_
          exact L81  _ _ _ _ _ _ h _ _ hP hD hS _ (lv_sub hl [0, 1, 2] rfl)
        · have h := in_out hc5 h
          refine lv_iconst (v := 1) hx hb dd_M_round_76 (by decide) ?_
          refine lv_goto (tgt := 81) hx hb dd_M_round_77 (by decide) ?_
          exact L81  _ _ _ _ _ _ h _ _ hP hD hS _ (lv_sub hl [0, 1, 2] rfl)
      · have h := in_out hc4 h
        refine lv_aload_n hx hb dd_M_round_34 rfl (lv_at hl 0 rfl) ?_
        refine va_get (D := D) (ci := 4) (v := .ref (ad 23)) (C := "OpenDealModel") (T := T_M) (N := 32) hx hb hk in_M hown hK hP 0 am_0 rfl 29 (by decide) (hk _ kw_566) (fun _ h9 => h9) rfl dd_M_round_35 ?_
        refine lv_iload_n hx hb dd_M_round_38 rfl (lv_at hl 2 rfl) ?_
        refine lv_iconst (v := 0) hx hb dd_M_round_39 (by decide) ?_
        obtain ⟨hi6, h⟩ := oi_out h
        refine va_zast hx hb hK hP hD hS 23 2 am_23 rfl (x := (0 : Int32)) hi6 dd_M_round_40 (fun H locs hP hD hS => ?_)
        rw [show vp_nar .boolean (0 : Int32) = (0 : Int32) from rfl] at hP hD
        rw [pm_23] at hP hD
        refine lv_aload_n hx hb dd_M_round_41 rfl (lv_at hl 0 rfl) ?_
        refine va_get (D := D) (ci := 4) (v := .ref (ad 22)) (C := "OpenDealModel") (T := T_M) (N := 32) hx hb hk in_M hown hK hP 0 am_0 rfl 28 (by decide) (hk _ kw_565) (fun _ h9 => h9) rfl dd_M_round_42 ?_
        refine lv_iload_n hx hb dd_M_round_45 rfl (lv_at hl 2 rfl) ?_
        refine lv_iconst (v := 0) hx hb dd_M_round_46 (by decide) ?_
        obtain ⟨hi7, h⟩ := oi_out h
        refine va_iast hx hb hK hP hD hS 22 0 am_22 rfl (x := (0 : Int32)) hi7 dd_M_round_47 (fun H locs hP hD hS => ?_)
        rw [pm_22] at hP hD
        refine lv_iload_n hx hb dd_M_round_48 rfl (lv_at hl 1 rfl) ?_
        refine lv_aload_n hx hb dd_M_round_49 rfl (lv_at hl 0 rfl) ?_
        refine lv_iload_n hx hb dd_M_round_50 rfl (lv_at hl 2 rfl) ?_
        obtain ⟨r8, hr8, h⟩ := ob_out h
        refine cr_Vi (n := 1) (As := [.int v2]) hx hb hml hown hk (mm_M_canAct l D kc ad _ _ _ _ _ hr8) hK hP 0 am_0 rfl rfl kw_753 kw_755 sel_M_canAct kw_4 kw_756 ⟨rfl, rfl⟩ (by decide +kernel) ⟨Nat.le_of_ble_eq_true rfl, Nat.le_of_ble_eq_true rfl⟩ rfl hl.1 rfl (Nat.le_of_ble_eq_true rfl) dd_M_round_51 ⟨Nat.le_of_ble_eq_true rfl, Nat.le_of_ble_eq_true rfl⟩ ?_
        refine lv_if_eq (tgt := 61) hx hb dd_M_round_54 (by decide) (fun hc9 => ?_) (fun hc9 => ?_)
        · have h := ip_out hc9 h
          refine lv_iconst (v := 0) hx hb dd_M_round_61 (by decide) ?_
          refine lv_iadd hx hb dd_M_round_62 ?_
          refine lv_topi (fun y10 ey10 => ?_)
          have h := tl_at ey10 h
          refine lv_istore_n (lv' := [(1, .int y10), (0, .ref (ad 0)), (2, .int v2)]) hx hb dd_M_round_63 rfl hl (by decide) rfl (fun ls hl => ?_)
          refine lv_iinc (v := v2 + (1 : Int32)) (lv' := [(2, .int (v2 + (1 : Int32))), (1, .int y10), (0, .ref (ad 0))]) hx hb dd_M_round_64 hl (k := 2) rfl rfl (by decide) rfl (fun ls hl => ?_)
          refine lv_goto (tgt := 26) hx hb dd_M_round_67 (by decide) ?_
          exact ih _ _ _ _ h _ _ hP hD hS _ (lv_sub hl [2, 1, 0] rfl)
        · have h := in_out hc9 h
          refine lv_iconst (v := 1) hx hb dd_M_round_57 (by decide) ?_
          refine lv_goto (tgt := 62) hx hb dd_M_round_58 (by decide) ?_
          refine lv_iadd hx hb dd_M_round_62 ?_
          refine lv_topi (fun y11 ey11 => ?_)
          have h := tl_at ey11 h
          refine lv_istore_n (lv' := [(1, .int y11), (0, .ref (ad 0)), (2, .int v2)]) hx hb dd_M_round_63 rfl hl (by decide) rfl (fun ls hl => ?_)
          refine lv_iinc (v := v2 + (1 : Int32)) (lv' := [(2, .int (v2 + (1 : Int32))), (1, .int y11), (0, .ref (ad 0))]) hx hb dd_M_round_64 hl (k := 2) rfl rfl (by decide) rfl (fun ls hl => ?_)
          refine lv_goto (tgt := 26) hx hb dd_M_round_67 (by decide) ?_
          exact ih _ _ _ _ h _ _ hP hD hS _ (lv_sub hl [2, 1, 0] rfl)
  have hl := lv_entry ([.ref (ad 0)]) (n := 3) (Nat.le_of_ble_eq_true rfl)
  rw [lg_entry_eq]
  generalize (lg_sl ([.ref (ad 0)]) ++ List.replicate (3 - (lg_sl ([.ref (ad 0)])).length) Slot.unset).toArray = ls at hl ⊢
  have hl : lv_has ls 3 [(0, .ref (ad 0))] := hl
  unfold ff_M_round at h
  refine lv_aload_n hx hb dd_M_round_0 rfl (lv_at hl 0 rfl) ?_
  refine lv_iconst (v := 0) hx hb dd_M_round_1 (by decide) ?_
  refine va_put (D := D) (ci := 4) (v := .int (0 : Int32)) (ty := .int) (C := "OpenDealModel") (T := T_M) (N := 32) hx hb hk in_M ty_M tk_M nm_M hown hK hP hD hS 0 am_0 rfl 0 (by decide) (hk _ kw_537) (fun _ h9 => h9) rfl (by decide +kernel) rfl rfl (Nat.le_of_ble_eq_true rfl) dd_M_round_2 (fun H locs hP hD hS => ?_)
  rw [pt_M0] at hP hD
  refine lv_aload_n hx hb dd_M_round_5 rfl (lv_at hl 0 rfl) ?_
  refine va_get (D := D) (ci := 4) (v := .int ((ui I0 0 0 (0 : Int32)) 0 4)) (C := "OpenDealModel") (T := T_M) (N := 32) hx hb hk in_M hown hK hP 0 am_0 rfl 4 (by decide) (hk _ kw_541) (fun _ h9 => h9) rfl dd_M_round_6 ?_
  refine lv_iconst (v := 4) hx hb dd_M_round_9 (by decide) ?_
  refine lv_icmp_ne (tgt := 20) hx hb dd_M_round_10 (by decide) (fun hc12 => ?_) (fun hc12 => ?_)
  · have h := in_out hc12 h
    refine lv_iconst (v := 0) hx hb dd_M_round_20 (by decide) ?_
    obtain rfl := Option.some.inj h
    exact W.zret hx hb hr rfl (fun t ht hW => ⟨⟨_, (), rfl, rfl, by rw [ht]; exact hP, va_K.moved hW.alike hK, hD⟩, hS.F ht⟩) hS.2.2 dd_M_round_21
  · have h := ip_out hc12 h
    refine lv_aload_n hx hb dd_M_round_13 rfl (lv_at hl 0 rfl) ?_
    refine va_get (D := D) (ci := 4) (v := .int ((ui I0 0 0 (0 : Int32)) 0 30)) (C := "OpenDealModel") (T := T_M) (N := 32) hx hb hk in_M hown hK hP 0 am_0 rfl 30 (by decide) (hk _ kw_567) (fun _ h9 => h9) rfl dd_M_round_14 ?_
    refine lv_if_eq (tgt := 22) hx hb dd_M_round_17 (by decide) (fun hc13 => ?_) (fun hc13 => ?_)
    · have h := ip_out hc13 h
      refine lv_iconst (v := 0) hx hb dd_M_round_22 (by decide) ?_
      refine lv_istore_n (lv' := [(1, .int (0 : Int32)), (0, .ref (ad 0))]) hx hb dd_M_round_23 rfl hl (by decide) rfl (fun ls hl => ?_)
      refine lv_iconst (v := 0) hx hb dd_M_round_24 (by decide) ?_
      refine lv_istore_n (lv' := [(2, .int (0 : Int32)), (1, .int (0 : Int32)), (0, .ref (ad 0))]) hx hb dd_M_round_25 rfl hl (by decide) rfl (fun ls hl => ?_)
      exact L26  _ _ _ _ _ h _ _ hP hD hS _ (lv_sub hl [2, 1, 0] rfl)
    · have h := in_out hc13 h
      refine lv_iconst (v := 0) hx hb dd_M_round_20 (by decide) ?_
      obtain rfl := Option.some.inj h
      exact W.zret hx hb hr rfl (fun t ht hW => ⟨⟨_, (), rfl, rfl, by rw [ht]; exact hP, va_K.moved hW.alike hK, hD⟩, hS.F ht⟩) hS.2.2 dd_M_round_21
def ff_M_pay (n : Nat) (I : MI) (J : MJ) (a1 : Int32) (a2 : Int32) : Option (MI × MJ) := if ¬ (a1 < 0 ∨ 4 ≤ (a1).toNatClampNeg) then if ¬ (a1 < 0 ∨ 4 ≤ (a1).toNatClampNeg) then if ¬ (a1 < 0 ∨ 4 ≤ (a1).toNatClampNeg) then if ¬ (a1 < 0 ∨ 4 ≤ (a1).toNatClampNeg) then if ¬ (a1 < 0 ∨ 4 ≤ (a1).toNatClampNeg) then if ¬ (a1 < 0 ∨ 4 ≤ (a1).toNatClampNeg) then some (ui (ui (ui I 1 (a1).toNatClampNeg ((I 1 (a1).toNatClampNeg) - a2)) 21 (a1).toNatClampNeg (((ui I 1 (a1).toNatClampNeg ((I 1 (a1).toNatClampNeg) - a2)) 21 (a1).toNatClampNeg) + a2)) 22 (a1).toNatClampNeg (((ui (ui I 1 (a1).toNatClampNeg ((I 1 (a1).toNatClampNeg) - a2)) 21 (a1).toNatClampNeg (((ui I 1 (a1).toNatClampNeg ((I 1 (a1).toNatClampNeg) - a2)) 21 (a1).toNatClampNeg) + a2)) 22 (a1).toNatClampNeg) + a2), J) else none else none else none else none else none else none
set_option maxHeartbeats 4000000 in
set_option maxRecDepth 100000 in
theorem mm_M_pay (l : Launch) (D : va_G) (kc : Nat → ClassId) (ad : Nat → Nat) (I0 : MI) (J0 : MJ) (sz n : Nat) (a1 : Int32) (a2 : Int32) (r : MI × MJ) (h : ff_M_pay n I0 J0 a1 a2 = some r) : Met l yy_M_pay (.code yy_M_pay cc_M_pay 3 (none) :: kw) { frames := 0, cells := 0, slots := 0, locals := 0 } (va_Pc [.ref (ad 0), .int a1, .int a2] (BW D kc (wM kc ad I0 J0) sz)) (va_Qv (fun (_ : Unit) => True) (EW D kc (va_A (wM kc ad I0 J0) sz) (wM kc ad r.1 r.2)) (va_A (wM kc ad I0 J0) sz)) 0 0 (va_A (wM kc ad I0 J0) sz) := by
  refine Met.ofW (cc := cc_M_pay) (maxL := 3) (ret := none) (by decide) rfl ?_
  intro p e s m args below meth c s₁ B hml hv
  obtain ⟨rfl, hsz, hP, hK, hD0⟩ := hv
  have hx := B.exec
  have hb := B.bytes
  have hr := B.returns
  have hlocks := B.notSynchronized
  have hk : ∀ w ∈ kw, w.before _ s = true := fun w hw => atoms_spec (ws := (.code yy_M_pay cc_M_pay 3 (none) :: kw)) B.pre w (List.mem_cons_of_mem _ hw)
  have hown : s.vm.findClass "OpenDealModel" = some m.cls := findClass_of_methodNamed B.named
  subst hsz
  have hD := hD0.self (sz := s.heap.size)
  generalize hAe : va_A (wM kc ad I0 J0) s.heap.size = A at hD ⊢
  have hA : ∀ q : Nat, s.heap.size ≤ q → A q := fun q h => by rw [← hAe]; exact Or.inr h
  have hS : va_S A s.heap s.heap [] := va_S.rf
  have hP : va_P D cls5 (wM kc ad I0 J0) s.heap := hP
  clear hAe hD0
  have hl := lv_entry ([.ref (ad 0), .int a1, .int a2]) (n := 3) (Nat.le_of_ble_eq_true rfl)
  rw [lg_entry_eq]
  generalize (lg_sl ([.ref (ad 0), .int a1, .int a2]) ++ List.replicate (3 - (lg_sl ([.ref (ad 0), .int a1, .int a2])).length) Slot.unset).toArray = ls at hl ⊢
  have hl : lv_has ls 3 [(0, .ref (ad 0)), (1, .int a1), (2, .int a2)] := hl
  unfold ff_M_pay at h
  refine lv_aload_n hx hb dd_M_pay_0 rfl (lv_at hl 0 rfl) ?_
  refine va_get (D := D) (ci := 4) (v := .ref (ad 1)) (C := "OpenDealModel") (T := T_M) (N := 32) hx hb hk in_M hown hK hP 0 am_0 rfl 5 (by decide) (hk _ kw_542) (fun _ h9 => h9) rfl dd_M_pay_1 ?_
  refine lv_iload_n hx hb dd_M_pay_4 rfl (lv_at hl 1 rfl) ?_
  refine lv_dup2_11 hx hb dd_M_pay_5 rfl rfl ?_
  obtain ⟨hi1, h⟩ := oi_out h
  refine va_iald hx hb hK hP 1 0 am_1 rfl hi1 dd_M_pay_6 ?_
  refine lv_iload_n hx hb dd_M_pay_7 rfl (lv_at hl 2 rfl) ?_
  refine lv_isub hx hb dd_M_pay_8 ?_
  obtain ⟨hi2, h⟩ := oi_out h
  refine va_iast hx hb hK hP hD hS 1 0 am_1 rfl (x := (I0 1 (a1).toNatClampNeg) - a2) hi2 dd_M_pay_9 (fun H locs hP hD hS => ?_)
  rw [pm_1] at hP hD
  refine lv_aload_n hx hb dd_M_pay_10 rfl (lv_at hl 0 rfl) ?_
  refine va_get (D := D) (ci := 4) (v := .ref (ad 21)) (C := "OpenDealModel") (T := T_M) (N := 32) hx hb hk in_M hown hK hP 0 am_0 rfl 27 (by decide) (hk _ kw_564) (fun _ h9 => h9) rfl dd_M_pay_11 ?_
  refine lv_iload_n hx hb dd_M_pay_14 rfl (lv_at hl 1 rfl) ?_
  refine lv_dup2_11 hx hb dd_M_pay_15 rfl rfl ?_
  obtain ⟨hi3, h⟩ := oi_out h
  refine va_iald hx hb hK hP 21 0 am_21 rfl hi3 dd_M_pay_16 ?_
  refine lv_iload_n hx hb dd_M_pay_17 rfl (lv_at hl 2 rfl) ?_
  refine lv_iadd hx hb dd_M_pay_18 ?_
  obtain ⟨hi4, h⟩ := oi_out h
  refine va_iast hx hb hK hP hD hS 21 0 am_21 rfl (x := ((ui I0 1 (a1).toNatClampNeg ((I0 1 (a1).toNatClampNeg) - a2)) 21 (a1).toNatClampNeg) + a2) hi4 dd_M_pay_19 (fun H locs hP hD hS => ?_)
  rw [pm_21] at hP hD
  refine lv_aload_n hx hb dd_M_pay_20 rfl (lv_at hl 0 rfl) ?_
  refine va_get (D := D) (ci := 4) (v := .ref (ad 22)) (C := "OpenDealModel") (T := T_M) (N := 32) hx hb hk in_M hown hK hP 0 am_0 rfl 28 (by decide) (hk _ kw_565) (fun _ h9 => h9) rfl dd_M_pay_21 ?_
  refine lv_iload_n hx hb dd_M_pay_24 rfl (lv_at hl 1 rfl) ?_
  refine lv_dup2_11 hx hb dd_M_pay_25 rfl rfl ?_
  obtain ⟨hi5, h⟩ := oi_out h
  refine va_iald hx hb hK hP 22 0 am_22 rfl hi5 dd_M_pay_26 ?_
  refine lv_iload_n hx hb dd_M_pay_27 rfl (lv_at hl 2 rfl) ?_
  refine lv_iadd hx hb dd_M_pay_28 ?_
  obtain ⟨hi6, h⟩ := oi_out h
  refine va_iast hx hb hK hP hD hS 22 0 am_22 rfl (x := ((ui (ui I0 1 (a1).toNatClampNeg ((I0 1 (a1).toNatClampNeg) - a2)) 21 (a1).toNatClampNeg (((ui I0 1 (a1).toNatClampNeg ((I0 1 (a1).toNatClampNeg) - a2)) 21 (a1).toNatClampNeg) + a2)) 22 (a1).toNatClampNeg) + a2) hi6 dd_M_pay_29 (fun H locs hP hD hS => ?_)
  rw [pm_22] at hP hD
  obtain rfl := Option.some.inj h
  exact W.vret hx hb hr (fun t ht hW => ⟨⟨(), rfl, trivial, by rw [ht]; exact hP, va_K.moved hW.alike hK, hD⟩, hS.F ht⟩) hS.2.2 dd_M_pay_30
