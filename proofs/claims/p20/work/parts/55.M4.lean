/-! the reference, laid by program -/
def ff_M_bet_152  (n : Nat) (I : MI) (J : MJ) (v1 : Int32) (v2 : Int32) (v3 : Int32) (v4 : Int32) : Option (Int32 × MI × MJ) := if ¬ (v1 < 0 ∨ 4 ≤ (v1).toNatClampNeg) then (ff_M_findNext n (ui I 23 (v1).toNatClampNeg (1 : Int32)) J (v1 + (1 : Int32))).bind fun r2 => some ((1 : Int32), r2.1, r2.2) else none
def ff_M_bet_129  : Nat → MI → MJ → Int32 → Int32 → Int32 → Int32 → Int32 → Option (Int32 × MI × MJ)
  | 0, _, _, _, _, _, _, _ => none
  | n + 1, I, J, v1, v2, v3, v4, v5 => if (I 0 3) ≤ v5 then (ff_M_bet_152 n I J v1 v2 v3 v4) else (if ¬ (v5 < 0 ∨ 4 ≤ (v5).toNatClampNeg) then ff_M_bet_129 n (ui I 23 (v5).toNatClampNeg (0 : Int32)) J v1 v2 v3 v4 (v5 + (1 : Int32)) else none)
def ff_M_bet_112  (n : Nat) (I : MI) (J : MJ) (v1 : Int32) (v2 : Int32) (v3 : Int32) (v4 : Int32) : Option (Int32 × MI × MJ) := if v2 = (2 : Int32) then ((ff_M_pay n I J v1 (v4 + v3)).bind fun r6 => ff_M_bet_129 n r6.1 r6.2 v1 v2 v3 v4 (0 : Int32)) else (ff_M_bet_152 n I J v1 v2 v3 v4)
def ff_M_bet_109  (n : Nat) (I : MI) (J : MJ) (v1 : Int32) (v2 : Int32) (v3 : Int32) (v4 : Int32) (s1 : Int32) (s2 : Int32) : Option (Int32 × MI × MJ) := (ff_M_pay n I J s1 s2).bind fun r7 => ff_M_bet_112 n r7.1 r7.2 v1 v2 v3 v4
def ff_M_bet_80  (n : Nat) (I : MI) (J : MJ) (v1 : Int32) (v2 : Int32) (v3 : Int32) (v4 : Int32) : Option (Int32 × MI × MJ) := if v2 = (1 : Int32) then (if ¬ (v1 < 0 ∨ 4 ≤ (v1).toNatClampNeg) then if (I 1 (v1).toNatClampNeg) ≤ v4 then (if ¬ (v1 < 0 ∨ 4 ≤ (v1).toNatClampNeg) then ff_M_bet_109 n I J v1 v2 v3 v4 v1 (I 1 (v1).toNatClampNeg) else none) else (ff_M_bet_109 n I J v1 v2 v3 v4 v1 v4) else none) else (ff_M_bet_112 n I J v1 v2 v3 v4)
def ff_M_bet_69  (n : Nat) (I : MI) (J : MJ) (v1 : Int32) (v2 : Int32) (v3 : Int32) (v4 : Int32) : Option (Int32 × MI × MJ) := if v2 = 0 then (if ¬ (v1 < 0 ∨ 4 ≤ (v1).toNatClampNeg) then ff_M_bet_80 n (ui I 20 (v1).toNatClampNeg (0 : Int32)) J v1 v2 v3 v4 else none) else (ff_M_bet_80 n I J v1 v2 v3 v4)
def ff_M_bet (n : Nat) (I : MI) (J : MJ) (a1 : Int32) (a2 : Int32) (a3 : Int32) : Option (Int32 × MI × MJ) := if ((ui I 0 0 (0 : Int32)) 0 30) = 0 then (some ((0 : Int32), ui I 0 0 (0 : Int32), J)) else (if a1 = ((ui I 0 0 (0 : Int32)) 0 31) then (if a2 < 0 then (some ((0 : Int32), ui I 0 0 (0 : Int32), J)) else (if a2 ≤ (2 : Int32) then ((ff_M_most n (ui I 0 0 (0 : Int32)) J ).bind fun r18 => if ¬ (a1 < 0 ∨ 4 ≤ (a1).toNatClampNeg) then tl (r18 - ((ui I 0 0 (0 : Int32)) 22 (a1).toNatClampNeg)) fun y20 => if a2 = (2 : Int32) then (if a3 < (1 : Int32) then (some ((0 : Int32), ui I 0 0 (0 : Int32), J)) else (if ¬ (a1 < 0 ∨ 4 ≤ (a1).toNatClampNeg) then if a3 ≤ (((ui I 0 0 (0 : Int32)) 1 (a1).toNatClampNeg) - y20) then (ff_M_bet_69 n (ui I 0 0 (0 : Int32)) J a1 a2 a3 y20) else (some ((0 : Int32), ui I 0 0 (0 : Int32), J)) else none)) else (ff_M_bet_69 n (ui I 0 0 (0 : Int32)) J a1 a2 a3 y20) else none) else (some ((0 : Int32), ui I 0 0 (0 : Int32), J)))) else (some ((0 : Int32), ui I 0 0 (0 : Int32), J)))
set_option maxHeartbeats 4000000 in
set_option maxRecDepth 100000 in
theorem mm_M_bet (l : Launch) (D : va_G) (kc : Nat → ClassId) (ad : Nat → Nat) (I0 : MI) (J0 : MJ) (sz n : Nat) (a1 : Int32) (a2 : Int32) (a3 : Int32) (r : Int32 × MI × MJ) (h : ff_M_bet n I0 J0 a1 a2 a3 = some r) : Met l yy_M_bet (.code yy_M_bet cc_M_bet 6 (some .boolean) :: kw) { frames := 2, cells := 0, slots := 0, locals := 45 } (va_Pc [.ref (ad 0), .int a1, .int a2, .int a3] (BW D kc (wM kc ad I0 J0) sz)) (va_Qi (fun z (_ : Unit) => z = r.1) (EW D kc (va_A (wM kc ad I0 J0) sz) (wM kc ad r.2.1 r.2.2)) (va_A (wM kc ad I0 J0) sz)) 0 0 (va_A (wM kc ad I0 J0) sz) := by
  refine Met.ofW (cc := cc_M_bet) (maxL := 6) (ret := some .boolean) (by decide) rfl ?_
  intro p e s m args below meth c s₁ B hml hv
  obtain ⟨rfl, hsz, hP, hK, hD0⟩ := hv
  have hx := B.exec
  have hb := B.bytes
  have hr := B.returns
  have hlocks := B.notSynchronized
  have hk : ∀ w ∈ kw, w.before _ s = true := fun w hw => atoms_spec (ws := (.code yy_M_bet cc_M_bet 6 (some .boolean) :: kw)) B.pre w (List.mem_cons_of_mem _ hw)
  have hown : s.vm.findClass "OpenDealModel" = some m.cls := findClass_of_methodNamed B.named
  subst hsz
  have hD := hD0.self (sz := s.heap.size)
  generalize hAe : va_A (wM kc ad I0 J0) s.heap.size = A at hD ⊢
  have hA : ∀ q : Nat, s.heap.size ≤ q → A q := fun q h => by rw [← hAe]; exact Or.inr h
  have hS : va_S A s.heap s.heap [] := va_S.rf
  have hP : va_P D cls5 (wM kc ad I0 J0) s.heap := hP
  clear hAe hD0
  have L152 : ∀  (n : Nat) (I : MI) (J : MJ) (v1 : Int32) (v2 : Int32) (v3 : Int32) (v4 : Int32), ff_M_bet_152 n I J v1 v2 v3 v4 = some r → ∀ (H : Heap) (locs : List Loc), va_P D cls5 (wM kc ad I J) H → va_D A (wM kc ad I J) → va_S A s.heap H locs → ∀ ls, lv_has ls 6 [(0, .ref (ad 0)), (1, .int v1), (2, .int v2), (3, .int v3), (4, .int v4)] → W p l e (headSpec (.code yy_M_bet cc_M_bet 6 (some .boolean) :: kw) { frames := 2, cells := 0, slots := 0, locals := 45 }).room s m ([.ref (ad 0), .int a1, .int a2, .int a3] : List Value).toArray below meth c H locs 0 0 (MQ below (va_Qi (fun z (_ : Unit) => z = r.1) (EW D kc A (wM kc ad r.2.1 r.2.2)) A) ([.ref (ad 0), .int a1, .int a2, .int a3] : List Value).toArray s 0 0 A) (F0 m 152 ls []) := by
    intro  n I J v1 v2 v3 v4 h H locs hP hD hS ls hl
    unfold ff_M_bet_152 at h
    refine lv_aload_n hx hb dd_M_bet_152 rfl (lv_at hl 0 rfl) ?_
    refine va_get (D := D) (ci := 4) (v := .ref (ad 23)) (C := "OpenDealModel") (T := T_M) (N := 32) hx hb hk in_M hown hK hP 0 am_0 rfl 29 (by decide) (hk _ kw_566) (fun _ h9 => h9) rfl dd_M_bet_153 ?_
    refine lv_iload_n hx hb dd_M_bet_156 rfl (lv_at hl 1 rfl) ?_
    refine lv_iconst (v := 1) hx hb dd_M_bet_157 (by decide) ?_
    obtain ⟨hi1, h⟩ := oi_out h
    refine va_zast hx hb hK hP hD hS 23 2 am_23 rfl (x := (1 : Int32)) hi1 dd_M_bet_158 (fun H locs hP hD hS => ?_)
    rw [show vp_nar .boolean (1 : Int32) = (1 : Int32) from rfl] at hP hD
    rw [pm_23] at hP hD
    refine lv_aload_n hx hb dd_M_bet_159 rfl (lv_at hl 0 rfl) ?_
    refine lv_iload_n hx hb dd_M_bet_160 rfl (lv_at hl 1 rfl) ?_
    refine lv_iconst (v := 1) hx hb dd_M_bet_161 (by decide) ?_
    refine lv_iadd hx hb dd_M_bet_162 ?_
    obtain ⟨r2, hr2, h⟩ := ob_out h
    refine cw_Vv (n := 1) (As := [.int (v1 + (1 : Int32))]) (mc := 0) (ms := 0) hx hb hml hown hk (mm_M_findNext l D kc ad _ _ _ _ _ _ hr2) hK hP hD hS hA 0 am_0 rfl rfl kw_757 kw_759 sel_M_findNext kw_4 kw_760 ⟨rfl, rfl⟩ (by decide +kernel) ⟨Nat.le_of_ble_eq_true rfl, Nat.le_of_ble_eq_true rfl⟩ rfl hl.1 rfl (Nat.le_of_ble_eq_true rfl) dd_M_bet_163 ⟨Nat.le_of_ble_eq_true rfl, Nat.le_of_ble_eq_true rfl⟩ (fun H locs hP hD hS => ?_)
    refine lv_iconst (v := 1) hx hb dd_M_bet_166 (by decide) ?_
    obtain rfl := Option.some.inj h
    exact W.zret hx hb hr rfl (fun t ht hW => ⟨⟨_, (), rfl, rfl, by rw [ht]; exact hP, va_K.moved hW.alike hK, hD⟩, hS.F ht⟩) hS.2.2 dd_M_bet_167
  have L129 : ∀  (n : Nat) (I : MI) (J : MJ) (v1 : Int32) (v2 : Int32) (v3 : Int32) (v4 : Int32) (v5 : Int32), ff_M_bet_129 n I J v1 v2 v3 v4 v5 = some r → ∀ (H : Heap) (locs : List Loc), va_P D cls5 (wM kc ad I J) H → va_D A (wM kc ad I J) → va_S A s.heap H locs → ∀ ls, lv_has ls 6 [(0, .ref (ad 0)), (1, .int v1), (2, .int v2), (3, .int v3), (4, .int v4), (5, .int v5)] → W p l e (headSpec (.code yy_M_bet cc_M_bet 6 (some .boolean) :: kw) { frames := 2, cells := 0, slots := 0, locals := 45 }).room s m ([.ref (ad 0), .int a1, .int a2, .int a3] : List Value).toArray below meth c H locs 0 0 (MQ below (va_Qi (fun z (_ : Unit) => z = r.1) (EW D kc A (wM kc ad r.2.1 r.2.2)) A) ([.ref (ad 0), .int a1, .int a2, .int a3] : List Value).toArray s 0 0 A) (F0 m 129 ls []) := by
    intro  n
    induction n with
    | zero => intro I J v1 v2 v3 v4 v5 h; exact absurd h (by simp [ff_M_bet_129])
    | succ n ih =>
      intro I J v1 v2 v3 v4 v5 h H locs hP hD hS ls hl
      rw [ff_M_bet_129] at h
      refine lv_iload hx hb dd_M_bet_129 (lv_at hl 5 rfl) ?_
      refine lv_aload_n hx hb dd_M_bet_131 rfl (lv_at hl 0 rfl) ?_
      refine va_get (D := D) (ci := 4) (v := .int (I 0 3)) (C := "OpenDealModel") (T := T_M) (N := 32) hx hb hk in_M hown hK hP 0 am_0 rfl 3 (by decide) (hk _ kw_540) (fun _ h9 => h9) rfl dd_M_bet_132 ?_
      refine lv_icmp_ge (tgt := 152) hx hb dd_M_bet_135 (by decide) (fun hc3 => ?_) (fun hc3 => ?_)
      · have h := ip_out hc3 h
        exact L152  _ _ _ _ _ _ _ h _ _ hP hD hS _ (lv_sub hl [0, 1, 2, 3, 4] rfl)
      · have h := in_out hc3 h
        refine lv_aload_n hx hb dd_M_bet_138 rfl (lv_at hl 0 rfl) ?_
        refine va_get (D := D) (ci := 4) (v := .ref (ad 23)) (C := "OpenDealModel") (T := T_M) (N := 32) hx hb hk in_M hown hK hP 0 am_0 rfl 29 (by decide) (hk _ kw_566) (fun _ h9 => h9) rfl dd_M_bet_139 ?_
        refine lv_iload hx hb dd_M_bet_142 (lv_at hl 5 rfl) ?_
        refine lv_iconst (v := 0) hx hb dd_M_bet_144 (by decide) ?_
        obtain ⟨hi4, h⟩ := oi_out h
        refine va_zast hx hb hK hP hD hS 23 2 am_23 rfl (x := (0 : Int32)) hi4 dd_M_bet_145 (fun H locs hP hD hS => ?_)
        rw [show vp_nar .boolean (0 : Int32) = (0 : Int32) from rfl] at hP hD
        rw [pm_23] at hP hD
        refine lv_iinc (v := v5 + (1 : Int32)) (lv' := [(5, .int (v5 + (1 : Int32))), (0, .ref (ad 0)), (1, .int v1), (2, .int v2), (3, .int v3), (4, .int v4)]) hx hb dd_M_bet_146 hl (k := 5) rfl rfl (by decide) rfl (fun ls hl => ?_)
        refine lv_goto (tgt := 129) hx hb dd_M_bet_149 (by decide) ?_
        exact ih _ _ _ _ _ _ _ h _ _ hP hD hS _ (lv_sub hl [1, 2, 3, 4, 5, 0] rfl)
  have L112 : ∀  (n : Nat) (I : MI) (J : MJ) (v1 : Int32) (v2 : Int32) (v3 : Int32) (v4 : Int32), ff_M_bet_112 n I J v1 v2 v3 v4 = some r → ∀ (H : Heap) (locs : List Loc), va_P D cls5 (wM kc ad I J) H → va_D A (wM kc ad I J) → va_S A s.heap H locs → ∀ ls, lv_has ls 6 [(0, .ref (ad 0)), (1, .int v1), (2, .int v2), (3, .int v3), (4, .int v4)] → W p l e (headSpec (.code yy_M_bet cc_M_bet 6 (some .boolean) :: kw) { frames := 2, cells := 0, slots := 0, locals := 45 }).room s m ([.ref (ad 0), .int a1, .int a2, .int a3] : List Value).toArray below meth c H locs 0 0 (MQ below (va_Qi (fun z (_ : Unit) => z = r.1) (EW D kc A (wM kc ad r.2.1 r.2.2)) A) ([.ref (ad 0), .int a1, .int a2, .int a3] : List Value).toArray s 0 0 A) (F0 m 112 ls []) := by
    intro  n I J v1 v2 v3 v4 h H locs hP hD hS ls hl
    unfold ff_M_bet_112 at h
    refine lv_iload_n hx hb dd_M_bet_112 rfl (lv_at hl 2 rfl) ?_
    refine lv_iconst (v := 2) hx hb dd_M_bet_113 (by decide) ?_
    refine lv_icmp_ne (tgt := 152) hx hb dd_M_bet_114 (by decide) (fun hc5 => ?_) (fun hc5 => ?_)
    · have h := in_out hc5 h
      exact L152  _ _ _ _ _ _ _ h _ _ hP hD hS _ (lv_sub hl [0, 1, 2, 3, 4] rfl)
    · have h := ip_out hc5 h
      refine lv_aload_n hx hb dd_M_bet_117 rfl (lv_at hl 0 rfl) ?_
      refine lv_iload_n hx hb dd_M_bet_118 rfl (lv_at hl 1 rfl) ?_
      refine lv_iload hx hb dd_M_bet_119 (lv_at hl 4 rfl) ?_
      refine lv_iload_n hx hb dd_M_bet_121 rfl (lv_at hl 3 rfl) ?_
      refine lv_iadd hx hb dd_M_bet_122 ?_
      obtain ⟨r6, hr6, h⟩ := ob_out h
      refine cw_Vv (n := 2) (As := [.int v1, .int (v4 + v3)]) (mc := 0) (ms := 0) hx hb hml hown hk (mm_M_pay l D kc ad _ _ _ _ _ _ _ hr6) hK hP hD hS hA 0 am_0 rfl rfl kw_777 kw_779 sel_M_pay kw_4 kw_780 ⟨rfl, rfl⟩ (by decide +kernel) ⟨Nat.le_of_ble_eq_true rfl, Nat.le_of_ble_eq_true rfl⟩ rfl hl.1 rfl (Nat.le_of_ble_eq_true rfl) dd_M_bet_123 ⟨Nat.le_of_ble_eq_true rfl, Nat.le_of_ble_eq_true rfl⟩ (fun H locs hP hD hS => ?_)
      refine lv_iconst (v := 0) hx hb dd_M_bet_126 (by decide) ?_
      refine lv_istore (lv' := [(5, .int (0 : Int32)), (0, .ref (ad 0)), (1, .int v1), (2, .int v2), (3, .int v3), (4, .int v4)]) hx hb dd_M_bet_127 hl (by decide) rfl (fun ls hl => ?_)
      exact L129  _ _ _ _ _ _ _ _ h _ _ hP hD hS _ (lv_sub hl [1, 2, 3, 4, 5, 0] rfl)
  have L109 : ∀  (n : Nat) (I : MI) (J : MJ) (v1 : Int32) (v2 : Int32) (v3 : Int32) (v4 : Int32) (s1 : Int32) (s2 : Int32), ff_M_bet_109 n I J v1 v2 v3 v4 s1 s2 = some r → ∀ (H : Heap) (locs : List Loc), va_P D cls5 (wM kc ad I J) H → va_D A (wM kc ad I J) → va_S A s.heap H locs → ∀ ls, lv_has ls 6 [(0, .ref (ad 0)), (1, .int v1), (2, .int v2), (3, .int v3), (4, .int v4)] → W p l e (headSpec (.code yy_M_bet cc_M_bet 6 (some .boolean) :: kw) { frames := 2, cells := 0, slots := 0, locals := 45 }).room s m ([.ref (ad 0), .int a1, .int a2, .int a3] : List Value).toArray below meth c H locs 0 0 (MQ below (va_Qi (fun z (_ : Unit) => z = r.1) (EW D kc A (wM kc ad r.2.1 r.2.2)) A) ([.ref (ad 0), .int a1, .int a2, .int a3] : List Value).toArray s 0 0 A) (F0 m 109 ls [.int s2, .int s1, .ref (ad 0)]) := by
    intro  n I J v1 v2 v3 v4 s1 s2 h H locs hP hD hS ls hl
    unfold ff_M_bet_109 at h
    obtain ⟨r7, hr7, h⟩ := ob_out h
    refine cw_Vv (n := 2) (As := [.int s1, .int s2]) (mc := 0) (ms := 0) hx hb hml hown hk (mm_M_pay l D kc ad _ _ _ _ _ _ _ hr7) hK hP hD hS hA 0 am_0 rfl rfl kw_777 kw_779 sel_M_pay kw_4 kw_780 ⟨rfl, rfl⟩ (by decide +kernel) ⟨Nat.le_of_ble_eq_true rfl, Nat.le_of_ble_eq_true rfl⟩ rfl hl.1 rfl (Nat.le_of_ble_eq_true rfl) dd_M_bet_109 ⟨Nat.le_of_ble_eq_true rfl, Nat.le_of_ble_eq_true rfl⟩ (fun H locs hP hD hS => ?_)
    exact L112  _ _ _ _ _ _ _ h _ _ hP hD hS _ (lv_sub hl [0, 1, 2, 3, 4] rfl)
  have L80 : ∀  (n : Nat) (I : MI) (J : MJ) (v1 : Int32) (v2 : Int32) (v3 : Int32) (v4 : Int32), ff_M_bet_80 n I J v1 v2 v3 v4 = some r → ∀ (H : Heap) (locs : List Loc), va_P D cls5 (wM kc ad I J) H → va_D A (wM kc ad I J) → va_S A s.heap H locs → ∀ ls, lv_has ls 6 [(0, .ref (ad 0)), (1, .int v1), (2, .int v2), (3, .int v3), (4, .int v4)] → W p l e (headSpec (.code yy_M_bet cc_M_bet 6 (some .boolean) :: kw) { frames := 2, cells := 0, slots := 0, locals := 45 }).room s m ([.ref (ad 0), .int a1, .int a2, .int a3] : List Value).toArray below meth c H locs 0 0 (MQ below (va_Qi (fun z (_ : Unit) => z = r.1) (EW D kc A (wM kc ad r.2.1 r.2.2)) A) ([.ref (ad 0), .int a1, .int a2, .int a3] : List Value).toArray s 0 0 A) (F0 m 80 ls []) := by
    intro  n I J v1 v2 v3 v4 h H locs hP hD hS ls hl
    unfold ff_M_bet_80 at h
    refine lv_iload_n hx hb dd_M_bet_80 rfl (lv_at hl 2 rfl) ?_
    refine lv_iconst (v := 1) hx hb dd_M_bet_81 (by decide) ?_
    refine lv_icmp_ne (tgt := 112) hx hb dd_M_bet_82 (by decide) (fun hc8 => ?_) (fun hc8 => ?_)
    · have h := in_out hc8 h
      exact L112  _ _ _ _ _ _ _ h _ _ hP hD hS _ (lv_sub hl [0, 1, 2, 3, 4] rfl)
    · have h := ip_out hc8 h
      refine lv_aload_n hx hb dd_M_bet_85 rfl (lv_at hl 0 rfl) ?_
      refine lv_iload_n hx hb dd_M_bet_86 rfl (lv_at hl 1 rfl) ?_
      refine lv_iload hx hb dd_M_bet_87 (lv_at hl 4 rfl) ?_
      refine lv_aload_n hx hb dd_M_bet_89 rfl (lv_at hl 0 rfl) ?_
      refine va_get (D := D) (ci := 4) (v := .ref (ad 1)) (C := "OpenDealModel") (T := T_M) (N := 32) hx hb hk in_M hown hK hP 0 am_0 rfl 5 (by decide) (hk _ kw_542) (fun _ h9 => h9) rfl dd_M_bet_90 ?_
      refine lv_iload_n hx hb dd_M_bet_93 rfl (lv_at hl 1 rfl) ?_
      obtain ⟨hi9, h⟩ := oi_out h
      refine va_iald hx hb hK hP 1 0 am_1 rfl hi9 dd_M_bet_94 ?_
      refine lv_icmp_ge (tgt := 103) hx hb dd_M_bet_95 (by decide) (fun hc10 => ?_) (fun hc10 => ?_)
      · have h := ip_out hc10 h
        refine lv_aload_n hx hb dd_M_bet_103 rfl (lv_at hl 0 rfl) ?_
        refine va_get (D := D) (ci := 4) (v := .ref (ad 1)) (C := "OpenDealModel") (T := T_M) (N := 32) hx hb hk in_M hown hK hP 0 am_0 rfl 5 (by decide) (hk _ kw_542) (fun _ h9 => h9) rfl dd_M_bet_104 ?_
        refine lv_iload_n hx hb dd_M_bet_107 rfl (lv_at hl 1 rfl) ?_
        obtain ⟨hi11, h⟩ := oi_out h
        refine va_iald hx hb hK hP 1 0 am_1 rfl hi11 dd_M_bet_108 ?_
        exact L109  _ _ _ _ _ _ _ _ _ h _ _ hP hD hS _ (lv_sub hl [0, 1, 2, 3, 4] rfl)
      · have h := in_out hc10 h
        refine lv_iload hx hb dd_M_bet_98 (lv_at hl 4 rfl) ?_
        refine lv_goto (tgt := 109) hx hb dd_M_bet_100 (by decide) ?_
        exact L109  _ _ _ _ _ _ _ _ _ h _ _ hP hD hS _ (lv_sub hl [0, 1, 2, 3, 4] rfl)
  have L69 : ∀  (n : Nat) (I : MI) (J : MJ) (v1 : Int32) (v2 : Int32) (v3 : Int32) (v4 : Int32), ff_M_bet_69 n I J v1 v2 v3 v4 = some r → ∀ (H : Heap) (locs : List Loc), va_P D cls5 (wM kc ad I J) H → va_D A (wM kc ad I J) → va_S A s.heap H locs → ∀ ls, lv_has ls 6 [(0, .ref (ad 0)), (1, .int v1), (2, .int v2), (3, .int v3), (4, .int v4)] → W p l e (headSpec (.code yy_M_bet cc_M_bet 6 (some .boolean) :: kw) { frames := 2, cells := 0, slots := 0, locals := 45 }).room s m ([.ref (ad 0), .int a1, .int a2, .int a3] : List Value).toArray below meth c H locs 0 0 (MQ below (va_Qi (fun z (_ : Unit) => z = r.1) (EW D kc A (wM kc ad r.2.1 r.2.2)) A) ([.ref (ad 0), .int a1, .int a2, .int a3] : List Value).toArray s 0 0 A) (F0 m 69 ls []) := by
    intro  n I J v1 v2 v3 v4 h H locs hP hD hS ls hl
    unfold ff_M_bet_69 at h
    refine lv_iload_n hx hb dd_M_bet_69 rfl (lv_at hl 2 rfl) ?_
    refine lv_if_ne (tgt := 80) hx hb dd_M_bet_70 (by decide) (fun hc12 => ?_) (fun hc12 => ?_)
    · have h := in_out hc12 h
      exact L80  _ _ _ _ _ _ _ h _ _ hP hD hS _ (lv_sub hl [0, 1, 2, 3, 4] rfl)
    · have h := ip_out hc12 h
      refine lv_aload_n hx hb dd_M_bet_73 rfl (lv_at hl 0 rfl) ?_
      refine va_get (D := D) (ci := 4) (v := .ref (ad 20)) (C := "OpenDealModel") (T := T_M) (N := 32) hx hb hk in_M hown hK hP 0 am_0 rfl 26 (by decide) (hk _ kw_563) (fun _ h9 => h9) rfl dd_M_bet_74 ?_
      refine lv_iload_n hx hb dd_M_bet_77 rfl (lv_at hl 1 rfl) ?_
      refine lv_iconst (v := 0) hx hb dd_M_bet_78 (by decide) ?_
      obtain ⟨hi13, h⟩ := oi_out h
      refine va_zast hx hb hK hP hD hS 20 2 am_20 rfl (x := (0 : Int32)) hi13 dd_M_bet_79 (fun H locs hP hD hS => ?_)
      rw [show vp_nar .boolean (0 : Int32) = (0 : Int32) from rfl] at hP hD
      rw [pm_20] at hP hD
      exact L80  _ _ _ _ _ _ _ h _ _ hP hD hS _ (lv_sub hl [0, 1, 2, 3, 4] rfl)
  have hl := lv_entry ([.ref (ad 0), .int a1, .int a2, .int a3]) (n := 6) (Nat.le_of_ble_eq_true rfl)
  rw [lg_entry_eq]
  generalize (lg_sl ([.ref (ad 0), .int a1, .int a2, .int a3]) ++ List.replicate (6 - (lg_sl ([.ref (ad 0), .int a1, .int a2, .int a3])).length) Slot.unset).toArray = ls at hl ⊢
  have hl : lv_has ls 6 [(0, .ref (ad 0)), (1, .int a1), (2, .int a2), (3, .int a3)] := hl
  unfold ff_M_bet at h
  refine lv_aload_n hx hb dd_M_bet_0 rfl (lv_at hl 0 rfl) ?_
  refine lv_iconst (v := 0) hx hb dd_M_bet_1 (by decide) ?_
  refine va_put (D := D) (ci := 4) (v := .int (0 : Int32)) (ty := .int) (C := "OpenDealModel") (T := T_M) (N := 32) hx hb hk in_M ty_M tk_M nm_M hown hK hP hD hS 0 am_0 rfl 0 (by decide) (hk _ kw_537) (fun _ h9 => h9) rfl (by decide +kernel) rfl rfl (Nat.le_of_ble_eq_true rfl) dd_M_bet_2 (fun H locs hP hD hS => ?_)
  rw [pt_M0] at hP hD
  refine lv_aload_n hx hb dd_M_bet_5 rfl (lv_at hl 0 rfl) ?_
  refine va_get (D := D) (ci := 4) (v := .int ((ui I0 0 0 (0 : Int32)) 0 30)) (C := "OpenDealModel") (T := T_M) (N := 32) hx hb hk in_M hown hK hP 0 am_0 rfl 30 (by decide) (hk _ kw_567) (fun _ h9 => h9) rfl dd_M_bet_6 ?_
  refine lv_if_eq (tgt := 29) hx hb dd_M_bet_9 (by decide) (fun hc14 => ?_) (fun hc14 => ?_)
  · have h := ip_out hc14 h
    refine lv_iconst (v := 0) hx hb dd_M_bet_29 (by decide) ?_
    obtain rfl := Option.some.inj h
    exact W.zret hx hb hr rfl (fun t ht hW => ⟨⟨_, (), rfl, rfl, by rw [ht]; exact hP, va_K.moved hW.alike hK, hD⟩, hS.F ht⟩) hS.2.2 dd_M_bet_30
  · have h := in_out hc14 h
    refine lv_iload_n hx hb dd_M_bet_12 rfl (lv_at hl 1 rfl) ?_
    refine lv_aload_n hx hb dd_M_bet_13 rfl (lv_at hl 0 rfl) ?_
    refine va_get (D := D) (ci := 4) (v := .int ((ui I0 0 0 (0 : Int32)) 0 31)) (C := "OpenDealModel") (T := T_M) (N := 32) hx hb hk in_M hown hK hP 0 am_0 rfl 31 (by decide) (hk _ kw_568) (fun _ h9 => h9) rfl dd_M_bet_14 ?_
    refine lv_icmp_ne (tgt := 29) hx hb dd_M_bet_17 (by decide) (fun hc15 => ?_) (fun hc15 => ?_)
    · have h := in_out hc15 h
      refine lv_iconst (v := 0) hx hb dd_M_bet_29 (by decide) ?_
      obtain rfl := Option.some.inj h
      exact W.zret hx hb hr rfl (fun t ht hW => ⟨⟨_, (), rfl, rfl, by rw [ht]; exact hP, va_K.moved hW.alike hK, hD⟩, hS.F ht⟩) hS.2.2 dd_M_bet_30
    · have h := ip_out hc15 h
      refine lv_iload_n hx hb dd_M_bet_20 rfl (lv_at hl 2 rfl) ?_
      refine lv_if_lt (tgt := 29) hx hb dd_M_bet_21 (by decide) (fun hc16 => ?_) (fun hc16 => ?_)
      · have h := ip_out hc16 h
        refine lv_iconst (v := 0) hx hb dd_M_bet_29 (by decide) ?_
        obtain rfl := Option.some.inj h
        exact W.zret hx hb hr rfl (fun t ht hW => ⟨⟨_, (), rfl, rfl, by rw [ht]; exact hP, va_K.moved hW.alike hK, hD⟩, hS.F ht⟩) hS.2.2 dd_M_bet_30
      · have h := in_out hc16 h
        refine lv_iload_n hx hb dd_M_bet_24 rfl (lv_at hl 2 rfl) ?_
        refine lv_iconst (v := 2) hx hb dd_M_bet_25 (by decide) ?_
        refine lv_icmp_le (tgt := 31) hx hb dd_M_bet_26 (by decide) (fun hc17 => ?_) (fun hc17 => ?_)
        · have h := ip_out hc17 h
          refine lv_aload_n hx hb dd_M_bet_31 rfl (lv_at hl 0 rfl) ?_
          obtain ⟨r18, hr18, h⟩ := ob_out h
          refine cr_Vi (n := 0) (As := []) hx hb hml hown hk (mm_M_most l D kc ad _ _ _  _ hr18) hK hP 0 am_0 rfl rfl kw_773 kw_775 sel_M_most kw_4 kw_776 ⟨rfl, rfl⟩ (by decide +kernel) ⟨Nat.le_of_ble_eq_true rfl, Nat.le_of_ble_eq_true rfl⟩ rfl hl.1 rfl (Nat.le_of_ble_eq_true rfl) dd_M_bet_32 ⟨Nat.le_of_ble_eq_true rfl, Nat.le_of_ble_eq_true rfl⟩ ?_
          refine lv_aload_n hx hb dd_M_bet_35 rfl (lv_at hl 0 rfl) ?_
          refine va_get (D := D) (ci := 4) (v := .ref (ad 22)) (C := "OpenDealModel") (T := T_M) (N := 32) hx hb hk in_M hown hK hP 0 am_0 rfl 28 (by decide) (hk _ kw_565) (fun _ h9 => h9) rfl dd_M_bet_36 ?_
          refine lv_iload_n hx hb dd_M_bet_39 rfl (lv_at hl 1 rfl) ?_
          obtain ⟨hi19, h⟩ := oi_out h
          refine va_iald hx hb hK hP 22 0 am_22 rfl hi19 dd_M_bet_40 ?_
          refine lv_isub hx hb dd_M_bet_41 ?_
          refine lv_topi (fun y20 ey20 => ?_)
          have h := tl_at ey20 h
          refine lv_istore (lv' := [(4, .int y20), (0, .ref (ad 0)), (1, .int a1), (2, .int a2), (3, .int a3)]) hx hb dd_M_bet_42 hl (by decide) rfl (fun ls hl => ?_)
          refine lv_iload_n hx hb dd_M_bet_44 rfl (lv_at hl 3 rfl) ?_
          refine lv_iconst (v := 2) hx hb dd_M_bet_45 (by decide) ?_
          refine lv_icmp_ne (tgt := 69) hx hb dd_M_bet_46 (by decide) (fun hc21 => ?_) (fun hc21 => ?_)
          · have h := in_out hc21 h
            exact L69  _ _ _ _ _ _ _ h _ _ hP hD hS _ (lv_sub hl [1, 2, 3, 4, 0] rfl)
          · have h := ip_out hc21 h
            refine lv_iload_n hx hb dd_M_bet_49 rfl (lv_at hl 4 rfl) ?_
            refine lv_iconst (v := 1) hx hb dd_M_bet_50 (by decide) ?_
            refine lv_icmp_lt (tgt := 67) hx hb dd_M_bet_51 (by decide) (fun hc22 => ?_) (fun hc22 => ?_)
            · have h := ip_out hc22 h
              refine lv_iconst (v := 0) hx hb dd_M_bet_67 (by decide) ?_
              obtain rfl := Option.some.inj h
              exact W.zret hx hb hr rfl (fun t ht hW => ⟨⟨_, (), rfl, rfl, by rw [ht]; exact hP, va_K.moved hW.alike hK, hD⟩, hS.F ht⟩) hS.2.2 dd_M_bet_68
            · have h := in_out hc22 h
              refine lv_iload_n hx hb dd_M_bet_54 rfl (lv_at hl 4 rfl) ?_
              refine lv_aload_n hx hb dd_M_bet_55 rfl (lv_at hl 1 rfl) ?_
              refine va_get (D := D) (ci := 4) (v := .ref (ad 1)) (C := "OpenDealModel") (T := T_M) (N := 32) hx hb hk in_M hown hK hP 0 am_0 rfl 5 (by decide) (hk _ kw_542) (fun _ h9 => h9) rfl dd_M_bet_56 ?_
              refine lv_iload_n hx hb dd_M_bet_59 rfl (lv_at hl 2 rfl) ?_
              obtain ⟨hi23, h⟩ := oi_out h
              refine va_iald hx hb hK hP 1 0 am_1 rfl hi23 dd_M_bet_60 ?_
              refine lv_iload hx hb dd_M_bet_61 (lv_at hl 0 rfl) ?_
              refine lv_isub hx hb dd_M_bet_63 ?_
              refine lv_icmp_le (tgt := 69) hx hb dd_M_bet_64 (by decide) (fun hc24 => ?_) (fun hc24 => ?_)
              · have h := ip_out hc24 h
                exact L69  _ _ _ _ _ _ _ h _ _ hP hD hS _ (lv_sub hl [1, 2, 3, 4, 0] rfl)
              · have h := in_out hc24 h
                refine lv_iconst (v := 0) hx hb dd_M_bet_67 (by decide) ?_
                obtain rfl := Option.some.inj h
                exact W.zret hx hb hr rfl (fun t ht hW => ⟨⟨_, (), rfl, rfl, by rw [ht]; exact hP, va_K.moved hW.alike hK, hD⟩, hS.F ht⟩) hS.2.2 dd_M_bet_68
        · have h := in_out hc17 h
          refine lv_iconst (v := 0) hx hb dd_M_bet_29 (by decide) ?_
          obtain rfl := Option.some.inj h
          exact W.zret hx hb hr rfl (fun t ht hW => ⟨⟨_, (), rfl, rfl, by rw [ht]; exact hP, va_K.moved hW.alike hK, hD⟩, hS.F ht⟩) hS.2.2 dd_M_bet_30
def ff_M_payLayer_311  : Nat → MI → MJ → Int32 → Int32 → Int32 → Int32 → Int32 → Int32 → Int32 → Option (Int32 × MI × MJ)
  | 0, _, _, _, _, _, _, _, _, _ => none
  | n + 1, I, J, v1, v2, v3, v4, v5, v6, v7 => if (I 0 3) ≤ v7 then (some ((1 : Int32), I, J)) else (if ¬ (v7 < 0 ∨ 4 ≤ (v7).toNatClampNeg) then if ¬ (v7 < 0 ∨ 4 ≤ (v7).toNatClampNeg) then if (I 21 (v7).toNatClampNeg) ≤ 0 then (if ¬ (v7 < 0 ∨ 4 ≤ (v7).toNatClampNeg) then ff_M_payLayer_311 n (ui I 21 (v7).toNatClampNeg ((I 21 (v7).toNatClampNeg) - (0 : Int32))) J v1 v2 v3 v4 v5 v6 (v7 + (1 : Int32)) else none) else (if ¬ (v7 < 0 ∨ 4 ≤ (v7).toNatClampNeg) then ff_M_payLayer_311 n (ui I 21 (v7).toNatClampNeg ((I 21 (v7).toNatClampNeg) - v2)) J v1 v2 v3 v4 v5 v6 (v7 + (1 : Int32)) else none) else none else none)
def ff_M_payLayer_296 (k206 : MI → MJ → Int32 → Int32 → Int32 → Int32 → Int32 → Int32 → Int32 → Option (Int32 × MI × MJ)) (n : Nat) (I : MI) (J : MJ) (v1 : Int32) (v2 : Int32) (v3 : Int32) (v4 : Int32) (v5 : Int32) (v6 : Int32) (v7 : Int32) (s1 : Int32) (s2 : Int32) (s3 : Int32) (s4 : Int32) : Option (Int32 × MI × MJ) := if ¬ (s1 < 0 ∨ 4 ≤ (s1).toNatClampNeg) then k206 (ui I 1 (s1).toNatClampNeg (s2 + (s3 + s4))) J v1 v2 v3 v4 v5 (0 : Int32) (v7 + (1 : Int32)) else none
def ff_M_payLayer_206  : Nat → MI → MJ → Int32 → Int32 → Int32 → Int32 → Int32 → Int32 → Int32 → Option (Int32 × MI × MJ)
  | 0, _, _, _, _, _, _, _, _, _ => none
  | n + 1, I, J, v1, v2, v3, v4, v5, v6, v7 => if (I 0 3) ≤ v7 then (ff_M_payLayer_311 n I J v1 v2 v3 v4 v5 v6 (0 : Int32)) else (if ¬ (v7 < 0 ∨ 4 ≤ (v7).toNatClampNeg) then if (I 21 (v7).toNatClampNeg) = 0 then (ff_M_payLayer_206 n I J v1 v2 v3 v4 v5 v6 (v7 + (1 : Int32))) else (if v5 = 0 then (if ¬ (v7 < 0 ∨ 4 ≤ (v7).toNatClampNeg) then if ¬ (v7 < 0 ∨ 4 ≤ (v7).toNatClampNeg) then ff_M_payLayer_206 n (ui I 1 (v7).toNatClampNeg ((I 1 (v7).toNatClampNeg) + v2)) J v1 v2 v3 v4 v5 v6 (v7 + (1 : Int32)) else none else none) else (if ¬ (v7 < 0 ∨ 4 ≤ (v7).toNatClampNeg) then if (I 20 (v7).toNatClampNeg) = 0 then (ff_M_payLayer_206 n I J v1 v2 v3 v4 v5 v6 (v7 + (1 : Int32))) else (if ((v1 >>> (((4 : Int32) * v7) &&& 31)) &&& (15 : Int32)) = v4 then (if ¬ (v7 < 0 ∨ 4 ≤ (v7).toNatClampNeg) then if ¬ v5 = 0 then if v6 = 0 then (ff_M_payLayer_296 (ff_M_payLayer_206 n) n I J v1 v2 v3 v4 v5 v6 v7 v7 (I 1 (v7).toNatClampNeg) (v3 / v5) (0 : Int32)) else (if ¬ v5 = 0 then tl (v3 - v3 / v5 * v5) fun y19 => ff_M_payLayer_296 (ff_M_payLayer_206 n) n I J v1 v2 v3 v4 v5 v6 v7 v7 (I 1 (v7).toNatClampNeg) (v3 / v5) y19 else none) else none else none) else (ff_M_payLayer_206 n I J v1 v2 v3 v4 v5 v6 (v7 + (1 : Int32)))) else none)) else none)
def ff_M_payLayer_141  : Nat → MI → MJ → Int32 → Int32 → Int32 → Int32 → Int32 → Int32 → Option (Int32 × MI × MJ)
  | 0, _, _, _, _, _, _, _, _ => none
  | n + 1, I, J, v1, v2, v3, v4, v5, v6 => if (I 0 3) ≤ v6 then (ff_M_payLayer_206 n I J v1 v2 v3 v4 v5 (1 : Int32) (0 : Int32)) else (if ¬ (v6 < 0 ∨ 4 ≤ (v6).toNatClampNeg) then if (I 21 (v6).toNatClampNeg) ≤ 0 then (tl (v5 + (0 : Int32)) fun y25 => ff_M_payLayer_141 n I J v1 v2 v3 v4 y25 (v6 + (1 : Int32))) else (if ¬ (v6 < 0 ∨ 4 ≤ (v6).toNatClampNeg) then if (I 20 (v6).toNatClampNeg) = 0 then (tl (v5 + (0 : Int32)) fun y28 => ff_M_payLayer_141 n I J v1 v2 v3 v4 y28 (v6 + (1 : Int32))) else (if ((v1 >>> (((4 : Int32) * v6) &&& 31)) &&& (15 : Int32)) = v4 then (tl (v5 + (1 : Int32)) fun y31 => ff_M_payLayer_141 n I J v1 v2 v3 v4 y31 (v6 + (1 : Int32))) else (tl (v5 + (0 : Int32)) fun y30 => ff_M_payLayer_141 n I J v1 v2 v3 v4 y30 (v6 + (1 : Int32)))) else none) else none)
def ff_M_payLayer_66  : Nat → MI → MJ → Int32 → Int32 → Int32 → Int32 → Int32 → Option (Int32 × MI × MJ)
  | 0, _, _, _, _, _, _, _ => none
  | n + 1, I, J, v1, v2, v3, v4, v5 => if (I 0 3) ≤ v5 then (ff_M_payLayer_141 n I J v1 v2 v3 v4 (0 : Int32) (0 : Int32)) else (if ¬ (v5 < 0 ∨ 4 ≤ (v5).toNatClampNeg) then if (I 21 (v5).toNatClampNeg) = 0 then (ff_M_payLayer_66 n I J v1 v2 v3 v4 (v5 + (1 : Int32))) else (tl (v3 + v2) fun y35 => tl ((v1 >>> (((4 : Int32) * v5) &&& 31)) &&& (15 : Int32)) fun y36 => if ¬ (v5 < 0 ∨ 4 ≤ (v5).toNatClampNeg) then if (I 20 (v5).toNatClampNeg) = 0 then (ff_M_payLayer_66 n I J v1 v2 y35 v4 (v5 + (1 : Int32))) else (if y36 ≤ v4 then (ff_M_payLayer_66 n I J v1 v2 y35 v4 (v5 + (1 : Int32))) else (ff_M_payLayer_66 n I J v1 v2 y35 y36 (v5 + (1 : Int32)))) else none) else none)
def ff_M_payLayer_35 (k4 : MI → MJ → Int32 → Int32 → Int32 → Option (Int32 × MI × MJ)) (n : Nat) (I : MI) (J : MJ) (v1 : Int32) (v2 : Int32) (v3 : Int32) : Option (Int32 × MI × MJ) := if ¬ (v3 < 0 ∨ 4 ≤ (v3).toNatClampNeg) then tl (I 21 (v3).toNatClampNeg) fun y41 => k4 I J v1 y41 (v3 + (1 : Int32)) else none
def ff_M_payLayer_4  : Nat → MI → MJ → Int32 → Int32 → Int32 → Option (Int32 × MI × MJ)
  | 0, _, _, _, _, _ => none
  | n + 1, I, J, v1, v2, v3 => if (I 0 3) ≤ v3 then (if v2 = 0 then (some ((0 : Int32), I, J)) else (ff_M_payLayer_66 n I J v1 v2 (0 : Int32) (-1 : Int32) (0 : Int32))) else (if ¬ (v3 < 0 ∨ 4 ≤ (v3).toNatClampNeg) then if (I 21 (v3).toNatClampNeg) ≤ 0 then (ff_M_payLayer_4 n I J v1 v2 (v3 + (1 : Int32))) else (if v2 = 0 then (ff_M_payLayer_35 (ff_M_payLayer_4 n) n I J v1 v2 v3) else (if ¬ (v3 < 0 ∨ 4 ≤ (v3).toNatClampNeg) then if v2 ≤ (I 21 (v3).toNatClampNeg) then (ff_M_payLayer_4 n I J v1 v2 (v3 + (1 : Int32))) else (ff_M_payLayer_35 (ff_M_payLayer_4 n) n I J v1 v2 v3) else none)) else none)
def ff_M_payLayer (n : Nat) (I : MI) (J : MJ) (a1 : Int32) : Option (Int32 × MI × MJ) := ff_M_payLayer_4 n I J a1 (0 : Int32) (0 : Int32)
set_option maxHeartbeats 4000000 in
set_option maxRecDepth 100000 in
theorem mm_M_payLayer (l : Launch) (D : va_G) (kc : Nat → ClassId) (ad : Nat → Nat) (I0 : MI) (J0 : MJ) (sz n : Nat) (a1 : Int32) (r : Int32 × MI × MJ) (h : ff_M_payLayer n I0 J0 a1 = some r) : Met l yy_M_payLayer (.code yy_M_payLayer cc_M_payLayer 8 (some .boolean) :: kw) { frames := 0, cells := 0, slots := 0, locals := 0 } (va_Pc [.ref (ad 0), .int a1] (BW D kc (wM kc ad I0 J0) sz)) (va_Qi (fun z (_ : Unit) => z = r.1) (EW D kc (va_A (wM kc ad I0 J0) sz) (wM kc ad r.2.1 r.2.2)) (va_A (wM kc ad I0 J0) sz)) 0 0 (va_A (wM kc ad I0 J0) sz) := by
  refine Met.ofW (cc := cc_M_payLayer) (maxL := 8) (ret := some .boolean) (by decide) rfl ?_
  intro p e s m args below meth c s₁ B hml hv
  obtain ⟨rfl, hsz, hP, hK, hD0⟩ := hv
  have hx := B.exec
  have hb := B.bytes
  have hr := B.returns
  have hlocks := B.notSynchronized
  have hk : ∀ w ∈ kw, w.before _ s = true := fun w hw => atoms_spec (ws := (.code yy_M_payLayer cc_M_payLayer 8 (some .boolean) :: kw)) B.pre w (List.mem_cons_of_mem _ hw)
  have hown : s.vm.findClass "OpenDealModel" = some m.cls := findClass_of_methodNamed B.named
  subst hsz
  have hD := hD0.self (sz := s.heap.size)
  generalize hAe : va_A (wM kc ad I0 J0) s.heap.size = A at hD ⊢
  have hA : ∀ q : Nat, s.heap.size ≤ q → A q := fun q h => by rw [← hAe]; exact Or.inr h
  have hS : va_S A s.heap s.heap [] := va_S.rf
  have hP : va_P D cls5 (wM kc ad I0 J0) s.heap := hP
  clear hAe hD0
  have L311 : ∀  (n : Nat) (I : MI) (J : MJ) (v1 : Int32) (v2 : Int32) (v3 : Int32) (v4 : Int32) (v5 : Int32) (v6 : Int32) (v7 : Int32), ff_M_payLayer_311 n I J v1 v2 v3 v4 v5 v6 v7 = some r → ∀ (H : Heap) (locs : List Loc), va_P D cls5 (wM kc ad I J) H → va_D A (wM kc ad I J) → va_S A s.heap H locs → ∀ ls, lv_has ls 8 [(0, .ref (ad 0)), (1, .int v1), (2, .int v2), (3, .int v3), (4, .int v4), (5, .int v5), (6, .int v6), (7, .int v7)] → W p l e (headSpec (.code yy_M_payLayer cc_M_payLayer 8 (some .boolean) :: kw) { frames := 0, cells := 0, slots := 0, locals := 0 }).room s m ([.ref (ad 0), .int a1] : List Value).toArray below meth c H locs 0 0 (MQ below (va_Qi (fun z (_ : Unit) => z = r.1) (EW D kc A (wM kc ad r.2.1 r.2.2)) A) ([.ref (ad 0), .int a1] : List Value).toArray s 0 0 A) (F0 m 311 ls []) := by
    intro  n
    induction n with
    | zero => intro I J v1 v2 v3 v4 v5 v6 v7 h; exact absurd h (by simp [ff_M_payLayer_311])
    | succ n ih =>
      intro I J v1 v2 v3 v4 v5 v6 v7 h H locs hP hD hS ls hl
      rw [ff_M_payLayer_311] at h
      refine lv_iload hx hb dd_M_payLayer_311 (lv_at hl 7 rfl) ?_
      refine lv_aload_n hx hb dd_M_payLayer_313 rfl (lv_at hl 0 rfl) ?_
      refine va_get (D := D) (ci := 4) (v := .int (I 0 3)) (C := "OpenDealModel") (T := T_M) (N := 32) hx hb hk in_M hown hK hP 0 am_0 rfl 3 (by decide) (hk _ kw_540) (fun _ h9 => h9) rfl dd_M_payLayer_314 ?_
      refine lv_icmp_ge (tgt := 351) hx hb dd_M_payLayer_317 (by decide) (fun hc1 => ?_) (fun hc1 => ?_)
      · have h := ip_out hc1 h
        refine lv_iconst (v := 1) hx hb dd_M_payLayer_351 (by decide) ?_
        obtain rfl := Option.some.inj h
        exact W.zret hx hb hr rfl (fun t ht hW => ⟨⟨_, (), rfl, rfl, by rw [ht]; exact hP, va_K.moved hW.alike hK, hD⟩, hS.F ht⟩) hS.2.2 dd_M_payLayer_352
      · have h := in_out hc1 h
        refine lv_aload_n hx hb dd_M_payLayer_320 rfl (lv_at hl 0 rfl) ?_
        refine va_get (D := D) (ci := 4) (v := .ref (ad 21)) (C := "OpenDealModel") (T := T_M) (N := 32) hx hb hk in_M hown hK hP 0 am_0 rfl 27 (by decide) (hk _ kw_564) (fun _ h9 => h9) rfl dd_M_payLayer_321 ?_
        refine lv_iload hx hb dd_M_payLayer_324 (lv_at hl 7 rfl) ?_
        refine lv_dup2_11 hx hb dd_M_payLayer_326 rfl rfl ?_
        obtain ⟨hi2, h⟩ := oi_out h
        refine va_iald hx hb hK hP 21 0 am_21 rfl hi2 dd_M_payLayer_327 ?_
        refine lv_aload_n hx hb dd_M_payLayer_328 rfl (lv_at hl 0 rfl) ?_
        refine va_get (D := D) (ci := 4) (v := .ref (ad 21)) (C := "OpenDealModel") (T := T_M) (N := 32) hx hb hk in_M hown hK hP 0 am_0 rfl 27 (by decide) (hk _ kw_564) (fun _ h9 => h9) rfl dd_M_payLayer_329 ?_
        refine lv_iload hx hb dd_M_payLayer_332 (lv_at hl 7 rfl) ?_
        obtain ⟨hi3, h⟩ := oi_out h
        refine va_iald hx hb hK hP 21 0 am_21 rfl hi3 dd_M_payLayer_334 ?_
        refine lv_if_le (tgt := 342) hx hb dd_M_payLayer_335 (by decide) (fun hc4 => ?_) (fun hc4 => ?_)
        · have h := ip_out hc4 h
          refine lv_iconst (v := 0) hx hb dd_M_payLayer_342 (by decide) ?_
          refine lv_isub hx hb dd_M_payLayer_343 ?_
          obtain ⟨hi5, h⟩ := oi_out h
          refine va_iast hx hb hK hP hD hS 21 0 am_21 rfl (x := (I 21 (v7).toNatClampNeg) - (0 : Int32)) hi5 dd_M_payLayer_344 (fun H locs hP hD hS => ?_)
          rw [pm_21] at hP hD
          refine lv_iinc (v := v7 + (1 : Int32)) (lv' := [(7, .int (v7 + (1 : Int32))), (0, .ref (ad 0)), (1, .int v1), (2, .int v2), (3, .int v3), (4, .int v4), (5, .int v5), (6, .int v6)]) hx hb dd_M_payLayer_345 hl (k := 7) rfl rfl (by decide) rfl (fun ls hl => ?_)
          refine lv_goto (tgt := 311) hx hb dd_M_payLayer_348 (by decide) ?_
          exact ih _ _ _ _ _ _ _ _ _ h _ _ hP hD hS _ (lv_sub hl [1, 2, 3, 4, 5, 6, 7, 0] rfl)
        · have h := in_out hc4 h
          refine lv_iload_n hx hb dd_M_payLayer_338 rfl (lv_at hl 2 rfl) ?_
          refine lv_goto (tgt := 343) hx hb dd_M_payLayer_339 (by decide) ?_
          refine lv_isub hx hb dd_M_payLayer_343 ?_
          obtain ⟨hi6, h⟩ := oi_out h
          refine va_iast hx hb hK hP hD hS 21 0 am_21 rfl (x := (I 21 (v7).toNatClampNeg) - v2) hi6 dd_M_payLayer_344 (fun H locs hP hD hS => ?_)
          rw [pm_21] at hP hD
          refine lv_iinc (v := v7 + (1 : Int32)) (lv' := [(7, .int (v7 + (1 : Int32))), (0, .ref (ad 0)), (1, .int v1), (2, .int v2), (3, .int v3), (4, .int v4), (5, .int v5), (6, .int v6)]) hx hb dd_M_payLayer_345 hl (k := 7) rfl rfl (by decide) rfl (fun ls hl => ?_)
          refine lv_goto (tgt := 311) hx hb dd_M_payLayer_348 (by decide) ?_
          exact ih _ _ _ _ _ _ _ _ _ h _ _ hP hD hS _ (lv_sub hl [1, 2, 3, 4, 5, 6, 7, 0] rfl)
  have L296 : ∀ (k206 : MI → MJ → Int32 → Int32 → Int32 → Int32 → Int32 → Int32 → Int32 → Option (Int32 × MI × MJ)) (hk206 : ∀ (I : MI) (J : MJ) (v1 : Int32) (v2 : Int32) (v3 : Int32) (v4 : Int32) (v5 : Int32) (v6 : Int32) (v7 : Int32), k206 I J v1 v2 v3 v4 v5 v6 v7 = some r → ∀ (H : Heap) (locs : List Loc), va_P D cls5 (wM kc ad I J) H → va_D A (wM kc ad I J) → va_S A s.heap H locs → ∀ ls, lv_has ls 8 [(0, .ref (ad 0)), (1, .int v1), (2, .int v2), (3, .int v3), (4, .int v4), (5, .int v5), (6, .int v6), (7, .int v7)] → W p l e (headSpec (.code yy_M_payLayer cc_M_payLayer 8 (some .boolean) :: kw) { frames := 0, cells := 0, slots := 0, locals := 0 }).room s m ([.ref (ad 0), .int a1] : List Value).toArray below meth c H locs 0 0 (MQ below (va_Qi (fun z (_ : Unit) => z = r.1) (EW D kc A (wM kc ad r.2.1 r.2.2)) A) ([.ref (ad 0), .int a1] : List Value).toArray s 0 0 A) (F0 m 206 ls [])) (n : Nat) (I : MI) (J : MJ) (v1 : Int32) (v2 : Int32) (v3 : Int32) (v4 : Int32) (v5 : Int32) (v6 : Int32) (v7 : Int32) (s1 : Int32) (s2 : Int32) (s3 : Int32) (s4 : Int32), ff_M_payLayer_296 k206 n I J v1 v2 v3 v4 v5 v6 v7 s1 s2 s3 s4 = some r → ∀ (H : Heap) (locs : List Loc), va_P D cls5 (wM kc ad I J) H → va_D A (wM kc ad I J) → va_S A s.heap H locs → ∀ ls, lv_has ls 8 [(0, .ref (ad 0)), (1, .int v1), (2, .int v2), (3, .int v3), (4, .int v4), (5, .int v5), (6, .int v6), (7, .int v7)] → W p l e (headSpec (.code yy_M_payLayer cc_M_payLayer 8 (some .boolean) :: kw) { frames := 0, cells := 0, slots := 0, locals := 0 }).room s m ([.ref (ad 0), .int a1] : List Value).toArray below meth c H locs 0 0 (MQ below (va_Qi (fun z (_ : Unit) => z = r.1) (EW D kc A (wM kc ad r.2.1 r.2.2)) A) ([.ref (ad 0), .int a1] : List Value).toArray s 0 0 A) (F0 m 296 ls [.int s4, .int s3, .int s2, .int s1, .ref (ad 1)]) := by
    intro k206 hk206 n I J v1 v2 v3 v4 v5 v6 v7 s1 s2 s3 s4 h H locs hP hD hS ls hl
    unfold ff_M_payLayer_296 at h
    refine lv_iadd hx hb dd_M_payLayer_296 ?_
    refine lv_iadd hx hb dd_M_payLayer_297 ?_
    obtain ⟨hi7, h⟩ := oi_out h
    refine va_iast hx hb hK hP hD hS 1 0 am_1 rfl (x := s2 + (s3 + s4)) hi7 dd_M_payLayer_298 (fun H locs hP hD hS => ?_)
    rw [pm_1] at hP hD
    refine lv_iconst (v := 0) hx hb dd_M_payLayer_299 (by decide) ?_
    refine lv_istore (lv' := [(6, .int (0 : Int32)), (0, .ref (ad 0)), (1, .int v1), (2, .int v2), (3, .int v3), (4, .int v4), (5, .int v5), (7, .int v7)]) hx hb dd_M_payLayer_300 hl (by decide) rfl (fun ls hl => ?_)
    refine lv_iinc (v := v7 + (1 : Int32)) (lv' := [(7, .int (v7 + (1 : Int32))), (6, .int (0 : Int32)), (0, .ref (ad 0)), (1, .int v1), (2, .int v2), (3, .int v3), (4, .int v4), (5, .int v5)]) hx hb dd_M_payLayer_302 hl (k := 7) rfl rfl (by decide) rfl (fun ls hl => ?_)
    refine lv_goto (tgt := 206) hx hb dd_M_payLayer_305 (by decide) ?_
    exact hk206 _ _ _ _ _ _ _ _ _ h _ _ hP hD hS _ (lv_sub hl [2, 3, 4, 5, 6, 7, 1, 0] rfl)
  have L206 : ∀  (n : Nat) (I : MI) (J : MJ) (v1 : Int32) (v2 : Int32) (v3 : Int32) (v4 : Int32) (v5 : Int32) (v6 : Int32) (v7 : Int32), ff_M_payLayer_206 n I J v1 v2 v3 v4 v5 v6 v7 = some r → ∀ (H : Heap) (locs : List Loc), va_P D cls5 (wM kc ad I J) H → va_D A (wM kc ad I J) → va_S A s.heap H locs → ∀ ls, lv_has ls 8 [(0, .ref (ad 0)), (1, .int v1), (2, .int v2), (3, .int v3), (4, .int v4), (5, .int v5), (6, .int v6), (7, .int v7)] → W p l e (headSpec (.code yy_M_payLayer cc_M_payLayer 8 (some .boolean) :: kw) { frames := 0, cells := 0, slots := 0, locals := 0 }).room s m ([.ref (ad 0), .int a1] : List Value).toArray below meth c H locs 0 0 (MQ below (va_Qi (fun z (_ : Unit) => z = r.1) (EW D kc A (wM kc ad r.2.1 r.2.2)) A) ([.ref (ad 0), .int a1] : List Value).toArray s 0 0 A) (F0 m 206 ls []) := by
    intro  n
    induction n with
    | zero => intro I J v1 v2 v3 v4 v5 v6 v7 h; exact absurd h (by simp [ff_M_payLayer_206])
    | succ n ih =>
      intro I J v1 v2 v3 v4 v5 v6 v7 h H locs hP hD hS ls hl
      rw [ff_M_payLayer_206] at h
      refine lv_iload hx hb dd_M_payLayer_206 (lv_at hl 7 rfl) ?_
      refine lv_aload_n hx hb dd_M_payLayer_208 rfl (lv_at hl 0 rfl) ?_
      refine va_get (D := D) (ci := 4) (v := .int (I 0 3)) (C := "OpenDealModel") (T := T_M) (N := 32) hx hb hk in_M hown hK hP 0 am_0 rfl 3 (by decide) (hk _ kw_540) (fun _ h9 => h9) rfl dd_M_payLayer_209 ?_
      refine lv_icmp_ge (tgt := 308) hx hb dd_M_payLayer_212 (by decide) (fun hc8 => ?_) (fun hc8 => ?_)
      · have h := ip_out hc8 h
        refine lv_iconst (v := 0) hx hb dd_M_payLayer_308 (by decide) ?_
        refine lv_istore (lv' := [(7, .int (0 : Int32)), (0, .ref (ad 0)), (1, .int v1), (2, .int v2), (3, .int v3), (4, .int v4), (5, .int v5), (6, .int v6)]) hx hb dd_M_payLayer_309 hl (by decide) rfl (fun ls hl => ?_)
        exact L311  _ _ _ _ _ _ _ _ _ _ h _ _ hP hD hS _ (lv_sub hl [1, 2, 3, 4, 5, 6, 7, 0] rfl)
      · have h := in_out hc8 h
        refine lv_aload_n hx hb dd_M_payLayer_215 rfl (lv_at hl 0 rfl) ?_
        refine va_get (D := D) (ci := 4) (v := .ref (ad 21)) (C := "OpenDealModel") (T := T_M) (N := 32) hx hb hk in_M hown hK hP 0 am_0 rfl 27 (by decide) (hk _ kw_564) (fun _ h9 => h9) rfl dd_M_payLayer_216 ?_
        refine lv_iload hx hb dd_M_payLayer_219 (lv_at hl 7 rfl) ?_
        obtain ⟨hi9, h⟩ := oi_out h
        refine va_iald hx hb hK hP 21 0 am_21 rfl hi9 dd_M_payLayer_221 ?_
        refine lv_if_ne (tgt := 228) hx hb dd_M_payLayer_222 (by decide) (fun hc10 => ?_) (fun hc10 => ?_)
        · have h := in_out hc10 h
          refine lv_iload hx hb dd_M_payLayer_228 (lv_at hl 5 rfl) ?_
          refine lv_if_ne (tgt := 247) hx hb dd_M_payLayer_230 (by decide) (fun hc11 => ?_) (fun hc11 => ?_)
          · have h := in_out hc11 h
            refine lv_aload_n hx hb dd_M_payLayer_247 rfl (lv_at hl 0 rfl) ?_
            refine va_get (D := D) (ci := 4) (v := .ref (ad 20)) (C := "OpenDealModel") (T := T_M) (N := 32) hx hb hk in_M hown hK hP 0 am_0 rfl 26 (by decide) (hk _ kw_563) (fun _ h9 => h9) rfl dd_M_payLayer_248 ?_
            refine lv_iload hx hb dd_M_payLayer_251 (lv_at hl 7 rfl) ?_
            obtain ⟨hi12, h⟩ := oi_out h
            refine va_zald hx hb hK hP 20 2 am_20 rfl hi12 dd_M_payLayer_253 ?_
            refine lv_if_eq (tgt := 302) hx hb dd_M_payLayer_254 (by decide) (fun hc13 => ?_) (fun hc13 => ?_)
            · have h := ip_out hc13 h
              refine lv_iinc (v := v7 + (1 : Int32)) (lv' := [(7, .int (v7 + (1 : Int32))), (0, .ref (ad 0)), (1, .int v1), (2, .int v2), (3, .int v3), (4, .int v4), (5, .int v5), (6, .int v6)]) hx hb dd_M_payLayer_302 hl (k := 7) rfl rfl (by decide) rfl (fun ls hl => ?_)
              refine lv_goto (tgt := 206) hx hb dd_M_payLayer_305 (by decide) ?_
              exact ih _ _ _ _ _ _ _ _ _ h _ _ hP hD hS _ (lv_sub hl [1, 2, 3, 4, 5, 6, 7, 0] rfl)
            · have h := in_out hc13 h
              refine lv_iload_n hx hb dd_M_payLayer_257 rfl (lv_at hl 1 rfl) ?_
              refine lv_iconst (v := 4) hx hb dd_M_payLayer_258 (by decide) ?_
              refine lv_iload hx hb dd_M_payLayer_259 (lv_at hl 7 rfl) ?_
              refine lv_imul hx hb dd_M_payLayer_261 ?_
              refine lv_ishr hx hb dd_M_payLayer_262 ?_
              refine lv_bipush (v := 15) hx hb dd_M_payLayer_263 (by decide) ?_
              refine lv_iand hx hb dd_M_payLayer_265 ?_
              refine lv_iload hx hb dd_M_payLayer_266 (lv_at hl 4 rfl) ?_
              refine lv_icmp_ne (tgt := 302) hx hb dd_M_payLayer_268 (by decide) (fun hc14 => ?_) (fun hc14 => ?_)
              · have h := in_out hc14 h
                refine lv_iinc (v := v7 + (1 : Int32)) (lv' := [(7, .int (v7 + (1 : Int32))), (0, .ref (ad 0)), (1, .int v1), (2, .int v2), (3, .int v3), (4, .int v4), (5, .int v5), (6, .int v6)]) hx hb dd_M_payLayer_302 hl (k := 7) rfl rfl (by decide) rfl (fun ls hl => ?_)
                refine lv_goto (tgt := 206) hx hb dd_M_payLayer_305 (by decide) ?_
                exact ih _ _ _ _ _ _ _ _ _ h _ _ hP hD hS _ (lv_sub hl [1, 2, 3, 4, 5, 6, 7, 0] rfl)
              · have h := ip_out hc14 h
                refine lv_aload_n hx hb dd_M_payLayer_271 rfl (lv_at hl 0 rfl) ?_
                refine va_get (D := D) (ci := 4) (v := .ref (ad 1)) (C := "OpenDealModel") (T := T_M) (N := 32) hx hb hk in_M hown hK hP 0 am_0 rfl 5 (by decide) (hk _ kw_542) (fun _ h9 => h9) rfl dd_M_payLayer_272 ?_
                refine lv_iload hx hb dd_M_payLayer_275 (lv_at hl 7 rfl) ?_
                refine lv_dup2_11 hx hb dd_M_payLayer_277 rfl rfl ?_
                obtain ⟨hi15, h⟩ := oi_out h
                refine va_iald hx hb hK hP 1 0 am_1 rfl hi15 dd_M_payLayer_278 ?_
                refine lv_iload_n hx hb dd_M_payLayer_279 rfl (lv_at hl 3 rfl) ?_
                refine lv_iload hx hb dd_M_payLayer_280 (lv_at hl 5 rfl) ?_
                obtain ⟨hz16, h⟩ := oi_out h
                refine lv_idiv hx hb dd_M_payLayer_282 hz16 ?_
                refine lv_iload hx hb dd_M_payLayer_283 (lv_at hl 6 rfl) ?_
                refine lv_if_eq (tgt := 295) hx hb dd_M_payLayer_285 (by decide) (fun hc17 => ?_) (fun hc17 => ?_)
                · have h := ip_out hc17 h
                  refine lv_iconst (v := 0) hx hb dd_M_payLayer_295 (by decide) ?_
                  exact L296 _ ih _ _ _ _ _ _ _ _ _ _ _ _ _ _ h _ _ hP hD hS _ (lv_sub hl [0, 1, 2, 3, 4, 5, 6, 7] rfl)
                · have h := in_out hc17 h
                  refine lv_iload_n hx hb dd_M_payLayer_288 rfl (lv_at hl 3 rfl) ?_
                  refine lv_iload hx hb dd_M_payLayer_289 (lv_at hl 5 rfl) ?_
                  obtain ⟨hz18, h⟩ := oi_out h
                  refine lv_irem hx hb dd_M_payLayer_291 hz18 ?_
                  refine lv_topi (fun y19 ey19 => ?_)
                  have h := tl_at ey19 h
                  refine lv_goto (tgt := 296) hx hb dd_M_payLayer_292 (by decide) ?_
                  exact L296 _ ih _ _ _ _ _ _ _ _ _ _ _ _ _ _ h _ _ hP hD hS _ (lv_sub hl [0, 1, 2, 3, 4, 5, 6, 7] rfl)
          · have h := ip_out hc11 h
            refine lv_aload_n hx hb dd_M_payLayer_233 rfl (lv_at hl 0 rfl) ?_
            refine va_get (D := D) (ci := 4) (v := .ref (ad 1)) (C := "OpenDealModel") (T := T_M) (N := 32) hx hb hk in_M hown hK hP 0 am_0 rfl 5 (by decide) (hk _ kw_542) (fun _ h9 => h9) rfl dd_M_payLayer_234 ?_
            refine lv_iload hx hb dd_M_payLayer_237 (lv_at hl 7 rfl) ?_
            refine lv_dup2_11 hx hb dd_M_payLayer_239 rfl rfl ?_
            obtain ⟨hi20, h⟩ := oi_out h
            refine va_iald hx hb hK hP 1 0 am_1 rfl hi20 dd_M_payLayer_240 ?_
            refine lv_iload_n hx hb dd_M_payLayer_241 rfl (lv_at hl 2 rfl) ?_
            refine lv_iadd hx hb dd_M_payLayer_242 ?_
            obtain ⟨hi21, h⟩ := oi_out h
            refine va_iast hx hb hK hP hD hS 1 0 am_1 rfl (x := (I 1 (v7).toNatClampNeg) + v2) hi21 dd_M_payLayer_243 (fun H locs hP hD hS => ?_)
            rw [pm_1] at hP hD
            refine lv_goto (tgt := 302) hx hb dd_M_payLayer_244 (by decide) ?_
            refine lv_iinc (v := v7 + (1 : Int32)) (lv' := [(7, .int (v7 + (1 : Int32))), (0, .ref (ad 0)), (1, .int v1), (2, .int v2), (3, .int v3), (4, .int v4), (5, .int v5), (6, .int v6)]) hx hb dd_M_payLayer_302 hl (k := 7) rfl rfl (by decide) rfl (fun ls hl => ?_)
            refine lv_goto (tgt := 206) hx hb dd_M_payLayer_305 (by decide) ?_
            exact ih _ _ _ _ _ _ _ _ _ h _ _ hP hD hS _ (lv_sub hl [1, 2, 3, 4, 5, 6, 7, 0] rfl)
        · have h := ip_out hc10 h
          refine lv_goto (tgt := 302) hx hb dd_M_payLayer_225 (by decide) ?_
          refine lv_iinc (v := v7 + (1 : Int32)) (lv' := [(7, .int (v7 + (1 : Int32))), (0, .ref (ad 0)), (1, .int v1), (2, .int v2), (3, .int v3), (4, .int v4), (5, .int v5), (6, .int v6)]) hx hb dd_M_payLayer_302 hl (k := 7) rfl rfl (by decide) rfl (fun ls hl => ?_)
          refine lv_goto (tgt := 206) hx hb dd_M_payLayer_305 (by decide) ?_
          exact ih _ _ _ _ _ _ _ _ _ h _ _ hP hD hS _ (lv_sub hl [1, 2, 3, 4, 5, 6, 7, 0] rfl)
  have L141 : ∀  (n : Nat) (I : MI) (J : MJ) (v1 : Int32) (v2 : Int32) (v3 : Int32) (v4 : Int32) (v5 : Int32) (v6 : Int32), ff_M_payLayer_141 n I J v1 v2 v3 v4 v5 v6 = some r → ∀ (H : Heap) (locs : List Loc), va_P D cls5 (wM kc ad I J) H → va_D A (wM kc ad I J) → va_S A s.heap H locs → ∀ ls, lv_has ls 8 [(0, .ref (ad 0)), (1, .int v1), (2, .int v2), (3, .int v3), (4, .int v4), (5, .int v5), (6, .int v6)] → W p l e (headSpec (.code yy_M_payLayer cc_M_payLayer 8 (some .boolean) :: kw) { frames := 0, cells := 0, slots := 0, locals := 0 }).room s m ([.ref (ad 0), .int a1] : List Value).toArray below meth c H locs 0 0 (MQ below (va_Qi (fun z (_ : Unit) => z = r.1) (EW D kc A (wM kc ad r.2.1 r.2.2)) A) ([.ref (ad 0), .int a1] : List Value).toArray s 0 0 A) (F0 m 141 ls []) := by
    intro  n
    induction n with
    | zero => intro I J v1 v2 v3 v4 v5 v6 h; exact absurd h (by simp [ff_M_payLayer_141])
    | succ n ih =>
      intro I J v1 v2 v3 v4 v5 v6 h H locs hP hD hS ls hl
      rw [ff_M_payLayer_141] at h
      refine lv_iload hx hb dd_M_payLayer_141 (lv_at hl 6 rfl) ?_
      refine lv_aload_n hx hb dd_M_payLayer_143 rfl (lv_at hl 0 rfl) ?_
      refine va_get (D := D) (ci := 4) (v := .int (I 0 3)) (C := "OpenDealModel") (T := T_M) (N := 32) hx hb hk in_M hown hK hP 0 am_0 rfl 3 (by decide) (hk _ kw_540) (fun _ h9 => h9) rfl dd_M_payLayer_144 ?_
      refine lv_icmp_ge (tgt := 200) hx hb dd_M_payLayer_147 (by decide) (fun hc22 => ?_) (fun hc22 => ?_)
      · have h := ip_out hc22 h
        refine lv_iconst (v := 1) hx hb dd_M_payLayer_200 (by decide) ?_
        refine lv_istore (lv' := [(6, .int (1 : Int32)), (0, .ref (ad 0)), (1, .int v1), (2, .int v2), (3, .int v3), (4, .int v4), (5, .int v5)]) hx hb dd_M_payLayer_201 hl (by decide) rfl (fun ls hl => ?_)
        refine lv_iconst (v := 0) hx hb dd_M_payLayer_203 (by decide) ?_
        refine lv_istore (lv' := [(7, .int (0 : Int32)), (6, .int (1 : Int32)), (0, .ref (ad 0)), (1, .int v1), (2, .int v2), (3, .int v3), (4, .int v4), (5, .int v5)]) hx hb dd_M_payLayer_204 hl (by decide) rfl (fun ls hl => ?_)
        exact L206  _ _ _ _ _ _ _ _ _ _ h _ _ hP hD hS _ (lv_sub hl [2, 3, 4, 5, 6, 7, 1, 0] rfl)
      · have h := in_out hc22 h
        refine lv_iload hx hb dd_M_payLayer_150 (lv_at hl 5 rfl) ?_
        refine lv_aload_n hx hb dd_M_payLayer_152 rfl (lv_at hl 0 rfl) ?_
        refine va_get (D := D) (ci := 4) (v := .ref (ad 21)) (C := "OpenDealModel") (T := T_M) (N := 32) hx hb hk in_M hown hK hP 0 am_0 rfl 27 (by decide) (hk _ kw_564) (fun _ h9 => h9) rfl dd_M_payLayer_153 ?_
        refine lv_iload hx hb dd_M_payLayer_156 (lv_at hl 6 rfl) ?_
        obtain ⟨hi23, h⟩ := oi_out h
        refine va_iald hx hb hK hP 21 0 am_21 rfl hi23 dd_M_payLayer_158 ?_
        refine lv_if_le (tgt := 190) hx hb dd_M_payLayer_159 (by decide) (fun hc24 => ?_) (fun hc24 => ?_)
        · have h := ip_out hc24 h
          refine lv_iconst (v := 0) hx hb dd_M_payLayer_190 (by decide) ?_
          refine lv_iadd hx hb dd_M_payLayer_191 ?_
          refine lv_topi (fun y25 ey25 => ?_)
          have h := tl_at ey25 h
          refine lv_istore (lv' := [(5, .int y25), (0, .ref (ad 0)), (1, .int v1), (2, .int v2), (3, .int v3), (4, .int v4), (6, .int v6)]) hx hb dd_M_payLayer_192 hl (by decide) rfl (fun ls hl => ?_)
          refine lv_iinc (v := v6 + (1 : Int32)) (lv' := [(6, .int (v6 + (1 : Int32))), (5, .int y25), (0, .ref (ad 0)), (1, .int v1), (2, .int v2), (3, .int v3), (4, .int v4)]) hx hb dd_M_payLayer_194 hl (k := 6) rfl rfl (by decide) rfl (fun ls hl => ?_)
          refine lv_goto (tgt := 141) hx hb dd_M_payLayer_197 (by decide) ?_
          exact ih _ _ _ _ _ _ _ _ h _ _ hP hD hS _ (lv_sub hl [2, 3, 4, 5, 6, 1, 0] rfl)
        · have h := in_out hc24 h
          refine lv_aload_n hx hb dd_M_payLayer_162 rfl (lv_at hl 0 rfl) ?_
          refine va_get (D := D) (ci := 4) (v := .ref (ad 20)) (C := "OpenDealModel") (T := T_M) (N := 32) hx hb hk in_M hown hK hP 0 am_0 rfl 26 (by decide) (hk _ kw_563) (fun _ h9 => h9) rfl dd_M_payLayer_163 ?_
          refine lv_iload hx hb dd_M_payLayer_166 (lv_at hl 6 rfl) ?_
          obtain ⟨hi26, h⟩ := oi_out h
          refine va_zald hx hb hK hP 20 2 am_20 rfl hi26 dd_M_payLayer_168 ?_
          refine lv_if_eq (tgt := 190) hx hb dd_M_payLayer_169 (by decide) (fun hc27 => ?_) (fun hc27 => ?_)
          · have h := ip_out hc27 h
            refine lv_iconst (v := 0) hx hb dd_M_payLayer_190 (by decide) ?_
            refine lv_iadd hx hb dd_M_payLayer_191 ?_
            refine lv_topi (fun y28 ey28 => ?_)
            have h := tl_at ey28 h
            refine lv_istore (lv' := [(5, .int y28), (0, .ref (ad 0)), (1, .int v1), (2, .int v2), (3, .int v3), (4, .int v4), (6, .int v6)]) hx hb dd_M_payLayer_192 hl (by decide) rfl (fun ls hl => ?_)
            refine lv_iinc (v := v6 + (1 : Int32)) (lv' := [(6, .int (v6 + (1 : Int32))), (5, .int y28), (0, .ref (ad 0)), (1, .int v1), (2, .int v2), (3, .int v3), (4, .int v4)]) hx hb dd_M_payLayer_194 hl (k := 6) rfl rfl (by decide) rfl (fun ls hl => ?_)
            refine lv_goto (tgt := 141) hx hb dd_M_payLayer_197 (by decide) ?_
            exact ih _ _ _ _ _ _ _ _ h _ _ hP hD hS _ (lv_sub hl [2, 3, 4, 5, 6, 1, 0] rfl)
          · have h := in_out hc27 h
            refine lv_iload_n hx hb dd_M_payLayer_172 rfl (lv_at hl 1 rfl) ?_
            refine lv_iconst (v := 4) hx hb dd_M_payLayer_173 (by decide) ?_
            refine lv_iload hx hb dd_M_payLayer_174 (lv_at hl 6 rfl) ?_
            refine lv_imul hx hb dd_M_payLayer_176 ?_
            refine lv_ishr hx hb dd_M_payLayer_177 ?_
            refine lv_bipush (v := 15) hx hb dd_M_payLayer_178 (by decide) ?_
            refine lv_iand hx hb dd_M_payLayer_180 ?_
            refine lv_iload hx hb dd_M_payLayer_181 (lv_at hl 4 rfl) ?_
            refine lv_icmp_ne (tgt := 190) hx hb dd_M_payLayer_183 (by decide) (fun hc29 => ?_) (fun hc29 => ?_)
            · have h := in_out hc29 h
              refine lv_iconst (v := 0) hx hb dd_M_payLayer_190 (by decide) ?_
              refine lv_iadd hx hb dd_M_payLayer_191 ?_
              refine lv_topi (fun y30 ey30 => ?_)
              have h := tl_at ey30 h
              refine lv_istore (lv' := [(5, .int y30), (0, .ref (ad 0)), (1, .int v1), (2, .int v2), (3, .int v3), (4, .int v4), (6, .int v6)]) hx hb dd_M_payLayer_192 hl (by decide) rfl (fun ls hl => ?_)
              refine lv_iinc (v := v6 + (1 : Int32)) (lv' := [(6, .int (v6 + (1 : Int32))), (5, .int y30), (0, .ref (ad 0)), (1, .int v1), (2, .int v2), (3, .int v3), (4, .int v4)]) hx hb dd_M_payLayer_194 hl (k := 6) rfl rfl (by decide) rfl (fun ls hl => ?_)
              refine lv_goto (tgt := 141) hx hb dd_M_payLayer_197 (by decide) ?_
              exact ih _ _ _ _ _ _ _ _ h _ _ hP hD hS _ (lv_sub hl [2, 3, 4, 5, 6, 1, 0] rfl)
            · have h := ip_out hc29 h
              refine lv_iconst (v := 1) hx hb dd_M_payLayer_186 (by decide) ?_
              refine lv_goto (tgt := 191) hx hb dd_M_payLayer_187 (by decide) ?_
              refine lv_iadd hx hb dd_M_payLayer_191 ?_
              refine lv_topi (fun y31 ey31 => ?_)
              have h := tl_at ey31 h
              refine lv_istore (lv' := [(5, .int y31), (0, .ref (ad 0)), (1, .int v1), (2, .int v2), (3, .int v3), (4, .int v4), (6, .int v6)]) hx hb dd_M_payLayer_192 hl (by decide) rfl (fun ls hl => ?_)
              refine lv_iinc (v := v6 + (1 : Int32)) (lv' := [(6, .int (v6 + (1 : Int32))), (5, .int y31), (0, .ref (ad 0)), (1, .int v1), (2, .int v2), (3, .int v3), (4, .int v4)]) hx hb dd_M_payLayer_194 hl (k := 6) rfl rfl (by decide) rfl (fun ls hl => ?_)
              refine lv_goto (tgt := 141) hx hb dd_M_payLayer_197 (by decide) ?_
              exact ih _ _ _ _ _ _ _ _ h _ _ hP hD hS _ (lv_sub hl [2, 3, 4, 5, 6, 1, 0] rfl)
  have L66 : ∀  (n : Nat) (I : MI) (J : MJ) (v1 : Int32) (v2 : Int32) (v3 : Int32) (v4 : Int32) (v5 : Int32), ff_M_payLayer_66 n I J v1 v2 v3 v4 v5 = some r → ∀ (H : Heap) (locs : List Loc), va_P D cls5 (wM kc ad I J) H → va_D A (wM kc ad I J) → va_S A s.heap H locs → ∀ ls, lv_has ls 8 [(0, .ref (ad 0)), (1, .int v1), (2, .int v2), (3, .int v3), (4, .int v4), (5, .int v5)] → W p l e (headSpec (.code yy_M_payLayer cc_M_payLayer 8 (some .boolean) :: kw) { frames := 0, cells := 0, slots := 0, locals := 0 }).room s m ([.ref (ad 0), .int a1] : List Value).toArray below meth c H locs 0 0 (MQ below (va_Qi (fun z (_ : Unit) => z = r.1) (EW D kc A (wM kc ad r.2.1 r.2.2)) A) ([.ref (ad 0), .int a1] : List Value).toArray s 0 0 A) (F0 m 66 ls []) := by
    intro  n
    induction n with
    | zero => intro I J v1 v2 v3 v4 v5 h; exact absurd h (by simp [ff_M_payLayer_66])
    | succ n ih =>
      intro I J v1 v2 v3 v4 v5 h H locs hP hD hS ls hl
      rw [ff_M_payLayer_66] at h
      refine lv_iload hx hb dd_M_payLayer_66 (lv_at hl 5 rfl) ?_
      refine lv_aload_n hx hb dd_M_payLayer_68 rfl (lv_at hl 0 rfl) ?_
      refine va_get (D := D) (ci := 4) (v := .int (I 0 3)) (C := "OpenDealModel") (T := T_M) (N := 32) hx hb hk in_M hown hK hP 0 am_0 rfl 3 (by decide) (hk _ kw_540) (fun _ h9 => h9) rfl dd_M_payLayer_69 ?_
      refine lv_icmp_ge (tgt := 135) hx hb dd_M_payLayer_72 (by decide) (fun hc32 => ?_) (fun hc32 => ?_)
      · have h := ip_out hc32 h
        refine lv_iconst (v := 0) hx hb dd_M_payLayer_135 (by decide) ?_
        refine lv_istore (lv' := [(5, .int (0 : Int32)), (0, .ref (ad 0)), (1, .int v1), (2, .int v2), (3, .int v3), (4, .int v4)]) hx hb dd_M_payLayer_136 hl (by decide) rfl (fun ls hl => ?_)
        refine lv_iconst (v := 0) hx hb dd_M_payLayer_138 (by decide) ?_
        refine lv_istore (lv' := [(6, .int (0 : Int32)), (5, .int (0 : Int32)), (0, .ref (ad 0)), (1, .int v1), (2, .int v2), (3, .int v3), (4, .int v4)]) hx hb dd_M_payLayer_139 hl (by decide) rfl (fun ls hl => ?_)
        exact L141  _ _ _ _ _ _ _ _ _ h _ _ hP hD hS _ (lv_sub hl [2, 3, 4, 5, 6, 1, 0] rfl)
      · have h := in_out hc32 h
        refine lv_aload_n hx hb dd_M_payLayer_75 rfl (lv_at hl 0 rfl) ?_
        refine va_get (D := D) (ci := 4) (v := .ref (ad 21)) (C := "OpenDealModel") (T := T_M) (N := 32) hx hb hk in_M hown hK hP 0 am_0 rfl 27 (by decide) (hk _ kw_564) (fun _ h9 => h9) rfl dd_M_payLayer_76 ?_
        refine lv_iload hx hb dd_M_payLayer_79 (lv_at hl 5 rfl) ?_
        obtain ⟨hi33, h⟩ := oi_out h
        refine va_iald hx hb hK hP 21 0 am_21 rfl hi33 dd_M_payLayer_81 ?_
        refine lv_if_ne (tgt := 88) hx hb dd_M_payLayer_82 (by decide) (fun hc34 => ?_) (fun hc34 => ?_)
        · have h := in_out hc34 h
          refine lv_iload_n hx hb dd_M_payLayer_88 rfl (lv_at hl 3 rfl) ?_
          refine lv_iload_n hx hb dd_M_payLayer_89 rfl (lv_at hl 2 rfl) ?_
          refine lv_iadd hx hb dd_M_payLayer_90 ?_
          refine lv_topi (fun y35 ey35 => ?_)
          have h := tl_at ey35 h
          refine lv_istore_n (lv' := [(3, .int y35), (0, .ref (ad 0)), (1, .int v1), (2, .int v2), (4, .int v4), (5, .int v5)]) hx hb dd_M_payLayer_91 rfl hl (by decide) rfl (fun ls hl => ?_)
          refine lv_iload_n hx hb dd_M_payLayer_92 rfl (lv_at hl 2 rfl) ?_
          refine lv_iconst (v := 4) hx hb dd_M_payLayer_93 (by decide) ?_
          refine lv_iload hx hb dd_M_payLayer_94 (lv_at hl 5 rfl) ?_
          refine lv_imul hx hb dd_M_payLayer_96 ?_
          refine lv_ishr hx hb dd_M_payLayer_97 ?_
          refine lv_bipush (v := 15) hx hb dd_M_payLayer_98 (by decide) ?_
          refine lv_iand hx hb dd_M_payLayer_100 ?_
          refine lv_topi (fun y36 ey36 => ?_)
          have h := tl_at ey36 h
          refine lv_istore (lv' := [(6, .int y36), (3, .int y35), (0, .ref (ad 0)), (1, .int v1), (2, .int v2), (4, .int v4), (5, .int v5)]) hx hb dd_M_payLayer_101 hl (by decide) rfl (fun ls hl => ?_)
          refine lv_aload_n hx hb dd_M_payLayer_103 rfl (lv_at hl 2 rfl) ?_
          refine va_get (D := D) (ci := 4) (v := .ref (ad 20)) (C := "OpenDealModel") (T := T_M) (N := 32) hx hb hk in_M hown hK hP 0 am_0 rfl 26 (by decide) (hk _ kw_563) (fun _ h9 => h9) rfl dd_M_payLayer_104 ?_
          refine lv_iload hx hb dd_M_payLayer_107 (lv_at hl 6 rfl) ?_
          obtain ⟨hi37, h⟩ := oi_out h
          refine va_zald hx hb hK hP 20 2 am_20 rfl hi37 dd_M_payLayer_109 ?_
          refine lv_if_eq (tgt := 125) hx hb dd_M_payLayer_110 (by decide) (fun hc38 => ?_) (fun hc38 => ?_)
          · have h := ip_out hc38 h
            refine lv_iload hx hb dd_M_payLayer_125 (lv_at hl 5 rfl) ?_
            refine lv_istore (lv' := [(4, .int v4), (6, .int y36), (3, .int y35), (0, .ref (ad 0)), (1, .int v1), (2, .int v2), (5, .int v5)]) hx hb dd_M_payLayer_127 hl (by decide) rfl (fun ls hl => ?_)
            refine lv_iinc (v := v5 + (1 : Int32)) (lv' := [(5, .int (v5 + (1 : Int32))), (4, .int v4), (6, .int y36), (3, .int y35), (0, .ref (ad 0)), (1, .int v1), (2, .int v2)]) hx hb dd_M_payLayer_129 hl (k := 6) rfl rfl (by decide) rfl (fun ls hl => ?_)
            refine lv_goto (tgt := 66) hx hb dd_M_payLayer_132 (by decide) ?_
            exact ih _ _ _ _ _ _ _ h _ _ hP hD hS _ (lv_sub hl [4, 5, 6, 3, 1, 0] rfl)
          · have h := in_out hc38 h
            refine lv_iload hx hb dd_M_payLayer_113 (lv_at hl 0 rfl) ?_
            refine lv_iload hx hb dd_M_payLayer_115 (lv_at hl 5 rfl) ?_
            refine lv_icmp_le (tgt := 125) hx hb dd_M_payLayer_117 (by decide) (fun hc39 => ?_) (fun hc39 => ?_)
            · have h := ip_out hc39 h
              refine lv_iload hx hb dd_M_payLayer_125 (lv_at hl 5 rfl) ?_
              refine lv_istore (lv' := [(4, .int v4), (6, .int y36), (3, .int y35), (0, .ref (ad 0)), (1, .int v1), (2, .int v2), (5, .int v5)]) hx hb dd_M_payLayer_127 hl (by decide) rfl (fun ls hl => ?_)
              refine lv_iinc (v := v5 + (1 : Int32)) (lv' := [(5, .int (v5 + (1 : Int32))), (4, .int v4), (6, .int y36), (3, .int y35), (0, .ref (ad 0)), (1, .int v1), (2, .int v2)]) hx hb dd_M_payLayer_129 hl (k := 6) rfl rfl (by decide) rfl (fun ls hl => ?_)
              refine lv_goto (tgt := 66) hx hb dd_M_payLayer_132 (by decide) ?_
              exact ih _ _ _ _ _ _ _ h _ _ hP hD hS _ (lv_sub hl [4, 5, 6, 3, 1, 0] rfl)
            · have h := in_out hc39 h
              refine lv_iload hx hb dd_M_payLayer_120 (lv_at hl 0 rfl) ?_
              refine lv_goto (tgt := 127) hx hb dd_M_payLayer_122 (by decide) ?_
              refine lv_istore (lv' := [(4, .int y36), (6, .int y36), (3, .int y35), (0, .ref (ad 0)), (1, .int v1), (2, .int v2), (5, .int v5)]) hx hb dd_M_payLayer_127 hl (by decide) rfl (fun ls hl => ?_)
              refine lv_iinc (v := v5 + (1 : Int32)) (lv' := [(5, .int (v5 + (1 : Int32))), (4, .int y36), (6, .int y36), (3, .int y35), (0, .ref (ad 0)), (1, .int v1), (2, .int v2)]) hx hb dd_M_payLayer_129 hl (k := 6) rfl rfl (by decide) rfl (fun ls hl => ?_)
              refine lv_goto (tgt := 66) hx hb dd_M_payLayer_132 (by decide) ?_
              exact ih _ _ _ _ _ _ _ h _ _ hP hD hS _ (lv_sub hl [4, 5, 6, 3, 1, 0] rfl)
        · have h := ip_out hc34 h
          refine lv_goto (tgt := 129) hx hb dd_M_payLayer_85 (by decide) ?_
          refine lv_iinc (v := v5 + (1 : Int32)) (lv' := [(5, .int (v5 + (1 : Int32))), (0, .ref (ad 0)), (1, .int v1), (2, .int v2), (3, .int v3), (4, .int v4)]) hx hb dd_M_payLayer_129 hl (k := 5) rfl rfl (by decide) rfl (fun ls hl => ?_)
          refine lv_goto (tgt := 66) hx hb dd_M_payLayer_132 (by decide) ?_
          exact ih _ _ _ _ _ _ _ h _ _ hP hD hS _ (lv_sub hl [1, 2, 3, 4, 5, 0] rfl)
  have L35 : ∀ (k4 : MI → MJ → Int32 → Int32 → Int32 → Option (Int32 × MI × MJ)) (hk4 : ∀ (I : MI) (J : MJ) (v1 : Int32) (v2 : Int32) (v3 : Int32), k4 I J v1 v2 v3 = some r → ∀ (H : Heap) (locs : List Loc), va_P D cls5 (wM kc ad I J) H → va_D A (wM kc ad I J) → va_S A s.heap H locs → ∀ ls, lv_has ls 8 [(0, .ref (ad 0)), (1, .int v1), (2, .int v2), (3, .int v3)] → W p l e (headSpec (.code yy_M_payLayer cc_M_payLayer 8 (some .boolean) :: kw) { frames := 0, cells := 0, slots := 0, locals := 0 }).room s m ([.ref (ad 0), .int a1] : List Value).toArray below meth c H locs 0 0 (MQ below (va_Qi (fun z (_ : Unit) => z = r.1) (EW D kc A (wM kc ad r.2.1 r.2.2)) A) ([.ref (ad 0), .int a1] : List Value).toArray s 0 0 A) (F0 m 4 ls [])) (n : Nat) (I : MI) (J : MJ) (v1 : Int32) (v2 : Int32) (v3 : Int32), ff_M_payLayer_35 k4 n I J v1 v2 v3 = some r → ∀ (H : Heap) (locs : List Loc), va_P D cls5 (wM kc ad I J) H → va_D A (wM kc ad I J) → va_S A s.heap H locs → ∀ ls, lv_has ls 8 [(0, .ref (ad 0)), (1, .int v1), (2, .int v2), (3, .int v3)] → W p l e (headSpec (.code yy_M_payLayer cc_M_payLayer 8 (some .boolean) :: kw) { frames := 0, cells := 0, slots := 0, locals := 0 }).room s m ([.ref (ad 0), .int a1] : List Value).toArray below meth c H locs 0 0 (MQ below (va_Qi (fun z (_ : Unit) => z = r.1) (EW D kc A (wM kc ad r.2.1 r.2.2)) A) ([.ref (ad 0), .int a1] : List Value).toArray s 0 0 A) (F0 m 35 ls []) := by
    intro k4 hk4 n I J v1 v2 v3 h H locs hP hD hS ls hl
    unfold ff_M_payLayer_35 at h
    refine lv_aload_n hx hb dd_M_payLayer_35 rfl (lv_at hl 0 rfl) ?_
    refine va_get (D := D) (ci := 4) (v := .ref (ad 21)) (C := "OpenDealModel") (T := T_M) (N := 32) hx hb hk in_M hown hK hP 0 am_0 rfl 27 (by decide) (hk _ kw_564) (fun _ h9 => h9) rfl dd_M_payLayer_36 ?_
    refine lv_iload_n hx hb dd_M_payLayer_39 rfl (lv_at hl 3 rfl) ?_
    obtain ⟨hi40, h⟩ := oi_out h
    refine va_iald hx hb hK hP 21 0 am_21 rfl hi40 dd_M_payLayer_40 ?_
    refine lv_goto (tgt := 45) hx hb dd_M_payLayer_41 (by decide) ?_
    refine lv_topi (fun y41 ey41 => ?_)
    have h := tl_at ey41 h
    refine lv_istore_n (lv' := [(2, .int y41), (0, .ref (ad 0)), (1, .int v1), (3, .int v3)]) hx hb dd_M_payLayer_45 rfl hl (by decide) rfl (fun ls hl => ?_)
    refine lv_iinc (v := v3 + (1 : Int32)) (lv' := [(3, .int (v3 + (1 : Int32))), (2, .int y41), (0, .ref (ad 0)), (1, .int v1)]) hx hb dd_M_payLayer_46 hl (k := 3) rfl rfl (by decide) rfl (fun ls hl => ?_)
    refine lv_goto (tgt := 4) hx hb dd_M_payLayer_49 (by decide) ?_
    exact hk4 _ _ _ _ _ h _ _ hP hD hS _ (lv_sub hl [2, 3, 1, 0] rfl)
  have L4 : ∀  (n : Nat) (I : MI) (J : MJ) (v1 : Int32) (v2 : Int32) (v3 : Int32), ff_M_payLayer_4 n I J v1 v2 v3 = some r → ∀ (H : Heap) (locs : List Loc), va_P D cls5 (wM kc ad I J) H → va_D A (wM kc ad I J) → va_S A s.heap H locs → ∀ ls, lv_has ls 8 [(0, .ref (ad 0)), (1, .int v1), (2, .int v2), (3, .int v3)] → W p l e (headSpec (.code yy_M_payLayer cc_M_payLayer 8 (some .boolean) :: kw) { frames := 0, cells := 0, slots := 0, locals := 0 }).room s m ([.ref (ad 0), .int a1] : List Value).toArray below meth c H locs 0 0 (MQ below (va_Qi (fun z (_ : Unit) => z = r.1) (EW D kc A (wM kc ad r.2.1 r.2.2)) A) ([.ref (ad 0), .int a1] : List Value).toArray s 0 0 A) (F0 m 4 ls []) := by
    intro  n
    induction n with
    | zero => intro I J v1 v2 v3 h; exact absurd h (by simp [ff_M_payLayer_4])
    | succ n ih =>
      intro I J v1 v2 v3 h H locs hP hD hS ls hl
      rw [ff_M_payLayer_4] at h
      refine lv_iload_n hx hb dd_M_payLayer_4 rfl (lv_at hl 3 rfl) ?_
      refine lv_aload_n hx hb dd_M_payLayer_5 rfl (lv_at hl 0 rfl) ?_
      refine va_get (D := D) (ci := 4) (v := .int (I 0 3)) (C := "OpenDealModel") (T := T_M) (N := 32) hx hb hk in_M hown hK hP 0 am_0 rfl 3 (by decide) (hk _ kw_540) (fun _ h9 => h9) rfl dd_M_payLayer_6 ?_
      refine lv_icmp_ge (tgt := 52) hx hb dd_M_payLayer_9 (by decide) (fun hc42 => ?_) (fun hc42 => ?_)
      · have h := ip_out hc42 h
        refine lv_iload_n hx hb dd_M_payLayer_52 rfl (lv_at hl 2 rfl) ?_
        refine lv_if_ne (tgt := 58) hx hb dd_M_payLayer_53 (by decide) (fun hc43 => ?_) (fun hc43 => ?_)
        · have h := in_out hc43 h
          refine lv_iconst (v := 0) hx hb dd_M_payLayer_58 (by decide) ?_
          refine lv_istore_n (lv' := [(3, .int (0 : Int32)), (0, .ref (ad 0)), (1, .int v1), (2, .int v2)]) hx hb dd_M_payLayer_59 rfl hl (by decide) rfl (fun ls hl => ?_)
          refine lv_iconst (v := -1) hx hb dd_M_payLayer_60 (by decide) ?_
          refine lv_istore (lv' := [(4, .int (-1 : Int32)), (3, .int (0 : Int32)), (0, .ref (ad 0)), (1, .int v1), (2, .int v2)]) hx hb dd_M_payLayer_61 hl (by decide) rfl (fun ls hl => ?_)
          refine lv_iconst (v := 0) hx hb dd_M_payLayer_63 (by decide) ?_
          refine lv_istore (lv' := [(5, .int (0 : Int32)), (4, .int (-1 : Int32)), (3, .int (0 : Int32)), (0, .ref (ad 0)), (1, .int v1), (2, .int v2)]) hx hb dd_M_payLayer_64 hl (by decide) rfl (fun ls hl => ?_)
          exact L66  _ _ _ _ _ _ _ _ h _ _ hP hD hS _ (lv_sub hl [3, 4, 5, 2, 1, 0] rfl)
        · have h := ip_out hc43 h
          refine lv_iconst (v := 0) hx hb dd_M_payLayer_56 (by decide) ?_
          obtain rfl := Option.some.inj h
          exact W.zret hx hb hr rfl (fun t ht hW => ⟨⟨_, (), rfl, rfl, by rw [ht]; exact hP, va_K.moved hW.alike hK, hD⟩, hS.F ht⟩) hS.2.2 dd_M_payLayer_57
      · have h := in_out hc42 h
        refine lv_aload_n hx hb dd_M_payLayer_12 rfl (lv_at hl 0 rfl) ?_
        refine va_get (D := D) (ci := 4) (v := .ref (ad 21)) (C := "OpenDealModel") (T := T_M) (N := 32) hx hb hk in_M hown hK hP 0 am_0 rfl 27 (by decide) (hk _ kw_564) (fun _ h9 => h9) rfl dd_M_payLayer_13 ?_
        refine lv_iload_n hx hb dd_M_payLayer_16 rfl (lv_at hl 3 rfl) ?_
        obtain ⟨hi44, h⟩ := oi_out h
        refine va_iald hx hb hK hP 21 0 am_21 rfl hi44 dd_M_payLayer_17 ?_
        refine lv_if_le (tgt := 44) hx hb dd_M_payLayer_18 (by decide) (fun hc45 => ?_) (fun hc45 => ?_)
        · have h := ip_out hc45 h
          refine lv_iload_n hx hb dd_M_payLayer_44 rfl (lv_at hl 2 rfl) ?_
          refine lv_istore_n (lv' := [(2, .int v2), (0, .ref (ad 0)), (1, .int v1), (3, .int v3)]) hx hb dd_M_payLayer_45 rfl hl (by decide) rfl (fun ls hl => ?_)
          refine lv_iinc (v := v3 + (1 : Int32)) (lv' := [(3, .int (v3 + (1 : Int32))), (2, .int v2), (0, .ref (ad 0)), (1, .int v1)]) hx hb dd_M_payLayer_46 hl (k := 3) rfl rfl (by decide) rfl (fun ls hl => ?_)
          refine lv_goto (tgt := 4) hx hb dd_M_payLayer_49 (by decide) ?_
          exact ih _ _ _ _ _ h _ _ hP hD hS _ (lv_sub hl [2, 3, 1, 0] rfl)
        · have h := in_out hc45 h
          refine lv_iload_n hx hb dd_M_payLayer_21 rfl (lv_at hl 2 rfl) ?_
          refine lv_if_eq (tgt := 35) hx hb dd_M_payLayer_22 (by decide) (fun hc46 => ?_) (fun hc46 => ?_)
          · have h := ip_out hc46 h
            exact L35 _ ih _ _ _ _ _ _ h _ _ hP hD hS _ (lv_sub hl [0, 1, 2, 3] rfl)
          · have h := in_out hc46 h
            refine lv_aload_n hx hb dd_M_payLayer_25 rfl (lv_at hl 0 rfl) ?_
            refine va_get (D := D) (ci := 4) (v := .ref (ad 21)) (C := "OpenDealModel") (T := T_M) (N := 32) hx hb hk in_M hown hK hP 0 am_0 rfl 27 (by decide) (hk _ kw_564) (fun _ h9 => h9) rfl dd_M_payLayer_26 ?_
            refine lv_iload_n hx hb dd_M_payLayer_29 rfl (lv_at hl 3 rfl) ?_
            obtain ⟨hi47, h⟩ := oi_out h
            refine va_iald hx hb hK hP 21 0 am_21 rfl hi47 dd_M_payLayer_30 ?_
            refine lv_iload_n hx hb dd_M_payLayer_31 rfl (lv_at hl 2 rfl) ?_
            refine lv_icmp_ge (tgt := 44) hx hb dd_M_payLayer_32 (by decide) (fun hc48 => ?_) (fun hc48 => ?_)
            · have h := ip_out hc48 h
              refine lv_iload_n hx hb dd_M_payLayer_44 rfl (lv_at hl 2 rfl) ?_
              refine lv_istore_n (lv' := [(2, .int v2), (0, .ref (ad 0)), (1, .int v1), (3, .int v3)]) hx hb dd_M_payLayer_45 rfl hl (by decide) rfl (fun ls hl => ?_)
              refine lv_iinc (v := v3 + (1 : Int32)) (lv' := [(3, .int (v3 + (1 : Int32))), (2, .int v2), (0, .ref (ad 0)), (1, .int v1)]) hx hb dd_M_payLayer_46 hl (k := 3) rfl rfl (by decide) rfl (fun ls hl => ?_)
              refine lv_goto (tgt := 4) hx hb dd_M_payLayer_49 (by decide) ?_
              exact ih _ _ _ _ _ h _ _ hP hD hS _ (lv_sub hl [2, 3, 1, 0] rfl)
            · have h := in_out hc48 h
              exact L35 _ ih _ _ _ _ _ _ h _ _ hP hD hS _ (lv_sub hl [0, 1, 2, 3] rfl)
  have hl := lv_entry ([.ref (ad 0), .int a1]) (n := 8) (Nat.le_of_ble_eq_true rfl)
  rw [lg_entry_eq]
  generalize (lg_sl ([.ref (ad 0), .int a1]) ++ List.replicate (8 - (lg_sl ([.ref (ad 0), .int a1])).length) Slot.unset).toArray = ls at hl ⊢
  have hl : lv_has ls 8 [(0, .ref (ad 0)), (1, .int a1)] := hl
  unfold ff_M_payLayer at h
  refine lv_iconst (v := 0) hx hb dd_M_payLayer_0 (by decide) ?_
  refine lv_istore_n (lv' := [(2, .int (0 : Int32)), (0, .ref (ad 0)), (1, .int a1)]) hx hb dd_M_payLayer_1 rfl hl (by decide) rfl (fun ls hl => ?_)
  refine lv_iconst (v := 0) hx hb dd_M_payLayer_2 (by decide) ?_
  refine lv_istore_n (lv' := [(3, .int (0 : Int32)), (2, .int (0 : Int32)), (0, .ref (ad 0)), (1, .int a1)]) hx hb dd_M_payLayer_3 rfl hl (by decide) rfl (fun ls hl => ?_)
  exact L4  _ _ _ _ _ _ h _ _ hP hD hS _ (lv_sub hl [2, 3, 1, 0] rfl)
