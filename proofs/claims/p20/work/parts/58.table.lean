/-! the static table of the witnesses; laid by program -/
def wtv (j : Nat) : Int32 := match j with
  | 0 => 2
  | 1 => 3
  | 2 => 5
  | _ => 7
abbrev BT (tw : Nat) : State → Prop := fun U => va_Z "OpenDeal$Numbers" "WITNESSES" "[I" (.ref tw) (fun _ => False) U U.heap ∧ va_T .int tw 4 (fun j => .int (wtv j)) (fun _ => False) U U.heap
theorem bt_mv {tw : Nat} {s U : State} (h : BT tw s) (hU : U.heap = s.heap) (hW : s.WarmedH U.vm) : BT tw U := ⟨by rw [hU]; exact va_Z.moved hW.alike h.1, by rw [hU]; exact va_T.moved hW.alike h.2⟩
theorem bt_bl {tw : Nat} (U : State) (g : JFrame) (mk : MethodId) (a : Array Value) (h : BT tw U) : BT tw (U.calling g mk a) := ⟨va_Z.moved (u := U) (U := U.calling g mk a) (Vm.Alike.refl U.vm) h.1, va_T.moved (u := U) (U := U.calling g mk a) (Vm.Alike.refl U.vm) h.2⟩
def ff_N_isPrime_2  : Nat → Int32 → Int32 → Option Int32
  | 0, _, _ => none
  | n + 1, v0, v1 => if (4 : Int32) ≤ v1 then (some (1 : Int32)) else (if ¬ (v1 < 0 ∨ 4 ≤ (v1).toNatClampNeg) then (ff_N_looksPrime n v0 (wtv (v1).toNatClampNeg)).bind fun r3 => if r3 = 0 then (some (0 : Int32)) else (ff_N_isPrime_2 n v0 (v1 + (1 : Int32))) else none)
def ff_N_isPrime (n : Nat) (a0 : Int32) : Option Int32 := ff_N_isPrime_2 n a0 (0 : Int32)
set_option maxHeartbeats 4000000 in
set_option maxRecDepth 100000 in
theorem mm_N_isPrime (l : Launch) (tw : Nat) (n : Nat) (a0 : Int32) (r : Int32) (h : ff_N_isPrime n a0 = some r) : Met l yy_N_isPrime (.code yy_N_isPrime cc_N_isPrime 2 (some .boolean) :: kw) { frames := 3, cells := 0, slots := 0, locals := 72 } (va_Pc [.int a0] (BT tw)) (vp_Si (fun z => z = r)) 0 0 (fun _ => False) := by
  refine Met.ofW (cc := cc_N_isPrime) (maxL := 2) (ret := some .boolean) (by decide) rfl ?_
  intro p e s m args below meth c s₁ B hml hv
  obtain ⟨rfl, hBT⟩ := hv
  have hx := B.exec
  have hb := B.bytes
  have hr := B.returns
  have hlocks := B.notSynchronized
  have hk : ∀ w ∈ kw, w.before _ s = true := fun w hw => atoms_spec (ws := (.code yy_N_isPrime cc_N_isPrime 2 (some .boolean) :: kw)) B.pre w (List.mem_cons_of_mem _ hw)
  have hown : s.vm.findClass "OpenDeal$Numbers" = some m.cls := findClass_of_methodNamed B.named
  have L2 : ∀  (n : Nat) (v0 : Int32) (v1 : Int32), ff_N_isPrime_2  n v0 v1 = some r → ∀ ls, lv_has ls 2 [(0, .int v0), (1, .int v1)] → W p l e (headSpec (.code yy_N_isPrime cc_N_isPrime 2 (some .boolean) :: kw) { frames := 3, cells := 0, slots := 0, locals := 72 }).room s m ([.int a0] : List Value).toArray below meth c s.heap [] 0 0 (MQ below (vp_Si (fun z => z = r)) ([.int a0] : List Value).toArray s 0 0 (fun _ => False)) (F0 m 2 ls []) := by
    intro  n
    induction n with
    | zero => intro v0 v1 h; exact absurd h (by simp [ff_N_isPrime_2])
    | succ n ih =>
      intro v0 v1 h ls hl
      rw [ff_N_isPrime_2] at h
      refine lv_iload_n hx hb dd_N_isPrime_2 rfl (lv_at hl 1 rfl) ?_
      refine va_gets hx hb hBT.1 va_S.rf hown (hk _ kw_150) (fun _ h9 => h9) dd_N_isPrime_3 ?_
      refine va_tlen (v := 4) hx hb hBT.2 va_S.rf rfl dd_N_isPrime_6 ?_
      refine lv_icmp_ge (tgt := 30) hx hb dd_N_isPrime_7 (by decide) (fun hc1 => ?_) (fun hc1 => ?_)
      · have h := ip_out hc1 h
        refine lv_iconst (v := 1) hx hb dd_N_isPrime_30 (by decide) ?_
        obtain rfl := Option.some.inj h
        exact W.zret hx hb hr rfl (fun t ht hW => ⟨_, rfl, rfl, ht⟩) (fun q hq => by cases hq) dd_N_isPrime_31
      · have h := in_out hc1 h
        refine lv_iload_n hx hb dd_N_isPrime_10 rfl (lv_at hl 0 rfl) ?_
        refine va_gets hx hb hBT.1 va_S.rf hown (hk _ kw_150) (fun _ h9 => h9) dd_N_isPrime_11 ?_
        refine lv_iload_n hx hb dd_N_isPrime_14 rfl (lv_at hl 1 rfl) ?_
        obtain ⟨hi2, h⟩ := oi_out h
        refine va_ti hx hb hBT.2 va_S.rf hi2 rfl dd_N_isPrime_15 ?_
        obtain ⟨r3, hr3, h⟩ := ob_out h
        refine ro_Si (n := 2) (As := [.int v0, .int (wtv (v1).toNatClampNeg)]) hx hb hml hown hk (mm_N_looksPrime l _ _ _ _ hr3) (fun U _ _ => trivial) (fun _ _ _ _ _ => trivial) kw_152 kw_153 kw_5 kw_154 ⟨rfl, rfl⟩ (by decide +kernel) ⟨Nat.le_of_ble_eq_true rfl, Nat.le_of_ble_eq_true rfl⟩ rfl hl.1 rfl (Nat.le_of_ble_eq_true rfl) dd_N_isPrime_16 ⟨Nat.zero_le _, Nat.zero_le _⟩ ?_
        refine lv_if_ne (tgt := 24) hx hb dd_N_isPrime_19 (by decide) (fun hc4 => ?_) (fun hc4 => ?_)
        · have h := in_out hc4 h
          refine lv_iinc (v := v1 + (1 : Int32)) (lv' := [(1, .int (v1 + (1 : Int32))), (0, .int v0)]) hx hb dd_N_isPrime_24 hl (k := 1) rfl rfl (by decide) rfl (fun ls hl => ?_)
          refine lv_goto (tgt := 2) hx hb dd_N_isPrime_27 (by decide) ?_
          exact ih _ _ h _ (lv_sub hl [1, 0] rfl)
        · have h := ip_out hc4 h
          refine lv_iconst (v := 0) hx hb dd_N_isPrime_22 (by decide) ?_
          obtain rfl := Option.some.inj h
          exact W.zret hx hb hr rfl (fun t ht hW => ⟨_, rfl, rfl, ht⟩) (fun q hq => by cases hq) dd_N_isPrime_23
  have hl := lv_entry ([.int a0]) (n := 2) (Nat.le_of_ble_eq_true rfl)
  rw [lg_entry_eq]
  generalize (lg_sl ([.int a0]) ++ List.replicate (2 - (lg_sl ([.int a0])).length) Slot.unset).toArray = ls at hl ⊢
  have hl : lv_has ls 2 [(0, .int a0)] := hl
  unfold ff_N_isPrime at h
  refine lv_iconst (v := 0) hx hb dd_N_isPrime_0 (by decide) ?_
  refine lv_istore_n (lv' := [(1, .int (0 : Int32)), (0, .int a0)]) hx hb dd_N_isPrime_1 rfl hl (by decide) rfl (fun ls hl => ?_)
  exact L2  _ _ _ h _ (lv_sub hl [1, 0] rfl)
def ff_N_isTablePrime (n : Nat) (a0 : Int32) : Option Int32 := if a0 ≤ (65536 : Int32) then (some (0 : Int32)) else ((ff_N_isPrime n a0).bind fun r2 => if r2 = 0 then (some (0 : Int32)) else ((ff_N_isPrime n ((a0 - (1 : Int32)) / (2 : Int32))).bind fun r4 => if r4 = 0 then (some (0 : Int32)) else (some (1 : Int32))))
set_option maxHeartbeats 4000000 in
set_option maxRecDepth 100000 in
theorem mm_N_isTablePrime (l : Launch) (tw : Nat) (n : Nat) (a0 : Int32) (r : Int32) (h : ff_N_isTablePrime n a0 = some r) : Met l yy_N_isTablePrime (.code yy_N_isTablePrime cc_N_isTablePrime 1 (some .boolean) :: kw) { frames := 4, cells := 0, slots := 0, locals := 93 } (va_Pc [.int a0] (BT tw)) (vp_Si (fun z => z = r)) 0 0 (fun _ => False) := by
  refine Met.ofW (cc := cc_N_isTablePrime) (maxL := 1) (ret := some .boolean) (by decide) rfl ?_
  intro p e s m args below meth c s₁ B hml hv
  obtain ⟨rfl, hBT⟩ := hv
  have hx := B.exec
  have hb := B.bytes
  have hr := B.returns
  have hlocks := B.notSynchronized
  have hk : ∀ w ∈ kw, w.before _ s = true := fun w hw => atoms_spec (ws := (.code yy_N_isTablePrime cc_N_isTablePrime 1 (some .boolean) :: kw)) B.pre w (List.mem_cons_of_mem _ hw)
  have hown : s.vm.findClass "OpenDeal$Numbers" = some m.cls := findClass_of_methodNamed B.named
  have hl := lv_entry ([.int a0]) (n := 1) (Nat.le_of_ble_eq_true rfl)
  rw [lg_entry_eq]
  generalize (lg_sl ([.int a0]) ++ List.replicate (1 - (lg_sl ([.int a0])).length) Slot.unset).toArray = ls at hl ⊢
  have hl : lv_has ls 1 [(0, .int a0)] := hl
  unfold ff_N_isTablePrime at h
  refine lv_iload_n hx hb dd_N_isTablePrime_0 rfl (lv_at hl 0 rfl) ?_
  refine lv_ldc (v := 65536) hx hb hown (hk _ kw_146) dd_N_isTablePrime_1 ?_
  refine lv_icmp_le (tgt := 28) hx hb dd_N_isTablePrime_3 (by decide) (fun hc1 => ?_) (fun hc1 => ?_)
  · have h := ip_out hc1 h
    refine lv_iconst (v := 0) hx hb dd_N_isTablePrime_28 (by decide) ?_
    obtain rfl := Option.some.inj h
    exact W.zret hx hb hr rfl (fun t ht hW => ⟨_, rfl, rfl, ht⟩) (fun q hq => by cases hq) dd_N_isTablePrime_29
  · have h := in_out hc1 h
    refine lv_iload_n hx hb dd_N_isTablePrime_6 rfl (lv_at hl 0 rfl) ?_
    obtain ⟨r2, hr2, h⟩ := ob_out h
    refine ro_Si (n := 1) (As := [.int a0]) hx hb hml hown hk (mm_N_isPrime l tw _ _ _ hr2) (fun U hU hW => bt_mv hBT hU hW) bt_bl kw_147 kw_148 kw_5 kw_149 ⟨rfl, rfl⟩ (by decide +kernel) ⟨Nat.le_of_ble_eq_true rfl, Nat.le_of_ble_eq_true rfl⟩ rfl hl.1 rfl (Nat.le_of_ble_eq_true rfl) dd_N_isTablePrime_7 ⟨Nat.zero_le _, Nat.zero_le _⟩ ?_
    refine lv_if_eq (tgt := 28) hx hb dd_N_isTablePrime_10 (by decide) (fun hc3 => ?_) (fun hc3 => ?_)
    · have h := ip_out hc3 h
      refine lv_iconst (v := 0) hx hb dd_N_isTablePrime_28 (by decide) ?_
      obtain rfl := Option.some.inj h
      exact W.zret hx hb hr rfl (fun t ht hW => ⟨_, rfl, rfl, ht⟩) (fun q hq => by cases hq) dd_N_isTablePrime_29
    · have h := in_out hc3 h
      refine lv_iload_n hx hb dd_N_isTablePrime_13 rfl (lv_at hl 0 rfl) ?_
      refine lv_iconst (v := 1) hx hb dd_N_isTablePrime_14 (by decide) ?_
      refine lv_isub hx hb dd_N_isTablePrime_15 ?_
      refine lv_iconst (v := 2) hx hb dd_N_isTablePrime_16 (by decide) ?_
      refine lv_idiv hx hb dd_N_isTablePrime_17 (by decide) ?_
      obtain ⟨r4, hr4, h⟩ := ob_out h
      refine ro_Si (n := 1) (As := [.int ((a0 - (1 : Int32)) / (2 : Int32))]) hx hb hml hown hk (mm_N_isPrime l tw _ _ _ hr4) (fun U hU hW => bt_mv hBT hU hW) bt_bl kw_147 kw_148 kw_5 kw_149 ⟨rfl, rfl⟩ (by decide +kernel) ⟨Nat.le_of_ble_eq_true rfl, Nat.le_of_ble_eq_true rfl⟩ rfl hl.1 rfl (Nat.le_of_ble_eq_true rfl) dd_N_isTablePrime_18 ⟨Nat.zero_le _, Nat.zero_le _⟩ ?_
      refine lv_if_eq (tgt := 28) hx hb dd_N_isTablePrime_21 (by decide) (fun hc5 => ?_) (fun hc5 => ?_)
      · have h := ip_out hc5 h
        refine lv_iconst (v := 0) hx hb dd_N_isTablePrime_28 (by decide) ?_
        obtain rfl := Option.some.inj h
        exact W.zret hx hb hr rfl (fun t ht hW => ⟨_, rfl, rfl, ht⟩) (fun q hq => by cases hq) dd_N_isTablePrime_29
      · have h := in_out hc5 h
        refine lv_iconst (v := 1) hx hb dd_N_isTablePrime_24 (by decide) ?_
        refine lv_goto (tgt := 29) hx hb dd_N_isTablePrime_25 (by decide) ?_
        obtain rfl := Option.some.inj h
        exact W.zret hx hb hr rfl (fun t ht hW => ⟨_, rfl, rfl, ht⟩) (fun q hq => by cases hq) dd_N_isTablePrime_29
def ff_O_prime_23  : Nat → MI → MJ → Int32 → Int32 → Option (Int32 × MI × MJ)
  | 0, _, _, _, _ => none
  | n + 1, I, J, v1, v2 => if (52 : Int32) ≤ v2 then (some ((1 : Int32), I, J)) else (if ¬ ((0 : Int32) < 0 ∨ 9 ≤ ((0 : Int32)).toNatClampNeg) then (ff_N_ofCard n v2 v1).bind fun r3 => if ¬ (v2 < 0 ∨ 52 ≤ (v2).toNatClampNeg) then ff_O_prime_23 n (ui I (6 + ((0 : Int32)).toNatClampNeg) (v2).toNatClampNeg r3) J v1 (v2 + (1 : Int32)) else none else none)
def ff_O_prime (n : Nat) (I : MI) (J : MJ) (a1 : Int32) : Option (Int32 × MI × MJ) := if (I 0 0) = 0 then ((ff_N_isTablePrime n a1).bind fun r6 => if r6 = 0 then (some ((0 : Int32), I, J)) else (ff_O_prime_23 n (ui I 0 0 a1) J a1 (0 : Int32))) else (some ((0 : Int32), I, J))
set_option maxHeartbeats 4000000 in
set_option maxRecDepth 100000 in
theorem mm_O_prime (l : Launch) (tw : Nat) (D : va_G) (kc : Nat → ClassId) (ad : Nat → Nat) (I0 : MI) (J0 : MJ) (sz n : Nat) (a1 : Int32) (r : Int32 × MI × MJ) (h : ff_O_prime n I0 J0 a1 = some r) : Met l yy_O_prime (.code yy_O_prime cc_O_prime 3 (some .boolean) :: kw) { frames := 5, cells := 0, slots := 0, locals := 113 } (va_Pc [.ref (ad 0), .int a1] (fun U => BW D kc (wC kc ad I0 J0) sz U ∧ BT tw U)) (va_Qi (fun z (_ : Unit) => z = r.1) (EW D kc (va_A (wC kc ad I0 J0) sz) (wC kc ad r.2.1 r.2.2)) (va_A (wC kc ad I0 J0) sz)) 0 0 (va_A (wC kc ad I0 J0) sz) := by
  refine Met.ofW (cc := cc_O_prime) (maxL := 3) (ret := some .boolean) (by decide) rfl ?_
  intro p e s m args below meth c s₁ B hml hv
  obtain ⟨rfl, ⟨hsz, hP, hK, hD0⟩, hBT⟩ := hv
  have hx := B.exec
  have hb := B.bytes
  have hr := B.returns
  have hlocks := B.notSynchronized
  have hk : ∀ w ∈ kw, w.before _ s = true := fun w hw => atoms_spec (ws := (.code yy_O_prime cc_O_prime 3 (some .boolean) :: kw)) B.pre w (List.mem_cons_of_mem _ hw)
  have hown : s.vm.findClass "OpenDeal" = some m.cls := findClass_of_methodNamed B.named
  subst hsz
  have hD := hD0.self (sz := s.heap.size)
  generalize hAe : va_A (wC kc ad I0 J0) s.heap.size = A at hD ⊢
  have hA : ∀ q : Nat, s.heap.size ≤ q → A q := fun q h => by rw [← hAe]; exact Or.inr h
  have hS : va_S A s.heap s.heap [] := va_S.rf
  have hP : va_P D cls5 (wC kc ad I0 J0) s.heap := hP
  clear hAe hD0
  have L23 : ∀  (n : Nat) (I : MI) (J : MJ) (v1 : Int32) (v2 : Int32), ff_O_prime_23 n I J v1 v2 = some r → ∀ (H : Heap) (locs : List Loc), va_P D cls5 (wC kc ad I J) H → va_D A (wC kc ad I J) → va_S A s.heap H locs → ∀ ls, lv_has ls 3 [(0, .ref (ad 0)), (1, .int v1), (2, .int v2)] → W p l e (headSpec (.code yy_O_prime cc_O_prime 3 (some .boolean) :: kw) { frames := 5, cells := 0, slots := 0, locals := 113 }).room s m ([.ref (ad 0), .int a1] : List Value).toArray below meth c H locs 0 0 (MQ below (va_Qi (fun z (_ : Unit) => z = r.1) (EW D kc A (wC kc ad r.2.1 r.2.2)) A) ([.ref (ad 0), .int a1] : List Value).toArray s 0 0 A) (F0 m 23 ls []) := by
    intro  n
    induction n with
    | zero => intro I J v1 v2 h; exact absurd h (by simp [ff_O_prime_23])
    | succ n ih =>
      intro I J v1 v2 h H locs hP hD hS ls hl
      rw [ff_O_prime_23] at h
      refine lv_iload_n hx hb dd_O_prime_23 rfl (lv_at hl 2 rfl) ?_
      refine lv_bipush (v := 52) hx hb dd_O_prime_24 (by decide) ?_
      refine lv_icmp_ge (tgt := 48) hx hb dd_O_prime_26 (by decide) (fun hc1 => ?_) (fun hc1 => ?_)
      · have h := ip_out hc1 h
        refine lv_iconst (v := 1) hx hb dd_O_prime_48 (by decide) ?_
        obtain rfl := Option.some.inj h
        exact W.zret hx hb hr rfl (fun t ht hW => ⟨⟨_, (), rfl, rfl, by rw [ht]; exact hP, va_K.moved hW.alike hK, hD⟩, hS.F ht⟩) hS.2.2 dd_O_prime_49
      · have h := in_out hc1 h
        refine lv_aload_n hx hb dd_O_prime_29 rfl (lv_at hl 0 rfl) ?_
        refine va_get (D := D) (ci := 0) (v := .ref (ad 2)) (C := "OpenDeal") (T := T_O) (N := 11) hx hb hk in_O hown hK hP 0 at_O rfl 5 (by decide) (hk _ kw_110) (fun _ h9 => h9) rfl dd_O_prime_30 ?_
        refine lv_iconst (v := 0) hx hb dd_O_prime_33 (by decide) ?_
        obtain ⟨hi2, h⟩ := oi_out h
        refine ag_ald (b := ad (6 + ((0 : Int32)).toNatClampNeg)) hx hb hK hP 2 4 at_dk rfl hi2 (if_pos (vi_lt hi2)) dd_O_prime_34 ?_
        refine lv_iload_n hx hb dd_O_prime_35 rfl (lv_at hl 2 rfl) ?_
        refine lv_iload_n hx hb dd_O_prime_36 rfl (lv_at hl 2 rfl) ?_
        refine lv_iload_n hx hb dd_O_prime_37 rfl (lv_at hl 1 rfl) ?_
        obtain ⟨r3, hr3, h⟩ := ob_out h
        refine ro_Si (n := 2) (As := [.int v2, .int v1]) hx hb hml hown hk (mm_N_ofCard l _ _ _ _ hr3) (fun U _ _ => trivial) (fun _ _ _ _ _ => trivial) kw_161 kw_162 kw_5 kw_163 ⟨rfl, rfl⟩ (by decide +kernel) ⟨Nat.le_of_ble_eq_true rfl, Nat.le_of_ble_eq_true rfl⟩ rfl hl.1 rfl (Nat.le_of_ble_eq_true rfl) dd_O_prime_38 ⟨Nat.le_of_ble_eq_true rfl, Nat.le_of_ble_eq_true rfl⟩ ?_
        obtain ⟨hi4, h⟩ := oi_out h
        refine va_iast hx hb hK hP hD hS (6 + ((0 : Int32)).toNatClampNeg) 0 (at_A (isA_deck (vi_lt hi2))) rfl (x := r3) hi4 dd_O_prime_41 (fun H locs hP hD hS => ?_)
        rw [pt_A (isA_deck (vi_lt hi2))] at hP hD
        refine lv_iinc (v := v2 + (1 : Int32)) (lv' := [(2, .int (v2 + (1 : Int32))), (0, .ref (ad 0)), (1, .int v1)]) hx hb dd_O_prime_42 hl (k := 2) rfl rfl (by decide) rfl (fun ls hl => ?_)
        refine lv_goto (tgt := 23) hx hb dd_O_prime_45 (by decide) ?_
        exact ih _ _ _ _ h _ _ hP hD hS _ (lv_sub hl [1, 2, 0] rfl)
  have hl := lv_entry ([.ref (ad 0), .int a1]) (n := 3) (Nat.le_of_ble_eq_true rfl)
  rw [lg_entry_eq]
  generalize (lg_sl ([.ref (ad 0), .int a1]) ++ List.replicate (3 - (lg_sl ([.ref (ad 0), .int a1])).length) Slot.unset).toArray = ls at hl ⊢
  have hl : lv_has ls 3 [(0, .ref (ad 0)), (1, .int a1)] := hl
  unfold ff_O_prime at h
  refine lv_aload_n hx hb dd_O_prime_0 rfl (lv_at hl 0 rfl) ?_
  refine va_get (D := D) (ci := 0) (v := .int (I0 0 0)) (C := "OpenDeal") (T := T_O) (N := 11) hx hb hk in_O hown hK hP 0 at_O rfl 0 (by decide) (hk _ kw_105) (fun _ h9 => h9) rfl dd_O_prime_1 ?_
  refine lv_if_ne (tgt := 14) hx hb dd_O_prime_4 (by decide) (fun hc5 => ?_) (fun hc5 => ?_)
  · have h := in_out hc5 h
    refine lv_iconst (v := 0) hx hb dd_O_prime_14 (by decide) ?_
    obtain rfl := Option.some.inj h
    exact W.zret hx hb hr rfl (fun t ht hW => ⟨⟨_, (), rfl, rfl, by rw [ht]; exact hP, va_K.moved hW.alike hK, hD⟩, hS.F ht⟩) hS.2.2 dd_O_prime_15
  · have h := ip_out hc5 h
    refine lv_iload_n hx hb dd_O_prime_7 rfl (lv_at hl 1 rfl) ?_
    obtain ⟨r6, hr6, h⟩ := ob_out h
    refine ro_Si (n := 1) (As := [.int a1]) hx hb hml hown hk (mm_N_isTablePrime l tw _ _ _ hr6) (fun U hU hW => bt_mv hBT hU hW) bt_bl kw_143 kw_144 kw_5 kw_145 ⟨rfl, rfl⟩ (by decide +kernel) ⟨Nat.le_of_ble_eq_true rfl, Nat.le_of_ble_eq_true rfl⟩ rfl hl.1 rfl (Nat.le_of_ble_eq_true rfl) dd_O_prime_8 ⟨Nat.le_of_ble_eq_true rfl, Nat.le_of_ble_eq_true rfl⟩ ?_
    refine lv_if_ne (tgt := 16) hx hb dd_O_prime_11 (by decide) (fun hc7 => ?_) (fun hc7 => ?_)
    · have h := in_out hc7 h
      refine lv_aload_n hx hb dd_O_prime_16 rfl (lv_at hl 0 rfl) ?_
      refine lv_iload_n hx hb dd_O_prime_17 rfl (lv_at hl 1 rfl) ?_
      refine va_put (D := D) (ci := 0) (v := .int a1) (ty := .int) (C := "OpenDeal") (T := T_O) (N := 11) hx hb hk in_O ty_O tk_O nm_O hown hK hP hD hS 0 at_O rfl 0 (by decide) (hk _ kw_105) (fun _ h9 => h9) rfl (by decide +kernel) rfl rfl (Nat.le_of_ble_eq_true rfl) dd_O_prime_18 (fun H locs hP hD hS => ?_)
      rw [pt_O0] at hP hD
      refine lv_iconst (v := 0) hx hb dd_O_prime_21 (by decide) ?_
      refine lv_istore_n (lv' := [(2, .int (0 : Int32)), (0, .ref (ad 0)), (1, .int a1)]) hx hb dd_O_prime_22 rfl hl (by decide) rfl (fun ls hl => ?_)
      exact L23  _ _ _ _ _ h _ _ hP hD hS _ (lv_sub hl [1, 2, 0] rfl)
    · have h := ip_out hc7 h
      refine lv_iconst (v := 0) hx hb dd_O_prime_14 (by decide) ?_
      obtain rfl := Option.some.inj h
      exact W.zret hx hb hr rfl (fun t ht hW => ⟨⟨_, (), rfl, rfl, by rw [ht]; exact hP, va_K.moved hW.alike hK, hD⟩, hS.F ht⟩) hS.2.2 dd_O_prime_15
