/-! methods over numbers alone, laid by program -/
def ff_N_times (n : Nat) (a0 : Int32) (a1 : Int32) (a2 : Int32) : Option Int32 := if a2 ≤ 0 then (some (0 : Int32)) else (if ¬ (Int32.toInt64 a2) = 0 then tl (((Int32.toInt64 a0) * (Int32.toInt64 a1)) - ((Int32.toInt64 a0) * (Int32.toInt64 a1)) / (Int32.toInt64 a2) * (Int32.toInt64 a2)) fun y3 => some (Int64.toInt32 y3) else none)
set_option maxHeartbeats 4000000 in
set_option maxRecDepth 100000 in
theorem mm_N_times (l : Launch) (n : Nat) (a0 : Int32) (a1 : Int32) (a2 : Int32) (r : Int32) (h : ff_N_times n a0 a1 a2 = some r) : Met l yy_N_times (.code yy_N_times cc_N_times 3 (some .int) :: kw) { frames := 0, cells := 0, slots := 0, locals := 0 } (va_Pc [.int a0, .int a1, .int a2] (fun _ => True)) (vp_Si (fun z => z = r)) 0 0 (fun _ => False) := by
  refine Met.ofW (cc := cc_N_times) (maxL := 3) (ret := some .int) (by decide) rfl ?_
  intro p e s m args below meth c s₁ B hml hv
  obtain ⟨rfl, -⟩ := hv
  have hx := B.exec
  have hb := B.bytes
  have hr := B.returns
  have hlocks := B.notSynchronized
  have hk : ∀ w ∈ kw, w.before _ s = true := fun w hw => atoms_spec (ws := (.code yy_N_times cc_N_times 3 (some .int) :: kw)) B.pre w (List.mem_cons_of_mem _ hw)
  have hown : s.vm.findClass "OpenDeal$Numbers" = some m.cls := findClass_of_methodNamed B.named
  have hl := lv_entry ([.int a0, .int a1, .int a2]) (n := 3) (Nat.le_of_ble_eq_true rfl)
  rw [lg_entry_eq]
  generalize (lg_sl ([.int a0, .int a1, .int a2]) ++ List.replicate (3 - (lg_sl ([.int a0, .int a1, .int a2])).length) Slot.unset).toArray = ls at hl ⊢
  have hl : lv_has ls 3 [(0, .int a0), (1, .int a1), (2, .int a2)] := hl
  unfold ff_N_times at h
  refine lv_iload_n hx hb dd_N_times_0 rfl (lv_at hl 2 rfl) ?_
  refine lv_if_le (tgt := 16) hx hb dd_N_times_1 (by decide) (fun hc1 => ?_) (fun hc1 => ?_)
  · have h := ip_out hc1 h
    refine lv_iconst (v := 0) hx hb dd_N_times_16 (by decide) ?_
    obtain rfl := Option.some.inj h
    exact W.iret hx hb hr (fun t ht hW => ⟨_, rfl, rfl, ht⟩) (fun q hq => by cases hq) dd_N_times_17
  · have h := in_out hc1 h
    refine lv_iload_n hx hb dd_N_times_4 rfl (lv_at hl 0 rfl) ?_
    refine lv_i2l hx hb dd_N_times_5 rfl ?_
    refine lv_iload_n hx hb dd_N_times_6 rfl (lv_at hl 1 rfl) ?_
    refine lv_i2l hx hb dd_N_times_7 rfl ?_
    refine lv_lmul hx hb dd_N_times_8 ?_
    refine lv_iload_n hx hb dd_N_times_9 rfl (lv_at hl 2 rfl) ?_
    refine lv_i2l hx hb dd_N_times_10 rfl ?_
    obtain ⟨hz2, h⟩ := oi_out h
    refine lv_lrem hx hb dd_N_times_11 hz2 ?_
    refine lv_topl (fun y3 ey3 => ?_)
    have h := tl_at ey3 h
    refine lv_l2i hx hb dd_N_times_12 rfl ?_
    refine lv_goto (tgt := 17) hx hb dd_N_times_13 (by decide) ?_
    obtain rfl := Option.some.inj h
    exact W.iret hx hb hr (fun t ht hW => ⟨_, rfl, rfl, ht⟩) (fun q hq => by cases hq) dd_N_times_17
def ff_N_power_29 (k8 : Int32 → Int32 → Int32 → Int32 → Int32 → Int32 → Option Int32) (n : Nat) (v0 : Int32) (v1 : Int32) (v2 : Int32) (v3 : Int32) (v4 : Int32) (v5 : Int32) : Option Int32 := (ff_N_times n v4 v4 v2).bind fun r1 => tl (v5 / (2 : Int32)) fun y2 => k8 v0 v1 v2 v3 r1 y2
def ff_N_power_8  : Nat → Int32 → Int32 → Int32 → Int32 → Int32 → Int32 → Option Int32
  | 0, _, _, _, _, _, _ => none
  | n + 1, v0, v1, v2, v3, v4, v5 => if v5 ≤ 0 then (some v3) else (tl (v5 - v5 / (2 : Int32) * (2 : Int32)) fun y4 => if y4 = (1 : Int32) then ((ff_N_times n v3 v4 v2).bind fun r6 => ff_N_power_29 (ff_N_power_8 n) n v0 v1 v2 r6 v4 v5) else (ff_N_power_29 (ff_N_power_8 n) n v0 v1 v2 v3 v4 v5))
def ff_N_power (n : Nat) (a0 : Int32) (a1 : Int32) (a2 : Int32) : Option Int32 := ff_N_power_8 n a0 a1 a2 (1 : Int32) a0 a1
set_option maxHeartbeats 4000000 in
set_option maxRecDepth 100000 in
theorem mm_N_power (l : Launch) (n : Nat) (a0 : Int32) (a1 : Int32) (a2 : Int32) (r : Int32) (h : ff_N_power n a0 a1 a2 = some r) : Met l yy_N_power (.code yy_N_power cc_N_power 6 (some .int) :: kw) { frames := 1, cells := 0, slots := 0, locals := 22 } (va_Pc [.int a0, .int a1, .int a2] (fun _ => True)) (vp_Si (fun z => z = r)) 0 0 (fun _ => False) := by
  refine Met.ofW (cc := cc_N_power) (maxL := 6) (ret := some .int) (by decide) rfl ?_
  intro p e s m args below meth c s₁ B hml hv
  obtain ⟨rfl, -⟩ := hv
  have hx := B.exec
  have hb := B.bytes
  have hr := B.returns
  have hlocks := B.notSynchronized
  have hk : ∀ w ∈ kw, w.before _ s = true := fun w hw => atoms_spec (ws := (.code yy_N_power cc_N_power 6 (some .int) :: kw)) B.pre w (List.mem_cons_of_mem _ hw)
  have hown : s.vm.findClass "OpenDeal$Numbers" = some m.cls := findClass_of_methodNamed B.named
  have L29 : ∀ (k8 : Int32 → Int32 → Int32 → Int32 → Int32 → Int32 → Option Int32) (hk8 : ∀ (v0 : Int32) (v1 : Int32) (v2 : Int32) (v3 : Int32) (v4 : Int32) (v5 : Int32), k8 v0 v1 v2 v3 v4 v5 = some r → ∀ ls, lv_has ls 6 [(0, .int v0), (1, .int v1), (2, .int v2), (3, .int v3), (4, .int v4), (5, .int v5)] → W p l e (headSpec (.code yy_N_power cc_N_power 6 (some .int) :: kw) { frames := 1, cells := 0, slots := 0, locals := 22 }).room s m ([.int a0, .int a1, .int a2] : List Value).toArray below meth c s.heap [] 0 0 (MQ below (vp_Si (fun z => z = r)) ([.int a0, .int a1, .int a2] : List Value).toArray s 0 0 (fun _ => False)) (F0 m 8 ls [])) (n : Nat) (v0 : Int32) (v1 : Int32) (v2 : Int32) (v3 : Int32) (v4 : Int32) (v5 : Int32), ff_N_power_29 k8 n v0 v1 v2 v3 v4 v5 = some r → ∀ ls, lv_has ls 6 [(0, .int v0), (1, .int v1), (2, .int v2), (3, .int v3), (4, .int v4), (5, .int v5)] → W p l e (headSpec (.code yy_N_power cc_N_power 6 (some .int) :: kw) { frames := 1, cells := 0, slots := 0, locals := 22 }).room s m ([.int a0, .int a1, .int a2] : List Value).toArray below meth c s.heap [] 0 0 (MQ below (vp_Si (fun z => z = r)) ([.int a0, .int a1, .int a2] : List Value).toArray s 0 0 (fun _ => False)) (F0 m 29 ls []) := by
    intro k8 hk8 n v0 v1 v2 v3 v4 v5 h ls hl
    unfold ff_N_power_29 at h
    refine lv_iload hx hb dd_N_power_29 (lv_at hl 4 rfl) ?_
    refine lv_iload hx hb dd_N_power_31 (lv_at hl 4 rfl) ?_
    refine lv_iload_n hx hb dd_N_power_33 rfl (lv_at hl 2 rfl) ?_
    obtain ⟨r1, hr1, h⟩ := ob_out h
    refine ro_Si (n := 3) (As := [.int v4, .int v4, .int v2]) hx hb hml hown hk (mm_N_times l _ _ _ _ _ hr1) (fun U _ _ => trivial) (fun _ _ _ _ _ => trivial) kw_158 kw_159 kw_5 kw_160 ⟨rfl, rfl⟩ (by decide +kernel) ⟨Nat.le_of_ble_eq_true rfl, Nat.le_of_ble_eq_true rfl⟩ rfl hl.1 rfl (Nat.le_of_ble_eq_true rfl) dd_N_power_34 ⟨Nat.zero_le _, Nat.zero_le _⟩ ?_
    refine lv_istore (lv' := [(4, .int r1), (0, .int v0), (1, .int v1), (2, .int v2), (3, .int v3), (5, .int v5)]) hx hb dd_N_power_37 hl (by decide) rfl (fun ls hl => ?_)
    refine lv_iload hx hb dd_N_power_39 (lv_at hl 5 rfl) ?_
    refine lv_iconst (v := 2) hx hb dd_N_power_41 (by decide) ?_
    refine lv_idiv hx hb dd_N_power_42 (by decide) ?_
    refine lv_topi (fun y2 ey2 => ?_)
    have h := tl_at ey2 h
    refine lv_istore (lv' := [(5, .int y2), (4, .int r1), (0, .int v0), (1, .int v1), (2, .int v2), (3, .int v3)]) hx hb dd_N_power_43 hl (by decide) rfl (fun ls hl => ?_)
    refine lv_goto (tgt := 8) hx hb dd_N_power_45 (by decide) ?_
    exact hk8 _ _ _ _ _ _ h _ (lv_sub hl [2, 3, 4, 5, 1, 0] rfl)
  have L8 : ∀  (n : Nat) (v0 : Int32) (v1 : Int32) (v2 : Int32) (v3 : Int32) (v4 : Int32) (v5 : Int32), ff_N_power_8  n v0 v1 v2 v3 v4 v5 = some r → ∀ ls, lv_has ls 6 [(0, .int v0), (1, .int v1), (2, .int v2), (3, .int v3), (4, .int v4), (5, .int v5)] → W p l e (headSpec (.code yy_N_power cc_N_power 6 (some .int) :: kw) { frames := 1, cells := 0, slots := 0, locals := 22 }).room s m ([.int a0, .int a1, .int a2] : List Value).toArray below meth c s.heap [] 0 0 (MQ below (vp_Si (fun z => z = r)) ([.int a0, .int a1, .int a2] : List Value).toArray s 0 0 (fun _ => False)) (F0 m 8 ls []) := by
    intro  n
    induction n with
    | zero => intro v0 v1 v2 v3 v4 v5 h; exact absurd h (by simp [ff_N_power_8])
    | succ n ih =>
      intro v0 v1 v2 v3 v4 v5 h ls hl
      rw [ff_N_power_8] at h
      refine lv_iload hx hb dd_N_power_8 (lv_at hl 5 rfl) ?_
      refine lv_if_le (tgt := 48) hx hb dd_N_power_10 (by decide) (fun hc3 => ?_) (fun hc3 => ?_)
      · have h := ip_out hc3 h
        refine lv_iload_n hx hb dd_N_power_48 rfl (lv_at hl 3 rfl) ?_
        obtain rfl := Option.some.inj h
        exact W.iret hx hb hr (fun t ht hW => ⟨_, rfl, rfl, ht⟩) (fun q hq => by cases hq) dd_N_power_49
      · have h := in_out hc3 h
        refine lv_iload hx hb dd_N_power_13 (lv_at hl 5 rfl) ?_
        refine lv_iconst (v := 2) hx hb dd_N_power_15 (by decide) ?_
        refine lv_irem hx hb dd_N_power_16 (by decide) ?_
        refine lv_topi (fun y4 ey4 => ?_)
        have h := tl_at ey4 h
        refine lv_iconst (v := 1) hx hb dd_N_power_17 (by decide) ?_
        refine lv_icmp_ne (tgt := 29) hx hb dd_N_power_18 (by decide) (fun hc5 => ?_) (fun hc5 => ?_)
        · have h := in_out hc5 h
          exact L29 _ (fun _ _ _ _ _ _ hh ls hl => ih _ _ _ _ _ _ hh ls hl) _ _ _ _ _ _ _ h _ (lv_sub hl [0, 1, 2, 3, 4, 5] rfl)
        · have h := ip_out hc5 h
          refine lv_iload_n hx hb dd_N_power_21 rfl (lv_at hl 3 rfl) ?_
          refine lv_iload hx hb dd_N_power_22 (lv_at hl 4 rfl) ?_
          refine lv_iload_n hx hb dd_N_power_24 rfl (lv_at hl 2 rfl) ?_
          obtain ⟨r6, hr6, h⟩ := ob_out h
          refine ro_Si (n := 3) (As := [.int v3, .int v4, .int v2]) hx hb hml hown hk (mm_N_times l _ _ _ _ _ hr6) (fun U _ _ => trivial) (fun _ _ _ _ _ => trivial) kw_158 kw_159 kw_5 kw_160 ⟨rfl, rfl⟩ (by decide +kernel) ⟨Nat.le_of_ble_eq_true rfl, Nat.le_of_ble_eq_true rfl⟩ rfl hl.1 rfl (Nat.le_of_ble_eq_true rfl) dd_N_power_25 ⟨Nat.zero_le _, Nat.zero_le _⟩ ?_
          refine lv_istore_n (lv' := [(3, .int r6), (0, .int v0), (1, .int v1), (2, .int v2), (4, .int v4), (5, .int v5)]) hx hb dd_N_power_28 rfl hl (by decide) rfl (fun ls hl => ?_)
          exact L29 _ (fun _ _ _ _ _ _ hh ls hl => ih _ _ _ _ _ _ hh ls hl) _ _ _ _ _ _ _ h _ (lv_sub hl [1, 2, 3, 0, 4, 5] rfl)
  have hl := lv_entry ([.int a0, .int a1, .int a2]) (n := 6) (Nat.le_of_ble_eq_true rfl)
  rw [lg_entry_eq]
  generalize (lg_sl ([.int a0, .int a1, .int a2]) ++ List.replicate (6 - (lg_sl ([.int a0, .int a1, .int a2])).length) Slot.unset).toArray = ls at hl ⊢
  have hl : lv_has ls 6 [(0, .int a0), (1, .int a1), (2, .int a2)] := hl
  unfold ff_N_power at h
  refine lv_iconst (v := 1) hx hb dd_N_power_0 (by decide) ?_
  refine lv_istore_n (lv' := [(3, .int (1 : Int32)), (0, .int a0), (1, .int a1), (2, .int a2)]) hx hb dd_N_power_1 rfl hl (by decide) rfl (fun ls hl => ?_)
  refine lv_iload_n hx hb dd_N_power_2 rfl (lv_at hl 1 rfl) ?_
  refine lv_istore (lv' := [(4, .int a0), (3, .int (1 : Int32)), (0, .int a0), (1, .int a1), (2, .int a2)]) hx hb dd_N_power_3 hl (by decide) rfl (fun ls hl => ?_)
  refine lv_iload_n hx hb dd_N_power_5 rfl (lv_at hl 3 rfl) ?_
  refine lv_istore (lv' := [(5, .int a1), (4, .int a0), (3, .int (1 : Int32)), (0, .int a0), (1, .int a1), (2, .int a2)]) hx hb dd_N_power_6 hl (by decide) rfl (fun ls hl => ?_)
  exact L8  _ _ _ _ _ _ _ h _ (lv_sub hl [3, 4, 5, 2, 1, 0] rfl)
def ff_N_ofCard (n : Nat) (a0 : Int32) (a1 : Int32) : Option Int32 := (ff_N_times n (a0 + (2 : Int32)) (a0 + (2 : Int32)) a1).bind fun r1 => some r1
set_option maxHeartbeats 4000000 in
set_option maxRecDepth 100000 in
theorem mm_N_ofCard (l : Launch) (n : Nat) (a0 : Int32) (a1 : Int32) (r : Int32) (h : ff_N_ofCard n a0 a1 = some r) : Met l yy_N_ofCard (.code yy_N_ofCard cc_N_ofCard 2 (some .int) :: kw) { frames := 1, cells := 0, slots := 0, locals := 22 } (va_Pc [.int a0, .int a1] (fun _ => True)) (vp_Si (fun z => z = r)) 0 0 (fun _ => False) := by
  refine Met.ofW (cc := cc_N_ofCard) (maxL := 2) (ret := some .int) (by decide) rfl ?_
  intro p e s m args below meth c s₁ B hml hv
  obtain ⟨rfl, -⟩ := hv
  have hx := B.exec
  have hb := B.bytes
  have hr := B.returns
  have hlocks := B.notSynchronized
  have hk : ∀ w ∈ kw, w.before _ s = true := fun w hw => atoms_spec (ws := (.code yy_N_ofCard cc_N_ofCard 2 (some .int) :: kw)) B.pre w (List.mem_cons_of_mem _ hw)
  have hown : s.vm.findClass "OpenDeal$Numbers" = some m.cls := findClass_of_methodNamed B.named
  have hl := lv_entry ([.int a0, .int a1]) (n := 2) (Nat.le_of_ble_eq_true rfl)
  rw [lg_entry_eq]
  generalize (lg_sl ([.int a0, .int a1]) ++ List.replicate (2 - (lg_sl ([.int a0, .int a1])).length) Slot.unset).toArray = ls at hl ⊢
  have hl : lv_has ls 2 [(0, .int a0), (1, .int a1)] := hl
  unfold ff_N_ofCard at h
  refine lv_iload_n hx hb dd_N_ofCard_0 rfl (lv_at hl 0 rfl) ?_
  refine lv_iconst (v := 2) hx hb dd_N_ofCard_1 (by decide) ?_
  refine lv_iadd hx hb dd_N_ofCard_2 ?_
  refine lv_iload_n hx hb dd_N_ofCard_3 rfl (lv_at hl 0 rfl) ?_
  refine lv_iconst (v := 2) hx hb dd_N_ofCard_4 (by decide) ?_
  refine lv_iadd hx hb dd_N_ofCard_5 ?_
  refine lv_iload_n hx hb dd_N_ofCard_6 rfl (lv_at hl 1 rfl) ?_
  obtain ⟨r1, hr1, h⟩ := ob_out h
  refine ro_Si (n := 3) (As := [.int (a0 + (2 : Int32)), .int (a0 + (2 : Int32)), .int a1]) hx hb hml hown hk (mm_N_times l _ _ _ _ _ hr1) (fun U _ _ => trivial) (fun _ _ _ _ _ => trivial) kw_158 kw_159 kw_5 kw_160 ⟨rfl, rfl⟩ (by decide +kernel) ⟨Nat.le_of_ble_eq_true rfl, Nat.le_of_ble_eq_true rfl⟩ rfl hl.1 rfl (Nat.le_of_ble_eq_true rfl) dd_N_ofCard_7 ⟨Nat.zero_le _, Nat.zero_le _⟩ ?_
  obtain rfl := Option.some.inj h
  exact W.iret hx hb hr (fun t ht hW => ⟨_, rfl, rfl, ht⟩) (fun q hq => by cases hq) dd_N_ofCard_10
def ff_N_isExponent (n : Nat) (a0 : Int32) (a1 : Int32) : Option Int32 := if a0 < (3 : Int32) then (some (0 : Int32)) else (if (a1 - (2 : Int32)) < a0 then (some (0 : Int32)) else (tl (a0 - a0 / (2 : Int32) * (2 : Int32)) fun y3 => if y3 = (1 : Int32) then (if a0 = ((a1 - (1 : Int32)) / (2 : Int32)) then (some (0 : Int32)) else (some (1 : Int32))) else (some (0 : Int32))))
set_option maxHeartbeats 4000000 in
set_option maxRecDepth 100000 in
theorem mm_N_isExponent (l : Launch) (n : Nat) (a0 : Int32) (a1 : Int32) (r : Int32) (h : ff_N_isExponent n a0 a1 = some r) : Met l yy_N_isExponent (.code yy_N_isExponent cc_N_isExponent 2 (some .boolean) :: kw) { frames := 0, cells := 0, slots := 0, locals := 0 } (va_Pc [.int a0, .int a1] (fun _ => True)) (vp_Si (fun z => z = r)) 0 0 (fun _ => False) := by
  refine Met.ofW (cc := cc_N_isExponent) (maxL := 2) (ret := some .boolean) (by decide) rfl ?_
  intro p e s m args below meth c s₁ B hml hv
  obtain ⟨rfl, -⟩ := hv
  have hx := B.exec
  have hb := B.bytes
  have hr := B.returns
  have hlocks := B.notSynchronized
  have hk : ∀ w ∈ kw, w.before _ s = true := fun w hw => atoms_spec (ws := (.code yy_N_isExponent cc_N_isExponent 2 (some .boolean) :: kw)) B.pre w (List.mem_cons_of_mem _ hw)
  have hown : s.vm.findClass "OpenDeal$Numbers" = some m.cls := findClass_of_methodNamed B.named
  have hl := lv_entry ([.int a0, .int a1]) (n := 2) (Nat.le_of_ble_eq_true rfl)
  rw [lg_entry_eq]
  generalize (lg_sl ([.int a0, .int a1]) ++ List.replicate (2 - (lg_sl ([.int a0, .int a1])).length) Slot.unset).toArray = ls at hl ⊢
  have hl : lv_has ls 2 [(0, .int a0), (1, .int a1)] := hl
  unfold ff_N_isExponent at h
  refine lv_iload_n hx hb dd_N_isExponent_0 rfl (lv_at hl 0 rfl) ?_
  refine lv_iconst (v := 3) hx hb dd_N_isExponent_1 (by decide) ?_
  refine lv_icmp_lt (tgt := 32) hx hb dd_N_isExponent_2 (by decide) (fun hc1 => ?_) (fun hc1 => ?_)
  · have h := ip_out hc1 h
    refine lv_iconst (v := 0) hx hb dd_N_isExponent_32 (by decide) ?_
    obtain rfl := Option.some.inj h
    exact W.zret hx hb hr rfl (fun t ht hW => ⟨_, rfl, rfl, ht⟩) (fun q hq => by cases hq) dd_N_isExponent_33
  · have h := in_out hc1 h
    refine lv_iload_n hx hb dd_N_isExponent_5 rfl (lv_at hl 0 rfl) ?_
    refine lv_iload_n hx hb dd_N_isExponent_6 rfl (lv_at hl 1 rfl) ?_
    refine lv_iconst (v := 2) hx hb dd_N_isExponent_7 (by decide) ?_
    refine lv_isub hx hb dd_N_isExponent_8 ?_
    refine lv_icmp_gt (tgt := 32) hx hb dd_N_isExponent_9 (by decide) (fun hc2 => ?_) (fun hc2 => ?_)
    · have h := ip_out hc2 h
      refine lv_iconst (v := 0) hx hb dd_N_isExponent_32 (by decide) ?_
      obtain rfl := Option.some.inj h
      exact W.zret hx hb hr rfl (fun t ht hW => ⟨_, rfl, rfl, ht⟩) (fun q hq => by cases hq) dd_N_isExponent_33
    · have h := in_out hc2 h
      refine lv_iload_n hx hb dd_N_isExponent_12 rfl (lv_at hl 0 rfl) ?_
      refine lv_iconst (v := 2) hx hb dd_N_isExponent_13 (by decide) ?_
      refine lv_irem hx hb dd_N_isExponent_14 (by decide) ?_
      refine lv_topi (fun y3 ey3 => ?_)
      have h := tl_at ey3 h
      refine lv_iconst (v := 1) hx hb dd_N_isExponent_15 (by decide) ?_
      refine lv_icmp_ne (tgt := 32) hx hb dd_N_isExponent_16 (by decide) (fun hc4 => ?_) (fun hc4 => ?_)
      · have h := in_out hc4 h
        refine lv_iconst (v := 0) hx hb dd_N_isExponent_32 (by decide) ?_
        obtain rfl := Option.some.inj h
        exact W.zret hx hb hr rfl (fun t ht hW => ⟨_, rfl, rfl, ht⟩) (fun q hq => by cases hq) dd_N_isExponent_33
      · have h := ip_out hc4 h
        refine lv_iload_n hx hb dd_N_isExponent_19 rfl (lv_at hl 0 rfl) ?_
        refine lv_iload_n hx hb dd_N_isExponent_20 rfl (lv_at hl 1 rfl) ?_
        refine lv_iconst (v := 1) hx hb dd_N_isExponent_21 (by decide) ?_
        refine lv_isub hx hb dd_N_isExponent_22 ?_
        refine lv_iconst (v := 2) hx hb dd_N_isExponent_23 (by decide) ?_
        refine lv_idiv hx hb dd_N_isExponent_24 (by decide) ?_
        refine lv_icmp_eq (tgt := 32) hx hb dd_N_isExponent_25 (by decide) (fun hc5 => ?_) (fun hc5 => ?_)
        · have h := ip_out hc5 h
          refine lv_iconst (v := 0) hx hb dd_N_isExponent_32 (by decide) ?_
          obtain rfl := Option.some.inj h
          exact W.zret hx hb hr rfl (fun t ht hW => ⟨_, rfl, rfl, ht⟩) (fun q hq => by cases hq) dd_N_isExponent_33
        · have h := in_out hc5 h
          refine lv_iconst (v := 1) hx hb dd_N_isExponent_28 (by decide) ?_
          refine lv_goto (tgt := 33) hx hb dd_N_isExponent_29 (by decide) ?_
          obtain rfl := Option.some.inj h
          exact W.zret hx hb hr rfl (fun t ht hW => ⟨_, rfl, rfl, ht⟩) (fun q hq => by cases hq) dd_N_isExponent_33
def ff_N_exponentAbove_4  : Nat → Int32 → Int32 → Int32 → Option Int32
  | 0, _, _, _ => none
  | n + 1, v0, v1, v2 => if (v1 - (2 : Int32)) < v2 then (some (3 : Int32)) else ((ff_N_isExponent n v2 v1).bind fun r2 => if r2 = 0 then (ff_N_exponentAbove_4 n v0 v1 (v2 + (1 : Int32))) else (some v2))
def ff_N_exponentAbove (n : Nat) (a0 : Int32) (a1 : Int32) : Option Int32 := tl (a0 + (1 : Int32)) fun y4 => ff_N_exponentAbove_4 n a0 a1 y4
set_option maxHeartbeats 4000000 in
set_option maxRecDepth 100000 in
theorem mm_N_exponentAbove (l : Launch) (n : Nat) (a0 : Int32) (a1 : Int32) (r : Int32) (h : ff_N_exponentAbove n a0 a1 = some r) : Met l yy_N_exponentAbove (.code yy_N_exponentAbove cc_N_exponentAbove 3 (some .int) :: kw) { frames := 1, cells := 0, slots := 0, locals := 21 } (va_Pc [.int a0, .int a1] (fun _ => True)) (vp_Si (fun z => z = r)) 0 0 (fun _ => False) := by
  refine Met.ofW (cc := cc_N_exponentAbove) (maxL := 3) (ret := some .int) (by decide) rfl ?_
  intro p e s m args below meth c s₁ B hml hv
  obtain ⟨rfl, -⟩ := hv
  have hx := B.exec
  have hb := B.bytes
  have hr := B.returns
  have hlocks := B.notSynchronized
  have hk : ∀ w ∈ kw, w.before _ s = true := fun w hw => atoms_spec (ws := (.code yy_N_exponentAbove cc_N_exponentAbove 3 (some .int) :: kw)) B.pre w (List.mem_cons_of_mem _ hw)
  have hown : s.vm.findClass "OpenDeal$Numbers" = some m.cls := findClass_of_methodNamed B.named
  have L4 : ∀  (n : Nat) (v0 : Int32) (v1 : Int32) (v2 : Int32), ff_N_exponentAbove_4  n v0 v1 v2 = some r → ∀ ls, lv_has ls 3 [(0, .int v0), (1, .int v1), (2, .int v2)] → W p l e (headSpec (.code yy_N_exponentAbove cc_N_exponentAbove 3 (some .int) :: kw) { frames := 1, cells := 0, slots := 0, locals := 21 }).room s m ([.int a0, .int a1] : List Value).toArray below meth c s.heap [] 0 0 (MQ below (vp_Si (fun z => z = r)) ([.int a0, .int a1] : List Value).toArray s 0 0 (fun _ => False)) (F0 m 4 ls []) := by
    intro  n
    induction n with
    | zero => intro v0 v1 v2 h; exact absurd h (by simp [ff_N_exponentAbove_4])
    | succ n ih =>
      intro v0 v1 v2 h ls hl
      rw [ff_N_exponentAbove_4] at h
      refine lv_iload_n hx hb dd_N_exponentAbove_4 rfl (lv_at hl 2 rfl) ?_
      refine lv_iload_n hx hb dd_N_exponentAbove_5 rfl (lv_at hl 1 rfl) ?_
      refine lv_iconst (v := 2) hx hb dd_N_exponentAbove_6 (by decide) ?_
      refine lv_isub hx hb dd_N_exponentAbove_7 ?_
      refine lv_icmp_gt (tgt := 27) hx hb dd_N_exponentAbove_8 (by decide) (fun hc1 => ?_) (fun hc1 => ?_)
      · have h := ip_out hc1 h
        refine lv_iconst (v := 3) hx hb dd_N_exponentAbove_27 (by decide) ?_
        obtain rfl := Option.some.inj h
        exact W.iret hx hb hr (fun t ht hW => ⟨_, rfl, rfl, ht⟩) (fun q hq => by cases hq) dd_N_exponentAbove_28
      · have h := in_out hc1 h
        refine lv_iload_n hx hb dd_N_exponentAbove_11 rfl (lv_at hl 2 rfl) ?_
        refine lv_iload_n hx hb dd_N_exponentAbove_12 rfl (lv_at hl 1 rfl) ?_
        obtain ⟨r2, hr2, h⟩ := ob_out h
        refine ro_Si (n := 2) (As := [.int v2, .int v1]) hx hb hml hown hk (mm_N_isExponent l _ _ _ _ hr2) (fun U _ _ => trivial) (fun _ _ _ _ _ => trivial) kw_292 kw_201 kw_5 kw_202 ⟨rfl, rfl⟩ (by decide +kernel) ⟨Nat.le_of_ble_eq_true rfl, Nat.le_of_ble_eq_true rfl⟩ rfl hl.1 rfl (Nat.le_of_ble_eq_true rfl) dd_N_exponentAbove_13 ⟨Nat.zero_le _, Nat.zero_le _⟩ ?_
        refine lv_if_eq (tgt := 21) hx hb dd_N_exponentAbove_16 (by decide) (fun hc3 => ?_) (fun hc3 => ?_)
        · have h := ip_out hc3 h
          refine lv_iinc (v := v2 + (1 : Int32)) (lv' := [(2, .int (v2 + (1 : Int32))), (0, .int v0), (1, .int v1)]) hx hb dd_N_exponentAbove_21 hl (k := 2) rfl rfl (by decide) rfl (fun ls hl => ?_)
          refine lv_goto (tgt := 4) hx hb dd_N_exponentAbove_24 (by decide) ?_
          exact ih _ _ _ h _ (lv_sub hl [1, 2, 0] rfl)
        · have h := in_out hc3 h
          refine lv_iload_n hx hb dd_N_exponentAbove_19 rfl (lv_at hl 2 rfl) ?_
          obtain rfl := Option.some.inj h
          exact W.iret hx hb hr (fun t ht hW => ⟨_, rfl, rfl, ht⟩) (fun q hq => by cases hq) dd_N_exponentAbove_20
  have hl := lv_entry ([.int a0, .int a1]) (n := 3) (Nat.le_of_ble_eq_true rfl)
  rw [lg_entry_eq]
  generalize (lg_sl ([.int a0, .int a1]) ++ List.replicate (3 - (lg_sl ([.int a0, .int a1])).length) Slot.unset).toArray = ls at hl ⊢
  have hl : lv_has ls 3 [(0, .int a0), (1, .int a1)] := hl
  unfold ff_N_exponentAbove at h
  refine lv_iload_n hx hb dd_N_exponentAbove_0 rfl (lv_at hl 0 rfl) ?_
  refine lv_iconst (v := 1) hx hb dd_N_exponentAbove_1 (by decide) ?_
  refine lv_iadd hx hb dd_N_exponentAbove_2 ?_
  refine lv_topi (fun y4 ey4 => ?_)
  have h := tl_at ey4 h
  refine lv_istore_n (lv' := [(2, .int y4), (0, .int a0), (1, .int a1)]) hx hb dd_N_exponentAbove_3 rfl hl (by decide) rfl (fun ls hl => ?_)
  exact L4  _ _ _ _ h _ (lv_sub hl [1, 2, 0] rfl)
def ff_N_inverse (n : Nat) (a0 : Int32) (a1 : Int32) : Option Int32 := (ff_N_power n a0 (((a1 - (1 : Int32)) / (2 : Int32)) - (2 : Int32)) (a1 - (1 : Int32))).bind fun r1 => some r1
set_option maxHeartbeats 4000000 in
set_option maxRecDepth 100000 in
theorem mm_N_inverse (l : Launch) (n : Nat) (a0 : Int32) (a1 : Int32) (r : Int32) (h : ff_N_inverse n a0 a1 = some r) : Met l yy_N_inverse (.code yy_N_inverse cc_N_inverse 2 (some .int) :: kw) { frames := 2, cells := 0, slots := 0, locals := 47 } (va_Pc [.int a0, .int a1] (fun _ => True)) (vp_Si (fun z => z = r)) 0 0 (fun _ => False) := by
  refine Met.ofW (cc := cc_N_inverse) (maxL := 2) (ret := some .int) (by decide) rfl ?_
  intro p e s m args below meth c s₁ B hml hv
  obtain ⟨rfl, -⟩ := hv
  have hx := B.exec
  have hb := B.bytes
  have hr := B.returns
  have hlocks := B.notSynchronized
  have hk : ∀ w ∈ kw, w.before _ s = true := fun w hw => atoms_spec (ws := (.code yy_N_inverse cc_N_inverse 2 (some .int) :: kw)) B.pre w (List.mem_cons_of_mem _ hw)
  have hown : s.vm.findClass "OpenDeal$Numbers" = some m.cls := findClass_of_methodNamed B.named
  have hl := lv_entry ([.int a0, .int a1]) (n := 2) (Nat.le_of_ble_eq_true rfl)
  rw [lg_entry_eq]
  generalize (lg_sl ([.int a0, .int a1]) ++ List.replicate (2 - (lg_sl ([.int a0, .int a1])).length) Slot.unset).toArray = ls at hl ⊢
  have hl : lv_has ls 2 [(0, .int a0), (1, .int a1)] := hl
  unfold ff_N_inverse at h
  refine lv_iload_n hx hb dd_N_inverse_0 rfl (lv_at hl 0 rfl) ?_
  refine lv_iload_n hx hb dd_N_inverse_1 rfl (lv_at hl 1 rfl) ?_
  refine lv_iconst (v := 1) hx hb dd_N_inverse_2 (by decide) ?_
  refine lv_isub hx hb dd_N_inverse_3 ?_
  refine lv_iconst (v := 2) hx hb dd_N_inverse_4 (by decide) ?_
  refine lv_idiv hx hb dd_N_inverse_5 (by decide) ?_
  refine lv_iconst (v := 2) hx hb dd_N_inverse_6 (by decide) ?_
  refine lv_isub hx hb dd_N_inverse_7 ?_
  refine lv_iload_n hx hb dd_N_inverse_8 rfl (lv_at hl 1 rfl) ?_
  refine lv_iconst (v := 1) hx hb dd_N_inverse_9 (by decide) ?_
  refine lv_isub hx hb dd_N_inverse_10 ?_
  obtain ⟨r1, hr1, h⟩ := ob_out h
  refine ro_Si (n := 3) (As := [.int a0, .int (((a1 - (1 : Int32)) / (2 : Int32)) - (2 : Int32)), .int (a1 - (1 : Int32))]) hx hb hml hown hk (mm_N_power l _ _ _ _ _ hr1) (fun U _ _ => trivial) (fun _ _ _ _ _ => trivial) kw_155 kw_156 kw_5 kw_157 ⟨rfl, rfl⟩ (by decide +kernel) ⟨Nat.le_of_ble_eq_true rfl, Nat.le_of_ble_eq_true rfl⟩ rfl hl.1 rfl (Nat.le_of_ble_eq_true rfl) dd_N_inverse_11 ⟨Nat.zero_le _, Nat.zero_le _⟩ ?_
  obtain rfl := Option.some.inj h
  exact W.iret hx hb hr (fun t ht hW => ⟨_, rfl, rfl, ht⟩) (fun q hq => by cases hq) dd_N_inverse_14
def ff_N_looksPrime_62  : Nat → Int32 → Int32 → Int32 → Int32 → Int32 → Int32 → Option Int32
  | 0, _, _, _, _, _, _ => none
  | n + 1, v0, v1, v2, v3, v4, v5 => if v3 ≤ v5 then (some (0 : Int32)) else ((ff_N_times n v4 v4 v0).bind fun r2 => if r2 = (v0 - (1 : Int32)) then (some (1 : Int32)) else (ff_N_looksPrime_62 n v0 v1 v2 v3 r2 (v5 + (1 : Int32))))
def ff_N_looksPrime_35  (n : Nat) (v0 : Int32) (v1 : Int32) (v2 : Int32) (v3 : Int32) (v4 : Int32) : Option Int32 := (ff_N_power n v1 v2 v0).bind fun r4 => if r4 = (1 : Int32) then (some (1 : Int32)) else (if r4 = (v0 - (1 : Int32)) then (some (1 : Int32)) else (ff_N_looksPrime_62 n v0 v1 v2 v3 r4 (1 : Int32)))
def ff_N_looksPrime_9  : Nat → Int32 → Int32 → Int32 → Int32 → Int32 → Option Int32
  | 0, _, _, _, _, _ => none
  | n + 1, v0, v1, v2, v3, v4 => if (31 : Int32) ≤ v4 then (ff_N_looksPrime_35 n v0 v1 v2 v3 v4) else (tl (v2 - v2 / (2 : Int32) * (2 : Int32)) fun y8 => if y8 = 0 then (tl (v2 / (2 : Int32)) fun y10 => ff_N_looksPrime_9 n v0 v1 y10 (v3 + (1 : Int32)) (v4 + (1 : Int32))) else (ff_N_looksPrime_35 n v0 v1 v2 v3 v4))
def ff_N_looksPrime (n : Nat) (a0 : Int32) (a1 : Int32) : Option Int32 := tl (a0 - (1 : Int32)) fun y11 => ff_N_looksPrime_9 n a0 a1 y11 (0 : Int32) (0 : Int32)
set_option maxHeartbeats 4000000 in
set_option maxRecDepth 100000 in
theorem mm_N_looksPrime (l : Launch) (n : Nat) (a0 : Int32) (a1 : Int32) (r : Int32) (h : ff_N_looksPrime n a0 a1 = some r) : Met l yy_N_looksPrime (.code yy_N_looksPrime cc_N_looksPrime 6 (some .boolean) :: kw) { frames := 2, cells := 0, slots := 0, locals := 47 } (va_Pc [.int a0, .int a1] (fun _ => True)) (vp_Si (fun z => z = r)) 0 0 (fun _ => False) := by
  refine Met.ofW (cc := cc_N_looksPrime) (maxL := 6) (ret := some .boolean) (by decide) rfl ?_
  intro p e s m args below meth c s₁ B hml hv
  obtain ⟨rfl, -⟩ := hv
  have hx := B.exec
  have hb := B.bytes
  have hr := B.returns
  have hlocks := B.notSynchronized
  have hk : ∀ w ∈ kw, w.before _ s = true := fun w hw => atoms_spec (ws := (.code yy_N_looksPrime cc_N_looksPrime 6 (some .boolean) :: kw)) B.pre w (List.mem_cons_of_mem _ hw)
  have hown : s.vm.findClass "OpenDeal$Numbers" = some m.cls := findClass_of_methodNamed B.named
  have L62 : ∀  (n : Nat) (v0 : Int32) (v1 : Int32) (v2 : Int32) (v3 : Int32) (v4 : Int32) (v5 : Int32), ff_N_looksPrime_62  n v0 v1 v2 v3 v4 v5 = some r → ∀ ls, lv_has ls 6 [(0, .int v0), (1, .int v1), (2, .int v2), (3, .int v3), (4, .int v4), (5, .int v5)] → W p l e (headSpec (.code yy_N_looksPrime cc_N_looksPrime 6 (some .boolean) :: kw) { frames := 2, cells := 0, slots := 0, locals := 47 }).room s m ([.int a0, .int a1] : List Value).toArray below meth c s.heap [] 0 0 (MQ below (vp_Si (fun z => z = r)) ([.int a0, .int a1] : List Value).toArray s 0 0 (fun _ => False)) (F0 m 62 ls []) := by
    intro  n
    induction n with
    | zero => intro v0 v1 v2 v3 v4 v5 h; exact absurd h (by simp [ff_N_looksPrime_62])
    | succ n ih =>
      intro v0 v1 v2 v3 v4 v5 h ls hl
      rw [ff_N_looksPrime_62] at h
      refine lv_iload hx hb dd_N_looksPrime_62 (lv_at hl 5 rfl) ?_
      refine lv_iload_n hx hb dd_N_looksPrime_64 rfl (lv_at hl 3 rfl) ?_
      refine lv_icmp_ge (tgt := 94) hx hb dd_N_looksPrime_65 (by decide) (fun hc1 => ?_) (fun hc1 => ?_)
      · have h := ip_out hc1 h
        refine lv_iconst (v := 0) hx hb dd_N_looksPrime_94 (by decide) ?_
        obtain rfl := Option.some.inj h
        exact W.zret hx hb hr rfl (fun t ht hW => ⟨_, rfl, rfl, ht⟩) (fun q hq => by cases hq) dd_N_looksPrime_95
      · have h := in_out hc1 h
        refine lv_iload hx hb dd_N_looksPrime_68 (lv_at hl 4 rfl) ?_
        refine lv_iload hx hb dd_N_looksPrime_70 (lv_at hl 4 rfl) ?_
        refine lv_iload_n hx hb dd_N_looksPrime_72 rfl (lv_at hl 0 rfl) ?_
        obtain ⟨r2, hr2, h⟩ := ob_out h
        refine ro_Si (n := 3) (As := [.int v4, .int v4, .int v0]) hx hb hml hown hk (mm_N_times l _ _ _ _ _ hr2) (fun U _ _ => trivial) (fun _ _ _ _ _ => trivial) kw_158 kw_159 kw_5 kw_160 ⟨rfl, rfl⟩ (by decide +kernel) ⟨Nat.le_of_ble_eq_true rfl, Nat.le_of_ble_eq_true rfl⟩ rfl hl.1 rfl (Nat.le_of_ble_eq_true rfl) dd_N_looksPrime_73 ⟨Nat.zero_le _, Nat.zero_le _⟩ ?_
        refine lv_istore (lv' := [(4, .int r2), (0, .int v0), (1, .int v1), (2, .int v2), (3, .int v3), (5, .int v5)]) hx hb dd_N_looksPrime_76 hl (by decide) rfl (fun ls hl => ?_)
        refine lv_iload hx hb dd_N_looksPrime_78 (lv_at hl 0 rfl) ?_
        refine lv_iload_n hx hb dd_N_looksPrime_80 rfl (lv_at hl 1 rfl) ?_
        refine lv_iconst (v := 1) hx hb dd_N_looksPrime_81 (by decide) ?_
        refine lv_isub hx hb dd_N_looksPrime_82 ?_
        refine lv_icmp_ne (tgt := 88) hx hb dd_N_looksPrime_83 (by decide) (fun hc3 => ?_) (fun hc3 => ?_)
        · have h := in_out hc3 h
          refine lv_iinc (v := v5 + (1 : Int32)) (lv' := [(5, .int (v5 + (1 : Int32))), (4, .int r2), (0, .int v0), (1, .int v1), (2, .int v2), (3, .int v3)]) hx hb dd_N_looksPrime_88 hl (k := 5) rfl rfl (by decide) rfl (fun ls hl => ?_)
          refine lv_goto (tgt := 62) hx hb dd_N_looksPrime_91 (by decide) ?_
          exact ih _ _ _ _ _ _ h _ (lv_sub hl [2, 3, 4, 5, 1, 0] rfl)
        · have h := ip_out hc3 h
          refine lv_iconst (v := 1) hx hb dd_N_looksPrime_86 (by decide) ?_
          obtain rfl := Option.some.inj h
          exact W.zret hx hb hr rfl (fun t ht hW => ⟨_, rfl, rfl, ht⟩) (fun q hq => by cases hq) dd_N_looksPrime_87
  have L35 : ∀  (n : Nat) (v0 : Int32) (v1 : Int32) (v2 : Int32) (v3 : Int32) (v4 : Int32), ff_N_looksPrime_35  n v0 v1 v2 v3 v4 = some r → ∀ ls, lv_has ls 6 [(0, .int v0), (1, .int v1), (2, .int v2), (3, .int v3), (4, .int v4)] → W p l e (headSpec (.code yy_N_looksPrime cc_N_looksPrime 6 (some .boolean) :: kw) { frames := 2, cells := 0, slots := 0, locals := 47 }).room s m ([.int a0, .int a1] : List Value).toArray below meth c s.heap [] 0 0 (MQ below (vp_Si (fun z => z = r)) ([.int a0, .int a1] : List Value).toArray s 0 0 (fun _ => False)) (F0 m 35 ls []) := by
    intro  n v0 v1 v2 v3 v4 h ls hl
    unfold ff_N_looksPrime_35 at h
    refine lv_iload_n hx hb dd_N_looksPrime_35 rfl (lv_at hl 1 rfl) ?_
    refine lv_iload_n hx hb dd_N_looksPrime_36 rfl (lv_at hl 2 rfl) ?_
    refine lv_iload_n hx hb dd_N_looksPrime_37 rfl (lv_at hl 0 rfl) ?_
    obtain ⟨r4, hr4, h⟩ := ob_out h
    refine ro_Si (n := 3) (As := [.int v1, .int v2, .int v0]) hx hb hml hown hk (mm_N_power l _ _ _ _ _ hr4) (fun U _ _ => trivial) (fun _ _ _ _ _ => trivial) kw_155 kw_156 kw_5 kw_157 ⟨rfl, rfl⟩ (by decide +kernel) ⟨Nat.le_of_ble_eq_true rfl, Nat.le_of_ble_eq_true rfl⟩ rfl hl.1 rfl (Nat.le_of_ble_eq_true rfl) dd_N_looksPrime_38 ⟨Nat.zero_le _, Nat.zero_le _⟩ ?_
    refine lv_istore (lv' := [(4, .int r4), (0, .int v0), (1, .int v1), (2, .int v2), (3, .int v3)]) hx hb dd_N_looksPrime_41 hl (by decide) rfl (fun ls hl => ?_)
    refine lv_iload hx hb dd_N_looksPrime_43 (lv_at hl 0 rfl) ?_
    refine lv_iconst (v := 1) hx hb dd_N_looksPrime_45 (by decide) ?_
    refine lv_icmp_eq (tgt := 57) hx hb dd_N_looksPrime_46 (by decide) (fun hc5 => ?_) (fun hc5 => ?_)
    · have h := ip_out hc5 h
      refine lv_iconst (v := 1) hx hb dd_N_looksPrime_57 (by decide) ?_
      obtain rfl := Option.some.inj h
      exact W.zret hx hb hr rfl (fun t ht hW => ⟨_, rfl, rfl, ht⟩) (fun q hq => by cases hq) dd_N_looksPrime_58
    · have h := in_out hc5 h
      refine lv_iload hx hb dd_N_looksPrime_49 (lv_at hl 0 rfl) ?_
      refine lv_iload_n hx hb dd_N_looksPrime_51 rfl (lv_at hl 1 rfl) ?_
      refine lv_iconst (v := 1) hx hb dd_N_looksPrime_52 (by decide) ?_
      refine lv_isub hx hb dd_N_looksPrime_53 ?_
      refine lv_icmp_ne (tgt := 59) hx hb dd_N_looksPrime_54 (by decide) (fun hc6 => ?_) (fun hc6 => ?_)
      · have h := in_out hc6 h
        refine lv_iconst (v := 1) hx hb dd_N_looksPrime_59 (by decide) ?_
        refine lv_istore (lv' := [(5, .int (1 : Int32)), (4, .int r4), (0, .int v0), (1, .int v1), (2, .int v2), (3, .int v3)]) hx hb dd_N_looksPrime_60 hl (by decide) rfl (fun ls hl => ?_)
        exact L62  _ _ _ _ _ _ _ h _ (lv_sub hl [2, 3, 4, 5, 1, 0] rfl)
      · have h := ip_out hc6 h
        refine lv_iconst (v := 1) hx hb dd_N_looksPrime_57 (by decide) ?_
        obtain rfl := Option.some.inj h
        exact W.zret hx hb hr rfl (fun t ht hW => ⟨_, rfl, rfl, ht⟩) (fun q hq => by cases hq) dd_N_looksPrime_58
  have L9 : ∀  (n : Nat) (v0 : Int32) (v1 : Int32) (v2 : Int32) (v3 : Int32) (v4 : Int32), ff_N_looksPrime_9  n v0 v1 v2 v3 v4 = some r → ∀ ls, lv_has ls 6 [(0, .int v0), (1, .int v1), (2, .int v2), (3, .int v3), (4, .int v4)] → W p l e (headSpec (.code yy_N_looksPrime cc_N_looksPrime 6 (some .boolean) :: kw) { frames := 2, cells := 0, slots := 0, locals := 47 }).room s m ([.int a0, .int a1] : List Value).toArray below meth c s.heap [] 0 0 (MQ below (vp_Si (fun z => z = r)) ([.int a0, .int a1] : List Value).toArray s 0 0 (fun _ => False)) (F0 m 9 ls []) := by
    intro  n
    induction n with
    | zero => intro v0 v1 v2 v3 v4 h; exact absurd h (by simp [ff_N_looksPrime_9])
    | succ n ih =>
      intro v0 v1 v2 v3 v4 h ls hl
      rw [ff_N_looksPrime_9] at h
      refine lv_iload hx hb dd_N_looksPrime_9 (lv_at hl 4 rfl) ?_
      refine lv_bipush (v := 31) hx hb dd_N_looksPrime_11 (by decide) ?_
      refine lv_icmp_ge (tgt := 35) hx hb dd_N_looksPrime_13 (by decide) (fun hc7 => ?_) (fun hc7 => ?_)
      · have h := ip_out hc7 h
        exact L35  _ _ _ _ _ _ h _ (lv_sub hl [0, 1, 2, 3, 4] rfl)
      · have h := in_out hc7 h
        refine lv_iload_n hx hb dd_N_looksPrime_16 rfl (lv_at hl 2 rfl) ?_
        refine lv_iconst (v := 2) hx hb dd_N_looksPrime_17 (by decide) ?_
        refine lv_irem hx hb dd_N_looksPrime_18 (by decide) ?_
        refine lv_topi (fun y8 ey8 => ?_)
        have h := tl_at ey8 h
        refine lv_if_ne (tgt := 35) hx hb dd_N_looksPrime_19 (by decide) (fun hc9 => ?_) (fun hc9 => ?_)
        · have h := in_out hc9 h
          exact L35  _ _ _ _ _ _ h _ (lv_sub hl [0, 1, 2, 3, 4] rfl)
        · have h := ip_out hc9 h
          refine lv_iload_n hx hb dd_N_looksPrime_22 rfl (lv_at hl 2 rfl) ?_
          refine lv_iconst (v := 2) hx hb dd_N_looksPrime_23 (by decide) ?_
          refine lv_idiv hx hb dd_N_looksPrime_24 (by decide) ?_
          refine lv_topi (fun y10 ey10 => ?_)
          have h := tl_at ey10 h
          refine lv_istore_n (lv' := [(2, .int y10), (0, .int v0), (1, .int v1), (3, .int v3), (4, .int v4)]) hx hb dd_N_looksPrime_25 rfl hl (by decide) rfl (fun ls hl => ?_)
          refine lv_iinc (v := v3 + (1 : Int32)) (lv' := [(3, .int (v3 + (1 : Int32))), (2, .int y10), (0, .int v0), (1, .int v1), (4, .int v4)]) hx hb dd_N_looksPrime_26 hl (k := 3) rfl rfl (by decide) rfl (fun ls hl => ?_)
          refine lv_iinc (v := v4 + (1 : Int32)) (lv' := [(4, .int (v4 + (1 : Int32))), (3, .int (v3 + (1 : Int32))), (2, .int y10), (0, .int v0), (1, .int v1)]) hx hb dd_N_looksPrime_29 hl (k := 4) rfl rfl (by decide) rfl (fun ls hl => ?_)
          refine lv_goto (tgt := 9) hx hb dd_N_looksPrime_32 (by decide) ?_
          exact ih _ _ _ _ _ h _ (lv_sub hl [3, 4, 2, 1, 0] rfl)
  have hl := lv_entry ([.int a0, .int a1]) (n := 6) (Nat.le_of_ble_eq_true rfl)
  rw [lg_entry_eq]
  generalize (lg_sl ([.int a0, .int a1]) ++ List.replicate (6 - (lg_sl ([.int a0, .int a1])).length) Slot.unset).toArray = ls at hl ⊢
  have hl : lv_has ls 6 [(0, .int a0), (1, .int a1)] := hl
  unfold ff_N_looksPrime at h
  refine lv_iload_n hx hb dd_N_looksPrime_0 rfl (lv_at hl 0 rfl) ?_
  refine lv_iconst (v := 1) hx hb dd_N_looksPrime_1 (by decide) ?_
  refine lv_isub hx hb dd_N_looksPrime_2 ?_
  refine lv_topi (fun y11 ey11 => ?_)
  have h := tl_at ey11 h
  refine lv_istore_n (lv' := [(2, .int y11), (0, .int a0), (1, .int a1)]) hx hb dd_N_looksPrime_3 rfl hl (by decide) rfl (fun ls hl => ?_)
  refine lv_iconst (v := 0) hx hb dd_N_looksPrime_4 (by decide) ?_
  refine lv_istore_n (lv' := [(3, .int (0 : Int32)), (2, .int y11), (0, .int a0), (1, .int a1)]) hx hb dd_N_looksPrime_5 rfl hl (by decide) rfl (fun ls hl => ?_)
  refine lv_iconst (v := 0) hx hb dd_N_looksPrime_6 (by decide) ?_
  refine lv_istore (lv' := [(4, .int (0 : Int32)), (3, .int (0 : Int32)), (2, .int y11), (0, .int a0), (1, .int a1)]) hx hb dd_N_looksPrime_7 hl (by decide) rfl (fun ls hl => ?_)
  exact L9  _ _ _ _ _ _ h _ (lv_sub hl [3, 4, 2, 1, 0] rfl)
def ff_M_isPrime_2  : Nat → Int32 → Int32 → Option Int32
  | 0, _, _ => none
  | n + 1, v0, v1 => if 0 < (lg_cmp ((Int32.toInt64 v1) * (Int32.toInt64 v1)) (Int32.toInt64 v0)) then (if v0 ≤ (1 : Int32) then (some (0 : Int32)) else (some (1 : Int32))) else (if ¬ v1 = 0 then tl (v0 - v0 / v1 * v1) fun y4 => if y4 = 0 then (some (0 : Int32)) else (ff_M_isPrime_2 n v0 (v1 + (1 : Int32))) else none)
def ff_M_isPrime (n : Nat) (a0 : Int32) : Option Int32 := ff_M_isPrime_2 n a0 (2 : Int32)
set_option maxHeartbeats 4000000 in
set_option maxRecDepth 100000 in
theorem mm_M_isPrime (l : Launch) (n : Nat) (a0 : Int32) (r : Int32) (h : ff_M_isPrime n a0 = some r) : Met l yy_M_isPrime (.code yy_M_isPrime cc_M_isPrime 2 (some .boolean) :: kw) { frames := 0, cells := 0, slots := 0, locals := 0 } (va_Pc [.int a0] (fun _ => True)) (vp_Si (fun z => z = r)) 0 0 (fun _ => False) := by
  refine Met.ofW (cc := cc_M_isPrime) (maxL := 2) (ret := some .boolean) (by decide) rfl ?_
  intro p e s m args below meth c s₁ B hml hv
  obtain ⟨rfl, -⟩ := hv
  have hx := B.exec
  have hb := B.bytes
  have hr := B.returns
  have hlocks := B.notSynchronized
  have hk : ∀ w ∈ kw, w.before _ s = true := fun w hw => atoms_spec (ws := (.code yy_M_isPrime cc_M_isPrime 2 (some .boolean) :: kw)) B.pre w (List.mem_cons_of_mem _ hw)
  have hown : s.vm.findClass "OpenDealModel" = some m.cls := findClass_of_methodNamed B.named
  have L2 : ∀  (n : Nat) (v0 : Int32) (v1 : Int32), ff_M_isPrime_2  n v0 v1 = some r → ∀ ls, lv_has ls 2 [(0, .int v0), (1, .int v1)] → W p l e (headSpec (.code yy_M_isPrime cc_M_isPrime 2 (some .boolean) :: kw) { frames := 0, cells := 0, slots := 0, locals := 0 }).room s m ([.int a0] : List Value).toArray below meth c s.heap [] 0 0 (MQ below (vp_Si (fun z => z = r)) ([.int a0] : List Value).toArray s 0 0 (fun _ => False)) (F0 m 2 ls []) := by
    intro  n
    induction n with
    | zero => intro v0 v1 h; exact absurd h (by simp [ff_M_isPrime_2])
    | succ n ih =>
      intro v0 v1 h ls hl
      rw [ff_M_isPrime_2] at h
      refine lv_iload_n hx hb dd_M_isPrime_2 rfl (lv_at hl 1 rfl) ?_
      refine lv_i2l hx hb dd_M_isPrime_3 rfl ?_
      refine lv_iload_n hx hb dd_M_isPrime_4 rfl (lv_at hl 1 rfl) ?_
      refine lv_i2l hx hb dd_M_isPrime_5 rfl ?_
      refine lv_lmul hx hb dd_M_isPrime_6 ?_
      refine lv_iload_n hx hb dd_M_isPrime_7 rfl (lv_at hl 0 rfl) ?_
      refine lv_i2l hx hb dd_M_isPrime_8 rfl ?_
      refine W.lcmp hx hb dd_M_isPrime_9 ?_
      refine lv_if_gt (tgt := 27) hx hb dd_M_isPrime_10 (by decide) (fun hc1 => ?_) (fun hc1 => ?_)
      · have h := ip_out hc1 h
        refine lv_iload_n hx hb dd_M_isPrime_27 rfl (lv_at hl 0 rfl) ?_
        refine lv_iconst (v := 1) hx hb dd_M_isPrime_28 (by decide) ?_
        refine lv_icmp_le (tgt := 36) hx hb dd_M_isPrime_29 (by decide) (fun hc2 => ?_) (fun hc2 => ?_)
        · have h := ip_out hc2 h
          refine lv_iconst (v := 0) hx hb dd_M_isPrime_36 (by decide) ?_
          obtain rfl := Option.some.inj h
          exact W.zret hx hb hr rfl (fun t ht hW => ⟨_, rfl, rfl, ht⟩) (fun q hq => by cases hq) dd_M_isPrime_37
        · have h := in_out hc2 h
          refine lv_iconst (v := 1) hx hb dd_M_isPrime_32 (by decide) ?_
          refine lv_goto (tgt := 37) hx hb dd_M_isPrime_33 (by decide) ?_
          obtain rfl := Option.some.inj h
          exact W.zret hx hb hr rfl (fun t ht hW => ⟨_, rfl, rfl, ht⟩) (fun q hq => by cases hq) dd_M_isPrime_37
      · have h := in_out hc1 h
        refine lv_iload_n hx hb dd_M_isPrime_13 rfl (lv_at hl 0 rfl) ?_
        refine lv_iload_n hx hb dd_M_isPrime_14 rfl (lv_at hl 1 rfl) ?_
        obtain ⟨hz3, h⟩ := oi_out h
        refine lv_irem hx hb dd_M_isPrime_15 hz3 ?_
        refine lv_topi (fun y4 ey4 => ?_)
        have h := tl_at ey4 h
        refine lv_if_ne (tgt := 21) hx hb dd_M_isPrime_16 (by decide) (fun hc5 => ?_) (fun hc5 => ?_)
        · have h := in_out hc5 h
          refine lv_iinc (v := v1 + (1 : Int32)) (lv' := [(1, .int (v1 + (1 : Int32))), (0, .int v0)]) hx hb dd_M_isPrime_21 hl (k := 1) rfl rfl (by decide) rfl (fun ls hl => ?_)
          refine lv_goto (tgt := 2) hx hb dd_M_isPrime_24 (by decide) ?_
          exact ih _ _ h _ (lv_sub hl [1, 0] rfl)
        · have h := ip_out hc5 h
          refine lv_iconst (v := 0) hx hb dd_M_isPrime_19 (by decide) ?_
          obtain rfl := Option.some.inj h
          exact W.zret hx hb hr rfl (fun t ht hW => ⟨_, rfl, rfl, ht⟩) (fun q hq => by cases hq) dd_M_isPrime_20
  have hl := lv_entry ([.int a0]) (n := 2) (Nat.le_of_ble_eq_true rfl)
  rw [lg_entry_eq]
  generalize (lg_sl ([.int a0]) ++ List.replicate (2 - (lg_sl ([.int a0])).length) Slot.unset).toArray = ls at hl ⊢
  have hl : lv_has ls 2 [(0, .int a0)] := hl
  unfold ff_M_isPrime at h
  refine lv_iconst (v := 2) hx hb dd_M_isPrime_0 (by decide) ?_
  refine lv_istore_n (lv' := [(1, .int (2 : Int32)), (0, .int a0)]) hx hb dd_M_isPrime_1 rfl hl (by decide) rfl (fun ls hl => ?_)
  exact L2  _ _ _ h _ (lv_sub hl [1, 0] rfl)
def ff_M_power_32 (k11 : Int32 → Int32 → Int32 → Int64 → Int64 → Int32 → Option Int32) (n : Nat) (v0 : Int32) (v1 : Int32) (v2 : Int32) (v3 : Int64) (v5 : Int64) (v7 : Int32) : Option Int32 := if ¬ (Int32.toInt64 v2) = 0 then tl ((v5 * v5) - (v5 * v5) / (Int32.toInt64 v2) * (Int32.toInt64 v2)) fun y2 => tl (v7 / (2 : Int32)) fun y3 => k11 v0 v1 v2 v3 y2 y3 else none
def ff_M_power_11  : Nat → Int32 → Int32 → Int32 → Int64 → Int64 → Int32 → Option Int32
  | 0, _, _, _, _, _, _ => none
  | n + 1, v0, v1, v2, v3, v5, v7 => if v7 ≤ 0 then (some (Int64.toInt32 v3)) else (tl (v7 - v7 / (2 : Int32) * (2 : Int32)) fun y5 => if y5 = (1 : Int32) then (if ¬ (Int32.toInt64 v2) = 0 then tl ((v3 * v5) - (v3 * v5) / (Int32.toInt64 v2) * (Int32.toInt64 v2)) fun y8 => ff_M_power_32 (ff_M_power_11 n) n v0 v1 v2 y8 v5 v7 else none) else (ff_M_power_32 (ff_M_power_11 n) n v0 v1 v2 v3 v5 v7))
def ff_M_power (n : Nat) (a0 : Int32) (a1 : Int32) (a2 : Int32) : Option Int32 := if ¬ a2 = 0 then tl (a0 - a0 / a2 * a2) fun y10 => tl (Int32.toInt64 y10) fun y11 => ff_M_power_11 n a0 a1 a2 (1 : Int64) y11 a1 else none
set_option maxHeartbeats 4000000 in
set_option maxRecDepth 100000 in
theorem mm_M_power (l : Launch) (n : Nat) (a0 : Int32) (a1 : Int32) (a2 : Int32) (r : Int32) (h : ff_M_power n a0 a1 a2 = some r) : Met l yy_M_power (.code yy_M_power cc_M_power 8 (some .int) :: kw) { frames := 0, cells := 0, slots := 0, locals := 0 } (va_Pc [.int a0, .int a1, .int a2] (fun _ => True)) (vp_Si (fun z => z = r)) 0 0 (fun _ => False) := by
  refine Met.ofW (cc := cc_M_power) (maxL := 8) (ret := some .int) (by decide) rfl ?_
  intro p e s m args below meth c s₁ B hml hv
  obtain ⟨rfl, -⟩ := hv
  have hx := B.exec
  have hb := B.bytes
  have hr := B.returns
  have hlocks := B.notSynchronized
  have hk : ∀ w ∈ kw, w.before _ s = true := fun w hw => atoms_spec (ws := (.code yy_M_power cc_M_power 8 (some .int) :: kw)) B.pre w (List.mem_cons_of_mem _ hw)
  have hown : s.vm.findClass "OpenDealModel" = some m.cls := findClass_of_methodNamed B.named
  have L32 : ∀ (k11 : Int32 → Int32 → Int32 → Int64 → Int64 → Int32 → Option Int32) (hk11 : ∀ (v0 : Int32) (v1 : Int32) (v2 : Int32) (v3 : Int64) (v5 : Int64) (v7 : Int32), k11 v0 v1 v2 v3 v5 v7 = some r → ∀ ls, lv_has ls 8 [(0, .int v0), (1, .int v1), (2, .int v2), (3, .long v3), (5, .long v5), (7, .int v7)] → W p l e (headSpec (.code yy_M_power cc_M_power 8 (some .int) :: kw) { frames := 0, cells := 0, slots := 0, locals := 0 }).room s m ([.int a0, .int a1, .int a2] : List Value).toArray below meth c s.heap [] 0 0 (MQ below (vp_Si (fun z => z = r)) ([.int a0, .int a1, .int a2] : List Value).toArray s 0 0 (fun _ => False)) (F0 m 11 ls [])) (n : Nat) (v0 : Int32) (v1 : Int32) (v2 : Int32) (v3 : Int64) (v5 : Int64) (v7 : Int32), ff_M_power_32 k11 n v0 v1 v2 v3 v5 v7 = some r → ∀ ls, lv_has ls 8 [(0, .int v0), (1, .int v1), (2, .int v2), (3, .long v3), (5, .long v5), (7, .int v7)] → W p l e (headSpec (.code yy_M_power cc_M_power 8 (some .int) :: kw) { frames := 0, cells := 0, slots := 0, locals := 0 }).room s m ([.int a0, .int a1, .int a2] : List Value).toArray below meth c s.heap [] 0 0 (MQ below (vp_Si (fun z => z = r)) ([.int a0, .int a1, .int a2] : List Value).toArray s 0 0 (fun _ => False)) (F0 m 32 ls []) := by
    intro k11 hk11 n v0 v1 v2 v3 v5 v7 h ls hl
    unfold ff_M_power_32 at h
    refine lv_lload hx hb dd_M_power_32 (lv_at hl 4 rfl) ?_
    refine lv_lload hx hb dd_M_power_34 (lv_at hl 4 rfl) ?_
    refine lv_lmul hx hb dd_M_power_36 ?_
    refine lv_iload_n hx hb dd_M_power_37 rfl (lv_at hl 2 rfl) ?_
    refine lv_i2l hx hb dd_M_power_38 rfl ?_
    obtain ⟨hz1, h⟩ := oi_out h
    refine lv_lrem hx hb dd_M_power_39 hz1 ?_
    refine lv_topl (fun y2 ey2 => ?_)
    have h := tl_at ey2 h
    refine lv_lstore (lv' := [(5, .long y2), (0, .int v0), (1, .int v1), (2, .int v2), (3, .long v3), (7, .int v7)]) hx hb dd_M_power_40 hl (by decide) rfl (fun ls hl => ?_)
    refine lv_iload hx hb dd_M_power_42 (lv_at hl 5 rfl) ?_
    refine lv_iconst (v := 2) hx hb dd_M_power_44 (by decide) ?_
    refine lv_idiv hx hb dd_M_power_45 (by decide) ?_
    refine lv_topi (fun y3 ey3 => ?_)
    have h := tl_at ey3 h
    refine lv_istore (lv' := [(7, .int y3), (5, .long y2), (0, .int v0), (1, .int v1), (2, .int v2), (3, .long v3)]) hx hb dd_M_power_46 hl (by decide) rfl (fun ls hl => ?_)
    refine lv_goto (tgt := 11) hx hb dd_M_power_48 (by decide) ?_
    exact hk11 _ _ _ _ _ _ h _ (lv_sub hl [2, 3, 4, 5, 1, 0] rfl)
  have L11 : ∀  (n : Nat) (v0 : Int32) (v1 : Int32) (v2 : Int32) (v3 : Int64) (v5 : Int64) (v7 : Int32), ff_M_power_11  n v0 v1 v2 v3 v5 v7 = some r → ∀ ls, lv_has ls 8 [(0, .int v0), (1, .int v1), (2, .int v2), (3, .long v3), (5, .long v5), (7, .int v7)] → W p l e (headSpec (.code yy_M_power cc_M_power 8 (some .int) :: kw) { frames := 0, cells := 0, slots := 0, locals := 0 }).room s m ([.int a0, .int a1, .int a2] : List Value).toArray below meth c s.heap [] 0 0 (MQ below (vp_Si (fun z => z = r)) ([.int a0, .int a1, .int a2] : List Value).toArray s 0 0 (fun _ => False)) (F0 m 11 ls []) := by
    intro  n
    induction n with
    | zero => intro v0 v1 v2 v3 v5 v7 h; exact absurd h (by simp [ff_M_power_11])
    | succ n ih =>
      intro v0 v1 v2 v3 v5 v7 h ls hl
      rw [ff_M_power_11] at h
      refine lv_iload hx hb dd_M_power_11 (lv_at hl 5 rfl) ?_
      refine lv_if_le (tgt := 51) hx hb dd_M_power_13 (by decide) (fun hc4 => ?_) (fun hc4 => ?_)
      · have h := ip_out hc4 h
        refine lv_lload_n hx hb dd_M_power_51 rfl (lv_at hl 3 rfl) ?_
        refine lv_l2i hx hb dd_M_power_52 rfl ?_
        obtain rfl := Option.some.inj h
        exact W.iret hx hb hr (fun t ht hW => ⟨_, rfl, rfl, ht⟩) (fun q hq => by cases hq) dd_M_power_53
      · have h := in_out hc4 h
        refine lv_iload hx hb dd_M_power_16 (lv_at hl 5 rfl) ?_
        refine lv_iconst (v := 2) hx hb dd_M_power_18 (by decide) ?_
        refine lv_irem hx hb dd_M_power_19 (by decide) ?_
        refine lv_topi (fun y5 ey5 => ?_)
        have h := tl_at ey5 h
        refine lv_iconst (v := 1) hx hb dd_M_power_20 (by decide) ?_
        refine lv_icmp_ne (tgt := 32) hx hb dd_M_power_21 (by decide) (fun hc6 => ?_) (fun hc6 => ?_)
        · have h := in_out hc6 h
          exact L32 _ (fun _ _ _ _ _ _ hh ls hl => ih _ _ _ _ _ _ hh ls hl) _ _ _ _ _ _ _ h _ (lv_sub hl [0, 1, 2, 3, 4, 5] rfl)
        · have h := ip_out hc6 h
          refine lv_lload_n hx hb dd_M_power_24 rfl (lv_at hl 3 rfl) ?_
          refine lv_lload hx hb dd_M_power_25 (lv_at hl 4 rfl) ?_
          refine lv_lmul hx hb dd_M_power_27 ?_
          refine lv_iload_n hx hb dd_M_power_28 rfl (lv_at hl 2 rfl) ?_
          refine lv_i2l hx hb dd_M_power_29 rfl ?_
          obtain ⟨hz7, h⟩ := oi_out h
          refine lv_lrem hx hb dd_M_power_30 hz7 ?_
          refine lv_topl (fun y8 ey8 => ?_)
          have h := tl_at ey8 h
          refine lv_lstore_n (lv' := [(3, .long y8), (0, .int v0), (1, .int v1), (2, .int v2), (5, .long v5), (7, .int v7)]) hx hb dd_M_power_31 rfl hl (by decide) rfl (fun ls hl => ?_)
          exact L32 _ (fun _ _ _ _ _ _ hh ls hl => ih _ _ _ _ _ _ hh ls hl) _ _ _ _ _ _ _ h _ (lv_sub hl [1, 2, 3, 0, 4, 5] rfl)
  have hl := lv_entry ([.int a0, .int a1, .int a2]) (n := 8) (Nat.le_of_ble_eq_true rfl)
  rw [lg_entry_eq]
  generalize (lg_sl ([.int a0, .int a1, .int a2]) ++ List.replicate (8 - (lg_sl ([.int a0, .int a1, .int a2])).length) Slot.unset).toArray = ls at hl ⊢
  have hl : lv_has ls 8 [(0, .int a0), (1, .int a1), (2, .int a2)] := hl
  unfold ff_M_power at h
  refine lv_lconst (v := 1) hx hb dd_M_power_0 (by decide) ?_
  refine lv_lstore_n (lv' := [(3, .long (1 : Int64)), (0, .int a0), (1, .int a1), (2, .int a2)]) hx hb dd_M_power_1 rfl hl (by decide) rfl (fun ls hl => ?_)
  refine lv_iload_n hx hb dd_M_power_2 rfl (lv_at hl 1 rfl) ?_
  refine lv_iload_n hx hb dd_M_power_3 rfl (lv_at hl 3 rfl) ?_
  obtain ⟨hz9, h⟩ := oi_out h
  refine lv_irem hx hb dd_M_power_4 hz9 ?_
  refine lv_topi (fun y10 ey10 => ?_)
  have h := tl_at ey10 h
  refine lv_i2l hx hb dd_M_power_5 rfl ?_
  refine lv_topl (fun y11 ey11 => ?_)
  have h := tl_at ey11 h
  refine lv_lstore (lv' := [(5, .long y11), (3, .long (1 : Int64)), (0, .int a0), (1, .int a1), (2, .int a2)]) hx hb dd_M_power_6 hl (by decide) rfl (fun ls hl => ?_)
  refine lv_iload_n hx hb dd_M_power_8 rfl (lv_at hl 3 rfl) ?_
  refine lv_istore (lv' := [(7, .int a1), (5, .long y11), (3, .long (1 : Int64)), (0, .int a0), (1, .int a1), (2, .int a2)]) hx hb dd_M_power_9 hl (by decide) rfl (fun ls hl => ?_)
  exact L11  _ _ _ _ _ _ _ h _ (lv_sub hl [3, 4, 5, 2, 1, 0] rfl)
def ff_M_isPlace (n : Nat) (a0 : Int32) : Option Int32 := if a0 < 0 then (some (0 : Int32)) else (if (52 : Int32) ≤ a0 then (some (0 : Int32)) else (some (1 : Int32)))
set_option maxHeartbeats 4000000 in
set_option maxRecDepth 100000 in
theorem mm_M_isPlace (l : Launch) (n : Nat) (a0 : Int32) (r : Int32) (h : ff_M_isPlace n a0 = some r) : Met l yy_M_isPlace (.code yy_M_isPlace cc_M_isPlace 1 (some .boolean) :: kw) { frames := 0, cells := 0, slots := 0, locals := 0 } (va_Pc [.int a0] (fun _ => True)) (vp_Si (fun z => z = r)) 0 0 (fun _ => False) := by
  refine Met.ofW (cc := cc_M_isPlace) (maxL := 1) (ret := some .boolean) (by decide) rfl ?_
  intro p e s m args below meth c s₁ B hml hv
  obtain ⟨rfl, -⟩ := hv
  have hx := B.exec
  have hb := B.bytes
  have hr := B.returns
  have hlocks := B.notSynchronized
  have hk : ∀ w ∈ kw, w.before _ s = true := fun w hw => atoms_spec (ws := (.code yy_M_isPlace cc_M_isPlace 1 (some .boolean) :: kw)) B.pre w (List.mem_cons_of_mem _ hw)
  have hown : s.vm.findClass "OpenDealModel" = some m.cls := findClass_of_methodNamed B.named
  have hl := lv_entry ([.int a0]) (n := 1) (Nat.le_of_ble_eq_true rfl)
  rw [lg_entry_eq]
  generalize (lg_sl ([.int a0]) ++ List.replicate (1 - (lg_sl ([.int a0])).length) Slot.unset).toArray = ls at hl ⊢
  have hl : lv_has ls 1 [(0, .int a0)] := hl
  unfold ff_M_isPlace at h
  refine lv_iload_n hx hb dd_M_isPlace_0 rfl (lv_at hl 0 rfl) ?_
  refine lv_if_lt (tgt := 14) hx hb dd_M_isPlace_1 (by decide) (fun hc1 => ?_) (fun hc1 => ?_)
  · have h := ip_out hc1 h
    refine lv_iconst (v := 0) hx hb dd_M_isPlace_14 (by decide) ?_
    obtain rfl := Option.some.inj h
    exact W.zret hx hb hr rfl (fun t ht hW => ⟨_, rfl, rfl, ht⟩) (fun q hq => by cases hq) dd_M_isPlace_15
  · have h := in_out hc1 h
    refine lv_iload_n hx hb dd_M_isPlace_4 rfl (lv_at hl 0 rfl) ?_
    refine lv_bipush (v := 52) hx hb dd_M_isPlace_5 (by decide) ?_
    refine lv_icmp_ge (tgt := 14) hx hb dd_M_isPlace_7 (by decide) (fun hc2 => ?_) (fun hc2 => ?_)
    · have h := ip_out hc2 h
      refine lv_iconst (v := 0) hx hb dd_M_isPlace_14 (by decide) ?_
      obtain rfl := Option.some.inj h
      exact W.zret hx hb hr rfl (fun t ht hW => ⟨_, rfl, rfl, ht⟩) (fun q hq => by cases hq) dd_M_isPlace_15
    · have h := in_out hc2 h
      refine lv_iconst (v := 1) hx hb dd_M_isPlace_10 (by decide) ?_
      refine lv_goto (tgt := 15) hx hb dd_M_isPlace_11 (by decide) ?_
      obtain rfl := Option.some.inj h
      exact W.zret hx hb hr rfl (fun t ht hW => ⟨_, rfl, rfl, ht⟩) (fun q hq => by cases hq) dd_M_isPlace_15
def ff_O_isPlace (n : Nat) (a0 : Int32) : Option Int32 := if a0 < 0 then (some (0 : Int32)) else (if (52 : Int32) ≤ a0 then (some (0 : Int32)) else (some (1 : Int32)))
set_option maxHeartbeats 4000000 in
set_option maxRecDepth 100000 in
theorem mm_O_isPlace (l : Launch) (n : Nat) (a0 : Int32) (r : Int32) (h : ff_O_isPlace n a0 = some r) : Met l yy_O_isPlace (.code yy_O_isPlace cc_O_isPlace 1 (some .boolean) :: kw) { frames := 0, cells := 0, slots := 0, locals := 0 } (va_Pc [.int a0] (fun _ => True)) (vp_Si (fun z => z = r)) 0 0 (fun _ => False) := by
  refine Met.ofW (cc := cc_O_isPlace) (maxL := 1) (ret := some .boolean) (by decide) rfl ?_
  intro p e s m args below meth c s₁ B hml hv
  obtain ⟨rfl, -⟩ := hv
  have hx := B.exec
  have hb := B.bytes
  have hr := B.returns
  have hlocks := B.notSynchronized
  have hk : ∀ w ∈ kw, w.before _ s = true := fun w hw => atoms_spec (ws := (.code yy_O_isPlace cc_O_isPlace 1 (some .boolean) :: kw)) B.pre w (List.mem_cons_of_mem _ hw)
  have hown : s.vm.findClass "OpenDeal" = some m.cls := findClass_of_methodNamed B.named
  have hl := lv_entry ([.int a0]) (n := 1) (Nat.le_of_ble_eq_true rfl)
  rw [lg_entry_eq]
  generalize (lg_sl ([.int a0]) ++ List.replicate (1 - (lg_sl ([.int a0])).length) Slot.unset).toArray = ls at hl ⊢
  have hl : lv_has ls 1 [(0, .int a0)] := hl
  unfold ff_O_isPlace at h
  refine lv_iload_n hx hb dd_O_isPlace_0 rfl (lv_at hl 0 rfl) ?_
  refine lv_if_lt (tgt := 14) hx hb dd_O_isPlace_1 (by decide) (fun hc1 => ?_) (fun hc1 => ?_)
  · have h := ip_out hc1 h
    refine lv_iconst (v := 0) hx hb dd_O_isPlace_14 (by decide) ?_
    obtain rfl := Option.some.inj h
    exact W.zret hx hb hr rfl (fun t ht hW => ⟨_, rfl, rfl, ht⟩) (fun q hq => by cases hq) dd_O_isPlace_15
  · have h := in_out hc1 h
    refine lv_iload_n hx hb dd_O_isPlace_4 rfl (lv_at hl 0 rfl) ?_
    refine lv_bipush (v := 52) hx hb dd_O_isPlace_5 (by decide) ?_
    refine lv_icmp_ge (tgt := 14) hx hb dd_O_isPlace_7 (by decide) (fun hc2 => ?_) (fun hc2 => ?_)
    · have h := ip_out hc2 h
      refine lv_iconst (v := 0) hx hb dd_O_isPlace_14 (by decide) ?_
      obtain rfl := Option.some.inj h
      exact W.zret hx hb hr rfl (fun t ht hW => ⟨_, rfl, rfl, ht⟩) (fun q hq => by cases hq) dd_O_isPlace_15
    · have h := in_out hc2 h
      refine lv_iconst (v := 1) hx hb dd_O_isPlace_10 (by decide) ?_
      refine lv_goto (tgt := 15) hx hb dd_O_isPlace_11 (by decide) ?_
      obtain rfl := Option.some.inj h
      exact W.zret hx hb hr rfl (fun t ht hW => ⟨_, rfl, rfl, ht⟩) (fun q hq => by cases hq) dd_O_isPlace_15
def ff_O_rankOf (n : Nat) (a0 : Int32) (a1 : Int32) : Option Int32 := some (((Int32.toUInt32 a1 >>> (Int32.toUInt32 ((4 : Int32) * a0) &&& Int32.toUInt32 31)).toInt32) &&& (15 : Int32))
set_option maxHeartbeats 4000000 in
set_option maxRecDepth 100000 in
theorem mm_O_rankOf (l : Launch) (n : Nat) (a0 : Int32) (a1 : Int32) (r : Int32) (h : ff_O_rankOf n a0 a1 = some r) : Met l yy_O_rankOf (.code yy_O_rankOf cc_O_rankOf 2 (some .int) :: kw) { frames := 0, cells := 0, slots := 0, locals := 0 } (va_Pc [.int a0, .int a1] (fun _ => True)) (vp_Si (fun z => z = r)) 0 0 (fun _ => False) := by
  refine Met.ofW (cc := cc_O_rankOf) (maxL := 2) (ret := some .int) (by decide) rfl ?_
  intro p e s m args below meth c s₁ B hml hv
  obtain ⟨rfl, -⟩ := hv
  have hx := B.exec
  have hb := B.bytes
  have hr := B.returns
  have hlocks := B.notSynchronized
  have hk : ∀ w ∈ kw, w.before _ s = true := fun w hw => atoms_spec (ws := (.code yy_O_rankOf cc_O_rankOf 2 (some .int) :: kw)) B.pre w (List.mem_cons_of_mem _ hw)
  have hown : s.vm.findClass "OpenDeal" = some m.cls := findClass_of_methodNamed B.named
  have hl := lv_entry ([.int a0, .int a1]) (n := 2) (Nat.le_of_ble_eq_true rfl)
  rw [lg_entry_eq]
  generalize (lg_sl ([.int a0, .int a1]) ++ List.replicate (2 - (lg_sl ([.int a0, .int a1])).length) Slot.unset).toArray = ls at hl ⊢
  have hl : lv_has ls 2 [(0, .int a0), (1, .int a1)] := hl
  unfold ff_O_rankOf at h
  refine lv_iload_n hx hb dd_O_rankOf_0 rfl (lv_at hl 1 rfl) ?_
  refine lv_iconst (v := 4) hx hb dd_O_rankOf_1 (by decide) ?_
  refine lv_iload_n hx hb dd_O_rankOf_2 rfl (lv_at hl 0 rfl) ?_
  refine lv_imul hx hb dd_O_rankOf_3 ?_
  refine lv_iushr hx hb dd_O_rankOf_4 rfl ?_
  refine lv_bipush (v := 15) hx hb dd_O_rankOf_5 (by decide) ?_
  refine lv_iand hx hb dd_O_rankOf_7 ?_
  obtain rfl := Option.some.inj h
  exact W.iret hx hb hr (fun t ht hW => ⟨_, rfl, rfl, ht⟩) (fun q hq => by cases hq) dd_O_rankOf_8
def ff_M_sealOf (n : Nat) (a0 : Int32) (a1 : Int64) (a3 : Int64) : Option Int64 := tl (Int32.toInt64 a0) fun y1 => tl (((y1 ^^^ ((Int64.toUInt64 y1 >>> ((Int32.toInt64 (29 : Int32)).toUInt64 &&& Int64.toUInt64 63)).toInt64)) * (-4658895280553007687 : Int64)) + a1) fun y2 => tl (((y2 ^^^ ((Int64.toUInt64 y2 >>> ((Int32.toInt64 (32 : Int32)).toUInt64 &&& Int64.toUInt64 63)).toInt64)) * (-7723592293110705685 : Int64)) + a3) fun y3 => tl ((y3 ^^^ ((Int64.toUInt64 y3 >>> ((Int32.toInt64 (29 : Int32)).toUInt64 &&& Int64.toUInt64 63)).toInt64)) * (-4658895280553007687 : Int64)) fun y4 => some (y4 ^^^ ((Int64.toUInt64 y4 >>> ((Int32.toInt64 (32 : Int32)).toUInt64 &&& Int64.toUInt64 63)).toInt64))
set_option maxHeartbeats 4000000 in
set_option maxRecDepth 100000 in
theorem mm_M_sealOf (l : Launch) (n : Nat) (a0 : Int32) (a1 : Int64) (a3 : Int64) (r : Int64) (h : ff_M_sealOf n a0 a1 a3 = some r) : Met l yy_M_sealOf (.code yy_M_sealOf cc_M_sealOf 7 (some .long) :: kw) { frames := 0, cells := 0, slots := 0, locals := 0 } (va_Pc [.int a0, .long a1, .long a3] (fun _ => True)) (vp_Sl (fun z => z = r)) 0 0 (fun _ => False) := by
  refine Met.ofW (cc := cc_M_sealOf) (maxL := 7) (ret := some .long) (by decide) rfl ?_
  intro p e s m args below meth c s₁ B hml hv
  obtain ⟨rfl, -⟩ := hv
  have hx := B.exec
  have hb := B.bytes
  have hr := B.returns
  have hlocks := B.notSynchronized
  have hk : ∀ w ∈ kw, w.before _ s = true := fun w hw => atoms_spec (ws := (.code yy_M_sealOf cc_M_sealOf 7 (some .long) :: kw)) B.pre w (List.mem_cons_of_mem _ hw)
  have hown : s.vm.findClass "OpenDealModel" = some m.cls := findClass_of_methodNamed B.named
  have hl := lv_entry ([.int a0, .long a1, .long a3]) (n := 7) (Nat.le_of_ble_eq_true rfl)
  rw [lg_entry_eq]
  generalize (lg_sl ([.int a0, .long a1, .long a3]) ++ List.replicate (7 - (lg_sl ([.int a0, .long a1, .long a3])).length) Slot.unset).toArray = ls at hl ⊢
  have hl : lv_has ls 7 [(0, .int a0), (1, .long a1), (3, .long a3)] := hl
  unfold ff_M_sealOf at h
  refine lv_iload_n hx hb dd_M_sealOf_0 rfl (lv_at hl 0 rfl) ?_
  refine lv_i2l hx hb dd_M_sealOf_1 rfl ?_
  refine lv_topl (fun y1 ey1 => ?_)
  have h := tl_at ey1 h
  refine lv_lstore (lv' := [(5, .long y1), (0, .int a0), (1, .long a1), (3, .long a3)]) hx hb dd_M_sealOf_2 hl (by decide) rfl (fun ls hl => ?_)
  refine lv_lload hx hb dd_M_sealOf_4 (lv_at hl 0 rfl) ?_
  refine lv_lload hx hb dd_M_sealOf_6 (lv_at hl 0 rfl) ?_
  refine lv_bipush (v := 29) hx hb dd_M_sealOf_8 (by decide) ?_
  refine lv_lushr hx hb dd_M_sealOf_10 rfl ?_
  refine lv_lxor hx hb dd_M_sealOf_11 ?_
  refine lv_ldc2 (v := -4658895280553007687) hx hb hown (hk _ kw_675) dd_M_sealOf_12 ?_
  refine lv_lmul hx hb dd_M_sealOf_15 ?_
  refine lv_lload_n hx hb dd_M_sealOf_16 rfl (lv_at hl 2 rfl) ?_
  refine lv_ladd hx hb dd_M_sealOf_17 ?_
  refine lv_topl (fun y2 ey2 => ?_)
  have h := tl_at ey2 h
  refine lv_lstore (lv' := [(5, .long y2), (0, .int a0), (1, .long a1), (3, .long a3)]) hx hb dd_M_sealOf_18 hl (by decide) rfl (fun ls hl => ?_)
  refine lv_lload hx hb dd_M_sealOf_20 (lv_at hl 0 rfl) ?_
  refine lv_lload hx hb dd_M_sealOf_22 (lv_at hl 0 rfl) ?_
  refine lv_bipush (v := 32) hx hb dd_M_sealOf_24 (by decide) ?_
  refine lv_lushr hx hb dd_M_sealOf_26 rfl ?_
  refine lv_lxor hx hb dd_M_sealOf_27 ?_
  refine lv_ldc2 (v := -7723592293110705685) hx hb hown (hk _ kw_676) dd_M_sealOf_28 ?_
  refine lv_lmul hx hb dd_M_sealOf_31 ?_
  refine lv_lload_n hx hb dd_M_sealOf_32 rfl (lv_at hl 3 rfl) ?_
  refine lv_ladd hx hb dd_M_sealOf_33 ?_
  refine lv_topl (fun y3 ey3 => ?_)
  have h := tl_at ey3 h
  refine lv_lstore (lv' := [(5, .long y3), (0, .int a0), (1, .long a1), (3, .long a3)]) hx hb dd_M_sealOf_34 hl (by decide) rfl (fun ls hl => ?_)
  refine lv_lload hx hb dd_M_sealOf_36 (lv_at hl 0 rfl) ?_
  refine lv_lload hx hb dd_M_sealOf_38 (lv_at hl 0 rfl) ?_
  refine lv_bipush (v := 29) hx hb dd_M_sealOf_40 (by decide) ?_
  refine lv_lushr hx hb dd_M_sealOf_42 rfl ?_
  refine lv_lxor hx hb dd_M_sealOf_43 ?_
  refine lv_ldc2 (v := -4658895280553007687) hx hb hown (hk _ kw_675) dd_M_sealOf_44 ?_
  refine lv_lmul hx hb dd_M_sealOf_47 ?_
  refine lv_topl (fun y4 ey4 => ?_)
  have h := tl_at ey4 h
  refine lv_lstore (lv' := [(5, .long y4), (0, .int a0), (1, .long a1), (3, .long a3)]) hx hb dd_M_sealOf_48 hl (by decide) rfl (fun ls hl => ?_)
  refine lv_lload hx hb dd_M_sealOf_50 (lv_at hl 0 rfl) ?_
  refine lv_lload hx hb dd_M_sealOf_52 (lv_at hl 0 rfl) ?_
  refine lv_bipush (v := 32) hx hb dd_M_sealOf_54 (by decide) ?_
  refine lv_lushr hx hb dd_M_sealOf_56 rfl ?_
  refine lv_lxor hx hb dd_M_sealOf_57 ?_
  obtain rfl := Option.some.inj h
  exact W.lret hx hb hr (fun t ht hW => ⟨_, rfl, rfl, ht⟩) (fun q hq => by cases hq) dd_M_sealOf_58
