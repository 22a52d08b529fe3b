/-! the law's cases, one by one; laid by program -/
set_option maxHeartbeats 4000000 in
set_option maxRecDepth 100000 in
theorem lc_0 (l : Launch) {p : Program} {e : Env} {s : State} {m : MethodId} {args : Array Value} {below : List Frame} {meth : Method} {c : Code} {H : Heap} {locs : List Loc} {cells slots : Nat} {Q : State → Prop} {ls : Array Slot} {b L i o : Nat} {xs : Nat → Int32} {D : va_G} {kc : Nat → ClassId} {ad am : Nat → Nat} {I : MI} {J : MJ} {I' : MI} {J' : MJ} {f : Nat → Int64} {tw q1 q2 q3 : Nat} (hx : p.tables.exec = Jvm.exec) (hb : c.code = code) (hml : c.maxLocals = 8) (hown : s.vm.findClass "OpenDealLaw" = some m.cls) (hk : ∀ w ∈ kw, w.before args s = true) (hX : va_X b L xs s s.heap) (hbl : b < s.heap.size) (hL : L ≤ 3584) (hi : 7 * i + 7 ≤ L) (hT : LBt tw q1 q2 q3 s) (hK : va_K D cls5 (tys5 kc) s) (hP : va_P D cls5 (LW kc ad am o I J I' J' f) H) (hD : va_D (LA s) (LW kc ad am o I J I' J' f)) (hS : va_S (LA s) s.heap H locs) (hcs : cells + 16 ≤ 601024 ∧ slots + 16 ≤ 7293034) (hl : lv_has ls 8 [(4, .int (Int32.ofNat (7 * i))), (3, .ref o), (2, .ref (am 0)), (1, .ref (ad 0)), (0, .ref b)])
    (n0_ : Nat) (r0_ : Int32 × MI × MJ) (h0_ : ff_O_prime n0_ I J (xs (7 * i + 1)) = some r0_) (n1_ : Nat) (r1_ : Int32 × MI × MJ) (h1_ : ff_M_prime n1_ I' J' (xs (7 * i + 1)) = some r1_) 
    (kk : ∀ (H1 : Heap) (locs1 : List Loc) (ls1 : Array Slot), va_P D cls5 (LW kc ad am o r0_.2.1 r0_.2.2 r1_.2.1 r1_.2.2 f) H1 → va_D (LA s) (LW kc ad am o r0_.2.1 r0_.2.2 r1_.2.1 r1_.2.2 f) → va_S (LA s) s.heap H1 locs1 → lv_has ls1 8 [(4, .int (Int32.ofNat (7 * i))), (3, .ref o), (2, .ref (am 0)), (1, .ref (ad 0)), (0, .ref b)] → W p l e room_1 s m args below meth c H1 locs1 (cells + 16) (slots + 16) Q (F0 m 764 ls1 [])) : W p l e room_1 s m args below meth c H locs cells slots Q (F0 m 132 ls []) := by
  refine lv_aload_n hx hb dd_L_law_132 rfl (lv_at hl 3 rfl) ?_
  refine lx (k := 1) 1 hx hb hX hbl hS hL hi (lv_at hl 4 rfl) (lv_at hl 0 rfl) (by decide) (by decide) dd_L_law_133 dd_L_law_134 dd_L_law_136 dd_L_law_137 dd_L_law_138 ?_
  refine lz_Vi (n := 1) (As := [.int (xs (7 * i + 1))]) (w' := wC kc ad r0_.2.1 r0_.2.2) hx hb hml hown hk (mm_O_prime l tw D kc ad I J _ n0_ (xs (7 * i + 1)) r0_ h0_) (fun U hU hW => la_bt hT.1 hS hU hW) bt_bl hK hP hD hS (fun _ h => h) 0 at_O rfl rfl kw_139 kw_140 kw_141 kw_1 kw_142 ⟨rfl, rfl⟩ (by decide +kernel) ⟨Nat.le_of_ble_eq_true rfl, Nat.le_of_ble_eq_true rfl⟩ rfl hl.1 rfl (Nat.le_of_ble_eq_true rfl) dd_L_law_139 ⟨by show _ ≤ 601024; omega, by show _ ≤ 7293034; omega⟩ (fun H locs hP hD hS _ _ => ?_)
  refine lv_pop hx hb dd_L_law_142 rfl ?_
  refine lv_aload_n hx hb dd_L_law_143 rfl (lv_at hl 2 rfl) ?_
  refine lx (k := 1) 1 hx hb hX hbl hS hL hi (lv_at hl 4 rfl) (lv_at hl 0 rfl) (by decide) (by decide) dd_L_law_144 dd_L_law_145 dd_L_law_147 dd_L_law_148 dd_L_law_149 ?_
  have hP := ap3 hP
  have hD := ad3 hD
  refine lz_Vi (n := 1) (As := [.int (xs (7 * i + 1))]) (w' := wM kc am r1_.2.1 r1_.2.2) hx hb hml hown hk (met_pre (B2 := fun U => BW D kc _ _ U ∧ True) (mm_M_prime l D kc am I' J' _ n1_ (xs (7 * i + 1)) r1_ h1_) (fun U h => h.1)) (fun _ _ _ => trivial) (fun _ _ _ _ _ => trivial) hK hP hD hS (fun _ h => h) 0 am_0 rfl rfl kw_635 kw_636 kw_637 kw_4 kw_638 ⟨rfl, rfl⟩ (by decide +kernel) ⟨Nat.le_of_ble_eq_true rfl, Nat.le_of_ble_eq_true rfl⟩ rfl hl.1 rfl (Nat.le_of_ble_eq_true rfl) dd_L_law_150 ⟨by show _ ≤ 601024; omega, by show _ ≤ 7293034; omega⟩ (fun H locs hP hD hS _ _ => ?_)
  have hP := ap4 hP
  have hD := ad4 hD
  refine lv_pop hx hb dd_L_law_153 rfl ?_
  refine lv_goto (tgt := 764) hx hb dd_L_law_154 (by decide) ?_
  refine W.widen (k := cells + 16) (n := slots + 16) (by omega) (by omega) ?_
  exact kk _ _ _ hP hD hS (lv_sub hl [0, 1, 2, 3, 4] rfl)
set_option maxHeartbeats 4000000 in
set_option maxRecDepth 100000 in
theorem lc_1 (l : Launch) {p : Program} {e : Env} {s : State} {m : MethodId} {args : Array Value} {below : List Frame} {meth : Method} {c : Code} {H : Heap} {locs : List Loc} {cells slots : Nat} {Q : State → Prop} {ls : Array Slot} {b L i o : Nat} {xs : Nat → Int32} {D : va_G} {kc : Nat → ClassId} {ad am : Nat → Nat} {I : MI} {J : MJ} {I' : MI} {J' : MJ} {f : Nat → Int64} {tw q1 q2 q3 : Nat} (hx : p.tables.exec = Jvm.exec) (hb : c.code = code) (hml : c.maxLocals = 8) (hown : s.vm.findClass "OpenDealLaw" = some m.cls) (hk : ∀ w ∈ kw, w.before args s = true) (hX : va_X b L xs s s.heap) (hbl : b < s.heap.size) (hL : L ≤ 3584) (hi : 7 * i + 7 ≤ L) (hT : LBt tw q1 q2 q3 s) (hK : va_K D cls5 (tys5 kc) s) (hP : va_P D cls5 (LW kc ad am o I J I' J' f) H) (hD : va_D (LA s) (LW kc ad am o I J I' J' f)) (hS : va_S (LA s) s.heap H locs) (hcs : cells + 16 ≤ 601024 ∧ slots + 16 ≤ 7293034) (hl : lv_has ls 8 [(4, .int (Int32.ofNat (7 * i))), (3, .ref o), (2, .ref (am 0)), (1, .ref (ad 0)), (0, .ref b)])
    (n0_ : Nat) (r0_ : MI × MJ) (h0_ : ff_O_clear n0_ I J  = some r0_) (n1_ : Nat) (r1_ : MI × MJ) (h1_ : ff_M_clear n1_ I' J'  = some r1_) 
    (kk : ∀ (H1 : Heap) (locs1 : List Loc) (ls1 : Array Slot), va_P D cls5 (LW kc ad am o r0_.1 r0_.2 r1_.1 r1_.2 f) H1 → va_D (LA s) (LW kc ad am o r0_.1 r0_.2 r1_.1 r1_.2 f) → va_S (LA s) s.heap H1 locs1 → lv_has ls1 8 [(4, .int (Int32.ofNat (7 * i))), (3, .ref o), (2, .ref (am 0)), (1, .ref (ad 0)), (0, .ref b)] → W p l e room_1 s m args below meth c H1 locs1 (cells + 16) (slots + 16) Q (F0 m 764 ls1 [])) : W p l e room_1 s m args below meth c H locs cells slots Q (F0 m 157 ls []) := by
  refine lv_aload_n hx hb dd_L_law_157 rfl (lv_at hl 3 rfl) ?_
  refine lz_Vv (n := 0) (As := []) (w' := wC kc ad r0_.1 r0_.2) hx hb hml hown hk (met_pre (B2 := fun U => BW D kc _ _ U ∧ True) (mm_O_clear l D kc ad I J _ n0_  r0_ h0_) (fun U h => h.1)) (fun _ _ _ => trivial) (fun _ _ _ _ _ => trivial) hK hP hD hS (fun _ h => h) 0 at_O rfl rfl kw_164 kw_165 kw_166 kw_1 kw_167 ⟨rfl, rfl⟩ (by decide +kernel) ⟨Nat.le_of_ble_eq_true rfl, Nat.le_of_ble_eq_true rfl⟩ rfl hl.1 rfl (Nat.le_of_ble_eq_true rfl) dd_L_law_158 ⟨by show _ ≤ 601024; omega, by show _ ≤ 7293034; omega⟩ (fun H locs hP hD hS _ _ => ?_)
  refine lv_aload_n hx hb dd_L_law_161 rfl (lv_at hl 2 rfl) ?_
  have hP := ap3 hP
  have hD := ad3 hD
  refine lz_Vv (n := 0) (As := []) (w' := wM kc am r1_.1 r1_.2) hx hb hml hown hk (met_pre (B2 := fun U => BW D kc _ _ U ∧ True) (mm_M_clear l D kc am I' J' _ n1_  r1_ h1_) (fun U h => h.1)) (fun _ _ _ => trivial) (fun _ _ _ _ _ => trivial) hK hP hD hS (fun _ h => h) 0 am_0 rfl rfl kw_647 kw_648 kw_649 kw_4 kw_650 ⟨rfl, rfl⟩ (by decide +kernel) ⟨Nat.le_of_ble_eq_true rfl, Nat.le_of_ble_eq_true rfl⟩ rfl hl.1 rfl (Nat.le_of_ble_eq_true rfl) dd_L_law_162 ⟨by show _ ≤ 601024; omega, by show _ ≤ 7293034; omega⟩ (fun H locs hP hD hS _ _ => ?_)
  have hP := ap4 hP
  have hD := ad4 hD
  refine lv_goto (tgt := 764) hx hb dd_L_law_165 (by decide) ?_
  refine W.widen (k := cells + 16) (n := slots + 16) (by omega) (by omega) ?_
  exact kk _ _ _ hP hD hS (lv_sub hl [0, 1, 2, 3, 4] rfl)
set_option maxHeartbeats 4000000 in
set_option maxRecDepth 100000 in
theorem lc_2 (l : Launch) {p : Program} {e : Env} {s : State} {m : MethodId} {args : Array Value} {below : List Frame} {meth : Method} {c : Code} {H : Heap} {locs : List Loc} {cells slots : Nat} {Q : State → Prop} {ls : Array Slot} {b L i o : Nat} {xs : Nat → Int32} {D : va_G} {kc : Nat → ClassId} {ad am : Nat → Nat} {I : MI} {J : MJ} {I' : MI} {J' : MJ} {f : Nat → Int64} {tw q1 q2 q3 : Nat} (hx : p.tables.exec = Jvm.exec) (hb : c.code = code) (hml : c.maxLocals = 8) (hown : s.vm.findClass "OpenDealLaw" = some m.cls) (hk : ∀ w ∈ kw, w.before args s = true) (hX : va_X b L xs s s.heap) (hbl : b < s.heap.size) (hL : L ≤ 3584) (hi : 7 * i + 7 ≤ L) (hT : LBt tw q1 q2 q3 s) (hK : va_K D cls5 (tys5 kc) s) (hP : va_P D cls5 (LW kc ad am o I J I' J' f) H) (hD : va_D (LA s) (LW kc ad am o I J I' J' f)) (hS : va_S (LA s) s.heap H locs) (hcs : cells + 16 ≤ 601024 ∧ slots + 16 ≤ 7293034) (hl : lv_has ls 8 [(4, .int (Int32.ofNat (7 * i))), (3, .ref o), (2, .ref (am 0)), (1, .ref (ad 0)), (0, .ref b)])
    (n0_ : Nat) (r0_ : Int32 × MI × MJ) (h0_ : ff_O_seat n0_ I J (xs (7 * i + 1)) = some r0_) (n1_ : Nat) (r1_ : Int32 × MI × MJ) (h1_ : ff_M_seat n1_ I' J' (xs (7 * i + 1)) = some r1_) 
    (kk : ∀ (H1 : Heap) (locs1 : List Loc) (ls1 : Array Slot), va_P D cls5 (LW kc ad am o r0_.2.1 r0_.2.2 r1_.2.1 r1_.2.2 f) H1 → va_D (LA s) (LW kc ad am o r0_.2.1 r0_.2.2 r1_.2.1 r1_.2.2 f) → va_S (LA s) s.heap H1 locs1 → lv_has ls1 8 [(4, .int (Int32.ofNat (7 * i))), (3, .ref o), (2, .ref (am 0)), (1, .ref (ad 0)), (0, .ref b)] → W p l e room_1 s m args below meth c H1 locs1 (cells + 16) (slots + 16) Q (F0 m 764 ls1 [])) : W p l e room_1 s m args below meth c H locs cells slots Q (F0 m 168 ls []) := by
  refine lv_aload_n hx hb dd_L_law_168 rfl (lv_at hl 3 rfl) ?_
  refine lx (k := 1) 1 hx hb hX hbl hS hL hi (lv_at hl 4 rfl) (lv_at hl 0 rfl) (by decide) (by decide) dd_L_law_169 dd_L_law_170 dd_L_law_172 dd_L_law_173 dd_L_law_174 ?_
  refine lz_Vi (n := 1) (As := [.int (xs (7 * i + 1))]) (w' := wC kc ad r0_.2.1 r0_.2.2) hx hb hml hown hk (met_pre (B2 := fun U => BW D kc _ _ U ∧ True) (mm_O_seat l D kc ad I J _ n0_ (xs (7 * i + 1)) r0_ h0_) (fun U h => h.1)) (fun _ _ _ => trivial) (fun _ _ _ _ _ => trivial) hK hP hD hS (fun _ h => h) 0 at_O rfl rfl kw_168 kw_169 kw_170 kw_1 kw_171 ⟨rfl, rfl⟩ (by decide +kernel) ⟨Nat.le_of_ble_eq_true rfl, Nat.le_of_ble_eq_true rfl⟩ rfl hl.1 rfl (Nat.le_of_ble_eq_true rfl) dd_L_law_175 ⟨by show _ ≤ 601024; omega, by show _ ≤ 7293034; omega⟩ (fun H locs hP hD hS _ _ => ?_)
  refine lv_pop hx hb dd_L_law_178 rfl ?_
  refine lv_aload_n hx hb dd_L_law_179 rfl (lv_at hl 2 rfl) ?_
  refine lx (k := 1) 1 hx hb hX hbl hS hL hi (lv_at hl 4 rfl) (lv_at hl 0 rfl) (by decide) (by decide) dd_L_law_180 dd_L_law_181 dd_L_law_183 dd_L_law_184 dd_L_law_185 ?_
  have hP := ap3 hP
  have hD := ad3 hD
  refine lz_Vi (n := 1) (As := [.int (xs (7 * i + 1))]) (w' := wM kc am r1_.2.1 r1_.2.2) hx hb hml hown hk (met_pre (B2 := fun U => BW D kc _ _ U ∧ True) (mm_M_seat l D kc am I' J' _ n1_ (xs (7 * i + 1)) r1_ h1_) (fun U h => h.1)) (fun _ _ _ => trivial) (fun _ _ _ _ _ => trivial) hK hP hD hS (fun _ h => h) 0 am_0 rfl rfl kw_651 kw_652 kw_653 kw_4 kw_654 ⟨rfl, rfl⟩ (by decide +kernel) ⟨Nat.le_of_ble_eq_true rfl, Nat.le_of_ble_eq_true rfl⟩ rfl hl.1 rfl (Nat.le_of_ble_eq_true rfl) dd_L_law_186 ⟨by show _ ≤ 601024; omega, by show _ ≤ 7293034; omega⟩ (fun H locs hP hD hS _ _ => ?_)
  have hP := ap4 hP
  have hD := ad4 hD
  refine lv_pop hx hb dd_L_law_189 rfl ?_
  refine lv_goto (tgt := 764) hx hb dd_L_law_190 (by decide) ?_
  refine W.widen (k := cells + 16) (n := slots + 16) (by omega) (by omega) ?_
  exact kk _ _ _ hP hD hS (lv_sub hl [0, 1, 2, 3, 4] rfl)
set_option maxHeartbeats 4000000 in
set_option maxRecDepth 100000 in
theorem lc_3 (l : Launch) {p : Program} {e : Env} {s : State} {m : MethodId} {args : Array Value} {below : List Frame} {meth : Method} {c : Code} {H : Heap} {locs : List Loc} {cells slots : Nat} {Q : State → Prop} {ls : Array Slot} {b L i o : Nat} {xs : Nat → Int32} {D : va_G} {kc : Nat → ClassId} {ad am : Nat → Nat} {I : MI} {J : MJ} {I' : MI} {J' : MJ} {f : Nat → Int64} {tw q1 q2 q3 : Nat} (hx : p.tables.exec = Jvm.exec) (hb : c.code = code) (hml : c.maxLocals = 8) (hown : s.vm.findClass "OpenDealLaw" = some m.cls) (hk : ∀ w ∈ kw, w.before args s = true) (hX : va_X b L xs s s.heap) (hbl : b < s.heap.size) (hL : L ≤ 3584) (hi : 7 * i + 7 ≤ L) (hT : LBt tw q1 q2 q3 s) (hK : va_K D cls5 (tys5 kc) s) (hP : va_P D cls5 (LW kc ad am o I J I' J' f) H) (hD : va_D (LA s) (LW kc ad am o I J I' J' f)) (hS : va_S (LA s) s.heap H locs) (hcs : cells + 16 ≤ 601024 ∧ slots + 16 ≤ 7293034) (hl : lv_has ls 8 [(4, .int (Int32.ofNat (7 * i))), (3, .ref o), (2, .ref (am 0)), (1, .ref (ad 0)), (0, .ref b)])
    (n0_ : Nat) (r0_ : Int32 × MI × MJ) (h0_ : ff_O_deal n0_ I J  = some r0_) (n1_ : Nat) (r1_ : Int32 × MI × MJ) (h1_ : ff_M_deal n1_ I' J'  = some r1_) 
    (kk : ∀ (H1 : Heap) (locs1 : List Loc) (ls1 : Array Slot), va_P D cls5 (LW kc ad am o r0_.2.1 r0_.2.2 r1_.2.1 r1_.2.2 f) H1 → va_D (LA s) (LW kc ad am o r0_.2.1 r0_.2.2 r1_.2.1 r1_.2.2 f) → va_S (LA s) s.heap H1 locs1 → lv_has ls1 8 [(4, .int (Int32.ofNat (7 * i))), (3, .ref o), (2, .ref (am 0)), (1, .ref (ad 0)), (0, .ref b)] → W p l e room_1 s m args below meth c H1 locs1 (cells + 16) (slots + 16) Q (F0 m 764 ls1 [])) : W p l e room_1 s m args below meth c H locs cells slots Q (F0 m 193 ls []) := by
  refine lv_aload_n hx hb dd_L_law_193 rfl (lv_at hl 3 rfl) ?_
  refine lz_Vi (n := 0) (As := []) (w' := wC kc ad r0_.2.1 r0_.2.2) hx hb hml hown hk (met_pre (B2 := fun U => BW D kc _ _ U ∧ True) (mm_O_deal l D kc ad I J _ n0_  r0_ h0_) (fun U h => h.1)) (fun _ _ _ => trivial) (fun _ _ _ _ _ => trivial) hK hP hD hS (fun _ h => h) 0 at_O rfl rfl kw_183 kw_184 kw_185 kw_1 kw_186 ⟨rfl, rfl⟩ (by decide +kernel) ⟨Nat.le_of_ble_eq_true rfl, Nat.le_of_ble_eq_true rfl⟩ rfl hl.1 rfl (Nat.le_of_ble_eq_true rfl) dd_L_law_194 ⟨by show _ ≤ 601024; omega, by show _ ≤ 7293034; omega⟩ (fun H locs hP hD hS _ _ => ?_)
  refine lv_pop hx hb dd_L_law_197 rfl ?_
  refine lv_aload_n hx hb dd_L_law_198 rfl (lv_at hl 2 rfl) ?_
  have hP := ap3 hP
  have hD := ad3 hD
  refine lz_Vi (n := 0) (As := []) (w' := wM kc am r1_.2.1 r1_.2.2) hx hb hml hown hk (met_pre (B2 := fun U => BW D kc _ _ U ∧ True) (mm_M_deal l D kc am I' J' _ n1_  r1_ h1_) (fun U h => h.1)) (fun _ _ _ => trivial) (fun _ _ _ _ _ => trivial) hK hP hD hS (fun _ h => h) 0 am_0 rfl rfl kw_656 kw_657 kw_658 kw_4 kw_659 ⟨rfl, rfl⟩ (by decide +kernel) ⟨Nat.le_of_ble_eq_true rfl, Nat.le_of_ble_eq_true rfl⟩ rfl hl.1 rfl (Nat.le_of_ble_eq_true rfl) dd_L_law_199 ⟨by show _ ≤ 601024; omega, by show _ ≤ 7293034; omega⟩ (fun H locs hP hD hS _ _ => ?_)
  have hP := ap4 hP
  have hD := ad4 hD
  refine lv_pop hx hb dd_L_law_202 rfl ?_
  refine lv_goto (tgt := 764) hx hb dd_L_law_203 (by decide) ?_
  refine W.widen (k := cells + 16) (n := slots + 16) (by omega) (by omega) ?_
  exact kk _ _ _ hP hD hS (lv_sub hl [0, 1, 2, 3, 4] rfl)
set_option maxHeartbeats 4000000 in
set_option maxRecDepth 100000 in
theorem lc_4 (l : Launch) {p : Program} {e : Env} {s : State} {m : MethodId} {args : Array Value} {below : List Frame} {meth : Method} {c : Code} {H : Heap} {locs : List Loc} {cells slots : Nat} {Q : State → Prop} {ls : Array Slot} {b L i o : Nat} {xs : Nat → Int32} {D : va_G} {kc : Nat → ClassId} {ad am : Nat → Nat} {I : MI} {J : MJ} {I' : MI} {J' : MJ} {f : Nat → Int64} {tw q1 q2 q3 : Nat} (hx : p.tables.exec = Jvm.exec) (hb : c.code = code) (hml : c.maxLocals = 8) (hown : s.vm.findClass "OpenDealLaw" = some m.cls) (hk : ∀ w ∈ kw, w.before args s = true) (hX : va_X b L xs s s.heap) (hbl : b < s.heap.size) (hL : L ≤ 3584) (hi : 7 * i + 7 ≤ L) (hT : LBt tw q1 q2 q3 s) (hK : va_K D cls5 (tys5 kc) s) (hP : va_P D cls5 (LW kc ad am o I J I' J' f) H) (hD : va_D (LA s) (LW kc ad am o I J I' J' f)) (hS : va_S (LA s) s.heap H locs) (hcs : cells + 16 ≤ 601024 ∧ slots + 16 ≤ 7293034) (hl : lv_has ls 8 [(4, .int (Int32.ofNat (7 * i))), (3, .ref o), (2, .ref (am 0)), (1, .ref (ad 0)), (0, .ref b)])
    (n0_ : Nat) (r0_ : Int32 × MI × MJ) (h0_ : ff_O_seal n0_ I J (xs (7 * i + 1)) (xs (7 * i + 2)) (lgp (xs (7 * i + 3)) (xs (7 * i + 4))) (lgp (xs (7 * i + 5)) (xs (7 * i + 6))) = some r0_) (n1_ : Nat) (r1_ : Int32 × MI × MJ) (h1_ : ff_M_seal n1_ I' J' (xs (7 * i + 1)) (xs (7 * i + 2)) (lgp (xs (7 * i + 3)) (xs (7 * i + 4))) (lgp (xs (7 * i + 5)) (xs (7 * i + 6))) = some r1_) 
    (kk : ∀ (H1 : Heap) (locs1 : List Loc) (ls1 : Array Slot), va_P D cls5 (LW kc ad am o r0_.2.1 r0_.2.2 r1_.2.1 r1_.2.2 f) H1 → va_D (LA s) (LW kc ad am o r0_.2.1 r0_.2.2 r1_.2.1 r1_.2.2 f) → va_S (LA s) s.heap H1 locs1 → lv_has ls1 8 [(4, .int (Int32.ofNat (7 * i))), (3, .ref o), (2, .ref (am 0)), (1, .ref (ad 0)), (0, .ref b)] → W p l e room_1 s m args below meth c H1 locs1 (cells + 16) (slots + 16) Q (F0 m 764 ls1 [])) : W p l e room_1 s m args below meth c H locs cells slots Q (F0 m 206 ls []) := by
  refine lv_aload_n hx hb dd_L_law_206 rfl (lv_at hl 3 rfl) ?_
  refine lx (k := 1) 1 hx hb hX hbl hS hL hi (lv_at hl 4 rfl) (lv_at hl 0 rfl) (by decide) (by decide) dd_L_law_207 dd_L_law_208 dd_L_law_210 dd_L_law_211 dd_L_law_212 ?_
  refine lx (k := 2) 2 hx hb hX hbl hS hL hi (lv_at hl 4 rfl) (lv_at hl 0 rfl) (by decide) (by decide) dd_L_law_213 dd_L_law_214 dd_L_law_216 dd_L_law_217 dd_L_law_218 ?_
  refine lx (k := 3) 3 hx hb hX hbl hS hL hi (lv_at hl 4 rfl) (lv_at hl 0 rfl) (by decide) (by decide) dd_L_law_219 dd_L_law_220 dd_L_law_222 dd_L_law_223 dd_L_law_224 ?_
  refine lv_i2l hx hb dd_L_law_225 rfl ?_
  refine lv_bipush (v := 32) hx hb dd_L_law_226 (by decide) ?_
  refine lv_lshl hx hb dd_L_law_228 rfl ?_
  refine lx (k := 4) 4 hx hb hX hbl hS hL hi (lv_at hl 4 rfl) (lv_at hl 0 rfl) (by decide) (by decide) dd_L_law_229 dd_L_law_230 dd_L_law_232 dd_L_law_233 dd_L_law_234 ?_
  refine lv_i2l hx hb dd_L_law_235 rfl ?_
  refine lv_ldc2 (v := 4294967295) hx hb hown (hk _ kw_817) dd_L_law_236 ?_
  refine lv_land hx hb dd_L_law_239 ?_
  refine lv_lor hx hb dd_L_law_240 ?_
  refine lx (k := 5) 5 hx hb hX hbl hS hL hi (lv_at hl 4 rfl) (lv_at hl 0 rfl) (by decide) (by decide) dd_L_law_241 dd_L_law_242 dd_L_law_244 dd_L_law_245 dd_L_law_246 ?_
  refine lv_i2l hx hb dd_L_law_247 rfl ?_
  refine lv_bipush (v := 32) hx hb dd_L_law_248 (by decide) ?_
  refine lv_lshl hx hb dd_L_law_250 rfl ?_
  refine lx6 (k := 6) 6 hx hb hX hbl hS hL hi (lv_at hl 4 rfl) (lv_at hl 0 rfl) (by decide) (by decide) dd_L_law_251 dd_L_law_252 dd_L_law_254 dd_L_law_256 dd_L_law_257 ?_
  refine lv_i2l hx hb dd_L_law_258 rfl ?_
  refine lv_ldc2 (v := 4294967295) hx hb hown (hk _ kw_817) dd_L_law_259 ?_
  refine lv_land hx hb dd_L_law_262 ?_
  refine lv_lor hx hb dd_L_law_263 ?_
  refine lz_Vi (n := 4) (As := [.int (xs (7 * i + 1)), .int (xs (7 * i + 2)), .long (lgp (xs (7 * i + 3)) (xs (7 * i + 4))), .long (lgp (xs (7 * i + 5)) (xs (7 * i + 6)))]) (w' := wC kc ad r0_.2.1 r0_.2.2) hx hb hml hown hk (met_pre (B2 := fun U => BW D kc _ _ U ∧ True) (mm_O_seal l D kc ad I J _ n0_ (xs (7 * i + 1)) (xs (7 * i + 2)) (lgp (xs (7 * i + 3)) (xs (7 * i + 4))) (lgp (xs (7 * i + 5)) (xs (7 * i + 6))) r0_ h0_) (fun U h => h.1)) (fun _ _ _ => trivial) (fun _ _ _ _ _ => trivial) hK hP hD hS (fun _ h => h) 0 at_O rfl rfl kw_192 kw_193 kw_194 kw_1 kw_195 ⟨rfl, rfl⟩ (by decide +kernel) ⟨Nat.le_of_ble_eq_true rfl, Nat.le_of_ble_eq_true rfl⟩ rfl hl.1 rfl (Nat.le_of_ble_eq_true rfl) dd_L_law_264 ⟨by show _ ≤ 601024; omega, by show _ ≤ 7293034; omega⟩ (fun H locs hP hD hS _ _ => ?_)
  refine lv_pop hx hb dd_L_law_267 rfl ?_
  refine lv_aload_n hx hb dd_L_law_268 rfl (lv_at hl 2 rfl) ?_
  refine lx (k := 1) 1 hx hb hX hbl hS hL hi (lv_at hl 4 rfl) (lv_at hl 0 rfl) (by decide) (by decide) dd_L_law_269 dd_L_law_270 dd_L_law_272 dd_L_law_273 dd_L_law_274 ?_
  refine lx (k := 2) 2 hx hb hX hbl hS hL hi (lv_at hl 4 rfl) (lv_at hl 0 rfl) (by decide) (by decide) dd_L_law_275 dd_L_law_276 dd_L_law_278 dd_L_law_279 dd_L_law_280 ?_
  refine lx (k := 3) 3 hx hb hX hbl hS hL hi (lv_at hl 4 rfl) (lv_at hl 0 rfl) (by decide) (by decide) dd_L_law_281 dd_L_law_282 dd_L_law_284 dd_L_law_285 dd_L_law_286 ?_
  refine lv_i2l hx hb dd_L_law_287 rfl ?_
  refine lv_bipush (v := 32) hx hb dd_L_law_288 (by decide) ?_
  refine lv_lshl hx hb dd_L_law_290 rfl ?_
  refine lx (k := 4) 4 hx hb hX hbl hS hL hi (lv_at hl 4 rfl) (lv_at hl 0 rfl) (by decide) (by decide) dd_L_law_291 dd_L_law_292 dd_L_law_294 dd_L_law_295 dd_L_law_296 ?_
  refine lv_i2l hx hb dd_L_law_297 rfl ?_
  refine lv_ldc2 (v := 4294967295) hx hb hown (hk _ kw_817) dd_L_law_298 ?_
  refine lv_land hx hb dd_L_law_301 ?_
  refine lv_lor hx hb dd_L_law_302 ?_
  refine lx (k := 5) 5 hx hb hX hbl hS hL hi (lv_at hl 4 rfl) (lv_at hl 0 rfl) (by decide) (by decide) dd_L_law_303 dd_L_law_304 dd_L_law_306 dd_L_law_307 dd_L_law_308 ?_
  refine lv_i2l hx hb dd_L_law_309 rfl ?_
  refine lv_bipush (v := 32) hx hb dd_L_law_310 (by decide) ?_
  refine lv_lshl hx hb dd_L_law_312 rfl ?_
  refine lx6 (k := 6) 6 hx hb hX hbl hS hL hi (lv_at hl 4 rfl) (lv_at hl 0 rfl) (by decide) (by decide) dd_L_law_313 dd_L_law_314 dd_L_law_316 dd_L_law_318 dd_L_law_319 ?_
  refine lv_i2l hx hb dd_L_law_320 rfl ?_
  refine lv_ldc2 (v := 4294967295) hx hb hown (hk _ kw_817) dd_L_law_321 ?_
  refine lv_land hx hb dd_L_law_324 ?_
  refine lv_lor hx hb dd_L_law_325 ?_
  have hP := ap3 hP
  have hD := ad3 hD
  refine lz_Vi (n := 4) (As := [.int (xs (7 * i + 1)), .int (xs (7 * i + 2)), .long (lgp (xs (7 * i + 3)) (xs (7 * i + 4))), .long (lgp (xs (7 * i + 5)) (xs (7 * i + 6)))]) (w' := wM kc am r1_.2.1 r1_.2.2) hx hb hml hown hk (met_pre (B2 := fun U => BW D kc _ _ U ∧ True) (mm_M_seal l D kc am I' J' _ n1_ (xs (7 * i + 1)) (xs (7 * i + 2)) (lgp (xs (7 * i + 3)) (xs (7 * i + 4))) (lgp (xs (7 * i + 5)) (xs (7 * i + 6))) r1_ h1_) (fun U h => h.1)) (fun _ _ _ => trivial) (fun _ _ _ _ _ => trivial) hK hP hD hS (fun _ h => h) 0 am_0 rfl rfl kw_660 kw_661 kw_662 kw_4 kw_663 ⟨rfl, rfl⟩ (by decide +kernel) ⟨Nat.le_of_ble_eq_true rfl, Nat.le_of_ble_eq_true rfl⟩ rfl hl.1 rfl (Nat.le_of_ble_eq_true rfl) dd_L_law_326 ⟨by show _ ≤ 601024; omega, by show _ ≤ 7293034; omega⟩ (fun H locs hP hD hS _ _ => ?_)
  have hP := ap4 hP
  have hD := ad4 hD
  refine lv_pop hx hb dd_L_law_329 rfl ?_
  refine lv_goto (tgt := 764) hx hb dd_L_law_330 (by decide) ?_
  refine W.widen (k := cells + 16) (n := slots + 16) (by omega) (by omega) ?_
  exact kk _ _ _ hP hD hS (lv_sub hl [0, 1, 2, 3, 4] rfl)
set_option maxHeartbeats 4000000 in
set_option maxRecDepth 100000 in
theorem lc_5r (l : Launch) {p : Program} {e : Env} {s : State} {m : MethodId} {args : Array Value} {below : List Frame} {meth : Method} {c : Code} {H : Heap} {locs : List Loc} {cells slots : Nat} {Q : State → Prop} {ls : Array Slot} {b L i o : Nat} {xs : Nat → Int32} {D : va_G} {kc : Nat → ClassId} {ad am : Nat → Nat} {I : MI} {J : MJ} {I' : MI} {J' : MJ} {f : Nat → Int64} {tw q1 q2 q3 : Nat} (hx : p.tables.exec = Jvm.exec) (hb : c.code = code) (hml : c.maxLocals = 8) (hown : s.vm.findClass "OpenDealLaw" = some m.cls) (hk : ∀ w ∈ kw, w.before args s = true) (hX : va_X b L xs s s.heap) (hbl : b < s.heap.size) (hL : L ≤ 3584) (hi : 7 * i + 7 ≤ L) (hT : LBt tw q1 q2 q3 s) (hK : va_K D cls5 (tys5 kc) s) (hP : va_P D cls5 (LW kc ad am o I J I' J' f) H) (hD : va_D (LA s) (LW kc ad am o I J I' J' f)) (hS : va_S (LA s) s.heap H locs) (hcs : cells + 16 ≤ 601024 ∧ slots + 16 ≤ 7293034) (hl : lv_has ls 8 [(4, .int (Int32.ofNat (7 * i))), (3, .ref o), (2, .ref (am 0)), (1, .ref (ad 0)), (0, .ref b)])
    (n0 : Nat) (v : Int64) (h0 : ff_O_sealOf n0 I J (xs (7 * i + 1)) = some (some v)) (n0_ : Nat) (r0_ : Int64 × MI × MJ) (h0_ : ff_M_sealOf2 n0_ I' J' (xs (7 * i + 1)) = some r0_) 
    (kk : ∀ (H1 : Heap) (locs1 : List Loc) (ls1 : Array Slot), va_P D cls5 (LW kc ad am o I J r0_.2.1 r0_.2.2 (vp_updL f 0 v)) H1 → va_D (LA s) (LW kc ad am o I J r0_.2.1 r0_.2.2 (vp_updL f 0 v)) → va_S (LA s) s.heap H1 locs1 → lv_has ls1 8 [(4, .int (Int32.ofNat (7 * i))), (3, .ref o), (2, .ref (am 0)), (1, .ref (ad 0)), (0, .ref b)] → W p l e room_1 s m args below meth c H1 locs1 (cells + 16) (slots + 16) Q (F0 m 764 ls1 [])) : W p l e room_1 s m args below meth c H locs cells slots Q (F0 m 333 ls []) := by
  refine lv_aload_n hx hb dd_L_law_333 rfl (lv_at hl 3 rfl) ?_
  refine lx (k := 1) 1 hx hb hX hbl hS hL hi (lv_at hl 4 rfl) (lv_at hl 0 rfl) (by decide) (by decide) dd_L_law_334 dd_L_law_335 dd_L_law_337 dd_L_law_338 dd_L_law_339 ?_
  refine lv_aload_n hx hb dd_L_law_340 rfl (lv_at hl 1 rfl) ?_
  have hP := (ap3 hP).turn
  have hD := (ad3 hD).turn
  refine lz_SW (n := 3) (As := [.ref (ad 0), .int (xs (7 * i + 1)), .ref o]) (w' := wC kc ad I J ++ outc kc o (vp_updL f 0 v)) hx hb hml hown hk (met_pre (B2 := fun U => BW D kc _ _ U ∧ True) (hr_sealOf l D kc ad I J o f _ n0 (xs (7 * i + 1)) v h0) (fun U h => h.1)) (fun _ _ _ => trivial) (fun _ _ _ _ _ => trivial) hK hP hD hS (fun _ h => h) kw_424 kw_425 kw_0 kw_426 ⟨rfl, rfl⟩ (by decide +kernel) ⟨Nat.le_of_ble_eq_true rfl, Nat.le_of_ble_eq_true rfl⟩ rfl hl.1 rfl (Nat.le_of_ble_eq_true rfl) dd_L_law_341 ⟨by show _ ≤ 601024; omega, by show _ ≤ 7293034; omega⟩ (fun H locs hP hD hS _ _ => ?_)
  have hP := ap4 hP.turn
  have hD := ad4 hD.turn
  refine lv_istore (lv' := [(5, .int 0), (4, .int (Int32.ofNat (7 * i))), (3, .ref o), (2, .ref (am 0)), (1, .ref (ad 0)), (0, .ref b)]) hx hb dd_L_law_344 hl (by decide) rfl (fun ls hl => ?_)
  refine lv_aload_n hx hb dd_L_law_346 rfl (lv_at hl 3 rfl) ?_
  refine lx (k := 1) 1 hx hb hX hbl hS hL hi (lv_at hl 5 rfl) (lv_at hl 1 rfl) (by decide) (by decide) dd_L_law_347 dd_L_law_348 dd_L_law_350 dd_L_law_351 dd_L_law_352 ?_
  have hP := ap3 hP
  have hD := ad3 hD
  refine lz_Vl (n := 1) (As := [.int (xs (7 * i + 1))]) (w' := wM kc am r0_.2.1 r0_.2.2) hx hb hml hown hk (met_pre (B2 := fun U => BW D kc _ _ U ∧ True) (mm_M_sealOf2 l D kc am I' J' _ n0_ (xs (7 * i + 1)) r0_ h0_) (fun U h => h.1)) (fun _ _ _ => trivial) (fun _ _ _ _ _ => trivial) hK hP hD hS (fun _ h => h) 0 am_0 rfl rfl kw_677 kw_678 kw_679 kw_4 kw_680 ⟨rfl, rfl⟩ (by decide +kernel) ⟨Nat.le_of_ble_eq_true rfl, Nat.le_of_ble_eq_true rfl⟩ rfl hl.1 rfl (Nat.le_of_ble_eq_true rfl) dd_L_law_353 ⟨by show _ ≤ 601024; omega, by show _ ≤ 7293034; omega⟩ (fun H locs hP hD hS _ _ => ?_)
  have hP := ap4 hP
  have hD := ad4 hD
  refine lv_lstore (lv' := [(6, .long r0_.1), (5, .int 0), (4, .int (Int32.ofNat (7 * i))), (3, .ref o), (2, .ref (am 0)), (1, .ref (ad 0)), (0, .ref b)]) hx hb dd_L_law_356 hl (by decide) rfl (fun ls hl => ?_)
  refine lv_goto (tgt := 764) hx hb dd_L_law_358 (by decide) ?_
  refine W.widen (k := cells + 16) (n := slots + 16) (by omega) (by omega) ?_
  exact kk _ _ _ hP hD hS (lv_sub hl [2, 3, 4, 5, 6] rfl)
set_option maxHeartbeats 4000000 in
set_option maxRecDepth 100000 in
theorem lc_5t (l : Launch) {p : Program} {e : Env} {s : State} {m : MethodId} {args : Array Value} {below : List Frame} {meth : Method} {c : Code} {H : Heap} {locs : List Loc} {cells slots : Nat} {Q : State → Prop} {ls : Array Slot} {b L i o : Nat} {xs : Nat → Int32} {D : va_G} {kc : Nat → ClassId} {ad am : Nat → Nat} {I : MI} {J : MJ} {I' : MI} {J' : MJ} {f : Nat → Int64} {tw q1 q2 q3 : Nat} (hx : p.tables.exec = Jvm.exec) (hb : c.code = code) (hml : c.maxLocals = 8) (hown : s.vm.findClass "OpenDealLaw" = some m.cls) (hk : ∀ w ∈ kw, w.before args s = true) (hX : va_X b L xs s s.heap) (hbl : b < s.heap.size) (hL : L ≤ 3584) (hi : 7 * i + 7 ≤ L) (hT : LBt tw q1 q2 q3 s) (hK : va_K D cls5 (tys5 kc) s) (hP : va_P D cls5 (LW kc ad am o I J I' J' f) H) (hD : va_D (LA s) (LW kc ad am o I J I' J' f)) (hS : va_S (LA s) s.heap H locs) (hcs : cells + 16 ≤ 601024 ∧ slots + 16 ≤ 7293034) (hl : lv_has ls 8 [(4, .int (Int32.ofNat (7 * i))), (3, .ref o), (2, .ref (am 0)), (1, .ref (ad 0)), (0, .ref b)])
    (hfl : l.flags = pinnedFlags ++ [noTraceFlag]) (n0 : Nat) (h0 : ff_O_sealOf n0 I J (xs (7 * i + 1)) = some none) (n0_ : Nat) (r0_ : Int64 × MI × MJ) (h0_ : ff_M_sealOf2 n0_ I' J' (xs (7 * i + 1)) = some r0_) 
    (kk : ∀ (H1 : Heap) (locs1 : List Loc) (ls1 : Array Slot), va_P D cls5 (LW kc ad am o I J r0_.2.1 r0_.2.2 f) H1 → va_D (LA s) (LW kc ad am o I J r0_.2.1 r0_.2.2 f) → va_S (LA s) s.heap H1 locs1 → lv_has ls1 8 [(4, .int (Int32.ofNat (7 * i))), (3, .ref o), (2, .ref (am 0)), (1, .ref (ad 0)), (0, .ref b)] → W p l e room_1 s m args below meth c H1 locs1 (cells + 16) (slots + 16) Q (F0 m 764 ls1 [])) : W p l e room_1 s m args below meth c H locs cells slots Q (F0 m 333 ls []) := by
  refine lv_aload_n hx hb dd_L_law_333 rfl (lv_at hl 3 rfl) ?_
  refine lx (k := 1) 1 hx hb hX hbl hS hL hi (lv_at hl 4 rfl) (lv_at hl 0 rfl) (by decide) (by decide) dd_L_law_334 dd_L_law_335 dd_L_law_337 dd_L_law_338 dd_L_law_339 ?_
  refine lv_aload_n hx hb dd_L_law_340 rfl (lv_at hl 1 rfl) ?_
  have hP := (ap3 hP).turn
  have hD := (ad3 hD).turn
  refine lz_SW (n := 3) (As := [.ref (ad 0), .int (xs (7 * i + 1)), .ref o]) (w' := wC kc ad I J ++ outc kc o f) hx hb hml hown hk (ht_sealOf l D kc ad I J o f _ n0 (xs (7 * i + 1)) q1 hfl h0) (fun U hU hW => ⟨la_tw hT.2.1 hS hU hW, vk_R.warm hW hT.2.2.2.1⟩) (fun U g mk a h => ⟨tw_bl h.1, vk_R.same rfl h.2⟩) hK hP hD hS (fun _ h => h) kw_424 kw_425 kw_0 kw_426 ⟨rfl, rfl⟩ (by decide +kernel) ⟨Nat.le_of_ble_eq_true rfl, Nat.le_of_ble_eq_true rfl⟩ rfl hl.1 rfl (Nat.le_of_ble_eq_true rfl) dd_L_law_341 ⟨by show _ ≤ 601024; omega, by show _ ≤ 7293034; omega⟩ (fun H locs hP hD hS _ _ => ?_)
  have hP := ap4 hP.turn
  have hD := ad4 hD.turn
  refine lv_istore (lv' := [(5, .int 1), (4, .int (Int32.ofNat (7 * i))), (3, .ref o), (2, .ref (am 0)), (1, .ref (ad 0)), (0, .ref b)]) hx hb dd_L_law_344 hl (by decide) rfl (fun ls hl => ?_)
  refine lv_aload_n hx hb dd_L_law_346 rfl (lv_at hl 3 rfl) ?_
  refine lx (k := 1) 1 hx hb hX hbl hS hL hi (lv_at hl 5 rfl) (lv_at hl 1 rfl) (by decide) (by decide) dd_L_law_347 dd_L_law_348 dd_L_law_350 dd_L_law_351 dd_L_law_352 ?_
  have hP := ap3 hP
  have hD := ad3 hD
  refine lz_Vl (n := 1) (As := [.int (xs (7 * i + 1))]) (w' := wM kc am r0_.2.1 r0_.2.2) hx hb hml hown hk (met_pre (B2 := fun U => BW D kc _ _ U ∧ True) (mm_M_sealOf2 l D kc am I' J' _ n0_ (xs (7 * i + 1)) r0_ h0_) (fun U h => h.1)) (fun _ _ _ => trivial) (fun _ _ _ _ _ => trivial) hK hP hD hS (fun _ h => h) 0 am_0 rfl rfl kw_677 kw_678 kw_679 kw_4 kw_680 ⟨rfl, rfl⟩ (by decide +kernel) ⟨Nat.le_of_ble_eq_true rfl, Nat.le_of_ble_eq_true rfl⟩ rfl hl.1 rfl (Nat.le_of_ble_eq_true rfl) dd_L_law_353 ⟨by show _ ≤ 601024; omega, by show _ ≤ 7293034; omega⟩ (fun H locs hP hD hS _ _ => ?_)
  have hP := ap4 hP
  have hD := ad4 hD
  refine lv_lstore (lv' := [(6, .long r0_.1), (5, .int 1), (4, .int (Int32.ofNat (7 * i))), (3, .ref o), (2, .ref (am 0)), (1, .ref (ad 0)), (0, .ref b)]) hx hb dd_L_law_356 hl (by decide) rfl (fun ls hl => ?_)
  refine lv_goto (tgt := 764) hx hb dd_L_law_358 (by decide) ?_
  refine W.widen (k := cells + 16) (n := slots + 16) (by omega) (by omega) ?_
  exact kk _ _ _ hP hD hS (lv_sub hl [2, 3, 4, 5, 6] rfl)
set_option maxHeartbeats 4000000 in
set_option maxRecDepth 100000 in
theorem lc_6 (l : Launch) {p : Program} {e : Env} {s : State} {m : MethodId} {args : Array Value} {below : List Frame} {meth : Method} {c : Code} {H : Heap} {locs : List Loc} {cells slots : Nat} {Q : State → Prop} {ls : Array Slot} {b L i o : Nat} {xs : Nat → Int32} {D : va_G} {kc : Nat → ClassId} {ad am : Nat → Nat} {I : MI} {J : MJ} {I' : MI} {J' : MJ} {f : Nat → Int64} {tw q1 q2 q3 : Nat} (hx : p.tables.exec = Jvm.exec) (hb : c.code = code) (hml : c.maxLocals = 8) (hown : s.vm.findClass "OpenDealLaw" = some m.cls) (hk : ∀ w ∈ kw, w.before args s = true) (hX : va_X b L xs s s.heap) (hbl : b < s.heap.size) (hL : L ≤ 3584) (hi : 7 * i + 7 ≤ L) (hT : LBt tw q1 q2 q3 s) (hK : va_K D cls5 (tys5 kc) s) (hP : va_P D cls5 (LW kc ad am o I J I' J' f) H) (hD : va_D (LA s) (LW kc ad am o I J I' J' f)) (hS : va_S (LA s) s.heap H locs) (hcs : cells + 16 ≤ 601024 ∧ slots + 16 ≤ 7293034) (hl : lv_has ls 8 [(4, .int (Int32.ofNat (7 * i))), (3, .ref o), (2, .ref (am 0)), (1, .ref (ad 0)), (0, .ref b)])
    (n0_ : Nat) (r0_ : Int32 × MI × MJ) (h0_ : ff_O_turn n0_ I J (xs (7 * i + 1)) = some r0_) (n1_ : Nat) (r1_ : Int32 × MI × MJ) (h1_ : ff_M_turn n1_ I' J' (xs (7 * i + 1)) = some r1_) 
    (kk : ∀ (H1 : Heap) (locs1 : List Loc) (ls1 : Array Slot), va_P D cls5 (LW kc ad am o r0_.2.1 r0_.2.2 r1_.2.1 r1_.2.2 f) H1 → va_D (LA s) (LW kc ad am o r0_.2.1 r0_.2.2 r1_.2.1 r1_.2.2 f) → va_S (LA s) s.heap H1 locs1 → lv_has ls1 8 [(4, .int (Int32.ofNat (7 * i))), (3, .ref o), (2, .ref (am 0)), (1, .ref (ad 0)), (0, .ref b)] → W p l e room_1 s m args below meth c H1 locs1 (cells + 16) (slots + 16) Q (F0 m 764 ls1 [])) : W p l e room_1 s m args below meth c H locs cells slots Q (F0 m 361 ls []) := by
  refine lv_aload_n hx hb dd_L_law_361 rfl (lv_at hl 3 rfl) ?_
  refine lx (k := 1) 1 hx hb hX hbl hS hL hi (lv_at hl 4 rfl) (lv_at hl 0 rfl) (by decide) (by decide) dd_L_law_362 dd_L_law_363 dd_L_law_365 dd_L_law_366 dd_L_law_367 ?_
  refine lz_Vi (n := 1) (As := [.int (xs (7 * i + 1))]) (w' := wC kc ad r0_.2.1 r0_.2.2) hx hb hml hown hk (met_pre (B2 := fun U => BW D kc _ _ U ∧ True) (mm_O_turn l D kc ad I J _ n0_ (xs (7 * i + 1)) r0_ h0_) (fun U h => h.1)) (fun _ _ _ => trivial) (fun _ _ _ _ _ => trivial) hK hP hD hS (fun _ h => h) 0 at_O rfl rfl kw_242 kw_243 kw_244 kw_1 kw_245 ⟨rfl, rfl⟩ (by decide +kernel) ⟨Nat.le_of_ble_eq_true rfl, Nat.le_of_ble_eq_true rfl⟩ rfl hl.1 rfl (Nat.le_of_ble_eq_true rfl) dd_L_law_368 ⟨by show _ ≤ 601024; omega, by show _ ≤ 7293034; omega⟩ (fun H locs hP hD hS _ _ => ?_)
  refine lv_pop hx hb dd_L_law_371 rfl ?_
  refine lv_aload_n hx hb dd_L_law_372 rfl (lv_at hl 2 rfl) ?_
  refine lx (k := 1) 1 hx hb hX hbl hS hL hi (lv_at hl 4 rfl) (lv_at hl 0 rfl) (by decide) (by decide) dd_L_law_373 dd_L_law_374 dd_L_law_376 dd_L_law_377 dd_L_law_378 ?_
  have hP := ap3 hP
  have hD := ad3 hD
  refine lz_Vi (n := 1) (As := [.int (xs (7 * i + 1))]) (w' := wM kc am r1_.2.1 r1_.2.2) hx hb hml hown hk (met_pre (B2 := fun U => BW D kc _ _ U ∧ True) (mm_M_turn l D kc am I' J' _ n1_ (xs (7 * i + 1)) r1_ h1_) (fun U h => h.1)) (fun _ _ _ => trivial) (fun _ _ _ _ _ => trivial) hK hP hD hS (fun _ h => h) 0 am_0 rfl rfl kw_685 kw_686 kw_687 kw_4 kw_688 ⟨rfl, rfl⟩ (by decide +kernel) ⟨Nat.le_of_ble_eq_true rfl, Nat.le_of_ble_eq_true rfl⟩ rfl hl.1 rfl (Nat.le_of_ble_eq_true rfl) dd_L_law_379 ⟨by show _ ≤ 601024; omega, by show _ ≤ 7293034; omega⟩ (fun H locs hP hD hS _ _ => ?_)
  have hP := ap4 hP
  have hD := ad4 hD
  refine lv_pop hx hb dd_L_law_382 rfl ?_
  refine lv_goto (tgt := 764) hx hb dd_L_law_383 (by decide) ?_
  refine W.widen (k := cells + 16) (n := slots + 16) (by omega) (by omega) ?_
  exact kk _ _ _ hP hD hS (lv_sub hl [0, 1, 2, 3, 4] rfl)
set_option maxHeartbeats 4000000 in
set_option maxRecDepth 100000 in
theorem lc_7r (l : Launch) {p : Program} {e : Env} {s : State} {m : MethodId} {args : Array Value} {below : List Frame} {meth : Method} {c : Code} {H : Heap} {locs : List Loc} {cells slots : Nat} {Q : State → Prop} {ls : Array Slot} {b L i o : Nat} {xs : Nat → Int32} {D : va_G} {kc : Nat → ClassId} {ad am : Nat → Nat} {I : MI} {J : MJ} {I' : MI} {J' : MJ} {f : Nat → Int64} {tw q1 q2 q3 : Nat} (hx : p.tables.exec = Jvm.exec) (hb : c.code = code) (hml : c.maxLocals = 8) (hown : s.vm.findClass "OpenDealLaw" = some m.cls) (hk : ∀ w ∈ kw, w.before args s = true) (hX : va_X b L xs s s.heap) (hbl : b < s.heap.size) (hL : L ≤ 3584) (hi : 7 * i + 7 ≤ L) (hT : LBt tw q1 q2 q3 s) (hK : va_K D cls5 (tys5 kc) s) (hP : va_P D cls5 (LW kc ad am o I J I' J' f) H) (hD : va_D (LA s) (LW kc ad am o I J I' J' f)) (hS : va_S (LA s) s.heap H locs) (hcs : cells + 16 ≤ 601024 ∧ slots + 16 ≤ 7293034) (hl : lv_has ls 8 [(4, .int (Int32.ofNat (7 * i))), (3, .ref o), (2, .ref (am 0)), (1, .ref (ad 0)), (0, .ref b)])
    (n0 : Nat) (v : Int32) (h0 : ff_O_laid n0 I J (xs (7 * i + 1)) = some (some v)) (n0_ : Nat) (r0_ : Int32 × MI × MJ) (h0_ : ff_M_laid n0_ I' J' (xs (7 * i + 1)) = some r0_) 
    (kk : ∀ (H1 : Heap) (locs1 : List Loc) (ls1 : Array Slot), va_P D cls5 (LW kc ad am o I J r0_.2.1 r0_.2.2 (vp_updL f 0 v.toInt64)) H1 → va_D (LA s) (LW kc ad am o I J r0_.2.1 r0_.2.2 (vp_updL f 0 v.toInt64)) → va_S (LA s) s.heap H1 locs1 → lv_has ls1 8 [(4, .int (Int32.ofNat (7 * i))), (3, .ref o), (2, .ref (am 0)), (1, .ref (ad 0)), (0, .ref b)] → W p l e room_1 s m args below meth c H1 locs1 (cells + 16) (slots + 16) Q (F0 m 764 ls1 [])) : W p l e room_1 s m args below meth c H locs cells slots Q (F0 m 386 ls []) := by
  refine lv_aload_n hx hb dd_L_law_386 rfl (lv_at hl 3 rfl) ?_
  refine lx (k := 1) 1 hx hb hX hbl hS hL hi (lv_at hl 4 rfl) (lv_at hl 0 rfl) (by decide) (by decide) dd_L_law_387 dd_L_law_388 dd_L_law_390 dd_L_law_391 dd_L_law_392 ?_
  refine lv_aload_n hx hb dd_L_law_393 rfl (lv_at hl 1 rfl) ?_
  have hP := (ap3 hP).turn
  have hD := (ad3 hD).turn
  refine lz_SW (n := 3) (As := [.ref (ad 0), .int (xs (7 * i + 1)), .ref o]) (w' := wC kc ad I J ++ outc kc o (vp_updL f 0 v.toInt64)) hx hb hml hown hk (met_pre (B2 := fun U => BW D kc _ _ U ∧ True) (hr_laid l D kc ad I J o f _ n0 (xs (7 * i + 1)) v h0) (fun U h => h.1)) (fun _ _ _ => trivial) (fun _ _ _ _ _ => trivial) hK hP hD hS (fun _ h => h) kw_499 kw_500 kw_0 kw_501 ⟨rfl, rfl⟩ (by decide +kernel) ⟨Nat.le_of_ble_eq_true rfl, Nat.le_of_ble_eq_true rfl⟩ rfl hl.1 rfl (Nat.le_of_ble_eq_true rfl) dd_L_law_394 ⟨by show _ ≤ 601024; omega, by show _ ≤ 7293034; omega⟩ (fun H locs hP hD hS _ _ => ?_)
  have hP := ap4 hP.turn
  have hD := ad4 hD.turn
  refine lv_istore (lv' := [(5, .int 0), (4, .int (Int32.ofNat (7 * i))), (3, .ref o), (2, .ref (am 0)), (1, .ref (ad 0)), (0, .ref b)]) hx hb dd_L_law_397 hl (by decide) rfl (fun ls hl => ?_)
  refine lv_aload_n hx hb dd_L_law_399 rfl (lv_at hl 3 rfl) ?_
  refine lx (k := 1) 1 hx hb hX hbl hS hL hi (lv_at hl 5 rfl) (lv_at hl 1 rfl) (by decide) (by decide) dd_L_law_400 dd_L_law_401 dd_L_law_403 dd_L_law_404 dd_L_law_405 ?_
  have hP := ap3 hP
  have hD := ad3 hD
  refine lz_Vi (n := 1) (As := [.int (xs (7 * i + 1))]) (w' := wM kc am r0_.2.1 r0_.2.2) hx hb hml hown hk (met_pre (B2 := fun U => BW D kc _ _ U ∧ True) (mm_M_laid l D kc am I' J' _ n0_ (xs (7 * i + 1)) r0_ h0_) (fun U h => h.1)) (fun _ _ _ => trivial) (fun _ _ _ _ _ => trivial) hK hP hD hS (fun _ h => h) 0 am_0 rfl rfl kw_722 kw_723 kw_724 kw_4 kw_725 ⟨rfl, rfl⟩ (by decide +kernel) ⟨Nat.le_of_ble_eq_true rfl, Nat.le_of_ble_eq_true rfl⟩ rfl hl.1 rfl (Nat.le_of_ble_eq_true rfl) dd_L_law_406 ⟨by show _ ≤ 601024; omega, by show _ ≤ 7293034; omega⟩ (fun H locs hP hD hS _ _ => ?_)
  have hP := ap4 hP
  have hD := ad4 hD
  refine lv_istore (lv' := [(6, .int r0_.1), (5, .int 0), (4, .int (Int32.ofNat (7 * i))), (3, .ref o), (2, .ref (am 0)), (1, .ref (ad 0)), (0, .ref b)]) hx hb dd_L_law_409 hl (by decide) rfl (fun ls hl => ?_)
  refine lv_goto (tgt := 764) hx hb dd_L_law_411 (by decide) ?_
  refine W.widen (k := cells + 16) (n := slots + 16) (by omega) (by omega) ?_
  exact kk _ _ _ hP hD hS (lv_sub hl [2, 3, 4, 5, 6] rfl)
set_option maxHeartbeats 4000000 in
set_option maxRecDepth 100000 in
theorem lc_7t (l : Launch) {p : Program} {e : Env} {s : State} {m : MethodId} {args : Array Value} {below : List Frame} {meth : Method} {c : Code} {H : Heap} {locs : List Loc} {cells slots : Nat} {Q : State → Prop} {ls : Array Slot} {b L i o : Nat} {xs : Nat → Int32} {D : va_G} {kc : Nat → ClassId} {ad am : Nat → Nat} {I : MI} {J : MJ} {I' : MI} {J' : MJ} {f : Nat → Int64} {tw q1 q2 q3 : Nat} (hx : p.tables.exec = Jvm.exec) (hb : c.code = code) (hml : c.maxLocals = 8) (hown : s.vm.findClass "OpenDealLaw" = some m.cls) (hk : ∀ w ∈ kw, w.before args s = true) (hX : va_X b L xs s s.heap) (hbl : b < s.heap.size) (hL : L ≤ 3584) (hi : 7 * i + 7 ≤ L) (hT : LBt tw q1 q2 q3 s) (hK : va_K D cls5 (tys5 kc) s) (hP : va_P D cls5 (LW kc ad am o I J I' J' f) H) (hD : va_D (LA s) (LW kc ad am o I J I' J' f)) (hS : va_S (LA s) s.heap H locs) (hcs : cells + 16 ≤ 601024 ∧ slots + 16 ≤ 7293034) (hl : lv_has ls 8 [(4, .int (Int32.ofNat (7 * i))), (3, .ref o), (2, .ref (am 0)), (1, .ref (ad 0)), (0, .ref b)])
    (hfl : l.flags = pinnedFlags ++ [noTraceFlag]) (n0 : Nat) (h0 : ff_O_laid n0 I J (xs (7 * i + 1)) = some none) (n0_ : Nat) (r0_ : Int32 × MI × MJ) (h0_ : ff_M_laid n0_ I' J' (xs (7 * i + 1)) = some r0_) 
    (kk : ∀ (H1 : Heap) (locs1 : List Loc) (ls1 : Array Slot), va_P D cls5 (LW kc ad am o I J r0_.2.1 r0_.2.2 f) H1 → va_D (LA s) (LW kc ad am o I J r0_.2.1 r0_.2.2 f) → va_S (LA s) s.heap H1 locs1 → lv_has ls1 8 [(4, .int (Int32.ofNat (7 * i))), (3, .ref o), (2, .ref (am 0)), (1, .ref (ad 0)), (0, .ref b)] → W p l e room_1 s m args below meth c H1 locs1 (cells + 16) (slots + 16) Q (F0 m 764 ls1 [])) : W p l e room_1 s m args below meth c H locs cells slots Q (F0 m 386 ls []) := by
  refine lv_aload_n hx hb dd_L_law_386 rfl (lv_at hl 3 rfl) ?_
  refine lx (k := 1) 1 hx hb hX hbl hS hL hi (lv_at hl 4 rfl) (lv_at hl 0 rfl) (by decide) (by decide) dd_L_law_387 dd_L_law_388 dd_L_law_390 dd_L_law_391 dd_L_law_392 ?_
  refine lv_aload_n hx hb dd_L_law_393 rfl (lv_at hl 1 rfl) ?_
  have hP := (ap3 hP).turn
  have hD := (ad3 hD).turn
  refine lz_SW (n := 3) (As := [.ref (ad 0), .int (xs (7 * i + 1)), .ref o]) (w' := wC kc ad I J ++ outc kc o f) hx hb hml hown hk (ht_laid l D kc ad I J o f _ n0 (xs (7 * i + 1)) q2 hfl h0) (fun U hU hW => ⟨la_tw hT.2.1 hS hU hW, vk_R.warm hW hT.2.2.2.2.1⟩) (fun U g mk a h => ⟨tw_bl h.1, vk_R.same rfl h.2⟩) hK hP hD hS (fun _ h => h) kw_499 kw_500 kw_0 kw_501 ⟨rfl, rfl⟩ (by decide +kernel) ⟨Nat.le_of_ble_eq_true rfl, Nat.le_of_ble_eq_true rfl⟩ rfl hl.1 rfl (Nat.le_of_ble_eq_true rfl) dd_L_law_394 ⟨by show _ ≤ 601024; omega, by show _ ≤ 7293034; omega⟩ (fun H locs hP hD hS _ _ => ?_)
  have hP := ap4 hP.turn
  have hD := ad4 hD.turn
  refine lv_istore (lv' := [(5, .int 1), (4, .int (Int32.ofNat (7 * i))), (3, .ref o), (2, .ref (am 0)), (1, .ref (ad 0)), (0, .ref b)]) hx hb dd_L_law_397 hl (by decide) rfl (fun ls hl => ?_)
  refine lv_aload_n hx hb dd_L_law_399 rfl (lv_at hl 3 rfl) ?_
  refine lx (k := 1) 1 hx hb hX hbl hS hL hi (lv_at hl 5 rfl) (lv_at hl 1 rfl) (by decide) (by decide) dd_L_law_400 dd_L_law_401 dd_L_law_403 dd_L_law_404 dd_L_law_405 ?_
  have hP := ap3 hP
  have hD := ad3 hD
  refine lz_Vi (n := 1) (As := [.int (xs (7 * i + 1))]) (w' := wM kc am r0_.2.1 r0_.2.2) hx hb hml hown hk (met_pre (B2 := fun U => BW D kc _ _ U ∧ True) (mm_M_laid l D kc am I' J' _ n0_ (xs (7 * i + 1)) r0_ h0_) (fun U h => h.1)) (fun _ _ _ => trivial) (fun _ _ _ _ _ => trivial) hK hP hD hS (fun _ h => h) 0 am_0 rfl rfl kw_722 kw_723 kw_724 kw_4 kw_725 ⟨rfl, rfl⟩ (by decide +kernel) ⟨Nat.le_of_ble_eq_true rfl, Nat.le_of_ble_eq_true rfl⟩ rfl hl.1 rfl (Nat.le_of_ble_eq_true rfl) dd_L_law_406 ⟨by show _ ≤ 601024; omega, by show _ ≤ 7293034; omega⟩ (fun H locs hP hD hS _ _ => ?_)
  have hP := ap4 hP
  have hD := ad4 hD
  refine lv_istore (lv' := [(6, .int r0_.1), (5, .int 1), (4, .int (Int32.ofNat (7 * i))), (3, .ref o), (2, .ref (am 0)), (1, .ref (ad 0)), (0, .ref b)]) hx hb dd_L_law_409 hl (by decide) rfl (fun ls hl => ?_)
  refine lv_goto (tgt := 764) hx hb dd_L_law_411 (by decide) ?_
  refine W.widen (k := cells + 16) (n := slots + 16) (by omega) (by omega) ?_
  exact kk _ _ _ hP hD hS (lv_sub hl [2, 3, 4, 5, 6] rfl)
set_option maxHeartbeats 4000000 in
set_option maxRecDepth 100000 in
theorem lc_8 (l : Launch) {p : Program} {e : Env} {s : State} {m : MethodId} {args : Array Value} {below : List Frame} {meth : Method} {c : Code} {H : Heap} {locs : List Loc} {cells slots : Nat} {Q : State → Prop} {ls : Array Slot} {b L i o : Nat} {xs : Nat → Int32} {D : va_G} {kc : Nat → ClassId} {ad am : Nat → Nat} {I : MI} {J : MJ} {I' : MI} {J' : MJ} {f : Nat → Int64} {tw q1 q2 q3 : Nat} (hx : p.tables.exec = Jvm.exec) (hb : c.code = code) (hml : c.maxLocals = 8) (hown : s.vm.findClass "OpenDealLaw" = some m.cls) (hk : ∀ w ∈ kw, w.before args s = true) (hX : va_X b L xs s s.heap) (hbl : b < s.heap.size) (hL : L ≤ 3584) (hi : 7 * i + 7 ≤ L) (hT : LBt tw q1 q2 q3 s) (hK : va_K D cls5 (tys5 kc) s) (hP : va_P D cls5 (LW kc ad am o I J I' J' f) H) (hD : va_D (LA s) (LW kc ad am o I J I' J' f)) (hS : va_S (LA s) s.heap H locs) (hcs : cells + 16 ≤ 601024 ∧ slots + 16 ≤ 7293034) (hl : lv_has ls 8 [(4, .int (Int32.ofNat (7 * i))), (3, .ref o), (2, .ref (am 0)), (1, .ref (ad 0)), (0, .ref b)])
    (n0_ : Nat) (r0_ : Int32 × MI × MJ) (h0_ : ff_O_assign n0_ I J (xs (7 * i + 1)) (xs (7 * i + 2)) = some r0_) (n1_ : Nat) (r1_ : Int32 × MI × MJ) (h1_ : ff_M_assign n1_ I' J' (xs (7 * i + 1)) (xs (7 * i + 2)) = some r1_) 
    (kk : ∀ (H1 : Heap) (locs1 : List Loc) (ls1 : Array Slot), va_P D cls5 (LW kc ad am o r0_.2.1 r0_.2.2 r1_.2.1 r1_.2.2 f) H1 → va_D (LA s) (LW kc ad am o r0_.2.1 r0_.2.2 r1_.2.1 r1_.2.2 f) → va_S (LA s) s.heap H1 locs1 → lv_has ls1 8 [(4, .int (Int32.ofNat (7 * i))), (3, .ref o), (2, .ref (am 0)), (1, .ref (ad 0)), (0, .ref b)] → W p l e room_1 s m args below meth c H1 locs1 (cells + 16) (slots + 16) Q (F0 m 764 ls1 [])) : W p l e room_1 s m args below meth c H locs cells slots Q (F0 m 414 ls []) := by
  refine lv_aload_n hx hb dd_L_law_414 rfl (lv_at hl 3 rfl) ?_
  refine lx (k := 1) 1 hx hb hX hbl hS hL hi (lv_at hl 4 rfl) (lv_at hl 0 rfl) (by decide) (by decide) dd_L_law_415 dd_L_law_416 dd_L_law_418 dd_L_law_419 dd_L_law_420 ?_
  refine lx (k := 2) 2 hx hb hX hbl hS hL hi (lv_at hl 4 rfl) (lv_at hl 0 rfl) (by decide) (by decide) dd_L_law_421 dd_L_law_422 dd_L_law_424 dd_L_law_425 dd_L_law_426 ?_
  refine lz_Vi (n := 2) (As := [.int (xs (7 * i + 1)), .int (xs (7 * i + 2))]) (w' := wC kc ad r0_.2.1 r0_.2.2) hx hb hml hown hk (met_pre (B2 := fun U => BW D kc _ _ U ∧ True) (mm_O_assign l D kc ad I J _ n0_ (xs (7 * i + 1)) (xs (7 * i + 2)) r0_ h0_) (fun U h => h.1)) (fun _ _ _ => trivial) (fun _ _ _ _ _ => trivial) hK hP hD hS (fun _ h => h) 0 at_O rfl rfl kw_274 kw_275 kw_276 kw_1 kw_277 ⟨rfl, rfl⟩ (by decide +kernel) ⟨Nat.le_of_ble_eq_true rfl, Nat.le_of_ble_eq_true rfl⟩ rfl hl.1 rfl (Nat.le_of_ble_eq_true rfl) dd_L_law_427 ⟨by show _ ≤ 601024; omega, by show _ ≤ 7293034; omega⟩ (fun H locs hP hD hS _ _ => ?_)
  refine lv_pop hx hb dd_L_law_430 rfl ?_
  refine lv_aload_n hx hb dd_L_law_431 rfl (lv_at hl 2 rfl) ?_
  refine lx (k := 1) 1 hx hb hX hbl hS hL hi (lv_at hl 4 rfl) (lv_at hl 0 rfl) (by decide) (by decide) dd_L_law_432 dd_L_law_433 dd_L_law_435 dd_L_law_436 dd_L_law_437 ?_
  refine lx (k := 2) 2 hx hb hX hbl hS hL hi (lv_at hl 4 rfl) (lv_at hl 0 rfl) (by decide) (by decide) dd_L_law_438 dd_L_law_439 dd_L_law_441 dd_L_law_442 dd_L_law_443 ?_
  have hP := ap3 hP
  have hD := ad3 hD
  refine lz_Vi (n := 2) (As := [.int (xs (7 * i + 1)), .int (xs (7 * i + 2))]) (w' := wM kc am r1_.2.1 r1_.2.2) hx hb hml hown hk (met_pre (B2 := fun U => BW D kc _ _ U ∧ True) (mm_M_assign l D kc am I' J' _ n1_ (xs (7 * i + 1)) (xs (7 * i + 2)) r1_ h1_) (fun U h => h.1)) (fun _ _ _ => trivial) (fun _ _ _ _ _ => trivial) hK hP hD hS (fun _ h => h) 0 am_0 rfl rfl kw_729 kw_730 kw_731 kw_4 kw_732 ⟨rfl, rfl⟩ (by decide +kernel) ⟨Nat.le_of_ble_eq_true rfl, Nat.le_of_ble_eq_true rfl⟩ rfl hl.1 rfl (Nat.le_of_ble_eq_true rfl) dd_L_law_444 ⟨by show _ ≤ 601024; omega, by show _ ≤ 7293034; omega⟩ (fun H locs hP hD hS _ _ => ?_)
  have hP := ap4 hP
  have hD := ad4 hD
  refine lv_pop hx hb dd_L_law_447 rfl ?_
  refine lv_goto (tgt := 764) hx hb dd_L_law_448 (by decide) ?_
  refine W.widen (k := cells + 16) (n := slots + 16) (by omega) (by omega) ?_
  exact kk _ _ _ hP hD hS (lv_sub hl [0, 1, 2, 3, 4] rfl)
set_option maxHeartbeats 4000000 in
set_option maxRecDepth 100000 in
theorem lc_9 (l : Launch) {p : Program} {e : Env} {s : State} {m : MethodId} {args : Array Value} {below : List Frame} {meth : Method} {c : Code} {H : Heap} {locs : List Loc} {cells slots : Nat} {Q : State → Prop} {ls : Array Slot} {b L i o : Nat} {xs : Nat → Int32} {D : va_G} {kc : Nat → ClassId} {ad am : Nat → Nat} {I : MI} {J : MJ} {I' : MI} {J' : MJ} {f : Nat → Int64} {tw q1 q2 q3 : Nat} (hx : p.tables.exec = Jvm.exec) (hb : c.code = code) (hml : c.maxLocals = 8) (hown : s.vm.findClass "OpenDealLaw" = some m.cls) (hk : ∀ w ∈ kw, w.before args s = true) (hX : va_X b L xs s s.heap) (hbl : b < s.heap.size) (hL : L ≤ 3584) (hi : 7 * i + 7 ≤ L) (hT : LBt tw q1 q2 q3 s) (hK : va_K D cls5 (tys5 kc) s) (hP : va_P D cls5 (LW kc ad am o I J I' J' f) H) (hD : va_D (LA s) (LW kc ad am o I J I' J' f)) (hS : va_S (LA s) s.heap H locs) (hcs : cells + 16 ≤ 601024 ∧ slots + 16 ≤ 7293034) (hl : lv_has ls 8 [(4, .int (Int32.ofNat (7 * i))), (3, .ref o), (2, .ref (am 0)), (1, .ref (ad 0)), (0, .ref b)])
    (n0_ : Nat) (r0_ : Int32 × MI × MJ) (h0_ : ff_O_give n0_ I J (xs (7 * i + 1)) (xs (7 * i + 2)) = some r0_) (n1_ : Nat) (r1_ : Int32 × MI × MJ) (h1_ : ff_M_give n1_ I' J' (xs (7 * i + 1)) (xs (7 * i + 2)) = some r1_) 
    (kk : ∀ (H1 : Heap) (locs1 : List Loc) (ls1 : Array Slot), va_P D cls5 (LW kc ad am o r0_.2.1 r0_.2.2 r1_.2.1 r1_.2.2 f) H1 → va_D (LA s) (LW kc ad am o r0_.2.1 r0_.2.2 r1_.2.1 r1_.2.2 f) → va_S (LA s) s.heap H1 locs1 → lv_has ls1 8 [(4, .int (Int32.ofNat (7 * i))), (3, .ref o), (2, .ref (am 0)), (1, .ref (ad 0)), (0, .ref b)] → W p l e room_1 s m args below meth c H1 locs1 (cells + 16) (slots + 16) Q (F0 m 764 ls1 [])) : W p l e room_1 s m args below meth c H locs cells slots Q (F0 m 451 ls []) := by
  refine lv_aload_n hx hb dd_L_law_451 rfl (lv_at hl 3 rfl) ?_
  refine lx (k := 1) 1 hx hb hX hbl hS hL hi (lv_at hl 4 rfl) (lv_at hl 0 rfl) (by decide) (by decide) dd_L_law_452 dd_L_law_453 dd_L_law_455 dd_L_law_456 dd_L_law_457 ?_
  refine lx (k := 2) 2 hx hb hX hbl hS hL hi (lv_at hl 4 rfl) (lv_at hl 0 rfl) (by decide) (by decide) dd_L_law_458 dd_L_law_459 dd_L_law_461 dd_L_law_462 dd_L_law_463 ?_
  refine lz_Vi (n := 2) (As := [.int (xs (7 * i + 1)), .int (xs (7 * i + 2))]) (w' := wC kc ad r0_.2.1 r0_.2.2) hx hb hml hown hk (met_pre (B2 := fun U => BW D kc _ _ U ∧ True) (mm_O_give l D kc ad I J _ n0_ (xs (7 * i + 1)) (xs (7 * i + 2)) r0_ h0_) (fun U h => h.1)) (fun _ _ _ => trivial) (fun _ _ _ _ _ => trivial) hK hP hD hS (fun _ h => h) 0 at_O rfl rfl kw_281 kw_282 kw_283 kw_1 kw_284 ⟨rfl, rfl⟩ (by decide +kernel) ⟨Nat.le_of_ble_eq_true rfl, Nat.le_of_ble_eq_true rfl⟩ rfl hl.1 rfl (Nat.le_of_ble_eq_true rfl) dd_L_law_464 ⟨by show _ ≤ 601024; omega, by show _ ≤ 7293034; omega⟩ (fun H locs hP hD hS _ _ => ?_)
  refine lv_pop hx hb dd_L_law_467 rfl ?_
  refine lv_aload_n hx hb dd_L_law_468 rfl (lv_at hl 2 rfl) ?_
  refine lx (k := 1) 1 hx hb hX hbl hS hL hi (lv_at hl 4 rfl) (lv_at hl 0 rfl) (by decide) (by decide) dd_L_law_469 dd_L_law_470 dd_L_law_472 dd_L_law_473 dd_L_law_474 ?_
  refine lx (k := 2) 2 hx hb hX hbl hS hL hi (lv_at hl 4 rfl) (lv_at hl 0 rfl) (by decide) (by decide) dd_L_law_475 dd_L_law_476 dd_L_law_478 dd_L_law_479 dd_L_law_480 ?_
  have hP := ap3 hP
  have hD := ad3 hD
  refine lz_Vi (n := 2) (As := [.int (xs (7 * i + 1)), .int (xs (7 * i + 2))]) (w' := wM kc am r1_.2.1 r1_.2.2) hx hb hml hown hk (met_pre (B2 := fun U => BW D kc _ _ U ∧ True) (mm_M_give l D kc am I' J' _ n1_ (xs (7 * i + 1)) (xs (7 * i + 2)) r1_ h1_) (fun U h => h.1)) (fun _ _ _ => trivial) (fun _ _ _ _ _ => trivial) hK hP hD hS (fun _ h => h) 0 am_0 rfl rfl kw_733 kw_734 kw_735 kw_4 kw_736 ⟨rfl, rfl⟩ (by decide +kernel) ⟨Nat.le_of_ble_eq_true rfl, Nat.le_of_ble_eq_true rfl⟩ rfl hl.1 rfl (Nat.le_of_ble_eq_true rfl) dd_L_law_481 ⟨by show _ ≤ 601024; omega, by show _ ≤ 7293034; omega⟩ (fun H locs hP hD hS _ _ => ?_)
  have hP := ap4 hP
  have hD := ad4 hD
  refine lv_pop hx hb dd_L_law_484 rfl ?_
  refine lv_goto (tgt := 764) hx hb dd_L_law_485 (by decide) ?_
  refine W.widen (k := cells + 16) (n := slots + 16) (by omega) (by omega) ?_
  exact kk _ _ _ hP hD hS (lv_sub hl [0, 1, 2, 3, 4] rfl)
set_option maxHeartbeats 4000000 in
set_option maxRecDepth 100000 in
theorem lc_10 (l : Launch) {p : Program} {e : Env} {s : State} {m : MethodId} {args : Array Value} {below : List Frame} {meth : Method} {c : Code} {H : Heap} {locs : List Loc} {cells slots : Nat} {Q : State → Prop} {ls : Array Slot} {b L i o : Nat} {xs : Nat → Int32} {D : va_G} {kc : Nat → ClassId} {ad am : Nat → Nat} {I : MI} {J : MJ} {I' : MI} {J' : MJ} {f : Nat → Int64} {tw q1 q2 q3 : Nat} (hx : p.tables.exec = Jvm.exec) (hb : c.code = code) (hml : c.maxLocals = 8) (hown : s.vm.findClass "OpenDealLaw" = some m.cls) (hk : ∀ w ∈ kw, w.before args s = true) (hX : va_X b L xs s s.heap) (hbl : b < s.heap.size) (hL : L ≤ 3584) (hi : 7 * i + 7 ≤ L) (hT : LBt tw q1 q2 q3 s) (hK : va_K D cls5 (tys5 kc) s) (hP : va_P D cls5 (LW kc ad am o I J I' J' f) H) (hD : va_D (LA s) (LW kc ad am o I J I' J' f)) (hS : va_S (LA s) s.heap H locs) (hcs : cells + 16 ≤ 601024 ∧ slots + 16 ≤ 7293034) (hl : lv_has ls 8 [(4, .int (Int32.ofNat (7 * i))), (3, .ref o), (2, .ref (am 0)), (1, .ref (ad 0)), (0, .ref b)])
    (n0_ : Nat) (r0_ : Int32) (h0_ : ff_O_open n0_ I J (xs (7 * i + 1)) (xs (7 * i + 2)) = some r0_) (n1_ : Nat) (r1_ : Int32 × MI × MJ) (h1_ : ff_M_open n1_ I' J' (xs (7 * i + 1)) (xs (7 * i + 2)) = some r1_) 
    (kk : ∀ (H1 : Heap) (locs1 : List Loc) (ls1 : Array Slot), va_P D cls5 (LW kc ad am o I J r1_.2.1 r1_.2.2 f) H1 → va_D (LA s) (LW kc ad am o I J r1_.2.1 r1_.2.2 f) → va_S (LA s) s.heap H1 locs1 → lv_has ls1 8 [(4, .int (Int32.ofNat (7 * i))), (3, .ref o), (2, .ref (am 0)), (1, .ref (ad 0)), (0, .ref b)] → W p l e room_1 s m args below meth c H1 locs1 (cells + 16) (slots + 16) Q (F0 m 764 ls1 [])) : W p l e room_1 s m args below meth c H locs cells slots Q (F0 m 488 ls []) := by
  refine lv_aload_n hx hb dd_L_law_488 rfl (lv_at hl 3 rfl) ?_
  refine lx (k := 1) 1 hx hb hX hbl hS hL hi (lv_at hl 4 rfl) (lv_at hl 0 rfl) (by decide) (by decide) dd_L_law_489 dd_L_law_490 dd_L_law_492 dd_L_law_493 dd_L_law_494 ?_
  refine lx (k := 2) 2 hx hb hX hbl hS hL hi (lv_at hl 4 rfl) (lv_at hl 0 rfl) (by decide) (by decide) dd_L_law_495 dd_L_law_496 dd_L_law_498 dd_L_law_499 dd_L_law_500 ?_
  refine cr_Vi (n := 2) (As := [.int (xs (7 * i + 1)), .int (xs (7 * i + 2))]) (w := wC kc ad I J) hx hb hml hown hk (mm_O_open l D kc ad I J n0_ (xs (7 * i + 1)) (xs (7 * i + 2)) r0_ h0_) hK hP.right 0 at_O rfl rfl kw_293 kw_294 kw_295 kw_1 kw_296 ⟨rfl, rfl⟩ (by decide +kernel) ⟨Nat.le_of_ble_eq_true rfl, Nat.le_of_ble_eq_true rfl⟩ rfl hl.1 rfl (Nat.le_of_ble_eq_true rfl) dd_L_law_501 ⟨by show _ ≤ 601024; omega, by show _ ≤ 7293034; omega⟩ ?_
  refine lv_pop hx hb dd_L_law_504 rfl ?_
  refine lv_aload_n hx hb dd_L_law_505 rfl (lv_at hl 2 rfl) ?_
  refine lx (k := 1) 1 hx hb hX hbl hS hL hi (lv_at hl 4 rfl) (lv_at hl 0 rfl) (by decide) (by decide) dd_L_law_506 dd_L_law_507 dd_L_law_509 dd_L_law_510 dd_L_law_511 ?_
  refine lx (k := 2) 2 hx hb hX hbl hS hL hi (lv_at hl 4 rfl) (lv_at hl 0 rfl) (by decide) (by decide) dd_L_law_512 dd_L_law_513 dd_L_law_515 dd_L_law_516 dd_L_law_517 ?_
  have hP := ap3 hP
  have hD := ad3 hD
  refine lz_Vi (n := 2) (As := [.int (xs (7 * i + 1)), .int (xs (7 * i + 2))]) (w' := wM kc am r1_.2.1 r1_.2.2) hx hb hml hown hk (met_pre (B2 := fun U => BW D kc _ _ U ∧ True) (mm_M_open l D kc am I' J' _ n1_ (xs (7 * i + 1)) (xs (7 * i + 2)) r1_ h1_) (fun U h => h.1)) (fun _ _ _ => trivial) (fun _ _ _ _ _ => trivial) hK hP hD hS (fun _ h => h) 0 am_0 rfl rfl kw_745 kw_746 kw_747 kw_4 kw_748 ⟨rfl, rfl⟩ (by decide +kernel) ⟨Nat.le_of_ble_eq_true rfl, Nat.le_of_ble_eq_true rfl⟩ rfl hl.1 rfl (Nat.le_of_ble_eq_true rfl) dd_L_law_518 ⟨by show _ ≤ 601024; omega, by show _ ≤ 7293034; omega⟩ (fun H locs hP hD hS _ _ => ?_)
  have hP := ap4 hP
  have hD := ad4 hD
  refine lv_pop hx hb dd_L_law_521 rfl ?_
  refine lv_goto (tgt := 764) hx hb dd_L_law_522 (by decide) ?_
  refine W.widen (k := cells + 16) (n := slots + 16) (by omega) (by omega) ?_
  exact kk _ _ _ hP hD hS (lv_sub hl [0, 1, 2, 3, 4] rfl)
set_option maxHeartbeats 4000000 in
set_option maxRecDepth 100000 in
theorem lc_11 (l : Launch) {p : Program} {e : Env} {s : State} {m : MethodId} {args : Array Value} {below : List Frame} {meth : Method} {c : Code} {H : Heap} {locs : List Loc} {cells slots : Nat} {Q : State → Prop} {ls : Array Slot} {b L i o : Nat} {xs : Nat → Int32} {D : va_G} {kc : Nat → ClassId} {ad am : Nat → Nat} {I : MI} {J : MJ} {I' : MI} {J' : MJ} {f : Nat → Int64} {tw q1 q2 q3 : Nat} (hx : p.tables.exec = Jvm.exec) (hb : c.code = code) (hml : c.maxLocals = 8) (hown : s.vm.findClass "OpenDealLaw" = some m.cls) (hk : ∀ w ∈ kw, w.before args s = true) (hX : va_X b L xs s s.heap) (hbl : b < s.heap.size) (hL : L ≤ 3584) (hi : 7 * i + 7 ≤ L) (hT : LBt tw q1 q2 q3 s) (hK : va_K D cls5 (tys5 kc) s) (hP : va_P D cls5 (LW kc ad am o I J I' J' f) H) (hD : va_D (LA s) (LW kc ad am o I J I' J' f)) (hS : va_S (LA s) s.heap H locs) (hcs : cells + 16 ≤ 601024 ∧ slots + 16 ≤ 7293034) (hl : lv_has ls 8 [(4, .int (Int32.ofNat (7 * i))), (3, .ref o), (2, .ref (am 0)), (1, .ref (ad 0)), (0, .ref b)])
    (n0_ : Nat) (r0_ : Int32 × MI × MJ) (h0_ : ff_O_round n0_ I J  = some r0_) (n1_ : Nat) (r1_ : Int32 × MI × MJ) (h1_ : ff_M_round n1_ I' J'  = some r1_) 
    (kk : ∀ (H1 : Heap) (locs1 : List Loc) (ls1 : Array Slot), va_P D cls5 (LW kc ad am o r0_.2.1 r0_.2.2 r1_.2.1 r1_.2.2 f) H1 → va_D (LA s) (LW kc ad am o r0_.2.1 r0_.2.2 r1_.2.1 r1_.2.2 f) → va_S (LA s) s.heap H1 locs1 → lv_has ls1 8 [(4, .int (Int32.ofNat (7 * i))), (3, .ref o), (2, .ref (am 0)), (1, .ref (ad 0)), (0, .ref b)] → W p l e room_1 s m args below meth c H1 locs1 (cells + 16) (slots + 16) Q (F0 m 764 ls1 [])) : W p l e room_1 s m args below meth c H locs cells slots Q (F0 m 525 ls []) := by
  refine lv_aload_n hx hb dd_L_law_525 rfl (lv_at hl 3 rfl) ?_
  refine lz_Vi (n := 0) (As := []) (w' := wC kc ad r0_.2.1 r0_.2.2) hx hb hml hown hk (met_pre (B2 := fun U => BW D kc _ _ U ∧ True) (mm_O_round l D kc ad I J _ n0_  r0_ h0_) (fun U h => h.1)) (fun _ _ _ => trivial) (fun _ _ _ _ _ => trivial) hK hP hD hS (fun _ h => h) 0 at_O rfl rfl kw_305 kw_306 kw_307 kw_1 kw_308 ⟨rfl, rfl⟩ (by decide +kernel) ⟨Nat.le_of_ble_eq_true rfl, Nat.le_of_ble_eq_true rfl⟩ rfl hl.1 rfl (Nat.le_of_ble_eq_true rfl) dd_L_law_526 ⟨by show _ ≤ 601024; omega, by show _ ≤ 7293034; omega⟩ (fun H locs hP hD hS _ _ => ?_)
  refine lv_pop hx hb dd_L_law_529 rfl ?_
  refine lv_aload_n hx hb dd_L_law_530 rfl (lv_at hl 2 rfl) ?_
  have hP := ap3 hP
  have hD := ad3 hD
  refine lz_Vi (n := 0) (As := []) (w' := wM kc am r1_.2.1 r1_.2.2) hx hb hml hown hk (met_pre (B2 := fun U => BW D kc _ _ U ∧ True) (mm_M_round l D kc am I' J' _ n1_  r1_ h1_) (fun U h => h.1)) (fun _ _ _ => trivial) (fun _ _ _ _ _ => trivial) hK hP hD hS (fun _ h => h) 0 am_0 rfl rfl kw_749 kw_750 kw_751 kw_4 kw_752 ⟨rfl, rfl⟩ (by decide +kernel) ⟨Nat.le_of_ble_eq_true rfl, Nat.le_of_ble_eq_true rfl⟩ rfl hl.1 rfl (Nat.le_of_ble_eq_true rfl) dd_L_law_531 ⟨by show _ ≤ 601024; omega, by show _ ≤ 7293034; omega⟩ (fun H locs hP hD hS _ _ => ?_)
  have hP := ap4 hP
  have hD := ad4 hD
  refine lv_pop hx hb dd_L_law_534 rfl ?_
  refine lv_goto (tgt := 764) hx hb dd_L_law_535 (by decide) ?_
  refine W.widen (k := cells + 16) (n := slots + 16) (by omega) (by omega) ?_
  exact kk _ _ _ hP hD hS (lv_sub hl [0, 1, 2, 3, 4] rfl)
set_option maxHeartbeats 4000000 in
set_option maxRecDepth 100000 in
theorem lc_12 (l : Launch) {p : Program} {e : Env} {s : State} {m : MethodId} {args : Array Value} {below : List Frame} {meth : Method} {c : Code} {H : Heap} {locs : List Loc} {cells slots : Nat} {Q : State → Prop} {ls : Array Slot} {b L i o : Nat} {xs : Nat → Int32} {D : va_G} {kc : Nat → ClassId} {ad am : Nat → Nat} {I : MI} {J : MJ} {I' : MI} {J' : MJ} {f : Nat → Int64} {tw q1 q2 q3 : Nat} (hx : p.tables.exec = Jvm.exec) (hb : c.code = code) (hml : c.maxLocals = 8) (hown : s.vm.findClass "OpenDealLaw" = some m.cls) (hk : ∀ w ∈ kw, w.before args s = true) (hX : va_X b L xs s s.heap) (hbl : b < s.heap.size) (hL : L ≤ 3584) (hi : 7 * i + 7 ≤ L) (hT : LBt tw q1 q2 q3 s) (hK : va_K D cls5 (tys5 kc) s) (hP : va_P D cls5 (LW kc ad am o I J I' J' f) H) (hD : va_D (LA s) (LW kc ad am o I J I' J' f)) (hS : va_S (LA s) s.heap H locs) (hcs : cells + 16 ≤ 601024 ∧ slots + 16 ≤ 7293034) (hl : lv_has ls 8 [(4, .int (Int32.ofNat (7 * i))), (3, .ref o), (2, .ref (am 0)), (1, .ref (ad 0)), (0, .ref b)])
    (n0_ : Nat) (r0_ : Int32 × MI × MJ) (h0_ : ff_O_bet n0_ I J (xs (7 * i + 1)) (xs (7 * i + 2)) (xs (7 * i + 3)) = some r0_) (n1_ : Nat) (r1_ : Int32 × MI × MJ) (h1_ : ff_M_bet n1_ I' J' (xs (7 * i + 1)) (xs (7 * i + 2)) (xs (7 * i + 3)) = some r1_) 
    (kk : ∀ (H1 : Heap) (locs1 : List Loc) (ls1 : Array Slot), va_P D cls5 (LW kc ad am o r0_.2.1 r0_.2.2 r1_.2.1 r1_.2.2 f) H1 → va_D (LA s) (LW kc ad am o r0_.2.1 r0_.2.2 r1_.2.1 r1_.2.2 f) → va_S (LA s) s.heap H1 locs1 → lv_has ls1 8 [(4, .int (Int32.ofNat (7 * i))), (3, .ref o), (2, .ref (am 0)), (1, .ref (ad 0)), (0, .ref b)] → W p l e room_1 s m args below meth c H1 locs1 (cells + 16) (slots + 16) Q (F0 m 764 ls1 [])) : W p l e room_1 s m args below meth c H locs cells slots Q (F0 m 538 ls []) := by
  refine lv_aload_n hx hb dd_L_law_538 rfl (lv_at hl 3 rfl) ?_
  refine lx (k := 1) 1 hx hb hX hbl hS hL hi (lv_at hl 4 rfl) (lv_at hl 0 rfl) (by decide) (by decide) dd_L_law_539 dd_L_law_540 dd_L_law_542 dd_L_law_543 dd_L_law_544 ?_
  refine lx (k := 2) 2 hx hb hX hbl hS hL hi (lv_at hl 4 rfl) (lv_at hl 0 rfl) (by decide) (by decide) dd_L_law_545 dd_L_law_546 dd_L_law_548 dd_L_law_549 dd_L_law_550 ?_
  refine lx (k := 3) 3 hx hb hX hbl hS hL hi (lv_at hl 4 rfl) (lv_at hl 0 rfl) (by decide) (by decide) dd_L_law_551 dd_L_law_552 dd_L_law_554 dd_L_law_555 dd_L_law_556 ?_
  refine lz_Vi (n := 3) (As := [.int (xs (7 * i + 1)), .int (xs (7 * i + 2)), .int (xs (7 * i + 3))]) (w' := wC kc ad r0_.2.1 r0_.2.2) hx hb hml hown hk (met_pre (B2 := fun U => BW D kc _ _ U ∧ True) (mm_O_bet l D kc ad I J _ n0_ (xs (7 * i + 1)) (xs (7 * i + 2)) (xs (7 * i + 3)) r0_ h0_) (fun U h => h.1)) (fun _ _ _ => trivial) (fun _ _ _ _ _ => trivial) hK hP hD hS (fun _ h => h) 0 at_O rfl rfl kw_325 kw_326 kw_327 kw_1 kw_328 ⟨rfl, rfl⟩ (by decide +kernel) ⟨Nat.le_of_ble_eq_true rfl, Nat.le_of_ble_eq_true rfl⟩ rfl hl.1 rfl (Nat.le_of_ble_eq_true rfl) dd_L_law_557 ⟨by show _ ≤ 601024; omega, by show _ ≤ 7293034; omega⟩ (fun H locs hP hD hS _ _ => ?_)
  refine lv_pop hx hb dd_L_law_560 rfl ?_
  refine lv_aload_n hx hb dd_L_law_561 rfl (lv_at hl 2 rfl) ?_
  refine lx (k := 1) 1 hx hb hX hbl hS hL hi (lv_at hl 4 rfl) (lv_at hl 0 rfl) (by decide) (by decide) dd_L_law_562 dd_L_law_563 dd_L_law_565 dd_L_law_566 dd_L_law_567 ?_
  refine lx (k := 2) 2 hx hb hX hbl hS hL hi (lv_at hl 4 rfl) (lv_at hl 0 rfl) (by decide) (by decide) dd_L_law_568 dd_L_law_569 dd_L_law_571 dd_L_law_572 dd_L_law_573 ?_
  refine lx (k := 3) 3 hx hb hX hbl hS hL hi (lv_at hl 4 rfl) (lv_at hl 0 rfl) (by decide) (by decide) dd_L_law_574 dd_L_law_575 dd_L_law_577 dd_L_law_578 dd_L_law_579 ?_
  have hP := ap3 hP
  have hD := ad3 hD
  refine lz_Vi (n := 3) (As := [.int (xs (7 * i + 1)), .int (xs (7 * i + 2)), .int (xs (7 * i + 3))]) (w' := wM kc am r1_.2.1 r1_.2.2) hx hb hml hown hk (met_pre (B2 := fun U => BW D kc _ _ U ∧ True) (mm_M_bet l D kc am I' J' _ n1_ (xs (7 * i + 1)) (xs (7 * i + 2)) (xs (7 * i + 3)) r1_ h1_) (fun U h => h.1)) (fun _ _ _ => trivial) (fun _ _ _ _ _ => trivial) hK hP hD hS (fun _ h => h) 0 am_0 rfl rfl kw_769 kw_770 kw_771 kw_4 kw_772 ⟨rfl, rfl⟩ (by decide +kernel) ⟨Nat.le_of_ble_eq_true rfl, Nat.le_of_ble_eq_true rfl⟩ rfl hl.1 rfl (Nat.le_of_ble_eq_true rfl) dd_L_law_580 ⟨by show _ ≤ 601024; omega, by show _ ≤ 7293034; omega⟩ (fun H locs hP hD hS _ _ => ?_)
  have hP := ap4 hP
  have hD := ad4 hD
  refine lv_pop hx hb dd_L_law_583 rfl ?_
  refine lv_goto (tgt := 764) hx hb dd_L_law_584 (by decide) ?_
  refine W.widen (k := cells + 16) (n := slots + 16) (by omega) (by omega) ?_
  exact kk _ _ _ hP hD hS (lv_sub hl [0, 1, 2, 3, 4] rfl)
set_option maxHeartbeats 4000000 in
set_option maxRecDepth 100000 in
theorem lc_13 (l : Launch) {p : Program} {e : Env} {s : State} {m : MethodId} {args : Array Value} {below : List Frame} {meth : Method} {c : Code} {H : Heap} {locs : List Loc} {cells slots : Nat} {Q : State → Prop} {ls : Array Slot} {b L i o : Nat} {xs : Nat → Int32} {D : va_G} {kc : Nat → ClassId} {ad am : Nat → Nat} {I : MI} {J : MJ} {I' : MI} {J' : MJ} {f : Nat → Int64} {tw q1 q2 q3 : Nat} (hx : p.tables.exec = Jvm.exec) (hb : c.code = code) (hml : c.maxLocals = 8) (hown : s.vm.findClass "OpenDealLaw" = some m.cls) (hk : ∀ w ∈ kw, w.before args s = true) (hX : va_X b L xs s s.heap) (hbl : b < s.heap.size) (hL : L ≤ 3584) (hi : 7 * i + 7 ≤ L) (hT : LBt tw q1 q2 q3 s) (hK : va_K D cls5 (tys5 kc) s) (hP : va_P D cls5 (LW kc ad am o I J I' J' f) H) (hD : va_D (LA s) (LW kc ad am o I J I' J' f)) (hS : va_S (LA s) s.heap H locs) (hcs : cells + 16 ≤ 601024 ∧ slots + 16 ≤ 7293034) (hl : lv_has ls 8 [(4, .int (Int32.ofNat (7 * i))), (3, .ref o), (2, .ref (am 0)), (1, .ref (ad 0)), (0, .ref b)])
    (n0_ : Nat) (r0_ : Int32 × MI × MJ) (h0_ : ff_O_settle n0_ I J (xs (7 * i + 1)) = some r0_) (n1_ : Nat) (r1_ : Int32 × MI × MJ) (h1_ : ff_M_settle n1_ I' J' (xs (7 * i + 1)) = some r1_) 
    (kk : ∀ (H1 : Heap) (locs1 : List Loc) (ls1 : Array Slot), va_P D cls5 (LW kc ad am o r0_.2.1 r0_.2.2 r1_.2.1 r1_.2.2 f) H1 → va_D (LA s) (LW kc ad am o r0_.2.1 r0_.2.2 r1_.2.1 r1_.2.2 f) → va_S (LA s) s.heap H1 locs1 → lv_has ls1 8 [(4, .int (Int32.ofNat (7 * i))), (3, .ref o), (2, .ref (am 0)), (1, .ref (ad 0)), (0, .ref b)] → W p l e room_1 s m args below meth c H1 locs1 (cells + 16) (slots + 16) Q (F0 m 764 ls1 [])) : W p l e room_1 s m args below meth c H locs cells slots Q (F0 m 587 ls []) := by
  refine lv_aload_n hx hb dd_L_law_587 rfl (lv_at hl 3 rfl) ?_
  refine lx (k := 1) 1 hx hb hX hbl hS hL hi (lv_at hl 4 rfl) (lv_at hl 0 rfl) (by decide) (by decide) dd_L_law_588 dd_L_law_589 dd_L_law_591 dd_L_law_592 dd_L_law_593 ?_
  refine lz_Vi (n := 1) (As := [.int (xs (7 * i + 1))]) (w' := wC kc ad r0_.2.1 r0_.2.2) hx hb hml hown hk (met_pre (B2 := fun U => BW D kc _ _ U ∧ True) (mm_O_settle l D kc ad I J _ n0_ (xs (7 * i + 1)) r0_ h0_) (fun U h => h.1)) (fun _ _ _ => trivial) (fun _ _ _ _ _ => trivial) hK hP hD hS (fun _ h => h) 0 at_O rfl rfl kw_351 kw_352 kw_353 kw_1 kw_354 ⟨rfl, rfl⟩ (by decide +kernel) ⟨Nat.le_of_ble_eq_true rfl, Nat.le_of_ble_eq_true rfl⟩ rfl hl.1 rfl (Nat.le_of_ble_eq_true rfl) dd_L_law_594 ⟨by show _ ≤ 601024; omega, by show _ ≤ 7293034; omega⟩ (fun H locs hP hD hS _ _ => ?_)
  refine lv_pop hx hb dd_L_law_597 rfl ?_
  refine lv_aload_n hx hb dd_L_law_598 rfl (lv_at hl 2 rfl) ?_
  refine lx (k := 1) 1 hx hb hX hbl hS hL hi (lv_at hl 4 rfl) (lv_at hl 0 rfl) (by decide) (by decide) dd_L_law_599 dd_L_law_600 dd_L_law_602 dd_L_law_603 dd_L_law_604 ?_
  have hP := ap3 hP
  have hD := ad3 hD
  refine lz_Vi (n := 1) (As := [.int (xs (7 * i + 1))]) (w' := wM kc am r1_.2.1 r1_.2.2) hx hb hml hown hk (met_pre (B2 := fun U => BW D kc _ _ U ∧ True) (mm_M_settle l D kc am I' J' _ n1_ (xs (7 * i + 1)) r1_ h1_) (fun U h => h.1)) (fun _ _ _ => trivial) (fun _ _ _ _ _ => trivial) hK hP hD hS (fun _ h => h) 0 am_0 rfl rfl kw_781 kw_782 kw_783 kw_4 kw_784 ⟨rfl, rfl⟩ (by decide +kernel) ⟨Nat.le_of_ble_eq_true rfl, Nat.le_of_ble_eq_true rfl⟩ rfl hl.1 rfl (Nat.le_of_ble_eq_true rfl) dd_L_law_605 ⟨by show _ ≤ 601024; omega, by show _ ≤ 7293034; omega⟩ (fun H locs hP hD hS _ _ => ?_)
  have hP := ap4 hP
  have hD := ad4 hD
  refine lv_pop hx hb dd_L_law_608 rfl ?_
  refine lv_goto (tgt := 764) hx hb dd_L_law_609 (by decide) ?_
  refine W.widen (k := cells + 16) (n := slots + 16) (by omega) (by omega) ?_
  exact kk _ _ _ hP hD hS (lv_sub hl [0, 1, 2, 3, 4] rfl)
set_option maxHeartbeats 4000000 in
set_option maxRecDepth 100000 in
theorem lc_14 (l : Launch) {p : Program} {e : Env} {s : State} {m : MethodId} {args : Array Value} {below : List Frame} {meth : Method} {c : Code} {H : Heap} {locs : List Loc} {cells slots : Nat} {Q : State → Prop} {ls : Array Slot} {b L i o : Nat} {xs : Nat → Int32} {D : va_G} {kc : Nat → ClassId} {ad am : Nat → Nat} {I : MI} {J : MJ} {I' : MI} {J' : MJ} {f : Nat → Int64} {tw q1 q2 q3 : Nat} (hx : p.tables.exec = Jvm.exec) (hb : c.code = code) (hml : c.maxLocals = 8) (hown : s.vm.findClass "OpenDealLaw" = some m.cls) (hk : ∀ w ∈ kw, w.before args s = true) (hX : va_X b L xs s s.heap) (hbl : b < s.heap.size) (hL : L ≤ 3584) (hi : 7 * i + 7 ≤ L) (hT : LBt tw q1 q2 q3 s) (hK : va_K D cls5 (tys5 kc) s) (hP : va_P D cls5 (LW kc ad am o I J I' J' f) H) (hD : va_D (LA s) (LW kc ad am o I J I' J' f)) (hS : va_S (LA s) s.heap H locs) (hcs : cells + 16 ≤ 601024 ∧ slots + 16 ≤ 7293034) (hl : lv_has ls 8 [(4, .int (Int32.ofNat (7 * i))), (3, .ref o), (2, .ref (am 0)), (1, .ref (ad 0)), (0, .ref b)])
    (n0_ : Nat) (r0_ : Int32 × MI × MJ) (h0_ : ff_O_show n0_ I J (xs (7 * i + 1)) = some r0_) (n1_ : Nat) (r1_ : Int32 × MI × MJ) (h1_ : ff_M_show n1_ I' J' (xs (7 * i + 1)) = some r1_) 
    (kk : ∀ (H1 : Heap) (locs1 : List Loc) (ls1 : Array Slot), va_P D cls5 (LW kc ad am o r0_.2.1 r0_.2.2 r1_.2.1 r1_.2.2 f) H1 → va_D (LA s) (LW kc ad am o r0_.2.1 r0_.2.2 r1_.2.1 r1_.2.2 f) → va_S (LA s) s.heap H1 locs1 → lv_has ls1 8 [(4, .int (Int32.ofNat (7 * i))), (3, .ref o), (2, .ref (am 0)), (1, .ref (ad 0)), (0, .ref b)] → W p l e room_1 s m args below meth c H1 locs1 (cells + 16) (slots + 16) Q (F0 m 764 ls1 [])) : W p l e room_1 s m args below meth c H locs cells slots Q (F0 m 612 ls []) := by
  refine lv_aload_n hx hb dd_L_law_612 rfl (lv_at hl 3 rfl) ?_
  refine lx (k := 1) 1 hx hb hX hbl hS hL hi (lv_at hl 4 rfl) (lv_at hl 0 rfl) (by decide) (by decide) dd_L_law_613 dd_L_law_614 dd_L_law_616 dd_L_law_617 dd_L_law_618 ?_
  refine lz_Vi (n := 1) (As := [.int (xs (7 * i + 1))]) (w' := wC kc ad r0_.2.1 r0_.2.2) hx hb hml hown hk (met_pre (B2 := fun U => BW D kc _ _ U ∧ True) (mm_O_show l D kc ad I J _ n0_ (xs (7 * i + 1)) r0_ h0_) (fun U h => h.1)) (fun _ _ _ => trivial) (fun _ _ _ _ _ => trivial) hK hP hD hS (fun _ h => h) 0 at_O rfl rfl kw_378 kw_379 kw_380 kw_1 kw_381 ⟨rfl, rfl⟩ (by decide +kernel) ⟨Nat.le_of_ble_eq_true rfl, Nat.le_of_ble_eq_true rfl⟩ rfl hl.1 rfl (Nat.le_of_ble_eq_true rfl) dd_L_law_619 ⟨by show _ ≤ 601024; omega, by show _ ≤ 7293034; omega⟩ (fun H locs hP hD hS _ _ => ?_)
  refine lv_pop hx hb dd_L_law_622 rfl ?_
  refine lv_aload_n hx hb dd_L_law_623 rfl (lv_at hl 2 rfl) ?_
  refine lx (k := 1) 1 hx hb hX hbl hS hL hi (lv_at hl 4 rfl) (lv_at hl 0 rfl) (by decide) (by decide) dd_L_law_624 dd_L_law_625 dd_L_law_627 dd_L_law_628 dd_L_law_629 ?_
  have hP := ap3 hP
  have hD := ad3 hD
  refine lz_Vi (n := 1) (As := [.int (xs (7 * i + 1))]) (w' := wM kc am r1_.2.1 r1_.2.2) hx hb hml hown hk (met_pre (B2 := fun U => BW D kc _ _ U ∧ True) (mm_M_show l D kc am I' J' _ n1_ (xs (7 * i + 1)) r1_ h1_) (fun U h => h.1)) (fun _ _ _ => trivial) (fun _ _ _ _ _ => trivial) hK hP hD hS (fun _ h => h) 0 am_0 rfl rfl kw_789 kw_790 kw_791 kw_4 kw_792 ⟨rfl, rfl⟩ (by decide +kernel) ⟨Nat.le_of_ble_eq_true rfl, Nat.le_of_ble_eq_true rfl⟩ rfl hl.1 rfl (Nat.le_of_ble_eq_true rfl) dd_L_law_630 ⟨by show _ ≤ 601024; omega, by show _ ≤ 7293034; omega⟩ (fun H locs hP hD hS _ _ => ?_)
  have hP := ap4 hP
  have hD := ad4 hD
  refine lv_pop hx hb dd_L_law_633 rfl ?_
  refine lv_goto (tgt := 764) hx hb dd_L_law_634 (by decide) ?_
  refine W.widen (k := cells + 16) (n := slots + 16) (by omega) (by omega) ?_
  exact kk _ _ _ hP hD hS (lv_sub hl [0, 1, 2, 3, 4] rfl)
set_option maxHeartbeats 4000000 in
set_option maxRecDepth 100000 in
theorem lc_15r (l : Launch) {p : Program} {e : Env} {s : State} {m : MethodId} {args : Array Value} {below : List Frame} {meth : Method} {c : Code} {H : Heap} {locs : List Loc} {cells slots : Nat} {Q : State → Prop} {ls : Array Slot} {b L i o : Nat} {xs : Nat → Int32} {D : va_G} {kc : Nat → ClassId} {ad am : Nat → Nat} {I : MI} {J : MJ} {I' : MI} {J' : MJ} {f : Nat → Int64} {tw q1 q2 q3 : Nat} (hx : p.tables.exec = Jvm.exec) (hb : c.code = code) (hml : c.maxLocals = 8) (hown : s.vm.findClass "OpenDealLaw" = some m.cls) (hk : ∀ w ∈ kw, w.before args s = true) (hX : va_X b L xs s s.heap) (hbl : b < s.heap.size) (hL : L ≤ 3584) (hi : 7 * i + 7 ≤ L) (hT : LBt tw q1 q2 q3 s) (hK : va_K D cls5 (tys5 kc) s) (hP : va_P D cls5 (LW kc ad am o I J I' J' f) H) (hD : va_D (LA s) (LW kc ad am o I J I' J' f)) (hS : va_S (LA s) s.heap H locs) (hcs : cells + 16 ≤ 601024 ∧ slots + 16 ≤ 7293034) (hl : lv_has ls 8 [(4, .int (Int32.ofNat (7 * i))), (3, .ref o), (2, .ref (am 0)), (1, .ref (ad 0)), (0, .ref b)])
    (n0 : Nat) (v : Int32) (h0 : ff_O_audit n0 I J  = some (some v)) (n0_ : Nat) (r0_ : Int32 × MI × MJ) (h0_ : ff_M_audit n0_ I' J'  = some r0_) 
    (kk : ∀ (H1 : Heap) (locs1 : List Loc) (ls1 : Array Slot), va_P D cls5 (LW kc ad am o I J r0_.2.1 r0_.2.2 (vp_updL f 0 v.toInt64)) H1 → va_D (LA s) (LW kc ad am o I J r0_.2.1 r0_.2.2 (vp_updL f 0 v.toInt64)) → va_S (LA s) s.heap H1 locs1 → lv_has ls1 8 [(4, .int (Int32.ofNat (7 * i))), (3, .ref o), (2, .ref (am 0)), (1, .ref (ad 0)), (0, .ref b)] → W p l e room_1 s m args below meth c H1 locs1 (cells + 16) (slots + 16) Q (F0 m 764 ls1 [])) : W p l e room_1 s m args below meth c H locs cells slots Q (F0 m 637 ls []) := by
  refine lv_aload_n hx hb dd_L_law_637 rfl (lv_at hl 3 rfl) ?_
  refine lv_aload_n hx hb dd_L_law_638 rfl (lv_at hl 1 rfl) ?_
  have hP := (ap3 hP).turn
  have hD := (ad3 hD).turn
  refine lz_SW (n := 2) (As := [.ref (ad 0), .ref o]) (w' := wC kc ad I J ++ outc kc o (vp_updL f 0 v.toInt64)) hx hb hml hown hk (met_pre (B2 := fun U => BW D kc _ _ U ∧ True) (hr_audit l D kc ad I J o f _ n0  v h0) (fun U h => h.1)) (fun _ _ _ => trivial) (fun _ _ _ _ _ => trivial) hK hP hD hS (fun _ h => h) kw_507 kw_508 kw_0 kw_509 ⟨rfl, rfl⟩ (by decide +kernel) ⟨Nat.le_of_ble_eq_true rfl, Nat.le_of_ble_eq_true rfl⟩ rfl hl.1 rfl (Nat.le_of_ble_eq_true rfl) dd_L_law_639 ⟨by show _ ≤ 601024; omega, by show _ ≤ 7293034; omega⟩ (fun H locs hP hD hS _ _ => ?_)
  have hP := ap4 hP.turn
  have hD := ad4 hD.turn
  refine lv_istore (lv' := [(5, .int 0), (4, .int (Int32.ofNat (7 * i))), (3, .ref o), (2, .ref (am 0)), (1, .ref (ad 0)), (0, .ref b)]) hx hb dd_L_law_642 hl (by decide) rfl (fun ls hl => ?_)
  refine lv_aload_n hx hb dd_L_law_644 rfl (lv_at hl 3 rfl) ?_
  have hP := ap3 hP
  have hD := ad3 hD
  refine lz_Vi (n := 0) (As := []) (w' := wM kc am r0_.2.1 r0_.2.2) hx hb hml hown hk (met_pre (B2 := fun U => BW D kc _ _ U ∧ True) (mm_M_audit l D kc am I' J' _ n0_  r0_ h0_) (fun U h => h.1)) (fun _ _ _ => trivial) (fun _ _ _ _ _ => trivial) hK hP hD hS (fun _ h => h) 0 am_0 rfl rfl kw_793 kw_794 kw_795 kw_4 kw_796 ⟨rfl, rfl⟩ (by decide +kernel) ⟨Nat.le_of_ble_eq_true rfl, Nat.le_of_ble_eq_true rfl⟩ rfl hl.1 rfl (Nat.le_of_ble_eq_true rfl) dd_L_law_645 ⟨by show _ ≤ 601024; omega, by show _ ≤ 7293034; omega⟩ (fun H locs hP hD hS _ _ => ?_)
  have hP := ap4 hP
  have hD := ad4 hD
  refine lv_istore (lv' := [(6, .int r0_.1), (5, .int 0), (4, .int (Int32.ofNat (7 * i))), (3, .ref o), (2, .ref (am 0)), (1, .ref (ad 0)), (0, .ref b)]) hx hb dd_L_law_648 hl (by decide) rfl (fun ls hl => ?_)
  refine lv_goto (tgt := 764) hx hb dd_L_law_650 (by decide) ?_
  refine W.widen (k := cells + 16) (n := slots + 16) (by omega) (by omega) ?_
  exact kk _ _ _ hP hD hS (lv_sub hl [2, 3, 4, 5, 6] rfl)
set_option maxHeartbeats 4000000 in
set_option maxRecDepth 100000 in
theorem lc_15t (l : Launch) {p : Program} {e : Env} {s : State} {m : MethodId} {args : Array Value} {below : List Frame} {meth : Method} {c : Code} {H : Heap} {locs : List Loc} {cells slots : Nat} {Q : State → Prop} {ls : Array Slot} {b L i o : Nat} {xs : Nat → Int32} {D : va_G} {kc : Nat → ClassId} {ad am : Nat → Nat} {I : MI} {J : MJ} {I' : MI} {J' : MJ} {f : Nat → Int64} {tw q1 q2 q3 : Nat} (hx : p.tables.exec = Jvm.exec) (hb : c.code = code) (hml : c.maxLocals = 8) (hown : s.vm.findClass "OpenDealLaw" = some m.cls) (hk : ∀ w ∈ kw, w.before args s = true) (hX : va_X b L xs s s.heap) (hbl : b < s.heap.size) (hL : L ≤ 3584) (hi : 7 * i + 7 ≤ L) (hT : LBt tw q1 q2 q3 s) (hK : va_K D cls5 (tys5 kc) s) (hP : va_P D cls5 (LW kc ad am o I J I' J' f) H) (hD : va_D (LA s) (LW kc ad am o I J I' J' f)) (hS : va_S (LA s) s.heap H locs) (hcs : cells + 16 ≤ 601024 ∧ slots + 16 ≤ 7293034) (hl : lv_has ls 8 [(4, .int (Int32.ofNat (7 * i))), (3, .ref o), (2, .ref (am 0)), (1, .ref (ad 0)), (0, .ref b)])
    (hfl : l.flags = pinnedFlags ++ [noTraceFlag]) (n0 : Nat) (h0 : ff_O_audit n0 I J  = some none) (n0_ : Nat) (r0_ : Int32 × MI × MJ) (h0_ : ff_M_audit n0_ I' J'  = some r0_) 
    (kk : ∀ (H1 : Heap) (locs1 : List Loc) (ls1 : Array Slot), va_P D cls5 (LW kc ad am o I J r0_.2.1 r0_.2.2 f) H1 → va_D (LA s) (LW kc ad am o I J r0_.2.1 r0_.2.2 f) → va_S (LA s) s.heap H1 locs1 → lv_has ls1 8 [(4, .int (Int32.ofNat (7 * i))), (3, .ref o), (2, .ref (am 0)), (1, .ref (ad 0)), (0, .ref b)] → W p l e room_1 s m args below meth c H1 locs1 (cells + 16) (slots + 16) Q (F0 m 764 ls1 [])) : W p l e room_1 s m args below meth c H locs cells slots Q (F0 m 637 ls []) := by
  refine lv_aload_n hx hb dd_L_law_637 rfl (lv_at hl 3 rfl) ?_
  refine lv_aload_n hx hb dd_L_law_638 rfl (lv_at hl 1 rfl) ?_
  have hP := (ap3 hP).turn
  have hD := (ad3 hD).turn
  refine lz_SW (n := 2) (As := [.ref (ad 0), .ref o]) (w' := wC kc ad I J ++ outc kc o f) hx hb hml hown hk (ht_audit l D kc ad I J o f _ n0  q3 hfl h0) (fun U hU hW => ⟨la_tw hT.2.2.1 hS hU hW, vk_R.warm hW hT.2.2.2.2.2⟩) (fun U g mk a h => ⟨tw_bl h.1, vk_R.same rfl h.2⟩) hK hP hD hS (fun _ h => h) kw_507 kw_508 kw_0 kw_509 ⟨rfl, rfl⟩ (by decide +kernel) ⟨Nat.le_of_ble_eq_true rfl, Nat.le_of_ble_eq_true rfl⟩ rfl hl.1 rfl (Nat.le_of_ble_eq_true rfl) dd_L_law_639 ⟨by show _ ≤ 601024; omega, by show _ ≤ 7293034; omega⟩ (fun H locs hP hD hS _ _ => ?_)
  have hP := ap4 hP.turn
  have hD := ad4 hD.turn
  refine lv_istore (lv' := [(5, .int 1), (4, .int (Int32.ofNat (7 * i))), (3, .ref o), (2, .ref (am 0)), (1, .ref (ad 0)), (0, .ref b)]) hx hb dd_L_law_642 hl (by decide) rfl (fun ls hl => ?_)
  refine lv_aload_n hx hb dd_L_law_644 rfl (lv_at hl 3 rfl) ?_
  have hP := ap3 hP
  have hD := ad3 hD
  refine lz_Vi (n := 0) (As := []) (w' := wM kc am r0_.2.1 r0_.2.2) hx hb hml hown hk (met_pre (B2 := fun U => BW D kc _ _ U ∧ True) (mm_M_audit l D kc am I' J' _ n0_  r0_ h0_) (fun U h => h.1)) (fun _ _ _ => trivial) (fun _ _ _ _ _ => trivial) hK hP hD hS (fun _ h => h) 0 am_0 rfl rfl kw_793 kw_794 kw_795 kw_4 kw_796 ⟨rfl, rfl⟩ (by decide +kernel) ⟨Nat.le_of_ble_eq_true rfl, Nat.le_of_ble_eq_true rfl⟩ rfl hl.1 rfl (Nat.le_of_ble_eq_true rfl) dd_L_law_645 ⟨by show _ ≤ 601024; omega, by show _ ≤ 7293034; omega⟩ (fun H locs hP hD hS _ _ => ?_)
  have hP := ap4 hP
  have hD := ad4 hD
  refine lv_istore (lv' := [(6, .int r0_.1), (5, .int 1), (4, .int (Int32.ofNat (7 * i))), (3, .ref o), (2, .ref (am 0)), (1, .ref (ad 0)), (0, .ref b)]) hx hb dd_L_law_648 hl (by decide) rfl (fun ls hl => ?_)
  refine lv_goto (tgt := 764) hx hb dd_L_law_650 (by decide) ?_
  refine W.widen (k := cells + 16) (n := slots + 16) (by omega) (by omega) ?_
  exact kk _ _ _ hP hD hS (lv_sub hl [2, 3, 4, 5, 6] rfl)
set_option maxHeartbeats 4000000 in
set_option maxRecDepth 100000 in
theorem lc_16 (l : Launch) {p : Program} {e : Env} {s : State} {m : MethodId} {args : Array Value} {below : List Frame} {meth : Method} {c : Code} {H : Heap} {locs : List Loc} {cells slots : Nat} {Q : State → Prop} {ls : Array Slot} {b L i o : Nat} {xs : Nat → Int32} {D : va_G} {kc : Nat → ClassId} {ad am : Nat → Nat} {I : MI} {J : MJ} {I' : MI} {J' : MJ} {f : Nat → Int64} {tw q1 q2 q3 : Nat} (hx : p.tables.exec = Jvm.exec) (hb : c.code = code) (hml : c.maxLocals = 8) (hown : s.vm.findClass "OpenDealLaw" = some m.cls) (hk : ∀ w ∈ kw, w.before args s = true) (hX : va_X b L xs s s.heap) (hbl : b < s.heap.size) (hL : L ≤ 3584) (hi : 7 * i + 7 ≤ L) (hT : LBt tw q1 q2 q3 s) (hK : va_K D cls5 (tys5 kc) s) (hP : va_P D cls5 (LW kc ad am o I J I' J' f) H) (hD : va_D (LA s) (LW kc ad am o I J I' J' f)) (hS : va_S (LA s) s.heap H locs) (hcs : cells + 16 ≤ 601024 ∧ slots + 16 ≤ 7293034) (hl : lv_has ls 8 [(4, .int (Int32.ofNat (7 * i))), (3, .ref o), (2, .ref (am 0)), (1, .ref (ad 0)), (0, .ref b)])
    (n0_ : Nat) (r0_ : Int32 × MI × MJ) (h0_ : ff_O_cheat n0_ I J (xs (7 * i + 1)) (xs (7 * i + 2)) (xs (7 * i + 3)) = some r0_) (n1_ : Nat) (r1_ : Int32 × MI × MJ) (h1_ : ff_M_cheat n1_ I' J' (xs (7 * i + 1)) (xs (7 * i + 2)) (xs (7 * i + 3)) = some r1_) 
    (kk : ∀ (H1 : Heap) (locs1 : List Loc) (ls1 : Array Slot), va_P D cls5 (LW kc ad am o r0_.2.1 r0_.2.2 r1_.2.1 r1_.2.2 f) H1 → va_D (LA s) (LW kc ad am o r0_.2.1 r0_.2.2 r1_.2.1 r1_.2.2 f) → va_S (LA s) s.heap H1 locs1 → lv_has ls1 8 [(4, .int (Int32.ofNat (7 * i))), (3, .ref o), (2, .ref (am 0)), (1, .ref (ad 0)), (0, .ref b)] → W p l e room_1 s m args below meth c H1 locs1 (cells + 16) (slots + 16) Q (F0 m 764 ls1 [])) : W p l e room_1 s m args below meth c H locs cells slots Q (F0 m 653 ls []) := by
  refine lv_aload_n hx hb dd_L_law_653 rfl (lv_at hl 3 rfl) ?_
  refine lx (k := 1) 1 hx hb hX hbl hS hL hi (lv_at hl 4 rfl) (lv_at hl 0 rfl) (by decide) (by decide) dd_L_law_654 dd_L_law_655 dd_L_law_657 dd_L_law_658 dd_L_law_659 ?_
  refine lx (k := 2) 2 hx hb hX hbl hS hL hi (lv_at hl 4 rfl) (lv_at hl 0 rfl) (by decide) (by decide) dd_L_law_660 dd_L_law_661 dd_L_law_663 dd_L_law_664 dd_L_law_665 ?_
  refine lx (k := 3) 3 hx hb hX hbl hS hL hi (lv_at hl 4 rfl) (lv_at hl 0 rfl) (by decide) (by decide) dd_L_law_666 dd_L_law_667 dd_L_law_669 dd_L_law_670 dd_L_law_671 ?_
  refine lz_Vi (n := 3) (As := [.int (xs (7 * i + 1)), .int (xs (7 * i + 2)), .int (xs (7 * i + 3))]) (w' := wC kc ad r0_.2.1 r0_.2.2) hx hb hml hown hk (met_pre (B2 := fun U => BW D kc _ _ U ∧ True) (mm_O_cheat l D kc ad I J _ n0_ (xs (7 * i + 1)) (xs (7 * i + 2)) (xs (7 * i + 3)) r0_ h0_) (fun U h => h.1)) (fun _ _ _ => trivial) (fun _ _ _ _ _ => trivial) hK hP hD hS (fun _ h => h) 0 at_O rfl rfl kw_404 kw_405 kw_406 kw_1 kw_407 ⟨rfl, rfl⟩ (by decide +kernel) ⟨Nat.le_of_ble_eq_true rfl, Nat.le_of_ble_eq_true rfl⟩ rfl hl.1 rfl (Nat.le_of_ble_eq_true rfl) dd_L_law_672 ⟨by show _ ≤ 601024; omega, by show _ ≤ 7293034; omega⟩ (fun H locs hP hD hS _ _ => ?_)
  refine lv_pop hx hb dd_L_law_675 rfl ?_
  refine lv_aload_n hx hb dd_L_law_676 rfl (lv_at hl 2 rfl) ?_
  refine lx (k := 1) 1 hx hb hX hbl hS hL hi (lv_at hl 4 rfl) (lv_at hl 0 rfl) (by decide) (by decide) dd_L_law_677 dd_L_law_678 dd_L_law_680 dd_L_law_681 dd_L_law_682 ?_
  refine lx (k := 2) 2 hx hb hX hbl hS hL hi (lv_at hl 4 rfl) (lv_at hl 0 rfl) (by decide) (by decide) dd_L_law_683 dd_L_law_684 dd_L_law_686 dd_L_law_687 dd_L_law_688 ?_
  refine lx (k := 3) 3 hx hb hX hbl hS hL hi (lv_at hl 4 rfl) (lv_at hl 0 rfl) (by decide) (by decide) dd_L_law_689 dd_L_law_690 dd_L_law_692 dd_L_law_693 dd_L_law_694 ?_
  have hP := ap3 hP
  have hD := ad3 hD
  refine lz_Vi (n := 3) (As := [.int (xs (7 * i + 1)), .int (xs (7 * i + 2)), .int (xs (7 * i + 3))]) (w' := wM kc am r1_.2.1 r1_.2.2) hx hb hml hown hk (met_pre (B2 := fun U => BW D kc _ _ U ∧ True) (mm_M_cheat l D kc am I' J' _ n1_ (xs (7 * i + 1)) (xs (7 * i + 2)) (xs (7 * i + 3)) r1_ h1_) (fun U h => h.1)) (fun _ _ _ => trivial) (fun _ _ _ _ _ => trivial) hK hP hD hS (fun _ h => h) 0 am_0 rfl rfl kw_805 kw_806 kw_807 kw_4 kw_808 ⟨rfl, rfl⟩ (by decide +kernel) ⟨Nat.le_of_ble_eq_true rfl, Nat.le_of_ble_eq_true rfl⟩ rfl hl.1 rfl (Nat.le_of_ble_eq_true rfl) dd_L_law_695 ⟨by show _ ≤ 601024; omega, by show _ ≤ 7293034; omega⟩ (fun H locs hP hD hS _ _ => ?_)
  have hP := ap4 hP
  have hD := ad4 hD
  refine lv_pop hx hb dd_L_law_698 rfl ?_
  refine lv_goto (tgt := 764) hx hb dd_L_law_699 (by decide) ?_
  refine W.widen (k := cells + 16) (n := slots + 16) (by omega) (by omega) ?_
  exact kk _ _ _ hP hD hS (lv_sub hl [0, 1, 2, 3, 4] rfl)
set_option maxHeartbeats 4000000 in
set_option maxRecDepth 100000 in
theorem lc_17 (l : Launch) {p : Program} {e : Env} {s : State} {m : MethodId} {args : Array Value} {below : List Frame} {meth : Method} {c : Code} {H : Heap} {locs : List Loc} {cells slots : Nat} {Q : State → Prop} {ls : Array Slot} {b L i o : Nat} {xs : Nat → Int32} {D : va_G} {kc : Nat → ClassId} {ad am : Nat → Nat} {I : MI} {J : MJ} {I' : MI} {J' : MJ} {f : Nat → Int64} {tw q1 q2 q3 : Nat} (hx : p.tables.exec = Jvm.exec) (hb : c.code = code) (hml : c.maxLocals = 8) (hown : s.vm.findClass "OpenDealLaw" = some m.cls) (hk : ∀ w ∈ kw, w.before args s = true) (hX : va_X b L xs s s.heap) (hbl : b < s.heap.size) (hL : L ≤ 3584) (hi : 7 * i + 7 ≤ L) (hT : LBt tw q1 q2 q3 s) (hK : va_K D cls5 (tys5 kc) s) (hP : va_P D cls5 (LW kc ad am o I J I' J' f) H) (hD : va_D (LA s) (LW kc ad am o I J I' J' f)) (hS : va_S (LA s) s.heap H locs) (hcs : cells + 16 ≤ 601024 ∧ slots + 16 ≤ 7293034) (hl : lv_has ls 8 [(4, .int (Int32.ofNat (7 * i))), (3, .ref o), (2, .ref (am 0)), (1, .ref (ad 0)), (0, .ref b)])
    (n0_ : Nat) (r0_ : Int32) (h0_ : ff_O_state n0_ I J (xs (7 * i + 1)) = some r0_) (n1_ : Nat) (r1_ : Int32 × MI × MJ) (h1_ : ff_M_state n1_ I' J' (xs (7 * i + 1)) = some r1_) 
    (kk : ∀ (H1 : Heap) (locs1 : List Loc) (ls1 : Array Slot), va_P D cls5 (LW kc ad am o I J r1_.2.1 r1_.2.2 f) H1 → va_D (LA s) (LW kc ad am o I J r1_.2.1 r1_.2.2 f) → va_S (LA s) s.heap H1 locs1 → lv_has ls1 8 [(4, .int (Int32.ofNat (7 * i))), (3, .ref o), (2, .ref (am 0)), (1, .ref (ad 0)), (0, .ref b)] → W p l e room_1 s m args below meth c H1 locs1 (cells + 16) (slots + 16) Q (F0 m 764 ls1 [])) : W p l e room_1 s m args below meth c H locs cells slots Q (F0 m 702 ls []) := by
  refine lv_aload_n hx hb dd_L_law_702 rfl (lv_at hl 3 rfl) ?_
  refine lx (k := 1) 1 hx hb hX hbl hS hL hi (lv_at hl 4 rfl) (lv_at hl 0 rfl) (by decide) (by decide) dd_L_law_703 dd_L_law_704 dd_L_law_706 dd_L_law_707 dd_L_law_708 ?_
  refine cr_Vi (n := 1) (As := [.int (xs (7 * i + 1))]) (w := wC kc ad I J) hx hb hml hown hk (mm_O_state l D kc ad I J n0_ (xs (7 * i + 1)) r0_ h0_) hK hP.right 0 at_O rfl rfl kw_408 kw_409 kw_410 kw_1 kw_411 ⟨rfl, rfl⟩ (by decide +kernel) ⟨Nat.le_of_ble_eq_true rfl, Nat.le_of_ble_eq_true rfl⟩ rfl hl.1 rfl (Nat.le_of_ble_eq_true rfl) dd_L_law_709 ⟨by show _ ≤ 601024; omega, by show _ ≤ 7293034; omega⟩ ?_
  refine lv_pop hx hb dd_L_law_712 rfl ?_
  refine lv_aload_n hx hb dd_L_law_713 rfl (lv_at hl 2 rfl) ?_
  refine lx (k := 1) 1 hx hb hX hbl hS hL hi (lv_at hl 4 rfl) (lv_at hl 0 rfl) (by decide) (by decide) dd_L_law_714 dd_L_law_715 dd_L_law_717 dd_L_law_718 dd_L_law_719 ?_
  have hP := ap3 hP
  have hD := ad3 hD
  refine lz_Vi (n := 1) (As := [.int (xs (7 * i + 1))]) (w' := wM kc am r1_.2.1 r1_.2.2) hx hb hml hown hk (met_pre (B2 := fun U => BW D kc _ _ U ∧ True) (mm_M_state l D kc am I' J' _ n1_ (xs (7 * i + 1)) r1_ h1_) (fun U h => h.1)) (fun _ _ _ => trivial) (fun _ _ _ _ _ => trivial) hK hP hD hS (fun _ h => h) 0 am_0 rfl rfl kw_809 kw_810 kw_811 kw_4 kw_812 ⟨rfl, rfl⟩ (by decide +kernel) ⟨Nat.le_of_ble_eq_true rfl, Nat.le_of_ble_eq_true rfl⟩ rfl hl.1 rfl (Nat.le_of_ble_eq_true rfl) dd_L_law_720 ⟨by show _ ≤ 601024; omega, by show _ ≤ 7293034; omega⟩ (fun H locs hP hD hS _ _ => ?_)
  have hP := ap4 hP
  have hD := ad4 hD
  refine lv_pop hx hb dd_L_law_723 rfl ?_
  refine lv_goto (tgt := 764) hx hb dd_L_law_724 (by decide) ?_
  refine W.widen (k := cells + 16) (n := slots + 16) (by omega) (by omega) ?_
  exact kk _ _ _ hP hD hS (lv_sub hl [0, 1, 2, 3, 4] rfl)
set_option maxHeartbeats 4000000 in
set_option maxRecDepth 100000 in
theorem lc_18 (l : Launch) {p : Program} {e : Env} {s : State} {m : MethodId} {args : Array Value} {below : List Frame} {meth : Method} {c : Code} {H : Heap} {locs : List Loc} {cells slots : Nat} {Q : State → Prop} {ls : Array Slot} {b L i o : Nat} {xs : Nat → Int32} {D : va_G} {kc : Nat → ClassId} {ad am : Nat → Nat} {I : MI} {J : MJ} {I' : MI} {J' : MJ} {f : Nat → Int64} {tw q1 q2 q3 : Nat} (hx : p.tables.exec = Jvm.exec) (hb : c.code = code) (hml : c.maxLocals = 8) (hown : s.vm.findClass "OpenDealLaw" = some m.cls) (hk : ∀ w ∈ kw, w.before args s = true) (hX : va_X b L xs s s.heap) (hbl : b < s.heap.size) (hL : L ≤ 3584) (hi : 7 * i + 7 ≤ L) (hT : LBt tw q1 q2 q3 s) (hK : va_K D cls5 (tys5 kc) s) (hP : va_P D cls5 (LW kc ad am o I J I' J' f) H) (hD : va_D (LA s) (LW kc ad am o I J I' J' f)) (hS : va_S (LA s) s.heap H locs) (hcs : cells + 16 ≤ 601024 ∧ slots + 16 ≤ 7293034) (hl : lv_has ls 8 [(4, .int (Int32.ofNat (7 * i))), (3, .ref o), (2, .ref (am 0)), (1, .ref (ad 0)), (0, .ref b)])
    (n0_ : Nat) (r0_ : Int32) (h0_ : ff_O_player n0_ I J (xs (7 * i + 1)) (xs (7 * i + 2)) = some r0_) (n1_ : Nat) (r1_ : Int32 × MI × MJ) (h1_ : ff_M_player n1_ I' J' (xs (7 * i + 1)) (xs (7 * i + 2)) = some r1_) (he0 : r0_ = r1_.1)
    (kk : ∀ (H1 : Heap) (locs1 : List Loc) (ls1 : Array Slot), va_P D cls5 (LW kc ad am o I J r1_.2.1 r1_.2.2 f) H1 → va_D (LA s) (LW kc ad am o I J r1_.2.1 r1_.2.2 f) → va_S (LA s) s.heap H1 locs1 → lv_has ls1 8 [(4, .int (Int32.ofNat (7 * i))), (3, .ref o), (2, .ref (am 0)), (1, .ref (ad 0)), (0, .ref b)] → W p l e room_1 s m args below meth c H1 locs1 (cells + 16) (slots + 16) Q (F0 m 764 ls1 [])) : W p l e room_1 s m args below meth c H locs cells slots Q (F0 m 727 ls []) := by
  refine lv_aload_n hx hb dd_L_law_727 rfl (lv_at hl 3 rfl) ?_
  refine lx (k := 1) 1 hx hb hX hbl hS hL hi (lv_at hl 4 rfl) (lv_at hl 0 rfl) (by decide) (by decide) dd_L_law_728 dd_L_law_729 dd_L_law_731 dd_L_law_732 dd_L_law_733 ?_
  refine lx (k := 2) 2 hx hb hX hbl hS hL hi (lv_at hl 4 rfl) (lv_at hl 0 rfl) (by decide) (by decide) dd_L_law_734 dd_L_law_735 dd_L_law_737 dd_L_law_738 dd_L_law_739 ?_
  refine cr_Vi (n := 2) (As := [.int (xs (7 * i + 1)), .int (xs (7 * i + 2))]) (w := wC kc ad I J) hx hb hml hown hk (mm_O_player l D kc ad I J n0_ (xs (7 * i + 1)) (xs (7 * i + 2)) r0_ h0_) hK hP.right 0 at_O rfl rfl kw_416 kw_417 kw_418 kw_1 kw_419 ⟨rfl, rfl⟩ (by decide +kernel) ⟨Nat.le_of_ble_eq_true rfl, Nat.le_of_ble_eq_true rfl⟩ rfl hl.1 rfl (Nat.le_of_ble_eq_true rfl) dd_L_law_740 ⟨by show _ ≤ 601024; omega, by show _ ≤ 7293034; omega⟩ ?_
  refine lv_aload_n hx hb dd_L_law_743 rfl (lv_at hl 2 rfl) ?_
  refine lx (k := 1) 1 hx hb hX hbl hS hL hi (lv_at hl 4 rfl) (lv_at hl 0 rfl) (by decide) (by decide) dd_L_law_744 dd_L_law_745 dd_L_law_747 dd_L_law_748 dd_L_law_749 ?_
  refine lx (k := 2) 2 hx hb hX hbl hS hL hi (lv_at hl 4 rfl) (lv_at hl 0 rfl) (by decide) (by decide) dd_L_law_750 dd_L_law_751 dd_L_law_753 dd_L_law_754 dd_L_law_755 ?_
  have hP := ap3 hP
  have hD := ad3 hD
  refine lz_Vi (n := 2) (As := [.int (xs (7 * i + 1)), .int (xs (7 * i + 2))]) (w' := wM kc am r1_.2.1 r1_.2.2) hx hb hml hown hk (met_pre (B2 := fun U => BW D kc _ _ U ∧ True) (mm_M_player l D kc am I' J' _ n1_ (xs (7 * i + 1)) (xs (7 * i + 2)) r1_ h1_) (fun U h => h.1)) (fun _ _ _ => trivial) (fun _ _ _ _ _ => trivial) hK hP hD hS (fun _ h => h) 0 am_0 rfl rfl kw_813 kw_814 kw_815 kw_4 kw_816 ⟨rfl, rfl⟩ (by decide +kernel) ⟨Nat.le_of_ble_eq_true rfl, Nat.le_of_ble_eq_true rfl⟩ rfl hl.1 rfl (Nat.le_of_ble_eq_true rfl) dd_L_law_756 ⟨by show _ ≤ 601024; omega, by show _ ≤ 7293034; omega⟩ (fun H locs hP hD hS _ _ => ?_)
  have hP := ap4 hP
  have hD := ad4 hD
  refine lv_icmp_eq (tgt := 764) hx hb dd_L_law_759 (by decide) (fun _ => ?_) (fun hc => absurd he0 hc)
  refine W.widen (k := cells + 16) (n := slots + 16) (by omega) (by omega) ?_
  exact kk _ _ _ hP hD hS (lv_sub hl [0, 1, 2, 3, 4] rfl)
