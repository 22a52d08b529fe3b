/-! the law's entry; laid by program -/
section LEN
variable {p : Program} {l : Launch} {e : Env} {R : Room} {s : State} {m : MethodId} {args : Array Value} {below : List Frame} {meth : Method} {c : Code} {H : Heap} {locs : List Loc} {cells slots : Nat} {Q : State → Prop}
variable {cc bytes : ByteArray} {pc nL maxL index n mc ms : Nat} {ls : Array Slot} {rest st0 : List Value} {own : String} {y : MethodName} {rm : Room} {D : va_G} {kc : Nat → ClassId} {w z : va_W} {A : Nat → Prop} {H0 : Heap} {b : Nat} {B : State → Prop} {P : (Nat → Nat) → Prop} {wf : (Nat → Nat) → va_W}
theorem cwa_I (hx : p.tables.exec = Jvm.exec) (hb : c.code = cc) (hml : c.maxLocals = nL) (hown : s.vm.findClass own = some m.cls) (hk : ∀ w ∈ kw, w.before args s = true)
    (hM : Met l y (Cond.code y bytes maxL none :: kw) rm (va_Pc [.ref b] (fun U => BW D kc w H.size U ∧ B U)) (va_Qv P (EA D kc (va_A w H.size) wf) (va_A w H.size)) mc ms (va_A w H.size)) (hB : ∀ U : State, U.heap = H → s.WarmedH U.vm → B U) (hbl : ∀ (U : State) (g : JFrame) (mk : MethodId) (a : Array Value), B U → B (U.calling g mk a)) (hK : va_K D cls5 (tys5 kc) s) (hP : va_P D cls5 (z ++ w) H) (hD : va_D A (z ++ w)) (hS : va_S A H0 H locs) (hA : ∀ q, H0.size ≤ q → A q)
    (w1 : Cond.methodLink own index y ∈ kw) (w2 : Cond.instanceMethod y ∈ kw) (w3 : Cond.initialized y.cls ∈ kw) (w4 : Cond.code y bytes maxL none ∈ kw) (hy1 : y.name = "<init>") (hrm : rm.cells = mc ∧ rm.slots = ms)
    (hd : y.cls ≠ "java/lang/invoke/MethodHandle" ∧ y.cls ≠ "java/lang/invoke/VarHandle" ∧ (parseMethodDescriptor y.desc).map (fun d => d.parameters.length) = some 0) (hR : rm.frames + 1 ≤ R.frames ∧ 8 + (maxL + 11) + rm.locals ≤ R.locals)
    (hsize : ls.size = nL) (hst : st0 = .ref b :: rest) (hW : (rest.map fun v => v.category).sum ≤ 8) (hdg : decode cc pc = .ok (.invokespecial index, 3)) (hcs : cells + mc ≤ R.cells ∧ slots + ms ≤ R.slots)
    (kk : ∀ (ad : Nat → Nat) (H1 : Heap) (locs1 : List Loc), P ad → va_P D cls5 (z ++ wf ad) H1 → va_D A (z ++ wf ad) → va_S A H0 H1 locs1 → W p l e R s m args below meth c H1 locs1 (cells + mc) (slots + ms) Q (F0 m (pc + 3) ls rest)) : W p l e R s m args below meth c H locs cells slots Q (F0 m pc ls st0) := by
  have hF := fr_r hD hS hA
  refine va_callv (va_runI (Ts := kw) (As := []) ⟨hx, hb, hml, hown, hk⟩ hM (cwI 0 hk (kw_good (fun w hw => kw_cons w4 hw)) rfl hrm.1 hrm.2 (hk _ w3) (hk _ w1) (hk _ w2) hy1 hd hR) ⟨fun a U g mk q => ⟨q.1, ⟨q.2.1.1, q.2.1.2.1, va_K.moved (u := U) (U := U.calling g mk a) (Vm.Alike.refl U.vm) q.2.1.2.2.1, q.2.1.2.2.2⟩, hbl _ _ _ _ q.2.2⟩, fun U hU hW => ⟨rfl, ⟨by rw [hU], by rw [hU]; exact hP.right, va_K.moved hW.alike hK, hD.right.weaken (fun _ _ _ _ => trivial)⟩, hB U hU hW⟩⟩ rfl rfl hsize hst (lv_room hW) hdg hcs) hS (fun q _ h => hF q h) hF (fun u t H1 locs1 ht hvm hz hB hs1 hk1 hS1 => ?_)
  obtain ⟨hP1, hK1, hD1⟩ := hB
  rw [ht] at hP1
  obtain ⟨hP2, hD2⟩ := jn hP hD hk1 hF hP1 hD1
  exact kk u H1 locs1 hz hP2 hD2 hS1
end LEN
abbrev M0 : LM := (IO, J00, IM, J00, fun _ => 0)
theorem aoa_mv {ty : FieldType} {u U : State} (hvm : u.vm.Alike U.vm) (h : va_AOA ty u) : va_AOA ty U := by
  have h1 : (Cond.arrayOver (.array ty)).before #[] (u.setVm U.vm) = true := (Cond.arrayOver_setVmC (args := #[]) (s := u) (vm' := U.vm) hvm (.array ty)).trans h
  exact h1
set_option maxHeartbeats 8000000 in
set_option maxRecDepth 100000 in
theorem law_start {p : Program} {e : Env} {s : State} {m : MethodId} {below : List Frame} {meth : Method} {c : Code} (l : Launch) {b L : Nat} {xs : Nat → Int32} (hL : L ≤ 3584) (hfl : l.flags = pinnedFlags ++ [noTraceFlag]) (hx : p.tables.exec = Jvm.exec) (hb : c.code = code) (hr : meth.sig.returnType = ret) (hml : c.maxLocals = 8) (hown : s.vm.findClass "OpenDealLaw" = some m.cls) (hts : ∀ w ∈ lw_tbl, w.before #[Value.ref b] s = true) (hX : va_X b L xs s s.heap) (hbl : b < s.heap.size) (hlocks : meth.locks = false) (hgv : (Jvm.Cond.and given_1 narrow_1).before #[Value.ref b] s = true)
    (Ms : Nat → LM) (h0 : Ms 0 = M0) (hst : ∀ i, 7 * i + 7 ≤ L → LStep xs i (Ms i) (Ms (i + 1))) : W p l e room_1 s m #[Value.ref b] below meth c s.heap [] 0 0 (fun t => ∃ o, t.status = .running ∧ Ended t below o ∧ o = .returned (some (.int 1)) ∧ Framed s o t [] 601024 7293034) (entryFrame m ([Value.ref b] : List Value).toArray 8) := by
  have hk : ∀ w ∈ kw, w.before #[Value.ref b] s = true := fun w hw => hts w (List.mem_filter.mp hw).1
  obtain ⟨D, kc, hK⟩ := st_K hts
  obtain ⟨tw, q1, q2, q3, hT⟩ := st_B hts hgv
  have hnest : va_Nw (.methodLinkNest "OpenDeal$Player" 11 ⟨"OpenDeal$Secrets", "<init>", "()V"⟩ "OpenDeal") s := hts (.methodLinkNest "OpenDeal$Player" 11 ⟨"OpenDeal$Secrets", "<init>", "()V"⟩ "OpenDeal") (List.mem_append_right _ (List.mem_of_getElem? (i := 31) rfl))
  have hAO : va_AO "OpenDeal$Player" s := hts (.arrayOver (.object "OpenDeal$Player")) (List.mem_append_right _ (List.mem_of_getElem? (i := 23) rfl))
  have hAOA : va_AOA .int s := hts (.arrayOver (.array .int)) (List.mem_append_right _ (List.mem_of_getElem? (i := 104) rfl))
  have hA : ∀ q : Nat, s.heap.size ≤ q → LA s q := fun _ h => h
  have hS : va_S (LA s) s.heap s.heap [] := va_S.rf
  have hP : va_P D cls5 [] s.heap := fun k q h => by simp at h
  have hD : va_D (LA s) [] := ⟨fun i j p q h => by simp at h, fun k q h => by simp at h⟩
  have hl := lv_entry ([.ref b]) (n := 8) (Nat.le_of_ble_eq_true rfl)
  rw [lg_entry_eq]
  generalize (lg_sl ([.ref b]) ++ List.replicate (8 - (lg_sl ([.ref b])).length) Slot.unset).toArray = ls at hl ⊢
  have hl : lv_has ls 8 [(0, .ref b)] := hl
  refine va_new (ci := 0) (fs := [.int 0, .int 0, .int 0, .null, .int 0, .null, .null, .int 0, .int 0, .null, .null]) (C := "OpenDeal") (T := T_O) (N := 11) hx hb hk in_O ty_O tk_O hown (hk _ kw_14) (hk _ kw_15) (hk _ kw_1) hK hP hD hS hA rfl (fun j hj => by rcases (show j = 0 ∨ j = 1 ∨ j = 2 ∨ j = 3 ∨ j = 4 ∨ j = 5 ∨ j = 6 ∨ j = 7 ∨ j = 8 ∨ j = 9 ∨ j = 10 by omega) with rfl | rfl | rfl | rfl | rfl | rfl | rfl | rfl | rfl | rfl | rfl <;> rfl) (Nat.le_of_ble_eq_true rfl) (Nat.le_of_ble_eq_true rfl) dd_L_law_0 (fun h1 H hP hD hS => ?_)
  refine lv_dup hx hb dd_L_law_3 rfl ?_
  refine cwa_I (z := []) hx hb hml hown hk (mm_O_init l D kc h1 _) (fun U hU hW => ⟨va_Nw.warmM hW hnest, va_AO.moved hW.alike hAO, aoa_mv hW.alike hAOA⟩) (fun U g mk a h => ⟨va_Nw.same rfl rfl h.1, h.2.1, h.2.2⟩) hK hP hD hS hA kw_16 kw_17 kw_1 kw_18 rfl ⟨rfl, rfl⟩ (by decide +kernel) ⟨(Nat.le_of_ble_eq_true rfl), (Nat.le_of_ble_eq_true rfl)⟩ hl.1 rfl (Nat.le_of_ble_eq_true rfl) dd_L_law_4 ⟨(Nat.le_of_ble_eq_true rfl), (Nat.le_of_ble_eq_true rfl)⟩ (fun ad H2 locs2 hz hP2 hD2 hS2 => ?_)
  subst hz
  have hP : va_P D cls5 (wC kc ad IO J00) H2 := hP2
  have hD : va_D (LA s) (wC kc ad IO J00) := hD2
  have hS := hS2
  refine lv_astore_n (lv' := [(1, .ref (ad 0)), (0, .ref b)]) hx hb dd_L_law_7 rfl hl (by decide) rfl (fun ls hl => ?_)
  refine va_new (ci := 4) (fs := [.int 0, .int 0, .int 0, .int 0, .int 0, .null, .null, .null, .null, .null, .null, .null, .null, .null, .null, .null, .null, .null, .null, .null, .int 0, .null, .null, .null, .null, .long 0, .null, .null, .null, .null, .int 0, .int 0]) (C := "OpenDealModel") (T := T_M) (N := 32) hx hb hk in_M ty_M tk_M hown (hk _ kw_531) (hk _ kw_532) (hk _ kw_4) hK hP hD hS hA rfl (fun j hj => by rcases (show j = 0 ∨ j = 1 ∨ j = 2 ∨ j = 3 ∨ j = 4 ∨ j = 5 ∨ j = 6 ∨ j = 7 ∨ j = 8 ∨ j = 9 ∨ j = 10 ∨ j = 11 ∨ j = 12 ∨ j = 13 ∨ j = 14 ∨ j = 15 ∨ j = 16 ∨ j = 17 ∨ j = 18 ∨ j = 19 ∨ j = 20 ∨ j = 21 ∨ j = 22 ∨ j = 23 ∨ j = 24 ∨ j = 25 ∨ j = 26 ∨ j = 27 ∨ j = 28 ∨ j = 29 ∨ j = 30 ∨ j = 31 by omega) with rfl | rfl | rfl | rfl | rfl | rfl | rfl | rfl | rfl | rfl | rfl | rfl | rfl | rfl | rfl | rfl | rfl | rfl | rfl | rfl | rfl | rfl | rfl | rfl | rfl | rfl | rfl | rfl | rfl | rfl | rfl | rfl <;> rfl) (Nat.le_of_ble_eq_true rfl) (Nat.le_of_ble_eq_true rfl) dd_L_law_8 (fun h2 H hP hD hS => ?_)
  refine lv_dup hx hb dd_L_law_11 rfl ?_
  refine cwa_I (z := wC kc ad IO J00) hx hb hml hown hk (met_pre (B2 := fun U => BW D kc _ _ U ∧ True) (mm_M_init l D kc h2 _) (fun U h => h.1)) (fun _ _ _ => trivial) (fun _ _ _ _ _ => trivial) hK hP hD hS hA kw_533 kw_534 kw_4 kw_535 rfl ⟨rfl, rfl⟩ (by decide +kernel) ⟨(Nat.le_of_ble_eq_true rfl), (Nat.le_of_ble_eq_true rfl)⟩ hl.1 rfl (Nat.le_of_ble_eq_true rfl) dd_L_law_12 ⟨(Nat.le_of_ble_eq_true rfl), (Nat.le_of_ble_eq_true rfl)⟩ (fun am H3 locs3 hz hP3 hD3 hS3 => ?_)
  subst hz
  have hP := hP3.turn
  have hD := hD3.turn
  have hS := hS3
  refine lv_astore_n (lv' := [(2, .ref (am 0)), (1, .ref (ad 0)), (0, .ref b)]) hx hb dd_L_law_15 rfl hl (by decide) rfl (fun ls hl => ?_)
  refine lv_iconst (v := 1) hx hb dd_L_law_16 (by decide) ?_
  refine nw_a (N' := 1) (n := 1) (atype := .long) (a0 := (1, .inr (.inl (fun _ => 0)))) hx hb (hk _ kw_102) rfl 1 rfl hK hP hD hS hA (fun cA => rfl) (by decide) (by decide) (by decide) (Nat.le_of_ble_eq_true rfl) (Nat.le_of_ble_eq_true rfl) dd_L_law_17 (fun o H hP hD hS => ?_)
  have hP := ap3 hP
  have hD := ad3 hD
  refine lv_astore_n (lv' := [(3, .ref o), (2, .ref (am 0)), (1, .ref (ad 0)), (0, .ref b)]) hx hb dd_L_law_19 rfl hl (by decide) rfl (fun ls hl => ?_)
  refine lv_iconst (v := Int32.ofNat (7 * 0)) hx hb dd_L_law_20 (by decide) ?_
  refine lv_istore (lv' := [(4, .int (Int32.ofNat (7 * 0))), (3, .ref o), (2, .ref (am 0)), (1, .ref (ad 0)), (0, .ref b)]) hx hb dd_L_law_21 hl (by decide) rfl (fun ls hl => ?_)
  refine W.widen (k := 100 + 16 * 0) (n := 3000 + 16 * 0) (by omega) (by omega) ?_
  exact law_loop l Ms hx hb hml hown hk hX hbl hL hT hK hfl hr hlocks hst L 0 H _ ls (by omega) (by omega) (by rw [h0]; exact hP) (by rw [h0]; exact hD) hS hl
