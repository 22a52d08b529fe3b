/-! the law's calls: a callee's world behind another, with more that its premise asks; laid by program -/
theorem met_pre {l : Launch} {y : MethodName} {ws : List Cond} {rm : Room} {As : List Value} {B1 B2 : State → Prop} {Qc : Array Value → State → Outcome → State → Prop} {mc ms : Nat} {free : Addr → Prop} (hM : Met l y ws rm (va_Pc As B1) Qc mc ms free) (h : ∀ U, B2 U → B1 U) : Met l y ws rm (va_Pc As B2) Qc mc ms free :=
  fun p e ha hc hk s m args below hf h1 hP h2 => hM p e ha hc hk s m args below hf h1 ⟨hP.1, h _ hP.2⟩ h2
section LWR
variable {p : Program} {l : Launch} {e : Env} {R : Room} {s : State} {m : MethodId} {args : Array Value} {below : List Frame} {meth : Method} {c : Code} {H : Heap} {locs : List Loc} {cells slots : Nat} {Q : State → Prop}
variable {cc bytes : ByteArray} {pc nL maxL index n mc ms : Nat} {ls : Array Slot} {As rest st0 : List Value} {own : String} {y : MethodName} {ret : Option FieldType} {rm : Room} {D : va_G} {kc : Nat → ClassId} {w w' z : va_W} {A : Nat → Prop} {H0 : Heap} {b : Nat} {B : State → Prop} {hh : List (Nat × Nat × Nat × Nat)}
theorem lz_Vi {v : Int32} (hx : p.tables.exec = Jvm.exec) (hb : c.code = cc) (hml : c.maxLocals = nL) (hown : s.vm.findClass own = some m.cls) (hk : ∀ w ∈ kw, w.before args s = true)
    (hM : Met l y (Cond.code y bytes maxL ret :: kw) rm (va_Pc (.ref b :: As) (fun U => BW D kc w H.size U ∧ B U)) (va_Qi (fun z (_ : Unit) => z = v) (EW D kc (va_A w H.size) w') (va_A w H.size)) mc ms (va_A w H.size)) (hB : ∀ U : State, U.heap = H → s.WarmedH U.vm → B U) (hbl : ∀ (U : State) (g : JFrame) (mk : MethodId) (a : Array Value), B U → B (U.calling g mk a)) (hK : va_K D cls5 (tys5 kc) s) (hP : va_P D cls5 (z ++ w) H) (hD : va_D A (z ++ w)) (hS : va_S A H0 H locs) (hA : ∀ q, H0.size ≤ q → A q)
    (q0 : Nat) {ci : Nat} {fs : List Value} (he : w[q0]? = some (b, .inr (ci, fs))) {r9 : vw_C} (hc : cls5[ci]? = some r9) (hC : r9.1 = y.cls) (w1 : Cond.methodLink own index y ∈ kw) (w2 : Cond.instanceMethod y ∈ kw) (w3 : Cond.selects y.cls y y ∈ kw) (w5 : Cond.initialized y.cls ∈ kw) (w4 : Cond.code y bytes maxL ret ∈ kw) (hrm : rm.cells = mc ∧ rm.slots = ms)
    (hd : y.cls ≠ "java/lang/invoke/MethodHandle" ∧ y.cls ≠ "java/lang/invoke/VarHandle" ∧ (parseMethodDescriptor y.desc).map (fun d => d.parameters.length) = some n) (hR : rm.frames + 1 ≤ R.frames ∧ 8 + (maxL + 11) + rm.locals ≤ R.locals)
    (hn : As.length = n) (hsize : ls.size = nL) (hst : st0 = As.reverse ++ .ref b :: rest) (hW : (rest.map fun v => v.category).sum ≤ 8) (hdg : decode cc pc = .ok (.invokevirtual index, 3)) (hcs : cells + mc ≤ R.cells ∧ slots + ms ≤ R.slots)
    (kk : ∀ (H1 : Heap) (locs1 : List Loc), va_P D cls5 (z ++ w') H1 → va_D A (z ++ w') → va_S A H0 H1 locs1 → H.size ≤ H1.size → (∀ q : Nat, q < H.size → ¬ va_A w H.size q → H1[q]? = H[q]?) → W p l e R s m args below meth c H1 locs1 (cells + mc) (slots + ms) Q (F0 m (pc + 3) ls (.int v :: rest))) : W p l e R s m args below meth c H locs cells slots Q (F0 m pc ls st0) := by
  have hF := fr_r hD hS hA
  refine va_calli (va_runV (Ts := kw) (As := As) (C := y.cls) ⟨hx, hb, hml, hown, hk⟩ hM (cwV n hk (kw_good (fun w hw => ?_)) rfl hrm.1 hrm.2 ⟨rfl, hd⟩ hR) ⟨fun a U g mk q => ⟨q.1, ⟨q.2.1.1, q.2.1.2.1, va_K.moved (u := U) (U := U.calling g mk a) (Vm.Alike.refl U.vm) q.2.1.2.2.1, q.2.1.2.2.2⟩, hbl _ _ _ _ q.2.2⟩, by rw [← hC]; exact va_recv hK hP.right hc he, fun U hU hW => ⟨rfl, ⟨by rw [hU], by rw [hU]; exact hP.right, va_K.moved hW.alike hK, hD.right.weaken (fun _ _ _ _ => trivial)⟩, hB U hU hW⟩⟩ rfl hn hsize hst (lv_room hW) hdg hcs) hS (fun q _ h => hF q h) hF (fun z9 u t H1 locs1 ht hvm hz hB hs1 hk1 hS1 => ?_)
  · unfold wsV at hw
    rcases List.mem_append.mp hw with h | h
    · simp only [List.mem_cons, List.not_mem_nil, or_false] at h
      rcases h with rfl | rfl | rfl | rfl
      · exact w1
      · exact w2
      · exact w3
      · exact w5
    · exact kw_cons w4 h
  · subst hz
    obtain ⟨hP1, hK1, hD1⟩ := hB
    rw [ht] at hP1
    obtain ⟨a1, a2⟩ := jn hP hD hk1 hF hP1 hD1
    exact kk H1 locs1 a1 a2 hS1 hs1 hk1
/-- a static method with handlers -/
theorem lz_SW {v : Int32} (hx : p.tables.exec = Jvm.exec) (hb : c.code = cc) (hml : c.maxLocals = nL) (hown : s.vm.findClass own = some m.cls) (hk : ∀ w ∈ kw, w.before args s = true)
    (hM : Met l y (Cond.codeWith y bytes maxL ret hh :: kw) rm (va_Pc As (fun U => BW D kc w H.size U ∧ B U)) (va_Qi (fun z (_ : Unit) => z = v) (EW D kc (va_A w H.size) w') (va_A w H.size)) mc ms (va_A w H.size)) (hB : ∀ U : State, U.heap = H → s.WarmedH U.vm → B U) (hbl : ∀ (U : State) (g : JFrame) (mk : MethodId) (a : Array Value), B U → B (U.calling g mk a)) (hK : va_K D cls5 (tys5 kc) s) (hP : va_P D cls5 (z ++ w) H) (hD : va_D A (z ++ w)) (hS : va_S A H0 H locs) (hA : ∀ q, H0.size ≤ q → A q)
    (w1 : Cond.methodLink own index y ∈ kw) (w2 : Cond.static y ∈ kw) (w5 : Cond.initialized y.cls ∈ kw) (w4 : Cond.codeWith y bytes maxL ret hh ∈ kw) (hrm : rm.cells = mc ∧ rm.slots = ms)
    (hd : y.cls ≠ "java/lang/invoke/MethodHandle" ∧ y.cls ≠ "java/lang/invoke/VarHandle" ∧ (parseMethodDescriptor y.desc).map (fun d => d.parameters.length) = some n) (hR : rm.frames + 1 ≤ R.frames ∧ 8 + (maxL + 11) + rm.locals ≤ R.locals)
    (hn : As.length = n) (hsize : ls.size = nL) (hst : st0 = As.reverse ++ rest) (hW : (rest.map fun v => v.category).sum ≤ 8) (hdg : decode cc pc = .ok (.invokestatic index, 3)) (hcs : cells + mc ≤ R.cells ∧ slots + ms ≤ R.slots)
    (kk : ∀ (H1 : Heap) (locs1 : List Loc), va_P D cls5 (z ++ w') H1 → va_D A (z ++ w') → va_S A H0 H1 locs1 → H.size ≤ H1.size → (∀ q : Nat, q < H.size → ¬ va_A w H.size q → H1[q]? = H[q]?) → W p l e R s m args below meth c H1 locs1 (cells + mc) (slots + ms) Q (F0 m (pc + 3) ls (.int v :: rest))) : W p l e R s m args below meth c H locs cells slots Q (F0 m pc ls st0) := by
  have hF := fr_r hD hS hA
  have hg : ∀ w ∈ kw, ∀ (a' : Array Value) (U : State), s.WarmedH U.vm → w.before a' U = true := fun w hw a' U hU => word_at hU (good_of_word (List.mem_filter.mp hw).2) (hk w hw)
  have hKb : Back l R p e below s args y 3 8 (PreOf R mc ms (va_Pc As (fun U => BW D kc w H.size U ∧ B U))) (PostOf (va_Qi (fun z (_ : Unit) => z = v) (EW D kc (va_A w H.size) w') (va_A w H.size)) mc ms (va_A w H.size)) := va_backW (hh := hh) (bytes := bytes) (maxL := maxL) (ret := ret) hM (fun a U g mk q => ⟨q.1, ⟨q.2.1.1, q.2.1.2.1, va_K.moved (u := U) (U := U.calling g mk a) (Vm.Alike.refl U.vm) q.2.1.2.2.1, q.2.1.2.2.2⟩, hbl _ _ _ _ q.2.2⟩) hrm.1 hrm.2 hR.1 hR.2 (fun w hw => hg w (kw_cons w4 hw)) List.mem_cons_self (hg _ w5)
  have hRun : va_Run p l e R s m args below meth c H locs cells slots mc ms (F0 m pc ls st0) rest (va_Qi (fun z (_ : Unit) => z = v) (EW D kc (va_A w H.size) w') (va_A w H.size) As.toArray) (va_A w H.size) := by
    intro T hT X
    obtain ⟨mk, methM, cM, hnamed, hmethM, -, -, -, -, -, -, hsigM⟩ := Cond.codeWith_spec (hk _ w4)
    have hstatic : methM.isStatic = true := Cond.static_spec hnamed hmethM (hk _ w2)
    obtain ⟨kP, hkP, -⟩ := className_of_methodNamed hnamed
    have hinitP : kP.init = .initialized := Cond.initialized_spec (findClass_of_methodNamed hnamed) hkP (hk _ w5)
    have hlen : As.length = methM.sig.parameters.length := by
      have h9 := hd.2.2
      rw [hsigM] at h9
      rw [hn]
      exact (Option.some.inj h9).symm
    obtain ⟨vm₁, X₁, hstep₁⟩ := X.invokestatic hx hown (hk _ w1) hnamed hmethM hstatic hkP hinitP ⟨hd.1, hd.2.1⟩ (g := F0 m pc ls st0) rfl (argsL := As) (rest := rest) hlen hst (by rw [hb]; exact hdg)
    obtain ⟨v, ⟨U', l2, c2, s2⟩, X', ⟨g', mk', t, L, e1, e2, hq, h1, hL, h2, h3⟩, hsteps⟩ := hKb m meth c ⟨T.setVm vm₁, locs, cells, slots⟩ { F0 m pc ls st0 with stack := rest } (.invokestatic index) mk As.toArray X₁ rfl (by rw [hml]; exact hsize) (by rw [hb]; exact hdg) (lv_room hW) (X₁.named hnamed) ⟨hcs.1, hcs.2, rfl, ⟨by rw [show (T.setVm vm₁).heap = H from hT], by rw [show (T.setVm vm₁).heap = H from hT]; exact hP.right, va_K.moved X₁.warmed.alike hK, hD.right.weaken (fun _ _ _ _ => trivial)⟩, hB _ hT X₁.warmed⟩
    dsimp only [Pt.U, Pt.locs, Pt.cells, Pt.slots] at X' e1 e2 h1 h2 h3 hsteps
    subst h1; subst h2; subst h3
    exact ⟨v, (T.setVm vm₁).calling g' mk' As.toArray, t, U', L, hT, X', hL, e1, e2, hq, fun target h => hstep₁ _ fun acts => by rw [doInvoke_state]; exact hsteps.trans h⟩
  refine va_calli hRun hS (fun q _ h => hF q h) hF (fun z9 u t H1 locs1 ht hvm hz hB hs1 hk1 hS1 => ?_)
  subst hz
  obtain ⟨hP1, hK1, hD1⟩ := hB
  rw [ht] at hP1
  obtain ⟨a1, a2⟩ := jn hP hD hk1 hF hP1 hD1
  exact kk H1 locs1 a1 a2 hS1 hs1 hk1
theorem lz_Vl {v : Int64} (hx : p.tables.exec = Jvm.exec) (hb : c.code = cc) (hml : c.maxLocals = nL) (hown : s.vm.findClass own = some m.cls) (hk : ∀ w ∈ kw, w.before args s = true)
    (hM : Met l y (Cond.code y bytes maxL ret :: kw) rm (va_Pc (.ref b :: As) (fun U => BW D kc w H.size U ∧ B U)) (va_Ql (fun z (_ : Unit) => z = v) (EW D kc (va_A w H.size) w') (va_A w H.size)) mc ms (va_A w H.size)) (hB : ∀ U : State, U.heap = H → s.WarmedH U.vm → B U) (hbl : ∀ (U : State) (g : JFrame) (mk : MethodId) (a : Array Value), B U → B (U.calling g mk a)) (hK : va_K D cls5 (tys5 kc) s) (hP : va_P D cls5 (z ++ w) H) (hD : va_D A (z ++ w)) (hS : va_S A H0 H locs) (hA : ∀ q, H0.size ≤ q → A q)
    (q0 : Nat) {ci : Nat} {fs : List Value} (he : w[q0]? = some (b, .inr (ci, fs))) {r9 : vw_C} (hc : cls5[ci]? = some r9) (hC : r9.1 = y.cls) (w1 : Cond.methodLink own index y ∈ kw) (w2 : Cond.instanceMethod y ∈ kw) (w3 : Cond.selects y.cls y y ∈ kw) (w5 : Cond.initialized y.cls ∈ kw) (w4 : Cond.code y bytes maxL ret ∈ kw) (hrm : rm.cells = mc ∧ rm.slots = ms)
    (hd : y.cls ≠ "java/lang/invoke/MethodHandle" ∧ y.cls ≠ "java/lang/invoke/VarHandle" ∧ (parseMethodDescriptor y.desc).map (fun d => d.parameters.length) = some n) (hR : rm.frames + 1 ≤ R.frames ∧ 8 + (maxL + 11) + rm.locals ≤ R.locals)
    (hn : As.length = n) (hsize : ls.size = nL) (hst : st0 = As.reverse ++ .ref b :: rest) (hW : (rest.map fun v => v.category).sum ≤ 8) (hdg : decode cc pc = .ok (.invokevirtual index, 3)) (hcs : cells + mc ≤ R.cells ∧ slots + ms ≤ R.slots)
    (kk : ∀ (H1 : Heap) (locs1 : List Loc), va_P D cls5 (z ++ w') H1 → va_D A (z ++ w') → va_S A H0 H1 locs1 → H.size ≤ H1.size → (∀ q : Nat, q < H.size → ¬ va_A w H.size q → H1[q]? = H[q]?) → W p l e R s m args below meth c H1 locs1 (cells + mc) (slots + ms) Q (F0 m (pc + 3) ls (.long v :: rest))) : W p l e R s m args below meth c H locs cells slots Q (F0 m pc ls st0) := by
  have hF := fr_r hD hS hA
  refine va_calll (va_runV (Ts := kw) (As := As) (C := y.cls) ⟨hx, hb, hml, hown, hk⟩ hM (cwV n hk (kw_good (fun w hw => ?_)) rfl hrm.1 hrm.2 ⟨rfl, hd⟩ hR) ⟨fun a U g mk q => ⟨q.1, ⟨q.2.1.1, q.2.1.2.1, va_K.moved (u := U) (U := U.calling g mk a) (Vm.Alike.refl U.vm) q.2.1.2.2.1, q.2.1.2.2.2⟩, hbl _ _ _ _ q.2.2⟩, by rw [← hC]; exact va_recv hK hP.right hc he, fun U hU hW => ⟨rfl, ⟨by rw [hU], by rw [hU]; exact hP.right, va_K.moved hW.alike hK, hD.right.weaken (fun _ _ _ _ => trivial)⟩, hB U hU hW⟩⟩ rfl hn hsize hst (lv_room hW) hdg hcs) hS (fun q _ h => hF q h) hF (fun z9 u t H1 locs1 ht hvm hz hB hs1 hk1 hS1 => ?_)
  · unfold wsV at hw
    rcases List.mem_append.mp hw with h | h
    · simp only [List.mem_cons, List.not_mem_nil, or_false] at h
      rcases h with rfl | rfl | rfl | rfl
      · exact w1
      · exact w2
      · exact w3
      · exact w5
    · exact kw_cons w4 h
  · subst hz
    obtain ⟨hP1, hK1, hD1⟩ := hB
    rw [ht] at hP1
    obtain ⟨a1, a2⟩ := jn hP hD hk1 hF hP1 hD1
    exact kk H1 locs1 a1 a2 hS1 hs1 hk1
theorem lz_Vv (hx : p.tables.exec = Jvm.exec) (hb : c.code = cc) (hml : c.maxLocals = nL) (hown : s.vm.findClass own = some m.cls) (hk : ∀ w ∈ kw, w.before args s = true)
    (hM : Met l y (Cond.code y bytes maxL ret :: kw) rm (va_Pc (.ref b :: As) (fun U => BW D kc w H.size U ∧ B U)) (va_Qv (fun (_ : Unit) => True) (EW D kc (va_A w H.size) w') (va_A w H.size)) mc ms (va_A w H.size)) (hB : ∀ U : State, U.heap = H → s.WarmedH U.vm → B U) (hbl : ∀ (U : State) (g : JFrame) (mk : MethodId) (a : Array Value), B U → B (U.calling g mk a)) (hK : va_K D cls5 (tys5 kc) s) (hP : va_P D cls5 (z ++ w) H) (hD : va_D A (z ++ w)) (hS : va_S A H0 H locs) (hA : ∀ q, H0.size ≤ q → A q)
    (q0 : Nat) {ci : Nat} {fs : List Value} (he : w[q0]? = some (b, .inr (ci, fs))) {r9 : vw_C} (hc : cls5[ci]? = some r9) (hC : r9.1 = y.cls) (w1 : Cond.methodLink own index y ∈ kw) (w2 : Cond.instanceMethod y ∈ kw) (w3 : Cond.selects y.cls y y ∈ kw) (w5 : Cond.initialized y.cls ∈ kw) (w4 : Cond.code y bytes maxL ret ∈ kw) (hrm : rm.cells = mc ∧ rm.slots = ms)
    (hd : y.cls ≠ "java/lang/invoke/MethodHandle" ∧ y.cls ≠ "java/lang/invoke/VarHandle" ∧ (parseMethodDescriptor y.desc).map (fun d => d.parameters.length) = some n) (hR : rm.frames + 1 ≤ R.frames ∧ 8 + (maxL + 11) + rm.locals ≤ R.locals)
    (hn : As.length = n) (hsize : ls.size = nL) (hst : st0 = As.reverse ++ .ref b :: rest) (hW : (rest.map fun v => v.category).sum ≤ 8) (hdg : decode cc pc = .ok (.invokevirtual index, 3)) (hcs : cells + mc ≤ R.cells ∧ slots + ms ≤ R.slots)
    (kk : ∀ (H1 : Heap) (locs1 : List Loc), va_P D cls5 (z ++ w') H1 → va_D A (z ++ w') → va_S A H0 H1 locs1 → H.size ≤ H1.size → (∀ q : Nat, q < H.size → ¬ va_A w H.size q → H1[q]? = H[q]?) → W p l e R s m args below meth c H1 locs1 (cells + mc) (slots + ms) Q (F0 m (pc + 3) ls rest)) : W p l e R s m args below meth c H locs cells slots Q (F0 m pc ls st0) := by
  have hF := fr_r hD hS hA
  refine va_callv (va_runV (Ts := kw) (As := As) (C := y.cls) ⟨hx, hb, hml, hown, hk⟩ hM (cwV n hk (kw_good (fun w hw => ?_)) rfl hrm.1 hrm.2 ⟨rfl, hd⟩ hR) ⟨fun a U g mk q => ⟨q.1, ⟨q.2.1.1, q.2.1.2.1, va_K.moved (u := U) (U := U.calling g mk a) (Vm.Alike.refl U.vm) q.2.1.2.2.1, q.2.1.2.2.2⟩, hbl _ _ _ _ q.2.2⟩, by rw [← hC]; exact va_recv hK hP.right hc he, fun U hU hW => ⟨rfl, ⟨by rw [hU], by rw [hU]; exact hP.right, va_K.moved hW.alike hK, hD.right.weaken (fun _ _ _ _ => trivial)⟩, hB U hU hW⟩⟩ rfl hn hsize hst (lv_room hW) hdg hcs) hS (fun q _ h => hF q h) hF (fun u t H1 locs1 ht hvm hz hB hs1 hk1 hS1 => ?_)
  · unfold wsV at hw
    rcases List.mem_append.mp hw with h | h
    · simp only [List.mem_cons, List.not_mem_nil, or_false] at h
      rcases h with rfl | rfl | rfl | rfl
      · exact w1
      · exact w2
      · exact w3
      · exact w5
    · exact kw_cons w4 h
  · obtain ⟨hP1, hK1, hD1⟩ := hB
    rw [ht] at hP1
    obtain ⟨a1, a2⟩ := jn hP hD hk1 hF hP1 hD1
    exact kk H1 locs1 a1 a2 hS1 hs1 hk1
end LWR
