/-! methods that throw: the contract, and its end -/
def thX (X : String) (s t : State) (o : Outcome) : Prop := ∃ (x : Addr) (cell : Cell), o = .threw x ∧ t.heap[x]? = some cell ∧ cell.vm = .none ∧ s.vm.findClass X = some cell.cls ∧ s.vm.assignable cell.cls cell.cls = true
def MQT (below : List Frame) (X : String) (s : State) (mc ms : Nat) : State → Prop := fun t => ∃ o, t.status = .running ∧ Ended t below o ∧ thX X s t o ∧ Jvm.Free.FrameEndT s o t [] mc ms
def MetT (l : Launch) (y : MethodName) (ws : List Cond) (rm : Room) (Pc : Array Value → State → Prop) (X : String) (mc ms : Nat) : Prop := MetFree l y (headSpec ws rm) Pc (fun _ _ _ _ _ => True) (fun _ st o t => thX X st t o ∧ Jvm.Free.FrameEndT st o t [] mc ms)
theorem MetT.ofW {l : Launch} {y : MethodName} {ws ws' : List Cond} {rm : Room} {Pc : Array Value → State → Prop} {X : String} {mc ms : Nat} {cc : ByteArray} {maxL : Nat} {ret : Option FieldType}
    (hy : plainName y.cls = true) (hw : ws = Cond.code y cc maxL ret :: ws')
    (body : ∀ p e s m args below meth c s₁, BodyLoose p l y (headSpec ws rm) cc maxL ret e s m args below meth c s₁ → c.maxLocals = maxL → Pc args s →
      W p l e (headSpec ws rm).room s m args below meth c s.heap [] 0 0 (MQT below X s mc ms) (entryFrame m args maxL)) : MetT l y ws rm Pc X mc ms := by
  refine MetFree.of_bodyS (code := cc) (maxLocals := maxL) (ret := ret) hy ?_ ?_
  · intro args s m h hn
    obtain ⟨meth, c, h1, h2, h3, h4, h5, h6, -, -⟩ := Cond.code_spec hn (atoms_spec (ws := ws) h _ (by rw [hw]; exact List.mem_cons_self))
    exact ⟨meth, c, h1, h2, h3, h4, h5, h6⟩
  · intro p e s m args below meth c s₁ B hml hP _
    have hh0 : s₁.heap = s.heap := by rw [B.state]; rfl
    obtain ⟨t, a1, o, b1, b2, b3⟩ := body p e s m args below meth c s₁ B hml hP s₁ hh0 (Stand.of_body B)
    exact ⟨t, o, a1, b1, b2, b3⟩
abbrev exN : List String := ["java/lang/RuntimeException", "java/lang/Exception"]
/-- the words that a throw of X with a text wants, whatever the arguments -/
def TW (ic : Nat) (X : String) (U : State) : Prop := ∀ (A : Array Value), ∀ a ∈ Jvm.Bundle.ownAtoms "OpenDeal" ic X exN, a.before A U = true
section THE
variable {p : Program} {l : Launch} {e : Env} {R : Room} {s : State} {m : MethodId} {args : Array Value} {below : List Frame} {meth : Method} {c : Code} {H : Heap} {cells slots : Nat}
variable {cc : ByteArray} {pc nL ic ik : Nat} {ls : Array Slot} {X tx : String}
/-- new X; dup; ldc; the constructor; athrow -/
theorem thr_end (hx : p.tables.exec = Jvm.exec) (hb : c.code = cc) (hml : c.maxLocals = nL) (hfl : l.flags = pinnedFlags ++ [noTraceFlag]) (hlocks : meth.locks = false) (hown : s.vm.findClass "OpenDeal" = some m.cls) (hno : c.exceptionTable.isEmpty = true)
    (hcls : Jvm.Bundle.fit X = true) (hT : TW ic X s) {q : Nat} (hR9 : vk_R "OpenDeal" ik tx q s) {ix : Nat} (hclink : (Cond.classLink "OpenDeal" ix X).before args s = true) (hins : (Cond.instantiable X 6).before args s = true) (hini : (Cond.initialized X).before args s = true)
    (hsize : ls.size = nL) (d0 : decode cc pc = .ok (.new ix, 3)) (d3 : decode cc (pc + 3) = .ok (.dup, 1)) (d4 : decode cc (pc + 4) = .ok (.ldc ik, 2)) (d6 : decode cc (pc + 6) = .ok (.invokespecial ic, 3)) (d9 : decode cc (pc + 9) = .ok (.athrow, 1))
    (hHs : s.heap.size ≤ H.size) (hc1 : cells + 1 ≤ R.cells) (hs1 : slots + 6 ≤ R.slots) (hRf : 5 < R.frames) (hRl : 83 ≤ R.locals) : W p l e R s m args below meth c H [] cells slots (MQT below X s (cells + 1) (slots + 6)) (F0 m pc ls []) := by
  obtain ⟨cX, kX0, hfX, -⟩ := Cond.instantiable_spec hins
  refine W.newcK (h := H.size) hx hb hown hclink hins hini rfl d0 hc1 hs1 hfX rfl (fun H' kX hkX hcell hsz hold => ?_)
  refine W.eq (g2 := F0 m (pc + 3) ls [.ref H.size]) rfl ?_
  refine lv_dup hx hb d3 rfl ?_
  refine va_ldcS hx hb hown hR9 d4 ?_
  intro T hTT Xs
  have htr := Launch.traces_off hfl Xs.admits
  obtain ⟨U, hst, hrun, hend, hW, hsame, ce, hce, K⟩ := Xs.ctorThrowS (names := exN) hx htr hown hcls (by decide +kernel) (hT args) (fun x hx => by cases hx) (a := H.size) hfX hkX (by rw [hTT]; exact hcell) hHs (msg := .ref q) rfl (g := F0 m (pc + 3 + 1 + 2) ls [.ref q, .ref H.size, .ref H.size]) rfl (by rw [hml]; exact hsize) rfl rfl (rest := []) rfl (by rw [hb]; exact d6) (by rw [hb]; exact d9) (fun x hx => by
    have h0 : c.exceptionTable.toList = [] := by simpa using hno
    rw [h0] at hx
    cases hx) (by simpa using hRf) (by
    show 2 * 0 + _ + _ ≤ _
    simp [Value.category]
    omega) hlocks
  exact ⟨U, hst, .threw H.size, hrun, hend, ⟨H.size, ce, rfl, hce, K.vm, K.cls, K.self⟩, ⟨⟨_, rfl⟩, hW, hsame⟩⟩
variable {locs : List Loc} {Q : State → Prop} {y : MethodName} {bytes : ByteArray} {maxL n index : Nat} {ret : Option FieldType} {rm : Room} {B : State → Prop} {As rest st0 : List Value} {own : String} {b : Nat}
theorem sbn_eq {s s' : State} {k n : Nat} (h : s.sameButNew s' [] k n) {q : Nat} (hq : q < s.heap.size) : s'.heap[q]? = s.heap[q]? := by
  obtain ⟨c1, h1, h2, h3, h4⟩ := h.2.2.2.2.2 q s.heap[q] (Array.getElem?_eq_getElem hq)
  rw [h1, Array.getElem?_eq_getElem hq]
  have e : c1.slots = (s.heap[q]).slots := Array.ext_getElem? fun i => h4 i (by intro h; cases h)
  rw [h2, e]
def PoT (X : String) : Pt → Array Value → Addr → Pt → Prop := fun A _ x B => ∃ cell : Cell, B.U.heap[x]? = some cell ∧ cell.vm = .none ∧ A.U.vm.findClass X = some cell.cls ∧ A.U.vm.assignable cell.cls cell.cls = true ∧ B.locs = A.locs ∧ B.cells = A.cells + 1 ∧ B.slots = A.slots + 6 ∧ A.U.heap.size ≤ B.U.heap.size ∧ ∀ q : Nat, q < A.U.heap.size → B.U.heap[q]? = A.U.heap[q]?
/-- a call that throws, into the handler -/
theorem thr_call (hx : p.tables.exec = Jvm.exec) (hb : c.code = cc) (hml : c.maxLocals = nL) (hown : s.vm.findClass own = some m.cls) (hk : ∀ w ∈ kw, w.before args s = true)
    (hM : MetT l y (Cond.code y bytes maxL ret :: kw) rm (va_Pc (.ref b :: As) B) X 1 6) (hB : ∀ U : State, U.heap = H → s.WarmedH U.vm → B U) (hbl : ∀ (U : State) (g : JFrame) (mk : MethodId) (a : Array Value), B U → B (U.calling g mk a))
    (hrecv : ∃ cell : Cell, H[b]? = some cell ∧ cell.vm.isStatics = false ∧ s.vm.findClass y.cls = some cell.cls)
    (w1 : Cond.methodLink own index y ∈ kw) (w2 : Cond.instanceMethod y ∈ kw) (w3 : Cond.selects y.cls y y ∈ kw) (w5 : Cond.initialized y.cls ∈ kw) (w4 : Cond.code y bytes maxL ret ∈ kw) (hrm : rm.cells = 1 ∧ rm.slots = 6)
    (hd : y.cls ≠ "java/lang/invoke/MethodHandle" ∧ y.cls ≠ "java/lang/invoke/VarHandle" ∧ (parseMethodDescriptor y.desc).map (fun d => d.parameters.length) = some n) (hR : rm.frames + 1 ≤ R.frames ∧ 8 + (maxL + 11) + rm.locals ≤ R.locals)
    (hn : As.length = n) (hsize : ls.size = nL) (hst : st0 = As.reverse ++ .ref b :: rest) (hW : (rest.map fun v => v.category).sum ≤ 8) (hdg : decode cc pc = .ok (.invokevirtual index, 3)) (hcs : cells + 1 ≤ R.cells ∧ slots + 6 ≤ R.slots)
    {st en hp ct : Nat} (hsplit : c.exceptionTable.toList.map (fun h => (h.startPc, h.endPc, h.handlerPc, h.catchType)) = [(st, en, hp, ct)]) (h1 : st ≤ pc) (h2 : pc < en) (h0 : ct ≠ 0) (hlink : Cond.classLink own ct X ∈ kw)
    (kk : ∀ (x : Nat) (H1 : Heap), H.size ≤ H1.size → (∀ q : Nat, q < H.size → H1[q]? = H[q]?) → W p l e R s m args below meth c H1 locs (cells + 1) (slots + 6) Q (F0 m hp ls [.ref x])) : W p l e R s m args below meth c H locs cells slots Q (F0 m pc ls st0) := by
  intro T hT Xs
  have hBk : Jvm.Free.BackT l R p e below s args y 3 8 (PreOf R 1 6 (va_Pc (.ref b :: As) B)) (PoT X) := by
    refine Jvm.Free.BackT.of_free (S := headSpec (Cond.code y bytes maxL ret :: kw) rm) (bytes := bytes) (maxL := maxL) (ret := ret) (E := fun a first o t L k n => L = [] ∧ k = 1 ∧ n = 6) hM hR.1 hR.2 ?_ ?_ (fun _ _ _ _ _ _ _ _ _ => trivial) ?_ ?_
    · intro m meth c A a Y hp
      have hw : ∀ w ∈ kw, w.before a A.U = true := fun w hw => word_at Y.warmed (good_of_word (List.mem_filter.mp hw).2) (hk w hw)
      exact ⟨atoms_intro fun w h => hw w (kw_cons w4 h), hw _ w4, hw _ w5, by rw [show (headSpec (Cond.code y bytes maxL ret :: kw) rm).room.cells = 1 from hrm.1]; exact hp.1, by rw [show (headSpec (Cond.code y bytes maxL ret :: kw) rm).room.slots = 6 from hrm.2]; exact hp.2.1⟩
    · intro m meth c A a g mk Y hp
      exact ⟨hp.2.2.1, hbl _ _ _ _ hp.2.2.2⟩
    · intro a st o t hq
      exact ⟨[], 1, 6, hq.2, rfl, rfl, rfl⟩
    · intro m meth c A a g mk v t L k n Y hp hq hF hE
      obtain ⟨rfl, rfl, rfl⟩ := hE
      obtain ⟨⟨x, cell, e1, e2, e3, e4, e5⟩, hF2⟩ := hq
      cases e1
      refine ⟨cell, e2, e3, e4, e5, List.append_nil _, rfl, rfl, hF2.2.2.2.1, fun q hq => ?_⟩
      exact sbn_eq hF2.2.2 hq
  obtain ⟨cellB, hcB, hoB, hclB⟩ := hrecv
  have hsig : ∀ sig, parseMethodDescriptor y.desc = some sig → As.length = sig.parameters.length := fun sig h => by
    have h9 := hd.2.2
    rw [h] at h9
    rw [hn]
    exact (Option.some.inj h9).symm
  obtain ⟨mk, methM, hnamed, hmethM, hstM, habM⟩ := Cond.instanceMethod_spec (hk _ w2)
  obtain ⟨methM', cM, hmethM', -, -, -, -, -, -, hsigM⟩ := Cond.code_spec hnamed (hk _ w4)
  cases hmethM.symm.trans hmethM'
  obtain ⟨c2, r2, m2, q1, q2, q3, q4, kP, hkP, hkPi⟩ := Cond.selects_spec (hk _ w3)
  cases hclB.symm.trans q1
  cases (State.methodFound?_of_named hnamed ⟨hd.1, hd.2.1⟩).symm.trans q2
  cases hnamed.symm.trans q3
  have hselP : selectMethod e.platform s.vm cellB.cls mk = .method mk := by rw [Launch.admits_selectMethod Xs.admits]; exact q4
  subst hst
  obtain ⟨vm₁, X₁, hstep₁⟩ := Xs.invokevirtual hx hown (hk _ w1) hnamed hmethM hstM hkP hkPi ⟨hd.1, hd.2.1⟩ (a := b) (cell := cellB) (by rw [hT]; exact hcB)
    (fun z h => by rw [h] at hoB; cases hoB) hselP hmethM habM hkP hkPi (g := F0 m pc ls (As.reverse ++ .ref b :: rest)) rfl (argsL := As) (rest := rest) (hsig _ hsigM) rfl (by rw [hb]; exact hdg)
  obtain ⟨v, Bp, X', hpost, hsteps⟩ := hBk m meth c ⟨T.setVm vm₁, locs, cells, slots⟩ (F0 m pc ls rest) (.invokevirtual index) mk (.ref b :: As).toArray X₁ rfl (by rw [hml]; exact hsize) (by rw [hb]; exact hdg) (lv_room hW) (X₁.named hnamed) ⟨hcs.1, hcs.2, rfl, hB _ hT X₁.warmed⟩
  obtain ⟨U', l2, c9, s9⟩ := Bp
  obtain ⟨cell, g1, g2, g3, g4, g5, g6, g7, g8, g9⟩ := hpost
  dsimp only [Pt.U, Pt.locs, Pt.cells, Pt.slots] at X' g1 g2 g3 g4 g5 g6 g7 g8 g9 hsteps
  subst g5; subst g6; subst g7
  have hal := X₁.warmed.alike
  have f1 : s.vm.findClass X = some cell.cls := by rw [← hal.findClass]; exact g3
  have f2 : s.vm.assignable cell.cls cell.cls = true := by rw [← hal.assignable]; exact g4
  cases htab : c.exceptionTable.toList with
  | nil => rw [htab] at hsplit; cases hsplit
  | cons x r =>
    rw [htab] at hsplit
    have hr : r = [] := by
      cases r with
      | nil => rfl
      | cons y9 r9 => simp at hsplit
    subst hr
    simp only [List.map_cons, List.map_nil, List.cons.injEq, Prod.mk.injEq, and_true] at hsplit
    obtain ⟨e1, e2, e3, e4⟩ := hsplit
    obtain ⟨vm', X2, hcatch⟩ := X'.caughtLink v (g := F0 m pc ls rest) rfl hown [] x [] htab (fun _ h => by cases h) (by simp [covers, F0, e1, e2, h1, h2]) (by rw [e4]; exact h0) (by rw [e4]; exact hk _ hlink) f1 g1 (by rw [g2]; rfl) f2
    have hTs : (T.setVm vm₁).heap = H := hT
    obtain ⟨t2, a1, b1⟩ := kk v U'.heap (by rw [← hTs]; exact g8) (fun q hq => by rw [← hTs]; exact g9 q (by rw [hTs]; exact hq)) (U'.setVm vm') rfl X2
    refine ⟨t2, hstep₁ _ (fun acts => ?_), b1⟩
    rw [doInvoke_state]
    refine hsteps.trans ?_
    rw [X'.pushThrowing_eq]
    rw [e3] at hcatch
    exact hcatch t2 a1
end THE
