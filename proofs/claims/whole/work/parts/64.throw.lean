/-! methods that throw: the contract, and its end -/
def thX (X : String) (s t : State) (o : Outcome) : Prop := ∃ (x : Addr) (cell : Cell), o = .threw x ∧ t.heap[x]? = some cell ∧ cell.vm = .none ∧ s.vm.findClass X = some cell.cls
def MQT (below : List Frame) (X : String) (s : State) (mc ms : Nat) : State → Prop := fun t => ∃ o, t.status = .running ∧ Ended t below o ∧ thX X s t o ∧ Jvm.Free.FrameEndT s o t [] mc ms
def MetT (l : Launch) (y : MethodName) (ws : List Cond) (rm : Room) (Pc : Array Value → State → Prop) (X : String) (mc ms : Nat) : Prop := MetFree l y (headSpec ws rm) Pc (fun _ _ _ _ _ => True) (fun _ st o t => thX X st t o ∧ Jvm.Free.FrameEndT st o t [] mc ms)
theorem MetT.ofW {l : Launch} {y : MethodName} {ws ws' : List Cond} {rm : Room} {Pc : Array Value → State → Prop} {X : String} {mc ms : Nat} {cc : ByteArray} {maxL : Nat} {ret : Option FieldType}
    (hy : plainName y.cls = true) (hw : ws = Cond.code y cc maxL ret :: ws')
    (body : ∀ p e s m args below meth c s₁, BodyLoose p l y (headSpec ws rm) cc maxL ret e s m args below meth c s₁ → c.maxLocals = maxL → Pc args s →
      W p l e (headSpec ws rm).room s m args below meth c s.heap [] 0 0 (MQT below X s mc ms) (entryFrame m args maxL)) : MetT l y ws rm Pc X mc ms := by
  refine MetFree.of_bodyS (code := cc) (maxLocals := maxL) (ret := ret) hy ?_ ?_
  · intro args s m h hn
    obtain ⟨meth, c, h1, h2, h3, h4, h5, h6, -, -⟩ := Cond.code_spec hn (atoms_spec (ws := ws) h _ (by rw [hw]; exact List.mem_cons_self))
    exact ⟨meth, c, h1, h2, h3, h4, h5, h6⟩
  · intro p e s m args below meth c s₁ B hml hP _
    have hh0 : s₁.heap = s.heap := by rw [B.state]; rfl
    obtain ⟨t, a1, o, b1, b2, b3⟩ := body p e s m args below meth c s₁ B hml hP s₁ hh0 (Stand.of_body B)
    exact ⟨t, o, a1, b1, b2, b3⟩
abbrev exN : List String := ["java/lang/RuntimeException", "java/lang/Exception"]
/-- the words that a throw of X with a text wants, whatever the arguments -/
def TW (ic : Nat) (X : String) (U : State) : Prop := ∀ (A : Array Value), ∀ a ∈ Jvm.Bundle.ownAtoms "OpenDeal" ic X exN, a.before A U = true
section THE
variable {p : Program} {l : Launch} {e : Env} {R : Room} {s : State} {m : MethodId} {args : Array Value} {below : List Frame} {meth : Method} {c : Code} {H : Heap} {cells slots : Nat}
variable {cc : ByteArray} {pc nL ic ik : Nat} {ls : Array Slot} {X tx : String}
/-- new X; dup; ldc; the constructor; athrow -/
theorem thr_end (hx : p.tables.exec = Jvm.exec) (hb : c.code = cc) (hml : c.maxLocals = nL) (hfl : l.flags = pinnedFlags ++ [noTraceFlag]) (hlocks : meth.locks = false) (hown : s.vm.findClass "OpenDeal" = some m.cls) (hno : c.exceptionTable.isEmpty = true)
    (hcls : Jvm.Bundle.fit X = true) (hT : TW ic X s) {q : Nat} (hR9 : vk_R "OpenDeal" ik tx q s) {ix : Nat} (hclink : (Cond.classLink "OpenDeal" ix X).before args s = true) (hins : (Cond.instantiable X 6).before args s = true) (hini : (Cond.initialized X).before args s = true)
    (hsize : ls.size = nL) (d0 : decode cc pc = .ok (.new ix, 3)) (d3 : decode cc (pc + 3) = .ok (.dup, 1)) (d4 : decode cc (pc + 4) = .ok (.ldc ik, 2)) (d6 : decode cc (pc + 6) = .ok (.invokespecial ic, 3)) (d9 : decode cc (pc + 9) = .ok (.athrow, 1))
    (hHs : s.heap.size ≤ H.size) (hc1 : cells + 1 ≤ R.cells) (hs1 : slots + 6 ≤ R.slots) (hRf : 5 < R.frames) (hRl : 83 ≤ R.locals) : W p l e R s m args below meth c H [] cells slots (MQT below X s (cells + 1) (slots + 6)) (F0 m pc ls []) := by
  obtain ⟨cX, kX0, hfX, -⟩ := Cond.instantiable_spec hins
  refine W.newcK (h := H.size) hx hb hown hclink hins hini rfl d0 hc1 hs1 hfX rfl (fun H' kX hkX hcell hsz hold => ?_)
  refine W.eq (g2 := F0 m (pc + 3) ls [.ref H.size]) rfl ?_
  refine lv_dup hx hb d3 rfl ?_
  refine va_ldcS hx hb hown hR9 d4 ?_
  intro T hTT Xs
  have htr := Launch.traces_off hfl Xs.admits
  obtain ⟨U, hst, hrun, hend, hW, hsame, ce, hce, K⟩ := Xs.ctorThrowS (names := exN) hx htr hown hcls (by decide +kernel) (hT args) (fun x hx => by cases hx) (a := H.size) hfX hkX (by rw [hTT]; exact hcell) hHs (msg := .ref q) rfl (g := F0 m (pc + 3 + 1 + 2) ls [.ref q, .ref H.size, .ref H.size]) rfl (by rw [hml]; exact hsize) rfl rfl (rest := []) rfl (by rw [hb]; exact d6) (by rw [hb]; exact d9) (fun x hx => by
    have h0 : c.exceptionTable.toList = [] := by simpa using hno
    rw [h0] at hx
    cases hx) (by simpa using hRf) (by
    show 2 * 0 + _ + _ ≤ _
    simp [Value.category]
    omega) hlocks
  exact ⟨U, hst, .threw H.size, hrun, hend, ⟨H.size, ce, rfl, hce, K.vm, K.cls⟩, ⟨⟨_, rfl⟩, hW, hsame⟩⟩
end THE
