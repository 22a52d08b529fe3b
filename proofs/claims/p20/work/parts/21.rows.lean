/-! own rows: the words, the let, the branches, calls that only read -/
def kw : List Cond := lw_tbl.filter goodWord
theorem kw_of {w : Cond} (h : w ∈ lw_tbl) (g : goodWord w = true) : w ∈ kw := List.mem_filter.mpr ⟨h, g⟩
theorem kw_good {ws : List Cond} (h : ∀ w ∈ ws, w ∈ kw) : GoodIn kw ws := fun w hw => ⟨h w hw, good_of_word (List.mem_filter.mp (h w hw)).2⟩
theorem kw_cons {c w : Cond} (h : c ∈ kw) (hw : w ∈ c :: kw) : w ∈ kw := by
  rcases List.mem_cons.mp hw with rfl | hw
  · exact h
  · exact hw
def tl {α β : Type} (e : α) (f : α → Option β) : Option β := f e
theorem tl_at {α β : Type} {e x : α} {f : α → Option β} {r : β} (hx : x = e) (h : tl e f = some r) : f x = some r := by subst hx; exact h
theorem tl_eq {α β : Type} (e : α) (f : α → Option β) : tl e f = f e := rfl
theorem ob_out {α β : Type} {x : Option α} {f : α → Option β} {r : β} (h : x.bind f = some r) : ∃ v, x = some v ∧ f v = some r := by
  cases x with
  | none => cases h
  | some v => exact ⟨v, rfl, h⟩
theorem oi_out {β : Type} {c : Prop} {d : Decidable c} {a : Option β} {r : β} (h : (if c then a else none) = some r) : c ∧ a = some r := by
  by_cases hc : c
  · rw [if_pos hc] at h
    exact ⟨hc, h⟩
  · rw [if_neg hc] at h
    cases h
theorem ip_out {β : Type} {c : Prop} {d : Decidable c} {a b : Option β} {r : β} (hc : c) (h : (if c then a else b) = some r) : a = some r := by rw [if_pos hc] at h; exact h
theorem in_out {β : Type} {c : Prop} {d : Decidable c} {a b : Option β} {r : β} (hc : ¬ c) (h : (if c then a else b) = some r) : b = some r := by rw [if_neg hc] at h; exact h
section ROC
variable {p : Program} {l : Launch} {e : Env} {R : Room} {s : State} {m : MethodId} {args : Array Value} {below : List Frame} {meth : Method} {c : Code} {H : Heap} {locs : List Loc} {cells slots : Nat} {Q : State → Prop}
variable {cc bytes : ByteArray} {pc nL maxL index n : Nat} {ls : Array Slot} {As rest st0 : List Value} {own : String} {y : MethodName} {ret : Option FieldType} {rm : Room} {B : State → Prop}
theorem ro_Si {v : Int32} (hx : p.tables.exec = Jvm.exec) (hb : c.code = cc) (hml : c.maxLocals = nL) (hown : s.vm.findClass own = some m.cls) (hk : ∀ w ∈ kw, w.before args s = true)
    (hM : Met l y (Cond.code y bytes maxL ret :: kw) rm (va_Pc As B) (vp_Si (fun z => z = v)) 0 0 (fun _ => False)) (hB : ∀ U : State, U.heap = H → s.WarmedH U.vm → B U) (hbl : ∀ (U : State) (g : JFrame) (mk : MethodId) (a : Array Value), B U → B (U.calling g mk a))
    (w1 : Cond.methodLink own index y ∈ kw) (w2 : Cond.static y ∈ kw) (w3 : Cond.initialized y.cls ∈ kw) (w4 : Cond.code y bytes maxL ret ∈ kw) (hrm : rm.cells = 0 ∧ rm.slots = 0)
    (hd : y.cls ≠ "java/lang/invoke/MethodHandle" ∧ y.cls ≠ "java/lang/invoke/VarHandle" ∧ (parseMethodDescriptor y.desc).map (fun d => d.parameters.length) = some n) (hR : rm.frames + 1 ≤ R.frames ∧ 8 + (maxL + 11) + rm.locals ≤ R.locals)
    (hn : As.length = n) (hsize : ls.size = nL) (hst : st0 = As.reverse ++ rest) (hW : (rest.map fun v => v.category).sum ≤ 8) (hdg : decode cc pc = .ok (.invokestatic index, 3)) (hcs : cells ≤ R.cells ∧ slots ≤ R.slots)
    (kk : W p l e R s m args below meth c H locs cells slots Q (F0 m (pc + 3) ls (.int v :: rest))) : W p l e R s m args below meth c H locs cells slots Q (F0 m pc ls st0) := by
  refine vp_callSi (W.runS (Ts := kw) (As := As) ⟨hx, hb, hml, hown, hk⟩ hM (va_cwS n hk (kw_good (fun w hw => ?_)) rfl hrm.1 hrm.2 hd hR) ⟨fun a U g mk q => ⟨q.1, hbl U g mk a q.2⟩, fun U hU hW => ⟨rfl, hB U hU hW⟩⟩ rfl hn hsize hst (lv_room hW) hdg hcs) (fun r hr => ?_)
  · unfold va_wsS at hw
    rcases List.mem_append.mp hw with h | h
    · simp only [List.mem_cons, List.not_mem_nil, or_false] at h
      rcases h with rfl | rfl | rfl
      · exact w1
      · exact w2
      · exact w3
    · exact kw_cons w4 h
  · subst hr
    exact kk
theorem ro_Sl {v : Int64} (hx : p.tables.exec = Jvm.exec) (hb : c.code = cc) (hml : c.maxLocals = nL) (hown : s.vm.findClass own = some m.cls) (hk : ∀ w ∈ kw, w.before args s = true)
    (hM : Met l y (Cond.code y bytes maxL ret :: kw) rm (va_Pc As B) (vp_Sl (fun z => z = v)) 0 0 (fun _ => False)) (hB : ∀ U : State, U.heap = H → s.WarmedH U.vm → B U) (hbl : ∀ (U : State) (g : JFrame) (mk : MethodId) (a : Array Value), B U → B (U.calling g mk a))
    (w1 : Cond.methodLink own index y ∈ kw) (w2 : Cond.static y ∈ kw) (w3 : Cond.initialized y.cls ∈ kw) (w4 : Cond.code y bytes maxL ret ∈ kw) (hrm : rm.cells = 0 ∧ rm.slots = 0)
    (hd : y.cls ≠ "java/lang/invoke/MethodHandle" ∧ y.cls ≠ "java/lang/invoke/VarHandle" ∧ (parseMethodDescriptor y.desc).map (fun d => d.parameters.length) = some n) (hR : rm.frames + 1 ≤ R.frames ∧ 8 + (maxL + 11) + rm.locals ≤ R.locals)
    (hn : As.length = n) (hsize : ls.size = nL) (hst : st0 = As.reverse ++ rest) (hW : (rest.map fun v => v.category).sum ≤ 8) (hdg : decode cc pc = .ok (.invokestatic index, 3)) (hcs : cells ≤ R.cells ∧ slots ≤ R.slots)
    (kk : W p l e R s m args below meth c H locs cells slots Q (F0 m (pc + 3) ls (.long v :: rest))) : W p l e R s m args below meth c H locs cells slots Q (F0 m pc ls st0) := by
  refine vp_callSl (W.runS (Ts := kw) (As := As) ⟨hx, hb, hml, hown, hk⟩ hM (va_cwS n hk (kw_good (fun w hw => ?_)) rfl hrm.1 hrm.2 hd hR) ⟨fun a U g mk q => ⟨q.1, hbl U g mk a q.2⟩, fun U hU hW => ⟨rfl, hB U hU hW⟩⟩ rfl hn hsize hst (lv_room hW) hdg hcs) (fun r hr => ?_)
  · unfold va_wsS at hw
    rcases List.mem_append.mp hw with h | h
    · simp only [List.mem_cons, List.not_mem_nil, or_false] at h
      rcases h with rfl | rfl | rfl
      · exact w1
      · exact w2
      · exact w3
    · exact kw_cons w4 h
  · subst hr
    exact kk
end ROC
