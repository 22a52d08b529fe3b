/-! the law's start; laid by program -/
set_option maxRecDepth 100000 in
theorem st_K {s : State} {args : Array Value} (hts : ∀ w ∈ lw_tbl, w.before args s = true) : ∃ (D : va_G) (kc : Nat → ClassId), va_K D cls5 (tys5 kc) s := by
  have hk : ∀ w ∈ kw, w.before args s = true := fun w hw => hts w (List.mem_filter.mp hw).1
  obtain ⟨c0, i0, u0⟩ := u_known (ws := kw) hk in_O (hk _ kw_15)
  obtain ⟨c1, i1, u1⟩ := u_known (ws := kw) hk in_P (hk _ kw_24)
  obtain ⟨c2, i2, u2⟩ := u_known (ws := kw) hk in_S (hk _ kw_30)
  obtain ⟨c3, i3, u3⟩ := u_known (ws := kw) hk in_D (hk _ kw_217)
  obtain ⟨c4, i4, u4⟩ := u_known (ws := kw) hk in_M (hk _ kw_532)
  obtain ⟨a0, k0, m0, f0, g0, e0⟩ := Cond.arrayClass_spec (hts (.arrayClass .int) (List.mem_append_right _ (List.mem_of_getElem? (i := 101) rfl)))
  obtain ⟨a1, k1, m1, f1, g1, e1⟩ := Cond.arrayClass_spec (hts (.arrayClass .long) (List.mem_append_right _ (List.mem_of_getElem? (i := 102) rfl)))
  obtain ⟨a2, k2, m2, f2, g2, e2⟩ := Cond.arrayClass_spec (hts (.arrayClass .boolean) (List.mem_append_right _ (List.mem_of_getElem? (i := 634) rfl)))
  obtain ⟨m3, a3, k3, p3, -, g3, e3, f3⟩ := Cond.arrayOver_spec (hts (.arrayOver (.object "OpenDeal$Player")) (List.mem_append_right _ (List.mem_of_getElem? (i := 23) rfl)))
  obtain ⟨m4, a4, k4, p4, g4, e4, f4⟩ := Cond.arrayOver_specA (hts (.arrayOver (.array .int)) (List.mem_append_right _ (List.mem_of_getElem? (i := 104) rfl)))
  refine ⟨(fun c => ([c0, c1, c2, c3, c4] : List ClassId).getD c c0, fun c => ([i0, i1, i2, i3, i4] : List (Nat → Nat)).getD c i0), fun k => ([a0, a1, a2, a3, a4] : List ClassId).getD k a0, ?_, ?_⟩
  · intro c q hq
    match c, hq with
    | 0, hq => cases hq; exact u0
    | 1, hq => cases hq; exact u1
    | 2, hq => cases hq; exact u2
    | 3, hq => cases hq; exact u3
    | 4, hq => cases hq; exact u4
  · intro k q hq
    match k, hq with
    | 0, hq => cases hq; exact ⟨fun n z => ⟨fun k h => (by cases h), k0, g0, m0, e0⟩, f0⟩
    | 1, hq => cases hq; exact ⟨fun n z => ⟨fun k h => (by cases h), k1, g1, m1, e1⟩, f1⟩
    | 2, hq => cases hq; exact ⟨fun n z => ⟨fun k h => (by cases h), k2, g2, m2, e2⟩, f2⟩
    | 3, hq => cases hq; exact ⟨fun n z => ⟨fun k h => (by cases h), k3, g3, m3, e3⟩, k3, m3, g3, e3, p3, f3⟩
    | 4, hq => cases hq; exact ⟨fun n z => ⟨fun k h => (by cases h), k4, g4, m4, e4⟩, f4⟩
theorem twk_args {A A' : Array Value} {s : State} : ∀ c : Cond, twk c = true → c.before A s = true → c.before A' s = true := by
  intro c hc h
  unfold twk at hc
  split at hc
  · exact h
  · exact h
  · have := Cond.onTables_vm (A := A) (A' := A') (U := s) (U' := s) s.vm c hc
    rw [State.setVm_self] at this
    rw [← this]
    exact h
def twin (a : Cond) : Bool := decide (a ∈ tables_1) || decide (a = .isRef (.static "java/lang/Throwable" "UNASSIGNED_STACK" "[Ljava/lang/StackTraceElement;")) || decide (a = .isRef (.static "java/lang/Throwable" "SUPPRESSED_SENTINEL" "Ljava/util/List;"))
set_option maxRecDepth 100000 in
theorem twin_I : (Jvm.Bundle.ownAtoms "OpenDeal" 119 "java/lang/IndexOutOfBoundsException" exN).all twin = true := by decide +kernel
set_option maxRecDepth 100000 in
theorem twin_S : (Jvm.Bundle.ownAtoms "OpenDeal" 223 "java/lang/IllegalStateException" exN).all twin = true := by decide +kernel
theorem st_TW {ic : Nat} {X : String} {s : State} {args : Array Value} (h : (Jvm.Bundle.ownAtoms "OpenDeal" ic X exN).all twin = true) (hts : ∀ w ∈ lw_tbl, w.before args s = true) (hgv : (Jvm.Cond.and given_1 narrow_1).before args s = true) : TW ic X s := by
  have hs := flat_of_before _ hgv
  intro A a ha
  refine twk_args (A := args) a (List.all_eq_true.mp (tw_all ic X) a ha) ?_
  have h1 := List.all_eq_true.mp h a ha
  unfold twin at h1
  simp only [Bool.or_eq_true, decide_eq_true_eq] at h1
  rcases h1 with (h1 | h1) | h1
  · exact hts a (List.mem_append_right _ h1)
  · rw [h1]; exact hs _ (by decide +kernel)
  · rw [h1]; exact hs _ (by decide +kernel)
theorem st_R {ik : Nat} {tx : String} {s : State} {args : Array Value} (h1 : (Cond.stringRef "OpenDeal" ik tx).before args s = true) (h2 : (Cond.exactly (.string "OpenDeal" ik) "java/lang/String").before args s = true) : ∃ q, vk_R "OpenDeal" ik tx q s := by
  obtain ⟨a2, c, cA, kA, q1, -⟩ := Cond.exactly_spec (args := args) (first := s) (o := none) (s := s) (idx := []) (t := .string "OpenDeal" ik) (cls := "java/lang/String") h2
  exact ⟨a2, h1, q1⟩
set_option maxRecDepth 100000 in
theorem st_BT {s : State} {args : Array Value} (hts : ∀ w ∈ lw_tbl, w.before args s = true) (hgv : (Jvm.Cond.and given_1 narrow_1).before args s = true) : ∃ tw, BT tw s := by
  have hs := flat_of_before _ hgv
  have harr : (Cond.arrayOf (.static "OpenDeal$Numbers" "WITNESSES" "[I") .int).before args s = true := hs _ (by decide +kernel)
  have hl : (Cond.eq (.length (.static "OpenDeal$Numbers" "WITNESSES" "[I")) (.int 4)).before args s = true := hs _ (by decide +kernel)
  have g0 : (Cond.eq (.elem (.static "OpenDeal$Numbers" "WITNESSES" "[I") (.int 0)) (.int 2)).before args s = true := hs _ (by decide +kernel)
  have g1 : (Cond.eq (.elem (.static "OpenDeal$Numbers" "WITNESSES" "[I") (.int 1)) (.int 3)).before args s = true := hs _ (by decide +kernel)
  have g2 : (Cond.eq (.elem (.static "OpenDeal$Numbers" "WITNESSES" "[I") (.int 2)) (.int 5)).before args s = true := hs _ (by decide +kernel)
  have g3 : (Cond.eq (.elem (.static "OpenDeal$Numbers" "WITNESSES" "[I") (.int 3)) (.int 7)).before args s = true := hs _ (by decide +kernel)
  have ev : ∀ {t : Term} {v : Int32}, (Cond.eq t (.int v)).before args s = true → t.eval args s none [] s = some (.int v) := fun {t v} h => by
    obtain ⟨w, h1, h2⟩ := Cond.eq_one (show (Cond.eq t (.int v)).holds args s none s [] = true from h)
    rw [h1, ← h2]
    rfl
  obtain ⟨tw, e1, e2⟩ := va_Tof (tm := .static "OpenDeal$Numbers" "WITNESSES" "[I") (ty := .int) (N := 4) (f := fun j => .int (wtv j)) (A := fun _ => False) (by decide) harr (ev hl) (fun j hj => by
    rcases (show j = 0 ∨ j = 1 ∨ j = 2 ∨ j = 3 by omega) with rfl | rfl | rfl | rfl
    · exact ev g0
    · exact ev g1
    · exact ev g2
    · exact ev g3) (fun _ _ h => h)
  exact ⟨tw, va_Zof (args := args) (hts _ (List.mem_append_right _ (List.mem_of_getElem? (i := 151) rfl))) (hts _ (by decide +kernel)) e1 (fun _ _ h => h), e2⟩
set_option maxRecDepth 100000 in
theorem st_B {s : State} {args : Array Value} (hts : ∀ w ∈ lw_tbl, w.before args s = true) (hgv : (Jvm.Cond.and given_1 narrow_1).before args s = true) : ∃ tw q1 q2 q3, LBt tw q1 q2 q3 s := by
  have hs := flat_of_before _ hgv
  obtain ⟨tw, h1⟩ := st_BT hts hgv
  obtain ⟨q1, r1⟩ := st_R (ik := 117) (tx := "no such seal") (hts _ (List.mem_append_right _ (List.mem_of_getElem? (i := 472) rfl))) (hs _ (by decide +kernel))
  obtain ⟨q2, r2⟩ := st_R (ik := 136) (tx := "no such place, or no prime") (hts _ (List.mem_append_right _ (List.mem_of_getElem? (i := 506) rfl))) (hs _ (by decide +kernel))
  obtain ⟨q3, r3⟩ := st_R (ik := 221) (tx := "not all secrets are shown") (hts _ (List.mem_append_right _ (List.mem_of_getElem? (i := 524) rfl))) (hs _ (by decide +kernel))
  exact ⟨tw, q1, q2, q3, h1, st_TW twin_I hts hgv, st_TW twin_S hts hgv, r1, r2, r3⟩
