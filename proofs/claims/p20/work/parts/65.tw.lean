/-! the words of a throw, kept -/
def HSt (H1 H2 : Heap) : Prop := ∀ (q : Nat) (cell : Cell), H1[q]? = some cell → cell.vm.isStatics = true → H2[q]? = some cell
theorem HSt.rf {H : Heap} : HSt H H := fun _ _ h _ => h
theorem HSt.trans {H1 H2 H3 : Heap} (a : HSt H1 H2) (b : HSt H2 H3) : HSt H1 H3 := fun q c h s => b q c (a q c h s) s
theorem hs_ff {V U : State} (hv : V.vm = U.vm) (o n d : String) : V.fieldFound? o n d = U.fieldFound? o n d := by
  unfold State.fieldFound?
  rw [hv]
theorem hs_lay {V U : State} (hv : V.vm = U.vm) (hH : HSt V.heap U.heap) {A : Array Value} {o n d : String} (h : (Cond.laysStatic o n d).before A V = true) : (Cond.laysStatic o n d).before A U = true := by
  simp only [Cond.before, Cond.holds, Cond.value] at h ⊢
  rw [← hs_ff hv, ← hv]
  cases h1 : V.vm.findClass o with
  | none => rw [h1] at h; cases h
  | some c =>
    rw [h1] at h
    cases h2 : V.fieldFound? o n d with
    | none => rw [h2] at h; cases h
    | some r =>
      obtain ⟨c', k, i, f⟩ := r
      rw [h2] at h
      simp only [] at h ⊢
      cases h3 : k.statics with
      | none => rw [h3] at h; simp at h
      | some a =>
        rw [h3] at h
        simp only [Option.bind_some] at h ⊢
        cases h4 : V.heap[a]? with
        | none => rw [h4] at h; simp at h
        | some cell =>
          rw [h4] at h
          have h5 : cell.vm.isStatics = true := by
            simp only [Option.map_some, beq_iff_eq, Option.some.injEq, Bool.and_eq_true] at h
            exact h.1.1.1.2
          rw [hH a cell h4 h5]
          exact h
theorem hs_ref {V U : State} (hv : V.vm = U.vm) (hH : HSt V.heap U.heap) {A : Array Value} {o n d : String} (h : (Cond.isRef (.static o n d)).before A V = true) : (Cond.isRef (.static o n d)).before A U = true := by
  simp only [Cond.before, Cond.holds, Cond.value, Term.eval, State.fieldNamed?] at h ⊢
  rw [← hs_ff hv]
  cases h2 : V.fieldFound? o n d with
  | none => rw [h2] at h; simp at h
  | some r =>
    obtain ⟨c', k, i, f⟩ := r
    rw [h2] at h
    simp only [Option.bind_eq_bind, Option.bind_some] at h ⊢
    cases h6 : (f.isStatic == true) with
    | false => rw [h6] at h; simp at h
    | true =>
      rw [h6] at h
      cases h3 : k.statics with
      | none => simp [h3] at h
      | some a =>
        cases h4 : V.heap[a]? with
        | none => simp [h3, h4] at h
        | some cell =>
          cases h5 : cell.vm.isStatics with
          | false => simp [h3, h4, h5] at h
          | true => simpa [h3, h4, h5, hH a cell h4 h5] using h
def twk : Cond → Bool
  | .laysStatic .. => true
  | .isRef (.static ..) => true
  | c => c.onTables
theorem hs_twk {V U : State} (hv : V.vm = U.vm) (hH : HSt V.heap U.heap) {A A' : Array Value} : ∀ c : Cond, twk c = true → c.before A V = true → c.before A U = true := by
  intro c hc h
  have key : c.onTables = true → c.before A U = true := fun h9 => by
    have := Cond.onTables_vm (A := A) (A' := A) (U := V) (U' := U) U.vm c h9
    rw [State.setVm_self, ← hv, State.setVm_self] at this
    rw [← this]
    exact h
  unfold twk at hc
  split at hc
  · exact hs_lay hv hH h
  · exact hs_ref hv hH h
  · exact key hc
theorem tw_all (ic : Nat) (X : String) : (Jvm.Bundle.ownAtoms "OpenDeal" ic X exN).all twk = true := by rfl
theorem tw_to {ic : Nat} {X : String} {s U : State} (h : TW ic X s) (hH : HSt s.heap U.heap) (hW : s.WarmedH U.vm) : TW ic X U := by
  intro A a ha
  have h1 : a.before A (s.setVm U.vm) = true := Cond.before_shiftedFace (State.Shifted.of_warmed hW) a (Jvm.Bundle.ownAtoms_keepsFace a ha) (h A a ha)
  exact hs_twk (V := s.setVm U.vm) (U := U) (A' := A) rfl hH a (List.all_eq_true.mp (tw_all ic X) a ha) h1
theorem tw_mv {ic : Nat} {X : String} {s U : State} (h : TW ic X s) (hU : U.heap = s.heap) (hW : s.WarmedH U.vm) : TW ic X U := tw_to h (by rw [hU]; exact HSt.rf) hW
theorem tw_bl {ic : Nat} {X : String} {U : State} {g : JFrame} {mk : MethodId} {a : Array Value} (h : TW ic X U) : TW ic X (U.calling g mk a) := by
  intro A w hw
  exact hs_twk (V := U) (U := U.calling g mk a) (A' := A) rfl HSt.rf w (List.all_eq_true.mp (tw_all ic X) w hw) (h A w hw)
