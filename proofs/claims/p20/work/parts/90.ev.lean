/-! what comes to an end at every fuel from some on -/
def Ev {α : Type} (f : Nat → Option α) (r : α) : Prop := ∃ N, ∀ n, N ≤ n → f n = some r
theorem Ev.now {α : Type} {f : Nat → Option α} {r : α} (h : ∀ n, f n = some r) : Ev f r := ⟨0, fun n _ => h n⟩
theorem Ev.pure {α : Type} (r : α) : Ev (fun _ => some r) r := Ev.now fun _ => rfl
theorem Ev.from {α : Type} {f : Nat → Option α} {r : α} (N : Nat) (h : ∀ n, N ≤ n → f n = some r) : Ev f r := ⟨N, h⟩
theorem Ev.bind {α β : Type} {f : Nat → Option α} {g : Nat → α → Option β} {a : α} {b : β} (h : Ev f a) (k : Ev (fun n => g n a) b) : Ev (fun n => (f n).bind (g n)) b := by
  obtain ⟨N, h⟩ := h
  obtain ⟨K, k⟩ := k
  exact ⟨max N K, fun n hn => by show (f n).bind (g n) = some b; rw [h n (by omega)]; exact k n (by omega)⟩
theorem Ev.suc {α : Type} {f : Nat → Option α} {r : α} (h : Ev (fun n => f (n + 1)) r) : Ev f r := by
  obtain ⟨N, h⟩ := h
  exact ⟨N + 1, fun n hn => by obtain ⟨m, rfl⟩ : ∃ m, n = m + 1 := ⟨n - 1, by omega⟩; exact h m (by omega)⟩
theorem Ev.eq {α : Type} {f g : Nat → Option α} {r : α} (h : ∀ n, f n = g n) (k : Ev g r) : Ev f r := by
  obtain ⟨N, k⟩ := k
  exact ⟨N, fun n hn => by rw [h]; exact k n hn⟩
theorem Ev.step {α : Type} {f g : Nat → Option α} {r : α} (h : ∀ n, f (n + 1) = g n) (k : Ev g r) : Ev f r := Ev.suc (Ev.eq h k)
theorem Ev.get {α : Type} {f : Nat → Option α} {r : α} (h : Ev f r) : ∃ n, f n = some r := ⟨h.choose, h.choose_spec _ (Nat.le_refl _)⟩
theorem Ev.one {α : Type} {f : Nat → Option α} {r r' : α} (h : Ev f r) (h' : Ev f r') : r = r' := by
  obtain ⟨N, h⟩ := h
  obtain ⟨K, k⟩ := h'
  exact Option.some.inj ((h (max N K) (by omega)).symm.trans (k (max N K) (by omega)))
theorem ui_at (I : MI) (q i : Nat) (x : Int32) (a b : Nat) : ui I q i x a b = if a = q ∧ b = i then x else I a b := by
  by_cases h : a = q
  · subst h
    rw [ui_row]
    show (if b = i then x else I a b) = _
    by_cases h2 : b = i
    · rw [if_pos h2, if_pos ⟨rfl, h2⟩]
    · rw [if_neg h2, if_neg fun h => h2 h.2]
  · rw [ui_else I i x h, if_neg fun h2 => h h2.1]
theorem uj_at (J : MJ) (q i : Nat) (x : Int64) (a b : Nat) : uj J q i x a b = if a = q ∧ b = i then x else J a b := by
  by_cases h : a = q
  · subst h
    rw [uj_row]
    show (if b = i then x else J a b) = _
    by_cases h2 : b = i
    · rw [if_pos h2, if_pos ⟨rfl, h2⟩]
    · rw [if_neg h2, if_neg fun h => h2 h.2]
  · rw [uj_else J i x h, if_neg fun h2 => h h2.1]
/-- a loop by an index: at each step it answers, or goes on -/
theorem Ev.loop {α β : Type} (F : Nat → α → Nat → Option β) (s : Nat) (Q : Nat → α → Prop) (out : β → Prop)
    (hend : ∀ x, Q s x → ∃ b, Ev (fun n => F n x s) b ∧ out b)
    (hstep : ∀ j x, j < s → Q j x → (∃ b, Ev (fun n => F n x j) b ∧ out b) ∨ ∃ x', Q (j + 1) x' ∧ ∃ N, ∀ n, N ≤ n → F (n + 1) x j = F n x' (j + 1)) :
    ∀ k j x, j + k = s → Q j x → ∃ b, Ev (fun n => F n x j) b ∧ out b := by
  intro k
  induction k with
  | zero => intro j x hj hq; obtain rfl : j = s := by omega
            exact hend x hq
  | succ k ih =>
    intro j x hj hq
    rcases hstep j x (by omega) hq with h | ⟨x', hq', N, hN⟩
    · exact h
    · obtain ⟨b, ⟨K, hK⟩, ho⟩ := ih (j + 1) x' (by omega) hq'
      refine ⟨b, ⟨max N K + 1, fun n hn => ?_⟩, ho⟩
      obtain ⟨m, rfl⟩ : ∃ m, n = m + 1 := ⟨n - 1, by omega⟩
      show F (m + 1) x j = some b
      rw [hN m (by omega)]
      exact hK m (by omega)
theorem Ev.loop0 {α β : Type} (F : Nat → α → Nat → Option β) (s : Nat) (Q : Nat → α → Prop) (out : β → Prop) (x : α) (h0 : Q 0 x)
    (hend : ∀ x, Q s x → ∃ b, Ev (fun n => F n x s) b ∧ out b)
    (hstep : ∀ j x, j < s → Q j x → (∃ b, Ev (fun n => F n x j) b ∧ out b) ∨ ∃ x', Q (j + 1) x' ∧ ∃ N, ∀ n, N ≤ n → F (n + 1) x j = F n x' (j + 1)) :
    ∃ b, Ev (fun n => F n x 0) b ∧ out b := Ev.loop F s Q out hend hstep s 0 x (by omega) h0
def Ends {α : Type} (f : Nat → Option α) : Prop := ∃ r, Ev f r
noncomputable def lim {α : Type} (d : α) (f : Nat → Option α) : α := Classical.epsilon (h := ⟨d⟩) fun r => Ev f r
theorem Ends.lim {α : Type} {f : Nat → Option α} (h : Ends f) (d : α) : Ev f (lim d f) := Classical.epsilon_spec (p := fun r => Ev f r) h
