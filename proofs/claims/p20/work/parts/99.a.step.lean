/-! each call of the law keeps the relation; laid by program -/
def RM (M : LM) : Prop := R M.1 M.2.1 M.2.2.1 M.2.2.2.1
theorem kp_0 (xs : Nat → Int32) (i : Nat) {I : MI} {J : MJ} {I' : MI} {J' : MJ} (f : Nat → Int64) (g : R I J I' J') : ∃ M', ls_0 xs i I J I' J' f M' ∧ RM M' := by
  obtain ⟨r, r', e1, e2, e3, hR⟩ := call_prime g (xs (7 * i + 1))
  obtain ⟨n, h⟩ := e1.get
  obtain ⟨n', h'⟩ := e2.get
  exact ⟨(r.2.1, r.2.2, r'.2.1, r'.2.2, f), ⟨n, r, n', r', h, h', rfl⟩, hR⟩
theorem kp_1 (xs : Nat → Int32) (i : Nat) {I : MI} {J : MJ} {I' : MI} {J' : MJ} (f : Nat → Int64) (g : R I J I' J') : ∃ M', ls_1 xs i I J I' J' f M' ∧ RM M' := by
  obtain ⟨r, r', e1, e2, hR⟩ := call_clear g 
  obtain ⟨n, h⟩ := e1.get
  obtain ⟨n', h'⟩ := e2.get
  exact ⟨(r.1, r.2, r'.1, r'.2, f), ⟨n, r, n', r', h, h', rfl⟩, hR⟩
theorem kp_2 (xs : Nat → Int32) (i : Nat) {I : MI} {J : MJ} {I' : MI} {J' : MJ} (f : Nat → Int64) (g : R I J I' J') : ∃ M', ls_2 xs i I J I' J' f M' ∧ RM M' := by
  obtain ⟨r, r', e1, e2, e3, hR⟩ := call_seat g (xs (7 * i + 1))
  obtain ⟨n, h⟩ := e1.get
  obtain ⟨n', h'⟩ := e2.get
  exact ⟨(r.2.1, r.2.2, r'.2.1, r'.2.2, f), ⟨n, r, n', r', h, h', rfl⟩, hR⟩
theorem kp_3 (xs : Nat → Int32) (i : Nat) {I : MI} {J : MJ} {I' : MI} {J' : MJ} (f : Nat → Int64) (g : R I J I' J') : ∃ M', ls_3 xs i I J I' J' f M' ∧ RM M' := by
  obtain ⟨r, r', e1, e2, e3, hR⟩ := call_deal g 
  obtain ⟨n, h⟩ := e1.get
  obtain ⟨n', h'⟩ := e2.get
  exact ⟨(r.2.1, r.2.2, r'.2.1, r'.2.2, f), ⟨n, r, n', r', h, h', rfl⟩, hR⟩
theorem kp_4 (xs : Nat → Int32) (i : Nat) {I : MI} {J : MJ} {I' : MI} {J' : MJ} (f : Nat → Int64) (g : R I J I' J') : ∃ M', ls_4 xs i I J I' J' f M' ∧ RM M' := by
  obtain ⟨r, r', e1, e2, e3, hR⟩ := call_seal g (xs (7 * i + 1)) (xs (7 * i + 2)) (lgp (xs (7 * i + 3)) (xs (7 * i + 4))) (lgp (xs (7 * i + 5)) (xs (7 * i + 6)))
  obtain ⟨n, h⟩ := e1.get
  obtain ⟨n', h'⟩ := e2.get
  exact ⟨(r.2.1, r.2.2, r'.2.1, r'.2.2, f), ⟨n, r, n', r', h, h', rfl⟩, hR⟩
theorem kp_5 (xs : Nat → Int32) (i : Nat) {I : MI} {J : MJ} {I' : MI} {J' : MJ} (f : Nat → Int64) (g : R I J I' J') : ∃ M', (ls_5r xs i I J I' J' f M' ∨ ls_5t xs i I J I' J' f M') ∧ RM M' := by
  rcases call_sealOf g (xs (7 * i + 1)) with ⟨v, r, e1, e2, e3, t, hR⟩ | ⟨r, e1, e2, t, hR⟩
  · obtain ⟨n, h⟩ := e1.get
    obtain ⟨n', h'⟩ := e2.get
    exact ⟨(I, J, r.2.1, r.2.2, (vp_updL f 0 v)), Or.inl ⟨n, v, n', r, h, h', rfl⟩, hR⟩
  · obtain ⟨n, h⟩ := e1.get
    obtain ⟨n', h'⟩ := e2.get
    exact ⟨(I, J, r.2.1, r.2.2, f), Or.inr ⟨n, n', r, h, h', rfl⟩, hR⟩
theorem kp_6 (xs : Nat → Int32) (i : Nat) {I : MI} {J : MJ} {I' : MI} {J' : MJ} (f : Nat → Int64) (g : R I J I' J') : ∃ M', ls_6 xs i I J I' J' f M' ∧ RM M' := by
  obtain ⟨r, r', e1, e2, e3, hR⟩ := call_turn g (xs (7 * i + 1))
  obtain ⟨n, h⟩ := e1.get
  obtain ⟨n', h'⟩ := e2.get
  exact ⟨(r.2.1, r.2.2, r'.2.1, r'.2.2, f), ⟨n, r, n', r', h, h', rfl⟩, hR⟩
theorem kp_7 (xs : Nat → Int32) (i : Nat) {I : MI} {J : MJ} {I' : MI} {J' : MJ} (f : Nat → Int64) (g : R I J I' J') : ∃ M', (ls_7r xs i I J I' J' f M' ∨ ls_7t xs i I J I' J' f M') ∧ RM M' := by
  rcases call_laid g (xs (7 * i + 1)) with ⟨v, r, e1, e2, t, hR⟩ | ⟨r, e1, e2, t, hR⟩
  · obtain ⟨n, h⟩ := e1.get
    obtain ⟨n', h'⟩ := e2.get
    exact ⟨(I, J, r.2.1, r.2.2, (vp_updL f 0 v.toInt64)), Or.inl ⟨n, v, n', r, h, h', rfl⟩, hR⟩
  · obtain ⟨n, h⟩ := e1.get
    obtain ⟨n', h'⟩ := e2.get
    exact ⟨(I, J, r.2.1, r.2.2, f), Or.inr ⟨n, n', r, h, h', rfl⟩, hR⟩
theorem kp_8 (xs : Nat → Int32) (i : Nat) {I : MI} {J : MJ} {I' : MI} {J' : MJ} (f : Nat → Int64) (g : R I J I' J') : ∃ M', ls_8 xs i I J I' J' f M' ∧ RM M' := by
  obtain ⟨r, r', e1, e2, e3, hR⟩ := call_assign g (xs (7 * i + 1)) (xs (7 * i + 2))
  obtain ⟨n, h⟩ := e1.get
  obtain ⟨n', h'⟩ := e2.get
  exact ⟨(r.2.1, r.2.2, r'.2.1, r'.2.2, f), ⟨n, r, n', r', h, h', rfl⟩, hR⟩
theorem kp_9 (xs : Nat → Int32) (i : Nat) {I : MI} {J : MJ} {I' : MI} {J' : MJ} (f : Nat → Int64) (g : R I J I' J') : ∃ M', ls_9 xs i I J I' J' f M' ∧ RM M' := by
  obtain ⟨r, r', e1, e2, e3, hR⟩ := call_give g (xs (7 * i + 1)) (xs (7 * i + 2))
  obtain ⟨n, h⟩ := e1.get
  obtain ⟨n', h'⟩ := e2.get
  exact ⟨(r.2.1, r.2.2, r'.2.1, r'.2.2, f), ⟨n, r, n', r', h, h', rfl⟩, hR⟩
theorem kp_10 (xs : Nat → Int32) (i : Nat) {I : MI} {J : MJ} {I' : MI} {J' : MJ} (f : Nat → Int64) (g : R I J I' J') : ∃ M', ls_10 xs i I J I' J' f M' ∧ RM M' := by
  obtain ⟨r, r', e1, e2, hR⟩ := call_open g (xs (7 * i + 1)) (xs (7 * i + 2))
  obtain ⟨n, h⟩ := e1.get
  obtain ⟨n', h'⟩ := e2.get
  exact ⟨(I, J, r'.2.1, r'.2.2, f), ⟨n, r, n', r', h, h', rfl⟩, hR⟩
theorem kp_11 (xs : Nat → Int32) (i : Nat) {I : MI} {J : MJ} {I' : MI} {J' : MJ} (f : Nat → Int64) (g : R I J I' J') : ∃ M', ls_11 xs i I J I' J' f M' ∧ RM M' := by
  obtain ⟨r, r', e1, e2, e3, hR⟩ := call_round g 
  obtain ⟨n, h⟩ := e1.get
  obtain ⟨n', h'⟩ := e2.get
  exact ⟨(r.2.1, r.2.2, r'.2.1, r'.2.2, f), ⟨n, r, n', r', h, h', rfl⟩, hR⟩
theorem kp_12 (xs : Nat → Int32) (i : Nat) {I : MI} {J : MJ} {I' : MI} {J' : MJ} (f : Nat → Int64) (g : R I J I' J') : ∃ M', ls_12 xs i I J I' J' f M' ∧ RM M' := by
  obtain ⟨r, r', e1, e2, e3, hR⟩ := call_bet g (xs (7 * i + 1)) (xs (7 * i + 2)) (xs (7 * i + 3))
  obtain ⟨n, h⟩ := e1.get
  obtain ⟨n', h'⟩ := e2.get
  exact ⟨(r.2.1, r.2.2, r'.2.1, r'.2.2, f), ⟨n, r, n', r', h, h', rfl⟩, hR⟩
theorem kp_13 (xs : Nat → Int32) (i : Nat) {I : MI} {J : MJ} {I' : MI} {J' : MJ} (f : Nat → Int64) (g : R I J I' J') : ∃ M', ls_13 xs i I J I' J' f M' ∧ RM M' := by
  obtain ⟨r, r', e1, e2, e3, hR⟩ := call_settle g (xs (7 * i + 1))
  obtain ⟨n, h⟩ := e1.get
  obtain ⟨n', h'⟩ := e2.get
  exact ⟨(r.2.1, r.2.2, r'.2.1, r'.2.2, f), ⟨n, r, n', r', h, h', rfl⟩, hR⟩
theorem kp_14 (xs : Nat → Int32) (i : Nat) {I : MI} {J : MJ} {I' : MI} {J' : MJ} (f : Nat → Int64) (g : R I J I' J') : ∃ M', ls_14 xs i I J I' J' f M' ∧ RM M' := by
  obtain ⟨r, r', e1, e2, e3, hR⟩ := call_show g (xs (7 * i + 1))
  obtain ⟨n, h⟩ := e1.get
  obtain ⟨n', h'⟩ := e2.get
  exact ⟨(r.2.1, r.2.2, r'.2.1, r'.2.2, f), ⟨n, r, n', r', h, h', rfl⟩, hR⟩
theorem kp_15 (xs : Nat → Int32) (i : Nat) {I : MI} {J : MJ} {I' : MI} {J' : MJ} (f : Nat → Int64) (g : R I J I' J') : ∃ M', (ls_15r xs i I J I' J' f M' ∨ ls_15t xs i I J I' J' f M') ∧ RM M' := by
  rcases call_audit g  with ⟨v, r, e1, e2, e3, t, hR⟩ | ⟨r, e1, e2, t, hR⟩
  · obtain ⟨n, h⟩ := e1.get
    obtain ⟨n', h'⟩ := e2.get
    exact ⟨(I, J, r.2.1, r.2.2, (vp_updL f 0 v.toInt64)), Or.inl ⟨n, v, n', r, h, h', rfl⟩, hR⟩
  · obtain ⟨n, h⟩ := e1.get
    obtain ⟨n', h'⟩ := e2.get
    exact ⟨(I, J, r.2.1, r.2.2, f), Or.inr ⟨n, n', r, h, h', rfl⟩, hR⟩
theorem kp_16 (xs : Nat → Int32) (i : Nat) {I : MI} {J : MJ} {I' : MI} {J' : MJ} (f : Nat → Int64) (g : R I J I' J') : ∃ M', ls_16 xs i I J I' J' f M' ∧ RM M' := by
  obtain ⟨r, r', e1, e2, e3, hR⟩ := call_cheat g (xs (7 * i + 1)) (xs (7 * i + 2)) (xs (7 * i + 3))
  obtain ⟨n, h⟩ := e1.get
  obtain ⟨n', h'⟩ := e2.get
  exact ⟨(r.2.1, r.2.2, r'.2.1, r'.2.2, f), ⟨n, r, n', r', h, h', rfl⟩, hR⟩
theorem kp_17 (xs : Nat → Int32) (i : Nat) {I : MI} {J : MJ} {I' : MI} {J' : MJ} (f : Nat → Int64) (g : R I J I' J') : ∃ M', ls_17 xs i I J I' J' f M' ∧ RM M' := by
  obtain ⟨r, r', e1, e2, e3, hR⟩ := call_state g (xs (7 * i + 1))
  obtain ⟨n, h⟩ := e1.get
  obtain ⟨n', h'⟩ := e2.get
  exact ⟨(I, J, r'.2.1, r'.2.2, f), ⟨n, r, n', r', h, h', rfl⟩, hR⟩
theorem kp_18 (xs : Nat → Int32) (i : Nat) {I : MI} {J : MJ} {I' : MI} {J' : MJ} (f : Nat → Int64) (g : R I J I' J') : ∃ M', ls_18 xs i I J I' J' f M' ∧ RM M' := by
  obtain ⟨r, r', e1, e2, e3, hR⟩ := call_player g (xs (7 * i + 1)) (xs (7 * i + 2))
  obtain ⟨n, h⟩ := e1.get
  obtain ⟨n', h'⟩ := e2.get
  exact ⟨(I, J, r'.2.1, r'.2.2, f), ⟨n, r, n', r', h, h', e3, rfl⟩, hR⟩
theorem kp_all (xs : Nat → Int32) (i : Nat) (M : LM) (g : RM M) : ∃ M', LStep xs i M M' ∧ RM M' := by
  unfold LStep
  generalize xs (7 * i) &&& 31 = z
  by_cases h0 : z = 0
  · obtain ⟨M', q, hR⟩ := kp_0 xs i M.2.2.2.2 g
    exact ⟨M', ⟨fun _ => q, fun e => absurd (h0.symm.trans e) (by decide), fun e => absurd (h0.symm.trans e) (by decide), fun e => absurd (h0.symm.trans e) (by decide), fun e => absurd (h0.symm.trans e) (by decide), fun e => absurd (h0.symm.trans e) (by decide), fun e => absurd (h0.symm.trans e) (by decide), fun e => absurd (h0.symm.trans e) (by decide), fun e => absurd (h0.symm.trans e) (by decide), fun e => absurd (h0.symm.trans e) (by decide), fun e => absurd (h0.symm.trans e) (by decide), fun e => absurd (h0.symm.trans e) (by decide), fun e => absurd (h0.symm.trans e) (by decide), fun e => absurd (h0.symm.trans e) (by decide), fun e => absurd (h0.symm.trans e) (by decide), fun e => absurd (h0.symm.trans e) (by decide), fun e => absurd (h0.symm.trans e) (by decide), fun e => absurd (h0.symm.trans e) (by decide), fun e => absurd (h0.symm.trans e) (by decide), fun e => absurd e (by rw [h0]; decide)⟩, hR⟩
  by_cases h1 : z = 1
  · obtain ⟨M', q, hR⟩ := kp_1 xs i M.2.2.2.2 g
    exact ⟨M', ⟨fun e => absurd (h1.symm.trans e) (by decide), fun _ => q, fun e => absurd (h1.symm.trans e) (by decide), fun e => absurd (h1.symm.trans e) (by decide), fun e => absurd (h1.symm.trans e) (by decide), fun e => absurd (h1.symm.trans e) (by decide), fun e => absurd (h1.symm.trans e) (by decide), fun e => absurd (h1.symm.trans e) (by decide), fun e => absurd (h1.symm.trans e) (by decide), fun e => absurd (h1.symm.trans e) (by decide), fun e => absurd (h1.symm.trans e) (by decide), fun e => absurd (h1.symm.trans e) (by decide), fun e => absurd (h1.symm.trans e) (by decide), fun e => absurd (h1.symm.trans e) (by decide), fun e => absurd (h1.symm.trans e) (by decide), fun e => absurd (h1.symm.trans e) (by decide), fun e => absurd (h1.symm.trans e) (by decide), fun e => absurd (h1.symm.trans e) (by decide), fun e => absurd (h1.symm.trans e) (by decide), fun e => absurd e (by rw [h1]; decide)⟩, hR⟩
  by_cases h2 : z = 2
  · obtain ⟨M', q, hR⟩ := kp_2 xs i M.2.2.2.2 g
    exact ⟨M', ⟨fun e => absurd (h2.symm.trans e) (by decide), fun e => absurd (h2.symm.trans e) (by decide), fun _ => q, fun e => absurd (h2.symm.trans e) (by decide), fun e => absurd (h2.symm.trans e) (by decide), fun e => absurd (h2.symm.trans e) (by decide), fun e => absurd (h2.symm.trans e) (by decide), fun e => absurd (h2.symm.trans e) (by decide), fun e => absurd (h2.symm.trans e) (by decide), fun e => absurd (h2.symm.trans e) (by decide), fun e => absurd (h2.symm.trans e) (by decide), fun e => absurd (h2.symm.trans e) (by decide), fun e => absurd (h2.symm.trans e) (by decide), fun e => absurd (h2.symm.trans e) (by decide), fun e => absurd (h2.symm.trans e) (by decide), fun e => absurd (h2.symm.trans e) (by decide), fun e => absurd (h2.symm.trans e) (by decide), fun e => absurd (h2.symm.trans e) (by decide), fun e => absurd (h2.symm.trans e) (by decide), fun e => absurd e (by rw [h2]; decide)⟩, hR⟩
  by_cases h3 : z = 3
  · obtain ⟨M', q, hR⟩ := kp_3 xs i M.2.2.2.2 g
    exact ⟨M', ⟨fun e => absurd (h3.symm.trans e) (by decide), fun e => absurd (h3.symm.trans e) (by decide), fun e => absurd (h3.symm.trans e) (by decide), fun _ => q, fun e => absurd (h3.symm.trans e) (by decide), fun e => absurd (h3.symm.trans e) (by decide), fun e => absurd (h3.symm.trans e) (by decide), fun e => absurd (h3.symm.trans e) (by decide), fun e => absurd (h3.symm.trans e) (by decide), fun e => absurd (h3.symm.trans e) (by decide), fun e => absurd (h3.symm.trans e) (by decide), fun e => absurd (h3.symm.trans e) (by decide), fun e => absurd (h3.symm.trans e) (by decide), fun e => absurd (h3.symm.trans e) (by decide), fun e => absurd (h3.symm.trans e) (by decide), fun e => absurd (h3.symm.trans e) (by decide), fun e => absurd (h3.symm.trans e) (by decide), fun e => absurd (h3.symm.trans e) (by decide), fun e => absurd (h3.symm.trans e) (by decide), fun e => absurd e (by rw [h3]; decide)⟩, hR⟩
  by_cases h4 : z = 4
  · obtain ⟨M', q, hR⟩ := kp_4 xs i M.2.2.2.2 g
    exact ⟨M', ⟨fun e => absurd (h4.symm.trans e) (by decide), fun e => absurd (h4.symm.trans e) (by decide), fun e => absurd (h4.symm.trans e) (by decide), fun e => absurd (h4.symm.trans e) (by decide), fun _ => q, fun e => absurd (h4.symm.trans e) (by decide), fun e => absurd (h4.symm.trans e) (by decide), fun e => absurd (h4.symm.trans e) (by decide), fun e => absurd (h4.symm.trans e) (by decide), fun e => absurd (h4.symm.trans e) (by decide), fun e => absurd (h4.symm.trans e) (by decide), fun e => absurd (h4.symm.trans e) (by decide), fun e => absurd (h4.symm.trans e) (by decide), fun e => absurd (h4.symm.trans e) (by decide), fun e => absurd (h4.symm.trans e) (by decide), fun e => absurd (h4.symm.trans e) (by decide), fun e => absurd (h4.symm.trans e) (by decide), fun e => absurd (h4.symm.trans e) (by decide), fun e => absurd (h4.symm.trans e) (by decide), fun e => absurd e (by rw [h4]; decide)⟩, hR⟩
  by_cases h5 : z = 5
  · obtain ⟨M', q, hR⟩ := kp_5 xs i M.2.2.2.2 g
    exact ⟨M', ⟨fun e => absurd (h5.symm.trans e) (by decide), fun e => absurd (h5.symm.trans e) (by decide), fun e => absurd (h5.symm.trans e) (by decide), fun e => absurd (h5.symm.trans e) (by decide), fun e => absurd (h5.symm.trans e) (by decide), fun _ => q, fun e => absurd (h5.symm.trans e) (by decide), fun e => absurd (h5.symm.trans e) (by decide), fun e => absurd (h5.symm.trans e) (by decide), fun e => absurd (h5.symm.trans e) (by decide), fun e => absurd (h5.symm.trans e) (by decide), fun e => absurd (h5.symm.trans e) (by decide), fun e => absurd (h5.symm.trans e) (by decide), fun e => absurd (h5.symm.trans e) (by decide), fun e => absurd (h5.symm.trans e) (by decide), fun e => absurd (h5.symm.trans e) (by decide), fun e => absurd (h5.symm.trans e) (by decide), fun e => absurd (h5.symm.trans e) (by decide), fun e => absurd (h5.symm.trans e) (by decide), fun e => absurd e (by rw [h5]; decide)⟩, hR⟩
  by_cases h6 : z = 6
  · obtain ⟨M', q, hR⟩ := kp_6 xs i M.2.2.2.2 g
    exact ⟨M', ⟨fun e => absurd (h6.symm.trans e) (by decide), fun e => absurd (h6.symm.trans e) (by decide), fun e => absurd (h6.symm.trans e) (by decide), fun e => absurd (h6.symm.trans e) (by decide), fun e => absurd (h6.symm.trans e) (by decide), fun e => absurd (h6.symm.trans e) (by decide), fun _ => q, fun e => absurd (h6.symm.trans e) (by decide), fun e => absurd (h6.symm.trans e) (by decide), fun e => absurd (h6.symm.trans e) (by decide), fun e => absurd (h6.symm.trans e) (by decide), fun e => absurd (h6.symm.trans e) (by decide), fun e => absurd (h6.symm.trans e) (by decide), fun e => absurd (h6.symm.trans e) (by decide), fun e => absurd (h6.symm.trans e) (by decide), fun e => absurd (h6.symm.trans e) (by decide), fun e => absurd (h6.symm.trans e) (by decide), fun e => absurd (h6.symm.trans e) (by decide), fun e => absurd (h6.symm.trans e) (by decide), fun e => absurd e (by rw [h6]; decide)⟩, hR⟩
  by_cases h7 : z = 7
  · obtain ⟨M', q, hR⟩ := kp_7 xs i M.2.2.2.2 g
    exact ⟨M', ⟨fun e => absurd (h7.symm.trans e) (by decide), fun e => absurd (h7.symm.trans e) (by decide), fun e => absurd (h7.symm.trans e) (by decide), fun e => absurd (h7.symm.trans e) (by decide), fun e => absurd (h7.symm.trans e) (by decide), fun e => absurd (h7.symm.trans e) (by decide), fun e => absurd (h7.symm.trans e) (by decide), fun _ => q, fun e => absurd (h7.symm.trans e) (by decide), fun e => absurd (h7.symm.trans e) (by decide), fun e => absurd (h7.symm.trans e) (by decide), fun e => absurd (h7.symm.trans e) (by decide), fun e => absurd (h7.symm.trans e) (by decide), fun e => absurd (h7.symm.trans e) (by decide), fun e => absurd (h7.symm.trans e) (by decide), fun e => absurd (h7.symm.trans e) (by decide), fun e => absurd (h7.symm.trans e) (by decide), fun e => absurd (h7.symm.trans e) (by decide), fun e => absurd (h7.symm.trans e) (by decide), fun e => absurd e (by rw [h7]; decide)⟩, hR⟩
  by_cases h8 : z = 8
  · obtain ⟨M', q, hR⟩ := kp_8 xs i M.2.2.2.2 g
    exact ⟨M', ⟨fun e => absurd (h8.symm.trans e) (by decide), fun e => absurd (h8.symm.trans e) (by decide), fun e => absurd (h8.symm.trans e) (by decide), fun e => absurd (h8.symm.trans e) (by decide), fun e => absurd (h8.symm.trans e) (by decide), fun e => absurd (h8.symm.trans e) (by decide), fun e => absurd (h8.symm.trans e) (by decide), fun e => absurd (h8.symm.trans e) (by decide), fun _ => q, fun e => absurd (h8.symm.trans e) (by decide), fun e => absurd (h8.symm.trans e) (by decide), fun e => absurd (h8.symm.trans e) (by decide), fun e => absurd (h8.symm.trans e) (by decide), fun e => absurd (h8.symm.trans e) (by decide), fun e => absurd (h8.symm.trans e) (by decide), fun e => absurd (h8.symm.trans e) (by decide), fun e => absurd (h8.symm.trans e) (by decide), fun e => absurd (h8.symm.trans e) (by decide), fun e => absurd (h8.symm.trans e) (by decide), fun e => absurd e (by rw [h8]; decide)⟩, hR⟩
  by_cases h9 : z = 9
  · obtain ⟨M', q, hR⟩ := kp_9 xs i M.2.2.2.2 g
    exact ⟨M', ⟨fun e => absurd (h9.symm.trans e) (by decide), fun e => absurd (h9.symm.trans e) (by decide), fun e => absurd (h9.symm.trans e) (by decide), fun e => absurd (h9.symm.trans e) (by decide), fun e => absurd (h9.symm.trans e) (by decide), fun e => absurd (h9.symm.trans e) (by decide), fun e => absurd (h9.symm.trans e) (by decide), fun e => absurd (h9.symm.trans e) (by decide), fun e => absurd (h9.symm.trans e) (by decide), fun _ => q, fun e => absurd (h9.symm.trans e) (by decide), fun e => absurd (h9.symm.trans e) (by decide), fun e => absurd (h9.symm.trans e) (by decide), fun e => absurd (h9.symm.trans e) (by decide), fun e => absurd (h9.symm.trans e) (by decide), fun e => absurd (h9.symm.trans e) (by decide), fun e => absurd (h9.symm.trans e) (by decide), fun e => absurd (h9.symm.trans e) (by decide), fun e => absurd (h9.symm.trans e) (by decide), fun e => absurd e (by rw [h9]; decide)⟩, hR⟩
  by_cases h10 : z = 10
  · obtain ⟨M', q, hR⟩ := kp_10 xs i M.2.2.2.2 g
    exact ⟨M', ⟨fun e => absurd (h10.symm.trans e) (by decide), fun e => absurd (h10.symm.trans e) (by decide), fun e => absurd (h10.symm.trans e) (by decide), fun e => absurd (h10.symm.trans e) (by decide), fun e => absurd (h10.symm.trans e) (by decide), fun e => absurd (h10.symm.trans e) (by decide), fun e => absurd (h10.symm.trans e) (by decide), fun e => absurd (h10.symm.trans e) (by decide), fun e => absurd (h10.symm.trans e) (by decide), fun e => absurd (h10.symm.trans e) (by decide), fun _ => q, fun e => absurd (h10.symm.trans e) (by decide), fun e => absurd (h10.symm.trans e) (by decide), fun e => absurd (h10.symm.trans e) (by decide), fun e => absurd (h10.symm.trans e) (by decide), fun e => absurd (h10.symm.trans e) (by decide), fun e => absurd (h10.symm.trans e) (by decide), fun e => absurd (h10.symm.trans e) (by decide), fun e => absurd (h10.symm.trans e) (by decide), fun e => absurd e (by rw [h10]; decide)⟩, hR⟩
  by_cases h11 : z = 11
  · obtain ⟨M', q, hR⟩ := kp_11 xs i M.2.2.2.2 g
    exact ⟨M', ⟨fun e => absurd (h11.symm.trans e) (by decide), fun e => absurd (h11.symm.trans e) (by decide), fun e => absurd (h11.symm.trans e) (by decide), fun e => absurd (h11.symm.trans e) (by decide), fun e => absurd (h11.symm.trans e) (by decide), fun e => absurd (h11.symm.trans e) (by decide), fun e => absurd (h11.symm.trans e) (by decide), fun e => absurd (h11.symm.trans e) (by decide), fun e => absurd (h11.symm.trans e) (by decide), fun e => absurd (h11.symm.trans e) (by decide), fun e => absurd (h11.symm.trans e) (by decide), fun _ => q, fun e => absurd (h11.symm.trans e) (by decide), fun e => absurd (h11.symm.trans e) (by decide), fun e => absurd (h11.symm.trans e) (by decide), fun e => absurd (h11.symm.trans e) (by decide), fun e => absurd (h11.symm.trans e) (by decide), fun e => absurd (h11.symm.trans e) (by decide), fun e => absurd (h11.symm.trans e) (by decide), fun e => absurd e (by rw [h11]; decide)⟩, hR⟩
  by_cases h12 : z = 12
  · obtain ⟨M', q, hR⟩ := kp_12 xs i M.2.2.2.2 g
    exact ⟨M', ⟨fun e => absurd (h12.symm.trans e) (by decide), fun e => absurd (h12.symm.trans e) (by decide), fun e => absurd (h12.symm.trans e) (by decide), fun e => absurd (h12.symm.trans e) (by decide), fun e => absurd (h12.symm.trans e) (by decide), fun e => absurd (h12.symm.trans e) (by decide), fun e => absurd (h12.symm.trans e) (by decide), fun e => absurd (h12.symm.trans e) (by decide), fun e => absurd (h12.symm.trans e) (by decide), fun e => absurd (h12.symm.trans e) (by decide), fun e => absurd (h12.symm.trans e) (by decide), fun e => absurd (h12.symm.trans e) (by decide), fun _ => q, fun e => absurd (h12.symm.trans e) (by decide), fun e => absurd (h12.symm.trans e) (by decide), fun e => absurd (h12.symm.trans e) (by decide), fun e => absurd (h12.symm.trans e) (by decide), fun e => absurd (h12.symm.trans e) (by decide), fun e => absurd (h12.symm.trans e) (by decide), fun e => absurd e (by rw [h12]; decide)⟩, hR⟩
  by_cases h13 : z = 13
  · obtain ⟨M', q, hR⟩ := kp_13 xs i M.2.2.2.2 g
    exact ⟨M', ⟨fun e => absurd (h13.symm.trans e) (by decide), fun e => absurd (h13.symm.trans e) (by decide), fun e => absurd (h13.symm.trans e) (by decide), fun e => absurd (h13.symm.trans e) (by decide), fun e => absurd (h13.symm.trans e) (by decide), fun e => absurd (h13.symm.trans e) (by decide), fun e => absurd (h13.symm.trans e) (by decide), fun e => absurd (h13.symm.trans e) (by decide), fun e => absurd (h13.symm.trans e) (by decide), fun e => absurd (h13.symm.trans e) (by decide), fun e => absurd (h13.symm.trans e) (by decide), fun e => absurd (h13.symm.trans e) (by decide), fun e => absurd (h13.symm.trans e) (by decide), fun _ => q, fun e => absurd (h13.symm.trans e) (by decide), fun e => absurd (h13.symm.trans e) (by decide), fun e => absurd (h13.symm.trans e) (by decide), fun e => absurd (h13.symm.trans e) (by decide), fun e => absurd (h13.symm.trans e) (by decide), fun e => absurd e (by rw [h13]; decide)⟩, hR⟩
  by_cases h14 : z = 14
  · obtain ⟨M', q, hR⟩ := kp_14 xs i M.2.2.2.2 g
    exact ⟨M', ⟨fun e => absurd (h14.symm.trans e) (by decide), fun e => absurd (h14.symm.trans e) (by decide), fun e => absurd (h14.symm.trans e) (by decide), fun e => absurd (h14.symm.trans e) (by decide), fun e => absurd (h14.symm.trans e) (by decide), fun e => absurd (h14.symm.trans e) (by decide), fun e => absurd (h14.symm.trans e) (by decide), fun e => absurd (h14.symm.trans e) (by decide), fun e => absurd (h14.symm.trans e) (by decide), fun e => absurd (h14.symm.trans e) (by decide), fun e => absurd (h14.symm.trans e) (by decide), fun e => absurd (h14.symm.trans e) (by decide), fun e => absurd (h14.symm.trans e) (by decide), fun e => absurd (h14.symm.trans e) (by decide), fun _ => q, fun e => absurd (h14.symm.trans e) (by decide), fun e => absurd (h14.symm.trans e) (by decide), fun e => absurd (h14.symm.trans e) (by decide), fun e => absurd (h14.symm.trans e) (by decide), fun e => absurd e (by rw [h14]; decide)⟩, hR⟩
  by_cases h15 : z = 15
  · obtain ⟨M', q, hR⟩ := kp_15 xs i M.2.2.2.2 g
    exact ⟨M', ⟨fun e => absurd (h15.symm.trans e) (by decide), fun e => absurd (h15.symm.trans e) (by decide), fun e => absurd (h15.symm.trans e) (by decide), fun e => absurd (h15.symm.trans e) (by decide), fun e => absurd (h15.symm.trans e) (by decide), fun e => absurd (h15.symm.trans e) (by decide), fun e => absurd (h15.symm.trans e) (by decide), fun e => absurd (h15.symm.trans e) (by decide), fun e => absurd (h15.symm.trans e) (by decide), fun e => absurd (h15.symm.trans e) (by decide), fun e => absurd (h15.symm.trans e) (by decide), fun e => absurd (h15.symm.trans e) (by decide), fun e => absurd (h15.symm.trans e) (by decide), fun e => absurd (h15.symm.trans e) (by decide), fun e => absurd (h15.symm.trans e) (by decide), fun _ => q, fun e => absurd (h15.symm.trans e) (by decide), fun e => absurd (h15.symm.trans e) (by decide), fun e => absurd (h15.symm.trans e) (by decide), fun e => absurd e (by rw [h15]; decide)⟩, hR⟩
  by_cases h16 : z = 16
  · obtain ⟨M', q, hR⟩ := kp_16 xs i M.2.2.2.2 g
    exact ⟨M', ⟨fun e => absurd (h16.symm.trans e) (by decide), fun e => absurd (h16.symm.trans e) (by decide), fun e => absurd (h16.symm.trans e) (by decide), fun e => absurd (h16.symm.trans e) (by decide), fun e => absurd (h16.symm.trans e) (by decide), fun e => absurd (h16.symm.trans e) (by decide), fun e => absurd (h16.symm.trans e) (by decide), fun e => absurd (h16.symm.trans e) (by decide), fun e => absurd (h16.symm.trans e) (by decide), fun e => absurd (h16.symm.trans e) (by decide), fun e => absurd (h16.symm.trans e) (by decide), fun e => absurd (h16.symm.trans e) (by decide), fun e => absurd (h16.symm.trans e) (by decide), fun e => absurd (h16.symm.trans e) (by decide), fun e => absurd (h16.symm.trans e) (by decide), fun e => absurd (h16.symm.trans e) (by decide), fun _ => q, fun e => absurd (h16.symm.trans e) (by decide), fun e => absurd (h16.symm.trans e) (by decide), fun e => absurd e (by rw [h16]; decide)⟩, hR⟩
  by_cases h17 : z = 17
  · obtain ⟨M', q, hR⟩ := kp_17 xs i M.2.2.2.2 g
    exact ⟨M', ⟨fun e => absurd (h17.symm.trans e) (by decide), fun e => absurd (h17.symm.trans e) (by decide), fun e => absurd (h17.symm.trans e) (by decide), fun e => absurd (h17.symm.trans e) (by decide), fun e => absurd (h17.symm.trans e) (by decide), fun e => absurd (h17.symm.trans e) (by decide), fun e => absurd (h17.symm.trans e) (by decide), fun e => absurd (h17.symm.trans e) (by decide), fun e => absurd (h17.symm.trans e) (by decide), fun e => absurd (h17.symm.trans e) (by decide), fun e => absurd (h17.symm.trans e) (by decide), fun e => absurd (h17.symm.trans e) (by decide), fun e => absurd (h17.symm.trans e) (by decide), fun e => absurd (h17.symm.trans e) (by decide), fun e => absurd (h17.symm.trans e) (by decide), fun e => absurd (h17.symm.trans e) (by decide), fun e => absurd (h17.symm.trans e) (by decide), fun _ => q, fun e => absurd (h17.symm.trans e) (by decide), fun e => absurd e (by rw [h17]; decide)⟩, hR⟩
  by_cases h18 : z = 18
  · obtain ⟨M', q, hR⟩ := kp_18 xs i M.2.2.2.2 g
    exact ⟨M', ⟨fun e => absurd (h18.symm.trans e) (by decide), fun e => absurd (h18.symm.trans e) (by decide), fun e => absurd (h18.symm.trans e) (by decide), fun e => absurd (h18.symm.trans e) (by decide), fun e => absurd (h18.symm.trans e) (by decide), fun e => absurd (h18.symm.trans e) (by decide), fun e => absurd (h18.symm.trans e) (by decide), fun e => absurd (h18.symm.trans e) (by decide), fun e => absurd (h18.symm.trans e) (by decide), fun e => absurd (h18.symm.trans e) (by decide), fun e => absurd (h18.symm.trans e) (by decide), fun e => absurd (h18.symm.trans e) (by decide), fun e => absurd (h18.symm.trans e) (by decide), fun e => absurd (h18.symm.trans e) (by decide), fun e => absurd (h18.symm.trans e) (by decide), fun e => absurd (h18.symm.trans e) (by decide), fun e => absurd (h18.symm.trans e) (by decide), fun e => absurd (h18.symm.trans e) (by decide), fun _ => q, fun e => absurd e (by rw [h18]; decide)⟩, hR⟩
  exact ⟨M, ⟨fun e => absurd e h0, fun e => absurd e h1, fun e => absurd e h2, fun e => absurd e h3, fun e => absurd e h4, fun e => absurd e h5, fun e => absurd e h6, fun e => absurd e h7, fun e => absurd e h8, fun e => absurd e h9, fun e => absurd e h10, fun e => absurd e h11, fun e => absurd e h12, fun e => absurd e h13, fun e => absurd e h14, fun e => absurd e h15, fun e => absurd e h16, fun e => absurd e h17, fun e => absurd e h18, fun _ => rfl⟩, g⟩
theorem pure_all (N : Nat) : PureRun N := by
  intro L xs hL
  have step : ∀ (i : Nat) (M : LM), ∃ M', RM M → LStep xs i M M' ∧ RM M' := fun i M => by
    by_cases g : RM M
    · obtain ⟨M', h⟩ := kp_all xs i M g
      exact ⟨M', fun _ => h⟩
    · exact ⟨M, fun h => absurd h g⟩
  have hs : ∃ F : Nat → LM → LM, ∀ i M, RM M → LStep xs i M (F i M) ∧ RM (F i M) := ⟨fun i M => (step i M).choose, fun i M => (step i M).choose_spec⟩
  obtain ⟨F, hF⟩ := hs
  have h0 : RM M0 := R_start
  have hR : ∀ i, RM (Nat.rec (motive := fun _ => LM) M0 (fun i M => F i M) i) := by
    intro i
    induction i with
    | zero => exact h0
    | succ i ih => exact (hF i _ ih).2
  exact ⟨fun i => Nat.rec (motive := fun _ => LM) M0 (fun i M => F i M) i, rfl, fun i _ => (hF i _ (hR i)).1⟩
