/-! the worlds, laid by program: the class has 39 cells, the reference 24; a cell is told by its place, the address is ad of it -/
def T_O : u_T := fun k => match k with
  | 0 => ("OpenDeal", "p", "I", false)
  | 1 => ("OpenDeal", "phase", "I", false)
  | 2 => ("OpenDeal", "seats", "I", false)
  | 3 => ("OpenDeal", "players", "[LOpenDeal$Player;", true)
  | 4 => ("OpenDeal", "turns", "I", false)
  | 5 => ("OpenDeal", "decks", "[[I", true)
  | 6 => ("OpenDeal", "owners", "[I", true)
  | 7 => ("OpenDeal", "actor", "I", false)
  | 8 => ("OpenDeal", "verdict", "I", false)
  | 9 => ("OpenDeal", "orderRow", "[I", true)
  | _ => ("OpenDeal", "deckRow", "[I", true)
def ty_O : Nat → FieldType := fun k => match k with
  | 0 => .int
  | 1 => .int
  | 2 => .int
  | 3 => .array (.object "OpenDeal$Player")
  | 4 => .int
  | 5 => .array (.array .int)
  | 6 => .array .int
  | 7 => .int
  | 8 => .int
  | 9 => .array .int
  | _ => .array .int
theorem nm_O : ∀ a, a < 11 → ∀ b, b < 11 → a ≠ b → (T_O a).2.1 ≠ (T_O b).2.1 := by decide +kernel
theorem tk_O : ∀ k, k < 11 → parseFieldDescriptor (T_O k).2.2.1 = some (ty_O k) := by decide +kernel
theorem in_O : ∀ w ∈ u_ws "OpenDeal" T_O 11, w ∈ kw := by
  intro w hw
  obtain ⟨k, hk, rfl⟩ := List.mem_map.mp hw
  have hk := List.mem_range.mp hk
  have hc : k = 0 ∨ k = 1 ∨ k = 2 ∨ k = 3 ∨ k = 4 ∨ k = 5 ∨ k = 6 ∨ k = 7 ∨ k = 8 ∨ k = 9 ∨ k = 10 := by omega
  rcases hc with rfl | rfl | rfl | rfl | rfl | rfl | rfl | rfl | rfl | rfl | rfl
  · exact kw_116
  · exact kw_118
  · exact kw_120
  · exact kw_122
  · exact kw_124
  · exact kw_126
  · exact kw_128
  · exact kw_130
  · exact kw_132
  · exact kw_134
  · exact kw_136
def T_P : u_T := fun k => match k with
  | 0 => ("OpenDeal$Player", "chips", "I", false)
  | 1 => ("OpenDeal$Player", "inHand", "I", false)
  | 2 => ("OpenDeal$Player", "inRound", "I", false)
  | 3 => ("OpenDeal$Player", "folded", "Z", false)
  | 4 => ("OpenDeal$Player", "acted", "Z", false)
  | 5 => ("OpenDeal$Player", "sealed", "Z", false)
  | 6 => ("OpenDeal$Player", "mark", "J", false)
  | 7 => ("OpenDeal$Player", "hasShown", "Z", false)
  | 8 => ("OpenDeal$Player", "secrets", "LOpenDeal$Secrets;", true)
  | 9 => ("OpenDeal$Player", "shown", "LOpenDeal$Secrets;", true)
  | 10 => ("OpenDeal$Player", "locks", "[I", true)
  | 11 => ("OpenDeal$Player", "given", "[I", true)
  | _ => ("OpenDeal$Player", "cheats", "[J", true)
def ty_P : Nat → FieldType := fun k => match k with
  | 0 => .int
  | 1 => .int
  | 2 => .int
  | 3 => .boolean
  | 4 => .boolean
  | 5 => .boolean
  | 6 => .long
  | 7 => .boolean
  | 8 => .object "OpenDeal$Secrets"
  | 9 => .object "OpenDeal$Secrets"
  | 10 => .array .int
  | 11 => .array .int
  | _ => .array .long
theorem nm_P : ∀ a, a < 13 → ∀ b, b < 13 → a ≠ b → (T_P a).2.1 ≠ (T_P b).2.1 := by decide +kernel
theorem tk_P : ∀ k, k < 13 → parseFieldDescriptor (T_P k).2.2.1 = some (ty_P k) := by decide +kernel
theorem in_P : ∀ w ∈ u_ws "OpenDeal$Player" T_P 13, w ∈ kw := by
  intro w hw
  obtain ⟨k, hk, rfl⟩ := List.mem_map.mp hw
  have hk := List.mem_range.mp hk
  have hc : k = 0 ∨ k = 1 ∨ k = 2 ∨ k = 3 ∨ k = 4 ∨ k = 5 ∨ k = 6 ∨ k = 7 ∨ k = 8 ∨ k = 9 ∨ k = 10 ∨ k = 11 ∨ k = 12 := by omega
  rcases hc with rfl | rfl | rfl | rfl | rfl | rfl | rfl | rfl | rfl | rfl | rfl | rfl | rfl
  · exact kw_74
  · exact kw_76
  · exact kw_78
  · exact kw_80
  · exact kw_82
  · exact kw_84
  · exact kw_86
  · exact kw_88
  · exact kw_90
  · exact kw_92
  · exact kw_94
  · exact kw_96
  · exact kw_98
def T_S : u_T := fun k => match k with
  | 0 => ("OpenDeal$Secrets", "exponent", "I", false)
  | 1 => ("OpenDeal$Secrets", "orderKey", "J", false)
  | _ => ("OpenDeal$Secrets", "locksKey", "J", false)
def ty_S : Nat → FieldType := fun k => match k with
  | 0 => .int
  | 1 => .long
  | _ => .long
theorem nm_S : ∀ a, a < 3 → ∀ b, b < 3 → a ≠ b → (T_S a).2.1 ≠ (T_S b).2.1 := by decide +kernel
theorem tk_S : ∀ k, k < 3 → parseFieldDescriptor (T_S k).2.2.1 = some (ty_S k) := by decide +kernel
theorem in_S : ∀ w ∈ u_ws "OpenDeal$Secrets" T_S 3, w ∈ kw := by
  intro w hw
  obtain ⟨k, hk, rfl⟩ := List.mem_map.mp hw
  have hk := List.mem_range.mp hk
  have hc : k = 0 ∨ k = 1 ∨ k = 2 := by omega
  rcases hc with rfl | rfl | rfl
  · exact kw_43
  · exact kw_45
  · exact kw_47
def T_D : u_T := fun k => match k with
  | _ => ("OpenDeal$Draws", "key", "J", false)
def ty_D : Nat → FieldType := fun k => match k with
  | _ => .long
theorem nm_D : ∀ a, a < 1 → ∀ b, b < 1 → a ≠ b → (T_D a).2.1 ≠ (T_D b).2.1 := by decide +kernel
theorem tk_D : ∀ k, k < 1 → parseFieldDescriptor (T_D k).2.2.1 = some (ty_D k) := by decide +kernel
theorem in_D : ∀ w ∈ u_ws "OpenDeal$Draws" T_D 1, w ∈ kw := by
  intro w hw
  obtain ⟨k, hk, rfl⟩ := List.mem_map.mp hw
  have hk := List.mem_range.mp hk
  have hc : k = 0 := by omega
  rcases hc with rfl
  · exact kw_223
def T_M : u_T := fun k => match k with
  | 0 => ("OpenDealModel", "thrown", "I", false)
  | 1 => ("OpenDealModel", "prime", "I", false)
  | 2 => ("OpenDealModel", "half", "I", false)
  | 3 => ("OpenDealModel", "players", "I", false)
  | 4 => ("OpenDealModel", "phase", "I", false)
  | 5 => ("OpenDealModel", "chips", "[I", true)
  | 6 => ("OpenDealModel", "sealed", "[Z", true)
  | 7 => ("OpenDealModel", "seal", "[J", true)
  | 8 => ("OpenDealModel", "exponent", "[I", true)
  | 9 => ("OpenDealModel", "orderKey", "[J", true)
  | 10 => ("OpenDealModel", "lockKey", "[J", true)
  | 11 => ("OpenDealModel", "shown", "[Z", true)
  | 12 => ("OpenDealModel", "shownExponent", "[I", true)
  | 13 => ("OpenDealModel", "shownOrder", "[J", true)
  | 14 => ("OpenDealModel", "wrongLock", "[J", true)
  | 15 => ("OpenDealModel", "wrongRelock", "[J", true)
  | 16 => ("OpenDealModel", "wrongGive", "[J", true)
  | 17 => ("OpenDealModel", "wrongExponent", "[Z", true)
  | 18 => ("OpenDealModel", "wrongOrder", "[Z", true)
  | 19 => ("OpenDealModel", "deck", "[I", true)
  | 20 => ("OpenDealModel", "turns", "I", false)
  | 21 => ("OpenDealModel", "order", "[I", true)
  | 22 => ("OpenDealModel", "locks", "[I", true)
  | 23 => ("OpenDealModel", "dealtTo", "[I", true)
  | 24 => ("OpenDealModel", "given", "[I", true)
  | 25 => ("OpenDealModel", "draw", "J", false)
  | 26 => ("OpenDealModel", "in", "[Z", true)
  | 27 => ("OpenDealModel", "put", "[I", true)
  | 28 => ("OpenDealModel", "putNow", "[I", true)
  | 29 => ("OpenDealModel", "acted", "[Z", true)
  | 30 => ("OpenDealModel", "betting", "Z", false)
  | _ => ("OpenDealModel", "next", "I", false)
def ty_M : Nat → FieldType := fun k => match k with
  | 0 => .int
  | 1 => .int
  | 2 => .int
  | 3 => .int
  | 4 => .int
  | 5 => .array .int
  | 6 => .array .boolean
  | 7 => .array .long
  | 8 => .array .int
  | 9 => .array .long
  | 10 => .array .long
  | 11 => .array .boolean
  | 12 => .array .int
  | 13 => .array .long
  | 14 => .array .long
  | 15 => .array .long
  | 16 => .array .long
  | 17 => .array .boolean
  | 18 => .array .boolean
  | 19 => .array .int
  | 20 => .int
  | 21 => .array .int
  | 22 => .array .int
  | 23 => .array .int
  | 24 => .array .int
  | 25 => .long
  | 26 => .array .boolean
  | 27 => .array .int
  | 28 => .array .int
  | 29 => .array .boolean
  | 30 => .boolean
  | _ => .int
theorem nm_M : ∀ a, a < 32 → ∀ b, b < 32 → a ≠ b → (T_M a).2.1 ≠ (T_M b).2.1 := by decide +kernel
theorem tk_M : ∀ k, k < 32 → parseFieldDescriptor (T_M k).2.2.1 = some (ty_M k) := by decide +kernel
theorem in_M : ∀ w ∈ u_ws "OpenDealModel" T_M 32, w ∈ kw := by
  intro w hw
  obtain ⟨k, hk, rfl⟩ := List.mem_map.mp hw
  have hk := List.mem_range.mp hk
  have hc : k = 0 ∨ k = 1 ∨ k = 2 ∨ k = 3 ∨ k = 4 ∨ k = 5 ∨ k = 6 ∨ k = 7 ∨ k = 8 ∨ k = 9 ∨ k = 10 ∨ k = 11 ∨ k = 12 ∨ k = 13 ∨ k = 14 ∨ k = 15 ∨ k = 16 ∨ k = 17 ∨ k = 18 ∨ k = 19 ∨ k = 20 ∨ k = 21 ∨ k = 22 ∨ k = 23 ∨ k = 24 ∨ k = 25 ∨ k = 26 ∨ k = 27 ∨ k = 28 ∨ k = 29 ∨ k = 30 ∨ k = 31 := by omega
  rcases hc with rfl | rfl | rfl | rfl | rfl | rfl | rfl | rfl | rfl | rfl | rfl | rfl | rfl | rfl | rfl | rfl | rfl | rfl | rfl | rfl | rfl | rfl | rfl | rfl | rfl | rfl | rfl | rfl | rfl | rfl | rfl | rfl
  · exact kw_569
  · exact kw_571
  · exact kw_573
  · exact kw_575
  · exact kw_577
  · exact kw_579
  · exact kw_581
  · exact kw_583
  · exact kw_585
  · exact kw_587
  · exact kw_589
  · exact kw_591
  · exact kw_593
  · exact kw_595
  · exact kw_597
  · exact kw_599
  · exact kw_601
  · exact kw_603
  · exact kw_605
  · exact kw_607
  · exact kw_609
  · exact kw_611
  · exact kw_613
  · exact kw_615
  · exact kw_617
  · exact kw_619
  · exact kw_621
  · exact kw_623
  · exact kw_625
  · exact kw_627
  · exact kw_629
  · exact kw_631
abbrev cls5 : List vw_C := [("OpenDeal", T_O, 11), ("OpenDeal$Player", T_P, 13), ("OpenDeal$Secrets", T_S, 3), ("OpenDeal$Draws", T_D, 1), ("OpenDealModel", T_M, 32)]
abbrev tys5 (kc : Nat → ClassId) : List (ClassId × FieldType) := [(kc 0, .int), (kc 1, .long), (kc 2, .boolean), (kc 3, .object "OpenDeal$Player"), (kc 4, .array .int)]
def wd (N : Nat) (sh : Nat → (Nat → Int32) → (Nat → Int64) → va_E) (ad : Nat → Nat) (I : Nat → Nat → Int32) (J : Nat → Nat → Int64) : va_W := (List.range N).map (fun q => (ad q, sh q (I q) (J q)))
theorem wd_at {N : Nat} {sh : Nat → (Nat → Int32) → (Nat → Int64) → va_E} {ad : Nat → Nat} {I : Nat → Nat → Int32} {J : Nat → Nat → Int64} {q : Nat} (h : q < N) : (wd N sh ad I J)[q]? = some (ad q, sh q (I q) (J q)) := by
  unfold wd
  rw [List.getElem?_map, List.getElem?_range h]
  rfl
theorem wd_ext {N : Nat} {sh : Nat → (Nat → Int32) → (Nat → Int64) → va_E} {ad : Nat → Nat} {I I' : Nat → Nat → Int32} {J J' : Nat → Nat → Int64} {q : Nat} {e : va_E} (he : e = sh q (I' q) (J' q)) (hI : ∀ a, a ≠ q → I' a = I a) (hJ : ∀ a, a ≠ q → J' a = J a) : (wd N sh ad I J).set q (ad q, e) = wd N sh ad I' J' := by
  subst he
  unfold wd
  apply List.ext_getElem?
  intro k
  by_cases hk : k = q
  · subst hk
    by_cases hl : k < N
    · rw [List.getElem?_set_self (by simpa using hl), List.getElem?_map, List.getElem?_range hl]
      rfl
    · rw [List.getElem?_eq_none (by simp; omega), List.getElem?_eq_none (by simp; omega)]
  · rw [List.getElem?_set_ne (Ne.symm hk), List.getElem?_map, List.getElem?_map]
    by_cases hl : k < N
    · rw [List.getElem?_range hl]
      show some (ad k, sh k (I k) (J k)) = some (ad k, sh k (I' k) (J' k))
      rw [hI k hk, hJ k hk]
    · rw [List.getElem?_eq_none (by simp; omega)]
      rfl
/-- the memory with one number, one long written -/
def ui (I : Nat → Nat → Int32) (q i : Nat) (x : Int32) : Nat → Nat → Int32 := va_up I q (upd (I q) i x)
def uj (J : Nat → Nat → Int64) (q i : Nat) (x : Int64) : Nat → Nat → Int64 := va_up J q (vp_updL (J q) i x)
theorem ui_row (I : Nat → Nat → Int32) (q i : Nat) (x : Int32) : ui I q i x q = upd (I q) i x := if_pos rfl
theorem uj_row (J : Nat → Nat → Int64) (q i : Nat) (x : Int64) : uj J q i x q = vp_updL (J q) i x := if_pos rfl
theorem ui_else (I : Nat → Nat → Int32) {q : Nat} (i : Nat) (x : Int32) {a : Nat} (h : a ≠ q) : ui I q i x a = I a := if_neg h
theorem uj_else (J : Nat → Nat → Int64) {q : Nat} (i : Nat) (x : Int64) {a : Nat} (h : a ≠ q) : uj J q i x a = J a := if_neg h
theorem wd_i {N : Nat} {sh : Nat → (Nat → Int32) → (Nat → Int64) → va_E} {ad : Nat → Nat} {I : Nat → Nat → Int32} {J : Nat → Nat → Int64} {q i : Nat} {x : Int32} {e : va_E} (he : e = sh q (upd (I q) i x) (J q)) : (wd N sh ad I J).set q (ad q, e) = wd N sh ad (ui I q i x) J := wd_ext (by rw [ui_row]; exact he) (fun a h => ui_else I i x h) (fun _ _ => rfl)
theorem wd_j {N : Nat} {sh : Nat → (Nat → Int32) → (Nat → Int64) → va_E} {ad : Nat → Nat} {I : Nat → Nat → Int32} {J : Nat → Nat → Int64} {q i : Nat} {x : Int64} {e : va_E} (he : e = sh q (I q) (vp_updL (J q) i x)) : (wd N sh ad I J).set q (ad q, e) = wd N sh ad I (uj J q i x) := wd_ext (by rw [uj_row]; exact he) (fun _ _ => rfl) (fun a h => uj_else J i x h)
def shC (kc : Nat → ClassId) (ad : Nat → Nat) (q : Nat) (f : Nat → Int32) (g : Nat → Int64) : va_E :=
  if q = 0 then .inr (0, [.int (f 0), .int (f 1), .int (f 2), .ref (ad 1), .int (f 4), .ref (ad 2), .ref (ad 3), .int (f 7), .int (f 8), .ref (ad 4), .ref (ad 5)])
  else if q = 1 then .inl (kc 3, 4, .inr (.inr (.inr (.inr (fun j => if j < 4 then some (ad (15 + 6 * j)) else none)))))
  else if q = 2 then .inl (kc 4, 9, .inr (.inr (.inr (.inr (fun j => if j < 9 then some (ad (6 + j)) else none)))))
  else if q < 15 then .inl (kc 0, 52, .inl f)
  else match (q - 15) % 6 with
  | 0 => .inr (1, [.int (f 0), .int (f 1), .int (f 2), .int (f 3), .int (f 4), .int (f 5), .long (g 6), .int (f 7), .ref (ad (q + 1)), .ref (ad (q + 2)), .ref (ad (q + 3)), .ref (ad (q + 4)), .ref (ad (q + 5))])
  | 1 => .inr (2, [.int (f 0), .long (g 1), .long (g 2)])
  | 2 => .inr (2, [.int (f 0), .long (g 1), .long (g 2)])
  | 3 => .inl (kc 0, 52, .inl f)
  | 4 => .inl (kc 0, 52, .inl f)
  | _ => .inl (kc 1, 5, .inr (.inl g))
abbrev wC (kc : Nat → ClassId) (ad : Nat → Nat) (I : Nat → Nat → Int32) (J : Nat → Nat → Int64) : va_W := wd 39 (shC kc ad) ad I J
/-- the kinds of places -/
def isP (q : Nat) : Prop := q = 15 ∨ q = 21 ∨ q = 27 ∨ q = 33
def isS (q : Nat) : Prop := q = 16 ∨ q = 17 ∨ q = 22 ∨ q = 23 ∨ q = 28 ∨ q = 29 ∨ q = 34 ∨ q = 35
def isA (q : Nat) : Prop := (3 ≤ q ∧ q < 15) ∨ q = 18 ∨ q = 19 ∨ q = 24 ∨ q = 25 ∨ q = 30 ∨ q = 31 ∨ q = 36 ∨ q = 37
def isL (q : Nat) : Prop := q = 20 ∨ q = 26 ∨ q = 32 ∨ q = 38
theorem isP_of {k : Nat} (h : k < 4) : isP (15 + 6 * k) := by unfold isP; omega
theorem isA_deck {k : Nat} (h : k < 9) : isA (6 + k) := by unfold isA; omega
theorem isP_S1 {q : Nat} (h : isP q) : isS (q + 1) := by unfold isP at h; unfold isS; omega
theorem isP_S2 {q : Nat} (h : isP q) : isS (q + 2) := by unfold isP at h; unfold isS; omega
theorem isP_A3 {q : Nat} (h : isP q) : isA (q + 3) := by unfold isP at h; unfold isA; omega
theorem isP_A4 {q : Nat} (h : isP q) : isA (q + 4) := by unfold isP at h; unfold isA; omega
theorem isP_L {q : Nat} (h : isP q) : isL (q + 5) := by unfold isP at h; unfold isL; omega
theorem isA3 : isA 3 := by unfold isA; omega
theorem isA4 : isA 4 := by unfold isA; omega
theorem isA5 : isA 5 := by unfold isA; omega
theorem sh_P {kc : Nat → ClassId} {ad : Nat → Nat} {q : Nat} {f : Nat → Int32} {g : Nat → Int64} (h : isP q) : shC kc ad q f g = .inr (1, [.int (f 0), .int (f 1), .int (f 2), .int (f 3), .int (f 4), .int (f 5), .long (g 6), .int (f 7), .ref (ad (q + 1)), .ref (ad (q + 2)), .ref (ad (q + 3)), .ref (ad (q + 4)), .ref (ad (q + 5))]) := by
  rcases h with rfl | rfl | rfl | rfl <;> rfl
theorem sh_S {kc : Nat → ClassId} {ad : Nat → Nat} {q : Nat} {f : Nat → Int32} {g : Nat → Int64} (h : isS q) : shC kc ad q f g = .inr (2, [.int (f 0), .long (g 1), .long (g 2)]) := by
  rcases h with rfl | rfl | rfl | rfl | rfl | rfl | rfl | rfl <;> rfl
theorem sh_A {kc : Nat → ClassId} {ad : Nat → Nat} {q : Nat} {f : Nat → Int32} {g : Nat → Int64} (h : isA q) : shC kc ad q f g = .inl (kc 0, 52, .inl f) := by
  rcases h with h | rfl | rfl | rfl | rfl | rfl | rfl | rfl | rfl
  · unfold shC
    rw [if_neg (by omega), if_neg (by omega), if_neg (by omega), if_pos (by omega)]
  all_goals rfl
theorem sh_L {kc : Nat → ClassId} {ad : Nat → Nat} {q : Nat} {f : Nat → Int32} {g : Nat → Int64} (h : isL q) : shC kc ad q f g = .inl (kc 1, 5, .inr (.inl g)) := by
  rcases h with rfl | rfl | rfl | rfl <;> rfl
theorem at_O {kc : Nat → ClassId} {ad : Nat → Nat} {I : Nat → Nat → Int32} {J : Nat → Nat → Int64} : (wC kc ad I J)[0]? = some (ad 0, .inr (0, [.int (I 0 0), .int (I 0 1), .int (I 0 2), .ref (ad 1), .int (I 0 4), .ref (ad 2), .ref (ad 3), .int (I 0 7), .int (I 0 8), .ref (ad 4), .ref (ad 5)])) := wd_at (by decide)
theorem at_pl {kc : Nat → ClassId} {ad : Nat → Nat} {I : Nat → Nat → Int32} {J : Nat → Nat → Int64} : (wC kc ad I J)[1]? = some (ad 1, .inl (kc 3, 4, .inr (.inr (.inr (.inr (fun j => if j < 4 then some (ad (15 + 6 * j)) else none)))))) := wd_at (by decide)
theorem at_dk {kc : Nat → ClassId} {ad : Nat → Nat} {I : Nat → Nat → Int32} {J : Nat → Nat → Int64} : (wC kc ad I J)[2]? = some (ad 2, .inl (kc 4, 9, .inr (.inr (.inr (.inr (fun j => if j < 9 then some (ad (6 + j)) else none)))))) := wd_at (by decide)
theorem at_P {kc : Nat → ClassId} {ad : Nat → Nat} {I : Nat → Nat → Int32} {J : Nat → Nat → Int64} {q : Nat} (h : isP q) : (wC kc ad I J)[q]? = some (ad q, .inr (1, [.int (I q 0), .int (I q 1), .int (I q 2), .int (I q 3), .int (I q 4), .int (I q 5), .long (J q 6), .int (I q 7), .ref (ad (q + 1)), .ref (ad (q + 2)), .ref (ad (q + 3)), .ref (ad (q + 4)), .ref (ad (q + 5))])) := by
  rw [wd_at (by unfold isP at h; omega), sh_P h]
theorem at_S {kc : Nat → ClassId} {ad : Nat → Nat} {I : Nat → Nat → Int32} {J : Nat → Nat → Int64} {q : Nat} (h : isS q) : (wC kc ad I J)[q]? = some (ad q, .inr (2, [.int (I q 0), .long (J q 1), .long (J q 2)])) := by
  rw [wd_at (by unfold isS at h; omega), sh_S h]
theorem at_A {kc : Nat → ClassId} {ad : Nat → Nat} {I : Nat → Nat → Int32} {J : Nat → Nat → Int64} {q : Nat} (h : isA q) : (wC kc ad I J)[q]? = some (ad q, .inl (kc 0, 52, .inl (I q))) := by
  rw [wd_at (by unfold isA at h; omega), sh_A h]
theorem at_L {kc : Nat → ClassId} {ad : Nat → Nat} {I : Nat → Nat → Int32} {J : Nat → Nat → Int64} {q : Nat} (h : isL q) : (wC kc ad I J)[q]? = some (ad q, .inl (kc 1, 5, .inr (.inl (J q)))) := by
  rw [wd_at (by unfold isL at h; omega), sh_L h]
theorem pt_O0 {kc : Nat → ClassId} {ad : Nat → Nat} {I : Nat → Nat → Int32} {J : Nat → Nat → Int64} {x : Int32} : (wC kc ad I J).set 0 (ad 0, .inr (0, ([.int (I 0 0), .int (I 0 1), .int (I 0 2), .ref (ad 1), .int (I 0 4), .ref (ad 2), .ref (ad 3), .int (I 0 7), .int (I 0 8), .ref (ad 4), .ref (ad 5)]).set 0 (.int x))) = wC kc ad (ui I 0 0 x) J := wd_i rfl
theorem pt_O1 {kc : Nat → ClassId} {ad : Nat → Nat} {I : Nat → Nat → Int32} {J : Nat → Nat → Int64} {x : Int32} : (wC kc ad I J).set 0 (ad 0, .inr (0, ([.int (I 0 0), .int (I 0 1), .int (I 0 2), .ref (ad 1), .int (I 0 4), .ref (ad 2), .ref (ad 3), .int (I 0 7), .int (I 0 8), .ref (ad 4), .ref (ad 5)]).set 1 (.int x))) = wC kc ad (ui I 0 1 x) J := wd_i rfl
theorem pt_O2 {kc : Nat → ClassId} {ad : Nat → Nat} {I : Nat → Nat → Int32} {J : Nat → Nat → Int64} {x : Int32} : (wC kc ad I J).set 0 (ad 0, .inr (0, ([.int (I 0 0), .int (I 0 1), .int (I 0 2), .ref (ad 1), .int (I 0 4), .ref (ad 2), .ref (ad 3), .int (I 0 7), .int (I 0 8), .ref (ad 4), .ref (ad 5)]).set 2 (.int x))) = wC kc ad (ui I 0 2 x) J := wd_i rfl
theorem pt_O4 {kc : Nat → ClassId} {ad : Nat → Nat} {I : Nat → Nat → Int32} {J : Nat → Nat → Int64} {x : Int32} : (wC kc ad I J).set 0 (ad 0, .inr (0, ([.int (I 0 0), .int (I 0 1), .int (I 0 2), .ref (ad 1), .int (I 0 4), .ref (ad 2), .ref (ad 3), .int (I 0 7), .int (I 0 8), .ref (ad 4), .ref (ad 5)]).set 4 (.int x))) = wC kc ad (ui I 0 4 x) J := wd_i rfl
theorem pt_O7 {kc : Nat → ClassId} {ad : Nat → Nat} {I : Nat → Nat → Int32} {J : Nat → Nat → Int64} {x : Int32} : (wC kc ad I J).set 0 (ad 0, .inr (0, ([.int (I 0 0), .int (I 0 1), .int (I 0 2), .ref (ad 1), .int (I 0 4), .ref (ad 2), .ref (ad 3), .int (I 0 7), .int (I 0 8), .ref (ad 4), .ref (ad 5)]).set 7 (.int x))) = wC kc ad (ui I 0 7 x) J := wd_i rfl
theorem pt_O8 {kc : Nat → ClassId} {ad : Nat → Nat} {I : Nat → Nat → Int32} {J : Nat → Nat → Int64} {x : Int32} : (wC kc ad I J).set 0 (ad 0, .inr (0, ([.int (I 0 0), .int (I 0 1), .int (I 0 2), .ref (ad 1), .int (I 0 4), .ref (ad 2), .ref (ad 3), .int (I 0 7), .int (I 0 8), .ref (ad 4), .ref (ad 5)]).set 8 (.int x))) = wC kc ad (ui I 0 8 x) J := wd_i rfl
theorem pt_P0 {kc : Nat → ClassId} {ad : Nat → Nat} {I : Nat → Nat → Int32} {J : Nat → Nat → Int64} {q : Nat} (h : isP q) {x : Int32} : (wC kc ad I J).set q (ad q, .inr (1, ([.int (I q 0), .int (I q 1), .int (I q 2), .int (I q 3), .int (I q 4), .int (I q 5), .long (J q 6), .int (I q 7), .ref (ad (q + 1)), .ref (ad (q + 2)), .ref (ad (q + 3)), .ref (ad (q + 4)), .ref (ad (q + 5))]).set 0 (.int x))) = wC kc ad (ui I q 0 x) J := wd_i (by rw [sh_P h]; rfl)
theorem pt_P1 {kc : Nat → ClassId} {ad : Nat → Nat} {I : Nat → Nat → Int32} {J : Nat → Nat → Int64} {q : Nat} (h : isP q) {x : Int32} : (wC kc ad I J).set q (ad q, .inr (1, ([.int (I q 0), .int (I q 1), .int (I q 2), .int (I q 3), .int (I q 4), .int (I q 5), .long (J q 6), .int (I q 7), .ref (ad (q + 1)), .ref (ad (q + 2)), .ref (ad (q + 3)), .ref (ad (q + 4)), .ref (ad (q + 5))]).set 1 (.int x))) = wC kc ad (ui I q 1 x) J := wd_i (by rw [sh_P h]; rfl)
theorem pt_P2 {kc : Nat → ClassId} {ad : Nat → Nat} {I : Nat → Nat → Int32} {J : Nat → Nat → Int64} {q : Nat} (h : isP q) {x : Int32} : (wC kc ad I J).set q (ad q, .inr (1, ([.int (I q 0), .int (I q 1), .int (I q 2), .int (I q 3), .int (I q 4), .int (I q 5), .long (J q 6), .int (I q 7), .ref (ad (q + 1)), .ref (ad (q + 2)), .ref (ad (q + 3)), .ref (ad (q + 4)), .ref (ad (q + 5))]).set 2 (.int x))) = wC kc ad (ui I q 2 x) J := wd_i (by rw [sh_P h]; rfl)
theorem pt_P3 {kc : Nat → ClassId} {ad : Nat → Nat} {I : Nat → Nat → Int32} {J : Nat → Nat → Int64} {q : Nat} (h : isP q) {x : Int32} : (wC kc ad I J).set q (ad q, .inr (1, ([.int (I q 0), .int (I q 1), .int (I q 2), .int (I q 3), .int (I q 4), .int (I q 5), .long (J q 6), .int (I q 7), .ref (ad (q + 1)), .ref (ad (q + 2)), .ref (ad (q + 3)), .ref (ad (q + 4)), .ref (ad (q + 5))]).set 3 (.int x))) = wC kc ad (ui I q 3 x) J := wd_i (by rw [sh_P h]; rfl)
theorem pt_P4 {kc : Nat → ClassId} {ad : Nat → Nat} {I : Nat → Nat → Int32} {J : Nat → Nat → Int64} {q : Nat} (h : isP q) {x : Int32} : (wC kc ad I J).set q (ad q, .inr (1, ([.int (I q 0), .int (I q 1), .int (I q 2), .int (I q 3), .int (I q 4), .int (I q 5), .long (J q 6), .int (I q 7), .ref (ad (q + 1)), .ref (ad (q + 2)), .ref (ad (q + 3)), .ref (ad (q + 4)), .ref (ad (q + 5))]).set 4 (.int x))) = wC kc ad (ui I q 4 x) J := wd_i (by rw [sh_P h]; rfl)
theorem pt_P5 {kc : Nat → ClassId} {ad : Nat → Nat} {I : Nat → Nat → Int32} {J : Nat → Nat → Int64} {q : Nat} (h : isP q) {x : Int32} : (wC kc ad I J).set q (ad q, .inr (1, ([.int (I q 0), .int (I q 1), .int (I q 2), .int (I q 3), .int (I q 4), .int (I q 5), .long (J q 6), .int (I q 7), .ref (ad (q + 1)), .ref (ad (q + 2)), .ref (ad (q + 3)), .ref (ad (q + 4)), .ref (ad (q + 5))]).set 5 (.int x))) = wC kc ad (ui I q 5 x) J := wd_i (by rw [sh_P h]; rfl)
theorem pt_P6 {kc : Nat → ClassId} {ad : Nat → Nat} {I : Nat → Nat → Int32} {J : Nat → Nat → Int64} {q : Nat} (h : isP q) {x : Int64} : (wC kc ad I J).set q (ad q, .inr (1, ([.int (I q 0), .int (I q 1), .int (I q 2), .int (I q 3), .int (I q 4), .int (I q 5), .long (J q 6), .int (I q 7), .ref (ad (q + 1)), .ref (ad (q + 2)), .ref (ad (q + 3)), .ref (ad (q + 4)), .ref (ad (q + 5))]).set 6 (.long x))) = wC kc ad I (uj J q 6 x) := wd_j (by rw [sh_P h]; rfl)
theorem pt_P7 {kc : Nat → ClassId} {ad : Nat → Nat} {I : Nat → Nat → Int32} {J : Nat → Nat → Int64} {q : Nat} (h : isP q) {x : Int32} : (wC kc ad I J).set q (ad q, .inr (1, ([.int (I q 0), .int (I q 1), .int (I q 2), .int (I q 3), .int (I q 4), .int (I q 5), .long (J q 6), .int (I q 7), .ref (ad (q + 1)), .ref (ad (q + 2)), .ref (ad (q + 3)), .ref (ad (q + 4)), .ref (ad (q + 5))]).set 7 (.int x))) = wC kc ad (ui I q 7 x) J := wd_i (by rw [sh_P h]; rfl)
theorem pt_S0 {kc : Nat → ClassId} {ad : Nat → Nat} {I : Nat → Nat → Int32} {J : Nat → Nat → Int64} {q : Nat} (h : isS q) {x : Int32} : (wC kc ad I J).set q (ad q, .inr (2, ([.int (I q 0), .long (J q 1), .long (J q 2)]).set 0 (.int x))) = wC kc ad (ui I q 0 x) J := wd_i (by rw [sh_S h]; rfl)
theorem pt_S1 {kc : Nat → ClassId} {ad : Nat → Nat} {I : Nat → Nat → Int32} {J : Nat → Nat → Int64} {q : Nat} (h : isS q) {x : Int64} : (wC kc ad I J).set q (ad q, .inr (2, ([.int (I q 0), .long (J q 1), .long (J q 2)]).set 1 (.long x))) = wC kc ad I (uj J q 1 x) := wd_j (by rw [sh_S h]; rfl)
theorem pt_S2 {kc : Nat → ClassId} {ad : Nat → Nat} {I : Nat → Nat → Int32} {J : Nat → Nat → Int64} {q : Nat} (h : isS q) {x : Int64} : (wC kc ad I J).set q (ad q, .inr (2, ([.int (I q 0), .long (J q 1), .long (J q 2)]).set 2 (.long x))) = wC kc ad I (uj J q 2 x) := wd_j (by rw [sh_S h]; rfl)
theorem pt_A {kc : Nat → ClassId} {ad : Nat → Nat} {I : Nat → Nat → Int32} {J : Nat → Nat → Int64} {q i : Nat} (h : isA q) {x : Int32} : (wC kc ad I J).set q (ad q, .inl (kc 0, 52, .inl (upd (I q) i x))) = wC kc ad (ui I q i x) J := wd_i (by rw [sh_A h])
theorem pt_L {kc : Nat → ClassId} {ad : Nat → Nat} {I : Nat → Nat → Int32} {J : Nat → Nat → Int64} {q i : Nat} (h : isL q) {x : Int64} : (wC kc ad I J).set q (ad q, .inl (kc 1, 5, .inr (.inl (vp_updL (J q) i x)))) = wC kc ad I (uj J q i x) := wd_j (by rw [sh_L h])
def shE (kc : Nat → ClassId) (ad : Nat → Nat) (q : Nat) (f : Nat → Int32) (g : Nat → Int64) : va_E := if q = 39 then .inr (3, [.long (g 0)]) else shC kc ad q f g
abbrev wE (kc : Nat → ClassId) (ad : Nat → Nat) (I : Nat → Nat → Int32) (J : Nat → Nat → Int64) : va_W := wd 40 (shE kc ad) ad I J
theorem sh_agree {kc : Nat → ClassId} {ad ad1 : Nat → Nat} (h : ∀ q, q < 39 → ad1 q = ad q) {q : Nat} (hq : q < 39) {f : Nat → Int32} {g : Nat → Int64} : shC kc ad1 q f g = shC kc ad q f g := by
  have fp : (fun j => if j < 4 then some (ad1 (15 + 6 * j)) else none) = (fun j => if j < 4 then some (ad (15 + 6 * j)) else none) := by
    funext j
    by_cases hj : j < 4
    · rw [if_pos hj, if_pos hj, h _ (by omega)]
    · rw [if_neg hj, if_neg hj]
  have fd : (fun j => if j < 9 then some (ad1 (6 + j)) else none) = (fun j => if j < 9 then some (ad (6 + j)) else none) := by
    funext j
    by_cases hj : j < 9
    · rw [if_pos hj, if_pos hj, h _ (by omega)]
    · rw [if_neg hj, if_neg hj]
  unfold shC
  rw [fp, fd]
  by_cases h0 : q = 0
  · rw [if_pos h0, if_pos h0, h 1 (by omega), h 2 (by omega), h 3 (by omega), h 4 (by omega), h 5 (by omega)]
  · rw [if_neg h0, if_neg h0]
    by_cases h1 : q = 1
    · rw [if_pos h1, if_pos h1]
    · rw [if_neg h1, if_neg h1]
      by_cases h2 : q = 2
      · rw [if_pos h2, if_pos h2]
      · rw [if_neg h2, if_neg h2]
        by_cases h3 : q < 15
        · rw [if_pos h3, if_pos h3]
        · rw [if_neg h3, if_neg h3]
          have hc : q = 15 ∨ q = 21 ∨ q = 27 ∨ q = 33 ∨ (q - 15) % 6 ≠ 0 := by omega
          rcases hc with rfl | rfl | rfl | rfl | hc
          · rw [h 16 (by omega), h 17 (by omega), h 18 (by omega), h 19 (by omega), h 20 (by omega)]
          · rw [h 22 (by omega), h 23 (by omega), h 24 (by omega), h 25 (by omega), h 26 (by omega)]
          · rw [h 28 (by omega), h 29 (by omega), h 30 (by omega), h 31 (by omega), h 32 (by omega)]
          · rw [h 34 (by omega), h 35 (by omega), h 36 (by omega), h 37 (by omega), h 38 (by omega)]
          · split
            · omega
            all_goals rfl
theorem wE_app {kc : Nat → ClassId} {ad : Nat → Nat} {I : Nat → Nat → Int32} {J : Nat → Nat → Int64} : wE kc ad I J = wC kc ad I J ++ [(ad 39, .inr (3, [.long (J 39 0)]))] := by
  unfold wE wC wd
  rw [show List.range 40 = List.range 39 ++ [39] from List.range_succ, List.map_append, List.map_congr_left (g := fun q => (ad q, shC kc ad q (I q) (J q))) (fun q hq => by
    have := List.mem_range.mp hq
    show (ad q, shE kc ad q (I q) (J q)) = (ad q, shC kc ad q (I q) (J q))
    unfold shE
    rw [if_neg (by omega)])]
  rfl
theorem wC_agree {kc : Nat → ClassId} {ad ad1 : Nat → Nat} {I : Nat → Nat → Int32} {J J1 : Nat → Nat → Int64} (h : ∀ q, q < 39 → ad1 q = ad q) (hJ : ∀ q, q < 39 → J1 q = J q) : wC kc ad1 I J1 = wC kc ad I J := by
  unfold wC wd
  apply List.map_congr_left
  intro q hq
  have hq := List.mem_range.mp hq
  rw [h q hq, sh_agree h hq, hJ q hq]
theorem wE_new {kc : Nat → ClassId} {ad : Nat → Nat} {I : Nat → Nat → Int32} {J : Nat → Nat → Int64} {b : Nat} : wC kc ad I J ++ [(b, .inr (3, [.long 0]))] = wE kc (va_up ad 39 b) I (va_up J 39 (fun _ => 0)) := by
  rw [wE_app, wC_agree (ad := ad) (J := J) (fun q hq => va_up_ne _ _ (by omega)) (fun q hq => va_up_ne _ _ (by omega)), va_up_self, va_up_self]
theorem va_P.left {D : va_G} {cl : List vw_C} {a b : va_W} {H : Heap} (h : va_P D cl (a ++ b) H) : va_P D cl a H := fun k q hk => h k q (by rw [List.getElem?_append_left (List.getElem?_eq_some_iff.mp hk).1]; exact hk)
theorem va_D.left {A : Nat → Prop} {a b : va_W} (h : va_D A (a ++ b)) : va_D A a := ⟨fun i j x y hi hj e => h.1 i j x y (by rw [List.getElem?_append_left (List.getElem?_eq_some_iff.mp hi).1]; exact hi) (by rw [List.getElem?_append_left (List.getElem?_eq_some_iff.mp hj).1]; exact hj) e, fun k q hk => h.2 k q (by rw [List.getElem?_append_left (List.getElem?_eq_some_iff.mp hk).1]; exact hk)⟩
theorem wE_back {D : va_G} {cl : List vw_C} {kc : Nat → ClassId} {ad : Nat → Nat} {I : Nat → Nat → Int32} {J : Nat → Nat → Int64} {b : Nat} {H : Heap} (h : va_P D cl (wE kc (va_up ad 39 b) I J) H) : va_P D cl (wC kc ad I J) H := by
  rw [wE_app] at h
  have h := h.left
  rw [wC_agree (ad := ad) (J := J) (fun q hq => va_up_ne _ _ (by omega)) (fun _ _ => rfl)] at h
  exact h
theorem wE_backD {A : Nat → Prop} {kc : Nat → ClassId} {ad : Nat → Nat} {I : Nat → Nat → Int32} {J : Nat → Nat → Int64} {b : Nat} (h : va_D A (wE kc (va_up ad 39 b) I J)) : va_D A (wC kc ad I J) := by
  rw [wE_app] at h
  have h := h.left
  rw [wC_agree (ad := ad) (J := J) (fun q hq => va_up_ne _ _ (by omega)) (fun _ _ => rfl)] at h
  exact h
theorem ate_D {kc : Nat → ClassId} {ad : Nat → Nat} {I : Nat → Nat → Int32} {J : Nat → Nat → Int64} : (wE kc ad I J)[39]? = some (ad 39, .inr (3, [.long (J 39 0)])) := wd_at (by decide)
theorem pte_D0 {kc : Nat → ClassId} {ad : Nat → Nat} {I : Nat → Nat → Int32} {J : Nat → Nat → Int64} {x : Int64} : (wE kc ad I J).set 39 (ad 39, .inr (3, ([.long (J 39 0)] : List Value).set 0 (.long x))) = wE kc ad I (uj J 39 0 x) := wd_j rfl
theorem she {kc : Nat → ClassId} {ad : Nat → Nat} {q : Nat} (h : q ≠ 39) {f : Nat → Int32} {g : Nat → Int64} : shE kc ad q f g = shC kc ad q f g := if_neg h
theorem ate_A {kc : Nat → ClassId} {ad : Nat → Nat} {I : Nat → Nat → Int32} {J : Nat → Nat → Int64} {q : Nat} (h : isA q) : (wE kc ad I J)[q]? = some (ad q, .inl (kc 0, 52, .inl (I q))) := by
  rw [wd_at (by unfold isA at h; omega), she (by unfold isA at h; omega), sh_A h]
theorem pte_A {kc : Nat → ClassId} {ad : Nat → Nat} {I : Nat → Nat → Int32} {J : Nat → Nat → Int64} {q i : Nat} (h : isA q) {x : Int32} : (wE kc ad I J).set q (ad q, .inl (kc 0, 52, .inl (upd (I q) i x))) = wE kc ad (ui I q i x) J := wd_i (by rw [she (by unfold isA at h; omega), sh_A h])
def shM (kc : Nat → ClassId) (ad : Nat → Nat) (q : Nat) (f : Nat → Int32) (g : Nat → Int64) : va_E := match q with
  | 0 => .inr (4, [.int (f 0), .int (f 1), .int (f 2), .int (f 3), .int (f 4), .ref (ad 1), .ref (ad 2), .ref (ad 3), .ref (ad 4), .ref (ad 5), .ref (ad 6), .ref (ad 7), .ref (ad 8), .ref (ad 9), .ref (ad 10), .ref (ad 11), .ref (ad 12), .ref (ad 13), .ref (ad 14), .ref (ad 15), .int (f 20), .ref (ad 16), .ref (ad 17), .ref (ad 18), .ref (ad 19), .long (g 25), .ref (ad 20), .ref (ad 21), .ref (ad 22), .ref (ad 23), .int (f 30), .int (f 31)])
  | 1 => .inl (kc 0, 4, .inl f)
  | 2 => .inl (kc 2, 4, .inl f)
  | 3 => .inl (kc 1, 4, .inr (.inl g))
  | 4 => .inl (kc 0, 4, .inl f)
  | 5 => .inl (kc 1, 4, .inr (.inl g))
  | 6 => .inl (kc 1, 4, .inr (.inl g))
  | 7 => .inl (kc 2, 4, .inl f)
  | 8 => .inl (kc 0, 4, .inl f)
  | 9 => .inl (kc 1, 4, .inr (.inl g))
  | 10 => .inl (kc 1, 4, .inr (.inl g))
  | 11 => .inl (kc 1, 4, .inr (.inl g))
  | 12 => .inl (kc 1, 4, .inr (.inl g))
  | 13 => .inl (kc 2, 4, .inl f)
  | 14 => .inl (kc 2, 4, .inl f)
  | 15 => .inl (kc 0, 468, .inl f)
  | 16 => .inl (kc 0, 52, .inl f)
  | 17 => .inl (kc 0, 52, .inl f)
  | 18 => .inl (kc 0, 52, .inl f)
  | 19 => .inl (kc 0, 208, .inl f)
  | 20 => .inl (kc 2, 4, .inl f)
  | 21 => .inl (kc 0, 4, .inl f)
  | 22 => .inl (kc 0, 4, .inl f)
  | _ => .inl (kc 2, 4, .inl f)
abbrev wM (kc : Nat → ClassId) (ad : Nat → Nat) (I : Nat → Nat → Int32) (J : Nat → Nat → Int64) : va_W := wd 24 (shM kc ad) ad I J
theorem am_0 {kc : Nat → ClassId} {ad : Nat → Nat} {I : Nat → Nat → Int32} {J : Nat → Nat → Int64} : (wM kc ad I J)[0]? = some (ad 0, .inr (4, [.int (I 0 0), .int (I 0 1), .int (I 0 2), .int (I 0 3), .int (I 0 4), .ref (ad 1), .ref (ad 2), .ref (ad 3), .ref (ad 4), .ref (ad 5), .ref (ad 6), .ref (ad 7), .ref (ad 8), .ref (ad 9), .ref (ad 10), .ref (ad 11), .ref (ad 12), .ref (ad 13), .ref (ad 14), .ref (ad 15), .int (I 0 20), .ref (ad 16), .ref (ad 17), .ref (ad 18), .ref (ad 19), .long (J 0 25), .ref (ad 20), .ref (ad 21), .ref (ad 22), .ref (ad 23), .int (I 0 30), .int (I 0 31)])) := wd_at (by decide)
theorem am_1 {kc : Nat → ClassId} {ad : Nat → Nat} {I : Nat → Nat → Int32} {J : Nat → Nat → Int64} : (wM kc ad I J)[1]? = some (ad 1, .inl (kc 0, 4, .inl (I 1))) := wd_at (by decide)
theorem pm_1 {kc : Nat → ClassId} {ad : Nat → Nat} {I : Nat → Nat → Int32} {J : Nat → Nat → Int64} {i : Nat} {x : Int32} : (wM kc ad I J).set 1 (ad 1, .inl (kc 0, 4, .inl (upd (I 1) i x))) = wM kc ad (ui I 1 i x) J := wd_i rfl
theorem am_2 {kc : Nat → ClassId} {ad : Nat → Nat} {I : Nat → Nat → Int32} {J : Nat → Nat → Int64} : (wM kc ad I J)[2]? = some (ad 2, .inl (kc 2, 4, .inl (I 2))) := wd_at (by decide)
theorem pm_2 {kc : Nat → ClassId} {ad : Nat → Nat} {I : Nat → Nat → Int32} {J : Nat → Nat → Int64} {i : Nat} {x : Int32} : (wM kc ad I J).set 2 (ad 2, .inl (kc 2, 4, .inl (upd (I 2) i x))) = wM kc ad (ui I 2 i x) J := wd_i rfl
theorem am_3 {kc : Nat → ClassId} {ad : Nat → Nat} {I : Nat → Nat → Int32} {J : Nat → Nat → Int64} : (wM kc ad I J)[3]? = some (ad 3, .inl (kc 1, 4, .inr (.inl (J 3)))) := wd_at (by decide)
theorem pm_3 {kc : Nat → ClassId} {ad : Nat → Nat} {I : Nat → Nat → Int32} {J : Nat → Nat → Int64} {i : Nat} {x : Int64} : (wM kc ad I J).set 3 (ad 3, .inl (kc 1, 4, .inr (.inl (vp_updL (J 3) i x)))) = wM kc ad I (uj J 3 i x) := wd_j rfl
theorem am_4 {kc : Nat → ClassId} {ad : Nat → Nat} {I : Nat → Nat → Int32} {J : Nat → Nat → Int64} : (wM kc ad I J)[4]? = some (ad 4, .inl (kc 0, 4, .inl (I 4))) := wd_at (by decide)
theorem pm_4 {kc : Nat → ClassId} {ad : Nat → Nat} {I : Nat → Nat → Int32} {J : Nat → Nat → Int64} {i : Nat} {x : Int32} : (wM kc ad I J).set 4 (ad 4, .inl (kc 0, 4, .inl (upd (I 4) i x))) = wM kc ad (ui I 4 i x) J := wd_i rfl
theorem am_5 {kc : Nat → ClassId} {ad : Nat → Nat} {I : Nat → Nat → Int32} {J : Nat → Nat → Int64} : (wM kc ad I J)[5]? = some (ad 5, .inl (kc 1, 4, .inr (.inl (J 5)))) := wd_at (by decide)
theorem pm_5 {kc : Nat → ClassId} {ad : Nat → Nat} {I : Nat → Nat → Int32} {J : Nat → Nat → Int64} {i : Nat} {x : Int64} : (wM kc ad I J).set 5 (ad 5, .inl (kc 1, 4, .inr (.inl (vp_updL (J 5) i x)))) = wM kc ad I (uj J 5 i x) := wd_j rfl
theorem am_6 {kc : Nat → ClassId} {ad : Nat → Nat} {I : Nat → Nat → Int32} {J : Nat → Nat → Int64} : (wM kc ad I J)[6]? = some (ad 6, .inl (kc 1, 4, .inr (.inl (J 6)))) := wd_at (by decide)
theorem pm_6 {kc : Nat → ClassId} {ad : Nat → Nat} {I : Nat → Nat → Int32} {J : Nat → Nat → Int64} {i : Nat} {x : Int64} : (wM kc ad I J).set 6 (ad 6, .inl (kc 1, 4, .inr (.inl (vp_updL (J 6) i x)))) = wM kc ad I (uj J 6 i x) := wd_j rfl
theorem am_7 {kc : Nat → ClassId} {ad : Nat → Nat} {I : Nat → Nat → Int32} {J : Nat → Nat → Int64} : (wM kc ad I J)[7]? = some (ad 7, .inl (kc 2, 4, .inl (I 7))) := wd_at (by decide)
theorem pm_7 {kc : Nat → ClassId} {ad : Nat → Nat} {I : Nat → Nat → Int32} {J : Nat → Nat → Int64} {i : Nat} {x : Int32} : (wM kc ad I J).set 7 (ad 7, .inl (kc 2, 4, .inl (upd (I 7) i x))) = wM kc ad (ui I 7 i x) J := wd_i rfl
theorem am_8 {kc : Nat → ClassId} {ad : Nat → Nat} {I : Nat → Nat → Int32} {J : Nat → Nat → Int64} : (wM kc ad I J)[8]? = some (ad 8, .inl (kc 0, 4, .inl (I 8))) := wd_at (by decide)
theorem pm_8 {kc : Nat → ClassId} {ad : Nat → Nat} {I : Nat → Nat → Int32} {J : Nat → Nat → Int64} {i : Nat} {x : Int32} : (wM kc ad I J).set 8 (ad 8, .inl (kc 0, 4, .inl (upd (I 8) i x))) = wM kc ad (ui I 8 i x) J := wd_i rfl
theorem am_9 {kc : Nat → ClassId} {ad : Nat → Nat} {I : Nat → Nat → Int32} {J : Nat → Nat → Int64} : (wM kc ad I J)[9]? = some (ad 9, .inl (kc 1, 4, .inr (.inl (J 9)))) := wd_at (by decide)
theorem pm_9 {kc : Nat → ClassId} {ad : Nat → Nat} {I : Nat → Nat → Int32} {J : Nat → Nat → Int64} {i : Nat} {x : Int64} : (wM kc ad I J).set 9 (ad 9, .inl (kc 1, 4, .inr (.inl (vp_updL (J 9) i x)))) = wM kc ad I (uj J 9 i x) := wd_j rfl
theorem am_10 {kc : Nat → ClassId} {ad : Nat → Nat} {I : Nat → Nat → Int32} {J : Nat → Nat → Int64} : (wM kc ad I J)[10]? = some (ad 10, .inl (kc 1, 4, .inr (.inl (J 10)))) := wd_at (by decide)
theorem pm_10 {kc : Nat → ClassId} {ad : Nat → Nat} {I : Nat → Nat → Int32} {J : Nat → Nat → Int64} {i : Nat} {x : Int64} : (wM kc ad I J).set 10 (ad 10, .inl (kc 1, 4, .inr (.inl (vp_updL (J 10) i x)))) = wM kc ad I (uj J 10 i x) := wd_j rfl
theorem am_11 {kc : Nat → ClassId} {ad : Nat → Nat} {I : Nat → Nat → Int32} {J : Nat → Nat → Int64} : (wM kc ad I J)[11]? = some (ad 11, .inl (kc 1, 4, .inr (.inl (J 11)))) := wd_at (by decide)
theorem pm_11 {kc : Nat → ClassId} {ad : Nat → Nat} {I : Nat → Nat → Int32} {J : Nat → Nat → Int64} {i : Nat} {x : Int64} : (wM kc ad I J).set 11 (ad 11, .inl (kc 1, 4, .inr (.inl (vp_updL (J 11) i x)))) = wM kc ad I (uj J 11 i x) := wd_j rfl
theorem am_12 {kc : Nat → ClassId} {ad : Nat → Nat} {I : Nat → Nat → Int32} {J : Nat → Nat → Int64} : (wM kc ad I J)[12]? = some (ad 12, .inl (kc 1, 4, .inr (.inl (J 12)))) := wd_at (by decide)
theorem pm_12 {kc : Nat → ClassId} {ad : Nat → Nat} {I : Nat → Nat → Int32} {J : Nat → Nat → Int64} {i : Nat} {x : Int64} : (wM kc ad I J).set 12 (ad 12, .inl (kc 1, 4, .inr (.inl (vp_updL (J 12) i x)))) = wM kc ad I (uj J 12 i x) := wd_j rfl
theorem am_13 {kc : Nat → ClassId} {ad : Nat → Nat} {I : Nat → Nat → Int32} {J : Nat → Nat → Int64} : (wM kc ad I J)[13]? = some (ad 13, .inl (kc 2, 4, .inl (I 13))) := wd_at (by decide)
theorem pm_13 {kc : Nat → ClassId} {ad : Nat → Nat} {I : Nat → Nat → Int32} {J : Nat → Nat → Int64} {i : Nat} {x : Int32} : (wM kc ad I J).set 13 (ad 13, .inl (kc 2, 4, .inl (upd (I 13) i x))) = wM kc ad (ui I 13 i x) J := wd_i rfl
theorem am_14 {kc : Nat → ClassId} {ad : Nat → Nat} {I : Nat → Nat → Int32} {J : Nat → Nat → Int64} : (wM kc ad I J)[14]? = some (ad 14, .inl (kc 2, 4, .inl (I 14))) := wd_at (by decide)
theorem pm_14 {kc : Nat → ClassId} {ad : Nat → Nat} {I : Nat → Nat → Int32} {J : Nat → Nat → Int64} {i : Nat} {x : Int32} : (wM kc ad I J).set 14 (ad 14, .inl (kc 2, 4, .inl (upd (I 14) i x))) = wM kc ad (ui I 14 i x) J := wd_i rfl
theorem am_15 {kc : Nat → ClassId} {ad : Nat → Nat} {I : Nat → Nat → Int32} {J : Nat → Nat → Int64} : (wM kc ad I J)[15]? = some (ad 15, .inl (kc 0, 468, .inl (I 15))) := wd_at (by decide)
theorem pm_15 {kc : Nat → ClassId} {ad : Nat → Nat} {I : Nat → Nat → Int32} {J : Nat → Nat → Int64} {i : Nat} {x : Int32} : (wM kc ad I J).set 15 (ad 15, .inl (kc 0, 468, .inl (upd (I 15) i x))) = wM kc ad (ui I 15 i x) J := wd_i rfl
theorem am_16 {kc : Nat → ClassId} {ad : Nat → Nat} {I : Nat → Nat → Int32} {J : Nat → Nat → Int64} : (wM kc ad I J)[16]? = some (ad 16, .inl (kc 0, 52, .inl (I 16))) := wd_at (by decide)
theorem pm_16 {kc : Nat → ClassId} {ad : Nat → Nat} {I : Nat → Nat → Int32} {J : Nat → Nat → Int64} {i : Nat} {x : Int32} : (wM kc ad I J).set 16 (ad 16, .inl (kc 0, 52, .inl (upd (I 16) i x))) = wM kc ad (ui I 16 i x) J := wd_i rfl
theorem am_17 {kc : Nat → ClassId} {ad : Nat → Nat} {I : Nat → Nat → Int32} {J : Nat → Nat → Int64} : (wM kc ad I J)[17]? = some (ad 17, .inl (kc 0, 52, .inl (I 17))) := wd_at (by decide)
theorem pm_17 {kc : Nat → ClassId} {ad : Nat → Nat} {I : Nat → Nat → Int32} {J : Nat → Nat → Int64} {i : Nat} {x : Int32} : (wM kc ad I J).set 17 (ad 17, .inl (kc 0, 52, .inl (upd (I 17) i x))) = wM kc ad (ui I 17 i x) J := wd_i rfl
theorem am_18 {kc : Nat → ClassId} {ad : Nat → Nat} {I : Nat → Nat → Int32} {J : Nat → Nat → Int64} : (wM kc ad I J)[18]? = some (ad 18, .inl (kc 0, 52, .inl (I 18))) := wd_at (by decide)
theorem pm_18 {kc : Nat → ClassId} {ad : Nat → Nat} {I : Nat → Nat → Int32} {J : Nat → Nat → Int64} {i : Nat} {x : Int32} : (wM kc ad I J).set 18 (ad 18, .inl (kc 0, 52, .inl (upd (I 18) i x))) = wM kc ad (ui I 18 i x) J := wd_i rfl
theorem am_19 {kc : Nat → ClassId} {ad : Nat → Nat} {I : Nat → Nat → Int32} {J : Nat → Nat → Int64} : (wM kc ad I J)[19]? = some (ad 19, .inl (kc 0, 208, .inl (I 19))) := wd_at (by decide)
theorem pm_19 {kc : Nat → ClassId} {ad : Nat → Nat} {I : Nat → Nat → Int32} {J : Nat → Nat → Int64} {i : Nat} {x : Int32} : (wM kc ad I J).set 19 (ad 19, .inl (kc 0, 208, .inl (upd (I 19) i x))) = wM kc ad (ui I 19 i x) J := wd_i rfl
theorem am_20 {kc : Nat → ClassId} {ad : Nat → Nat} {I : Nat → Nat → Int32} {J : Nat → Nat → Int64} : (wM kc ad I J)[20]? = some (ad 20, .inl (kc 2, 4, .inl (I 20))) := wd_at (by decide)
theorem pm_20 {kc : Nat → ClassId} {ad : Nat → Nat} {I : Nat → Nat → Int32} {J : Nat → Nat → Int64} {i : Nat} {x : Int32} : (wM kc ad I J).set 20 (ad 20, .inl (kc 2, 4, .inl (upd (I 20) i x))) = wM kc ad (ui I 20 i x) J := wd_i rfl
theorem am_21 {kc : Nat → ClassId} {ad : Nat → Nat} {I : Nat → Nat → Int32} {J : Nat → Nat → Int64} : (wM kc ad I J)[21]? = some (ad 21, .inl (kc 0, 4, .inl (I 21))) := wd_at (by decide)
theorem pm_21 {kc : Nat → ClassId} {ad : Nat → Nat} {I : Nat → Nat → Int32} {J : Nat → Nat → Int64} {i : Nat} {x : Int32} : (wM kc ad I J).set 21 (ad 21, .inl (kc 0, 4, .inl (upd (I 21) i x))) = wM kc ad (ui I 21 i x) J := wd_i rfl
theorem am_22 {kc : Nat → ClassId} {ad : Nat → Nat} {I : Nat → Nat → Int32} {J : Nat → Nat → Int64} : (wM kc ad I J)[22]? = some (ad 22, .inl (kc 0, 4, .inl (I 22))) := wd_at (by decide)
theorem pm_22 {kc : Nat → ClassId} {ad : Nat → Nat} {I : Nat → Nat → Int32} {J : Nat → Nat → Int64} {i : Nat} {x : Int32} : (wM kc ad I J).set 22 (ad 22, .inl (kc 0, 4, .inl (upd (I 22) i x))) = wM kc ad (ui I 22 i x) J := wd_i rfl
theorem am_23 {kc : Nat → ClassId} {ad : Nat → Nat} {I : Nat → Nat → Int32} {J : Nat → Nat → Int64} : (wM kc ad I J)[23]? = some (ad 23, .inl (kc 2, 4, .inl (I 23))) := wd_at (by decide)
theorem pm_23 {kc : Nat → ClassId} {ad : Nat → Nat} {I : Nat → Nat → Int32} {J : Nat → Nat → Int64} {i : Nat} {x : Int32} : (wM kc ad I J).set 23 (ad 23, .inl (kc 2, 4, .inl (upd (I 23) i x))) = wM kc ad (ui I 23 i x) J := wd_i rfl
theorem pt_M0 {kc : Nat → ClassId} {ad : Nat → Nat} {I : Nat → Nat → Int32} {J : Nat → Nat → Int64} {x : Int32} : (wM kc ad I J).set 0 (ad 0, .inr (4, ([.int (I 0 0), .int (I 0 1), .int (I 0 2), .int (I 0 3), .int (I 0 4), .ref (ad 1), .ref (ad 2), .ref (ad 3), .ref (ad 4), .ref (ad 5), .ref (ad 6), .ref (ad 7), .ref (ad 8), .ref (ad 9), .ref (ad 10), .ref (ad 11), .ref (ad 12), .ref (ad 13), .ref (ad 14), .ref (ad 15), .int (I 0 20), .ref (ad 16), .ref (ad 17), .ref (ad 18), .ref (ad 19), .long (J 0 25), .ref (ad 20), .ref (ad 21), .ref (ad 22), .ref (ad 23), .int (I 0 30), .int (I 0 31)]).set 0 (.int x))) = wM kc ad (ui I 0 0 x) J := wd_i rfl
theorem pt_M1 {kc : Nat → ClassId} {ad : Nat → Nat} {I : Nat → Nat → Int32} {J : Nat → Nat → Int64} {x : Int32} : (wM kc ad I J).set 0 (ad 0, .inr (4, ([.int (I 0 0), .int (I 0 1), .int (I 0 2), .int (I 0 3), .int (I 0 4), .ref (ad 1), .ref (ad 2), .ref (ad 3), .ref (ad 4), .ref (ad 5), .ref (ad 6), .ref (ad 7), .ref (ad 8), .ref (ad 9), .ref (ad 10), .ref (ad 11), .ref (ad 12), .ref (ad 13), .ref (ad 14), .ref (ad 15), .int (I 0 20), .ref (ad 16), .ref (ad 17), .ref (ad 18), .ref (ad 19), .long (J 0 25), .ref (ad 20), .ref (ad 21), .ref (ad 22), .ref (ad 23), .int (I 0 30), .int (I 0 31)]).set 1 (.int x))) = wM kc ad (ui I 0 1 x) J := wd_i rfl
theorem pt_M2 {kc : Nat → ClassId} {ad : Nat → Nat} {I : Nat → Nat → Int32} {J : Nat → Nat → Int64} {x : Int32} : (wM kc ad I J).set 0 (ad 0, .inr (4, ([.int (I 0 0), .int (I 0 1), .int (I 0 2), .int (I 0 3), .int (I 0 4), .ref (ad 1), .ref (ad 2), .ref (ad 3), .ref (ad 4), .ref (ad 5), .ref (ad 6), .ref (ad 7), .ref (ad 8), .ref (ad 9), .ref (ad 10), .ref (ad 11), .ref (ad 12), .ref (ad 13), .ref (ad 14), .ref (ad 15), .int (I 0 20), .ref (ad 16), .ref (ad 17), .ref (ad 18), .ref (ad 19), .long (J 0 25), .ref (ad 20), .ref (ad 21), .ref (ad 22), .ref (ad 23), .int (I 0 30), .int (I 0 31)]).set 2 (.int x))) = wM kc ad (ui I 0 2 x) J := wd_i rfl
theorem pt_M3 {kc : Nat → ClassId} {ad : Nat → Nat} {I : Nat → Nat → Int32} {J : Nat → Nat → Int64} {x : Int32} : (wM kc ad I J).set 0 (ad 0, .inr (4, ([.int (I 0 0), .int (I 0 1), .int (I 0 2), .int (I 0 3), .int (I 0 4), .ref (ad 1), .ref (ad 2), .ref (ad 3), .ref (ad 4), .ref (ad 5), .ref (ad 6), .ref (ad 7), .ref (ad 8), .ref (ad 9), .ref (ad 10), .ref (ad 11), .ref (ad 12), .ref (ad 13), .ref (ad 14), .ref (ad 15), .int (I 0 20), .ref (ad 16), .ref (ad 17), .ref (ad 18), .ref (ad 19), .long (J 0 25), .ref (ad 20), .ref (ad 21), .ref (ad 22), .ref (ad 23), .int (I 0 30), .int (I 0 31)]).set 3 (.int x))) = wM kc ad (ui I 0 3 x) J := wd_i rfl
theorem pt_M4 {kc : Nat → ClassId} {ad : Nat → Nat} {I : Nat → Nat → Int32} {J : Nat → Nat → Int64} {x : Int32} : (wM kc ad I J).set 0 (ad 0, .inr (4, ([.int (I 0 0), .int (I 0 1), .int (I 0 2), .int (I 0 3), .int (I 0 4), .ref (ad 1), .ref (ad 2), .ref (ad 3), .ref (ad 4), .ref (ad 5), .ref (ad 6), .ref (ad 7), .ref (ad 8), .ref (ad 9), .ref (ad 10), .ref (ad 11), .ref (ad 12), .ref (ad 13), .ref (ad 14), .ref (ad 15), .int (I 0 20), .ref (ad 16), .ref (ad 17), .ref (ad 18), .ref (ad 19), .long (J 0 25), .ref (ad 20), .ref (ad 21), .ref (ad 22), .ref (ad 23), .int (I 0 30), .int (I 0 31)]).set 4 (.int x))) = wM kc ad (ui I 0 4 x) J := wd_i rfl
theorem pt_M20 {kc : Nat → ClassId} {ad : Nat → Nat} {I : Nat → Nat → Int32} {J : Nat → Nat → Int64} {x : Int32} : (wM kc ad I J).set 0 (ad 0, .inr (4, ([.int (I 0 0), .int (I 0 1), .int (I 0 2), .int (I 0 3), .int (I 0 4), .ref (ad 1), .ref (ad 2), .ref (ad 3), .ref (ad 4), .ref (ad 5), .ref (ad 6), .ref (ad 7), .ref (ad 8), .ref (ad 9), .ref (ad 10), .ref (ad 11), .ref (ad 12), .ref (ad 13), .ref (ad 14), .ref (ad 15), .int (I 0 20), .ref (ad 16), .ref (ad 17), .ref (ad 18), .ref (ad 19), .long (J 0 25), .ref (ad 20), .ref (ad 21), .ref (ad 22), .ref (ad 23), .int (I 0 30), .int (I 0 31)]).set 20 (.int x))) = wM kc ad (ui I 0 20 x) J := wd_i rfl
theorem pt_M25 {kc : Nat → ClassId} {ad : Nat → Nat} {I : Nat → Nat → Int32} {J : Nat → Nat → Int64} {x : Int64} : (wM kc ad I J).set 0 (ad 0, .inr (4, ([.int (I 0 0), .int (I 0 1), .int (I 0 2), .int (I 0 3), .int (I 0 4), .ref (ad 1), .ref (ad 2), .ref (ad 3), .ref (ad 4), .ref (ad 5), .ref (ad 6), .ref (ad 7), .ref (ad 8), .ref (ad 9), .ref (ad 10), .ref (ad 11), .ref (ad 12), .ref (ad 13), .ref (ad 14), .ref (ad 15), .int (I 0 20), .ref (ad 16), .ref (ad 17), .ref (ad 18), .ref (ad 19), .long (J 0 25), .ref (ad 20), .ref (ad 21), .ref (ad 22), .ref (ad 23), .int (I 0 30), .int (I 0 31)]).set 25 (.long x))) = wM kc ad I (uj J 0 25 x) := wd_j rfl
theorem pt_M30 {kc : Nat → ClassId} {ad : Nat → Nat} {I : Nat → Nat → Int32} {J : Nat → Nat → Int64} {x : Int32} : (wM kc ad I J).set 0 (ad 0, .inr (4, ([.int (I 0 0), .int (I 0 1), .int (I 0 2), .int (I 0 3), .int (I 0 4), .ref (ad 1), .ref (ad 2), .ref (ad 3), .ref (ad 4), .ref (ad 5), .ref (ad 6), .ref (ad 7), .ref (ad 8), .ref (ad 9), .ref (ad 10), .ref (ad 11), .ref (ad 12), .ref (ad 13), .ref (ad 14), .ref (ad 15), .int (I 0 20), .ref (ad 16), .ref (ad 17), .ref (ad 18), .ref (ad 19), .long (J 0 25), .ref (ad 20), .ref (ad 21), .ref (ad 22), .ref (ad 23), .int (I 0 30), .int (I 0 31)]).set 30 (.int x))) = wM kc ad (ui I 0 30 x) J := wd_i rfl
theorem pt_M31 {kc : Nat → ClassId} {ad : Nat → Nat} {I : Nat → Nat → Int32} {J : Nat → Nat → Int64} {x : Int32} : (wM kc ad I J).set 0 (ad 0, .inr (4, ([.int (I 0 0), .int (I 0 1), .int (I 0 2), .int (I 0 3), .int (I 0 4), .ref (ad 1), .ref (ad 2), .ref (ad 3), .ref (ad 4), .ref (ad 5), .ref (ad 6), .ref (ad 7), .ref (ad 8), .ref (ad 9), .ref (ad 10), .ref (ad 11), .ref (ad 12), .ref (ad 13), .ref (ad 14), .ref (ad 15), .int (I 0 20), .ref (ad 16), .ref (ad 17), .ref (ad 18), .ref (ad 19), .long (J 0 25), .ref (ad 20), .ref (ad 21), .ref (ad 22), .ref (ad 23), .int (I 0 30), .int (I 0 31)]).set 31 (.int x))) = wM kc ad (ui I 0 31 x) J := wd_i rfl
