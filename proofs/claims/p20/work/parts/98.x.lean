theorem P_show {P k : Nat} (tp : TP P) (I : MI) (J : MJ) {e : Int32} {o : Int64} (hx : XP P e) (h1 : I (15 + 6 * k + 1) 0 = e) (h2 : J (15 + 6 * k + 1) 1 = o) : Ev (fun n => ff_P_showSecrets n I J (15 + 6 * k) (Int32.ofNat P)) (ui (ui I (15 + 6 * k + 2) 0 (if J (15 + 6 * k + 5) 3 = 0 then e else AB P e)) (15 + 6 * k) 7 1, uj (uj J (15 + 6 * k + 2) 1 (if J (15 + 6 * k + 5) 4 = 0 then o else o + 1)) (15 + 6 * k + 2) 2 (J (15 + 6 * k + 1) 2)) := by
  unfold ff_P_showSecrets
  simp only [tl, h1, h2]
  have i3 : ¬ ((3 : Int32) < 0 ∨ 5 ≤ (3 : Int32).toNatClampNeg) := by decide
  have i4 : ¬ ((4 : Int32) < 0 ∨ 5 ≤ (4 : Int32).toNatClampNeg) := by decide
  have n3 : (3 : Int32).toNatClampNeg = 3 := by decide
  have n4 : (4 : Int32).toNatClampNeg = 4 := by decide
  have tail : ∀ n (e' : Int32), ff_P_showSecrets_40 n I J (15 + 6 * k) (Int32.ofNat P) e o (15 + 6 * k + 2) e' = some (ui (ui I (15 + 6 * k + 2) 0 e') (15 + 6 * k) 7 1, uj (uj J (15 + 6 * k + 2) 1 (if J (15 + 6 * k + 5) 4 = 0 then o else o + 1)) (15 + 6 * k + 2) 2 (J (15 + 6 * k + 1) 2)) := fun n e' => by
    unfold ff_P_showSecrets_40 ff_P_showSecrets_58 ff_S_keep
    rw [if_pos i4, n4]
    by_cases q : J (15 + 6 * k + 5) 4 = 0
    · rw [if_pos ((cmp0 _ _).mpr q), if_pos q]; rfl
    · rw [if_neg (by rw [cmp0]; exact q), if_neg q]; rfl
  simp only [if_pos i3, n3, tail]
  by_cases q : J (15 + 6 * k + 5) 3 = 0
  · simp only [if_pos ((cmp0 _ _).mpr q), if_pos q]
    exact Ev.pure _
  · simp only [if_neg (show ¬ lg_cmp (J (15 + 6 * k + 5) 3) 0 = 0 by rw [cmp0]; exact q), if_neg q]
    obtain ⟨x, rfl, xn⟩ := hx
    have := xn.2.1
    have := tp.2.1
    rw [AB_nat (by omega)]
    exact Ev.bind (N_abv tp xn) (Ev.pure _)
theorem call_show {I : MI} {J : MJ} {I' : MI} {J' : MJ} (g : R I J I' J') (x : Int32) : ∃ r r', Ev (fun n => ff_O_show n I J x) r ∧ Ev (fun n => ff_M_show n I' J' x) r' ∧ r.1 = r'.1 ∧ R r.2.1 r.2.2 r'.2.1 r'.2.2 := by
  obtain ⟨s, ph, t, P, b, ac, c, h, r, m, w, g⟩ := g
  have g := RG_th g 0
  unfold ff_M_show ff_O_show
  generalize ui I' 0 0 0 = I0 at g ⊢
  have gg := g
  obtain ⟨g1, g2, g3, g4, g5, g6, g7⟩ := g
  obtain ⟨hs, hs', s4, hph, hph', ph6, hP, hP', hTP, ht, t01, t2, t3, t4, hpp, hact, hb⟩ := g1
  have R0 : R I J I0 J' := ⟨s, ph, t, P, b, ac, c, h, r, m, w, gg⟩
  have c5 : (Int32.ofNat ph = 5) ↔ ph = 5 := nb_inj (y := 5) (by omega) (by omega)
  rw [hph, hph']
  rcases sc (s := s) (by omega) x with ⟨k, hk, rfl⟩ | hx
  · simp only [O_seat1 _ J hs s4 hk, M_seat1 _ J' hs' s4 hk, Option.bind_some, if_neg (show ¬ (1 : Int32) = 0 by decide)]
    by_cases d : ph = 5
    · have i4 := sm_i2 (j := k) (N := 4) (by omega) (by omega)
      simp only [if_pos (c5.mpr d), sm_nat (j := k) (by omega), if_pos i4]
      subst d
      rcases g7.1 (by decide) k hk with ⟨e1, e2⟩ | ⟨_, e1, e2, _⟩
      · obtain ⟨tp, seals⟩ := RG_seal gg (by decide)
        obtain ⟨q1, q2, q3, q4, q5, q6, q7⟩ := seals k hk
        obtain ⟨ch1, ch2, ch3, ch4, ch5⟩ := g4 (by decide) k hk
        obtain ⟨_, tp2, _⟩ := hTP (hpp (by decide)).1
        have pO := P_show (k := k) tp I J (e := I0 4 k) (o := J' 5 k) q6 q2 q3
        generalize hE : (if J (15 + 6 * k + 5) 3 = 0 then I0 4 k else AB P (I0 4 k)) = e' at pO
        generalize hO : (if J (15 + 6 * k + 5) 4 = 0 then J' 5 k else J' 5 k + 1) = o' at pO
        have he : e' = I0 4 k ∨ e' = AB P (I0 4 k) := by rw [← hE]; (split; exact Or.inl rfl; exact Or.inr rfl)
        have ho : o' = J' 5 k ∨ o' = J' 5 k + 1 := by rw [← hO]; (split; exact Or.inl rfl; exact Or.inr rfl)
        generalize hX : ui (ui I (15 + 6 * k + 2) 0 e') (15 + 6 * k) 7 1 = X at pO
        generalize hY : uj (uj J (15 + 6 * k + 2) 1 o') (15 + 6 * k + 2) 2 (J (15 + 6 * k + 1) 2) = Y at pO
        generalize hZ : ui (ui I0 7 k 1) 8 k e' = Z
        generalize hV : uj J' 9 k o' = V
        have G := RG_shown (I1 := X) (J1 := Y) (I1' := Z) (J1' := V) (e := e') (o := o') gg hk
          (by rw [← hX, ui_else _ _ _ (by omega), ui_else _ _ _ (by omega)])
          (fun i y hi => by rw [← hX, ui_at, if_neg (by omega), ui_else _ _ _ (by omega)])
          (by rw [← hX, ui_at, if_pos ⟨rfl, rfl⟩])
          (by rw [← hX, ui_else _ _ _ (by omega), ui_at, if_pos ⟨rfl, rfl⟩])
          (fun x x1 x2 => by rw [← hX, ui_else _ _ _ x1, ui_else _ _ _ x2])
          (by rw [← hY, uj_at, if_neg (by omega), uj_at, if_pos ⟨rfl, rfl⟩])
          (by rw [← hY, uj_at, if_pos ⟨rfl, rfl⟩, q4])
          (fun x hx => by rw [← hY, uj_else _ _ _ hx, uj_else _ _ _ hx])
          (by rw [← hZ, ui_else _ _ _ (by decide), ui_else _ _ _ (by decide)])
          (fun i => by
            rw [← hZ, ui_else _ _ _ (by decide), ui_at]
            by_cases q : i = k
            · rw [if_pos ⟨rfl, q⟩, if_pos q]
            · rw [if_neg (by omega), if_neg q])
          (fun i => by
            rw [← hZ, ui_at]
            by_cases q : i = k
            · rw [if_pos ⟨rfl, q⟩, if_pos q]
            · rw [if_neg (by omega), if_neg q, ui_else _ _ _ (by decide)])
          (fun x x7 x8 => by rw [← hZ, ui_else _ _ _ x8, ui_else _ _ _ x7])
          (fun i => by
            rw [← hV, uj_at]
            by_cases q : i = k
            · rw [if_pos ⟨rfl, q⟩, if_pos q]
            · rw [if_neg (by omega), if_neg q])
          (fun x hx => by rw [← hV, uj_else _ _ _ hx]) he ho
        have X0 : X 0 = I 0 := by rw [← hX, ui_else _ _ _ (by omega), ui_else _ _ _ (by omega)]
        have Z0 : Z 0 = I0 0 := by rw [← hZ, ui_else _ _ _ (by decide), ui_else _ _ _ (by decide)]
        have hf : ∀ i, i < s → X (15 + 6 * i) 7 = Z 7 i ∧ (Z 7 i = 0 ∨ Z 7 i = 1) := fun i hi => by
          rcases G.2.2.2.2.2.2.1 (by decide) i hi with y | y
          · exact ⟨by rw [y.1, y.2], Or.inl y.2⟩
          · exact ⟨by rw [y.2.1, y.2.2.1], Or.inr y.2.2.1⟩
        obtain ⟨v, v1, v2⟩ := O_allShown (s := s) (f := fun i => Z 7 i) (I := X) Y (by rw [X0]; exact hs) s4 hf
        obtain ⟨z, z1, z2⟩ := M_show104 (s := s) (f := fun i => Z 7 i) (I := Z) V (Int32.ofNat k) (by rw [Z0]; exact hs') s4 (fun i hi => ⟨rfl, (hf i hi).2⟩)
        -- the reference comes to show_104
        have m72 : ∀ n, ff_M_show_72 n (ui I0 7 k 1) J' (Int32.ofNat k) (Int32.ofNat k) e' = ff_M_show_104 n Z V (Int32.ofNat k) 1 0 := fun n => by
          have u14 : (ui (ui I0 7 k 1) 8 k e') 14 k = I0 14 k := by rw [ui_else _ _ _ (by decide), ui_else _ _ _ (by decide)]
          simp only [ff_M_show_72, sm_nat (j := k) (by omega), if_pos i4, u14]
          by_cases q : I0 14 k = 0
          · rw [if_pos q]
            rw [if_pos (ch5.mpr q)] at hO
            rw [hZ, Int64.add_zero, hO, hV]
          · rw [if_neg q]
            rw [if_neg (fun w => q (ch5.mp w))] at hO
            rw [hZ, hO, hV]
        have mE : ∀ R', Ev (fun n => ff_M_show_104 n Z V (Int32.ofNat k) 1 0) R' → Ev (fun n => if ((ui I0 7 k 1) 13 k) = 0 then ff_M_show_72 n (ui I0 7 k 1) J' (Int32.ofNat k) (Int32.ofNat k) ((ui I0 7 k 1) 4 k) else (ff_M_leastAbove n (ui I0 7 k 1) J' ((ui I0 7 k 1) 4 k)).bind fun r22 => ff_M_show_72 n (ui I0 7 k 1) J' (Int32.ofNat k) (Int32.ofNat k) r22) R' := fun R' hR => by
          have u13 : (ui I0 7 k 1) 13 k = I0 13 k := by rw [ui_else _ _ _ (by decide)]
          have u4 : (ui I0 7 k 1) 4 k = I0 4 k := by rw [ui_else _ _ _ (by decide)]
          rw [u13, u4]
          by_cases q : I0 13 k = 0
          · simp only [if_pos q]
            rw [if_pos (ch4.mpr q)] at hE
            rw [hE]
            simp only [m72]
            exact hR
          · simp only [if_neg q]
            rw [if_neg (fun w => q (ch4.mp w))] at hE
            obtain ⟨y, ey, yn⟩ := q6
            have b1 := yn.2.1
            have b2 := tp.2.1
            have la := M_abv tp (I := ui I0 7 k 1) (J := J') (by rw [ui_else _ _ _ (by decide)]; exact hP') (by rw [ui_else _ _ _ (by decide)]; exact tp2) yn
            rw [← ey, ← AB_nat (by omega), ← ey, hE] at la
            refine Ev.bind la ?_
            simp only [m72]
            exact hR
        simp only [if_pos e1, if_pos e2, hP]
        rcases v2 with ⟨rfl, all⟩ | ⟨rfl, nall⟩
        · rcases z2 with ⟨_, rfl⟩ | ⟨z2, _⟩
          · obtain ⟨A, a1, a2, a3⟩ := O_audit (RG_AUD G (by decide) all)
            -- the verdict is reckoned over the memory with PHASE 6
            have AU : AUD s P m w (ui X 0 1 6) Y Z V := by
              obtain ⟨y1, y2, y3, y4, y5, y6, y7, y8, y9, y10, y11⟩ := RG_AUD G (by decide) all
              have eo : ∀ x, x ≠ 0 → (ui X 0 1 6) x = X x := fun x hx => ui_else _ _ _ hx
              refine ⟨y1, y2, y3, by rw [ui_at, if_neg (by omega)]; exact y4, by rw [ui_at, if_neg (by omega)]; exact y5, y6, y7, y8, fun i hi => ?_, ?_, fun i hi j hj => ?_⟩
              · unfold RQ SHW
                rw [eo _ (by omega), eo _ (by omega), eo _ (by omega)]
                exact y9 i hi
              · exact RF0_fr y10 (Nat.le_refl _) (fun u _ => eo _ (by omega)) (fun i _ => ⟨eo _ (by omega), eo _ (by omega), rfl⟩) ⟨rfl, rfl, rfl, rfl⟩
              · rw [eo _ (by omega), eo _ (by omega)]
                exact y11 i hi j hj
            obtain ⟨A, a1, a2, a3⟩ := O_audit AU
            refine ⟨(1, ui A.2.1 0 8 A.1, A.2.2), (1, ui Z 0 4 6, V), ?_, mE _ z1, rfl, s, 6, t, P, b, ac, c, h, r, m, w, ?_⟩
            · refine Ev.bind pO ?_
              refine Ev.bind v1 ?_
              simp only [if_neg (show ¬ (1 : Int32) = 0 by decide)]
              exact Ev.bind a1 (Ev.pure _)
            · dsimp only
              have A0 : A.2.1 0 = (ui X 0 1 6) 0 := a3.1 0 (by decide) (by decide)
              refine RG_over G all (fun y y1 y8 => by rw [ui_at, if_neg (by omega), A0, ui_at, if_neg (by omega)]) (by rw [ui_at, if_neg (by omega), A0, ui_at, if_pos ⟨rfl, rfl⟩]) (by rw [ui_at, if_pos ⟨rfl, rfl⟩]; exact a2) (fun x x0 x4 x5 => by rw [ui_else _ _ _ x0, a3.1 x x4 x5, ui_else _ _ _ x0]) a3.2 (fun y y4 => by rw [ui_at, if_neg (by omega)]) (by rw [ui_at, if_pos ⟨rfl, rfl⟩]) (fun x x0 => ui_else _ _ _ x0)
          · exact absurd all z2
        · rcases z2 with ⟨z2, _⟩ | ⟨_, rfl⟩
          · exact absurd z2 nall
          · refine ⟨(1, X, Y), (1, Z, V), ?_, mE _ z1, rfl, s, 5, t, P, b, ac, c, h, r, m, w, G⟩
            refine Ev.bind pO ?_
            refine Ev.bind v1 ?_
            simp only [if_true]
            exact Ev.pure _
      · simp only [e1, e2, if_neg (show ¬ (1 : Int32) = 0 by decide)]
        exact ⟨_, _, Ev.pure _, Ev.pure _, rfl, R0⟩
    · simp only [if_neg (show ¬ Int32.ofNat ph = 5 by rw [c5]; exact d)]
      exact ⟨_, _, Ev.pure _, Ev.pure _, rfl, R0⟩
  · simp only [O_seat0 _ J hs s4 hx, M_seat0 _ J' hs' s4 hx, Option.bind_some, if_pos]
    by_cases d : ph = 5
    · simp only [if_pos (c5.mpr d)]
      exact ⟨_, _, Ev.pure _, Ev.pure _, rfl, R0⟩
    · simp only [if_neg (show ¬ Int32.ofNat ph = 5 by rw [c5]; exact d)]
      exact ⟨_, _, Ev.pure _, Ev.pure _, rfl, R0⟩
