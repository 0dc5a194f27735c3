/-! ===== town, 12: people ===== -/
theorem setI_cm {h : Hp} {a k j : Nat} {v u : Int32} (hkj : k ≠ j) : (h.setI a k v).setI a j u = (h.setI a j u).setI a k v := by
  simp only [setI_row, rowI_I, rowI_rowI]
  congr 1
  funext x
  unfold upd
  by_cases q1 : x = j
  · rw [if_pos q1, if_neg (by omega), if_pos q1]
  · by_cases q2 : x = k
    · rw [if_neg q1, if_pos q2, if_pos q2]
    · rw [if_neg q1, if_neg q2, if_neg q2, if_neg q1]
theorem va_up2 (f : Nat → Nat) (k u v : Nat) : va_up (va_up f k u) k v = va_up f k v := by
  funext x
  unfold va_up
  by_cases q : x = k
  · rw [if_pos q, if_pos q]
  · rw [if_neg q, if_neg q, if_neg q]
theorem RT.s_tal {b x : Nat} {M : List Nat} {yr tr P ca di li : Nat} {tal fe : Nat → Nat} {LW LG : List Nat} {g : Hp} (hP : P < 6) (H : RT b M (yr, tr, (P + 1), ca, di, li, tal, fe, LW, LG) g) : RT b M (yr, tr, (P + 1), ca, di, li, (va_up tal P x), fe, LW, LG) (g.setI (b + 76) (54 + P) (nI x)) := by
  obtain ⟨r1, r2, r3, r4, r5, r6, r7, r8, r9, r10, r11, r12⟩ := H
  refine ⟨(sI_ne (by omega)).trans r1, (sI_ne (by omega)).trans r2, (sI_ne (by omega)).trans r3, (sI_ne (by omega)).trans r4, (sI_ne (by omega)).trans r5, (sI_ne (by omega)).trans r6, fun p hp => ⟨?_, (sI_ne (by omega)).trans (r7 p hp).2⟩, fun p h1 h2 => (sI_ne (by omega)).trans (r8 p h1 h2), fun k h1 h2 => (sI_ne (by omega)).trans (r9 k h1 h2), fun k h1 h2 => (sI_ne (by omega)).trans (r10 k h1 h2), ?_, ?_⟩
  · by_cases q : p = P
    · rw [q, sI_eq, va_up_self]
    · rw [sI_ne (by omega), va_up_ne _ _ q]
      exact (r7 p hp).1
  · have := r11.mv (F' := (g.setI (b + 76) (54 + P) (nI x)).I (b + 76)) [] (sI_ne (by omega)) (sI_ne (by omega)) (sI_ne (by omega))
    rw [List.append_nil] at this
    exact this
  · have := r12.mv (F' := (g.setI (b + 76) (54 + P) (nI x)).I (b + 76)) [] (sI_ne (by omega)) (sI_ne (by omega)) (sI_ne (by omega))
    rw [List.append_nil] at this
    exact this
theorem RT.s_fe {b x : Nat} {M : List Nat} {yr tr P ca di li : Nat} {tal fe : Nat → Nat} {LW LG : List Nat} {g : Hp} (hP : P < 6) (H : RT b M (yr, tr, (P + 1), ca, di, li, tal, fe, LW, LG) g) : RT b M (yr, tr, (P + 1), ca, di, li, tal, (va_up fe P x), LW, LG) (g.setI (b + 76) (11 + P) (nI x)) := by
  obtain ⟨r1, r2, r3, r4, r5, r6, r7, r8, r9, r10, r11, r12⟩ := H
  refine ⟨(sI_ne (by omega)).trans r1, (sI_ne (by omega)).trans r2, (sI_ne (by omega)).trans r3, (sI_ne (by omega)).trans r4, (sI_ne (by omega)).trans r5, (sI_ne (by omega)).trans r6, fun p hp => ⟨(sI_ne (by omega)).trans (r7 p hp).1, ?_⟩, fun p h1 h2 => (sI_ne (by omega)).trans (r8 p h1 h2), fun k h1 h2 => (sI_ne (by omega)).trans (r9 k h1 h2), fun k h1 h2 => (sI_ne (by omega)).trans (r10 k h1 h2), ?_, ?_⟩
  · by_cases q : p = P
    · rw [q, sI_eq, va_up_self]
    · rw [sI_ne (by omega), va_up_ne _ _ q]
      exact (r7 p hp).2
  · have := r11.mv (F' := (g.setI (b + 76) (11 + P) (nI x)).I (b + 76)) [] (sI_ne (by omega)) (sI_ne (by omega)) (sI_ne (by omega))
    rw [List.append_nil] at this
    exact this
  · have := r12.mv (F' := (g.setI (b + 76) (11 + P) (nI x)).I (b + 76)) [] (sI_ne (by omega)) (sI_ne (by omega)) (sI_ne (by omega))
    rw [List.append_nil] at this
    exact this
theorem RT.beg {b : Nat} {M : List Nat} {yr tr P ca di li : Nat} {tal fe : Nat → Nat} {LW LG : List Nat} {g : Hp} (hP : P < 6) (H : RT b M (yr, tr, P, ca, di, li, tal, fe, LW, LG) g) : RT b M (yr, tr, (P + 1), ca, di, li, (va_up tal P 0), (va_up fe P 9), LW, LG) ((g.setI (b + 76) (11 + P) (nI 9)).setI (b + 76) 3 (nI (P + 1))) := by
  obtain ⟨r1, r2, r3, r4, r5, r6, r7, r8, r9, r10, r11, r12⟩ := H
  have E : ∀ k, k ≠ 3 → k ≠ 11 + P → ((g.setI (b + 76) (11 + P) (nI 9)).setI (b + 76) 3 (nI (P + 1))).I (b + 76) k = g.I (b + 76) k := fun k q1 q2 => (sI_ne q1).trans (sI_ne q2)
  refine ⟨(E _ (by omega) (by omega)).trans r1, (E _ (by omega) (by omega)).trans r2, (E _ (by omega) (by omega)).trans r3, sI_eq, (E _ (by omega) (by omega)).trans r5, (E _ (by omega) (by omega)).trans r6, fun p hp => ?_, fun p h1 h2 => (E _ (by omega) (by omega)).trans (r8 p (by omega) h2), fun k h1 h2 => (E _ (by omega) (by omega)).trans (r9 k h1 h2), fun k h1 h2 => (E _ (by omega) (by omega)).trans (r10 k h1 h2), ?_, ?_⟩
  · by_cases q : p = P
    · subst q
      rw [va_up_self, va_up_self]
      exact ⟨(E _ (by omega) (by omega)).trans (r8 p (Nat.le_refl _) hP), (sI_ne (by omega)).trans sI_eq⟩
    · rw [va_up_ne _ _ q, va_up_ne _ _ q]
      exact ⟨(E _ (by omega) (by omega)).trans (r7 p (by omega)).1, (E _ (by omega) (by omega)).trans (r7 p (by omega)).2⟩
  · have := r11.mv (F' := ((g.setI (b + 76) (11 + P) (nI 9)).setI (b + 76) 3 (nI (P + 1))).I (b + 76)) [] (E _ (by omega) (by omega)) (E _ (by omega) (by omega)) (E _ (by omega) (by omega))
    rw [List.append_nil] at this
    exact this
  · have := r12.mv (F' := ((g.setI (b + 76) (11 + P) (nI 9)).setI (b + 76) 3 (nI (P + 1))).I (b + 76)) [] (E _ (by omega) (by omega)) (E _ (by omega) (by omega)) (E _ (by omega) (by omega))
    rw [List.append_nil] at this
    exact this
/-- what else the row holds does not matter to it -/
theorem RT.fr3 {b x : Nat} {M : List Nat} {D : Dt} {g g' : Hp} (hD : D.2.2.1 ≤ 6) (E : FrR b g g') (H : RT b M D (g.setI (b + 76) 3 (nI x))) : RT b M D (g'.setI (b + 76) 3 (nI x)) := by
  have := H.mv (g' := g'.setI (b + 76) 3 (nI x)) hD [] (fun k hk => by
    by_cases q : k = 3
    · rw [q, sI_eq, sI_eq]
    · rw [sI_ne q, sI_ne q]
      exact E.2.2.2.2 k hk)
  rw [List.append_nil] at this
  exact this
theorem CT.add {b : Nat} {z : Sh} {t x y : Nat} {yr tr P ca di li : Nat} {tal fe : Nat → Nat} {LW LG : List Nat} {h : Hp} (hP : P < 6) (H : CT b z t (yr, tr, P, ca, di, li, tal, fe, LW, LG) h) : f_X8_addPerson z h t (nI x) (nI y) = some (((h.setI (t + 1) P (nI x)).setI (t + 2) P (nI y)).setI t 2 (nI (P + 1))) ∧ CT b z t (yr, tr, (P + 1), ca, di, li, (va_up tal P x), (va_up fe P y), LW, LG) (((h.setI (t + 1) P (nI x)).setI (t + 2) P (nI y)).setI t 2 (nI (P + 1))) := by
  obtain ⟨⟨r1, r2, r3⟩, ⟨k0, ⟨k1, n1⟩, k2, n2⟩, ⟨r5, r6⟩, i0, i1, i2, i3, i4, i5, ip, l1, l2⟩ := H
  have c1 : ¬ (nI 6 ≤ nI P) := fun q => by
    rw [nI_leI (by decide) (by omega)] at q
    omega
  have J2 : ∀ k, ((h.setI (t + 1) P (nI x)).setI (t + 2) P (nI y)).I t k = h.I t k := fun k => by rw [sI_o (show t ≠ t + 2 by omega), sI_o (show t ≠ t + 1 by omega)]
  have J1 : (h.setI (t + 1) P (nI x)).I t = h.I t := sI_o (by omega)
  constructor
  · unfold f_X8_addPerson
    rw [if_pos k0, gI_ok k0, bS, gR_ok k0 r5, bS, aL_ok k1 rfl n1, bS, i2, if_neg c1, bS, gR_ok k0 r6, bS, aL_ok k2 rfl n2, bS, if_neg c1, bS, bS, stI_ok k1 n1 rfl hP (by decide), bS]
    rw [show gR z (h.setI (t + 1) P (nI x)) 8 t 7 = some (t + 2) from gR_ok k0 r6, bS, gI_ok k0, bS, J1, i2, stI_ok k2 n2 rfl hP (by decide), bS, gI_ok k0, bS, J2, i2, pI_ok k0, bS, nI_1]
  · have E : ∀ a, a ≠ t → a ≠ t + 1 → a ≠ t + 2 → (((h.setI (t + 1) P (nI x)).setI (t + 2) P (nI y)).setI t 2 (nI (P + 1))).I a = h.I a := fun a q1 q2 q3 => by rw [sI_o q1, sI_o q3, sI_o q2]
    refine ⟨⟨r1, r2, r3⟩, ⟨k0, ⟨k1, n1⟩, k2, n2⟩, ⟨r5, r6⟩, (sI_ne (by decide)).trans ((J2 0).trans i0), (sI_ne (by decide)).trans ((J2 1).trans i1), sI_eq, (sI_ne (by decide)).trans ((J2 3).trans i3), (sI_ne (by decide)).trans ((J2 4).trans i4), (sI_ne (by decide)).trans ((J2 5).trans i5), fun p hp => ?_, ?_, ?_⟩
    · rw [sI_o (show t + 1 ≠ t by omega), sI_o (show t + 2 ≠ t by omega), sI_o (show t + 1 ≠ t + 2 by omega)]
      by_cases q : p = P
      · subst q
        rw [va_up_self, va_up_self, sI_eq, sI_eq]
        exact ⟨rfl, rfl⟩
      · rw [va_up_ne _ _ q, va_up_ne _ _ q, sI_ne q, sI_ne q, sI_o (show t + 2 ≠ t + 1 by omega)]
        exact ip p (by omega)
    · exact l1.mv rfl (Nat.le_refl _) (fun _ _ => ⟨rfl, rfl⟩) (by omega) (fun a _ q1 q2 q3 => E a q1 q2 q3)
    · exact l2.mv rfl (Nat.le_refl _) (fun _ _ => ⟨rfl, rfl⟩) (by omega) (fun a _ q1 q2 q3 => E a q1 q2 q3)
section
variable {n b N w zs t : Nat} {sv : Nat → Nat} {z : Sh} {tx : Nat → Nat} {L : List Nat}
theorem p56_t {zr : Sh} {g : Hp} (K : zr.K (b + 72) = 12) (h0 : g.I (b + 72) 11 = nI 0) : f_X12_readFlag_56 n zr g (b + 72) = some (1, g) := by
  unfold f_X12_readFlag_56
  rw [gI_ok K, bS, h0, if_pos (show nI 0 = 0 from rfl)]
theorem p56_F {zr : Sh} {g : Hp} {fl pl : Nat} (F : RF b zr fl pl g) : f_X12_readFlag_56 n zr g (b + 72) = some (0, g) := by
  unfold f_X12_readFlag_56
  rw [gI_ok F.K, bS, if_neg F.ne]
theorem p59_F {zr : Sh} {g : Hp} {fl pl : Nat} (F : RF b zr fl pl g) : f_X12_readPerson_59 n zr g (b + 72) = some g := by
  unfold f_X12_readPerson_59
  rw [gI_ok F.K, bS, if_neg F.ne]
theorem per_lp (Z : ZC b z) (hN : N ≤ 900) (hx : ∀ j, tx j < 256) (hn : 400000 ≤ n) {P : Nat} (hP : P < 6) : ∀ m fi fj T (h : Hp) ta fr p, N - T.1 < m → m < fi → m < fj → CS b sv z tx N w T L h → p ≤ T.1 → ta ≤ 9 → fr ≤ 9 →
    (∃ h' fl pl, f_X6_readPerson_29 n z fi h (b + 2) (nI ta) (nI fr) (nI p) = some (0, h') ∧ Fc b h h' ∧ CF b w fl pl h' ∧ ∀ zr g M wr, RS b sv zr tx N wr T M g → ∃ g', f_X12_readPerson_41 n zr fj g (b + 72) (nI P) = some g' ∧ FrT b g g' ∧ RF b zr fl pl g') ∨
    (∃ h' T' ta' fr', ta' ≤ 9 ∧ fr' ≤ 9 ∧ T.1 ≤ T'.1 ∧ f_X6_readPerson_29 n z fi h (b + 2) (nI ta) (nI fr) (nI p) = f_X6_readPerson_115 n z h' (b + 2) (nI ta') (nI fr') ∧ Fc b h h' ∧ CS b sv z tx N w T' L h' ∧ ∀ zr g M wr, RS b sv zr tx N wr T M g → ∃ g', f_X12_readPerson_41 n zr fj g (b + 72) (nI P) = f_X12_readPerson_59 n zr g' (b + 72) ∧ FrT b g g' ∧ RS b sv zr tx N wr T' M g' ∧ g'.I (b + 76) 3 = g.I (b + 76) 3 ∧ ∀ yr tr ca di li tal fe LW LG, RT b M (yr, tr, (P + 1), ca, di, li, (va_up tal P ta), (va_up fe P fr), LW, LG) (g.setI (b + 76) 3 (nI (P + 1))) → RT b M (yr, tr, (P + 1), ca, di, li, (va_up tal P ta'), (va_up fe P fr'), LW, LG) (g'.setI (b + 76) 3 (nI (P + 1)))) := by
  intro m
  induction m with
  | zero =>
    intro fi fj T h ta fr p h1
    omega
  | succ m ih =>
    intro fi fj T h ta fr p h1 h2 h3 C hp hta hfr
    obtain ⟨fi, rfl⟩ : ∃ k, fi = k + 1 := ⟨fi - 1, by omega⟩
    obtain ⟨fj, rfl⟩ : ∃ k, fj = k + 1 := ⟨fj - 1, by omega⟩
    have hT := tkT C.tk
    have c3 := C.1.2.2.1
    have n10 : ¬ ((1 : Int32) = 0) := by decide
    by_cases k4 : T.2.2.1 = 4
    · have tg := tkG C.tk (by omega)
      have hp2 : ¬ (nI N ≤ nI p) := fun w => by
        have w := (nI_leI (by omega) (by omega)).mp w
        have := hT.2.2.1 (by omega)
        omega
      obtain ⟨h1, e1, e2, C1⟩ := next_C C Z hN hx hn
      have hT1 := tkT C1.tk
      by_cases q : (tkN tx N T.2.1).2.2.1 = 24 ∧ 0 ≤ (tkN tx N T.2.1).2.2.2 ∧ (tkN tx N T.2.1).2.2.2 ≤ 9
      · obtain ⟨h2, f1, f2, C2⟩ := takeN_t C1 Z hN hx hn (lo := 0) (hi := 9) (by decide) (by decide) q.1 q.2.1 q.2.2
        have f1 : f_X6_takeNumber n z h1 (b + 2) 0 9 = some (nI (tkN tx N T.2.1).2.2.2, h2) := f1
        have tg2 := tkG C1.tk (by omega)
        have c0 := C2.2.2.1
        have U : f_X6_readPerson_29 n z (fi + 1) h (b + 2) (nI ta) (nI fr) (nI p) = f_X6_readPerson_29 n z fi h2 (b + 2) (nI (tkN tx N T.2.1).2.2.2) (nI fr) (nI (p + 1)) := by
          rw [f_X6_readPerson_29.eq_2, gI_ok Z.2.2.1, bS, c3, if_neg hp2, is_y C Z hN hx hn (s := 16) (by decide) (by decide) k4, bS, if_neg n10]
          unfold f_X6_readPerson_55
          rw [is_y C Z hN hx hn (s := 16) (by decide) (by decide) k4, bS, e1, bS, f1, bS]
          show (gI z h2 6 (b + 2) 0).bind _ = _
          rw [gI_ok Z.2.2.1, bS, c0, if_pos (show nI 0 = 0 from rfl), if_neg n10]
          unfold f_X6_readPerson_96 f_X6_readPerson_108
          rw [if_neg n10, bS, nI_1]
        have V : ∀ zr g M wr, RS b sv zr tx N wr T M g → ∃ g3, f_X12_readPerson_41 n zr (fj + 1) g (b + 72) (nI P) = f_X12_readPerson_41 n zr fj g3 (b + 72) (nI P) ∧ FrT b g g3 ∧ RS b sv zr tx N wr (tkN tx N (tkN tx N T.2.1).2.1) M g3 ∧ g3.I (b + 76) 3 = g.I (b + 76) 3 ∧ ∀ yr tr ca di li tal fe LW LG, RT b M (yr, tr, (P + 1), ca, di, li, (va_up tal P ta), (va_up fe P fr), LW, LG) (g.setI (b + 76) 3 (nI (P + 1))) → RT b M (yr, tr, (P + 1), ca, di, li, (va_up tal P ((tkN tx N T.2.1).2.2.2)), (va_up fe P fr), LW, LG) (g3.setI (b + 76) 3 (nI (P + 1))) := by
          intro zr g M wr R
          obtain ⟨g1, a1, a2, a3⟩ := eats_t R hN hx hn (k := 4) (by decide) k4
          obtain ⟨g2, b1, b2, b3⟩ := takes_t (n := n) a3 hN hx hn (lo := 0) (hi := 9) (by decide) (by decide) q.1 q.2.1 q.2.2
          have b1 : f_X12_takes n zr g1 (b + 72) 0 9 = some (nI (tkN tx N T.2.1).2.2.2, g2) := b1
          have s1 : stI zr g2 (b + 76) (54 + nI P) (nI (tkN tx N T.2.1).2.2.2) = some (g2.setI (b + 76) (54 + P) (nI (tkN tx N T.2.1).2.2.2)) := by
            rw [show (54 : Int32) + nI P = nI (54 + P) from nI_add 54 P]
            exact sm_4 b3.1.1 (by omega)
          have R3 := b3.s76 (k := 54 + P) (v := nI (tkN tx N T.2.1).2.2.2) (by omega)
          refine ⟨g2.setI (b + 76) (54 + P) (nI (tkN tx N T.2.1).2.2.2), ?_, (a2.t.tr b2.t).tr FrT.s76, R3, (sI_ne (by omega)).trans ((b2.2.2.2.2 3 (by decide)).trans (a2.2.2.2.2 3 (by decide))), fun yr tr ca di li tal fe LW LG H => ?_⟩
          · have fl : f_X12_readFlag n zr g (b + 72) (nI P) = some (1, g2.setI (b + 76) (54 + P) (nI (tkN tx N T.2.1).2.2.2)) := by
              unfold f_X12_readFlag
              rw [if_pos R.K, show f_X12_eats n zr g (b + 72) 4 = _ from a1, bS]
              show (if (1 : Int32) = 0 then _ else _) = _
              rw [if_neg n10, gR_ok a3.K (rm_4 a3.1.1), bS, b1, bS]
              show (stI zr g2 (b + 76) (54 + nI P) (nI (tkN tx N T.2.1).2.2.2)).bind _ = _
              rw [s1, bS]
              exact p56_t R3.K R3.2.2.1
            rw [f_X12_readPerson_41.eq_2, gI_ok R.K, bS, R.2.2.1, if_pos (show nI 0 = 0 from rfl), fl, bS]
            exact if_neg n10
          · have H1 := (H.fr3 (by show P + 1 ≤ 6; omega) a2).fr3 (by show P + 1 ≤ 6; omega) b2
            have H2 := H1.s_tal (x := (tkN tx N T.2.1).2.2.2) hP
            rw [va_up2, setI_cm (by omega)] at H2
            exact H2
        rcases ih fi fj _ h2 ((tkN tx N T.2.1).2.2.2) (fr) (p + 1) (by omega) (by omega) (by omega) C2 (by omega) (by omega) (by omega) with ⟨h3, fl, pl, w1, w2, w3, w4⟩ | ⟨h3, T3, ta3, fr3, w0, w00, w01, w1, w2, w3, w4⟩
        · refine Or.inl ⟨h3, fl, pl, U.trans w1, (e2.tr f2).tr w2, w3, fun zr g M wr R => ?_⟩
          obtain ⟨g3, v1, v2, v3, v5, v4⟩ := V zr g M wr R
          obtain ⟨g4, u1, u2, u3⟩ := w4 zr g3 M wr v3
          exact ⟨g4, v1.trans u1, v2.tr u2, u3⟩
        · refine Or.inr ⟨h3, T3, ta3, fr3, w0, w00, by omega, U.trans w1, (e2.tr f2).tr w2, w3, fun zr g M wr R => ?_⟩
          obtain ⟨g3, v1, v2, v3, v5, v4⟩ := V zr g M wr R
          obtain ⟨g4, u1, u2, u3, u5, u4⟩ := w4 zr g3 M wr v3
          exact ⟨g4, v1.trans u1, v2.tr u2, u3, u5.trans v5, fun yr tr ca di li tal fe LW LG H => u4 _ _ _ _ _ _ _ _ _ (v4 _ _ _ _ _ _ _ _ _ H)⟩
      · obtain ⟨h2, f1, f2, F2⟩ := takeN_f (n := n) C1 Z hN (lo := 0) (hi := 9) (by decide) (by decide) q
        have f1 : f_X6_takeNumber n z h1 (b + 2) 0 9 = some (nI 0, h2) := f1
        have nf : ¬ (h2.I (b + 2) 0 = 0) := fun w => by
          have h1 := F2.1
          rw [h1] at w
          have := (nI_inj (j := 0) (by have := F2.2.2.2.1; omega) (by decide)).mp w
          have := F2.2.2.1
          omega
        refine Or.inl ⟨h2, _, _, ?_, e2.tr f2, F2, fun zr g M wr R => ?_⟩
        · rw [f_X6_readPerson_29.eq_2, gI_ok Z.2.2.1, bS, c3, if_neg hp2, is_y C Z hN hx hn (s := 16) (by decide) (by decide) k4, bS, if_neg n10]
          unfold f_X6_readPerson_55
          rw [is_y C Z hN hx hn (s := 16) (by decide) (by decide) k4, bS, e1, bS, f1, bS]
          show (gI z h2 6 (b + 2) 0).bind _ = _
          rw [gI_ok Z.2.2.1, bS, if_neg nf]
        · obtain ⟨g1, a1, a2, a3⟩ := eats_t R hN hx hn (k := 4) (by decide) k4
          obtain ⟨g2, x, b1, b2, b3⟩ := takes_f (n := n) a3 (lo := 0) (hi := 9) (by decide) (by decide) q
          have b1 : f_X12_takes n zr g1 (b + 72) 0 9 = some (x, g2) := b1
          have s1 : stI zr g2 (b + 76) (54 + nI P) x = some (g2.setI (b + 76) (54 + P) x) := by
            rw [show (54 : Int32) + nI P = nI (54 + P) from nI_add 54 P]
            exact sm_4 b3.1 (by omega)
          have F3 := b3.s76 (k := 54 + P) (v := x)
          refine ⟨g2.setI (b + 76) (54 + P) x, ?_, (a2.t.tr b2.t).tr FrT.s76, F3⟩
          have fl : f_X12_readFlag n zr g (b + 72) (nI P) = some (0, g2.setI (b + 76) (54 + P) x) := by
              unfold f_X12_readFlag
              rw [if_pos R.K, show f_X12_eats n zr g (b + 72) 4 = _ from a1, bS]
              show (if (1 : Int32) = 0 then _ else _) = _
              rw [if_neg n10, gR_ok a3.K (rm_4 a3.1.1), bS, b1, bS]
              show (stI zr g2 (b + 76) (54 + nI P) x).bind _ = _
              rw [s1, bS]
              exact p56_F F3
          rw [f_X12_readPerson_41.eq_2, gI_ok R.K, bS, R.2.2.1, if_pos (show nI 0 = 0 from rfl), fl, bS]
          exact (if_pos rfl).trans (p59_F F3)
    · by_cases k5 : T.2.2.1 = 5
      · have tg := tkG C.tk (by omega)
        have hp2 : ¬ (nI N ≤ nI p) := fun w => by
          have w := (nI_leI (by omega) (by omega)).mp w
          have := hT.2.2.1 (by omega)
          omega
        obtain ⟨h1, e1, e2, C1⟩ := next_C C Z hN hx hn
        have hT1 := tkT C1.tk
        by_cases q : (tkN tx N T.2.1).2.2.1 = 24 ∧ 0 ≤ (tkN tx N T.2.1).2.2.2 ∧ (tkN tx N T.2.1).2.2.2 ≤ 9
        · obtain ⟨h2, f1, f2, C2⟩ := takeN_t C1 Z hN hx hn (lo := 0) (hi := 9) (by decide) (by decide) q.1 q.2.1 q.2.2
          have f1 : f_X6_takeNumber n z h1 (b + 2) 0 9 = some (nI (tkN tx N T.2.1).2.2.2, h2) := f1
          have tg2 := tkG C1.tk (by omega)
          have c0 := C2.2.2.1
          have U : f_X6_readPerson_29 n z (fi + 1) h (b + 2) (nI ta) (nI fr) (nI p) = f_X6_readPerson_29 n z fi h2 (b + 2) (nI ta) (nI (tkN tx N T.2.1).2.2.2) (nI (p + 1)) := by
            rw [f_X6_readPerson_29.eq_2, gI_ok Z.2.2.1, bS, c3, if_neg hp2, is_n C Z hN hx hn (s := 16) (by decide) (by decide) k4, bS, if_pos rfl, is_y C Z hN hx hn (s := 17) (by decide) (by decide) k5, bS, if_neg n10]
            unfold f_X6_readPerson_55
            rw [is_n C Z hN hx hn (s := 16) (by decide) (by decide) k4, bS, e1, bS, f1, bS]
            show (gI z h2 6 (b + 2) 0).bind _ = _
            rw [gI_ok Z.2.2.1, bS, c0, if_pos (show nI 0 = 0 from rfl), if_pos rfl]
            unfold f_X6_readPerson_96 f_X6_readPerson_108
            rw [if_pos rfl, bS, nI_1]
          have V : ∀ zr g M wr, RS b sv zr tx N wr T M g → ∃ g3, f_X12_readPerson_41 n zr (fj + 1) g (b + 72) (nI P) = f_X12_readPerson_41 n zr fj g3 (b + 72) (nI P) ∧ FrT b g g3 ∧ RS b sv zr tx N wr (tkN tx N (tkN tx N T.2.1).2.1) M g3 ∧ g3.I (b + 76) 3 = g.I (b + 76) 3 ∧ ∀ yr tr ca di li tal fe LW LG, RT b M (yr, tr, (P + 1), ca, di, li, (va_up tal P ta), (va_up fe P fr), LW, LG) (g.setI (b + 76) 3 (nI (P + 1))) → RT b M (yr, tr, (P + 1), ca, di, li, (va_up tal P ta), (va_up fe P ((tkN tx N T.2.1).2.2.2)), LW, LG) (g3.setI (b + 76) 3 (nI (P + 1))) := by
            intro zr g M wr R
            obtain ⟨g1, a1, a2, a3⟩ := eats_t R hN hx hn (k := 5) (by decide) k5
            obtain ⟨g2, b1, b2, b3⟩ := takes_t (n := n) a3 hN hx hn (lo := 0) (hi := 9) (by decide) (by decide) q.1 q.2.1 q.2.2
            have b1 : f_X12_takes n zr g1 (b + 72) 0 9 = some (nI (tkN tx N T.2.1).2.2.2, g2) := b1
            have s1 : stI zr g2 (b + 76) (11 + nI P) (nI (tkN tx N T.2.1).2.2.2) = some (g2.setI (b + 76) (11 + P) (nI (tkN tx N T.2.1).2.2.2)) := by
              rw [show (11 : Int32) + nI P = nI (11 + P) from nI_add 11 P]
              exact sm_4 b3.1.1 (by omega)
            have R3 := b3.s76 (k := 11 + P) (v := nI (tkN tx N T.2.1).2.2.2) (by omega)
            refine ⟨g2.setI (b + 76) (11 + P) (nI (tkN tx N T.2.1).2.2.2), ?_, (a2.t.tr b2.t).tr FrT.s76, R3, (sI_ne (by omega)).trans ((b2.2.2.2.2 3 (by decide)).trans (a2.2.2.2.2 3 (by decide))), fun yr tr ca di li tal fe LW LG H => ?_⟩
            · have fl : f_X12_readFlag n zr g (b + 72) (nI P) = some (1, g2.setI (b + 76) (11 + P) (nI (tkN tx N T.2.1).2.2.2)) := by
                unfold f_X12_readFlag
                rw [if_pos R.K, show f_X12_eats n zr g (b + 72) 4 = some (0, g) from eats_f R (k := 4) (by decide) k4, bS]
                show (if (0 : Int32) = 0 then _ else _) = _
                rw [if_pos rfl, show f_X12_eats n zr g (b + 72) 5 = _ from a1, bS]
                show (if (1 : Int32) = 0 then _ else _) = _
                rw [if_neg n10, gR_ok a3.K (rm_4 a3.1.1), bS, b1, bS]
                show (stI zr g2 (b + 76) (11 + nI P) (nI (tkN tx N T.2.1).2.2.2)).bind _ = _
                rw [s1, bS]
                exact p56_t R3.K R3.2.2.1
              rw [f_X12_readPerson_41.eq_2, gI_ok R.K, bS, R.2.2.1, if_pos (show nI 0 = 0 from rfl), fl, bS]
              exact if_neg n10
            · have H1 := (H.fr3 (by show P + 1 ≤ 6; omega) a2).fr3 (by show P + 1 ≤ 6; omega) b2
              have H2 := H1.s_fe (x := (tkN tx N T.2.1).2.2.2) hP
              rw [va_up2, setI_cm (by omega)] at H2
              exact H2
          rcases ih fi fj _ h2 (ta) ((tkN tx N T.2.1).2.2.2) (p + 1) (by omega) (by omega) (by omega) C2 (by omega) (by omega) (by omega) with ⟨h3, fl, pl, w1, w2, w3, w4⟩ | ⟨h3, T3, ta3, fr3, w0, w00, w01, w1, w2, w3, w4⟩
          · refine Or.inl ⟨h3, fl, pl, U.trans w1, (e2.tr f2).tr w2, w3, fun zr g M wr R => ?_⟩
            obtain ⟨g3, v1, v2, v3, v5, v4⟩ := V zr g M wr R
            obtain ⟨g4, u1, u2, u3⟩ := w4 zr g3 M wr v3
            exact ⟨g4, v1.trans u1, v2.tr u2, u3⟩
          · refine Or.inr ⟨h3, T3, ta3, fr3, w0, w00, by omega, U.trans w1, (e2.tr f2).tr w2, w3, fun zr g M wr R => ?_⟩
            obtain ⟨g3, v1, v2, v3, v5, v4⟩ := V zr g M wr R
            obtain ⟨g4, u1, u2, u3, u5, u4⟩ := w4 zr g3 M wr v3
            exact ⟨g4, v1.trans u1, v2.tr u2, u3, u5.trans v5, fun yr tr ca di li tal fe LW LG H => u4 _ _ _ _ _ _ _ _ _ (v4 _ _ _ _ _ _ _ _ _ H)⟩
        · obtain ⟨h2, f1, f2, F2⟩ := takeN_f (n := n) C1 Z hN (lo := 0) (hi := 9) (by decide) (by decide) q
          have f1 : f_X6_takeNumber n z h1 (b + 2) 0 9 = some (nI 0, h2) := f1
          have nf : ¬ (h2.I (b + 2) 0 = 0) := fun w => by
            have h1 := F2.1
            rw [h1] at w
            have := (nI_inj (j := 0) (by have := F2.2.2.2.1; omega) (by decide)).mp w
            have := F2.2.2.1
            omega
          refine Or.inl ⟨h2, _, _, ?_, e2.tr f2, F2, fun zr g M wr R => ?_⟩
          · rw [f_X6_readPerson_29.eq_2, gI_ok Z.2.2.1, bS, c3, if_neg hp2, is_n C Z hN hx hn (s := 16) (by decide) (by decide) k4, bS, if_pos rfl, is_y C Z hN hx hn (s := 17) (by decide) (by decide) k5, bS, if_neg n10]
            unfold f_X6_readPerson_55
            rw [is_n C Z hN hx hn (s := 16) (by decide) (by decide) k4, bS, e1, bS, f1, bS]
            show (gI z h2 6 (b + 2) 0).bind _ = _
            rw [gI_ok Z.2.2.1, bS, if_neg nf]
          · obtain ⟨g1, a1, a2, a3⟩ := eats_t R hN hx hn (k := 5) (by decide) k5
            obtain ⟨g2, x, b1, b2, b3⟩ := takes_f (n := n) a3 (lo := 0) (hi := 9) (by decide) (by decide) q
            have b1 : f_X12_takes n zr g1 (b + 72) 0 9 = some (x, g2) := b1
            have s1 : stI zr g2 (b + 76) (11 + nI P) x = some (g2.setI (b + 76) (11 + P) x) := by
              rw [show (11 : Int32) + nI P = nI (11 + P) from nI_add 11 P]
              exact sm_4 b3.1 (by omega)
            have F3 := b3.s76 (k := 11 + P) (v := x)
            refine ⟨g2.setI (b + 76) (11 + P) x, ?_, (a2.t.tr b2.t).tr FrT.s76, F3⟩
            have fl : f_X12_readFlag n zr g (b + 72) (nI P) = some (0, g2.setI (b + 76) (11 + P) x) := by
                unfold f_X12_readFlag
                rw [if_pos R.K, show f_X12_eats n zr g (b + 72) 4 = some (0, g) from eats_f R (k := 4) (by decide) k4, bS]
                show (if (0 : Int32) = 0 then _ else _) = _
                rw [if_pos rfl, show f_X12_eats n zr g (b + 72) 5 = _ from a1, bS]
                show (if (1 : Int32) = 0 then _ else _) = _
                rw [if_neg n10, gR_ok a3.K (rm_4 a3.1.1), bS, b1, bS]
                show (stI zr g2 (b + 76) (11 + nI P) x).bind _ = _
                rw [s1, bS]
                exact p56_F F3
            rw [f_X12_readPerson_41.eq_2, gI_ok R.K, bS, R.2.2.1, if_pos (show nI 0 = 0 from rfl), fl, bS]
            exact (if_pos rfl).trans (p59_F F3)
      · refine Or.inr ⟨h, T, ta, fr, hta, hfr, Nat.le_refl _, ?_, Fc.rf, C, fun zr g M wr R => ⟨g, ?_, FrT.rf, R, rfl, fun _ _ _ _ _ _ _ _ _ H => H⟩⟩
        · rw [f_X6_readPerson_29.eq_2, gI_ok Z.2.2.1, bS]
          split
          · rfl
          · rw [is_n C Z hN hx hn (s := 16) (by decide) (by decide) k4, bS, if_pos rfl, is_n C Z hN hx hn (s := 17) (by decide) (by decide) k5, bS, if_pos rfl]
        · have fl : f_X12_readFlag n zr g (b + 72) (nI P) = some (0, g) := by
            unfold f_X12_readFlag
            rw [if_pos R.K, show f_X12_eats n zr g (b + 72) 4 = some (0, g) from eats_f R (k := 4) (by decide) k4, bS]
            show (if (0 : Int32) = 0 then _ else _) = _
            rw [if_pos rfl, show f_X12_eats n zr g (b + 72) 5 = some (0, g) from eats_f R (k := 5) (by decide) k5, bS]
            exact if_pos rfl
          rw [f_X12_readPerson_41.eq_2, gI_ok R.K, bS, R.2.2.1, if_pos (show nI 0 = 0 from rfl), fl, bS]
          exact if_pos rfl
end
