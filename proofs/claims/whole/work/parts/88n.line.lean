/-! ===== town, 13: a person's line, a law's line ===== -/
section
variable {n b N w zs t : Nat} {sv : Nat → Nat} {z : Sh} {tx : Nat → Nat} {T : Tk} {L : List Nat} {h : Hp} {yr tr P ca di li : Nat} {tal fe : Nat → Nat} {LW LG : List Nat}
theorem ln_per (C : CS b sv z tx N w T L h) (H : CT b z t (yr, tr, P, ca, di, li, tal, fe, LW, LG) h) (O : DOK (yr, tr, P, ca, di, li, tal, fe, LW, LG)) (hz : zs ≤ t) (Z : ZC b z) (hN : N ≤ 900) (hx : ∀ j, tx j < 256) (hn : 400000 ≤ n) (hk : T.2.2.1 = 3) : Jl n b sv tx N zs t z h T (yr, tr, P, ca, di, li, tal, fe, LW, LG) (f_X6_readLine n z h (b + 2)) := by
  have n10 : ¬ ((1 : Int32) = 0) := by decide
  have hT := tkT C.tk
  have tg := tkG C.tk (by omega)
  have hP6 : P ≤ 6 := O.2.2.1
  obtain ⟨⟨r1, r2, r3⟩, ⟨r4, -⟩, -, -, -, i2, -⟩ := id H
  rcases (by omega : P < 6 ∨ P = 6) with hP | rfl
  · have c1 : nI P < 6 := (nI_lt2 (j := 6) (by omega) (by decide)).mpr hP
    obtain ⟨h1, e1, e2, C1⟩ := next_C C Z hN hx hn
    have H1 := H.fc e2
    have U : f_X6_readPerson n z h (b + 2) = f_X6_readPerson_29 n z n h1 (b + 2) (nI 0) (nI 9) (nI 0) := by
      unfold f_X6_readPerson
      rw [if_pos Z.2.2.1, gR_ok Z.2.2.1 r1, bS, gI_ok r4, bS, i2, if_pos c1, e1, bS]
      rfl
    have V : ∀ zr g M wr, RS b sv zr tx N wr T M g → RT b M (yr, tr, P, ca, di, li, tal, fe, LW, LG) g → ∃ g1, f_X12_readLine n zr g (b + 72) = (f_X12_readPerson_41 n zr n g1 (b + 72) (nI P)).bind (fun h24 => some h24) ∧ FrT b g g1 ∧ RS b sv zr tx N wr (tkN tx N T.2.1) M g1 ∧ g1.I (b + 76) 3 = nI P ∧ RT b M (yr, tr, (P + 1), ca, di, li, (va_up tal P 0), (va_up fe P 9), LW, LG) (g1.setI (b + 76) 3 (nI (P + 1))) := by
      intro zr g M wr R R2
      obtain ⟨g1, a1, a2, a3⟩ := next_R R hN hx hn
      have p3 : g.I (b + 76) 3 = nI P := R2.2.2.2.1
      have p6 : ¬ (nI P = 6) := fun q => by
        have := (nI_inj (j := 6) (by omega) (by decide)).mp q
        omega
      have s1 : stI zr g1 (b + 76) (11 + nI P) 9 = some (g1.setI (b + 76) (11 + P) (nI 9)) := by
        rw [show (11 : Int32) + nI P = nI (11 + P) from nI_add 11 P]
        exact sm_4 a3.1.1 (by omega)
      refine ⟨g1.setI (b + 76) (11 + P) (nI 9), ?_, a2.t.tr FrT.s76, a3.s76 (by omega), (sI_ne (by omega)).trans ((a2.2.2.2.2 3 (by decide)).trans p3), (R2.fr hP6 a2).beg hP⟩
      unfold f_X12_readLine f_X12_readPerson f_X12_readPerson_18
      rw [if_pos R.K, gI_ok R.K, bS, R.2.2.1, if_pos (show nI 0 = 0 from rfl), show f_X12_is zr g (b + 72) 3 = some 1 from is_ry R (k := 3) (by decide) hk, bS, if_neg n10, if_pos R.K, gR_ok R.K (rm_4 R.1.1), bS, show ldI zr g (b + 76) 3 = some (nI P) from (lm_4 (j := 3) R.1.1 (by decide)).trans (by rw [p3]), bS, if_neg p6, bS, if_pos (show nI 0 = 0 from rfl), a1, bS, gR_ok a3.K (rm_4 a3.1.1), bS, s1, bS]
    rcases per_lp (n := n) Z hN hx hn hP 901 n n (tkN tx N T.2.1) h1 0 9 0 (by omega) (by omega) (by omega) C1 (by omega) (by decide) (by decide) with ⟨h3, fl, pl, w1, w2, w3, w4⟩ | ⟨h3, T3, ta, fr, w0, w00, w01, w1, w2, w3, w4⟩
    · refine Jl.bad (h1 := h3) (z1 := z) ?_ ((Gz.fc e2).tr (Gz.fc w2)) ⟨by omega, by omega⟩ w3.wk (fun zr g M R => ?_)
      · unfold f_X6_readLine
        rw [if_pos Z.2.2.1]
        refine gd3_go ⟨Nat.le_refl _, Nat.le_refl _⟩ ?_
        rw [is_y C Z hN hx hn (s := 15) (by decide) (by decide) hk, bS, if_neg n10, U, w1, bS]
        exact if_pos rfl
      · obtain ⟨⟨wr, R⟩, R2, R3⟩ := R
        obtain ⟨g1, a1, a2, a3, a4, a5⟩ := V zr g M wr R R2
        obtain ⟨g2, b1, b2, b3⟩ := w4 zr g1 M wr a3
        exact ⟨g2, by rw [a1, b1, bS], a2.tr b2, b3⟩
    · have H3 := H1.fc w2
      obtain ⟨A1, A2⟩ := H3.add (x := ta) (y := fr) hP
      obtain ⟨⟨q1, q2, q3⟩, -⟩ := id H3
      have C4 : CS b sv z tx N w T3 L (((h3.setI (t + 1) P (nI ta)).setI (t + 2) P (nI fr)).setI t 2 (nI (P + 1))) := w3.mv (by omega) (fun _ _ => ⟨rfl, rfl⟩) (fun _ => rfl) (fun a ha => by rw [sI_o (show a ≠ t by omega), sI_o (show a ≠ t + 2 by omega), sI_o (show a ≠ t + 1 by omega)]) (fun _ _ => rfl)
      have U2 : f_X6_readPerson n z h (b + 2) = some (1, ((h3.setI (t + 1) P (nI ta)).setI (t + 2) P (nI fr)).setI t 2 (nI (P + 1))) := by
        rw [U, w1]
        unfold f_X6_readPerson_115
        rw [gR_ok Z.2.2.1 q1, bS, A1, bS]
      have W : ∀ x h4, f_X6_endLine n z (((h3.setI (t + 1) P (nI ta)).setI (t + 2) P (nI fr)).setI t 2 (nI (P + 1))) (b + 2) = some (x, h4) → f_X6_readLine n z h (b + 2) = gd3 z (if x = 0 then some (0, h4, z) else some (1, h4, z)) := by
        intro x h4 e
        unfold f_X6_readLine
        rw [if_pos Z.2.2.1, is_y C Z hN hx hn (s := 15) (by decide) (by decide) hk, bS, if_neg n10, U2, bS]
        show gd3 z (if (1 : Int32) = 0 then _ else _) = _
        rw [if_neg n10, e, bS]
      refine Jl.fin C4 A2 ⟨O.1, O.2.1, by omega, O.2.2.2.1, O.2.2.2.2.1, fun p hp => ?_, O.2.2.2.2.2.2⟩ hz ((Gz.fc e2).tr ((Gz.fc w2).tr (((Gz.st (by omega)).tr (Gz.st (by omega))).tr (Gz.st hz)))) ⟨by omega, by omega⟩ (by omega) Z hN hx hn (fun h4 e => ?_) (fun h4 e => ?_) (fun zr g M R => ?_)
      · by_cases q : p = P
        · subst q
          rw [va_up_self, va_up_self]
          exact ⟨w0, w00⟩
        · rw [va_up_ne _ _ q, va_up_ne _ _ q]
          exact O.2.2.2.2.2.1 p (by omega)
      · rw [W _ _ e]
        exact gd3_go ⟨Nat.le_refl _, Nat.le_refl _⟩ (if_pos rfl)
      · rw [W _ _ e]
        exact gd3_go ⟨Nat.le_refl _, Nat.le_refl _⟩ (if_neg n10)
      · obtain ⟨⟨wr, R⟩, R2, R3⟩ := R
        obtain ⟨g1, a1, a2, a3, a4, a5⟩ := V zr g M wr R R2
        obtain ⟨g2, b1, b2, b3, b4, b5⟩ := w4 zr g1 M wr a3
        refine ⟨g2.setI (b + 76) 3 (nI (P + 1)), M, ?_, (a2.tr b2).tr FrT.s76, ⟨wr, b3.s76 (by decide)⟩, b5 _ _ _ _ _ _ _ _ _ a5, by omega⟩
        rw [a1, b1]
        unfold f_X12_readPerson_59
        rw [gI_ok b3.K, bS, b3.2.2.1, if_pos (show nI 0 = 0 from rfl), gR_ok b3.K (rm_4 b3.1.1), bS, show ldI zr g2 (b + 76) 3 = some (nI P) from (lm_4 (j := 3) b3.1.1 (by decide)).trans (by rw [b4, a4]), bS, nI_1, show stI zr g2 (b + 76) 3 (nI (P + 1)) = _ from sm_4 (j := 3) b3.1.1 (by decide), bS, bS]
  · obtain ⟨h2, e1, e2, e3⟩ := wrong_c C Z hN (v := 4) (by decide) (by decide)
    have e1 : f_X6_wrong z h (b + 2) 4 = some (0, h2) := e1
    refine Jl.bad (h1 := h2) (z1 := z) ?_ (Gz.fc e2) ⟨by omega, by omega⟩ e3.wk (fun zr g M R => ?_)
    · have U : f_X6_readPerson n z h (b + 2) = some (0, h2) := by
        unfold f_X6_readPerson
        rw [if_pos Z.2.2.1, gR_ok Z.2.2.1 r1, bS, gI_ok r4, bS, i2, if_neg (by decide), e1, bS]
        show (bz 0).bind _ = _
        rw [bz_ok (x := 0) (Or.inl rfl), bS]
      unfold f_X6_readLine
      rw [if_pos Z.2.2.1]
      refine gd3_go ⟨Nat.le_refl _, Nat.le_refl _⟩ ?_
      rw [is_y C Z hN hx hn (s := 15) (by decide) (by decide) hk, bS, if_neg n10, U, bS]
      exact if_pos rfl
    · obtain ⟨⟨wr, R⟩, R2, R3⟩ := R
      obtain ⟨g1, a1, a2, a3⟩ := fails_r R (v := 4) (by decide) (by decide)
      have a1 : f_X12_fails zr g (b + 72) 4 = some g1 := a1
      have p3 : g.I (b + 76) 3 = nI 6 := R2.2.2.2.1
      refine ⟨g1, ?_, a2.t, a3⟩
      unfold f_X12_readLine f_X12_readPerson f_X12_readPerson_18
      rw [if_pos R.K, gI_ok R.K, bS, R.2.2.1, if_pos (show nI 0 = 0 from rfl), show f_X12_is zr g (b + 72) 3 = some 1 from is_ry R (k := 3) (by decide) hk, bS, if_neg n10, if_pos R.K, gR_ok R.K (rm_4 R.1.1), bS, show ldI zr g (b + 76) 3 = some (nI 6) from (lm_4 (j := 3) R.1.1 (by decide)).trans (by rw [p3]), bS, if_pos (show nI 6 = 6 from rfl), a1, bS, gI_ok R.K, bS, if_neg a3.ne, bS]
end
theorem cpL_ok {b k : Nat} {z : Sh} {h : Hp} (Z : ZC b z) (hb : b + 92 ≤ z.sz) (hk : k < 900) : f_J7_copyOf_59c91 z h (b + 7) (nI k) = some (some z.sz, (h.nw z.sz).rowI z.sz (va_cpy ((h.nw z.sz).I (b + 7)) ((h.nw z.sz).I z.sz) 0 0 k), z.al 14 k k) := by
  have K5 : (z.al 14 k k).K (b + 7) = 14 := by rw [al_Kb, if_neg (by omega)]; exact Z.2.2.2.1
  have N5 : (z.al 14 k k).N (b + 7) = 900 := by rw [al_Nb, if_neg (by omega)]; exact Z.2.2.2.2
  have Kn : (z.al 14 k k).K z.sz = 14 := by rw [al_Kb, if_pos rfl]
  have Nn : (z.al 14 k k).N z.sz = k := by rw [al_Nb, if_pos rfl]
  have hc : cpI (z.al 14 k k) (h.nw z.sz) (b + 7) 0 z.sz 0 (nI k) = some ((h.nw z.sz).rowI z.sz (va_cpy ((h.nw z.sz).I (b + 7)) ((h.nw z.sz).I z.sz) 0 0 k)) := by
    unfold cpI
    rw [if_pos ⟨K5, Kn⟩, if_pos]
    · rw [nI_clamp (by omega)]
      rfl
    · refine ⟨by decide, by decide, nI_pos (by omega), ?_, ?_⟩
      · rw [nI_clamp (by omega), N5]
        show 0 + k ≤ 900
        omega
      · rw [nI_clamp (by omega), Nn]
        show 0 + k ≤ k
        omega
  unfold f_J7_copyOf_59c91
  refine gd3_go ⟨by rw [al_sz]; omega, by rw [al_sl]; omega⟩ ?_
  rw [aL_ok Z.2.2.2.1 rfl Z.2.2.2.2, bS, if_neg (fun q => by
    have := (nI_inj (by omega) (by decide)).mp q
    omega), nwA_ok rfl (by omega) (by show k * 4 ≤ _; omega), bS]
  refine gd3_go ⟨Nat.le_refl _, Nat.le_refl _⟩ ?_
  rw [aL_ok K5 rfl N5, bS]
  unfold f_J9_min_7cf53
  rw [if_pos ((nI_lt2 (by omega) (by decide)).mpr hk), bS, hc, bS]
