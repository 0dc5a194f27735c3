/-! ===== town, 15: all lines, the head ===== -/
section
variable {n b N w zs t : Nat} {sv : Nat → Nat} {z : Sh} {tx : Nat → Nat} {T : Tk} {h : Hp} {D : Dt}
theorem line_ok (C : CLS b sv z tx N t T D h) (hz : zs ≤ t) (Z : ZC b z) (hN : N ≤ 900) (hx : ∀ j, tx j < 256) (hn : 400000 ≤ n) : Jl n b sv tx N zs t z h T D (f_X6_readLine n z h (b + 2)) := by
  obtain ⟨⟨w, L, C⟩, H, O⟩ := C
  obtain ⟨yr, tr, P, ca, di, li, tal, fe, LW, LG⟩ := D
  by_cases k3 : T.2.2.1 = 3
  · exact ln_per C H O hz Z hN hx hn k3
  · by_cases k6 : T.2.2.1 = 6
    · exact ln_ca C H O hz Z hN hx hn k6
    · by_cases k7 : T.2.2.1 = 7
      · exact ln_di C H O hz Z hN hx hn k7
      · by_cases k8 : T.2.2.1 = 8
        · exact ln_lw C H O hz Z hN hx hn k8
        · by_cases k9 : T.2.2.1 = 9
          · exact ln_lg C H O hz Z hN hx hn k9
          · exact ln_wr C Z hN hx hn k3 k6 k7 k8 k9
/-- the reference tells what was wrong -/
theorem t143_F {zr : Sh} {g : Hp} {fl pl : Nat} (F : RF b zr fl pl g) : ∃ g', f_X12_town_143 n zr g (b + 72) = some ((-99000030) - nI fl, g') ∧ FrT b g g' ∧ g'.I (b + 72) 13 = nI fl ∧ g'.I (b + 72) 14 = nI pl := by
  have ne : ¬ (nI fl = 0) := fun q => F.ne (F.2.1.trans q)
  have a1 : (g.setI (b + 72) 13 (nI fl)).I (b + 72) 11 = nI fl := (sI_ne (by decide)).trans F.2.1
  have a2 : (g.setI (b + 72) 13 (nI fl)).I (b + 72) 12 = nI pl := (sI_ne (by decide)).trans F.2.2.1
  have a3 : ((g.setI (b + 72) 13 (nI fl)).setI (b + 72) 14 (nI pl)).I (b + 72) 11 = nI fl := (sI_ne (by decide)).trans a1
  refine ⟨(g.setI (b + 72) 13 (nI fl)).setI (b + 72) 14 (nI pl), ?_, (FrT.s72 (by decide)).tr (FrT.s72 (by decide)), (sI_ne (by decide)).trans sI_eq, sI_eq⟩
  unfold f_X12_town_143 f_X12_town_167
  rw [gI_ok F.K, bS, F.2.1, pI_ok F.K, bS, gI_ok F.K, bS, a1, if_neg ne, gI_ok F.K, bS, a2, pI_ok F.K, bS, gI_ok F.K, bS, a3, if_neg ne, bS]
theorem t116_F {zr : Sh} {g : Hp} {fl pl f : Nat} (F : RF b zr fl pl g) (hf : 0 < f) : ∃ g', f_X12_town_116 n zr f g (b + 72) = some ((-99000030) - nI fl, g') ∧ FrT b g g' ∧ g'.I (b + 72) 13 = nI fl ∧ g'.I (b + 72) 14 = nI pl := by
  obtain ⟨f, rfl⟩ : ∃ k, f = k + 1 := ⟨f - 1, by omega⟩
  obtain ⟨g', e1, e2⟩ := t143_F (n := n) F
  refine ⟨g', ?_, e2⟩
  rw [f_X12_town_116.eq_2, gI_ok F.K, bS, if_neg F.ne]
  exact e1
theorem t100_F {zr : Sh} {g : Hp} {fl pl : Nat} (F : RF b zr fl pl g) (hn : 400000 ≤ n) : ∃ g', f_X12_town_100 n zr g (b + 72) = some ((-99000030) - nI fl, g') ∧ FrT b g g' ∧ g'.I (b + 72) 13 = nI fl ∧ g'.I (b + 72) 14 = nI pl := by
  obtain ⟨g1, a1, a2, a3⟩ := endr_F (n := n) (F.s76 (k := 2) (v := g.I (b + 72) 10))
  obtain ⟨g2, b1, b2, b3⟩ := t116_F (n := n) a3 (f := n) (by omega)
  refine ⟨g2, ?_, (FrT.s76.tr a2).tr b2, b3⟩
  unfold f_X12_town_100
  rw [gR_ok F.K (rm_4 F.1), bS, takes_F F, bS]
  show (stI zr g (b + 76) 2 (g.I (b + 72) 10)).bind _ = _
  rw [show stI zr g (b + 76) 2 _ = _ from sm_4 (j := 2) F.1 (by decide), bS, a1, bS]
  exact b1
theorem t74_F {zr : Sh} {g : Hp} {fl pl : Nat} (F : RF b zr fl pl g) (hn : 400000 ≤ n) : ∃ g', f_X12_town_74 n zr g (b + 72) = some ((-99000030) - nI fl, g') ∧ FrT b g g' ∧ g'.I (b + 72) 13 = nI fl ∧ g'.I (b + 72) 14 = nI pl := by
  have F1 := F.s76 (k := 1) (v := g.I (b + 72) 10)
  obtain ⟨g2, b1, b2, b3⟩ := t100_F (n := n) F1 hn
  refine ⟨g2, ?_, FrT.s76.tr b2, b3⟩
  unfold f_X12_town_74
  rw [gR_ok F.K (rm_4 F.1), bS, takes_F F, bS]
  show (stI zr g (b + 76) 1 (g.I (b + 72) 10)).bind _ = _
  rw [show stI zr g (b + 76) 1 _ = _ from sm_4 (j := 1) F.1 (by decide), bS, eats_F F1, bS]
  show (if (0 : Int32) = 0 then _ else _) = _
  rw [if_pos rfl, fails_F F1, bS]
  exact b1
theorem rd77 {z : Sh} {h : Hp} {x : Int32} : f_X6_read_77 n z h (b + 2) 0 = some (none, h, z) := by
  unfold f_X6_read_77
  rw [if_pos rfl]
theorem rd48_F {z : Sh} {h : Hp} {x y : Int32} {f : Nat} (hf : 0 < f) : f_X6_read_48 n f z h (b + 2) x 0 y = some (none, h, z) := by
  obtain ⟨f, rfl⟩ : ∃ k, f = k + 1 := ⟨f - 1, by omega⟩
  rw [f_X6_read_48.eq_2]
  split
  · exact rd77 (x := x)
  · rw [if_pos rfl]
    exact rd77 (x := x)
theorem rd_lp (hz : zs ≤ t) (hN : N ≤ 900) (hx : ∀ j, tx j < 256) (hn : 400000 ≤ n) : ∀ m fi fj (z : Sh) (h : Hp) T D p, N - T.1 < m → m < fi → m < fj → CLS b sv z tx N t T D h → ZC b z → p ≤ T.1 →
    (∃ h' z' fl pl, f_X6_read_48 n fi z h (b + 2) (nI N) 1 (nI p) = some (none, h', z') ∧ Gz b zs z h z' h' ∧ (z'.sz ≤ z.sz + (N - T.1) ∧ z'.sl ≤ z.sl + (N - T.1)) ∧ CF b 2 fl pl h' ∧ ∀ zr g M, RLS b sv zr tx N T M D g → ∃ g', f_X12_town_116 n zr fj g (b + 72) = some ((-99000030) - nI fl, g') ∧ FrT b g g' ∧ g'.I (b + 72) 13 = nI fl ∧ g'.I (b + 72) 14 = nI pl) ∨
    (∃ h' z' T' D', f_X6_read_48 n fi z h (b + 2) (nI N) 1 (nI p) = some (some t, h', z') ∧ Gz b zs z h z' h' ∧ (z'.sz ≤ z.sz + (N - T.1) ∧ z'.sl ≤ z.sl + (N - T.1)) ∧ CLS b sv z' tx N t T' D' h' ∧ ∀ zr g M, RLS b sv zr tx N T M D g → ∃ g' M', f_X12_town_116 n zr fj g (b + 72) = f_X12_town_143 n zr g' (b + 72) ∧ FrT b g g' ∧ RLS b sv zr tx N T' M' D' g') := by
  intro m
  induction m with
  | zero =>
    intro fi fj z h T D p h1
    omega
  | succ m ih =>
    intro fi fj z h T D p h1 h2 h3 C Z hp
    obtain ⟨fi, rfl⟩ : ∃ k, fi = k + 1 := ⟨fi - 1, by omega⟩
    obtain ⟨fj, rfl⟩ : ∃ k, fj = k + 1 := ⟨fj - 1, by omega⟩
    have n10 : ¬ ((1 : Int32) = 0) := by decide
    obtain ⟨⟨w, L, C0⟩, H, O⟩ := id C
    have hT := tkT C0.tk
    have hT8 : h.R (b + 2) 8 = some t := by
      obtain ⟨yr, tr, P, ca, di, li, tal, fe, LW, LG⟩ := D
      exact H.1.1
    have i3 : (h.I (b + 2) 6 = 3) ↔ T.2.2.1 = 25 := by
      rw [C0.2.2.2.2.2.1]
      exact (nI_inj (j := 3) (by have := ckO_lt T.2.2.1; omega) (by decide)).trans (ckO_3 _)
    have r77 : f_X6_read_77 n z h (b + 2) 1 = some (some t, h, z) := by
      unfold f_X6_read_77
      rw [if_neg n10, gR_ok Z.2.2.1 hT8, bS]
    by_cases k25 : T.2.2.1 = 25
    · refine Or.inr ⟨h, z, T, D, ?_, Gz.rf, ⟨by omega, by omega⟩, C, fun zr g M R => ?_⟩
      · rw [f_X6_read_48.eq_2]
        split
        · exact r77
        · try rw [if_neg n10]
          rw [gI_ok Z.2.2.1, bS, if_pos (i3.mpr k25)]
          exact r77
      · obtain ⟨⟨wr, R1⟩, R2, R3⟩ := id R
        refine ⟨g, M, ?_, FrT.rf, R⟩
        rw [f_X12_town_116.eq_2, gI_ok R1.K, bS, R1.2.2.1, if_pos (show nI 0 = 0 from rfl), gI_ok R1.K, bS, R1.2.2.2.2.2.1, k25, if_pos (show nI 25 = 25 from rfl)]
    · have hT5 := hT.2.2.1 k25
      have hp2 : ¬ (nI N ≤ nI p) := fun w => by
        have w := (nI_leI (by omega) (by omega)).mp w
        omega
      have U : ∀ x h6 z7, f_X6_readLine n z h (b + 2) = some (x, h6, z7) → f_X6_read_48 n (fi + 1) z h (b + 2) (nI N) 1 (nI p) = gd3 z7 (f_X6_read_48 n fi z7 h6 (b + 2) (nI N) x (nI (p + 1))) := by
        intro x h6 z7 e
        rw [f_X6_read_48.eq_2, if_neg hp2, if_neg n10, gI_ok Z.2.2.1, bS, if_neg (fun q => k25 (i3.mp q)), e, bS]
        show gd3 z7 ((some (nI p + 1)).bind _) = _
        rw [bS, nI_1]
      have V : ∀ zr g M, RLS b sv zr tx N T M D g → ∀ g1, (f_X12_readLine n zr g (b + 72)).bind (fun g1 => f_X12_ends n zr g1 (b + 72)) = some g1 → f_X12_town_116 n zr (fj + 1) g (b + 72) = f_X12_town_116 n zr fj g1 (b + 72) := by
        intro zr g M R g1 e
        obtain ⟨⟨wr, R1⟩, R2, R3⟩ := R
        rw [f_X12_town_116.eq_2, gI_ok R1.K, bS, R1.2.2.1, if_pos (show nI 0 = 0 from rfl), gI_ok R1.K, bS, R1.2.2.2.2.2.1, if_neg (show ¬ (nI T.2.2.1 = 25) from fun q => k25 ((nI_inj (j := 25) (by omega) (by decide)).mp q)), ← Option.bind_assoc, e, bS]
      rcases line_ok (n := n) (zs := zs) C hz Z hN hx hn with ⟨h6, z7, fl, pl, q1, q2, q3, q4, q5⟩ | ⟨h6, z7, T7, D7, q1, q2, q3, q4, q5, q6⟩
      · refine Or.inl ⟨h6, z7, fl, pl, ?_, q2, q3, q4, fun zr g M R => ?_⟩
        · rw [U _ _ _ q1]
          exact gd3_go ⟨Nat.le_refl _, Nat.le_refl _⟩ (rd48_F (by omega))
        · obtain ⟨g1, a1, a2, a3⟩ := q5 zr g M R
          obtain ⟨g2, b1, b2, b3⟩ := t116_F (n := n) a3 (f := fj) (by omega)
          exact ⟨g2, (V zr g M R g1 a1).trans b1, a2.tr b2, b3⟩
      · have hb : b + 92 ≤ z.sz := by
          obtain ⟨yr, tr, P, ca, di, li, tal, fe, LW, LG⟩ := D
          have := H.1.2
          omega
        have Z7 := Z.gz q2 hb
        have hT7 := tkT q5.1.choose_spec.choose_spec.tk
        rcases ih fi fj z7 h6 T7 D7 (p + 1) (by omega) (by omega) (by omega) q5 Z7 (by omega) with ⟨h8, z8, fl, pl, s1, s2, s3, s4, s5⟩ | ⟨h8, z8, T8, D8, s1, s2, s3, s4, s5⟩
        · refine Or.inl ⟨h8, z8, fl, pl, ?_, q2.tr s2, ⟨by omega, by omega⟩, s4, fun zr g M R => ?_⟩
          · rw [U _ _ _ q1]
            exact gd3_go s2.1 s1
          · obtain ⟨g1, M1, a1, a2, a3⟩ := q6 zr g M R
            obtain ⟨g2, b1, b2, b3⟩ := s5 zr g1 M1 a3
            exact ⟨g2, (V zr g M R g1 a1).trans b1, a2.tr b2, b3⟩
        · refine Or.inr ⟨h8, z8, T8, D8, ?_, q2.tr s2, ⟨by omega, by omega⟩, s4, fun zr g M R => ?_⟩
          · rw [U _ _ _ q1]
            exact gd3_go s2.1 s1
          · obtain ⟨g1, M1, a1, a2, a3⟩ := q6 zr g M R
            obtain ⟨g2, M2, b1, b2, b3⟩ := s5 zr g1 M1 a3
            exact ⟨g2, M2, (V zr g M R g1 a1).trans b1, a2.tr b2, b3⟩
end
