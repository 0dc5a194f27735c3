/-! ===== town, 9: atoms, and all of it ===== -/
section
variable {n b N w : Nat} {sv : Nat → Nat} {z : Sh} {tx : Nat → Nat}
theorem fct_9 {w k : Nat} (h : k = 35 ∨ k = 10 ∨ k = 24) : fct w k = 9 := by
  unfold fct
  rw [if_neg (by omega), if_neg (by omega), if_neg (by omega)]
theorem fct_ne {w k : Nat} (h : fct w k ≠ 9) : k = 4 ∨ k = 14 ∨ (15 ≤ k ∧ k ≤ 19) := by
  unfold fct at h
  by_cases q1 : k = 4
  · exact Or.inl q1
  · by_cases q2 : k = 14
    · exact Or.inr (Or.inl q2)
    · rw [if_neg q1, if_neg q2] at h
      by_cases q3 : w = 1 ∧ 15 ≤ k ∧ k ≤ 19
      · exact Or.inr (Or.inr q3.2)
      · rw [if_neg q3] at h
        exact absurd rfl h
theorem fct_7 {w k : Nat} (h : fct w k ≠ 9) : fct w k < 7 := by
  have := fct_lt h
  split at this <;> omega
theorem fc_m1 : ∀ k, k < 9 → ¬ (nI k = -1) := by decide +kernel
theorem fc_e : ∀ k, k < 7 → ((-11) - nI k : Int32) = iI (cC (1000 + k)) := by decide +kernel
theorem nm_iI {m : Nat} (h : m < 1000) : nI m = iI (cC m) := by
  unfold cC
  rw [if_pos h, nI_iI]
set_option maxHeartbeats 4000000 in
theorem j_Atom (Z : ZC b z) (hN : N ≤ 900) (hx : ∀ j, tx j < 256) (hn : 400000 ≤ n) (hw : w < 2) {d : Nat} (hd : d ≤ 6) (S : d < 6 → JSum n b sv z tx N w (d + 1)) (V : d < 6 → JTruth n b sv z tx N w (d + 1)) : JAtom n b sv z tx N w d := by
  intro i j P T L h hi hj C hL hP
  obtain ⟨i, rfl⟩ : ∃ k, i = k + 1 := ⟨i - 1, by omega⟩
  obtain ⟨j, rfl⟩ : ∃ k, j = k + 2 := ⟨j - 2, by omega⟩
  have n10 : ¬ ((1 : Int32) = 0) := by decide
  have hT := tkT C.tk
  show Jn b sv z tx N w P T L h _ (F_X6_readAtom n (rc_X6_readSum n i).1 (rc_X6_readSum n i).2.1 (rc_X6_readSum n i).2.2.1 (rc_X6_readSum n i).2.2.2.1 (rc_X6_readSum n i).2.2.2.2.1 (rc_X6_readSum n i).2.2.2.2.2 z h (b + 2) (nI d)) (fun z' g => F_X12_readAtom n (rc_X12_readAtom n (j + 1)).1 (rc_X12_readAtom n (j + 1)).2.1 (rc_X12_readAtom n (j + 1)).2.2.1 (rc_X12_readAtom n (j + 1)).2.2.2.1 (rc_X12_readAtom n (j + 1)).2.2.2.2.1 (rc_X12_readAtom n (j + 1)).2.2.2.2.2.1 (rc_X12_readAtom n (j + 1)).2.2.2.2.2.2 z' g (b + 72) (nI d))
  unfold F_X6_readAtom F_X12_readAtom ckK
  by_cases k24 : T.2.2.1 = 24
  · have c6 : h.I (b + 2) 6 = 1 := C.2.2.2.2.2.1.trans (by rw [k24]; rfl)
    have hm := hT.2.2.2.1 k24
    refine Jn.tok C Z hN hx hn hw hL hP (by omega) (c := T.2.2.2) (x := nI T.2.2.2) (nm_iI hm) ((gdN_num hm).mono (by omega)) (fun h1 h2 e1 e2 => ?_) (fun z' g M g1 g2 R e1 e2 => ?_)
    · rw [if_pos Z.2.2.1, gI_ok Z.2.2.1, bS, if_pos c6, gI_ok Z.2.2.1, bS, C.2.2.2.2.2.2.1 k24, e1, bS, e2, bS]
    · rw [if_pos R.K, is_ry R (k := 24) (by decide) k24, bS, if_neg n10, gI_ok R.K, bS, R.2.2.2.2.2.2.1 k24, e1, bS, e2, bS]
  · have k1 : ¬ (h.I (b + 2) 6 = 1) := fun q => k24 ((ckO_1 _).mp ((nI_inj (j := 1) (by have := ckO_lt T.2.2.1; omega) (by decide)).mp (C.2.2.2.2.2.1.symm.trans q)))
    by_cases k35 : T.2.2.1 = 35
    · apply Jn.deep C Z hN hx hn hP (by omega) hd
      · intro x h1 e
        rewrite [if_pos Z.2.2.1, gI_ok Z.2.2.1, bS, if_neg k1, is_y C Z hN hx hn (s := 23) (by decide) (by decide) k35, bS, if_neg n10, e, bS]
        exact rfl
      · intro z' g M g1 R e
        unfold f_X12_readAtom_66
        rewrite [if_pos R.K, is_rn R (k := 24) (by decide) k24, bS, if_pos rfl, gI_ok R.K, bS, R.2.2.1, if_pos (show nI 0 = 0 from rfl), gI_ok R.K, bS, R.2.2.2.2.2.1, wordOf_r R hw, bS, if_pos (fct_9 (by omega)), if_pos rfl, is_ry R (k := 35) (by decide) k35, bS, if_neg n10, e, bS]
        exact if_pos rfl
      · intro z' g M g1 R e
        unfold f_X12_readAtom_66 ckK
        rewrite [if_pos R.K, is_rn R (k := 24) (by decide) k24, bS, if_pos rfl, gI_ok R.K, bS, R.2.2.1, if_pos (show nI 0 = 0 from rfl), gI_ok R.K, bS, R.2.2.2.2.2.1, wordOf_r R hw, bS, if_pos (fct_9 (by omega)), if_pos rfl, is_ry R (k := 35) (by decide) k35, bS, if_neg n10, e, bS]
        show (if (1 : Int32) = 0 then _ else _) = _
        rewrite [if_neg n10, if_pos R.K, bS]
        exact rfl
      · intro h1 fl pl F
        exact ⟨h1, if_pos rfl, Fc.rf, F⟩
      · intro hd6 h1 T1 c1 hT1
        apply Jn.bind (P := P) (S hd6 i (j + 1) P T1 L h1 (by omega) (by omega) c1 (by omega) (by omega)) (Nat.le_refl _)
        · intro x h2 e
          show (if (1 : Int32) = 0 then _ else _) = _
          rewrite [if_neg n10, if_pos Z.2.2.1, bS, nI_1, e, bS]
          exact rfl
        · intro z' g M g1 R e
          rewrite [nI_1, e, bS]
          exact rfl
        · intro h2 fl pl F
          exact ⟨h2, if_pos rfl, Fc.rf, F⟩
        · intro z' g fl pl F
          show (f_X12_eats n z' g (b + 72) 36).bind _ = _
          rw [eats_F F, bS]
          show (if (0 : Int32) = 0 then _ else _) = _
          rw [if_pos rfl, fails_F F, bS]
        · intro h2 T2 C2 c2 ok2 hT2
          apply Jn.take c2 Z hN hx hn hT2 (s := 24) (k := 36) (by decide) (by decide) rfl
          · intro x h3 e
            show (if (1 : Int32) = 0 then _ else _) = _
            rewrite [if_neg n10, e, bS]
            exact rfl
          · intro z' g M g1 R e
            show (f_X12_eats n z' g (b + 72) 36).bind _ = _
            rewrite [show f_X12_eats n z' g (b + 72) 36 = _ from e, bS]
            show (if (1 : Int32) = 0 then _ else _) = _
            rewrite [if_neg n10]
            exact rfl
          · intro z' g M g1 R e e2
            show (f_X12_eats n z' g (b + 72) 36).bind _ = _
            rewrite [show f_X12_eats n z' g (b + 72) 36 = _ from e, bS]
            show (if (0 : Int32) = 0 then _ else _) = _
            rewrite [if_pos rfl, e2, bS]
            exact rfl
          · intro h3 fl pl F
            exact ⟨h3, if_pos rfl, Fc.rf, F⟩
          · intro z' g fl pl F
            exact rfl
          · intro h3 T3 c3 hT3
            refine Jn.ret c3 (by omega) ?_ (if_neg n10) (fun z' g M R => rfl)
            show gdN w _ (C2 ++ [])
            rw [List.append_nil]
            exact ok2.mono (by omega)
    · by_cases k10 : T.2.2.1 = 10
      · apply Jn.deep C Z hN hx hn hP (by omega) hd
        · intro x h1 e
          rewrite [if_pos Z.2.2.1, gI_ok Z.2.2.1, bS, if_neg k1, is_n C Z hN hx hn (s := 23) (by decide) (by decide) k35, bS, if_pos rfl, is_y C Z hN hx hn (s := 25) (by decide) (by decide) k10, bS, if_neg n10, e, bS]
          exact rfl
        · intro z' g M g1 R e
          unfold f_X12_readAtom_66 ckK
          rewrite [if_pos R.K, is_rn R (k := 24) (by decide) k24, bS, if_pos rfl, gI_ok R.K, bS, R.2.2.1, if_pos (show nI 0 = 0 from rfl), gI_ok R.K, bS, R.2.2.2.2.2.1, wordOf_r R hw, bS, if_pos (fct_9 (by omega)), if_pos rfl, is_rn R (k := 35) (by decide) k35, bS, if_pos rfl, is_ry R (k := 10) (by decide) k10, bS, if_neg n10, if_pos R.K, bS]
          show (F_X12_readIf n (rc_X12_readAtom n j).1 (rc_X12_readAtom n j).2.1 (rc_X12_readAtom n j).2.2.1 (rc_X12_readAtom n j).2.2.2.1 (rc_X12_readAtom n j).2.2.2.2.1 (rc_X12_readAtom n j).2.2.2.2.2.1 (rc_X12_readAtom n j).2.2.2.2.2.2 z' g (b + 72) (nI d)).bind _ = _
          unfold F_X12_readIf
          rewrite [if_pos R.K, e, bS]
          show ((if (0 : Int32) = 0 then _ else _ : Option Hp)).bind _ = _
          rw [if_pos rfl, bS]
        · intro z' g M g1 R e
          unfold f_X12_readAtom_66 ckK
          rewrite [if_pos R.K, is_rn R (k := 24) (by decide) k24, bS, if_pos rfl, gI_ok R.K, bS, R.2.2.1, if_pos (show nI 0 = 0 from rfl), gI_ok R.K, bS, R.2.2.2.2.2.1, wordOf_r R hw, bS, if_pos (fct_9 (by omega)), if_pos rfl, is_rn R (k := 35) (by decide) k35, bS, if_pos rfl, is_ry R (k := 10) (by decide) k10, bS, if_neg n10, if_pos R.K, bS]
          show (F_X12_readIf n (rc_X12_readAtom n j).1 (rc_X12_readAtom n j).2.1 (rc_X12_readAtom n j).2.2.1 (rc_X12_readAtom n j).2.2.2.1 (rc_X12_readAtom n j).2.2.2.2.1 (rc_X12_readAtom n j).2.2.2.2.2.1 (rc_X12_readAtom n j).2.2.2.2.2.2 z' g (b + 72) (nI d)).bind _ = _
          unfold F_X12_readIf ckK
          rewrite [if_pos R.K, e, bS]
          show ((if (1 : Int32) = 0 then _ else _ : Option Hp)).bind _ = _
          rewrite [if_neg n10, if_pos R.K, bS]
          exact rfl
        · intro h1 fl pl F
          obtain ⟨h2, e1, e2, e3⟩ := a143 (n := n) hw Z (i := i) F
          exact ⟨h2, (if_pos rfl).trans e1, e2, e3⟩
        · intro hd6 h1 T1 c1 hT1
          apply Jn.bind (P := P) (V hd6 i j P T1 L h1 (by omega) (by omega) c1 (by omega) (by omega)) (Nat.le_refl _)
          · intro x h2 e
            show (if (1 : Int32) = 0 then _ else _) = _
            rewrite [if_neg n10, if_pos Z.2.2.1, bS, nI_1, e, bS]
            exact rfl
          · intro z' g M g1 R e
            rewrite [nI_1, e, bS]
            exact rfl
          · intro h2 fl pl F
            obtain ⟨h3, e1, e2, e3⟩ := a143 (n := n) hw Z (i := i) F
            exact ⟨h3, (if_pos rfl).trans e1, e2, e3⟩
          · intro z' g fl pl F
            show ((f_X12_eats n z' g (b + 72) 11).bind _).bind _ = _
            rw [eats_F F, bS]
            show ((if (0 : Int32) = 0 then _ else _ : Option Hp)).bind _ = _
            rw [if_pos rfl, fails_F F, bS, if30_F F hn (by omega), bS]
          · intro h2 T2 C2 c2 ok2 hT2
            apply Jn.take c2 Z hN hx hn hT2 (s := 34) (k := 11) (by decide) (by decide) rfl
            · intro x h3 e
              show (if (1 : Int32) = 0 then _ else _) = _
              rewrite [if_neg n10, e, bS]
              exact rfl
            · intro z' g M g1 R e
              show ((f_X12_eats n z' g (b + 72) 11).bind _).bind _ = _
              rewrite [show f_X12_eats n z' g (b + 72) 11 = _ from e, bS]
              show ((if (1 : Int32) = 0 then _ else _ : Option Hp)).bind _ = _
              rewrite [if_neg n10]
              exact rfl
            · intro z' g M g1 R e e2
              show ((f_X12_eats n z' g (b + 72) 11).bind _).bind _ = _
              rewrite [show f_X12_eats n z' g (b + 72) 11 = _ from e, bS]
              show ((if (0 : Int32) = 0 then _ else _ : Option Hp)).bind _ = _
              rewrite [if_pos rfl, e2, bS]
              exact rfl
            · intro h3 fl pl F
              obtain ⟨h4, e1, e2, e3⟩ := a143 (n := n) hw Z (i := i) F
              exact ⟨h4, (if_pos rfl).trans e1, e2, e3⟩
            · intro z' g fl pl F
              show (f_X12_readIf_30 n (rc_X12_readAtom n j).1 (rc_X12_readAtom n j).2.1 (rc_X12_readAtom n j).2.2.1 (rc_X12_readAtom n j).2.2.2.1 (rc_X12_readAtom n j).2.2.2.2.1 (rc_X12_readAtom n j).2.2.2.2.2.1 (rc_X12_readAtom n j).2.2.2.2.2.2 z' g (b + 72) (nI d)).bind _ = _
              rw [if30_F F hn (by omega), bS]
            · intro h3 T3 c3 hT3
              apply Jn.bind (P := P + C2.length) (S hd6 i j (P + C2.length) T3 (L ++ C2) h3 (by omega) (by omega) c3 (by rw [List.length_append]; omega) (by omega)) (Nat.le_refl _)
              · intro x h4 e
                show (if (1 : Int32) = 0 then _ else _) = _
                rewrite [if_neg n10, bS, e, bS]
                exact rfl
              · intro z' g M g1 R e
                unfold f_X12_readIf_30 ckK
                rewrite [if_pos R.K, bS, nI_1, e, bS]
                exact rfl
              · intro h4 fl pl F
                obtain ⟨h5, e1, e2, e3⟩ := a143 (n := n) hw Z (i := i) F
                exact ⟨h5, (if_pos rfl).trans e1, e2, e3⟩
              · intro z' g fl pl F
                show ((f_X12_eats n z' g (b + 72) 12).bind _).bind _ = _
                rw [eats_F F, bS]
                show ((if (0 : Int32) = 0 then _ else _ : Option Hp)).bind _ = _
                rw [if_pos rfl, fails_F F, bS, if51_F F hn (by omega), bS]
              · intro h4 T4 C3 c4 ok4 hT4
                apply Jn.take c4 Z hN hx hn hT4 (s := 35) (k := 12) (by decide) (by decide) rfl
                · intro x h5 e
                  show (if (1 : Int32) = 0 then _ else _) = _
                  rewrite [if_neg n10, e, bS]
                  exact rfl
                · intro z' g M g1 R e
                  show ((f_X12_eats n z' g (b + 72) 12).bind _).bind _ = _
                  rewrite [show f_X12_eats n z' g (b + 72) 12 = _ from e, bS]
                  show ((if (1 : Int32) = 0 then _ else _ : Option Hp)).bind _ = _
                  rewrite [if_neg n10]
                  exact rfl
                · intro z' g M g1 R e e2
                  show ((f_X12_eats n z' g (b + 72) 12).bind _).bind _ = _
                  rewrite [show f_X12_eats n z' g (b + 72) 12 = _ from e, bS]
                  show ((if (0 : Int32) = 0 then _ else _ : Option Hp)).bind _ = _
                  rewrite [if_pos rfl, e2, bS]
                  exact rfl
                · intro h5 fl pl F
                  obtain ⟨h6, e1, e2, e3⟩ := a143 (n := n) hw Z (i := i) F
                  exact ⟨h6, (if_pos rfl).trans e1, e2, e3⟩
                · intro z' g fl pl F
                  show (f_X12_readIf_51 n (rc_X12_readAtom n j).1 (rc_X12_readAtom n j).2.1 (rc_X12_readAtom n j).2.2.1 (rc_X12_readAtom n j).2.2.2.1 (rc_X12_readAtom n j).2.2.2.2.1 (rc_X12_readAtom n j).2.2.2.2.2.1 (rc_X12_readAtom n j).2.2.2.2.2.2 z' g (b + 72) (nI d)).bind _ = _
                  rw [if51_F F hn (by omega), bS]
                · intro h5 T5 c5 hT5
                  apply Jn.bind (P := P + C2.length + C3.length) (S hd6 i j (P + C2.length + C3.length) T5 (L ++ C2 ++ C3) h5 (by omega) (by omega) c5 (by rw [List.length_append, List.length_append]; omega) (by omega)) (Nat.le_refl _)
                  · intro x h6 e
                    show (if (1 : Int32) = 0 then _ else _) = _
                    rewrite [if_neg n10, bS, e, bS]
                    exact rfl
                  · intro z' g M g1 R e
                    unfold f_X12_readIf_51 ckK
                    rewrite [if_pos R.K, bS, nI_1, e, bS]
                    exact rfl
                  · intro h6 fl pl F
                    obtain ⟨h7, e1, e2, e3⟩ := a143 (n := n) hw Z (i := i) F
                    exact ⟨h7, (if_pos rfl).trans e1, e2, e3⟩
                  · intro z' g fl pl F
                    show ((f_X12_eats n z' g (b + 72) 13).bind _).bind _ = _
                    rw [eats_F F, bS]
                    show ((if (0 : Int32) = 0 then _ else _ : Option Hp)).bind _ = _
                    rw [if_pos rfl, fails_F F, bS, if72_F F, bS]
                  · intro h6 T6 C4 c6 ok6 hT6
                    apply Jn.take c6 Z hN hx hn hT6 (s := 36) (k := 13) (by decide) (by decide) rfl
                    · intro x h7 e
                      show (if (1 : Int32) = 0 then _ else _) = _
                      rewrite [if_neg n10, e, bS]
                      exact rfl
                    · intro z' g M g1 R e
                      show ((f_X12_eats n z' g (b + 72) 13).bind _).bind _ = _
                      rewrite [show f_X12_eats n z' g (b + 72) 13 = _ from e, bS]
                      show ((if (1 : Int32) = 0 then _ else _ : Option Hp)).bind _ = _
                      rewrite [if_neg n10]
                      exact rfl
                    · intro z' g M g1 R e e2
                      show ((f_X12_eats n z' g (b + 72) 13).bind _).bind _ = _
                      rewrite [show f_X12_eats n z' g (b + 72) 13 = _ from e, bS]
                      show ((if (0 : Int32) = 0 then _ else _ : Option Hp)).bind _ = _
                      rewrite [if_pos rfl, e2, bS]
                      exact rfl
                    · intro h7 fl pl F
                      obtain ⟨h8, e1, e2, e3⟩ := a143 (n := n) hw Z (i := i) F
                      exact ⟨h8, (if_pos rfl).trans e1, e2, e3⟩
                    · intro z' g fl pl F
                      show (f_X12_readIf_72 n (rc_X12_readAtom n j).1 (rc_X12_readAtom n j).2.1 (rc_X12_readAtom n j).2.2.1 (rc_X12_readAtom n j).2.2.2.1 (rc_X12_readAtom n j).2.2.2.2.1 (rc_X12_readAtom n j).2.2.2.2.2.1 (rc_X12_readAtom n j).2.2.2.2.2.2 z' g (b + 72)).bind _ = _
                      rw [if72_F F, bS]
                    · intro h7 T7 c7 hT7
                      apply Jn.emit hw c7 Z hN (c := 3009) (x := -10) (by rw [List.length_append, List.length_append, List.length_append]; omega) (by omega) (by decide)
                      · intro h8 e
                        show (if (1 : Int32) = 0 then _ else _) = _
                        rewrite [if_neg n10]
                        unfold f_X6_readAtom_143
                        rewrite [e, bS]
                        exact rfl
                      · intro z' g M g1 R e
                        unfold f_X12_readIf_72
                        rewrite [show f_X12_codes z' g (b + 72) 3009 = some g1 from e, bS, bS]
                        exact rfl
                      · intro h8 c8
                        refine Jn.ret c8 (by omega) ?_ ?_ (fun z' g M R => rfl)
                        · exact gdN_if (ok2.mono (by omega)) (ok4.mono (by omega)) (ok6.mono (by omega)) (by omega)
                        · show (bz 1).bind _ = _
                          rw [bz_ok (x := 1) (Or.inr rfl), bS]
      · by_cases kf : fct w T.2.2.1 = 9
        · obtain ⟨h2, e1, e2, e3⟩ := wrong_c C Z hN (v := 2) (by decide) (by decide)
          have e1 : f_X6_wrong z h (b + 2) 2 = some (0, h2) := e1
          refine Or.inl ⟨h2, _, _, ?_, e2, e3, fun z' g M R hM => ?_⟩
          · rw [if_pos Z.2.2.1, gI_ok Z.2.2.1, bS, if_neg k1, is_n C Z hN hx hn (s := 23) (by decide) (by decide) k35, bS, if_pos rfl, is_n C Z hN hx hn (s := 25) (by decide) (by decide) k10, bS, if_pos rfl, fact_c C Z hN hx hn hw, bS, if_pos kf, if_pos rfl, e1, bS]
            show (bz 0).bind _ = _
            rw [bz_ok (x := 0) (Or.inl rfl), bS]
          · obtain ⟨g1, r1, r2, r3⟩ := fails_r R (v := 2) (by decide) (by decide)
            have r1 : f_X12_fails z' g (b + 72) 2 = some g1 := r1
            refine ⟨g1, ?_, r2, r3⟩
            dsimp only
            unfold f_X12_readAtom_66
            rw [if_pos R.K, is_rn R (k := 24) (by decide) k24, bS, if_pos rfl, gI_ok R.K, bS, R.2.2.1, if_pos (show nI 0 = 0 from rfl), gI_ok R.K, bS, R.2.2.2.2.2.1, wordOf_r R hw, bS, if_pos kf, if_pos rfl, is_rn R (k := 35) (by decide) k35, bS, if_pos rfl, is_rn R (k := 10) (by decide) k10, bS, if_pos rfl, r1, bS]
        · have f7 := fct_7 kf
          have fk := fct_ne kf
          refine Jn.tok C Z hN hx hn hw hL hP (by omega) (c := 1000 + fct w T.2.2.1) (x := (-11) - nI (fct w T.2.2.1)) (fc_e _ f7) ((gdN_fact (fct_lt kf)).mono (by omega)) (fun h1 h2 e1 e2 => ?_) (fun z' g M g1 g2 R e1 e2 => ?_)
          · rw [if_pos Z.2.2.1, gI_ok Z.2.2.1, bS, if_neg k1, is_n C Z hN hx hn (s := 23) (by decide) (by decide) k35, bS, if_pos rfl, is_n C Z hN hx hn (s := 25) (by decide) (by decide) k10, bS, if_pos rfl, fact_c C Z hN hx hn hw, bS, if_neg kf, if_neg (fc_m1 _ (by omega)), e1, bS, e2, bS]
          · rw [if_pos R.K, is_rn R (k := 24) (by decide) k24, bS, if_pos rfl, gI_ok R.K, bS, R.2.2.1, if_pos (show nI 0 = 0 from rfl), gI_ok R.K, bS, R.2.2.2.2.2.1, wordOf_r R hw, bS, if_neg kf, if_neg (fc_m1 _ (by omega)), bS, wordOf_r R hw, bS, if_neg kf, show (1000 : Int32) + nI (fct w T.2.2.1) = nI (1000 + fct w T.2.2.1) from nI_add 1000 _, e1, bS, e2, bS]
/-- all that can be read at a depth -/
theorem j_all (Z : ZC b z) (hN : N ≤ 900) (hx : ∀ j, tx j < 256) (hn : 400000 ≤ n) (hw : w < 2) : ∀ k d, d + k = 6 → JSum n b sv z tx N w d ∧ JUnit n b sv z tx N w d ∧ JTruth n b sv z tx N w d := by
  intro k
  induction k with
  | zero =>
    intro d hd
    have A : JAtom n b sv z tx N w d := j_Atom Z hN hx hn hw (by omega) (fun q => by omega) (fun q => by omega)
    have S := j_Sum Z hN hx hn hw (by omega) (j_Term Z hN hx hn hw (by omega) A)
    have U : JUnit n b sv z tx N w d := j_Unit Z hN hx hn hw (by omega) S (fun q => by omega) (fun q => by omega)
    exact ⟨S, U, j_Truth Z hN hx hn hw (by omega) (j_Both Z hN hx hn hw (by omega) U)⟩
  | succ k ih =>
    intro d hd
    obtain ⟨S1, U1, V1⟩ := ih (d + 1) (by omega)
    have A : JAtom n b sv z tx N w d := j_Atom Z hN hx hn hw (by omega) (fun _ => S1) (fun _ => V1)
    have S := j_Sum Z hN hx hn hw (by omega) (j_Term Z hN hx hn hw (by omega) A)
    have U : JUnit n b sv z tx N w d := j_Unit Z hN hx hn hw (by omega) S (fun _ => U1) (fun _ => V1)
    exact ⟨S, U, j_Truth Z hN hx hn hw (by omega) (j_Both Z hN hx hn hw (by omega) U)⟩
/-- a law is read alike -/
theorem sum_ok (Z : ZC b z) (hN : N ≤ 900) (hx : ∀ j, tx j < 256) (hn : 400000 ≤ n) (hw : w < 2) {P : Nat} {T : Tk} {L : List Nat} {h : Hp} (C : CS b sv z tx N w T L h) (hL : L.length ≤ P) (hP : P ≤ T.1) : Jn b sv z tx N w P T L h (gdN w 33) (f_X6_readSum n z h (b + 2) 0) (fun z' g => f_X12_readSum n z' g (b + 72) 0) :=
  (j_all Z hN hx hn hw 6 0 rfl).1 60 60 P T L h (by decide) (by decide) C hL hP
end
