/-! ===== town, 8: units and atoms ===== -/
section
variable {n b N w P : Nat} {sv : Nat → Nat} {z : Sh} {tx : Nat → Nat} {T : Tk} {L : List Nat} {h : Hp}
theorem is_ry {M : List Nat} {g : Hp} (C : RS b sv z tx N w T M g) {k : Nat} (hk : k < 50) (q : T.2.2.1 = k) : f_X12_is z g (b + 72) (OfNat.ofNat k) = some 1 := (is_r C hk).trans (by rw [if_pos q])
theorem is_rn {M : List Nat} {g : Hp} (C : RS b sv z tx N w T M g) {k : Nat} (hk : k < 50) (q : T.2.2.1 ≠ k) : f_X12_is z g (b + 72) (OfNat.ofNat k) = some 0 := (is_r C hk).trans (by rw [if_neg q])
theorem Jn.tok (C : CS b sv z tx N w T L h) (Z : ZC b z) (hN : N ≤ 900) (hx : ∀ j, tx j < 256) (hn : 400000 ≤ n) (hw : w < 2) (hL : L.length ≤ P) (hP : P ≤ T.1) (hk : T.2.2.1 ≠ 25) {c : Nat} {x : Int32} (hxx : x = iI (cC c)) {ok : List Nat → Prop} (ho : ok [c]) {cl : Option (Int32 × Hp)} {rf : Sh → Hp → Option Hp}
    (hcl : ∀ h1 h2, f_X6_emit z h (b + 2) x = some h1 → f_X6_next n z h1 (b + 2) = some h2 → cl = some (1, h2)) (hrf : ∀ z' g M g1 g2, RS b sv z' tx N w T M g → f_X12_codes z' g (b + 72) (nI c) = some g1 → f_X12_next n z' g1 (b + 72) = some g2 → rf z' g = some g2) : Jn b sv z tx N w P T L h ok cl rf := by
  have hT := tkT C.tk
  have hT2 := hT.2.2.1 hk
  have g1 := tkG C.tk hk
  obtain ⟨h1, e1, e2, e3⟩ := emit_C hw C Z (c := c) (by omega) hxx
  obtain ⟨h2, f1, f2, f3⟩ := next_C e3 Z hN hx hn
  refine Or.inr ⟨h2, _, [c], hcl _ _ e1 f1, e2.tr f2, f3, ho, by show P + 1 ≤ _; omega, fun z' g M R hM => ?_⟩
  obtain ⟨g1, r1, r2, r3⟩ := codes_r R (c := c) (by omega)
  obtain ⟨g2, t1, t2, t3⟩ := next_R r3 hN hx hn
  exact ⟨g2, hrf _ _ _ _ _ R r1 t1, r2.tr t2, t3⟩
theorem u32 (hw : w < 2) (Z : ZC b z) {i fl pl : Nat} {h1 : Hp} (F : CF b w fl pl h1) : ∃ h2, f_X6_readUnit_31 n (rc_X6_readSum n i).1 (rc_X6_readSum n i).2.1 (rc_X6_readSum n i).2.2.1 (rc_X6_readSum n i).2.2.2.1 (rc_X6_readSum n i).2.2.2.2.1 (rc_X6_readSum n i).2.2.2.2.2 z h1 (b + 2) = some (0, h2) ∧ Fc b h1 h2 ∧ CF b w fl pl h2 := by
  obtain ⟨h3, e1, e2, e3⟩ := emit_F hw F Z (-9)
  refine ⟨h3, ?_, e2, e3⟩
  unfold f_X6_readUnit_31 f_X6_readUnit_32
  rw [e1, bS, bz_ok (x := 0) (Or.inl rfl), bS]
theorem a143 (hw : w < 2) (Z : ZC b z) {i fl pl : Nat} {h1 : Hp} (F : CF b w fl pl h1) : ∃ h2, f_X6_readAtom_142 n (rc_X6_readSum n i).1 (rc_X6_readSum n i).2.1 (rc_X6_readSum n i).2.2.1 (rc_X6_readSum n i).2.2.2.1 (rc_X6_readSum n i).2.2.2.2.1 (rc_X6_readSum n i).2.2.2.2.2 z h1 (b + 2) = some (0, h2) ∧ Fc b h1 h2 ∧ CF b w fl pl h2 := by
  obtain ⟨h3, e1, e2, e3⟩ := emit_F hw F Z (-10)
  refine ⟨h3, ?_, e2, e3⟩
  unfold f_X6_readAtom_142 f_X6_readAtom_143
  rw [e1, bS, bz_ok (x := 0) (Or.inl rfl), bS]
theorem if72_F {z' : Sh} {j fl pl : Nat} {g : Hp} (F : RF b z' fl pl g) : f_X12_readIf_72 n (rc_X12_readAtom n j).1 (rc_X12_readAtom n j).2.1 (rc_X12_readAtom n j).2.2.1 (rc_X12_readAtom n j).2.2.2.1 (rc_X12_readAtom n j).2.2.2.2.1 (rc_X12_readAtom n j).2.2.2.2.2.1 (rc_X12_readAtom n j).2.2.2.2.2.2 z' g (b + 72) = some g := by
  unfold f_X12_readIf_72
  rw [codes_F F, bS]
theorem if51_F {z' : Sh} {j fl pl : Nat} {g : Hp} (F : RF b z' fl pl g) (hn : 400000 ≤ n) (hj : 3 ≤ j) {x : Int32} : f_X12_readIf_51 n (rc_X12_readAtom n j).1 (rc_X12_readAtom n j).2.1 (rc_X12_readAtom n j).2.2.1 (rc_X12_readAtom n j).2.2.2.1 (rc_X12_readAtom n j).2.2.2.2.1 (rc_X12_readAtom n j).2.2.2.2.2.1 (rc_X12_readAtom n j).2.2.2.2.2.2 z' g (b + 72) x = some g := by
  obtain ⟨j, rfl⟩ : ∃ k, j = k + 3 := ⟨j - 3, by omega⟩
  unfold f_X12_readIf_51 ckK
  rw [if_pos F.K, bS, sum_F F hn, bS, eats_F F, bS]
  show (if (0 : Int32) = 0 then _ else _) = _
  rw [if_pos rfl, fails_F F, bS]
  exact if72_F F
theorem if30_F {z' : Sh} {j fl pl : Nat} {g : Hp} (F : RF b z' fl pl g) (hn : 400000 ≤ n) (hj : 3 ≤ j) {x : Int32} : f_X12_readIf_30 n (rc_X12_readAtom n j).1 (rc_X12_readAtom n j).2.1 (rc_X12_readAtom n j).2.2.1 (rc_X12_readAtom n j).2.2.2.1 (rc_X12_readAtom n j).2.2.2.2.1 (rc_X12_readAtom n j).2.2.2.2.2.1 (rc_X12_readAtom n j).2.2.2.2.2.2 z' g (b + 72) x = some g := by
  obtain ⟨j, rfl⟩ : ∃ k, j = k + 3 := ⟨j - 3, by omega⟩
  unfold f_X12_readIf_30 ckK
  rw [if_pos F.K, bS, sum_F F hn, bS, eats_F F, bS]
  show (if (0 : Int32) = 0 then _ else _) = _
  rw [if_pos rfl, fails_F F, bS]
  exact if51_F F hn hj
theorem un151_F {z' : Sh} {j fl pl : Nat} {g : Hp} (F : RF b z' fl pl g) (hn : 400000 ≤ n) (hj : 3 ≤ j) {x y : Int32} : f_X12_readUnit_151 n (rc_X12_readAtom n j).1 (rc_X12_readAtom n j).2.1 (rc_X12_readAtom n j).2.2.1 (rc_X12_readAtom n j).2.2.2.1 (rc_X12_readAtom n j).2.2.2.2.1 (rc_X12_readAtom n j).2.2.2.2.2.1 (rc_X12_readAtom n j).2.2.2.2.2.2 z' g (b + 72) x y = some g := by
  obtain ⟨j, rfl⟩ : ∃ k, j = k + 3 := ⟨j - 3, by omega⟩
  unfold f_X12_readUnit_151 ckK
  rw [if_pos F.K, bS, sum_F F hn, bS, codes_F F, bS]
theorem un111_F {z' : Sh} {j fl pl : Nat} {g : Hp} (F : RF b z' fl pl g) (hn : 400000 ≤ n) (hj : 3 ≤ j) {x y : Int32} : f_X12_readUnit_111 n (rc_X12_readAtom n j).1 (rc_X12_readAtom n j).2.1 (rc_X12_readAtom n j).2.2.1 (rc_X12_readAtom n j).2.2.2.1 (rc_X12_readAtom n j).2.2.2.2.1 (rc_X12_readAtom n j).2.2.2.2.2.1 (rc_X12_readAtom n j).2.2.2.2.2.2 z' g (b + 72) x y = some g := by
  unfold f_X12_readUnit_111
  rw [is_F F, bS, if_pos rfl, is_F F, bS, if_pos rfl, is_F F, bS, if_pos rfl, fails_F F, bS]
  exact un151_F F hn hj
end
section
variable {n b N w : Nat} {sv : Nat → Nat} {z : Sh} {tx : Nat → Nat}
set_option maxHeartbeats 4000000 in
theorem j_Unit (Z : ZC b z) (hN : N ≤ 900) (hx : ∀ j, tx j < 256) (hn : 400000 ≤ n) (hw : w < 2) {d : Nat} (hd : d ≤ 6) (S : JSum n b sv z tx N w d) (U : d < 6 → JUnit n b sv z tx N w (d + 1)) (V : d < 6 → JTruth n b sv z tx N w (d + 1)) : JUnit n b sv z tx N w d := by
  intro i j P T L h hi hj C hL hP
  obtain ⟨i, rfl⟩ : ∃ k, i = k + 1 := ⟨i - 1, by omega⟩
  obtain ⟨j, rfl⟩ : ∃ k, j = k + 1 := ⟨j - 1, by omega⟩
  have n10 : ¬ ((1 : Int32) = 0) := by decide
  show Jn b sv z tx N w P T L h _ (F_X6_readUnit n (rc_X6_readSum n i).1 (rc_X6_readSum n i).2.1 (rc_X6_readSum n i).2.2.1 (rc_X6_readSum n i).2.2.2.1 (rc_X6_readSum n i).2.2.2.2.1 (rc_X6_readSum n i).2.2.2.2.2 z h (b + 2) (nI d)) (fun z' g => F_X12_readUnit n (rc_X12_readAtom n j).1 (rc_X12_readAtom n j).2.1 (rc_X12_readAtom n j).2.2.1 (rc_X12_readAtom n j).2.2.2.1 (rc_X12_readAtom n j).2.2.2.2.1 (rc_X12_readAtom n j).2.2.2.2.2.1 (rc_X12_readAtom n j).2.2.2.2.2.2 z' g (b + 72) (nI d))
  unfold F_X6_readUnit F_X12_readUnit ckK
  by_cases k22 : T.2.2.1 = 22
  · apply Jn.deep C Z hN hx hn hP (by omega) hd
    · intro x h1 e
      rewrite [if_pos Z.2.2.1, is_y C Z hN hx hn (s := 26) (by decide) (by decide) k22, bS, if_neg n10, e, bS]
      exact rfl
    · intro z' g M g1 R e
      rewrite [if_pos R.K, is_ry R (k := 22) (by decide) k22, bS, if_neg n10, e, bS]
      exact if_pos rfl
    · intro z' g M g1 R e
      rewrite [if_pos R.K, is_ry R (k := 22) (by decide) k22, bS, if_neg n10, e, bS]
      show (if (1 : Int32) = 0 then _ else _) = _
      rewrite [if_neg n10, if_pos R.K, bS]
      exact rfl
    · intro h1 fl pl F
      obtain ⟨h2, e1, e2, e3⟩ := u32 (n := n) hw Z (i := i) F
      exact ⟨h2, (if_pos rfl).trans e1, e2, e3⟩
    · intro hd6 h1 T1 c1 hT1
      apply Jn.bind (P := P) (U hd6 i j T1.1 T1 L h1 (by omega) (by omega) c1 (by omega) (Nat.le_refl _)) (by omega)
      · intro x h2 e
        show (if (1 : Int32) = 0 then _ else _) = _
        rewrite [if_neg n10, if_pos Z.2.2.1, bS, nI_1, e, bS]
        exact rfl
      · intro z' g M g1 R e
        rewrite [nI_1, e, bS]
        exact rfl
      · intro h2 fl pl F
        obtain ⟨h3, e1, e2, e3⟩ := u32 (n := n) hw Z (i := i) F
        exact ⟨h3, (if_pos rfl).trans e1, e2, e3⟩
      · intro z' g fl pl F
        show (f_X12_codes z' g (b + 72) 3006).bind _ = _
        rw [codes_F F, bS]
      · intro h2 T2 C2 c2 ok2 hT2
        apply Jn.emit hw c2 Z hN (c := 3006) (x := -9) (by rw [List.length_append]; omega) (by omega) (by decide)
        · intro h3 e
          show (if (1 : Int32) = 0 then _ else _) = _
          rewrite [if_neg n10]
          unfold f_X6_readUnit_32
          rewrite [e, bS]
          exact rfl
        · intro z' g M g1 R e
          show (f_X12_codes z' g (b + 72) 3006).bind _ = _
          rewrite [show f_X12_codes z' g (b + 72) 3006 = some g1 from e, bS]
          exact rfl
        · intro h3 c3
          refine Jn.ret c3 (by omega) ?_ ?_ (fun z' g M R => rfl)
          · exact (gdT_not ok2).mono (by omega)
          · show (bz 1).bind _ = _
            rw [bz_ok (x := 1) (Or.inr rfl), bS]
  · by_cases k37 : T.2.2.1 = 37
    · apply Jn.deep C Z hN hx hn hP (by omega) hd
      · intro x h1 e
        rewrite [if_pos Z.2.2.1, is_n C Z hN hx hn (s := 26) (by decide) (by decide) k22, bS, if_pos rfl, is_y C Z hN hx hn (s := 27) (by decide) (by decide) k37, bS, if_neg n10, e, bS]
        exact rfl
      · intro z' g M g1 R e
        rewrite [if_pos R.K, is_rn R (k := 22) (by decide) k22, bS, if_pos rfl, is_ry R (k := 37) (by decide) k37, bS, if_neg n10, e, bS]
        exact if_pos rfl
      · intro z' g M g1 R e
        rewrite [if_pos R.K, is_rn R (k := 22) (by decide) k22, bS, if_pos rfl, is_ry R (k := 37) (by decide) k37, bS, if_neg n10, e, bS]
        show (if (1 : Int32) = 0 then _ else _) = _
        rewrite [if_neg n10, if_pos R.K, bS]
        exact rfl
      · intro h1 fl pl F
        exact ⟨h1, if_pos rfl, Fc.rf, F⟩
      · intro hd6 h1 T1 c1 hT1
        apply Jn.bind (P := P) (V hd6 i j P T1 L h1 (by omega) (by omega) c1 (by omega) (by omega)) (Nat.le_refl _)
        · intro x h2 e
          show (if (1 : Int32) = 0 then _ else _) = _
          rewrite [if_neg n10, if_pos Z.2.2.1, bS, nI_1, e, bS]
          exact rfl
        · intro z' g M g1 R e
          rewrite [nI_1, e, bS]
          exact rfl
        · intro h2 fl pl F
          exact ⟨h2, if_pos rfl, Fc.rf, F⟩
        · intro z' g fl pl F
          show (f_X12_eats n z' g (b + 72) 38).bind _ = _
          rw [eats_F F, bS]
          show (if (0 : Int32) = 0 then _ else _) = _
          rw [if_pos rfl, fails_F F, bS]
        · intro h2 T2 C2 c2 ok2 hT2
          apply Jn.take c2 Z hN hx hn hT2 (s := 28) (k := 38) (by decide) (by decide) rfl
          · intro x h3 e
            show (if (1 : Int32) = 0 then _ else _) = _
            rewrite [if_neg n10, e, bS]
            exact rfl
          · intro z' g M g1 R e
            show (f_X12_eats n z' g (b + 72) 38).bind _ = _
            rewrite [show f_X12_eats n z' g (b + 72) 38 = _ from e, bS]
            show (if (1 : Int32) = 0 then _ else _) = _
            rewrite [if_neg n10]
            exact rfl
          · intro z' g M g1 R e e2
            show (f_X12_eats n z' g (b + 72) 38).bind _ = _
            rewrite [show f_X12_eats n z' g (b + 72) 38 = _ from e, bS]
            show (if (0 : Int32) = 0 then _ else _) = _
            rewrite [if_pos rfl, e2, bS]
            exact rfl
          · intro h3 fl pl F
            exact ⟨h3, if_pos rfl, Fc.rf, F⟩
          · intro z' g fl pl F
            exact rfl
          · intro h3 T3 c3 hT3
            refine Jn.ret c3 (by omega) ?_ (if_neg n10) (fun z' g M R => rfl)
            show gdT w _ (C2 ++ [])
            rw [List.append_nil]
            exact ok2.mono (by omega)
    · apply Jn.bind (P := P) (S i j P T L h (by omega) (by omega) C hL hP) (Nat.le_refl _)
      · intro x h1 e
        rewrite [if_pos Z.2.2.1, is_n C Z hN hx hn (s := 26) (by decide) (by decide) k22, bS, if_pos rfl, is_n C Z hN hx hn (s := 27) (by decide) (by decide) k37, bS, if_pos rfl, if_pos Z.2.2.1, bS, e, bS]
        exact rfl
      · intro z' g M g1 R e
        rewrite [if_pos R.K, is_rn R (k := 22) (by decide) k22, bS, if_pos rfl, is_rn R (k := 37) (by decide) k37, bS, if_pos rfl, if_pos R.K, bS, e, bS]
        exact rfl
      · intro h1 fl pl F
        exact ⟨h1, if_pos rfl, Fc.rf, F⟩
      · intro z' g fl pl F
        show (f_X12_is z' g (b + 72) 39).bind _ = _
        rw [is_F F, bS, if_pos rfl, is_F F, bS, if_pos rfl]
        exact un111_F F hn (by omega)
      · intro h1 T1 C1 c1 ok1 hT1
        by_cases k39 : T1.2.2.1 = 39
        · apply Jn.next c1 Z hN hx hn hT1 (by omega)
          · intro h2 e
            show (if (1 : Int32) = 0 then _ else _) = _
            rewrite [if_neg n10, is_y c1 Z hN hx hn (s := 29) (by decide) (by decide) k39, bS, if_neg n10]
            unfold f_X6_readUnit_123 f_X6_readUnit_145 ckK
            rewrite [if_neg (show ¬ ((-4 : Int32) = -6) by decide), e, bS, if_pos Z.2.2.1, bS]
            exact rfl
          · intro z' g M g1 R e
            show (f_X12_is z' g (b + 72) 39).bind _ = _
            rewrite [is_ry R (k := 39) (by decide) k39, bS, if_neg n10]
            unfold f_X12_readUnit_111 f_X12_readUnit_139 f_X12_readUnit_151 ckK
            rewrite [is_ry R (k := 39) (by decide) k39, bS, if_neg n10, e, bS, if_pos R.K, bS]
            exact rfl
          · intro h2 T2 c2 hT2
            apply Jn.bind (P := P + C1.length) (S i j T2.1 T2 (L ++ C1) h2 (by omega) (by omega) c2 (by rw [List.length_append]; omega) (Nat.le_refl _)) (by omega)
            · intro x h3 e
              rewrite [e, bS]
              exact rfl
            · intro z' g M g1 R e
              rewrite [e, bS]
              exact rfl
            · intro h3 fl pl F
              obtain ⟨h4, e1, e2, e3⟩ := emit_F hw F Z (-4)
              refine ⟨h4, ?_, e2, e3⟩
              show (f_X6_emit z h3 (b + 2) (-4)).bind _ = _
              rw [e1, bS]
              show (bz 0).bind _ = _
              rw [bz_ok (x := 0) (Or.inl rfl), bS]
            · intro z' g fl pl F
              show (f_X12_codes z' g (b + 72) 3003).bind _ = _
              rw [codes_F F, bS]
            · intro h3 T3 C2 c3 ok3 hT3
              apply Jn.emit hw c3 Z hN (c := 3003) (x := -4) (by rw [List.length_append, List.length_append]; omega) (by omega) (by decide)
              · intro h4 e
                show (f_X6_emit z h3 (b + 2) (-4)).bind _ = _
                rewrite [e, bS]
                exact rfl
              · intro z' g M g1 R e
                show (f_X12_codes z' g (b + 72) 3003).bind _ = _
                rewrite [show f_X12_codes z' g (b + 72) 3003 = some g1 from e, bS]
                exact rfl
              · intro h4 c4
                refine Jn.ret c4 (by omega) ?_ ?_ (fun z' g M R => rfl)
                · exact gdT_cmp (ok1.mono (by omega)) (ok3.mono (by omega)) (by omega) (by omega)
                · show (bz 1).bind _ = _
                  rw [bz_ok (x := 1) (Or.inr rfl), bS]
        · by_cases k40 : T1.2.2.1 = 40
          · apply Jn.next c1 Z hN hx hn hT1 (by omega)
            · intro h2 e
              show (if (1 : Int32) = 0 then _ else _) = _
              rewrite [if_neg n10, is_n c1 Z hN hx hn (s := 29) (by decide) (by decide) k39, bS, if_pos rfl, is_y c1 Z hN hx hn (s := 30) (by decide) (by decide) k40, bS, if_neg n10]
              unfold f_X6_readUnit_123 f_X6_readUnit_145 ckK
              rewrite [if_neg (show ¬ ((-5 : Int32) = -6) by decide), e, bS, if_pos Z.2.2.1, bS]
              exact rfl
            · intro z' g M g1 R e
              show (f_X12_is z' g (b + 72) 39).bind _ = _
              rewrite [is_rn R (k := 39) (by decide) k39, bS, if_pos rfl, is_ry R (k := 40) (by decide) k40, bS, if_neg n10]
              unfold f_X12_readUnit_111 f_X12_readUnit_139 f_X12_readUnit_151 ckK
              rewrite [is_rn R (k := 39) (by decide) k39, bS, if_pos rfl, is_ry R (k := 40) (by decide) k40, bS, if_neg n10, e, bS, if_pos R.K, bS]
              exact rfl
            · intro h2 T2 c2 hT2
              apply Jn.bind (P := P + C1.length) (S i j T2.1 T2 (L ++ C1) h2 (by omega) (by omega) c2 (by rw [List.length_append]; omega) (Nat.le_refl _)) (by omega)
              · intro x h3 e
                rewrite [e, bS]
                exact rfl
              · intro z' g M g1 R e
                rewrite [e, bS]
                exact rfl
              · intro h3 fl pl F
                obtain ⟨h4, e1, e2, e3⟩ := emit_F hw F Z (-5)
                refine ⟨h4, ?_, e2, e3⟩
                show (f_X6_emit z h3 (b + 2) (-5)).bind _ = _
                rw [e1, bS]
                show (bz 0).bind _ = _
                rw [bz_ok (x := 0) (Or.inl rfl), bS]
              · intro z' g fl pl F
                show (f_X12_codes z' g (b + 72) 3004).bind _ = _
                rw [codes_F F, bS]
              · intro h3 T3 C2 c3 ok3 hT3
                apply Jn.emit hw c3 Z hN (c := 3004) (x := -5) (by rw [List.length_append, List.length_append]; omega) (by omega) (by decide)
                · intro h4 e
                  show (f_X6_emit z h3 (b + 2) (-5)).bind _ = _
                  rewrite [e, bS]
                  exact rfl
                · intro z' g M g1 R e
                  show (f_X12_codes z' g (b + 72) 3004).bind _ = _
                  rewrite [show f_X12_codes z' g (b + 72) 3004 = some g1 from e, bS]
                  exact rfl
                · intro h4 c4
                  refine Jn.ret c4 (by omega) ?_ ?_ (fun z' g M R => rfl)
                  · exact gdT_cmp (ok1.mono (by omega)) (ok3.mono (by omega)) (by omega) (by omega)
                  · show (bz 1).bind _ = _
                    rw [bz_ok (x := 1) (Or.inr rfl), bS]
          · by_cases k41 : T1.2.2.1 = 41
            · apply Jn.next c1 Z hN hx hn hT1 (by omega)
              · intro h2 e
                show (if (1 : Int32) = 0 then _ else _) = _
                rewrite [if_neg n10, is_n c1 Z hN hx hn (s := 29) (by decide) (by decide) k39, bS, if_pos rfl, is_n c1 Z hN hx hn (s := 30) (by decide) (by decide) k40, bS, if_pos rfl]
                unfold f_X6_readUnit_123 f_X6_readUnit_145 ckK
                rewrite [if_pos rfl, is_y c1 Z hN hx hn (s := 31) (by decide) (by decide) k41, bS, if_neg n10, e, bS, if_pos Z.2.2.1, bS]
                exact rfl
              · intro z' g M g1 R e
                show (f_X12_is z' g (b + 72) 39).bind _ = _
                rewrite [is_rn R (k := 39) (by decide) k39, bS, if_pos rfl, is_rn R (k := 40) (by decide) k40, bS, if_pos rfl]
                unfold f_X12_readUnit_111 f_X12_readUnit_139 f_X12_readUnit_151 ckK
                rewrite [is_rn R (k := 39) (by decide) k39, bS, if_pos rfl, is_rn R (k := 40) (by decide) k40, bS, if_pos rfl, is_ry R (k := 41) (by decide) k41, bS, if_neg n10, e, bS, if_pos R.K, bS]
                exact rfl
              · intro h2 T2 c2 hT2
                apply Jn.bind (P := P + C1.length) (S i j T2.1 T2 (L ++ C1) h2 (by omega) (by omega) c2 (by rw [List.length_append]; omega) (Nat.le_refl _)) (by omega)
                · intro x h3 e
                  rewrite [e, bS]
                  exact rfl
                · intro z' g M g1 R e
                  rewrite [e, bS]
                  exact rfl
                · intro h3 fl pl F
                  obtain ⟨h4, e1, e2, e3⟩ := emit_F hw F Z (-6)
                  refine ⟨h4, ?_, e2, e3⟩
                  show (f_X6_emit z h3 (b + 2) (-6)).bind _ = _
                  rw [e1, bS]
                  show (bz 0).bind _ = _
                  rw [bz_ok (x := 0) (Or.inl rfl), bS]
                · intro z' g fl pl F
                  show (f_X12_codes z' g (b + 72) 3005).bind _ = _
                  rw [codes_F F, bS]
                · intro h3 T3 C2 c3 ok3 hT3
                  apply Jn.emit hw c3 Z hN (c := 3005) (x := -6) (by rw [List.length_append, List.length_append]; omega) (by omega) (by decide)
                  · intro h4 e
                    show (f_X6_emit z h3 (b + 2) (-6)).bind _ = _
                    rewrite [e, bS]
                    exact rfl
                  · intro z' g M g1 R e
                    show (f_X12_codes z' g (b + 72) 3005).bind _ = _
                    rewrite [show f_X12_codes z' g (b + 72) 3005 = some g1 from e, bS]
                    exact rfl
                  · intro h4 c4
                    refine Jn.ret c4 (by omega) ?_ ?_ (fun z' g M R => rfl)
                    · exact gdT_cmp (ok1.mono (by omega)) (ok3.mono (by omega)) (by omega) (by omega)
                    · show (bz 1).bind _ = _
                      rw [bz_ok (x := 1) (Or.inr rfl), bS]
            · obtain ⟨h2, e1, e2, e3⟩ := wrong_c c1 Z hN (v := 2) (by decide) (by decide)
              have e1 : f_X6_wrong z h1 (b + 2) 2 = some (0, h2) := e1
              refine Or.inl ⟨h2, _, _, ?_, e2, e3, fun z' g M R hM => ?_⟩
              · show (if (1 : Int32) = 0 then _ else _) = _
                rw [if_neg n10, is_n c1 Z hN hx hn (s := 29) (by decide) (by decide) k39, bS, if_pos rfl, is_n c1 Z hN hx hn (s := 30) (by decide) (by decide) k40, bS, if_pos rfl]
                unfold f_X6_readUnit_123
                rw [if_pos rfl, is_n c1 Z hN hx hn (s := 31) (by decide) (by decide) k41, bS, if_pos rfl, e1, bS]
                show (bz 0).bind _ = _
                rw [bz_ok (x := 0) (Or.inl rfl), bS]
              · obtain ⟨g1, r1, r2, r3⟩ := fails_r R (v := 2) (by decide) (by decide)
                have r1 : f_X12_fails z' g (b + 72) 2 = some g1 := r1
                refine ⟨g1, ?_, r2, r3⟩
                show (f_X12_is z' g (b + 72) 39).bind _ = _
                rw [is_rn R (k := 39) (by decide) k39, bS, if_pos rfl, is_rn R (k := 40) (by decide) k40, bS, if_pos rfl]
                unfold f_X12_readUnit_111
                rw [is_rn R (k := 39) (by decide) k39, bS, if_pos rfl, is_rn R (k := 40) (by decide) k40, bS, if_pos rfl, is_rn R (k := 41) (by decide) k41, bS, if_pos rfl, r1, bS]
                exact un151_F r3 hn (by omega)
end
