/-! ===== town, 7: the laws are read alike ===== -/
def JAtom (n b : Nat) (sv : Nat → Nat) (z : Sh) (tx : Nat → Nat) (N w d : Nat) : Prop := ∀ i j P T L h, 6 * (6 - d) + 1 ≤ i → 7 * (6 - d) + 2 ≤ j → CS b sv z tx N w T L h → L.length ≤ P → P ≤ T.1 → Jn b sv z tx N w P T L h (gdN w (1 + 5 * (6 - d))) ((rc_X6_readSum n i).2.2.1 z h (b + 2) (nI d)) (fun z' g => (rc_X12_readAtom n j).1 z' g (b + 72) (nI d))
def JTerm (n b : Nat) (sv : Nat → Nat) (z : Sh) (tx : Nat → Nat) (N w d : Nat) : Prop := ∀ i j P T L h, 6 * (6 - d) + 2 ≤ i → 7 * (6 - d) + 3 ≤ j → CS b sv z tx N w T L h → L.length ≤ P → P ≤ T.1 → Jn b sv z tx N w P T L h (gdN w (2 + 5 * (6 - d))) ((rc_X6_readSum n i).2.1 z h (b + 2) (nI d)) (fun z' g => (rc_X12_readAtom n j).2.2.1 z' g (b + 72) (nI d))
def JSum (n b : Nat) (sv : Nat → Nat) (z : Sh) (tx : Nat → Nat) (N w d : Nat) : Prop := ∀ i j P T L h, 6 * (6 - d) + 3 ≤ i → 7 * (6 - d) + 4 ≤ j → CS b sv z tx N w T L h → L.length ≤ P → P ≤ T.1 → Jn b sv z tx N w P T L h (gdN w (3 + 5 * (6 - d))) ((rc_X6_readSum n i).1 z h (b + 2) (nI d)) (fun z' g => (rc_X12_readAtom n j).2.2.2.1 z' g (b + 72) (nI d))
def JUnit (n b : Nat) (sv : Nat → Nat) (z : Sh) (tx : Nat → Nat) (N w d : Nat) : Prop := ∀ i j P T L h, 6 * (6 - d) + 4 ≤ i → 7 * (6 - d) + 5 ≤ j → CS b sv z tx N w T L h → L.length ≤ P → P ≤ T.1 → Jn b sv z tx N w P T L h (gdT w (4 + 5 * (6 - d))) ((rc_X6_readSum n i).2.2.2.2.2 z h (b + 2) (nI d)) (fun z' g => (rc_X12_readAtom n j).2.2.2.2.1 z' g (b + 72) (nI d))
def JBoth (n b : Nat) (sv : Nat → Nat) (z : Sh) (tx : Nat → Nat) (N w d : Nat) : Prop := ∀ i j P T L h, 6 * (6 - d) + 5 ≤ i → 7 * (6 - d) + 6 ≤ j → CS b sv z tx N w T L h → L.length ≤ P → P ≤ T.1 → Jn b sv z tx N w P T L h (gdT w (5 + 5 * (6 - d))) ((rc_X6_readSum n i).2.2.2.2.1 z h (b + 2) (nI d)) (fun z' g => (rc_X12_readAtom n j).2.2.2.2.2.1 z' g (b + 72) (nI d))
def JTruth (n b : Nat) (sv : Nat → Nat) (z : Sh) (tx : Nat → Nat) (N w d : Nat) : Prop := ∀ i j P T L h, 6 * (6 - d) + 6 ≤ i → 7 * (6 - d) + 7 ≤ j → CS b sv z tx N w T L h → L.length ≤ P → P ≤ T.1 → Jn b sv z tx N w P T L h (gdT w (6 + 5 * (6 - d))) ((rc_X6_readSum n i).2.2.2.1 z h (b + 2) (nI d)) (fun z' g => (rc_X12_readAtom n j).2.2.2.2.2.2 z' g (b + 72) (nI d))
section
variable {n b N w : Nat} {sv : Nat → Nat} {z : Sh} {tx : Nat → Nat}
theorem lf_Term (Z : ZC b z) {i fi : Nat} {h : Hp} {x y : Int32} : f_X6_readTerm_8 n (rc_X6_readSum n i).1 (rc_X6_readSum n i).2.1 (rc_X6_readSum n i).2.2.1 (rc_X6_readSum n i).2.2.2.1 (rc_X6_readSum n i).2.2.2.2.1 (rc_X6_readSum n i).2.2.2.2.2 z (fi + 1) h (b + 2) x 0 y = some (0, h) := by
  rw [f_X6_readTerm_8.eq_2, gI_ok Z.2.2.1, bS]
  split
  · rw [bz_ok (x := 0) (Or.inl rfl), bS]
  · rw [if_pos rfl, bz_ok (x := 0) (Or.inl rfl), bS]
theorem lr_Term {j fj fl pl : Nat} {z' : Sh} {g : Hp} {x : Int32} (C : RF b z' fl pl g) : f_X12_readTerm_5 n (rc_X12_readAtom n j).1 (rc_X12_readAtom n j).2.1 (rc_X12_readAtom n j).2.2.1 (rc_X12_readAtom n j).2.2.2.1 (rc_X12_readAtom n j).2.2.2.2.1 (rc_X12_readAtom n j).2.2.2.2.2.1 (rc_X12_readAtom n j).2.2.2.2.2.2 z' (fj + 1) g (b + 72) x = some g := by
  rw [f_X12_readTerm_5.eq_2, eats_F C, bS]
  rfl
theorem lp_Term (Z : ZC b z) (hN : N ≤ 900) (hx : ∀ j, tx j < 256) (hn : 400000 ≤ n) (hw : w < 2) {d : Nat} (hd : d ≤ 6) (A : JAtom n b sv z tx N w d) {i j : Nat} (hi : 6 * (6 - d) + 1 ≤ i) (hj : 7 * (6 - d) + 2 ≤ j) : ∀ m fi fj P T L h C0 p, N - T.1 < m → m < fi → m < fj → CS b sv z tx N w T L h → L.length ≤ P → P ≤ T.1 → p ≤ T.1 → gdN w (2 + 5 * (6 - d)) C0 → Jn b sv z tx N w P T L h (fun C => gdN w (2 + 5 * (6 - d)) (C0 ++ C)) (f_X6_readTerm_8 n (rc_X6_readSum n i).1 (rc_X6_readSum n i).2.1 (rc_X6_readSum n i).2.2.1 (rc_X6_readSum n i).2.2.2.1 (rc_X6_readSum n i).2.2.2.2.1 (rc_X6_readSum n i).2.2.2.2.2 z fi h (b + 2) (nI d) 1 (nI p)) (fun z' g => f_X12_readTerm_5 n (rc_X12_readAtom n j).1 (rc_X12_readAtom n j).2.1 (rc_X12_readAtom n j).2.2.1 (rc_X12_readAtom n j).2.2.2.1 (rc_X12_readAtom n j).2.2.2.2.1 (rc_X12_readAtom n j).2.2.2.2.2.1 (rc_X12_readAtom n j).2.2.2.2.2.2 z' fj g (b + 72) (nI d)) := by
  intro m
  induction m with
  | zero =>
    intro fi fj P T L h C0 p h1
    omega
  | succ m ih =>
    intro fi fj P T L h C0 p h1 h2 h3 C hL hP hp hC0
    obtain ⟨fi, rfl⟩ : ∃ k, fi = k + 2 := ⟨fi - 2, by omega⟩
    obtain ⟨fj, rfl⟩ : ∃ k, fj = k + 2 := ⟨fj - 2, by omega⟩
    have hT := tkT C.tk
    have c3 := C.1.2.2.1
    have n10 : ¬ ((1 : Int32) = 0) := by decide
    by_cases k34 : T.2.2.1 = 34
    · have hp2 : ¬ (nI N ≤ nI p) := fun w => by
        have w := (nI_leI (by omega) (by omega)).mp w
        have := hT.2.2.1 (by omega)
        omega
      apply Jn.next C Z hN hx hn hP (by omega)
      · intro h1 e
        rewrite [f_X6_readTerm_8.eq_2, gI_ok Z.2.2.1, bS, c3, if_neg hp2, if_neg n10, is_y C Z hN hx hn (s := 43) (by decide) (by decide) k34, bS, if_neg n10, e, bS]
        unfold ckK
        rewrite [if_pos Z.2.2.1, bS]
        exact rfl
      · intro z' g M g1 R e
        have ee : f_X12_eats n z' g (b + 72) 34 = some (1, g1) := by
          unfold f_X12_eats
          rw [if_pos R.K, show f_X12_is z' g (b + 72) 34 = _ from is_r R (k := 34) (by decide), bS, if_pos k34, if_neg n10, e, bS]
        rewrite [f_X12_readTerm_5.eq_2, ee, bS]
        unfold ckK
        show (if (1 : Int32) = 0 then _ else _) = _
        rewrite [if_neg n10, if_pos R.K, bS]
        exact rfl
      · intro h1 T1 C1 hT1
        apply Jn.bind (P := P) (A i j T1.1 T1 L h1 hi hj C1 (by omega) (Nat.le_refl _)) (by omega)
        · intro x h2 e
          rewrite [e, bS]
          exact rfl
        · intro z' g M g1 R e
          rewrite [e, bS]
          exact rfl
        · intro h2 fl pl F
          obtain ⟨h3, e1, e2, e3⟩ := emit_F hw F Z (-3)
          refine ⟨h3, ?_, e2, e3⟩
          show (f_X6_emit z h2 (b + 2) (-3)).bind _ = _
          rw [e1, bS, bS]
          exact lf_Term Z
        · intro z' g fl pl F
          show (f_X12_codes z' g (b + 72) 3002).bind _ = _
          rw [codes_F F, bS]
          exact lr_Term F
        · intro h2 T2 C2 c2 ok2 hT2
          apply Jn.emit hw c2 Z hN (c := 3002) (x := -3) (by rw [List.length_append]; omega) (by omega) (by decide)
          · intro h3 e
            show (f_X6_emit z h2 (b + 2) (-3)).bind _ = _
            rewrite [e, bS, bS, nI_1]
            exact rfl
          · intro z' g M g1 R e
            show (f_X12_codes z' g (b + 72) 3002).bind _ = _
            rewrite [show f_X12_codes z' g (b + 72) 3002 = some g1 from e, bS]
            exact rfl
          · intro h3 c3
            refine (ih (fi + 1) (fj + 1) (P + C2.length + 1) T2 (L ++ C2 ++ [3002]) h3 (C0 ++ (C2 ++ [3002])) (p + 1) (by omega) (by omega) (by omega) c3 (by rw [List.length_append, List.length_append]; show L.length + C2.length + 1 ≤ _; omega) (by omega) (by omega) (gdN_bin hC0 (ok2.mono (by omega)) (by omega) (by omega))).ok (fun C' hC' => ?_)
            rw [List.append_assoc, List.append_assoc] at hC'
            exact hC'
    · refine Jn.ret C hP (by rw [List.append_nil]; exact hC0) ?_ (fun z' g M R => ?_)
      · rw [f_X6_readTerm_8.eq_2, gI_ok Z.2.2.1, bS]
        split
        · rw [bz_ok (x := 1) (Or.inr rfl), bS]
        · try rw [if_neg n10]
          rw [is_n C Z hN hx hn (s := 43) (by decide) (by decide) k34, bS, if_pos rfl, bz_ok (x := 1) (Or.inr rfl), bS]
      · rw [f_X12_readTerm_5.eq_2, show f_X12_eats n z' g (b + 72) 34 = _ from eats_f R (k := 34) (by decide) k34, bS]
        rfl
theorem j_Term (Z : ZC b z) (hN : N ≤ 900) (hx : ∀ j, tx j < 256) (hn : 400000 ≤ n) (hw : w < 2) {d : Nat} (hd : d ≤ 6) (A : JAtom n b sv z tx N w d) : JTerm n b sv z tx N w d := by
  intro i j P T L h hi hj C hL hP
  obtain ⟨i, rfl⟩ : ∃ k, i = k + 1 := ⟨i - 1, by omega⟩
  obtain ⟨j, rfl⟩ : ∃ k, j = k + 1 := ⟨j - 1, by omega⟩
  obtain ⟨n0, hn0⟩ : ∃ k, n = k + 1 := ⟨n - 1, by omega⟩
  apply Jn.bind (A i j P T L h (by omega) (by omega) C hL hP) (Nat.le_refl P)
  · intro x h1 e
    show F_X6_readTerm n (rc_X6_readSum n i).1 (rc_X6_readSum n i).2.1 (rc_X6_readSum n i).2.2.1 (rc_X6_readSum n i).2.2.2.1 (rc_X6_readSum n i).2.2.2.2.1 (rc_X6_readSum n i).2.2.2.2.2 z h (b + 2) (nI d) = _
    unfold F_X6_readTerm ckK
    rewrite [if_pos Z.2.2.1, if_pos Z.2.2.1, bS, e, bS]
    exact rfl
  · intro z' g M g1 R e
    show F_X12_readTerm n (rc_X12_readAtom n j).1 (rc_X12_readAtom n j).2.1 (rc_X12_readAtom n j).2.2.1 (rc_X12_readAtom n j).2.2.2.1 (rc_X12_readAtom n j).2.2.2.2.1 (rc_X12_readAtom n j).2.2.2.2.2.1 (rc_X12_readAtom n j).2.2.2.2.2.2 z' g (b + 72) (nI d) = _
    unfold F_X12_readTerm ckK
    rewrite [if_pos R.K, if_pos R.K, bS, e, bS]
    exact rfl
  · intro h1 fl pl F
    refine ⟨h1, ?_, Fc.rf, F⟩
    show f_X6_readTerm_8 n (rc_X6_readSum n i).1 (rc_X6_readSum n i).2.1 (rc_X6_readSum n i).2.2.1 (rc_X6_readSum n i).2.2.2.1 (rc_X6_readSum n i).2.2.2.2.1 (rc_X6_readSum n i).2.2.2.2.2 z n h1 (b + 2) (nI d) 0 0 = _
    have q := lf_Term (n := n) Z (i := i) (fi := n0) (h := h1) (x := nI d) (y := 0)
    rw [← hn0] at q
    exact q
  · intro z' g fl pl F
    show f_X12_readTerm_5 n (rc_X12_readAtom n j).1 (rc_X12_readAtom n j).2.1 (rc_X12_readAtom n j).2.2.1 (rc_X12_readAtom n j).2.2.2.1 (rc_X12_readAtom n j).2.2.2.2.1 (rc_X12_readAtom n j).2.2.2.2.2.1 (rc_X12_readAtom n j).2.2.2.2.2.2 z' n g (b + 72) (nI d) = _
    have q := lr_Term (n := n) (j := j) (fj := n0) (x := nI d) F
    rw [← hn0] at q
    exact q
  · intro h1 T1 C1 c1 ok1 hT1
    exact lp_Term Z hN hx hn hw hd A (i := i) (j := j) (by omega) (by omega) 901 n n (P + C1.length) T1 (L ++ C1) h1 C1 0 (by omega) (by omega) (by omega) c1 (by rw [List.length_append]; omega) hT1 (by omega) (ok1.mono (by omega))
theorem lf_Sum (Z : ZC b z) {i fi : Nat} {h : Hp} {x y : Int32} : f_X6_readSum_8 n (rc_X6_readSum n i).1 (rc_X6_readSum n i).2.1 (rc_X6_readSum n i).2.2.1 (rc_X6_readSum n i).2.2.2.1 (rc_X6_readSum n i).2.2.2.2.1 (rc_X6_readSum n i).2.2.2.2.2 z (fi + 1) h (b + 2) x 0 y = some (0, h) := by
  rw [f_X6_readSum_8.eq_2, gI_ok Z.2.2.1, bS]
  split
  · rw [bz_ok (x := 0) (Or.inl rfl), bS]
  · rw [if_pos rfl, bz_ok (x := 0) (Or.inl rfl), bS]
theorem lr_Sum {j fj fl pl : Nat} {z' : Sh} {g : Hp} {x : Int32} (C : RF b z' fl pl g) : f_X12_readSum_5 n (rc_X12_readAtom n j).1 (rc_X12_readAtom n j).2.1 (rc_X12_readAtom n j).2.2.1 (rc_X12_readAtom n j).2.2.2.1 (rc_X12_readAtom n j).2.2.2.2.1 (rc_X12_readAtom n j).2.2.2.2.2.1 (rc_X12_readAtom n j).2.2.2.2.2.2 z' (fj + 1) g (b + 72) x = some g := by
  rw [f_X12_readSum_5.eq_2, is_F C, bS, if_pos rfl, is_F C, bS, if_pos rfl]
theorem lp_Sum (Z : ZC b z) (hN : N ≤ 900) (hx : ∀ j, tx j < 256) (hn : 400000 ≤ n) (hw : w < 2) {d : Nat} (hd : d ≤ 6) (A : JTerm n b sv z tx N w d) {i j : Nat} (hi : 6 * (6 - d) + 2 ≤ i) (hj : 7 * (6 - d) + 3 ≤ j) : ∀ m fi fj P T L h C0 p, N - T.1 < m → m < fi → m < fj → CS b sv z tx N w T L h → L.length ≤ P → P ≤ T.1 → p ≤ T.1 → gdN w (3 + 5 * (6 - d)) C0 → Jn b sv z tx N w P T L h (fun C => gdN w (3 + 5 * (6 - d)) (C0 ++ C)) (f_X6_readSum_8 n (rc_X6_readSum n i).1 (rc_X6_readSum n i).2.1 (rc_X6_readSum n i).2.2.1 (rc_X6_readSum n i).2.2.2.1 (rc_X6_readSum n i).2.2.2.2.1 (rc_X6_readSum n i).2.2.2.2.2 z fi h (b + 2) (nI d) 1 (nI p)) (fun z' g => f_X12_readSum_5 n (rc_X12_readAtom n j).1 (rc_X12_readAtom n j).2.1 (rc_X12_readAtom n j).2.2.1 (rc_X12_readAtom n j).2.2.2.1 (rc_X12_readAtom n j).2.2.2.2.1 (rc_X12_readAtom n j).2.2.2.2.2.1 (rc_X12_readAtom n j).2.2.2.2.2.2 z' fj g (b + 72) (nI d)) := by
  intro m
  induction m with
  | zero =>
    intro fi fj P T L h C0 p h1
    omega
  | succ m ih =>
    intro fi fj P T L h C0 p h1 h2 h3 C hL hP hp hC0
    obtain ⟨fi, rfl⟩ : ∃ k, fi = k + 2 := ⟨fi - 2, by omega⟩
    obtain ⟨fj, rfl⟩ : ∃ k, fj = k + 2 := ⟨fj - 2, by omega⟩
    have hT := tkT C.tk
    have c3 := C.1.2.2.1
    have n10 : ¬ ((1 : Int32) = 0) := by decide
    by_cases k32 : T.2.2.1 = 32
    · have hp2 : ¬ (nI N ≤ nI p) := fun w => by
        have w := (nI_leI (by omega) (by omega)).mp w
        have := hT.2.2.1 (by omega)
        omega
      apply Jn.next C Z hN hx hn hP (by omega)
      · intro h1 e
        rewrite [f_X6_readSum_8.eq_2, gI_ok Z.2.2.1, bS, c3, if_neg hp2, if_neg n10, is_y C Z hN hx hn (s := 44) (by decide) (by decide) k32, bS, if_neg n10]
        unfold f_X6_readSum_38 f_X6_readSum_53 ckK
        rewrite [is_y C Z hN hx hn (s := 44) (by decide) (by decide) k32, bS, if_neg n10, e, bS, if_pos Z.2.2.1, bS]
        exact rfl
      · intro z' g M g1 R e
        rewrite [f_X12_readSum_5.eq_2, show f_X12_is z' g (b + 72) 32 = _ from is_r R (k := 32) (by decide), bS, if_pos k32, if_neg n10]
        unfold f_X12_readSum_23 f_X12_readSum_41 ckK
        rewrite [gI_ok R.K, bS, R.2.2.2.2.2.1, k32, if_pos (show nI 32 = 32 from rfl), e, bS, if_pos R.K, bS]
        exact rfl
      · intro h1 T1 C1 hT1
        apply Jn.bind (P := P) (A i j T1.1 T1 L h1 hi hj C1 (by omega) (Nat.le_refl _)) (by omega)
        · intro x h2 e
          rewrite [e, bS]
          exact rfl
        · intro z' g M g1 R e
          rewrite [e, bS]
          exact rfl
        · intro h2 fl pl F
          obtain ⟨h3, e1, e2, e3⟩ := emit_F hw F Z (-1)
          refine ⟨h3, ?_, e2, e3⟩
          show (f_X6_emit z h2 (b + 2) (-1)).bind _ = _
          rw [e1, bS, bS]
          exact lf_Sum Z
        · intro z' g fl pl F
          show (f_X12_codes z' g (b + 72) 3000).bind _ = _
          rw [codes_F F, bS]
          exact lr_Sum F
        · intro h2 T2 C2 c2 ok2 hT2
          apply Jn.emit hw c2 Z hN (c := 3000) (x := -1) (by rw [List.length_append]; omega) (by omega) (by decide)
          · intro h3 e
            show (f_X6_emit z h2 (b + 2) (-1)).bind _ = _
            rewrite [e, bS, bS, nI_1]
            exact rfl
          · intro z' g M g1 R e
            show (f_X12_codes z' g (b + 72) 3000).bind _ = _
            rewrite [show f_X12_codes z' g (b + 72) 3000 = some g1 from e, bS]
            exact rfl
          · intro h3 c3
            refine (ih (fi + 1) (fj + 1) (P + C2.length + 1) T2 (L ++ C2 ++ [3000]) h3 (C0 ++ (C2 ++ [3000])) (p + 1) (by omega) (by omega) (by omega) c3 (by rw [List.length_append, List.length_append]; show L.length + C2.length + 1 ≤ _; omega) (by omega) (by omega) (gdN_bin hC0 (ok2.mono (by omega)) (by omega) (by omega))).ok (fun C' hC' => ?_)
            rw [List.append_assoc, List.append_assoc] at hC'
            exact hC'
    · skip
      by_cases k33 : T.2.2.1 = 33
      · have hp2 : ¬ (nI N ≤ nI p) := fun w => by
          have w := (nI_leI (by omega) (by omega)).mp w
          have := hT.2.2.1 (by omega)
          omega
        apply Jn.next C Z hN hx hn hP (by omega)
        · intro h1 e
          rewrite [f_X6_readSum_8.eq_2, gI_ok Z.2.2.1, bS, c3, if_neg hp2, if_neg n10, is_n C Z hN hx hn (s := 44) (by decide) (by decide) k32, bS, if_pos rfl, is_y C Z hN hx hn (s := 45) (by decide) (by decide) k33, bS, if_neg n10]
          unfold f_X6_readSum_38 f_X6_readSum_53 ckK
          rewrite [is_n C Z hN hx hn (s := 44) (by decide) (by decide) k32, bS, if_pos rfl, e, bS, if_pos Z.2.2.1, bS]
          exact rfl
        · intro z' g M g1 R e
          rewrite [f_X12_readSum_5.eq_2, show f_X12_is z' g (b + 72) 32 = _ from is_r R (k := 32) (by decide), bS, if_neg k32, if_pos rfl, show f_X12_is z' g (b + 72) 33 = _ from is_r R (k := 33) (by decide), bS, if_pos k33, if_neg n10]
          unfold f_X12_readSum_23 f_X12_readSum_41 ckK
          rewrite [gI_ok R.K, bS, R.2.2.2.2.2.1, k33, if_neg (show ¬ (nI 33 = 32) by decide), e, bS, if_pos R.K, bS]
          exact rfl
        · intro h1 T1 C1 hT1
          apply Jn.bind (P := P) (A i j T1.1 T1 L h1 hi hj C1 (by omega) (Nat.le_refl _)) (by omega)
          · intro x h2 e
            rewrite [e, bS]
            exact rfl
          · intro z' g M g1 R e
            rewrite [e, bS]
            exact rfl
          · intro h2 fl pl F
            obtain ⟨h3, e1, e2, e3⟩ := emit_F hw F Z (-2)
            refine ⟨h3, ?_, e2, e3⟩
            show (f_X6_emit z h2 (b + 2) (-2)).bind _ = _
            rw [e1, bS, bS]
            exact lf_Sum Z
          · intro z' g fl pl F
            show (f_X12_codes z' g (b + 72) 3001).bind _ = _
            rw [codes_F F, bS]
            exact lr_Sum F
          · intro h2 T2 C2 c2 ok2 hT2
            apply Jn.emit hw c2 Z hN (c := 3001) (x := -2) (by rw [List.length_append]; omega) (by omega) (by decide)
            · intro h3 e
              show (f_X6_emit z h2 (b + 2) (-2)).bind _ = _
              rewrite [e, bS, bS, nI_1]
              exact rfl
            · intro z' g M g1 R e
              show (f_X12_codes z' g (b + 72) 3001).bind _ = _
              rewrite [show f_X12_codes z' g (b + 72) 3001 = some g1 from e, bS]
              exact rfl
            · intro h3 c3
              refine (ih (fi + 1) (fj + 1) (P + C2.length + 1) T2 (L ++ C2 ++ [3001]) h3 (C0 ++ (C2 ++ [3001])) (p + 1) (by omega) (by omega) (by omega) c3 (by rw [List.length_append, List.length_append]; show L.length + C2.length + 1 ≤ _; omega) (by omega) (by omega) (gdN_bin hC0 (ok2.mono (by omega)) (by omega) (by omega))).ok (fun C' hC' => ?_)
              rw [List.append_assoc, List.append_assoc] at hC'
              exact hC'
      · refine Jn.ret C hP (by rw [List.append_nil]; exact hC0) ?_ (fun z' g M R => ?_)
        · rw [f_X6_readSum_8.eq_2, gI_ok Z.2.2.1, bS]
          split
          · rw [bz_ok (x := 1) (Or.inr rfl), bS]
          · try rw [if_neg n10]
            rw [is_n C Z hN hx hn (s := 44) (by decide) (by decide) k32, bS, if_pos rfl, is_n C Z hN hx hn (s := 45) (by decide) (by decide) k33, bS, if_pos rfl, bz_ok (x := 1) (Or.inr rfl), bS]
        · rw [f_X12_readSum_5.eq_2, show f_X12_is z' g (b + 72) 32 = _ from is_r R (k := 32) (by decide), bS, if_neg k32, if_pos rfl, show f_X12_is z' g (b + 72) 33 = _ from is_r R (k := 33) (by decide), bS, if_neg k33, if_pos rfl]
theorem j_Sum (Z : ZC b z) (hN : N ≤ 900) (hx : ∀ j, tx j < 256) (hn : 400000 ≤ n) (hw : w < 2) {d : Nat} (hd : d ≤ 6) (A : JTerm n b sv z tx N w d) : JSum n b sv z tx N w d := by
  intro i j P T L h hi hj C hL hP
  obtain ⟨i, rfl⟩ : ∃ k, i = k + 1 := ⟨i - 1, by omega⟩
  obtain ⟨j, rfl⟩ : ∃ k, j = k + 1 := ⟨j - 1, by omega⟩
  obtain ⟨n0, hn0⟩ : ∃ k, n = k + 1 := ⟨n - 1, by omega⟩
  apply Jn.bind (A i j P T L h (by omega) (by omega) C hL hP) (Nat.le_refl P)
  · intro x h1 e
    show F_X6_readSum n (rc_X6_readSum n i).1 (rc_X6_readSum n i).2.1 (rc_X6_readSum n i).2.2.1 (rc_X6_readSum n i).2.2.2.1 (rc_X6_readSum n i).2.2.2.2.1 (rc_X6_readSum n i).2.2.2.2.2 z h (b + 2) (nI d) = _
    unfold F_X6_readSum ckK
    rewrite [if_pos Z.2.2.1, if_pos Z.2.2.1, bS, e, bS]
    exact rfl
  · intro z' g M g1 R e
    show F_X12_readSum n (rc_X12_readAtom n j).1 (rc_X12_readAtom n j).2.1 (rc_X12_readAtom n j).2.2.1 (rc_X12_readAtom n j).2.2.2.1 (rc_X12_readAtom n j).2.2.2.2.1 (rc_X12_readAtom n j).2.2.2.2.2.1 (rc_X12_readAtom n j).2.2.2.2.2.2 z' g (b + 72) (nI d) = _
    unfold F_X12_readSum ckK
    rewrite [if_pos R.K, if_pos R.K, bS, e, bS]
    exact rfl
  · intro h1 fl pl F
    refine ⟨h1, ?_, Fc.rf, F⟩
    show f_X6_readSum_8 n (rc_X6_readSum n i).1 (rc_X6_readSum n i).2.1 (rc_X6_readSum n i).2.2.1 (rc_X6_readSum n i).2.2.2.1 (rc_X6_readSum n i).2.2.2.2.1 (rc_X6_readSum n i).2.2.2.2.2 z n h1 (b + 2) (nI d) 0 0 = _
    have q := lf_Sum (n := n) Z (i := i) (fi := n0) (h := h1) (x := nI d) (y := 0)
    rw [← hn0] at q
    exact q
  · intro z' g fl pl F
    show f_X12_readSum_5 n (rc_X12_readAtom n j).1 (rc_X12_readAtom n j).2.1 (rc_X12_readAtom n j).2.2.1 (rc_X12_readAtom n j).2.2.2.1 (rc_X12_readAtom n j).2.2.2.2.1 (rc_X12_readAtom n j).2.2.2.2.2.1 (rc_X12_readAtom n j).2.2.2.2.2.2 z' n g (b + 72) (nI d) = _
    have q := lr_Sum (n := n) (j := j) (fj := n0) (x := nI d) F
    rw [← hn0] at q
    exact q
  · intro h1 T1 C1 c1 ok1 hT1
    exact lp_Sum Z hN hx hn hw hd A (i := i) (j := j) (by omega) (by omega) 901 n n (P + C1.length) T1 (L ++ C1) h1 C1 0 (by omega) (by omega) (by omega) c1 (by rw [List.length_append]; omega) hT1 (by omega) (ok1.mono (by omega))
theorem lf_Both (Z : ZC b z) {i fi : Nat} {h : Hp} {x y : Int32} : f_X6_readBoth_8 n (rc_X6_readSum n i).1 (rc_X6_readSum n i).2.1 (rc_X6_readSum n i).2.2.1 (rc_X6_readSum n i).2.2.2.1 (rc_X6_readSum n i).2.2.2.2.1 (rc_X6_readSum n i).2.2.2.2.2 z (fi + 1) h (b + 2) x 0 y = some (0, h) := by
  rw [f_X6_readBoth_8.eq_2, gI_ok Z.2.2.1, bS]
  split
  · rw [bz_ok (x := 0) (Or.inl rfl), bS]
  · rw [if_pos rfl, bz_ok (x := 0) (Or.inl rfl), bS]
theorem lr_Both {j fj fl pl : Nat} {z' : Sh} {g : Hp} {x : Int32} (C : RF b z' fl pl g) : f_X12_readBoth_5 n (rc_X12_readAtom n j).1 (rc_X12_readAtom n j).2.1 (rc_X12_readAtom n j).2.2.1 (rc_X12_readAtom n j).2.2.2.1 (rc_X12_readAtom n j).2.2.2.2.1 (rc_X12_readAtom n j).2.2.2.2.2.1 (rc_X12_readAtom n j).2.2.2.2.2.2 z' (fj + 1) g (b + 72) x = some g := by
  rw [f_X12_readBoth_5.eq_2, eats_F C, bS]
  rfl
theorem lp_Both (Z : ZC b z) (hN : N ≤ 900) (hx : ∀ j, tx j < 256) (hn : 400000 ≤ n) (hw : w < 2) {d : Nat} (hd : d ≤ 6) (A : JUnit n b sv z tx N w d) {i j : Nat} (hi : 6 * (6 - d) + 4 ≤ i) (hj : 7 * (6 - d) + 5 ≤ j) : ∀ m fi fj P T L h C0 p, N - T.1 < m → m < fi → m < fj → CS b sv z tx N w T L h → L.length ≤ P → P ≤ T.1 → p ≤ T.1 → gdT w (5 + 5 * (6 - d)) C0 → Jn b sv z tx N w P T L h (fun C => gdT w (5 + 5 * (6 - d)) (C0 ++ C)) (f_X6_readBoth_8 n (rc_X6_readSum n i).1 (rc_X6_readSum n i).2.1 (rc_X6_readSum n i).2.2.1 (rc_X6_readSum n i).2.2.2.1 (rc_X6_readSum n i).2.2.2.2.1 (rc_X6_readSum n i).2.2.2.2.2 z fi h (b + 2) (nI d) 1 (nI p)) (fun z' g => f_X12_readBoth_5 n (rc_X12_readAtom n j).1 (rc_X12_readAtom n j).2.1 (rc_X12_readAtom n j).2.2.1 (rc_X12_readAtom n j).2.2.2.1 (rc_X12_readAtom n j).2.2.2.2.1 (rc_X12_readAtom n j).2.2.2.2.2.1 (rc_X12_readAtom n j).2.2.2.2.2.2 z' fj g (b + 72) (nI d)) := by
  intro m
  induction m with
  | zero =>
    intro fi fj P T L h C0 p h1
    omega
  | succ m ih =>
    intro fi fj P T L h C0 p h1 h2 h3 C hL hP hp hC0
    obtain ⟨fi, rfl⟩ : ∃ k, fi = k + 2 := ⟨fi - 2, by omega⟩
    obtain ⟨fj, rfl⟩ : ∃ k, fj = k + 2 := ⟨fj - 2, by omega⟩
    have hT := tkT C.tk
    have c3 := C.1.2.2.1
    have n10 : ¬ ((1 : Int32) = 0) := by decide
    by_cases k20 : T.2.2.1 = 20
    · have hp2 : ¬ (nI N ≤ nI p) := fun w => by
        have w := (nI_leI (by omega) (by omega)).mp w
        have := hT.2.2.1 (by omega)
        omega
      apply Jn.next C Z hN hx hn hP (by omega)
      · intro h1 e
        rewrite [f_X6_readBoth_8.eq_2, gI_ok Z.2.2.1, bS, c3, if_neg hp2, if_neg n10, is_y C Z hN hx hn (s := 32) (by decide) (by decide) k20, bS, if_neg n10, e, bS]
        unfold ckK
        rewrite [if_pos Z.2.2.1, bS]
        exact rfl
      · intro z' g M g1 R e
        have ee : f_X12_eats n z' g (b + 72) 20 = some (1, g1) := by
          unfold f_X12_eats
          rw [if_pos R.K, show f_X12_is z' g (b + 72) 20 = _ from is_r R (k := 20) (by decide), bS, if_pos k20, if_neg n10, e, bS]
        rewrite [f_X12_readBoth_5.eq_2, ee, bS]
        unfold ckK
        show (if (1 : Int32) = 0 then _ else _) = _
        rewrite [if_neg n10, if_pos R.K, bS]
        exact rfl
      · intro h1 T1 C1 hT1
        apply Jn.bind (P := P) (A i j T1.1 T1 L h1 hi hj C1 (by omega) (Nat.le_refl _)) (by omega)
        · intro x h2 e
          rewrite [e, bS]
          exact rfl
        · intro z' g M g1 R e
          rewrite [e, bS]
          exact rfl
        · intro h2 fl pl F
          obtain ⟨h3, e1, e2, e3⟩ := emit_F hw F Z (-7)
          refine ⟨h3, ?_, e2, e3⟩
          show (f_X6_emit z h2 (b + 2) (-7)).bind _ = _
          rw [e1, bS, bS]
          exact lf_Both Z
        · intro z' g fl pl F
          show (f_X12_codes z' g (b + 72) 3007).bind _ = _
          rw [codes_F F, bS]
          exact lr_Both F
        · intro h2 T2 C2 c2 ok2 hT2
          apply Jn.emit hw c2 Z hN (c := 3007) (x := -7) (by rw [List.length_append]; omega) (by omega) (by decide)
          · intro h3 e
            show (f_X6_emit z h2 (b + 2) (-7)).bind _ = _
            rewrite [e, bS, bS, nI_1]
            exact rfl
          · intro z' g M g1 R e
            show (f_X12_codes z' g (b + 72) 3007).bind _ = _
            rewrite [show f_X12_codes z' g (b + 72) 3007 = some g1 from e, bS]
            exact rfl
          · intro h3 c3
            refine (ih (fi + 1) (fj + 1) (P + C2.length + 1) T2 (L ++ C2 ++ [3007]) h3 (C0 ++ (C2 ++ [3007])) (p + 1) (by omega) (by omega) (by omega) c3 (by rw [List.length_append, List.length_append]; show L.length + C2.length + 1 ≤ _; omega) (by omega) (by omega) (gdT_bin hC0 (ok2.mono (by omega)) (by omega) (by omega))).ok (fun C' hC' => ?_)
            rw [List.append_assoc, List.append_assoc] at hC'
            exact hC'
    · refine Jn.ret C hP (by rw [List.append_nil]; exact hC0) ?_ (fun z' g M R => ?_)
      · rw [f_X6_readBoth_8.eq_2, gI_ok Z.2.2.1, bS]
        split
        · rw [bz_ok (x := 1) (Or.inr rfl), bS]
        · try rw [if_neg n10]
          rw [is_n C Z hN hx hn (s := 32) (by decide) (by decide) k20, bS, if_pos rfl, bz_ok (x := 1) (Or.inr rfl), bS]
      · rw [f_X12_readBoth_5.eq_2, show f_X12_eats n z' g (b + 72) 20 = _ from eats_f R (k := 20) (by decide) k20, bS]
        rfl
theorem j_Both (Z : ZC b z) (hN : N ≤ 900) (hx : ∀ j, tx j < 256) (hn : 400000 ≤ n) (hw : w < 2) {d : Nat} (hd : d ≤ 6) (A : JUnit n b sv z tx N w d) : JBoth n b sv z tx N w d := by
  intro i j P T L h hi hj C hL hP
  obtain ⟨i, rfl⟩ : ∃ k, i = k + 1 := ⟨i - 1, by omega⟩
  obtain ⟨j, rfl⟩ : ∃ k, j = k + 1 := ⟨j - 1, by omega⟩
  obtain ⟨n0, hn0⟩ : ∃ k, n = k + 1 := ⟨n - 1, by omega⟩
  apply Jn.bind (A i j P T L h (by omega) (by omega) C hL hP) (Nat.le_refl P)
  · intro x h1 e
    show F_X6_readBoth n (rc_X6_readSum n i).1 (rc_X6_readSum n i).2.1 (rc_X6_readSum n i).2.2.1 (rc_X6_readSum n i).2.2.2.1 (rc_X6_readSum n i).2.2.2.2.1 (rc_X6_readSum n i).2.2.2.2.2 z h (b + 2) (nI d) = _
    unfold F_X6_readBoth ckK
    rewrite [if_pos Z.2.2.1, if_pos Z.2.2.1, bS, e, bS]
    exact rfl
  · intro z' g M g1 R e
    show F_X12_readBoth n (rc_X12_readAtom n j).1 (rc_X12_readAtom n j).2.1 (rc_X12_readAtom n j).2.2.1 (rc_X12_readAtom n j).2.2.2.1 (rc_X12_readAtom n j).2.2.2.2.1 (rc_X12_readAtom n j).2.2.2.2.2.1 (rc_X12_readAtom n j).2.2.2.2.2.2 z' g (b + 72) (nI d) = _
    unfold F_X12_readBoth ckK
    rewrite [if_pos R.K, if_pos R.K, bS, e, bS]
    exact rfl
  · intro h1 fl pl F
    refine ⟨h1, ?_, Fc.rf, F⟩
    show f_X6_readBoth_8 n (rc_X6_readSum n i).1 (rc_X6_readSum n i).2.1 (rc_X6_readSum n i).2.2.1 (rc_X6_readSum n i).2.2.2.1 (rc_X6_readSum n i).2.2.2.2.1 (rc_X6_readSum n i).2.2.2.2.2 z n h1 (b + 2) (nI d) 0 0 = _
    have q := lf_Both (n := n) Z (i := i) (fi := n0) (h := h1) (x := nI d) (y := 0)
    rw [← hn0] at q
    exact q
  · intro z' g fl pl F
    show f_X12_readBoth_5 n (rc_X12_readAtom n j).1 (rc_X12_readAtom n j).2.1 (rc_X12_readAtom n j).2.2.1 (rc_X12_readAtom n j).2.2.2.1 (rc_X12_readAtom n j).2.2.2.2.1 (rc_X12_readAtom n j).2.2.2.2.2.1 (rc_X12_readAtom n j).2.2.2.2.2.2 z' n g (b + 72) (nI d) = _
    have q := lr_Both (n := n) (j := j) (fj := n0) (x := nI d) F
    rw [← hn0] at q
    exact q
  · intro h1 T1 C1 c1 ok1 hT1
    exact lp_Both Z hN hx hn hw hd A (i := i) (j := j) (by omega) (by omega) 901 n n (P + C1.length) T1 (L ++ C1) h1 C1 0 (by omega) (by omega) (by omega) c1 (by rw [List.length_append]; omega) hT1 (by omega) (ok1.mono (by omega))
theorem lf_Truth (Z : ZC b z) {i fi : Nat} {h : Hp} {x y : Int32} : f_X6_readTruth_8 n (rc_X6_readSum n i).1 (rc_X6_readSum n i).2.1 (rc_X6_readSum n i).2.2.1 (rc_X6_readSum n i).2.2.2.1 (rc_X6_readSum n i).2.2.2.2.1 (rc_X6_readSum n i).2.2.2.2.2 z (fi + 1) h (b + 2) x 0 y = some (0, h) := by
  rw [f_X6_readTruth_8.eq_2, gI_ok Z.2.2.1, bS]
  split
  · rw [bz_ok (x := 0) (Or.inl rfl), bS]
  · rw [if_pos rfl, bz_ok (x := 0) (Or.inl rfl), bS]
theorem lr_Truth {j fj fl pl : Nat} {z' : Sh} {g : Hp} {x : Int32} (C : RF b z' fl pl g) : f_X12_readTruth_5 n (rc_X12_readAtom n j).1 (rc_X12_readAtom n j).2.1 (rc_X12_readAtom n j).2.2.1 (rc_X12_readAtom n j).2.2.2.1 (rc_X12_readAtom n j).2.2.2.2.1 (rc_X12_readAtom n j).2.2.2.2.2.1 (rc_X12_readAtom n j).2.2.2.2.2.2 z' (fj + 1) g (b + 72) x = some g := by
  rw [f_X12_readTruth_5.eq_2, eats_F C, bS]
  rfl
theorem lp_Truth (Z : ZC b z) (hN : N ≤ 900) (hx : ∀ j, tx j < 256) (hn : 400000 ≤ n) (hw : w < 2) {d : Nat} (hd : d ≤ 6) (A : JBoth n b sv z tx N w d) {i j : Nat} (hi : 6 * (6 - d) + 5 ≤ i) (hj : 7 * (6 - d) + 6 ≤ j) : ∀ m fi fj P T L h C0 p, N - T.1 < m → m < fi → m < fj → CS b sv z tx N w T L h → L.length ≤ P → P ≤ T.1 → p ≤ T.1 → gdT w (6 + 5 * (6 - d)) C0 → Jn b sv z tx N w P T L h (fun C => gdT w (6 + 5 * (6 - d)) (C0 ++ C)) (f_X6_readTruth_8 n (rc_X6_readSum n i).1 (rc_X6_readSum n i).2.1 (rc_X6_readSum n i).2.2.1 (rc_X6_readSum n i).2.2.2.1 (rc_X6_readSum n i).2.2.2.2.1 (rc_X6_readSum n i).2.2.2.2.2 z fi h (b + 2) (nI d) 1 (nI p)) (fun z' g => f_X12_readTruth_5 n (rc_X12_readAtom n j).1 (rc_X12_readAtom n j).2.1 (rc_X12_readAtom n j).2.2.1 (rc_X12_readAtom n j).2.2.2.1 (rc_X12_readAtom n j).2.2.2.2.1 (rc_X12_readAtom n j).2.2.2.2.2.1 (rc_X12_readAtom n j).2.2.2.2.2.2 z' fj g (b + 72) (nI d)) := by
  intro m
  induction m with
  | zero =>
    intro fi fj P T L h C0 p h1
    omega
  | succ m ih =>
    intro fi fj P T L h C0 p h1 h2 h3 C hL hP hp hC0
    obtain ⟨fi, rfl⟩ : ∃ k, fi = k + 2 := ⟨fi - 2, by omega⟩
    obtain ⟨fj, rfl⟩ : ∃ k, fj = k + 2 := ⟨fj - 2, by omega⟩
    have hT := tkT C.tk
    have c3 := C.1.2.2.1
    have n10 : ¬ ((1 : Int32) = 0) := by decide
    by_cases k21 : T.2.2.1 = 21
    · have hp2 : ¬ (nI N ≤ nI p) := fun w => by
        have w := (nI_leI (by omega) (by omega)).mp w
        have := hT.2.2.1 (by omega)
        omega
      apply Jn.next C Z hN hx hn hP (by omega)
      · intro h1 e
        rewrite [f_X6_readTruth_8.eq_2, gI_ok Z.2.2.1, bS, c3, if_neg hp2, if_neg n10, is_y C Z hN hx hn (s := 33) (by decide) (by decide) k21, bS, if_neg n10, e, bS]
        unfold ckK
        rewrite [if_pos Z.2.2.1, bS]
        exact rfl
      · intro z' g M g1 R e
        have ee : f_X12_eats n z' g (b + 72) 21 = some (1, g1) := by
          unfold f_X12_eats
          rw [if_pos R.K, show f_X12_is z' g (b + 72) 21 = _ from is_r R (k := 21) (by decide), bS, if_pos k21, if_neg n10, e, bS]
        rewrite [f_X12_readTruth_5.eq_2, ee, bS]
        unfold ckK
        show (if (1 : Int32) = 0 then _ else _) = _
        rewrite [if_neg n10, if_pos R.K, bS]
        exact rfl
      · intro h1 T1 C1 hT1
        apply Jn.bind (P := P) (A i j T1.1 T1 L h1 hi hj C1 (by omega) (Nat.le_refl _)) (by omega)
        · intro x h2 e
          rewrite [e, bS]
          exact rfl
        · intro z' g M g1 R e
          rewrite [e, bS]
          exact rfl
        · intro h2 fl pl F
          obtain ⟨h3, e1, e2, e3⟩ := emit_F hw F Z (-8)
          refine ⟨h3, ?_, e2, e3⟩
          show (f_X6_emit z h2 (b + 2) (-8)).bind _ = _
          rw [e1, bS, bS]
          exact lf_Truth Z
        · intro z' g fl pl F
          show (f_X12_codes z' g (b + 72) 3008).bind _ = _
          rw [codes_F F, bS]
          exact lr_Truth F
        · intro h2 T2 C2 c2 ok2 hT2
          apply Jn.emit hw c2 Z hN (c := 3008) (x := -8) (by rw [List.length_append]; omega) (by omega) (by decide)
          · intro h3 e
            show (f_X6_emit z h2 (b + 2) (-8)).bind _ = _
            rewrite [e, bS, bS, nI_1]
            exact rfl
          · intro z' g M g1 R e
            show (f_X12_codes z' g (b + 72) 3008).bind _ = _
            rewrite [show f_X12_codes z' g (b + 72) 3008 = some g1 from e, bS]
            exact rfl
          · intro h3 c3
            refine (ih (fi + 1) (fj + 1) (P + C2.length + 1) T2 (L ++ C2 ++ [3008]) h3 (C0 ++ (C2 ++ [3008])) (p + 1) (by omega) (by omega) (by omega) c3 (by rw [List.length_append, List.length_append]; show L.length + C2.length + 1 ≤ _; omega) (by omega) (by omega) (gdT_bin hC0 (ok2.mono (by omega)) (by omega) (by omega))).ok (fun C' hC' => ?_)
            rw [List.append_assoc, List.append_assoc] at hC'
            exact hC'
    · refine Jn.ret C hP (by rw [List.append_nil]; exact hC0) ?_ (fun z' g M R => ?_)
      · rw [f_X6_readTruth_8.eq_2, gI_ok Z.2.2.1, bS]
        split
        · rw [bz_ok (x := 1) (Or.inr rfl), bS]
        · try rw [if_neg n10]
          rw [is_n C Z hN hx hn (s := 33) (by decide) (by decide) k21, bS, if_pos rfl, bz_ok (x := 1) (Or.inr rfl), bS]
      · rw [f_X12_readTruth_5.eq_2, show f_X12_eats n z' g (b + 72) 21 = _ from eats_f R (k := 21) (by decide) k21, bS]
        rfl
theorem j_Truth (Z : ZC b z) (hN : N ≤ 900) (hx : ∀ j, tx j < 256) (hn : 400000 ≤ n) (hw : w < 2) {d : Nat} (hd : d ≤ 6) (A : JBoth n b sv z tx N w d) : JTruth n b sv z tx N w d := by
  intro i j P T L h hi hj C hL hP
  obtain ⟨i, rfl⟩ : ∃ k, i = k + 1 := ⟨i - 1, by omega⟩
  obtain ⟨j, rfl⟩ : ∃ k, j = k + 1 := ⟨j - 1, by omega⟩
  obtain ⟨n0, hn0⟩ : ∃ k, n = k + 1 := ⟨n - 1, by omega⟩
  apply Jn.bind (A i j P T L h (by omega) (by omega) C hL hP) (Nat.le_refl P)
  · intro x h1 e
    show F_X6_readTruth n (rc_X6_readSum n i).1 (rc_X6_readSum n i).2.1 (rc_X6_readSum n i).2.2.1 (rc_X6_readSum n i).2.2.2.1 (rc_X6_readSum n i).2.2.2.2.1 (rc_X6_readSum n i).2.2.2.2.2 z h (b + 2) (nI d) = _
    unfold F_X6_readTruth ckK
    rewrite [if_pos Z.2.2.1, if_pos Z.2.2.1, bS, e, bS]
    exact rfl
  · intro z' g M g1 R e
    show F_X12_readTruth n (rc_X12_readAtom n j).1 (rc_X12_readAtom n j).2.1 (rc_X12_readAtom n j).2.2.1 (rc_X12_readAtom n j).2.2.2.1 (rc_X12_readAtom n j).2.2.2.2.1 (rc_X12_readAtom n j).2.2.2.2.2.1 (rc_X12_readAtom n j).2.2.2.2.2.2 z' g (b + 72) (nI d) = _
    unfold F_X12_readTruth ckK
    rewrite [if_pos R.K, if_pos R.K, bS, e, bS]
    exact rfl
  · intro h1 fl pl F
    refine ⟨h1, ?_, Fc.rf, F⟩
    show f_X6_readTruth_8 n (rc_X6_readSum n i).1 (rc_X6_readSum n i).2.1 (rc_X6_readSum n i).2.2.1 (rc_X6_readSum n i).2.2.2.1 (rc_X6_readSum n i).2.2.2.2.1 (rc_X6_readSum n i).2.2.2.2.2 z n h1 (b + 2) (nI d) 0 0 = _
    have q := lf_Truth (n := n) Z (i := i) (fi := n0) (h := h1) (x := nI d) (y := 0)
    rw [← hn0] at q
    exact q
  · intro z' g fl pl F
    show f_X12_readTruth_5 n (rc_X12_readAtom n j).1 (rc_X12_readAtom n j).2.1 (rc_X12_readAtom n j).2.2.1 (rc_X12_readAtom n j).2.2.2.1 (rc_X12_readAtom n j).2.2.2.2.1 (rc_X12_readAtom n j).2.2.2.2.2.1 (rc_X12_readAtom n j).2.2.2.2.2.2 z' n g (b + 72) (nI d) = _
    have q := lr_Truth (n := n) (j := j) (fj := n0) (x := nI d) F
    rw [← hn0] at q
    exact q
  · intro h1 T1 C1 c1 ok1 hT1
    exact lp_Truth Z hN hx hn hw hd A (i := i) (j := j) (by omega) (by omega) 901 n n (P + C1.length) T1 (L ++ C1) h1 C1 0 (by omega) (by omega) (by omega) c1 (by rw [List.length_append]; omega) hT1 (by omega) (ok1.mono (by omega))
end
