/-! ===== the reference: small functions ===== -/
/-- a copied piece of a row -/
def cpy (g f : Nat → Int32) (sp dp j : Nat) : Nat → Int32 := fun k => if dp ≤ k ∧ k < dp + j then g (sp + (k - dp)) else f k
theorem cpy_0 (g f : Nat → Int32) (sp dp : Nat) : cpy g f sp dp 0 = f := by
  funext k
  simp only [cpy]
  rw [if_neg (by omega)]
theorem cpy_s (g f : Nat → Int32) (sp dp j : Nat) : upd (cpy g f sp dp j) (dp + j) (g (sp + j)) = cpy g f sp dp (j + 1) := by
  funext k
  simp only [upd, cpy]
  by_cases h1 : k = dp + j
  · subst h1
    rw [if_pos rfl, if_pos (by omega)]
    congr 1
    omega
  · rw [if_neg h1]
    by_cases h2 : dp ≤ k ∧ k < dp + j
    · rw [if_pos h2, if_pos (by omega)]
    · rw [if_neg h2, if_neg (by omega)]
theorem cpy_s0 (g f : Nat → Int32) (sp j : Nat) : upd (cpy g f sp 0 j) j (g (sp + j)) = cpy g f sp 0 (j + 1) := by
  have := cpy_s g f sp 0 j
  rw [Nat.zero_add] at this
  exact this
theorem cpy_t0 (g f : Nat → Int32) (dp j : Nat) : upd (cpy g f 0 dp j) (dp + j) (g j) = cpy g f 0 dp (j + 1) := by
  have := cpy_s g f 0 dp j
  rw [Nat.zero_add] at this
  exact this
theorem cpy_up {g f : Nat → Int32} {sp dp j k : Nat} (h : ¬ (dp ≤ k ∧ k < dp + j)) : cpy g f sp dp j k = f k := if_neg h
theorem cpy_in {g f : Nat → Int32} {sp dp j k : Nat} (h : dp ≤ k ∧ k < dp + j) : cpy g f sp dp j k = g (sp + (k - dp)) := if_pos h
theorem keeps_2 {n : Nat} {z : Sh} {h : Hp} {b : Nat} (HM : LayR z h.2.2 (b + 72)) (f : Nat → Int32) : ∀ (d j i : Nat), j + d = 49 → d < i → f_X12_keeps_2 n z i (h.rowI (b + 79) (cpy (h.I (b + 73)) f 17 0 j)) (b + 72) (nI j) = some (h.rowI (b + 79) (cpy (h.I (b + 73)) f 17 0 49)) := by
  intro d
  induction d with
  | zero =>
    intro j i hj hi
    obtain ⟨i, rfl⟩ : ∃ k, i = k + 1 := ⟨i - 1, by omega⟩
    obtain rfl : j = 49 := by omega
    rw [f_X12_keeps_2.eq_2]
    simp (disch := omega) only [nI_leI, Nat.le_refl, bS, if_true, if_false, nI_lit, nI_add, nI_mul, rowI_R, rowJ_R, setI_R, setJ_R, rowI_J, setI_J, rowJ_I, setJ_I, rowI_setI, rowJ_setJ, rowI_Ib, rowJ_Jb, setI_I, setJ_J, Nat.add_left_cancel_iff, Nat.reduceEqDiff, Nat.left_eq_add, Nat.add_eq_left, Nat.reduceAdd, gR, gI, gN, pI, not_false_eq_true, not_true_eq_false, and_true, true_and, and_false, false_and, or_true, true_or, or_false, false_or, km_0 HM, rm_1 HM, rm_2 HM, rm_3 HM, rm_4 HM, rm_16 HM, rm_17 HM, rm_18 HM, rm_21 HM, rm_22 HM, rm_23 HM, rm_24 HM, rm_27 HM, rm_28 HM, rm_29 HM, rm_30 HM, rm_31 HM, rm_33 HM, rm_34 HM, rm_35 HM, lm_1 HM, lm_2 HM, lm_3 HM, lm_4 HM, lm_5 HM, lm_6 HM, lm_7 HM, lm_8 HM, lm_9 HM, lm_10 HM, lm_11 HM, lm_12 HM, lm_13 HM, lm_14 HM, lm_15 HM, lm_16 HM, lm_17 HM, lm_18 HM, lm_19 HM, sm_1 HM, sm_2 HM, sm_3 HM, sm_4 HM, sm_5 HM, sm_6 HM, sm_7 HM, sm_8 HM, sm_9 HM, sm_10 HM, sm_11 HM, sm_12 HM, sm_13 HM, sm_14 HM, sm_15 HM, sm_16 HM, sm_17 HM, sm_18 HM, sm_19 HM]
  | succ d ih =>
    intro j i hj hi
    obtain ⟨i, rfl⟩ : ∃ k, i = k + 1 := ⟨i - 1, by omega⟩
    have hc : ¬ (49 ≤ j) := by omega
    have ih := ih (j + 1) i (by omega) (by omega)
    rw [f_X12_keeps_2.eq_2]
    simp (disch := omega) only [nI_leI, hc, bS, if_true, if_false, nI_lit, nI_add, nI_mul, rowI_R, rowJ_R, setI_R, setJ_R, rowI_J, setI_J, rowJ_I, setJ_I, rowI_setI, rowJ_setJ, rowI_Ib, rowJ_Jb, setI_I, setJ_J, Nat.add_left_cancel_iff, Nat.reduceEqDiff, Nat.left_eq_add, Nat.add_eq_left, Nat.reduceAdd, gR, gI, gN, pI, not_false_eq_true, not_true_eq_false, and_true, true_and, and_false, false_and, or_true, true_or, or_false, false_or, km_0 HM, rm_1 HM, rm_2 HM, rm_3 HM, rm_4 HM, rm_16 HM, rm_17 HM, rm_18 HM, rm_21 HM, rm_22 HM, rm_23 HM, rm_24 HM, rm_27 HM, rm_28 HM, rm_29 HM, rm_30 HM, rm_31 HM, rm_33 HM, rm_34 HM, rm_35 HM, lm_1 HM, lm_2 HM, lm_3 HM, lm_4 HM, lm_5 HM, lm_6 HM, lm_7 HM, lm_8 HM, lm_9 HM, lm_10 HM, lm_11 HM, lm_12 HM, lm_13 HM, lm_14 HM, lm_15 HM, lm_16 HM, lm_17 HM, lm_18 HM, lm_19 HM, sm_1 HM, sm_2 HM, sm_3 HM, sm_4 HM, sm_5 HM, sm_6 HM, sm_7 HM, sm_8 HM, sm_9 HM, sm_10 HM, sm_11 HM, sm_12 HM, sm_13 HM, sm_14 HM, sm_15 HM, sm_16 HM, sm_17 HM, sm_18 HM, sm_19 HM]
    rw [cpy_s0]
    exact ih
theorem keeps_ok {n : Nat} {z : Sh} {h : Hp} {b : Nat} (HM : LayR z h.2.2 (b + 72)) (hn : 400000 ≤ n) : f_X12_keeps n z h (b + 72) = some (h.rowI (b + 79) (cpy (h.I (b + 73)) (h.I (b + 79)) 17 0 49)) := by
  have h1 := keeps_2 (n := n) HM (h.I (b + 79)) 49 0 n (by omega) (by omega)
  rw [cpy_0, rowI_self] at h1
  simp only [f_X12_keeps, km_0 HM, if_true]
  exact h1
theorem isAgain_2 {n : Nat} {z : Sh} {h : Hp} {b : Nat} (HM : LayR z h.2.2 (b + 72)) (f : Nat → Int32) : ∀ (d j i : Nat), j + d = 49 → d < i → f_X12_isAgain_2 n z i (h.rowI (b + 73) (cpy (h.I (b + 79)) f 0 17 j)) (b + 72) (nI j) = some (h.rowI (b + 73) (cpy (h.I (b + 79)) f 0 17 49)) := by
  intro d
  induction d with
  | zero =>
    intro j i hj hi
    obtain ⟨i, rfl⟩ : ∃ k, i = k + 1 := ⟨i - 1, by omega⟩
    obtain rfl : j = 49 := by omega
    rw [f_X12_isAgain_2.eq_2]
    simp (disch := omega) only [nI_leI, Nat.le_refl, bS, if_true, if_false, nI_lit, nI_add, nI_mul, rowI_R, rowJ_R, setI_R, setJ_R, rowI_J, setI_J, rowJ_I, setJ_I, rowI_setI, rowJ_setJ, rowI_Ib, rowJ_Jb, setI_I, setJ_J, Nat.add_left_cancel_iff, Nat.reduceEqDiff, Nat.left_eq_add, Nat.add_eq_left, Nat.reduceAdd, gR, gI, gN, pI, not_false_eq_true, not_true_eq_false, and_true, true_and, and_false, false_and, or_true, true_or, or_false, false_or, km_0 HM, rm_1 HM, rm_2 HM, rm_3 HM, rm_4 HM, rm_16 HM, rm_17 HM, rm_18 HM, rm_21 HM, rm_22 HM, rm_23 HM, rm_24 HM, rm_27 HM, rm_28 HM, rm_29 HM, rm_30 HM, rm_31 HM, rm_33 HM, rm_34 HM, rm_35 HM, lm_1 HM, lm_2 HM, lm_3 HM, lm_4 HM, lm_5 HM, lm_6 HM, lm_7 HM, lm_8 HM, lm_9 HM, lm_10 HM, lm_11 HM, lm_12 HM, lm_13 HM, lm_14 HM, lm_15 HM, lm_16 HM, lm_17 HM, lm_18 HM, lm_19 HM, sm_1 HM, sm_2 HM, sm_3 HM, sm_4 HM, sm_5 HM, sm_6 HM, sm_7 HM, sm_8 HM, sm_9 HM, sm_10 HM, sm_11 HM, sm_12 HM, sm_13 HM, sm_14 HM, sm_15 HM, sm_16 HM, sm_17 HM, sm_18 HM, sm_19 HM]
  | succ d ih =>
    intro j i hj hi
    obtain ⟨i, rfl⟩ : ∃ k, i = k + 1 := ⟨i - 1, by omega⟩
    have hc : ¬ (49 ≤ j) := by omega
    have ih := ih (j + 1) i (by omega) (by omega)
    rw [f_X12_isAgain_2.eq_2]
    simp (disch := omega) only [nI_leI, hc, bS, if_true, if_false, nI_lit, nI_add, nI_mul, rowI_R, rowJ_R, setI_R, setJ_R, rowI_J, setI_J, rowJ_I, setJ_I, rowI_setI, rowJ_setJ, rowI_Ib, rowJ_Jb, setI_I, setJ_J, Nat.add_left_cancel_iff, Nat.reduceEqDiff, Nat.left_eq_add, Nat.add_eq_left, Nat.reduceAdd, gR, gI, gN, pI, not_false_eq_true, not_true_eq_false, and_true, true_and, and_false, false_and, or_true, true_or, or_false, false_or, km_0 HM, rm_1 HM, rm_2 HM, rm_3 HM, rm_4 HM, rm_16 HM, rm_17 HM, rm_18 HM, rm_21 HM, rm_22 HM, rm_23 HM, rm_24 HM, rm_27 HM, rm_28 HM, rm_29 HM, rm_30 HM, rm_31 HM, rm_33 HM, rm_34 HM, rm_35 HM, lm_1 HM, lm_2 HM, lm_3 HM, lm_4 HM, lm_5 HM, lm_6 HM, lm_7 HM, lm_8 HM, lm_9 HM, lm_10 HM, lm_11 HM, lm_12 HM, lm_13 HM, lm_14 HM, lm_15 HM, lm_16 HM, lm_17 HM, lm_18 HM, lm_19 HM, sm_1 HM, sm_2 HM, sm_3 HM, sm_4 HM, sm_5 HM, sm_6 HM, sm_7 HM, sm_8 HM, sm_9 HM, sm_10 HM, sm_11 HM, sm_12 HM, sm_13 HM, sm_14 HM, sm_15 HM, sm_16 HM, sm_17 HM, sm_18 HM, sm_19 HM]
    rw [cpy_t0]
    exact ih
theorem isAgain_ok {n : Nat} {z : Sh} {h : Hp} {b : Nat} (HM : LayR z h.2.2 (b + 72)) (hn : 400000 ≤ n) : f_X12_isAgain n z h (b + 72) = some (h.rowI (b + 73) (cpy (h.I (b + 79)) (h.I (b + 73)) 0 17 49)) := by
  have h1 := isAgain_2 (n := n) HM (h.I (b + 73)) 49 0 n (by omega) (by omega)
  rw [cpy_0, rowI_self] at h1
  simp only [f_X12_isAgain, km_0 HM, if_true]
  exact h1
theorem notes_58 {n : Nat} {z : Sh} {h : Hp} {b : Nat} (HM : LayR z h.2.2 (b + 72)) (f : Nat → Int32) {e : Nat} (he : e ≤ 9) (hf : f 66 = nI e) : ∀ (d j i : Nat), j + d = 49 → d < i → f_X12_notes_58 n z i (h.rowI (b + 73) (cpy (h.I (b + 79)) f 0 (67 + 49 * e) j)) (b + 72) (nI j) = some (h.rowI (b + 73) (upd (cpy (h.I (b + 79)) f 0 (67 + 49 * e) 49) 66 (nI (e + 1)))) := by
  intro d
  induction d with
  | zero =>
    intro j i hj hi
    obtain ⟨i, rfl⟩ : ∃ k, i = k + 1 := ⟨i - 1, by omega⟩
    obtain rfl : j = 49 := by omega
    rw [f_X12_notes_58.eq_2]
    have h66 : cpy (h.I (b + 79)) f 0 (67 + 49 * e) 49 66 = f 66 := cpy_up (by omega)
    simp (disch := omega) only [nI_leI, Nat.le_refl, bS, if_true, if_false, nI_lit, nI_add, nI_mul, rowI_R, rowJ_R, setI_R, setJ_R, rowI_J, setI_J, rowJ_I, setJ_I, rowI_setI, rowJ_setJ, rowI_Ib, rowJ_Jb, setI_I, setJ_J, Nat.add_left_cancel_iff, Nat.reduceEqDiff, Nat.left_eq_add, Nat.add_eq_left, Nat.reduceAdd, gR, gI, gN, pI, not_false_eq_true, not_true_eq_false, and_true, true_and, and_false, false_and, or_true, true_or, or_false, false_or, km_0 HM, rm_1 HM, rm_2 HM, rm_3 HM, rm_4 HM, rm_16 HM, rm_17 HM, rm_18 HM, rm_21 HM, rm_22 HM, rm_23 HM, rm_24 HM, rm_27 HM, rm_28 HM, rm_29 HM, rm_30 HM, rm_31 HM, rm_33 HM, rm_34 HM, rm_35 HM, lm_1 HM, lm_2 HM, lm_3 HM, lm_4 HM, lm_5 HM, lm_6 HM, lm_7 HM, lm_8 HM, lm_9 HM, lm_10 HM, lm_11 HM, lm_12 HM, lm_13 HM, lm_14 HM, lm_15 HM, lm_16 HM, lm_17 HM, lm_18 HM, lm_19 HM, sm_1 HM, sm_2 HM, sm_3 HM, sm_4 HM, sm_5 HM, sm_6 HM, sm_7 HM, sm_8 HM, sm_9 HM, sm_10 HM, sm_11 HM, sm_12 HM, sm_13 HM, sm_14 HM, sm_15 HM, sm_16 HM, sm_17 HM, sm_18 HM, sm_19 HM, h66, hf]
  | succ d ih =>
    intro j i hj hi
    obtain ⟨i, rfl⟩ : ∃ k, i = k + 1 := ⟨i - 1, by omega⟩
    have hc : ¬ (49 ≤ j) := by omega
    have ih := ih (j + 1) i (by omega) (by omega)
    rw [f_X12_notes_58.eq_2]
    have h66 : cpy (h.I (b + 79)) f 0 (67 + 49 * e) j 66 = f 66 := cpy_up (by omega)
    simp (disch := omega) only [nI_leI, hc, bS, if_true, if_false, nI_lit, nI_add, nI_mul, rowI_R, rowJ_R, setI_R, setJ_R, rowI_J, setI_J, rowJ_I, setJ_I, rowI_setI, rowJ_setJ, rowI_Ib, rowJ_Jb, setI_I, setJ_J, Nat.add_left_cancel_iff, Nat.reduceEqDiff, Nat.left_eq_add, Nat.add_eq_left, Nat.reduceAdd, gR, gI, gN, pI, not_false_eq_true, not_true_eq_false, and_true, true_and, and_false, false_and, or_true, true_or, or_false, false_or, km_0 HM, rm_1 HM, rm_2 HM, rm_3 HM, rm_4 HM, rm_16 HM, rm_17 HM, rm_18 HM, rm_21 HM, rm_22 HM, rm_23 HM, rm_24 HM, rm_27 HM, rm_28 HM, rm_29 HM, rm_30 HM, rm_31 HM, rm_33 HM, rm_34 HM, rm_35 HM, lm_1 HM, lm_2 HM, lm_3 HM, lm_4 HM, lm_5 HM, lm_6 HM, lm_7 HM, lm_8 HM, lm_9 HM, lm_10 HM, lm_11 HM, lm_12 HM, lm_13 HM, lm_14 HM, lm_15 HM, lm_16 HM, lm_17 HM, lm_18 HM, lm_19 HM, sm_1 HM, sm_2 HM, sm_3 HM, sm_4 HM, sm_5 HM, sm_6 HM, sm_7 HM, sm_8 HM, sm_9 HM, sm_10 HM, sm_11 HM, sm_12 HM, sm_13 HM, sm_14 HM, sm_15 HM, sm_16 HM, sm_17 HM, sm_18 HM, sm_19 HM, h66, hf]
    rw [cpy_t0]
    exact ih
/-- the row behind a shift of the kept states -/
def shf (f : Nat → Int32) (j : Nat) : Nat → Int32 := fun k => if 67 ≤ k ∧ k < 67 + j then f (k + 49) else f k
theorem shf_0 (f : Nat → Int32) : shf f 0 = f := by
  funext k
  simp only [shf]
  rw [if_neg (by omega)]
theorem shf_s (f : Nat → Int32) (j : Nat) : upd (shf f j) (67 + j) (shf f j (116 + j)) = shf f (j + 1) := by
  funext k
  simp only [upd, shf]
  rw [if_neg (show ¬ (67 ≤ 116 + j ∧ 116 + j < 67 + j) by omega)]
  by_cases h1 : k = 67 + j
  · subst h1
    rw [if_pos rfl, if_pos (by omega)]
    congr 1
    omega
  · rw [if_neg h1]
    by_cases h2 : 67 ≤ k ∧ k < 67 + j
    · rw [if_pos h2, if_pos (by omega)]
    · rw [if_neg h2, if_neg (by omega)]
/-- what 'notes' leaves -/
def notesRow (A w : Nat → Int32) (e : Nat) : Nat → Int32 := if e = 10 then upd (cpy w (upd (shf A 441) 66 (nI 9)) 0 508 49) 66 (nI 10) else upd (cpy w A 0 (67 + 49 * e) 49) 66 (nI (e + 1))
theorem notes_14 {n : Nat} {z : Sh} {h : Hp} {b : Nat} (HM : LayR z h.2.2 (b + 72)) (f : Nat → Int32) (hf : f 66 = nI 10) (hn : 400000 ≤ n) : ∀ (d j i : Nat), j + d = 441 → d < i → f_X12_notes_14 n z i (h.rowI (b + 73) (shf f j)) (b + 72) (nI j) = some (h.rowI (b + 73) (notesRow f (h.I (b + 79)) 10)) := by
  intro d
  induction d with
  | zero =>
    intro j i hj hi
    obtain ⟨i, rfl⟩ : ∃ k, i = k + 1 := ⟨i - 1, by omega⟩
    obtain rfl : j = 441 := by omega
    rw [f_X12_notes_14.eq_2]
    have h66 : shf f 441 66 = f 66 := if_neg (by omega)
    simp (disch := omega) only [nI_leI, Nat.le_refl, bS, if_true, if_false, nI_lit, nI_add, nI_mul, rowI_R, rowJ_R, setI_R, setJ_R, rowI_J, setI_J, rowJ_I, setJ_I, rowI_setI, rowJ_setJ, rowI_Ib, rowJ_Jb, setI_I, setJ_J, Nat.add_left_cancel_iff, Nat.reduceEqDiff, Nat.left_eq_add, Nat.add_eq_left, Nat.reduceAdd, gR, gI, gN, pI, not_false_eq_true, not_true_eq_false, and_true, true_and, and_false, false_and, or_true, true_or, or_false, false_or, km_0 HM, rm_1 HM, rm_2 HM, rm_3 HM, rm_4 HM, rm_16 HM, rm_17 HM, rm_18 HM, rm_21 HM, rm_22 HM, rm_23 HM, rm_24 HM, rm_27 HM, rm_28 HM, rm_29 HM, rm_30 HM, rm_31 HM, rm_33 HM, rm_34 HM, rm_35 HM, lm_1 HM, lm_2 HM, lm_3 HM, lm_4 HM, lm_5 HM, lm_6 HM, lm_7 HM, lm_8 HM, lm_9 HM, lm_10 HM, lm_11 HM, lm_12 HM, lm_13 HM, lm_14 HM, lm_15 HM, lm_16 HM, lm_17 HM, lm_18 HM, lm_19 HM, sm_1 HM, sm_2 HM, sm_3 HM, sm_4 HM, sm_5 HM, sm_6 HM, sm_7 HM, sm_8 HM, sm_9 HM, sm_10 HM, sm_11 HM, sm_12 HM, sm_13 HM, sm_14 HM, sm_15 HM, sm_16 HM, sm_17 HM, sm_18 HM, sm_19 HM, h66, hf, f_X12_notes_56, nI_sub, Nat.reduceSub]
    have h1 := notes_58 (n := n) HM (upd (shf f 441) 66 (nI 9)) (e := 9) (by omega) (if_pos rfl) 49 0 n (by omega) (by omega)
    rw [cpy_0] at h1
    exact h1
  | succ d ih =>
    intro j i hj hi
    obtain ⟨i, rfl⟩ : ∃ k, i = k + 1 := ⟨i - 1, by omega⟩
    have hc : ¬ (441 ≤ j) := by omega
    have ih := ih (j + 1) i (by omega) (by omega)
    rw [f_X12_notes_14.eq_2]
    have h66 : shf f j 66 = f 66 := if_neg (by omega)
    simp (disch := omega) only [nI_leI, hc, bS, if_true, if_false, nI_lit, nI_add, nI_mul, rowI_R, rowJ_R, setI_R, setJ_R, rowI_J, setI_J, rowJ_I, setJ_I, rowI_setI, rowJ_setJ, rowI_Ib, rowJ_Jb, setI_I, setJ_J, Nat.add_left_cancel_iff, Nat.reduceEqDiff, Nat.left_eq_add, Nat.add_eq_left, Nat.reduceAdd, gR, gI, gN, pI, not_false_eq_true, not_true_eq_false, and_true, true_and, and_false, false_and, or_true, true_or, or_false, false_or, km_0 HM, rm_1 HM, rm_2 HM, rm_3 HM, rm_4 HM, rm_16 HM, rm_17 HM, rm_18 HM, rm_21 HM, rm_22 HM, rm_23 HM, rm_24 HM, rm_27 HM, rm_28 HM, rm_29 HM, rm_30 HM, rm_31 HM, rm_33 HM, rm_34 HM, rm_35 HM, lm_1 HM, lm_2 HM, lm_3 HM, lm_4 HM, lm_5 HM, lm_6 HM, lm_7 HM, lm_8 HM, lm_9 HM, lm_10 HM, lm_11 HM, lm_12 HM, lm_13 HM, lm_14 HM, lm_15 HM, lm_16 HM, lm_17 HM, lm_18 HM, lm_19 HM, sm_1 HM, sm_2 HM, sm_3 HM, sm_4 HM, sm_5 HM, sm_6 HM, sm_7 HM, sm_8 HM, sm_9 HM, sm_10 HM, sm_11 HM, sm_12 HM, sm_13 HM, sm_14 HM, sm_15 HM, sm_16 HM, sm_17 HM, sm_18 HM, sm_19 HM, h66, hf, f_X12_notes_56, nI_sub, Nat.reduceSub]
    rw [shf_s]
    exact ih
theorem notes_ok {n : Nat} {z : Sh} {h : Hp} {b : Nat} (HM : LayR z h.2.2 (b + 72)) (hn : 400000 ≤ n) {e : Nat} (he : e ≤ 10) (h66 : h.I (b + 73) 66 = nI e) : f_X12_notes n z h (b + 72) = some (h.rowI (b + 73) (notesRow (h.I (b + 73)) (h.I (b + 79)) e)) := by
  simp (disch := omega) only [f_X12_notes, bS, if_true, if_false, nI_lit, nI_add, nI_mul, rowI_R, rowJ_R, setI_R, setJ_R, rowI_J, setI_J, rowJ_I, setJ_I, rowI_setI, rowJ_setJ, rowI_Ib, rowJ_Jb, setI_I, setJ_J, Nat.add_left_cancel_iff, Nat.reduceEqDiff, Nat.left_eq_add, Nat.add_eq_left, Nat.reduceAdd, gR, gI, gN, pI, not_false_eq_true, not_true_eq_false, and_true, true_and, and_false, false_and, or_true, true_or, or_false, false_or, km_0 HM, rm_1 HM, rm_2 HM, rm_3 HM, rm_4 HM, rm_16 HM, rm_17 HM, rm_18 HM, rm_21 HM, rm_22 HM, rm_23 HM, rm_24 HM, rm_27 HM, rm_28 HM, rm_29 HM, rm_30 HM, rm_31 HM, rm_33 HM, rm_34 HM, rm_35 HM, lm_1 HM, lm_2 HM, lm_3 HM, lm_4 HM, lm_5 HM, lm_6 HM, lm_7 HM, lm_8 HM, lm_9 HM, lm_10 HM, lm_11 HM, lm_12 HM, lm_13 HM, lm_14 HM, lm_15 HM, lm_16 HM, lm_17 HM, lm_18 HM, lm_19 HM, sm_1 HM, sm_2 HM, sm_3 HM, sm_4 HM, sm_5 HM, sm_6 HM, sm_7 HM, sm_8 HM, sm_9 HM, sm_10 HM, sm_11 HM, sm_12 HM, sm_13 HM, sm_14 HM, sm_15 HM, sm_16 HM, sm_17 HM, sm_18 HM, sm_19 HM, h66, nI_inj]
  by_cases h10 : e = 10
  · subst h10
    simp only [if_true]
    have h1 := notes_14 (n := n) HM (h.I (b + 73)) h66 hn 441 0 n (by omega) (by omega)
    rw [shf_0, rowI_self] at h1
    exact h1
  · simp only [h10, if_false, f_X12_notes_56]
    have h1 := notes_58 (n := n) HM (h.I (b + 73)) (e := e) (by omega) h66 49 0 n (by omega) (by omega)
    rw [cpy_0, rowI_self] at h1
    simp only [notesRow, h10, if_false]
    exact h1
