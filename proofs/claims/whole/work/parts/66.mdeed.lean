/-! ===== deeds on the reference's side ===== -/
def RefI (b : Nat) (z : Sh) (h : Hp) (τ : TT) (P : Nat) (A : Nat → Int32) : Prop := LayR z h.2.2 (b + 72) ∧ TownOK τ ∧ h.I (b + 73) = A ∧ TownA A τ ∧ A 3 = nI P ∧ P ≤ 6 ∧ ∀ p, p < P → PerOK τ A p
theorem RefI.fr {b : Nat} {z : Sh} {h h' : Hp} {τ : TT} {P : Nat} {A : Nat → Int32} (H : RefI b z h τ P A) (hR : h'.2.2 = h.2.2) (h73 : h'.I (b + 73) = h.I (b + 73)) : RefI b z h' τ P A := by
  obtain ⟨h1, h2, h3, h4, h5, h6, h7⟩ := H
  exact ⟨by rw [hR]; exact h1, h2, h73.trans h3, h4, h5, h6, h7⟩
/-- the same with another row, as far as deeds change it -/
theorem TownA.up {A A' : Nat → Int32} {τ : TT} (H : TownA A τ) (h : ∀ k, k < 17 ∨ 66 ≤ k → A' k = A k) : TownA A' τ := by
  have hl : ∀ {i d : Nat} {L : List Nat}, i < 2 → LawA A i L d → LawA A' i L d := by
    intro i d L hi HL
    rcases HL with ⟨e1, e2⟩ | ⟨e1, fr, e2, e3, e4, e5⟩
    · exact Or.inl ⟨by rw [h _ (by omega)]; exact e1, e2⟩
    · exact Or.inr ⟨by rw [h _ (by omega)]; exact e1, fr, by rw [h _ (by omega)]; exact e2, by rw [h _ (by omega)]; exact e3, e4, fun k hk => by rw [h _ (by omega)]; exact e5 k hk⟩
  obtain ⟨h1, h2, h3, h4, h5⟩ := H
  exact ⟨by rw [h _ (by omega)]; exact h1, by rw [h _ (by omega)]; exact h2, by rw [h _ (by omega)]; exact h3, hl (by omega) h4, hl (by omega) h5⟩
theorem RefI.up {b : Nat} {z : Sh} {h h' : Hp} {τ : TT} {P : Nat} {A A' : Nat → Int32} (H : RefI b z h τ P A) (hR : h'.2.2 = h.2.2) (h73 : h'.I (b + 73) = A') (hk : ∀ k, k < 17 ∨ 66 ≤ k → A' k = A k) (hp : ∀ p, p < P → PerOK τ A' p) : RefI b z h' τ P A' := by
  obtain ⟨h1, h2, h3, h4, h5, h6, h7⟩ := H
  exact ⟨by rw [hR]; exact h1, h2, h73, h4.up hk, by rw [hk 3 (by omega)]; exact h5, h6, hp⟩
theorem cmpn_lt (x y : Int64) : lg_cmp x y < nI 0 ↔ x.toInt < y.toInt := cmp_lt x y
theorem cmpn_gt (x y : Int64) : nI 0 < lg_cmp x y ↔ y.toInt < x.toInt := cmp_gt x y
theorem cmpn_eq (x y : Int64) : lg_cmp x y = nI 0 ↔ x.toInt = y.toInt := cmp_eq x y
theorem cmpn_le (x y : Int64) : lg_cmp x y ≤ nI 0 ↔ x.toInt ≤ y.toInt := cmp_le x y
theorem cmpn_ge (x y : Int64) : nI 0 ≤ lg_cmp x y ↔ y.toInt ≤ x.toInt := cmp_ge x y
section
variable {n : Nat} {z : Sh} {h : Hp} {b : Nat} {τ : TT} {P : Nat} {A : Nat → Int32}
theorem nIm1 {P : Nat} (h : P ≤ 100) : (nI P - nI 1).toInt = (P : Int) - 1 := by
  rw [nI_iI, nI_iI, iI_sub, iI_to (by omega) (by omega)]
  rfl
theorem bz_n {c : Prop} [Decidable c] : bz (if c then nI 1 else nI 0) = some (if c then nI 1 else nI 0) := bz_if
theorem isP_ok (H : RefI b z h τ P A) (v : Int64) : f_X12_isPerson z h (b + 72) v = some (if 0 ≤ v.toInt ∧ v.toInt < P then 1 else 0) := by
  obtain ⟨HM, h2, h3, h4, h5, h6, h7⟩ := H
  have e : (nI P - nI 1).toInt64.toInt = (P : Int) - 1 := by rw [to64, nIm1 (by omega)]
  have e0 : (0 : Int64).toInt = 0 := rfl
  have e1 : (0 ≤ v.toInt ∧ v.toInt ≤ (P : Int) - 1) = (0 ≤ v.toInt ∧ v.toInt < P) := by
    apply propext
    omega
  simp (disch := omega) only [f_X12_isPerson, within_ok, bz_n, h3, h5, e, e0, e1, bS, if_true, if_false, nI_lit, nI_add, nI_mul, rowI_R, rowJ_R, setI_R, setJ_R, rowI_J, setI_J, rowJ_I, setJ_I, rowI_setI, rowJ_setJ, rowI_Ib, rowJ_Jb, setI_I, setJ_J, Nat.add_left_cancel_iff, Nat.reduceEqDiff, Nat.left_eq_add, Nat.add_eq_left, Nat.reduceAdd, gR, gI, gN, pI, not_false_eq_true, not_true_eq_false, and_true, true_and, and_false, false_and, or_true, true_or, or_false, false_or, km_0 HM, rm_1 HM, rm_2 HM, rm_3 HM, rm_4 HM, rm_16 HM, rm_17 HM, rm_18 HM, rm_21 HM, rm_22 HM, rm_23 HM, rm_24 HM, rm_27 HM, rm_28 HM, rm_29 HM, rm_30 HM, rm_31 HM, rm_33 HM, rm_34 HM, rm_35 HM, lm_1 HM, lm_2 HM, lm_3 HM, lm_4 HM, lm_5 HM, lm_6 HM, lm_7 HM, lm_8 HM, lm_9 HM, lm_10 HM, lm_11 HM, lm_12 HM, lm_13 HM, lm_14 HM, lm_15 HM, lm_16 HM, lm_17 HM, lm_18 HM, lm_19 HM, sm_1 HM, sm_2 HM, sm_3 HM, sm_4 HM, sm_5 HM, sm_6 HM, sm_7 HM, sm_8 HM, sm_9 HM, sm_10 HM, sm_11 HM, sm_12 HM, sm_13 HM, sm_14 HM, sm_15 HM, sm_16 HM, sm_17 HM, sm_18 HM, sm_19 HM]
theorem isT_ok (H : RefI b z h τ P A) (v : Int64) : f_X12_isTrade z h (b + 72) v = some (if 0 ≤ v.toInt ∧ v.toInt < tD τ then 1 else 0) := by
  obtain ⟨HM, h2, h3, h4, h5, h6, h7⟩ := H
  have h8 := h2.2.1
  have e : (nI (tD τ) - nI 1).toInt64.toInt = (tD τ : Int) - 1 := by rw [to64, nIm1 (by omega)]
  have e0 : (0 : Int64).toInt = 0 := rfl
  have e1 : (0 ≤ v.toInt ∧ v.toInt ≤ (tD τ : Int) - 1) = (0 ≤ v.toInt ∧ v.toInt < tD τ) := by
    apply propext
    omega
  simp (disch := omega) only [f_X12_isTrade, within_ok, bz_n, h3, h4.2.1, e, e0, e1, bS, if_true, if_false, nI_lit, nI_add, nI_mul, rowI_R, rowJ_R, setI_R, setJ_R, rowI_J, setI_J, rowJ_I, setJ_I, rowI_setI, rowJ_setJ, rowI_Ib, rowJ_Jb, setI_I, setJ_J, Nat.add_left_cancel_iff, Nat.reduceEqDiff, Nat.left_eq_add, Nat.add_eq_left, Nat.reduceAdd, gR, gI, gN, pI, not_false_eq_true, not_true_eq_false, and_true, true_and, and_false, false_and, or_true, true_or, or_false, false_or, km_0 HM, rm_1 HM, rm_2 HM, rm_3 HM, rm_4 HM, rm_16 HM, rm_17 HM, rm_18 HM, rm_21 HM, rm_22 HM, rm_23 HM, rm_24 HM, rm_27 HM, rm_28 HM, rm_29 HM, rm_30 HM, rm_31 HM, rm_33 HM, rm_34 HM, rm_35 HM, lm_1 HM, lm_2 HM, lm_3 HM, lm_4 HM, lm_5 HM, lm_6 HM, lm_7 HM, lm_8 HM, lm_9 HM, lm_10 HM, lm_11 HM, lm_12 HM, lm_13 HM, lm_14 HM, lm_15 HM, lm_16 HM, lm_17 HM, lm_18 HM, lm_19 HM, sm_1 HM, sm_2 HM, sm_3 HM, sm_4 HM, sm_5 HM, sm_6 HM, sm_7 HM, sm_8 HM, sm_9 HM, sm_10 HM, sm_11 HM, sm_12 HM, sm_13 HM, sm_14 HM, sm_15 HM, sm_16 HM, sm_17 HM, sm_18 HM, sm_19 HM]
theorem now_ok (H : RefI b z h τ P A) {j : Nat} (hj : j < P) : f_X12_standNow z h (b + 72) (nI j) = some (nI (aS A j)) := by
  obtain ⟨HM, h2, h3, h4, h5, h6, h7⟩ := H
  obtain ⟨⟨s01, s02, s03⟩, s1, s2, s3, s4, s5, s6, e11, e12, e13, e14, e15, e16, e17, e18, e19, -⟩ := Per_st h2 (h7 j hj)
  have h8 := h2.2.1
  have h9 := h2.1
  simp (disch := omega) only [f_X12_standNow, h3, e11, e12, e13, e14, e15, sN_ok, aS, bS, if_true, if_false, nI_lit, nI_add, nI_mul, rowI_R, rowJ_R, setI_R, setJ_R, rowI_J, setI_J, rowJ_I, setJ_I, rowI_setI, rowJ_setJ, rowI_Ib, rowJ_Jb, setI_I, setJ_J, Nat.add_left_cancel_iff, Nat.reduceEqDiff, Nat.left_eq_add, Nat.add_eq_left, Nat.reduceAdd, gR, gI, gN, pI, not_false_eq_true, not_true_eq_false, and_true, true_and, and_false, false_and, or_true, true_or, or_false, false_or, km_0 HM, rm_1 HM, rm_2 HM, rm_3 HM, rm_4 HM, rm_16 HM, rm_17 HM, rm_18 HM, rm_21 HM, rm_22 HM, rm_23 HM, rm_24 HM, rm_27 HM, rm_28 HM, rm_29 HM, rm_30 HM, rm_31 HM, rm_33 HM, rm_34 HM, rm_35 HM, lm_1 HM, lm_2 HM, lm_3 HM, lm_4 HM, lm_5 HM, lm_6 HM, lm_7 HM, lm_8 HM, lm_9 HM, lm_10 HM, lm_11 HM, lm_12 HM, lm_13 HM, lm_14 HM, lm_15 HM, lm_16 HM, lm_17 HM, lm_18 HM, lm_19 HM, sm_1 HM, sm_2 HM, sm_3 HM, sm_4 HM, sm_5 HM, sm_6 HM, sm_7 HM, sm_8 HM, sm_9 HM, sm_10 HM, sm_11 HM, sm_12 HM, sm_13 HM, sm_14 HM, sm_15 HM, sm_16 HM, sm_17 HM, sm_18 HM, sm_19 HM]
theorem over_ok (H : RefI b z h τ P A) {s : Nat} (hs : s < 3430) : f_X12_isOver z h (b + 72) (nI s) = some (if sY s < tY τ then 0 else 1) := by
  obtain ⟨HM, h2, h3, h4, h5, h6, h7⟩ := H
  have h9 := h2.1
  have h10 := sY_le s
  simp (disch := omega) only [f_X12_isOver, y_ok, h3, h4.1, nI_lt2, bS, if_true, if_false, nI_lit, nI_add, nI_mul, rowI_R, rowJ_R, setI_R, setJ_R, rowI_J, setI_J, rowJ_I, setJ_I, rowI_setI, rowJ_setJ, rowI_Ib, rowJ_Jb, setI_I, setJ_J, Nat.add_left_cancel_iff, Nat.reduceEqDiff, Nat.left_eq_add, Nat.add_eq_left, Nat.reduceAdd, gR, gI, gN, pI, not_false_eq_true, not_true_eq_false, and_true, true_and, and_false, false_and, or_true, true_or, or_false, false_or, km_0 HM, rm_1 HM, rm_2 HM, rm_3 HM, rm_4 HM, rm_16 HM, rm_17 HM, rm_18 HM, rm_21 HM, rm_22 HM, rm_23 HM, rm_24 HM, rm_27 HM, rm_28 HM, rm_29 HM, rm_30 HM, rm_31 HM, rm_33 HM, rm_34 HM, rm_35 HM, lm_1 HM, lm_2 HM, lm_3 HM, lm_4 HM, lm_5 HM, lm_6 HM, lm_7 HM, lm_8 HM, lm_9 HM, lm_10 HM, lm_11 HM, lm_12 HM, lm_13 HM, lm_14 HM, lm_15 HM, lm_16 HM, lm_17 HM, lm_18 HM, lm_19 HM, sm_1 HM, sm_2 HM, sm_3 HM, sm_4 HM, sm_5 HM, sm_6 HM, sm_7 HM, sm_8 HM, sm_9 HM, sm_10 HM, sm_11 HM, sm_12 HM, sm_13 HM, sm_14 HM, sm_15 HM, sm_16 HM, sm_17 HM, sm_18 HM, sm_19 HM]
  split <;> rfl
theorem wLive_ok (H : RefI b z h τ P A) (p t : Int64) : f_X12_whyLive z h (b + 72) p t = some (nI (aLive τ P A p.toInt t.toInt).1) := by
  have H' := H
  obtain ⟨HM, h2, h3, h4, h5, h6, h7⟩ := H'
  unfold f_X12_whyLive aLive
  rw [if_pos (km_0 HM), isP_ok H, bS]
  by_cases hp : 0 ≤ p.toInt ∧ p.toInt < P
  · rw [if_pos hp, if_neg (by decide), isT_ok H, bS]
    by_cases ht : 0 ≤ t.toInt ∧ t.toInt < tD τ
    · rw [if_pos ht, if_neg (by decide), if_pos ⟨hp, ht⟩]
      obtain ⟨j, hj, e2, e3⟩ := l_ex hp
      obtain ⟨s0, s1, s2, s3, s4, -⟩ := Per_st h2 (h7 j hj)
      rw [e2, lI_32, ← nI_iI, now_ok H hj, bS, over_ok H s1.1, bS, ← e2, e3, s4]
      simp only [Int.toNat_natCast]
      by_cases hy : nv A (18 + j) < tY τ
      · rw [if_pos hy, if_pos hy]
        rfl
      · rw [if_neg hy, if_neg hy]
        rfl
    · rw [if_neg ht, if_pos rfl, if_neg (fun q => ht q.2)]
      rfl
  · rw [if_neg hp, if_pos rfl, if_neg (fun q => hp q.1)]
    rfl
theorem wDraw_ok (H : RefI b z h τ P A) (p : Int64) : f_X12_whyDraw z h (b + 72) p = some (nI (aDraw τ P A p.toInt).1) := by
  have H' := H
  obtain ⟨HM, h2, h3, h4, h5, h6, h7⟩ := H'
  unfold f_X12_whyDraw aDraw
  rw [if_pos (km_0 HM), isP_ok H, bS]
  by_cases hp : 0 ≤ p.toInt ∧ p.toInt < P
  · rw [if_pos hp, if_neg (by decide), if_pos hp]
    obtain ⟨j, hj, e2, e3⟩ := l_ex hp
    obtain ⟨⟨s01, s02, s03⟩, s1, s2, s3, s4, s5, s6, e11, e12, e13, e14, e15, e16, e17, e18, e19, -⟩ := Per_st h2 (h7 j hj)
    have e4 : Int64.toInt32 p = nI j := by rw [e2, lI_32, nI_iI]
    rw [e3]
    simp (disch := omega) only [h3, e4, e11, e18, nI_inj, nI_leI, Int.toNat_natCast, bS, if_true, if_false, nI_lit, nI_add, nI_mul, rowI_R, rowJ_R, setI_R, setJ_R, rowI_J, setI_J, rowJ_I, setJ_I, rowI_setI, rowJ_setJ, rowI_Ib, rowJ_Jb, setI_I, setJ_J, Nat.add_left_cancel_iff, Nat.reduceEqDiff, Nat.left_eq_add, Nat.add_eq_left, Nat.reduceAdd, gR, gI, gN, pI, not_false_eq_true, not_true_eq_false, and_true, true_and, and_false, false_and, or_true, true_or, or_false, false_or, km_0 HM, rm_1 HM, rm_2 HM, rm_3 HM, rm_4 HM, rm_16 HM, rm_17 HM, rm_18 HM, rm_21 HM, rm_22 HM, rm_23 HM, rm_24 HM, rm_27 HM, rm_28 HM, rm_29 HM, rm_30 HM, rm_31 HM, rm_33 HM, rm_34 HM, rm_35 HM, lm_1 HM, lm_2 HM, lm_3 HM, lm_4 HM, lm_5 HM, lm_6 HM, lm_7 HM, lm_8 HM, lm_9 HM, lm_10 HM, lm_11 HM, lm_12 HM, lm_13 HM, lm_14 HM, lm_15 HM, lm_16 HM, lm_17 HM, lm_18 HM, lm_19 HM, sm_1 HM, sm_2 HM, sm_3 HM, sm_4 HM, sm_5 HM, sm_6 HM, sm_7 HM, sm_8 HM, sm_9 HM, sm_10 HM, sm_11 HM, sm_12 HM, sm_13 HM, sm_14 HM, sm_15 HM, sm_16 HM, sm_17 HM, sm_18 HM, sm_19 HM]
    by_cases hl : nv A (24 + j) = 1
    · rw [if_neg (by omega), if_pos hl]
      by_cases hpl : nv A (60 + j) = 0
      · rw [if_pos (by omega), if_pos hpl]
      · rw [if_neg (by omega), if_neg hpl]
    · rw [if_pos (by omega), if_neg hl]
  · rw [if_neg hp, if_pos rfl, if_neg hp]
    rfl
theorem wPledge_ok (H : RefI b z h τ P A) (p v : Int64) : f_X12_whyPledge z h (b + 72) p v = some (nI (aPledge P A p.toInt v.toInt).1) := by
  have H' := H
  obtain ⟨HM, h2, h3, h4, h5, h6, h7⟩ := H'
  unfold f_X12_whyPledge
  rw [if_pos (km_0 HM), within_ok, bS, wDraw_ok H]
  have e1 : (1 : Int64).toInt = 1 := rfl
  have e99 : (99 : Int64).toInt = 99 := rfl
  rw [e1, e99]
  unfold aPledge aDraw
  by_cases hv : 1 ≤ v.toInt ∧ v.toInt ≤ 99
  · rw [if_pos hv, if_neg (by decide), bS]
    by_cases hp : 0 ≤ p.toInt ∧ p.toInt < P
    · rw [if_pos hp, if_pos (show (0 ≤ p.toInt ∧ p.toInt < P) ∧ (1 ≤ v.toInt ∧ v.toInt ≤ 99) from ⟨hp, hv⟩)]
      by_cases hl : nv A (24 + p.toInt.toNat) = 1
      · rw [if_pos hl, if_pos hl]
        by_cases hpl : nv A (60 + p.toInt.toNat) = 0
        · rw [if_pos hpl, if_pos hpl, if_pos (show nI (0 : Nat) = 0 from rfl)]
          simp (disch := omega) only [h3, cmpn_ge, to64, bS, if_true, if_false, nI_lit, nI_add, nI_mul, rowI_R, rowJ_R, setI_R, setJ_R, rowI_J, setI_J, rowJ_I, setJ_I, rowI_setI, rowJ_setJ, rowI_Ib, rowJ_Jb, setI_I, setJ_J, Nat.add_left_cancel_iff, Nat.reduceEqDiff, Nat.left_eq_add, Nat.add_eq_left, Nat.reduceAdd, gR, gI, gN, pI, not_false_eq_true, not_true_eq_false, and_true, true_and, and_false, false_and, or_true, true_or, or_false, false_or, km_0 HM, rm_1 HM, rm_2 HM, rm_3 HM, rm_4 HM, rm_16 HM, rm_17 HM, rm_18 HM, rm_21 HM, rm_22 HM, rm_23 HM, rm_24 HM, rm_27 HM, rm_28 HM, rm_29 HM, rm_30 HM, rm_31 HM, rm_33 HM, rm_34 HM, rm_35 HM, lm_1 HM, lm_2 HM, lm_3 HM, lm_4 HM, lm_5 HM, lm_6 HM, lm_7 HM, lm_8 HM, lm_9 HM, lm_10 HM, lm_11 HM, lm_12 HM, lm_13 HM, lm_14 HM, lm_15 HM, lm_16 HM, lm_17 HM, lm_18 HM, lm_19 HM, sm_1 HM, sm_2 HM, sm_3 HM, sm_4 HM, sm_5 HM, sm_6 HM, sm_7 HM, sm_8 HM, sm_9 HM, sm_10 HM, sm_11 HM, sm_12 HM, sm_13 HM, sm_14 HM, sm_15 HM, sm_16 HM, sm_17 HM, sm_18 HM, sm_19 HM]
          by_cases hc : v.toInt ≤ (A 17).toInt
          · rw [if_pos hc, if_pos hc]
          · rw [if_neg hc, if_neg hc]
        · rw [if_neg hpl, if_neg hpl, if_neg (show ¬ (nI 3 = 0) by decide)]
      · rw [if_neg hl, if_neg hl, if_neg (show ¬ (nI 2 = 0) by decide)]
    · rw [if_neg hp, if_neg (show ¬ ((0 ≤ p.toInt ∧ p.toInt < P) ∧ (1 ≤ v.toInt ∧ v.toInt ≤ 99)) from fun q => hp q.1), if_neg (show ¬ (nI 1 = 0) by decide)]
  · rw [if_neg hv, if_pos rfl, if_neg (fun q => hv q.2)]
    rfl
theorem wRedeem_ok (H : RefI b z h τ P A) (p : Int64) : f_X12_whyRedeem z h (b + 72) p = some (nI (aRedeem P A p.toInt).1) := by
  have H' := H
  obtain ⟨HM, h2, h3, h4, h5, h6, h7⟩ := H'
  unfold f_X12_whyRedeem aRedeem
  rw [if_pos (km_0 HM), isP_ok H, bS]
  by_cases hp : 0 ≤ p.toInt ∧ p.toInt < P
  · rw [if_pos hp, if_neg (by decide), if_pos hp]
    obtain ⟨j, hj, e2, e3⟩ := l_ex hp
    obtain ⟨⟨s01, s02, s03⟩, s1, s2, s3, s4, s5, s6, e11, e12, e13, e14, e15, e16, e17, e18, e19, -⟩ := Per_st h2 (h7 j hj)
    have e4 : Int64.toInt32 p = nI j := by rw [e2, lI_32, nI_iI]
    rw [e3]
    simp (disch := omega) only [h3, e4, e11, e18, nI_inj, nI_leI, Int.toNat_natCast, bS, if_true, if_false, nI_lit, nI_add, nI_mul, rowI_R, rowJ_R, setI_R, setJ_R, rowI_J, setI_J, rowJ_I, setJ_I, rowI_setI, rowJ_setJ, rowI_Ib, rowJ_Jb, setI_I, setJ_J, Nat.add_left_cancel_iff, Nat.reduceEqDiff, Nat.left_eq_add, Nat.add_eq_left, Nat.reduceAdd, gR, gI, gN, pI, not_false_eq_true, not_true_eq_false, and_true, true_and, and_false, false_and, or_true, true_or, or_false, false_or, km_0 HM, rm_1 HM, rm_2 HM, rm_3 HM, rm_4 HM, rm_16 HM, rm_17 HM, rm_18 HM, rm_21 HM, rm_22 HM, rm_23 HM, rm_24 HM, rm_27 HM, rm_28 HM, rm_29 HM, rm_30 HM, rm_31 HM, rm_33 HM, rm_34 HM, rm_35 HM, lm_1 HM, lm_2 HM, lm_3 HM, lm_4 HM, lm_5 HM, lm_6 HM, lm_7 HM, lm_8 HM, lm_9 HM, lm_10 HM, lm_11 HM, lm_12 HM, lm_13 HM, lm_14 HM, lm_15 HM, lm_16 HM, lm_17 HM, lm_18 HM, lm_19 HM, sm_1 HM, sm_2 HM, sm_3 HM, sm_4 HM, sm_5 HM, sm_6 HM, sm_7 HM, sm_8 HM, sm_9 HM, sm_10 HM, sm_11 HM, sm_12 HM, sm_13 HM, sm_14 HM, sm_15 HM, sm_16 HM, sm_17 HM, sm_18 HM, sm_19 HM]
    by_cases hpl : nv A (60 + j) = 0
    · rw [if_pos hpl, if_pos hpl]
    · rw [if_neg hpl, if_neg hpl]
  · rw [if_neg hp, if_pos rfl, if_neg hp]
    rfl
theorem stands_ok (H : RefI b z h τ P A) {j s : Nat} (hj : j < P) (hs : s < 3430) {f : Nat → Int32} : f_X12_stands z (h.rowI (b + 73) f) (b + 72) (nI j) (nI s) = some (h.rowI (b + 73) (upd (upd (upd (upd (upd f (24 + j) (nI (sL s))) (48 + j) (nI (sO s))) (18 + j) (nI (sY s))) (36 + j) (nI (sA s))) (42 + j) (nI (sT s)))) := by
  obtain ⟨HM, h2, h3, h4, h5, h6, h7⟩ := H
  simp (disch := omega) only [f_X12_stands, l_ok, o_ok, y_ok, a_ok, t_ok, bS, if_true, if_false, nI_lit, nI_add, nI_mul, rowI_R, rowJ_R, setI_R, setJ_R, rowI_J, setI_J, rowJ_I, setJ_I, rowI_setI, rowJ_setJ, rowI_Ib, rowJ_Jb, setI_I, setJ_J, Nat.add_left_cancel_iff, Nat.reduceEqDiff, Nat.left_eq_add, Nat.add_eq_left, Nat.reduceAdd, gR, gI, gN, pI, not_false_eq_true, not_true_eq_false, and_true, true_and, and_false, false_and, or_true, true_or, or_false, false_or, km_0 HM, rm_1 HM, rm_2 HM, rm_3 HM, rm_4 HM, rm_16 HM, rm_17 HM, rm_18 HM, rm_21 HM, rm_22 HM, rm_23 HM, rm_24 HM, rm_27 HM, rm_28 HM, rm_29 HM, rm_30 HM, rm_31 HM, rm_33 HM, rm_34 HM, rm_35 HM, lm_1 HM, lm_2 HM, lm_3 HM, lm_4 HM, lm_5 HM, lm_6 HM, lm_7 HM, lm_8 HM, lm_9 HM, lm_10 HM, lm_11 HM, lm_12 HM, lm_13 HM, lm_14 HM, lm_15 HM, lm_16 HM, lm_17 HM, lm_18 HM, lm_19 HM, sm_1 HM, sm_2 HM, sm_3 HM, sm_4 HM, sm_5 HM, sm_6 HM, sm_7 HM, sm_8 HM, sm_9 HM, sm_10 HM, sm_11 HM, sm_12 HM, sm_13 HM, sm_14 HM, sm_15 HM, sm_16 HM, sm_17 HM, sm_18 HM, sm_19 HM]
theorem mlives_ok (H : RefI b z h τ P A) (hn : 400000 ≤ n) {j k : Nat} (hj : j < P) (hk : k < tD τ) (hy : nv A (18 + j) < tY τ) : ∃ r1 r2, f_X12_lives n z h (b + 72) (nI j) (nI k) = some (iI (wV τ (nv A (54 + j)) (aS A j) k), ((h.rowI (b + 78) r1).rowI (b + 77) r2).rowI (b + 73) (aLive τ P A j k).2) := by
  have H' := H
  obtain ⟨HM, h2, h3, h4, h5, h6, h7⟩ := H'
  obtain ⟨s0, s1, s2, s3, s4, s5, s6, e11, e12, e13, e14, e15, e16, e17, e18, e19, -⟩ := Per_st h2 (h7 j hj)
  obtain ⟨s01, s02, s03⟩ := id s0
  have hD := h2.2.1
  have hY := h2.1
  obtain ⟨r1, r2, hw⟩ := mworth_ok (n := n) (z := z) (h := h) HM hn h2 (by rw [h3]; exact h4) (tal := nv A (54 + j)) (s := aS A j) (t := k) e17 s1.1 (by omega)
  refine ⟨r1, r2, ?_⟩
  have hl := lv_SV h2 s1 hk (by omega)
  have g73 : ((h.rowI (b + 78) r1).rowI (b + 77) r2).I (b + 73) = A := by rw [rowI_ne _ _ (by omega), rowI_ne _ _ (by omega), h3]
  have HM2 : LayR z ((h.rowI (b + 78) r1).rowI (b + 77) r2).2.2 (b + 72) := HM
  have H2 : RefI b z ((h.rowI (b + 78) r1).rowI (b + 77) r2) τ P A := H.fr rfl (by rw [g73, h3])
  unfold f_X12_lives
  rw [if_pos (km_0 HM), now_ok H hj, bS, gR, if_pos (km_0 HM), rm_1 HM, bS, show (54 : Int32) = nI 54 from rfl, nI_add, lm_1 HM (by omega), bS, h3, e16, hw, bS]
  dsimp only
  generalize (h.rowI (b + 78) r1).rowI (b + 77) r2 = g at *
  rw [gR, if_pos (km_0 HM2), rm_1 HM2, bS, show (30 : Int32) = nI 30 from rfl, nI_add, lm_1 HM2 (by omega), bS, sm_1 HM2 (by omega), bS, setI_row, lv_ok s1.1 (by omega), bS, stands_ok H2 hj hl.1.1, bS, g73]
  congr 3
  rw [hl.2.1, hl.2.2.1, hl.2.2.2.1, hl.2.2.2.2.1, hl.2.2.2.2.2, s2, s3, s4, s5, s6]
  unfold aLive
  rw [if_pos (show (0 ≤ (j : Int) ∧ (j : Int) < P) ∧ (0 ≤ (k : Int) ∧ (k : Int) < tD τ) by omega)]
  simp only [Int.toNat_natCast]
  rw [if_pos hy]
  dsimp only
  generalize (if nv A (36 + j) = k then nv A (42 + j) + 1 else 1) = w9
  funext i
  unfold upd dl
  by_cases c1 : i = 42 + j
  · subst c1
    rw [if_pos rfl, if_neg (by omega), if_neg (by omega), if_neg (by omega), if_pos rfl]
  · rw [if_neg c1]
    by_cases c2 : i = 36 + j
    · subst c2
      rw [if_pos rfl, if_neg (by omega), if_neg (by omega), if_pos rfl]
    · rw [if_neg c2]
      by_cases c3 : i = 18 + j
      · subst c3
        rw [if_pos rfl, if_pos rfl]
      · rw [if_neg c3, if_neg c3, if_neg c2, if_neg c1]
        by_cases c4 : i = 48 + j
        · subst c4
          rw [if_pos rfl, if_neg (by omega)]
          exact e12.symm
        · rw [if_neg c4]
          by_cases c5 : i = 24 + j
          · subst c5
            rw [if_pos rfl, if_neg (by omega)]
            exact e11.symm
          · rw [if_neg c5]
theorem mdraws_ok (H : RefI b z h τ P A) (hn : 400000 ≤ n) {j : Nat} (hj : j < P) (hl : nv A (24 + j) = 1) (hpl : nv A (60 + j) = 0) : ∃ r1 r2, f_X12_drawsIt n z h (b + 72) (nI j) = some (((h.rowI (b + 78) r1).rowI (b + 77) r2).rowI (b + 73) (aDraw τ P A j).2) := by
  have H' := H
  obtain ⟨HM, h2, h3, h4, h5, h6, h7⟩ := H'
  obtain ⟨s0, s1, s2, s3, s4, s5, s6, e11, e12, e13, e14, e15, e16, e17, e18, e19, -⟩ := Per_st h2 (h7 j hj)
  obtain ⟨r1, r2, hw⟩ := mdrawn_ok (n := n) (z := z) (h := h) HM hn h2 (by rw [h3]; exact h4) (tal := nv A (54 + j)) (s := aS A j) e17 s1.1
  refine ⟨r1, r2, ?_⟩
  have hd := dr_SV h2 (tal := nv A (54 + j)) s1
  have g73 : ((h.rowI (b + 78) r1).rowI (b + 77) r2).I (b + 73) = A := by rw [rowI_ne _ _ (by omega), rowI_ne _ _ (by omega), h3]
  have H2 : RefI b z ((h.rowI (b + 78) r1).rowI (b + 77) r2) τ P A := H.fr rfl (by rw [g73, h3])
  unfold f_X12_drawsIt
  rw [if_pos (km_0 HM), gR, if_pos (km_0 HM), rm_1 HM, bS, show (54 : Int32) = nI 54 from rfl, nI_add, lm_1 HM (by omega), bS, h3, e16, now_ok H hj, bS, hw, bS]
  dsimp only
  generalize (h.rowI (b + 78) r1).rowI (b + 77) r2 = g at *
  rw [show f_X12_stands z g (b + 72) (nI j) (nI (drN τ (nv A (54 + j)) (aS A j))) = f_X12_stands z (g.rowI (b + 73) A) (b + 72) (nI j) (nI (drN τ (nv A (54 + j)) (aS A j))) from by rw [← g73, rowI_self], stands_ok H2 hj hd.1.1, bS]
  congr 2
  rw [hd.2.1, hd.2.2.1, hd.2.2.2.1, hd.2.2.2.2.1, hd.2.2.2.2.2, s4]
  unfold aDraw
  rw [if_pos (show (0 ≤ (j : Int) ∧ (j : Int) < P) by omega)]
  simp only [Int.toNat_natCast]
  rw [if_pos hl, if_pos hpl]
  dsimp only
  funext i
  unfold upd dr
  by_cases c1 : i = 42 + j
  · subst c1
    rw [if_pos rfl, if_neg (by omega), if_neg (by omega), if_neg (by omega), if_pos rfl]
  · rw [if_neg c1]
    by_cases c2 : i = 36 + j
    · subst c2
      rw [if_pos rfl, if_neg (by omega), if_neg (by omega), if_pos rfl]
    · rw [if_neg c2]
      by_cases c3 : i = 18 + j
      · subst c3
        rw [if_pos rfl, if_pos rfl]
      · rw [if_neg c3, if_neg c3]
        by_cases c4 : i = 48 + j
        · subst c4
          rw [if_pos rfl, if_neg (by omega), if_neg (by omega), if_neg (by omega), if_pos rfl]
        · rw [if_neg c4]
          by_cases c5 : i = 24 + j
          · subst c5
            rw [if_pos rfl, if_pos rfl]
          · rw [if_neg c5, if_neg c5, if_neg c2, if_neg c1, if_neg c4]
theorem mgoes_ok (H : RefI b z h τ P A) {j : Nat} (hj : j < P) (v : Int32) : f_X12_goes z h (b + 72) (nI j) v = some (h.rowI (b + 73) (go A j v)) := by
  obtain ⟨HM, h2, h3, h4, h5, h6, h7⟩ := H
  simp (disch := omega) only [f_X12_goes, setI_row, rowI_rowI, h3, bS, if_true, if_false, nI_lit, nI_add, nI_mul, rowI_R, rowJ_R, setI_R, setJ_R, rowI_J, setI_J, rowJ_I, setJ_I, rowI_setI, rowJ_setJ, rowI_Ib, rowJ_Jb, setI_I, setJ_J, Nat.add_left_cancel_iff, Nat.reduceEqDiff, Nat.left_eq_add, Nat.add_eq_left, Nat.reduceAdd, gR, gI, gN, pI, not_false_eq_true, not_true_eq_false, and_true, true_and, and_false, false_and, or_true, true_or, or_false, false_or, km_0 HM, rm_1 HM, rm_2 HM, rm_3 HM, rm_4 HM, rm_16 HM, rm_17 HM, rm_18 HM, rm_21 HM, rm_22 HM, rm_23 HM, rm_24 HM, rm_27 HM, rm_28 HM, rm_29 HM, rm_30 HM, rm_31 HM, rm_33 HM, rm_34 HM, rm_35 HM, lm_1 HM, lm_2 HM, lm_3 HM, lm_4 HM, lm_5 HM, lm_6 HM, lm_7 HM, lm_8 HM, lm_9 HM, lm_10 HM, lm_11 HM, lm_12 HM, lm_13 HM, lm_14 HM, lm_15 HM, lm_16 HM, lm_17 HM, lm_18 HM, lm_19 HM, sm_1 HM, sm_2 HM, sm_3 HM, sm_4 HM, sm_5 HM, sm_6 HM, sm_7 HM, sm_8 HM, sm_9 HM, sm_10 HM, sm_11 HM, sm_12 HM, sm_13 HM, sm_14 HM, sm_15 HM, sm_16 HM, sm_17 HM, sm_18 HM, sm_19 HM]
  congr 2
  funext i
  unfold upd go
  by_cases c1 : i = 17
  · subst c1
    rw [if_pos rfl, if_neg (by omega), if_neg (by omega), if_neg (by omega), if_neg (by omega), if_pos rfl]
  · rw [if_neg c1]
    by_cases c2 : i = 30 + j
    · subst c2
      rw [if_pos rfl, if_neg (by omega), if_neg (by omega), if_pos rfl]
    · rw [if_neg c2, if_neg c2, if_neg c1]
      by_cases c3 : i = 60 + j
      · subst c3
        rw [if_pos rfl]
      · rw [if_neg c3, if_neg c3]
end
