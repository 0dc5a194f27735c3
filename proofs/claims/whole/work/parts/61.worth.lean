/-! ===== stands and worths on both sides ===== -/
theorem y_ok {z : Sh} {h : Hp} {s : Nat} (hs : s < 3430) : f_X12_yearOf z h (nI s) = some (nI (sY s)) := by
  simp (disch := omega) only [f_X12_yearOf, nI_lit, dvI_ok, rmI_ok, bS, sY]
theorem l_ok {z : Sh} {h : Hp} {s : Nat} (hs : s < 3430) : f_X12_lifeOf z h (nI s) = some (nI (sL s)) := by
  simp (disch := omega) only [f_X12_lifeOf, nI_lit, dvI_ok, rmI_ok, bS, sL, nI_add]
theorem o_ok {z : Sh} {h : Hp} {s : Nat} (hs : s < 3430) : f_X12_oldOf z h (nI s) = some (nI (sO s)) := by
  simp (disch := omega) only [f_X12_oldOf, nI_lit, dvI_ok, rmI_ok, bS, sO, nI_add]
theorem t_ok {z : Sh} {h : Hp} {s : Nat} (hs : s < 3430) : f_X12_streakOf z h (nI s) = some (nI (sT s)) := by
  simp (disch := omega) only [f_X12_streakOf, nI_lit, dvI_ok, rmI_ok, bS, sT, nI_add]
theorem a_ok {z : Sh} {h : Hp} {s : Nat} (hs : s < 3430) : f_X12_lastOf z h (nI s) = some (nI (sA s)) := by
  simp (disch := omega) only [f_X12_lastOf, nI_lit, dvI_ok, rmI_ok, bS, sA, nI_add, nI_inj]
  split <;> rfl
theorem sL_le {s : Nat} (hs : s < 3430) : sL s ≤ 2 ∧ 1 ≤ sL s := by unfold sL; omega
theorem sO_le (s : Nat) : sO s ≤ 6 := by unfold sO; omega
theorem sY_le (s : Nat) : sY s ≤ 6 := by unfold sY; omega
theorem sT_le (s : Nat) : sT s ≤ 6 := by unfold sT; omega
theorem sA_le (s : Nat) : sA s ≤ 9 := by unfold sA; split <;> omega
theorem sN_ok {z : Sh} {h : Hp} {l o y la st : Nat} (h1 : 1 ≤ l) (h2 : l ≤ 100) (h3 : o ≤ 100) (h4 : y ≤ 100) (h5 : la ≤ 100) (h6 : st ≤ 100) : f_X12_standOf z h (nI l) (nI o) (nI y) (nI la) (nI st) = some (nI (sN l o y la st)) := by
  simp (disch := omega) only [f_X12_standOf, f_X12_standOf_27, nI_lit, nI_inj, nI_add, nI_mul, nI_sub, sN]
  split <;> rfl
theorem sN_lt {l o y la st : Nat} (h1 : 1 ≤ l) (h2 : l ≤ 2) (h3 : o ≤ 6) (h4 : y ≤ 6) (h5 : la = 9 ∨ la ≤ 3) (h6 : st ≤ 6) : sN l o y la st < 3430 ∧ sL (sN l o y la st) = l ∧ sO (sN l o y la st) = o ∧ sY (sN l o y la st) = y ∧ sA (sN l o y la st) = la ∧ sT (sN l o y la st) = st := by
  unfold sL sO sY sA sT sN
  rcases h5 with rfl | h5
  · simp only [if_true]
    refine ⟨by omega, by omega, by omega, by omega, ?_, by omega⟩
    rw [if_pos (by omega)]
  · rw [if_neg (show ¬ la = 9 by omega)]
    refine ⟨by omega, by omega, by omega, by omega, ?_, by omega⟩
    rw [if_neg (by omega)]
    omega
theorem SV_of {τ : TT} (hτ : TownOK τ) {l o y la st : Nat} (h : SOK τ l o y la st) : SV τ (sN l o y la st) ∧ sL (sN l o y la st) = l ∧ sO (sN l o y la st) = o ∧ sY (sN l o y la st) = y ∧ sA (sN l o y la st) = la ∧ sT (sN l o y la st) = st := by
  obtain ⟨⟨g1, g2⟩, ⟨g3, g4⟩, -⟩ := hτ
  obtain ⟨k1, k2, k3⟩ := h
  obtain ⟨q1, q2, q3, q4, q5, q6⟩ := sN_lt (l := l) (o := o) (y := y) (la := la) (st := st) (by omega) (by omega) (by omega) (by omega) (by omega) (by omega)
  refine ⟨⟨q1, ?_⟩, q2, q3, q4, q5, q6⟩
  rw [q2, q3, q4, q5, q6]
  exact ⟨k1, k2, k3⟩
theorem gV_le (τ : TT) (tal y : Nat) : gV τ tal y ≤ tY τ := by
  unfold gV
  split
  · split <;> omega
  · omega
theorem lv_SV {τ : TT} (hτ : TownOK τ) {s t : Nat} (hs : SV τ s) (ht : t < tD τ) (hy : sY s < tY τ) : SV τ (lvN s t) ∧ sL (lvN s t) = sL s ∧ sO (lvN s t) = sO s ∧ sY (lvN s t) = sY s + 1 ∧ sA (lvN s t) = t ∧ sT (lvN s t) = (if sA s = t then sT s + 1 else 1) := by
  obtain ⟨k0, k1, k2, k3⟩ := hs
  refine SV_of hτ ⟨k1, hy, Or.inr ⟨ht, ?_, ?_⟩⟩
  · split <;> omega
  · split <;> omega
theorem dr_SV {τ : TT} (hτ : TownOK τ) {tal s : Nat} (hs : SV τ s) : SV τ (drN τ tal s) ∧ sL (drN τ tal s) = 2 ∧ sO (drN τ tal s) = sY s ∧ sY (drN τ tal s) = gV τ tal (sY s) ∧ sA (drN τ tal s) = 9 ∧ sT (drN τ tal s) = 0 := by
  obtain ⟨k0, k1, k2, k3⟩ := hs
  exact SV_of hτ ⟨Or.inr ⟨rfl, k2⟩, gV_le τ tal _, Or.inl ⟨rfl, rfl⟩⟩
theorem lv_ok {z : Sh} {h : Hp} {s t : Nat} (hs : s < 3430) (ht : t ≤ 100) : f_X12_livedTo z h (nI s) (nI t) = some (nI (lvN s t)) := by
  have h1 := sL_le hs
  have h2 := sO_le s
  have h3 := sY_le s
  have h4 := sA_le s
  have h5 := sT_le s
  simp (disch := omega) only [f_X12_livedTo, f_X12_livedTo_33, l_ok, o_ok, y_ok, a_ok, t_ok, nI_lit, nI_inj, nI_add, bS, sN_ok, lvN]
  split <;> rfl
/-! facts are small -/
theorem fcW_bd {tal s t : Nat} (hs : s < 3430) (h1 : tal ≤ 9) (h2 : t ≤ 9) : ∀ k, k < 7 → -1000000 ≤ fcW tal s t k ∧ fcW tal s t k ≤ 1000000 := by
  intro k _
  have h1 := sL_le hs
  have h2 := sO_le s
  have h3 := sY_le s
  have h4 := sA_le s
  have h5 := sT_le s
  unfold fcW
  split <;> omega
theorem fcG_bd {tal y : Nat} (h1 : tal ≤ 9) (h2 : y ≤ 9) : ∀ k, k < 2 → -1000000 ≤ fcG tal y k ∧ fcG tal y k ≤ 1000000 := by
  intro k _
  unfold fcG
  split <;> omega
theorem lawV_of {L : List Nat} {f : Nat → Int} {v : Int} (h : rn f L [] = some [v]) : lawV L f = v := by
  unfold lawV
  rw [h]
theorem cl9_ok (v : Int) : -9 ≤ cl9 v ∧ cl9 v ≤ 9 := by
  unfold cl9
  split
  · split <;> omega
  · omega
theorem wV_bd (τ : TT) (tal s t : Nat) : -9 ≤ wV τ tal s t ∧ wV τ tal s t ≤ 9 := cl9_ok _
theorem lit_m9 : (-9 : Int32) = iI (-9) := by decide
theorem lit_9 : (9 : Int32) = iI 9 := by decide
theorem lit_0 : (0 : Int32) = iI 0 := by decide
theorem rows2_self (h : Hp) (a c : Nat) : (h.rowI a (h.I a)).rowI c (h.I c) = h := by
  rw [rowI_self, rowI_self]
theorem setI_row (h : Hp) (a k : Nat) (x : Int32) : h.setI a k x = h.rowI a (upd (h.I a) k x) := rfl
def wR (g : Nat → Int32) (tal s t : Nat) : Nat → Int32 := upd (upd (upd (upd (upd (upd (upd g 0 (nI tal)) 1 (nI (sY s))) 2 (nI t)) 3 (nI (sA s))) 4 (nI (sT s))) 5 (nI (sL s))) 6 (nI (sO s))
set_option maxHeartbeats 1000000 in
/-- the reference's worth of a year -/
theorem mworth_ok {n : Nat} {z : Sh} {h : Hp} {b : Nat} (HM : LayR z h.2.2 (b + 72)) (hn : 400000 ≤ n) {τ : TT} (hτ : TownOK τ) (hA : TownA (h.I (b + 73)) τ) {tal s t : Nat} (h1 : tal ≤ 9) (hs : s < 3430) (h2 : t ≤ 9) : ∃ r1 r2, f_X12_worthOf n z h (b + 72) (nI tal) (nI s) (nI t) = some (iI (wV τ tal s t), (h.rowI (b + 78) r1).rowI (b + 77) r2) := by
  obtain ⟨-, -, -, hw, -⟩ := hA
  obtain ⟨-, -, -, ⟨l1, l2, l3⟩, -⟩ := hτ
  obtain ⟨v, hv, hb⟩ := l3 _ (fcW_bd hs h1 h2)
  rcases hw with ⟨e5, eL⟩ | ⟨e5, fr, e7, e9, hfl, hC⟩
  · refine ⟨h.I (b + 78), h.I (b + 77), ?_⟩
    rw [rows2_self]
    have e : wV τ tal s t = 1 := by
      unfold wV lawV
      rw [eL]
      rfl
    simp (disch := omega) only [f_X12_worthOf, e5, e, bS, if_true, if_false, nI_lit, nI_add, nI_mul, rowI_R, rowJ_R, setI_R, setJ_R, rowI_J, setI_J, rowJ_I, setJ_I, rowI_setI, rowJ_setJ, rowI_Ib, rowJ_Jb, setI_I, setJ_J, Nat.add_left_cancel_iff, Nat.reduceEqDiff, Nat.left_eq_add, Nat.add_eq_left, Nat.reduceAdd, gR, gI, gN, pI, not_false_eq_true, not_true_eq_false, and_true, true_and, and_false, false_and, or_true, true_or, or_false, false_or, km_0 HM, rm_1 HM, rm_2 HM, rm_3 HM, rm_4 HM, rm_16 HM, rm_17 HM, rm_18 HM, rm_21 HM, rm_22 HM, rm_23 HM, rm_24 HM, rm_27 HM, rm_28 HM, rm_29 HM, rm_30 HM, rm_31 HM, rm_33 HM, rm_34 HM, rm_35 HM, lm_1 HM, lm_2 HM, lm_3 HM, lm_4 HM, lm_5 HM, lm_6 HM, lm_7 HM, lm_8 HM, lm_9 HM, lm_10 HM, lm_11 HM, lm_12 HM, lm_13 HM, lm_14 HM, lm_15 HM, lm_16 HM, lm_17 HM, lm_18 HM, lm_19 HM, sm_1 HM, sm_2 HM, sm_3 HM, sm_4 HM, sm_5 HM, sm_6 HM, sm_7 HM, sm_8 HM, sm_9 HM, sm_10 HM, sm_11 HM, sm_12 HM, sm_13 HM, sm_14 HM, sm_15 HM, sm_16 HM, sm_17 HM, sm_18 HM, sm_19 HM]
    rfl
  · have q := reck_4 (n := n) (z := z) (h := h.rowI (b + 78) (wR (h.I (b + 78)) tal s t)) (b := b) HM (law := 0) (fr := fr) (len := (tW τ).length) (by omega) (by rw [rowI_Ib, if_neg (by omega)]; exact e7) (by rw [rowI_Ib, if_neg (by omega)]; exact e9) hfl (f := fcW tal s t) (v := v) (tW τ) 0 n (h.I (b + 77)) [] (fun k hk => by rw [rowI_Ib, if_neg (by omega), Nat.zero_add]; exact hC k hk) (fun c hc c1 c2 => by
      rw [rowI_Ib, if_pos rfl]
      obtain ⟨k, rfl⟩ : ∃ k, c = 1000 + k := ⟨c - 1000, by omega⟩
      rw [show 1000 + k - 1000 = k by omega]
      match k, c2 with
      | 0, _ => exact nI_iI _
      | 1, _ => exact nI_iI _
      | 2, _ => exact nI_iI _
      | 3, _ => exact nI_iI _
      | 4, _ => exact nI_iI _
      | 5, _ => exact nI_iI _
      | 6, _ => exact nI_iI _
      | k + 7, c2 => omega) (by omega) (by omega) trivial (by simp) hv
    obtain ⟨r', q⟩ := q
    rw [show (h.rowI (b + 78) (wR (h.I (b + 78)) tal s t)).rowI (b + 77) (h.I (b + 77)) = h.rowI (b + 78) (wR (h.I (b + 78)) tal s t) from by rw [rowI_comm _ _ _ (by omega), rowI_self]] at q
    refine ⟨wR (h.I (b + 78)) tal s t, r', ?_⟩
    simp (disch := omega) only [f_X12_worthOf, e5, f_X12_reckons, y_ok, l_ok, o_ok, a_ok, t_ok, nI_inj, Nat.reduceEqDiff, setI_row, rowI_rowI, bS, if_true, if_false, nI_lit, nI_add, nI_mul, rowI_R, rowJ_R, setI_R, setJ_R, rowI_J, setI_J, rowJ_I, setJ_I, rowI_setI, rowJ_setJ, rowI_Ib, rowJ_Jb, setI_I, setJ_J, Nat.add_left_cancel_iff, Nat.reduceEqDiff, Nat.left_eq_add, Nat.add_eq_left, Nat.reduceAdd, gR, gI, gN, pI, not_false_eq_true, not_true_eq_false, and_true, true_and, and_false, false_and, or_true, true_or, or_false, false_or, km_0 HM, rm_1 HM, rm_2 HM, rm_3 HM, rm_4 HM, rm_16 HM, rm_17 HM, rm_18 HM, rm_21 HM, rm_22 HM, rm_23 HM, rm_24 HM, rm_27 HM, rm_28 HM, rm_29 HM, rm_30 HM, rm_31 HM, rm_33 HM, rm_34 HM, rm_35 HM, lm_1 HM, lm_2 HM, lm_3 HM, lm_4 HM, lm_5 HM, lm_6 HM, lm_7 HM, lm_8 HM, lm_9 HM, lm_10 HM, lm_11 HM, lm_12 HM, lm_13 HM, lm_14 HM, lm_15 HM, lm_16 HM, lm_17 HM, lm_18 HM, lm_19 HM, sm_1 HM, sm_2 HM, sm_3 HM, sm_4 HM, sm_5 HM, sm_6 HM, sm_7 HM, sm_8 HM, sm_9 HM, sm_10 HM, sm_11 HM, sm_12 HM, sm_13 HM, sm_14 HM, sm_15 HM, sm_16 HM, sm_17 HM, sm_18 HM, sm_19 HM]
    simp only [List.length_nil, wR] at q
    rw [q, bS]
    dsimp only
    have e : wV τ tal s t = cl9 v := by rw [wV, lawV_of hv]
    have m9 : (-nI 9 : Int32) = iI (-9) := by decide
    have p9 : (nI 9 : Int32) = iI 9 := by decide
    simp only [m9]
    simp (disch := omega) only [p9, iI_le]
    rw [e, cl9]
    simp only [wR]
    split
    · split <;> rfl
    · rfl

set_option maxHeartbeats 1000000 in
/-- how far the kept one has grown, as the reference tells it -/
theorem mgrown_ok {n : Nat} {z : Sh} {h : Hp} {b : Nat} (HM : LayR z h.2.2 (b + 72)) (hn : 400000 ≤ n) {τ : TT} (hτ : TownOK τ) (hA : TownA (h.I (b + 73)) τ) {tal y : Nat} (h1 : tal ≤ 9) (h2 : y ≤ 9) : ∃ r1 r2, f_X12_grownTo n z h (b + 72) (nI tal) (nI y) = some (nI (gV τ tal y), (h.rowI (b + 78) r1).rowI (b + 77) r2) := by
  obtain ⟨eY, -, -, -, hw⟩ := hA
  obtain ⟨⟨y1, y2⟩, -, -, -, ⟨l1, l2, l3⟩⟩ := hτ
  obtain ⟨v, hv, hb⟩ := l3 _ (fcG_bd h1 h2)
  rcases hw with ⟨e5, eL⟩ | ⟨e5, fr, e7, e9, hfl, hC⟩
  · refine ⟨h.I (b + 78), h.I (b + 77), ?_⟩
    rw [rows2_self]
    have e : gV τ tal y = 0 := by
      unfold gV lawV
      rw [eL]
      simp [rn, rn1]
    simp (disch := omega) only [f_X12_grownTo, e5, e, bS, if_true, if_false, nI_lit, nI_add, nI_mul, rowI_R, rowJ_R, setI_R, setJ_R, rowI_J, setI_J, rowJ_I, setJ_I, rowI_setI, rowJ_setJ, rowI_Ib, rowJ_Jb, setI_I, setJ_J, Nat.add_left_cancel_iff, Nat.reduceEqDiff, Nat.left_eq_add, Nat.add_eq_left, Nat.reduceAdd, gR, gI, gN, pI, not_false_eq_true, not_true_eq_false, and_true, true_and, and_false, false_and, or_true, true_or, or_false, false_or, km_0 HM, rm_1 HM, rm_2 HM, rm_3 HM, rm_4 HM, rm_16 HM, rm_17 HM, rm_18 HM, rm_21 HM, rm_22 HM, rm_23 HM, rm_24 HM, rm_27 HM, rm_28 HM, rm_29 HM, rm_30 HM, rm_31 HM, rm_33 HM, rm_34 HM, rm_35 HM, lm_1 HM, lm_2 HM, lm_3 HM, lm_4 HM, lm_5 HM, lm_6 HM, lm_7 HM, lm_8 HM, lm_9 HM, lm_10 HM, lm_11 HM, lm_12 HM, lm_13 HM, lm_14 HM, lm_15 HM, lm_16 HM, lm_17 HM, lm_18 HM, lm_19 HM, sm_1 HM, sm_2 HM, sm_3 HM, sm_4 HM, sm_5 HM, sm_6 HM, sm_7 HM, sm_8 HM, sm_9 HM, sm_10 HM, sm_11 HM, sm_12 HM, sm_13 HM, sm_14 HM, sm_15 HM, sm_16 HM, sm_17 HM, sm_18 HM, sm_19 HM]
  · have q := reck_4 (n := n) (z := z) (h := h.rowI (b + 78) (upd (upd (h.I (b + 78)) 0 (nI tal)) 1 (nI y))) (b := b) HM (law := 1) (fr := fr) (len := (tG τ).length) (by omega) (by rw [rowI_Ib, if_neg (by omega)]; exact e7) (by rw [rowI_Ib, if_neg (by omega)]; exact e9) hfl (f := fcG tal y) (v := v) (tG τ) 0 n (h.I (b + 77)) [] (fun k hk => by rw [rowI_Ib, if_neg (by omega), Nat.zero_add]; exact hC k hk) (fun c hc c1 c2 => by
      rw [rowI_Ib, if_pos rfl]
      have := l2 c hc c1 c2
      obtain ⟨k, rfl⟩ : ∃ k, c = 1000 + k := ⟨c - 1000, by omega⟩
      rw [show 1000 + k - 1000 = k by omega]
      match k, this with
      | 0, _ => exact nI_iI _
      | 1, _ => exact nI_iI _
      | k + 2, c2 => omega) (by omega) (by omega) trivial (by simp) hv
    obtain ⟨r', q⟩ := q
    rw [show (h.rowI (b + 78) (upd (upd (h.I (b + 78)) 0 (nI tal)) 1 (nI y))).rowI (b + 77) (h.I (b + 77)) = h.rowI (b + 78) (upd (upd (h.I (b + 78)) 0 (nI tal)) 1 (nI y)) from by rw [rowI_comm _ _ _ (by omega), rowI_self]] at q
    refine ⟨upd (upd (h.I (b + 78)) 0 (nI tal)) 1 (nI y), r', ?_⟩
    simp (disch := omega) only [f_X12_grownTo, e5, f_X12_reckons, nI_inj, Nat.reduceEqDiff, setI_row, rowI_rowI, bS, if_true, if_false, nI_lit, nI_add, nI_mul, rowI_R, rowJ_R, setI_R, setJ_R, rowI_J, setI_J, rowJ_I, setJ_I, rowI_setI, rowJ_setJ, rowI_Ib, rowJ_Jb, setI_I, setJ_J, Nat.add_left_cancel_iff, Nat.reduceEqDiff, Nat.left_eq_add, Nat.add_eq_left, Nat.reduceAdd, gR, gI, gN, pI, not_false_eq_true, not_true_eq_false, and_true, true_and, and_false, false_and, or_true, true_or, or_false, false_or, km_0 HM, rm_1 HM, rm_2 HM, rm_3 HM, rm_4 HM, rm_16 HM, rm_17 HM, rm_18 HM, rm_21 HM, rm_22 HM, rm_23 HM, rm_24 HM, rm_27 HM, rm_28 HM, rm_29 HM, rm_30 HM, rm_31 HM, rm_33 HM, rm_34 HM, rm_35 HM, lm_1 HM, lm_2 HM, lm_3 HM, lm_4 HM, lm_5 HM, lm_6 HM, lm_7 HM, lm_8 HM, lm_9 HM, lm_10 HM, lm_11 HM, lm_12 HM, lm_13 HM, lm_14 HM, lm_15 HM, lm_16 HM, lm_17 HM, lm_18 HM, lm_19 HM, sm_1 HM, sm_2 HM, sm_3 HM, sm_4 HM, sm_5 HM, sm_6 HM, sm_7 HM, sm_8 HM, sm_9 HM, sm_10 HM, sm_11 HM, sm_12 HM, sm_13 HM, sm_14 HM, sm_15 HM, sm_16 HM, sm_17 HM, sm_18 HM, sm_19 HM]
    simp only [List.length_nil] at q
    rw [q, bS]
    dsimp only
    have e : (gV τ tal y : Int) = (if 0 ≤ v then (if v ≤ tY τ then v else tY τ) else 0) := by
      rw [gV, lawV_of hv]
      split
      · split <;> omega
      · omega
    rw [nI_iI (gV τ tal y), e]
    have p0 : (nI 0 : Int32) = iI 0 := by decide
    simp (disch := omega) only [eY, p0, iI_le, bS, if_true, if_false, nI_lit, nI_add, nI_mul, rowI_R, rowJ_R, setI_R, setJ_R, rowI_J, setI_J, rowJ_I, setJ_I, rowI_setI, rowJ_setJ, rowI_Ib, rowJ_Jb, setI_I, setJ_J, Nat.add_left_cancel_iff, Nat.reduceEqDiff, Nat.left_eq_add, Nat.add_eq_left, Nat.reduceAdd, gR, gI, gN, pI, not_false_eq_true, not_true_eq_false, and_true, true_and, and_false, false_and, or_true, true_or, or_false, false_or, km_0 HM, rm_1 HM, rm_2 HM, rm_3 HM, rm_4 HM, rm_16 HM, rm_17 HM, rm_18 HM, rm_21 HM, rm_22 HM, rm_23 HM, rm_24 HM, rm_27 HM, rm_28 HM, rm_29 HM, rm_30 HM, rm_31 HM, rm_33 HM, rm_34 HM, rm_35 HM, lm_1 HM, lm_2 HM, lm_3 HM, lm_4 HM, lm_5 HM, lm_6 HM, lm_7 HM, lm_8 HM, lm_9 HM, lm_10 HM, lm_11 HM, lm_12 HM, lm_13 HM, lm_14 HM, lm_15 HM, lm_16 HM, lm_17 HM, lm_18 HM, lm_19 HM, sm_1 HM, sm_2 HM, sm_3 HM, sm_4 HM, sm_5 HM, sm_6 HM, sm_7 HM, sm_8 HM, sm_9 HM, sm_10 HM, sm_11 HM, sm_12 HM, sm_13 HM, sm_14 HM, sm_15 HM, sm_16 HM, sm_17 HM, sm_18 HM, sm_19 HM]
    have p9 : nI (tY τ) = iI (tY τ) := nI_iI _
    simp (disch := omega) only [p9, iI_le]
    split
    · split <;> rfl
    · rfl
theorem mdrawn_ok {n : Nat} {z : Sh} {h : Hp} {b : Nat} (HM : LayR z h.2.2 (b + 72)) (hn : 400000 ≤ n) {τ : TT} (hτ : TownOK τ) (hA : TownA (h.I (b + 73)) τ) {tal s : Nat} (h1 : tal ≤ 9) (hs : s < 3430) : ∃ r1 r2, f_X12_drawnTo n z h (b + 72) (nI tal) (nI s) = some (nI (drN τ tal s), (h.rowI (b + 78) r1).rowI (b + 77) r2) := by
  have h3 := sY_le s
  obtain ⟨r1, r2, e⟩ := mgrown_ok (n := n) (z := z) HM hn hτ hA h1 (show sY s ≤ 9 by omega)
  have h4 := gV_le τ tal (sY s)
  have h5 := hτ.1
  refine ⟨r1, r2, ?_⟩
  simp (disch := omega) only [f_X12_drawnTo, km_0 HM, if_true, y_ok, e, bS, nI_lit, sN_ok, drN]

/-! the class's side -/
theorem cworth_ok {n : Nat} {z : Sh} {h : Hp} {b : Nat} (HX : LayX z h.2.2 b) (hn : 400000 ≤ n) {τ : TT} {t : Nat} (hτ : TownOK τ) (hT : TownX b z h t τ) {tal s tr : Nat} (h1 : tal ≤ 9) (hs : s < 3430) (h2 : tr ≤ 9) (hf : ∀ k, k < 7 → k ≠ 2 → h.I (b + 41) k = iI (fcW tal s tr k)) : ∃ r1 r2, f_X7_worthOf n z h (b + 40) t (nI tr) = some (iI (wV τ tal s tr), (h.rowI (b + 41) r1).rowI (b + 42) r2) := by
  obtain ⟨ht, hK, -, -, -, ⟨a, ha, ⟨g1, g2, g3, g4⟩⟩, -⟩ := hT
  obtain ⟨-, -, -, ⟨l1, l2, l3⟩, -⟩ := hτ
  obtain ⟨v, hv, hb⟩ := l3 _ (fcW_bd hs h1 h2)
  have q := tell_4 (n := n) (z := z) (h := h.rowI (b + 41) (upd (h.I (b + 41)) 2 (nI tr))) (b := b) HX (a := a) g2 g3 (by omega) l1 (f := fcW tal s tr) (v := v) (tW τ) 0 n (h.I (b + 42)) [] (fun k hk => by rw [rowI_Ib, if_neg (by omega), Nat.zero_add]; exact g4 k hk) (fun c hc c1 c2 => by
    rw [rowI_Ib, if_pos rfl, upd]
    by_cases e : c - 1000 = 2
    · rw [if_pos e, e]
      exact nI_iI _
    · rw [if_neg e]
      exact hf _ (by omega) e) (by omega) (by omega) trivial (by simp) hv
  obtain ⟨r', q⟩ := q
  rw [show (h.rowI (b + 41) (upd (h.I (b + 41)) 2 (nI tr))).rowI (b + 42) (h.I (b + 42)) = h.rowI (b + 41) (upd (h.I (b + 41)) 2 (nI tr)) from by rw [rowI_comm _ _ _ (by omega), rowI_self]] at q
  refine ⟨upd (h.I (b + 41)) 2 (nI tr), r', ?_⟩
  simp (disch := omega) only [f_X7_worthOf, f_X7_tell, hK, ha, setI_row, bS, if_true, if_false, nI_lit, nI_add, nI_mul, rowI_R, rowJ_R, setI_R, setJ_R, rowI_J, setI_J, rowJ_I, setJ_I, rowI_setI, rowJ_setJ, rowI_Ib, rowJ_Jb, setI_I, setJ_J, Nat.add_left_cancel_iff, Nat.reduceEqDiff, Nat.left_eq_add, Nat.add_eq_left, Nat.reduceAdd, gR, gI, gN, pI, not_false_eq_true, not_true_eq_false, and_true, true_and, and_false, false_and, or_true, true_or, or_false, false_or, kx_40 HX, kx_41 HX, kx_42 HX, rx_40_0 HX, rx_40_1 HX, lx_41 HX, lx_42 HX, sx_41 HX, sx_42 HX, nx_41 HX, nx_42 HX]
  simp only [List.length_nil] at q
  rw [q, bS]
  dsimp only
  rw [show (-nI 9 : Int32) = iI (-9) by decide, show (nI 9 : Int32) = iI 9 by decide, win_ok (by omega) (by omega) (by omega) (by omega) (by omega) (by omega), wV, lawV_of hv, bS]
  rfl
theorem cgrown_ok {n : Nat} {z : Sh} {h : Hp} {b : Nat} (HX : LayX z h.2.2 b) (hn : 400000 ≤ n) {τ : TT} {t : Nat} (hτ : TownOK τ) (hT : TownX b z h t τ) {tal y : Nat} (h1 : tal ≤ 9) (h2 : y ≤ 9) (hf0 : h.I (b + 41) 0 = nI tal) (hf1 : h.I (b + 41) 1 = nI y) : ∃ r2, f_X7_grownOf n z h (b + 40) t = some (nI (gV τ tal y), h.rowI (b + 42) r2) := by
  obtain ⟨ht, hK, eY, -, -, -, ⟨a, ha, ⟨g1, g2, g3, g4⟩⟩⟩ := hT
  obtain ⟨⟨y1, y2⟩, -, -, -, ⟨l1, l2, l3⟩⟩ := hτ
  obtain ⟨v, hv, hb⟩ := l3 _ (fcG_bd h1 h2)
  have q := tell_4 (n := n) (z := z) (h := h) (b := b) HX (a := a) g2 g3 (by omega) l1 (f := fcG tal y) (v := v) (tG τ) 0 n (h.I (b + 42)) [] (fun k hk => by rw [Nat.zero_add]; exact g4 k hk) (fun c hc c1 c2 => by
    have := l2 c hc c1 c2
    obtain ⟨k, rfl⟩ : ∃ k, c = 1000 + k := ⟨c - 1000, by omega⟩
    rw [show 1000 + k - 1000 = k by omega]
    match k, this with
    | 0, _ => exact hf0.trans (nI_iI _)
    | 1, _ => exact hf1.trans (nI_iI _)
    | k + 2, c2 => omega) (by omega) (by omega) trivial (by simp) hv
  obtain ⟨r', q⟩ := q
  rw [rowI_self] at q
  refine ⟨r', ?_⟩
  have eY2 : (h.rowI (b + 42) r').I t 0 = iI (tY τ) := by rw [rowI_ne h _ (by omega), eY, nI_iI]
  simp (disch := omega) only [f_X7_grownOf, f_X7_tell, hK, ha, bS, if_true, if_false, nI_lit, nI_add, nI_mul, rowI_R, rowJ_R, setI_R, setJ_R, rowI_J, setI_J, rowJ_I, setJ_I, rowI_setI, rowJ_setJ, rowI_Ib, rowJ_Jb, setI_I, setJ_J, Nat.add_left_cancel_iff, Nat.reduceEqDiff, Nat.left_eq_add, Nat.add_eq_left, Nat.reduceAdd, gR, gI, gN, pI, not_false_eq_true, not_true_eq_false, and_true, true_and, and_false, false_and, or_true, true_or, or_false, false_or, kx_40 HX, kx_41 HX, kx_42 HX, rx_40_0 HX, rx_40_1 HX, lx_41 HX, lx_42 HX, sx_41 HX, sx_42 HX, nx_41 HX, nx_42 HX]
  simp only [List.length_nil] at q
  rw [q, bS]
  dsimp only
  rw [eY2, show (nI 0 : Int32) = iI 0 by decide, win_ok (by omega) (by omega) (by omega) (by omega) (by omega) (by omega), bS]
  have e : (gV τ tal y : Int) = (if 0 ≤ v then (if v ≤ tY τ then v else tY τ) else 0) := by
    rw [gV, lawV_of hv]
    split
    · split <;> omega
    · omega
  rw [nI_iI (gV τ tal y), e]

