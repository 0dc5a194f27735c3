/-! ===== laws: what a row of signs tells ===== -/
def clM (v : Int) : Int := if v ≤ 1000000 then (if -1000000 ≤ v then v else -1000000) else 1000000
def opV (c : Nat) (x y : Int) : Int :=
  if c = 3000 then clM (x + y) else if c = 3001 then clM (x - y) else if c = 3002 then clM (x * y) else if c = 3003 then (if x = y then 1 else 0) else if c = 3004 then (if x < y then 1 else 0) else if c = 3005 then (if y < x then 1 else 0) else if c = 3007 then (if x = 1 ∧ y = 1 then 1 else 0) else (if x = 1 ∨ y = 1 then 1 else 0)
def rn1 (f : Nat → Int) (c : Nat) (st : List Int) : Option (List Int) :=
  if c < 1000 then (if st.length < 64 then some ((c : Int) :: st) else none)
  else if c < 3000 then (if st.length < 64 ∧ c < 1007 then some (f (c - 1000) :: st) else none)
  else if c = 3006 then (match st with | x :: r => if x = 0 ∨ x = 1 then some ((1 - x) :: r) else none | [] => none)
  else if c = 3009 then (match st with | e :: t :: x :: r => if x = 0 ∨ x = 1 then some ((if x = 1 then t else e) :: r) else none | _ => none)
  else if c ≤ 3008 then (match st with | y :: x :: r => if ((-1000000 ≤ x ∧ x ≤ 1000000) ∧ (-1000000 ≤ y ∧ y ≤ 1000000)) ∧ (3007 ≤ c → (x = 0 ∨ x = 1) ∧ (y = 0 ∨ y = 1)) then some (opV c x y :: r) else none | _ => none) else none
def rn (f : Nat → Int) : List Nat → List Int → Option (List Int)
  | [], st => some st
  | c :: L, st => (rn1 f c st).bind (rn f L)
theorem rn1_inv {f : Nat → Int} {c : Nat} {st st1 : List Int} (h : rn1 f c st = some st1) :
    (c < 1000 ∧ st.length < 64 ∧ st1 = (c : Int) :: st) ∨ (1000 ≤ c ∧ c < 1007 ∧ st.length < 64 ∧ st1 = f (c - 1000) :: st) ∨ (c = 3006 ∧ ∃ x r, st = x :: r ∧ (x = 0 ∨ x = 1) ∧ st1 = (1 - x) :: r) ∨ (c = 3009 ∧ ∃ e t x r, st = e :: t :: x :: r ∧ (x = 0 ∨ x = 1) ∧ st1 = (if x = 1 then t else e) :: r) ∨ ((3000 ≤ c ∧ c ≤ 3008 ∧ c ≠ 3006) ∧ ∃ y x r, st = y :: x :: r ∧ ((-1000000 ≤ x ∧ x ≤ 1000000) ∧ (-1000000 ≤ y ∧ y ≤ 1000000)) ∧ (3007 ≤ c → (x = 0 ∨ x = 1) ∧ (y = 0 ∨ y = 1)) ∧ st1 = opV c x y :: r) := by
  unfold rn1 at h
  split at h
  · split at h
    · cases h
      exact Or.inl ⟨by assumption, by assumption, rfl⟩
    · cases h
  · split at h
    · split at h
      · rename_i h1 h2 h3
        cases h
        exact Or.inr (Or.inl ⟨by omega, h3.2, h3.1, rfl⟩)
      · cases h
    · split at h
      · rename_i h1 h2 h3
        split at h
        · split at h
          · rename_i h4
            cases h
            exact Or.inr (Or.inr (Or.inl ⟨h3, _, _, rfl, h4, rfl⟩))
          · cases h
        · cases h
      · split at h
        · rename_i h1 h2 h3 h4
          split at h
          · split at h
            · rename_i h5
              cases h
              exact Or.inr (Or.inr (Or.inr (Or.inl ⟨h4, _, _, _, _, rfl, h5, rfl⟩)))
            · cases h
          · cases h
        · split at h
          · rename_i h1 h2 h3 h4 h5
            split at h
            · split at h
              · rename_i h6
                cases h
                exact Or.inr (Or.inr (Or.inr (Or.inr ⟨⟨by omega, h5, h3⟩, _, _, _, rfl, h6.1, h6.2, rfl⟩)))
              · cases h
            · cases h
          · cases h
theorem rn_cons {f : Nat → Int} {c : Nat} {L : List Nat} {st s2 : List Int} (h : rn f (c :: L) st = some s2) : ∃ s1, rn1 f c st = some s1 ∧ rn f L s1 = some s2 := by
  unfold rn at h
  cases h1 : rn1 f c st with
  | none => rw [h1] at h; cases h
  | some s1 => rw [h1] at h; exact ⟨s1, rfl, h⟩
/-- a heap of numbers in a row: the top behind all others -/
def Stk (r : Nat → Int32) : List Int → Prop
  | [] => True
  | x :: xs => r xs.length = iI x ∧ Stk r xs
theorem Stk_up {r : Nat → Int32} {k : Nat} {v : Int32} : ∀ {st : List Int}, st.length ≤ k → Stk r st → Stk (upd r k v) st
  | [], _, _ => trivial
  | x :: xs, hk, h => by
    simp only [List.length_cons] at hk
    exact ⟨by rw [upd, if_neg (by omega)]; exact h.1, Stk_up (by omega) h.2⟩
theorem Stk_push {r : Nat → Int32} {x : Int} {st : List Int} (h : Stk r st) : Stk (upd r st.length (iI x)) (x :: st) := ⟨if_pos rfl, Stk_up (Nat.le_refl _) h⟩
theorem clM_bd (v : Int) : -1000000 ≤ clM v ∧ clM v ≤ 1000000 := by
  unfold clM
  split
  · split <;> omega
  · omega
theorem bet_116 {z : Sh} {h : Hp} {v : Int} (h1 : -9000000000000000000 ≤ v) (h2 : v ≤ 9000000000000000000) : f_X12_between_116 z h (lI v) = some (iI (clM v)) := by
  unfold f_X12_between_116 clM
  have e1 : ((1000000 : Int64)).toInt = 1000000 := rfl
  have e2 : ((-1000000 : Int64)).toInt = -1000000 := rfl
  have e3 : (lI v).toInt = v := lI_to (by omega) (by omega)
  simp only [cmp_le, cmp_ge, e1, e2, e3]
  by_cases c1 : v ≤ 1000000
  · simp only [c1, if_true]
    by_cases c2 : -1000000 ≤ v
    · simp only [c2, if_true, lI_32]
    · simp only [c2, if_false]
      rfl
  · simp only [c1, if_false]
    rfl
theorem and01 {x y : Int} (hx : x = 0 ∨ x = 1) (hy : y = 0 ∨ y = 1) : iI x &&& iI y = iI (if x = 1 ∧ y = 1 then 1 else 0) := by
  rcases hx with rfl | rfl <;> rcases hy with rfl | rfl <;> rfl
theorem or01 {x y : Int} (hx : x = 0 ∨ x = 1) (hy : y = 0 ∨ y = 1) : iI x ||| iI y = iI (if x = 1 ∨ y = 1 then 1 else 0) := by
  rcases hx with rfl | rfl <;> rcases hy with rfl | rfl <;> rfl
theorem op_cases {c : Nat} (h : 3000 ≤ c ∧ c ≤ 3008 ∧ c ≠ 3006) : c = 3000 ∨ c = 3001 ∨ c = 3002 ∨ c = 3003 ∨ c = 3004 ∨ c = 3005 ∨ c = 3007 ∨ c = 3008 := by omega
theorem mul_bd {x y : Int} (h1 : -1000000 ≤ x) (h2 : x ≤ 1000000) (h3 : -1000000 ≤ y) (h4 : y ≤ 1000000) : -1000000000000 ≤ x * y ∧ x * y ≤ 1000000000000 := by
  have h : (x * y).natAbs ≤ 1000000 * 1000000 := by
    rw [Int.natAbs_mul]
    exact Nat.mul_le_mul (by omega) (by omega)
  omega
theorem between_ok {z : Sh} {h : Hp} {c : Nat} {x y : Int} (hc : 3000 ≤ c ∧ c ≤ 3008 ∧ c ≠ 3006) (hb : (-1000000 ≤ x ∧ x ≤ 1000000) ∧ (-1000000 ≤ y ∧ y ≤ 1000000)) (ht : 3007 ≤ c → (x = 0 ∨ x = 1) ∧ (y = 0 ∨ y = 1)) : f_X12_between z h (nI c) (iI x) (iI y) = some (iI (opV c x y)) := by
  have hm := mul_bd hb.1.1 hb.1.2 hb.2.1 hb.2.2
  rcases op_cases hc with rfl | rfl | rfl | rfl | rfl | rfl | rfl | rfl
  · simp (disch := omega) only [f_X12_between, opV, nI_lit, nI_inj, iI_64, lI_add, bet_116, Nat.reduceEqDiff, if_true, if_false]
  · simp (disch := omega) only [f_X12_between, opV, nI_lit, nI_inj, iI_64, lI_sub, bet_116, Nat.reduceEqDiff, if_true, if_false]
  · simp (disch := omega) only [f_X12_between, opV, nI_lit, nI_inj, iI_64, lI_mul, bet_116, Nat.reduceEqDiff, if_true, if_false]
  · simp (disch := omega) only [f_X12_between, opV, nI_lit, nI_inj, iI_eq, Nat.reduceEqDiff, if_true, if_false]
    split <;> rfl
  · simp (disch := omega) only [f_X12_between, opV, nI_lit, nI_inj, iI_le, Nat.reduceEqDiff, if_true, if_false]
    by_cases h1 : y ≤ x
    · rw [if_pos h1, if_neg (by omega)]
      rfl
    · rw [if_neg h1, if_pos (by omega)]
      rfl
  · simp (disch := omega) only [f_X12_between, opV, nI_lit, nI_inj, iI_le, Nat.reduceEqDiff, if_true, if_false]
    by_cases h1 : x ≤ y
    · rw [if_pos h1, if_neg (by omega)]
      rfl
    · rw [if_neg h1, if_pos (by omega)]
      rfl
  · have ht := ht (by omega)
    simp (disch := omega) only [f_X12_between, opV, nI_lit, nI_inj, Nat.reduceEqDiff, if_true, if_false, and01 ht.1 ht.2]
  · have ht := ht (by omega)
    simp (disch := omega) only [f_X12_between, opV, nI_lit, nI_inj, Nat.reduceEqDiff, if_true, if_false, or01 ht.1 ht.2]
theorem nI_m1 (k : Nat) : nI (k + 1) + -nI 1 = nI k := by
  rw [nI_iI, nI_iI, nI_iI, iI_neg, iI_add]
  congr 1
  omega
theorem nI_m2 (k : Nat) : nI (k + 2) + -nI 2 = nI k := by
  rw [nI_iI, nI_iI, nI_iI, iI_neg, iI_add]
  congr 1
  omega
theorem nI_p (k : Nat) : nI (k + 1) - nI 1 = nI k := by
  rw [nI_sub (by omega)]
  rfl
set_option maxHeartbeats 4000000 in
theorem reck_4 {n : Nat} {z : Sh} {h : Hp} {b : Nat} (HM : LayR z h.2.2 (b + 72)) {law fr len : Nat} (hl : law < 2) (h7 : h.I (b + 73) (7 + law) = nI fr) (h9 : h.I (b + 73) (9 + law) = nI len) (hfl : fr + len ≤ 900) {f : Nat → Int} {v : Int} :
    ∀ (L : List Nat) (j i : Nat) (r : Nat → Int32) (st : List Int), (∀ k, k < L.length → h.I (b + 73) (558 + fr + (j + k)) = nI (L.getD k 0)) → (∀ c ∈ L, 1000 ≤ c → c < 1007 → h.I (b + 78) (c - 1000) = iI (f (c - 1000))) → j + L.length = len → L.length < i → Stk r st → st.length ≤ 64 → rn f L st = some [v] → ∃ r', f_X12_reckons_4 n z i (h.rowI (b + 77) r) (b + 72) (nI law) (nI st.length) (nI j) = some (iI v, h.rowI (b + 77) r') := by
  intro L
  induction L with
  | nil =>
    intro j i r st hC hw hj hi hs h64 hr
    obtain ⟨i, rfl⟩ : ∃ k, i = k + 1 := ⟨i - 1, by omega⟩
    obtain rfl : j = len := by simpa using hj
    rw [f_X12_reckons_4.eq_2]
    cases hr
    have hs0 : r 0 = iI v := hs.1
    simp (disch := omega) only [nI_leI, Nat.le_refl, h9, hs0, bS, if_true, if_false, nI_lit, nI_add, nI_mul, rowI_R, rowJ_R, setI_R, setJ_R, rowI_J, setI_J, rowJ_I, setJ_I, rowI_setI, rowJ_setJ, rowI_Ib, rowJ_Jb, setI_I, setJ_J, Nat.add_left_cancel_iff, Nat.reduceEqDiff, Nat.left_eq_add, Nat.add_eq_left, Nat.reduceAdd, gR, gI, gN, pI, not_false_eq_true, not_true_eq_false, and_true, true_and, and_false, false_and, or_true, true_or, or_false, false_or, km_0 HM, rm_1 HM, rm_2 HM, rm_3 HM, rm_4 HM, rm_16 HM, rm_17 HM, rm_18 HM, rm_21 HM, rm_22 HM, rm_23 HM, rm_24 HM, rm_27 HM, rm_28 HM, rm_29 HM, rm_30 HM, rm_31 HM, rm_33 HM, rm_34 HM, rm_35 HM, lm_1 HM, lm_2 HM, lm_3 HM, lm_4 HM, lm_5 HM, lm_6 HM, lm_7 HM, lm_8 HM, lm_9 HM, lm_10 HM, lm_11 HM, lm_12 HM, lm_13 HM, lm_14 HM, lm_15 HM, lm_16 HM, lm_17 HM, lm_18 HM, lm_19 HM, sm_1 HM, sm_2 HM, sm_3 HM, sm_4 HM, sm_5 HM, sm_6 HM, sm_7 HM, sm_8 HM, sm_9 HM, sm_10 HM, sm_11 HM, sm_12 HM, sm_13 HM, sm_14 HM, sm_15 HM, sm_16 HM, sm_17 HM, sm_18 HM, sm_19 HM]
    exact ⟨_, rfl⟩
  | cons c L ih =>
    intro j i r st hC hw hj hi hs h64 hr
    obtain ⟨i, rfl⟩ : ∃ k, i = k + 1 := ⟨i - 1, by omega⟩
    simp only [List.length_cons] at hj hi
    have hc : ¬ (len ≤ j) := by omega
    have hC0 : h.I (b + 73) (558 + fr + j) = nI c := hC 0 (by simp)
    have hC1 : ∀ k, k < L.length → h.I (b + 73) (558 + fr + (j + 1 + k)) = nI (L.getD k 0) := fun k hk => by
      have := hC (k + 1) (by simp; omega)
      rw [show j + 1 + k = j + (k + 1) by omega]
      exact this
    have hw1 : ∀ c ∈ L, 1000 ≤ c → c < 1007 → h.I (b + 78) (c - 1000) = iI (f (c - 1000)) := fun c hc => hw c (List.mem_cons_of_mem _ hc)
    obtain ⟨s1, hr1, hr2⟩ := rn_cons hr
    rw [f_X12_reckons_4.eq_2]
    rcases rn1_inv hr1 with ⟨h1, h2, rfl⟩ | ⟨h1, h2, h3, rfl⟩ | ⟨rfl, x, q, rfl, hx, rfl⟩ | ⟨rfl, e, t, x, q, rfl, hx, rfl⟩ | ⟨h0, y, x, q, rfl, hb, ht, rfl⟩
    · have c1 : ¬ (3000 ≤ c) := by omega
      have c2 : ¬ (1000 ≤ c) := by omega
      have := ih (j + 1) i (upd r st.length (iI c)) _ hC1 hw1 (by omega) (by omega) (Stk_push hs) (by simp; omega) hr2
      simp (disch := omega) only [nI_leI, hc, h9, h7, hC0, c1, c2, f_X12_reckons_76, f_X12_reckons_193, bS, if_true, if_false, nI_lit, nI_add, nI_mul, rowI_R, rowJ_R, setI_R, setJ_R, rowI_J, setI_J, rowJ_I, setJ_I, rowI_setI, rowJ_setJ, rowI_Ib, rowJ_Jb, setI_I, setJ_J, Nat.add_left_cancel_iff, Nat.reduceEqDiff, Nat.left_eq_add, Nat.add_eq_left, Nat.reduceAdd, gR, gI, gN, pI, not_false_eq_true, not_true_eq_false, and_true, true_and, and_false, false_and, or_true, true_or, or_false, false_or, km_0 HM, rm_1 HM, rm_2 HM, rm_3 HM, rm_4 HM, rm_16 HM, rm_17 HM, rm_18 HM, rm_21 HM, rm_22 HM, rm_23 HM, rm_24 HM, rm_27 HM, rm_28 HM, rm_29 HM, rm_30 HM, rm_31 HM, rm_33 HM, rm_34 HM, rm_35 HM, lm_1 HM, lm_2 HM, lm_3 HM, lm_4 HM, lm_5 HM, lm_6 HM, lm_7 HM, lm_8 HM, lm_9 HM, lm_10 HM, lm_11 HM, lm_12 HM, lm_13 HM, lm_14 HM, lm_15 HM, lm_16 HM, lm_17 HM, lm_18 HM, lm_19 HM, sm_1 HM, sm_2 HM, sm_3 HM, sm_4 HM, sm_5 HM, sm_6 HM, sm_7 HM, sm_8 HM, sm_9 HM, sm_10 HM, sm_11 HM, sm_12 HM, sm_13 HM, sm_14 HM, sm_15 HM, sm_16 HM, sm_17 HM, sm_18 HM, sm_19 HM]
      rw [List.length_cons] at this
      rw [← nI_iI c] at this
      exact this
    · have c1 : ¬ (3000 ≤ c) := by omega
      have e1 : h.I (b + 78) (c - 1000) = iI (f (c - 1000)) := hw c List.mem_cons_self h1 h2
      have := ih (j + 1) i (upd r st.length (iI (f (c - 1000)))) _ hC1 hw1 (by omega) (by omega) (Stk_push hs) (by simp; omega) hr2
      simp (disch := omega) only [nI_leI, hc, h9, h7, hC0, c1, h1, nI_sub, e1, f_X12_reckons_76, f_X12_reckons_193, bS, if_true, if_false, nI_lit, nI_add, nI_mul, rowI_R, rowJ_R, setI_R, setJ_R, rowI_J, setI_J, rowJ_I, setJ_I, rowI_setI, rowJ_setJ, rowI_Ib, rowJ_Jb, setI_I, setJ_J, Nat.add_left_cancel_iff, Nat.reduceEqDiff, Nat.left_eq_add, Nat.add_eq_left, Nat.reduceAdd, gR, gI, gN, pI, not_false_eq_true, not_true_eq_false, and_true, true_and, and_false, false_and, or_true, true_or, or_false, false_or, km_0 HM, rm_1 HM, rm_2 HM, rm_3 HM, rm_4 HM, rm_16 HM, rm_17 HM, rm_18 HM, rm_21 HM, rm_22 HM, rm_23 HM, rm_24 HM, rm_27 HM, rm_28 HM, rm_29 HM, rm_30 HM, rm_31 HM, rm_33 HM, rm_34 HM, rm_35 HM, lm_1 HM, lm_2 HM, lm_3 HM, lm_4 HM, lm_5 HM, lm_6 HM, lm_7 HM, lm_8 HM, lm_9 HM, lm_10 HM, lm_11 HM, lm_12 HM, lm_13 HM, lm_14 HM, lm_15 HM, lm_16 HM, lm_17 HM, lm_18 HM, lm_19 HM, sm_1 HM, sm_2 HM, sm_3 HM, sm_4 HM, sm_5 HM, sm_6 HM, sm_7 HM, sm_8 HM, sm_9 HM, sm_10 HM, sm_11 HM, sm_12 HM, sm_13 HM, sm_14 HM, sm_15 HM, sm_16 HM, sm_17 HM, sm_18 HM, sm_19 HM]
      rw [List.length_cons] at this
      exact this
    · have e1 : r q.length = iI x := hs.1
      have e2 : nI 1 - iI x = iI (1 - x) := iI_sub 1 x
      have := ih (j + 1) i (upd r q.length (iI (1 - x))) _ hC1 hw1 (by omega) (by omega) (Stk_push hs.2) (by simpa using h64) hr2
      simp only [List.length_cons] at h64
      simp (disch := omega) only [nI_leI, hc, h9, h7, hC0, nI_inj, List.length_cons, nI_p, e1, e2, f_X12_reckons_193, Nat.reduceLeDiff, bS, if_true, if_false, nI_lit, nI_add, nI_mul, rowI_R, rowJ_R, setI_R, setJ_R, rowI_J, setI_J, rowJ_I, setJ_I, rowI_setI, rowJ_setJ, rowI_Ib, rowJ_Jb, setI_I, setJ_J, Nat.add_left_cancel_iff, Nat.reduceEqDiff, Nat.left_eq_add, Nat.add_eq_left, Nat.reduceAdd, gR, gI, gN, pI, not_false_eq_true, not_true_eq_false, and_true, true_and, and_false, false_and, or_true, true_or, or_false, false_or, km_0 HM, rm_1 HM, rm_2 HM, rm_3 HM, rm_4 HM, rm_16 HM, rm_17 HM, rm_18 HM, rm_21 HM, rm_22 HM, rm_23 HM, rm_24 HM, rm_27 HM, rm_28 HM, rm_29 HM, rm_30 HM, rm_31 HM, rm_33 HM, rm_34 HM, rm_35 HM, lm_1 HM, lm_2 HM, lm_3 HM, lm_4 HM, lm_5 HM, lm_6 HM, lm_7 HM, lm_8 HM, lm_9 HM, lm_10 HM, lm_11 HM, lm_12 HM, lm_13 HM, lm_14 HM, lm_15 HM, lm_16 HM, lm_17 HM, lm_18 HM, lm_19 HM, sm_1 HM, sm_2 HM, sm_3 HM, sm_4 HM, sm_5 HM, sm_6 HM, sm_7 HM, sm_8 HM, sm_9 HM, sm_10 HM, sm_11 HM, sm_12 HM, sm_13 HM, sm_14 HM, sm_15 HM, sm_16 HM, sm_17 HM, sm_18 HM, sm_19 HM]
      rw [List.length_cons] at this
      exact this
    · have e1 : r q.length = iI x := hs.2.2.1
      have e2 : r (q.length + 1) = iI t := hs.2.1
      have e3 : r (q.length + 1 + 1) = iI e := hs.1
      simp only [List.length_cons] at h64
      have := ih (j + 1) i (upd r q.length (iI (if x = 1 then t else e))) _ hC1 hw1 (by omega) (by omega) (Stk_push hs.2.2.2) (by simp; omega) hr2
      rw [List.length_cons] at this
      rcases hx with rfl | rfl
      · simp (disch := omega) only [nI_leI, hc, h9, h7, hC0, nI_inj, List.length_cons, nI_m2, nI_p, e1, e2, e3, f_X12_reckons_159, f_X12_reckons_193, Nat.reduceLeDiff, show ¬ (iI 0 = nI 1) by decide, bS, if_true, if_false, nI_lit, nI_add, nI_mul, rowI_R, rowJ_R, setI_R, setJ_R, rowI_J, setI_J, rowJ_I, setJ_I, rowI_setI, rowJ_setJ, rowI_Ib, rowJ_Jb, setI_I, setJ_J, Nat.add_left_cancel_iff, Nat.reduceEqDiff, Nat.left_eq_add, Nat.add_eq_left, Nat.reduceAdd, gR, gI, gN, pI, not_false_eq_true, not_true_eq_false, and_true, true_and, and_false, false_and, or_true, true_or, or_false, false_or, km_0 HM, rm_1 HM, rm_2 HM, rm_3 HM, rm_4 HM, rm_16 HM, rm_17 HM, rm_18 HM, rm_21 HM, rm_22 HM, rm_23 HM, rm_24 HM, rm_27 HM, rm_28 HM, rm_29 HM, rm_30 HM, rm_31 HM, rm_33 HM, rm_34 HM, rm_35 HM, lm_1 HM, lm_2 HM, lm_3 HM, lm_4 HM, lm_5 HM, lm_6 HM, lm_7 HM, lm_8 HM, lm_9 HM, lm_10 HM, lm_11 HM, lm_12 HM, lm_13 HM, lm_14 HM, lm_15 HM, lm_16 HM, lm_17 HM, lm_18 HM, lm_19 HM, sm_1 HM, sm_2 HM, sm_3 HM, sm_4 HM, sm_5 HM, sm_6 HM, sm_7 HM, sm_8 HM, sm_9 HM, sm_10 HM, sm_11 HM, sm_12 HM, sm_13 HM, sm_14 HM, sm_15 HM, sm_16 HM, sm_17 HM, sm_18 HM, sm_19 HM]
        exact this
      · simp (disch := omega) only [nI_leI, hc, h9, h7, hC0, nI_inj, List.length_cons, nI_m2, nI_p, e1, e2, e3, f_X12_reckons_159, f_X12_reckons_193, Nat.reduceLeDiff, show (iI 1 = nI 1) by decide, bS, if_true, if_false, nI_lit, nI_add, nI_mul, rowI_R, rowJ_R, setI_R, setJ_R, rowI_J, setI_J, rowJ_I, setJ_I, rowI_setI, rowJ_setJ, rowI_Ib, rowJ_Jb, setI_I, setJ_J, Nat.add_left_cancel_iff, Nat.reduceEqDiff, Nat.left_eq_add, Nat.add_eq_left, Nat.reduceAdd, gR, gI, gN, pI, not_false_eq_true, not_true_eq_false, and_true, true_and, and_false, false_and, or_true, true_or, or_false, false_or, km_0 HM, rm_1 HM, rm_2 HM, rm_3 HM, rm_4 HM, rm_16 HM, rm_17 HM, rm_18 HM, rm_21 HM, rm_22 HM, rm_23 HM, rm_24 HM, rm_27 HM, rm_28 HM, rm_29 HM, rm_30 HM, rm_31 HM, rm_33 HM, rm_34 HM, rm_35 HM, lm_1 HM, lm_2 HM, lm_3 HM, lm_4 HM, lm_5 HM, lm_6 HM, lm_7 HM, lm_8 HM, lm_9 HM, lm_10 HM, lm_11 HM, lm_12 HM, lm_13 HM, lm_14 HM, lm_15 HM, lm_16 HM, lm_17 HM, lm_18 HM, lm_19 HM, sm_1 HM, sm_2 HM, sm_3 HM, sm_4 HM, sm_5 HM, sm_6 HM, sm_7 HM, sm_8 HM, sm_9 HM, sm_10 HM, sm_11 HM, sm_12 HM, sm_13 HM, sm_14 HM, sm_15 HM, sm_16 HM, sm_17 HM, sm_18 HM, sm_19 HM]
        exact this
    · have e1 : r q.length = iI x := hs.2.1
      have e2 : r (q.length + 1) = iI y := hs.1
      simp only [List.length_cons] at h64
      have c1 : 3000 ≤ c := h0.1
      have c2 : ¬ (c = 3006) := h0.2.2
      have c3 : ¬ (c = 3009) := by omega
      have := ih (j + 1) i (upd r q.length (iI (opV c x y))) _ hC1 hw1 (by omega) (by omega) (Stk_push hs.2.2) (by simp; omega) hr2
      rw [List.length_cons] at this
      simp (disch := omega) only [nI_leI, hc, h9, h7, hC0, nI_inj, c1, c2, c3, List.length_cons, nI_m1, nI_p, e1, e2, between_ok h0 hb ht, f_X12_reckons_193, Nat.reduceLeDiff, bS, if_true, if_false, nI_lit, nI_add, nI_mul, rowI_R, rowJ_R, setI_R, setJ_R, rowI_J, setI_J, rowJ_I, setJ_I, rowI_setI, rowJ_setJ, rowI_Ib, rowJ_Jb, setI_I, setJ_J, Nat.add_left_cancel_iff, Nat.reduceEqDiff, Nat.left_eq_add, Nat.add_eq_left, Nat.reduceAdd, gR, gI, gN, pI, not_false_eq_true, not_true_eq_false, and_true, true_and, and_false, false_and, or_true, true_or, or_false, false_or, km_0 HM, rm_1 HM, rm_2 HM, rm_3 HM, rm_4 HM, rm_16 HM, rm_17 HM, rm_18 HM, rm_21 HM, rm_22 HM, rm_23 HM, rm_24 HM, rm_27 HM, rm_28 HM, rm_29 HM, rm_30 HM, rm_31 HM, rm_33 HM, rm_34 HM, rm_35 HM, lm_1 HM, lm_2 HM, lm_3 HM, lm_4 HM, lm_5 HM, lm_6 HM, lm_7 HM, lm_8 HM, lm_9 HM, lm_10 HM, lm_11 HM, lm_12 HM, lm_13 HM, lm_14 HM, lm_15 HM, lm_16 HM, lm_17 HM, lm_18 HM, lm_19 HM, sm_1 HM, sm_2 HM, sm_3 HM, sm_4 HM, sm_5 HM, sm_6 HM, sm_7 HM, sm_8 HM, sm_9 HM, sm_10 HM, sm_11 HM, sm_12 HM, sm_13 HM, sm_14 HM, sm_15 HM, sm_16 HM, sm_17 HM, sm_18 HM, sm_19 HM]
      exact this
