/-! ===== laws as the class tells them ===== -/
def cC (c : Nat) : Int := if c < 1000 then c else if c < 3000 then -11 - ((c : Int) - 1000) else if c = 3000 then -1 else if c = 3001 then -2 else if c = 3002 then -3 else if c = 3003 then -4 else if c = 3004 then -5 else if c = 3005 then -6 else if c = 3006 then -9 else if c = 3007 then -7 else if c = 3008 then -8 else -10
theorem win_ok {z : Sh} {h : Hp} {v lo hi : Int} (h1 : -2147483648 ≤ v) (h2 : v < 2147483648) (h3 : -2147483648 ≤ lo) (h4 : lo < 2147483648) (h5 : -2147483648 ≤ hi) (h6 : hi < 2147483648) : f_X11_within z h (iI v) (iI lo) (iI hi) = some (iI (if lo ≤ v then (if v ≤ hi then v else hi) else lo)) := by
  unfold f_X11_within
  simp (disch := omega) only [iI_le]
  split
  · split <;> rfl
  · rfl
theorem clM_alt (v : Int) : (if -1000000 ≤ v then (if v ≤ 1000000 then v else 1000000) else -1000000) = clM v := by
  unfold clM
  split <;> split <;> (try omega) <;> (try rfl) <;> (split <;> omega)
theorem jnd_107 {z : Sh} {h : Hp} {v : Int} (h1 : -9000000000000000000 ≤ v) (h2 : v ≤ 9000000000000000000) : f_X7_joined_107 z h (lI v) = some (iI (clM v)) := bet_116 (z := z) (h := h) h1 h2
theorem joined_ok {z : Sh} {h : Hp} {c : Nat} {x y : Int} (hc : 3000 ≤ c ∧ c ≤ 3008 ∧ c ≠ 3006) (hb : (-1000000 ≤ x ∧ x ≤ 1000000) ∧ (-1000000 ≤ y ∧ y ≤ 1000000)) (ht : 3007 ≤ c → (x = 0 ∨ x = 1) ∧ (y = 0 ∨ y = 1)) : f_X7_joined z h (iI (cC c)) (iI x) (iI y) = some (iI (opV c x y)) := by
  have hm := mul_bd hb.1.1 hb.1.2 hb.2.1 hb.2.2
  rcases op_cases hc with rfl | rfl | rfl | rfl | rfl | rfl | rfl | rfl
  · show f_X7_joined z h (iI (-1)) (iI x) (iI y) = some (iI (clM (x + y)))
    unfold f_X7_joined
    rw [if_neg (by decide), if_neg (by decide), if_neg (by decide), if_neg (by decide), if_neg (by decide), if_pos (by decide), iI_add, iI_64 (by omega) (by omega)]
    exact jnd_107 (by omega) (by omega)
  · show f_X7_joined z h (iI (-2)) (iI x) (iI y) = some (iI (clM (x - y)))
    unfold f_X7_joined
    rw [if_neg (by decide), if_neg (by decide), if_neg (by decide), if_neg (by decide), if_neg (by decide), if_neg (by decide), if_pos (by decide), iI_sub, iI_64 (by omega) (by omega)]
    exact jnd_107 (by omega) (by omega)
  · show f_X7_joined z h (iI (-3)) (iI x) (iI y) = some (iI (clM (x * y)))
    unfold f_X7_joined
    rw [if_neg (by decide), if_neg (by decide), if_neg (by decide), if_neg (by decide), if_neg (by decide), if_neg (by decide), if_neg (by decide), iI_64 (by omega) (by omega), iI_64 (by omega) (by omega), lI_mul]
    exact jnd_107 (by omega) (by omega)
  · show f_X7_joined z h (iI (-4)) (iI x) (iI y) = some (iI (if x = y then 1 else 0))
    unfold f_X7_joined
    rw [if_neg (by decide), if_neg (by decide), if_neg (by decide), if_neg (by decide), if_pos (by decide)]
    simp (disch := omega) only [iI_eq]
    split <;> rfl
  · show f_X7_joined z h (iI (-5)) (iI x) (iI y) = some (iI (if x < y then 1 else 0))
    unfold f_X7_joined
    rw [if_neg (by decide), if_neg (by decide), if_neg (by decide), if_pos (by decide)]
    simp (disch := omega) only [iI_le]
    by_cases h1 : y ≤ x
    · rw [if_pos h1, if_neg (by omega)]
      rfl
    · rw [if_neg h1, if_pos (by omega)]
      rfl
  · show f_X7_joined z h (iI (-6)) (iI x) (iI y) = some (iI (if y < x then 1 else 0))
    unfold f_X7_joined
    rw [if_neg (by decide), if_neg (by decide), if_pos (by decide)]
    simp (disch := omega) only [iI_le]
    by_cases h1 : x ≤ y
    · rw [if_pos h1, if_neg (by omega)]
      rfl
    · rw [if_neg h1, if_pos (by omega)]
      rfl
  · have ht := ht (by omega)
    show f_X7_joined z h (iI (-7)) (iI x) (iI y) = some (iI (if x = 1 ∧ y = 1 then 1 else 0))
    unfold f_X7_joined
    rw [if_neg (by decide), if_pos (by decide), and01 ht.1 ht.2]
  · have ht := ht (by omega)
    show f_X7_joined z h (iI (-8)) (iI x) (iI y) = some (iI (if x = 1 ∨ y = 1 then 1 else 0))
    unfold f_X7_joined
    rw [if_pos (by decide), or01 ht.1 ht.2]
theorem factAt_ok {z : Sh} {h : Hp} {b : Nat} (HX : LayX z h.2.2 b) {k : Nat} (hk : k < 7) : f_X7_factAt z h (b + 40) (nI k) = some (h.I (b + 41) k) := by
  have c1 : ¬ (7 ≤ k) := by omega
  have c2 : ¬ (nI k < 0) := nI_pos (by omega)
  have c3 : aL z (b + 41) = some (nI 7) := aL_ok (kx_41 HX) rfl (nx_41 HX)
  unfold f_X7_factAt
  rw [if_neg c2]
  simp (disch := omega) only [c3, nI_leI, c1, bS, if_true, if_false, nI_lit, nI_add, nI_mul, rowI_R, rowJ_R, setI_R, setJ_R, rowI_J, setI_J, rowJ_I, setJ_I, rowI_setI, rowJ_setJ, rowI_Ib, rowJ_Jb, setI_I, setJ_J, Nat.add_left_cancel_iff, Nat.reduceEqDiff, Nat.left_eq_add, Nat.add_eq_left, Nat.reduceAdd, gR, gI, gN, pI, not_false_eq_true, not_true_eq_false, and_true, true_and, and_false, false_and, or_true, true_or, or_false, false_or, kx_40 HX, kx_41 HX, kx_42 HX, rx_40_0 HX, rx_40_1 HX, lx_41 HX, lx_42 HX, sx_41 HX, sx_42 HX, nx_41 HX, nx_42 HX]
theorem cC_op {c : Nat} (h : 3000 ≤ c ∧ c ≤ 3008 ∧ c ≠ 3006) : -8 ≤ cC c ∧ cC c ≤ -1 := by
  rcases op_cases h with rfl | rfl | rfl | rfl | rfl | rfl | rfl | rfl <;> decide
set_option maxHeartbeats 4000000 in
theorem tell_4 {n : Nat} {z : Sh} {h : Hp} {b : Nat} (HX : LayX z h.2.2 b) {a len : Nat} (hK : z.K a = 14 ∨ z.K a = 34) (hN : z.N a = len) (hne : a ≠ b + 42) (hlen : len ≤ 900) {f : Nat → Int} {v : Int} :
    ∀ (L : List Nat) (j i : Nat) (r : Nat → Int32) (st : List Int), (∀ k, k < L.length → h.I a (j + k) = iI (cC (L.getD k 0))) → (∀ c ∈ L, 1000 ≤ c → c < 1007 → h.I (b + 41) (c - 1000) = iI (f (c - 1000))) → j + L.length = len → L.length < i → Stk r st → st.length ≤ 64 → rn f L st = some [v] → ∃ r', f_X7_tell_4 n z i (h.rowI (b + 42) r) (b + 40) a (nI st.length) (nI j) = some (iI v, h.rowI (b + 42) r') := by
  have hA : aL z a = some (nI len) := by
    rcases hK with hK | hK
    · exact aL_ok hK rfl hN
    · exact aL_ok hK rfl hN
  have hA2 : aL z (b + 42) = some (nI 64) := aL_ok (kx_42 HX) rfl (nx_42 HX)
  have hR : ∀ (r : Nat → Int32), (h.rowI (b + 42) r).I a = h.I a := fun r => rowI_ne h r hne
  intro L
  induction L with
  | nil =>
    intro j i r st hC hw hj hi hs h64 hr
    obtain ⟨i, rfl⟩ : ∃ k, i = k + 1 := ⟨i - 1, by omega⟩
    obtain rfl : j = len := by simpa using hj
    rw [f_X7_tell_4.eq_2]
    cases hr
    have hs0 : r 0 = iI v := hs.1
    simp (disch := omega) only [nI_leI, Nat.le_refl, hA, hs0, bS, if_true, if_false, nI_lit, nI_add, nI_mul, rowI_R, rowJ_R, setI_R, setJ_R, rowI_J, setI_J, rowJ_I, setJ_I, rowI_setI, rowJ_setJ, rowI_Ib, rowJ_Jb, setI_I, setJ_J, Nat.add_left_cancel_iff, Nat.reduceEqDiff, Nat.left_eq_add, Nat.add_eq_left, Nat.reduceAdd, gR, gI, gN, pI, not_false_eq_true, not_true_eq_false, and_true, true_and, and_false, false_and, or_true, true_or, or_false, false_or, kx_40 HX, kx_41 HX, kx_42 HX, rx_40_0 HX, rx_40_1 HX, lx_41 HX, lx_42 HX, sx_41 HX, sx_42 HX, nx_41 HX, nx_42 HX]
    exact ⟨_, rfl⟩
  | cons c L ih =>
    intro j i r st hC hw hj hi hs h64 hr
    obtain ⟨i, rfl⟩ : ∃ k, i = k + 1 := ⟨i - 1, by omega⟩
    simp only [List.length_cons] at hj hi
    have hc : ¬ (len ≤ j) := by omega
    have hC0 : h.I a j = iI (cC c) := hC 0 (by simp)
    have hld : ldI z (h.rowI (b + 42) r) a (nI j) = some (iI (cC c)) := by
      rw [ldIs_ok hK hN rfl (by omega) (by omega), hR, hC0]
    have hC1 : ∀ k, k < L.length → h.I a (j + 1 + k) = iI (cC (L.getD k 0)) := fun k hk => by
      have := hC (k + 1) (by simp; omega)
      rw [show j + 1 + k = j + (k + 1) by omega]
      exact this
    have hw1 : ∀ c ∈ L, 1000 ≤ c → c < 1007 → h.I (b + 41) (c - 1000) = iI (f (c - 1000)) := fun c hc => hw c (List.mem_cons_of_mem _ hc)
    obtain ⟨s1, hr1, hr2⟩ := rn_cons hr
    rw [f_X7_tell_4.eq_2]
    rcases rn1_inv hr1 with ⟨h1, h2, rfl⟩ | ⟨h1, h2, h3, rfl⟩ | ⟨rfl, x, q, rfl, hx, rfl⟩ | ⟨rfl, e, t, x, q, rfl, hx, rfl⟩ | ⟨h0, y, x, q, rfl, hb, ht, rfl⟩
    · have e1 : iI (cC c) = nI c := by
        rw [nI_iI, cC, if_pos h1]
      have c1 : (nI 0 ≤ nI c) := (nI_leI (by omega) (by omega)).mpr (by omega)
      have c2 : ¬ (nI c < nI 0) := nI_pos (by omega)
      have c3 : ¬ (64 ≤ st.length) := by omega
      have := ih (j + 1) i (upd r st.length (iI c)) _ hC1 hw1 (by omega) (by omega) (Stk_push hs) (by simp; omega) hr2
      rw [hA, bS, hld, bS, e1]
      simp (disch := omega) only [nI_leI, hc, c1, c2, c3, hA2, f_X7_tell_27, f_X7_tell_60, f_X7_tell_189, Nat.zero_le, bS, if_true, if_false, nI_lit, nI_add, nI_mul, rowI_R, rowJ_R, setI_R, setJ_R, rowI_J, setI_J, rowJ_I, setJ_I, rowI_setI, rowJ_setJ, rowI_Ib, rowJ_Jb, setI_I, setJ_J, Nat.add_left_cancel_iff, Nat.reduceEqDiff, Nat.left_eq_add, Nat.add_eq_left, Nat.reduceAdd, gR, gI, gN, pI, not_false_eq_true, not_true_eq_false, and_true, true_and, and_false, false_and, or_true, true_or, or_false, false_or, kx_40 HX, kx_41 HX, kx_42 HX, rx_40_0 HX, rx_40_1 HX, lx_41 HX, lx_42 HX, sx_41 HX, sx_42 HX, nx_41 HX, nx_42 HX]
      rw [List.length_cons] at this
      rw [← nI_iI c] at this
      exact this
    · have e0 : cC c = -11 - ((c : Int) - 1000) := by
        rw [cC, if_neg (by omega), if_pos (by omega)]
      have e1 : h.I (b + 41) (c - 1000) = iI (f (c - 1000)) := hw c List.mem_cons_self h1 h2
      have c1 : ¬ ((0 : Int32) ≤ iI (cC c)) := fun q => by
        rw [show (0 : Int32) = iI 0 by decide, iI_le (by omega) (by omega) (by omega) (by omega)] at q
        omega
      have c2 : ¬ ((-11 : Int32) < iI (cC c)) := fun q => by
        rw [show (-11 : Int32) = iI (-11) by decide, iI_lt (by omega) (by omega) (by omega) (by omega)] at q
        omega
      have c4 : (iI (cC c) < 0) := by
        rw [show (0 : Int32) = iI 0 by decide, iI_lt (by omega) (by omega) (by omega) (by omega)]
        omega
      have c5 : (-11 : Int32) - iI (cC c) = nI (c - 1000) := by
        rw [show (-11 : Int32) = iI (-11) by decide, iI_sub, nI_iI]
        congr 1
        omega
      have c3 : ¬ (64 ≤ st.length) := by omega
      have e2 : f_X7_factAt z (h.rowI (b + 42) r) (b + 40) (nI (c - 1000)) = some ((h.rowI (b + 42) r).I (b + 41) (c - 1000)) := factAt_ok (h := h.rowI (b + 42) r) HX (by omega)
      have := ih (j + 1) i (upd r st.length (iI (f (c - 1000)))) _ hC1 hw1 (by omega) (by omega) (Stk_push hs) (by simp; omega) hr2
      rw [hA, bS, hld, bS]
      rw [if_neg c1, if_neg c2, if_neg (show ¬ (nI len ≤ nI j) from fun q => hc ((nI_leI (by omega) (by omega)).mp q))]
      unfold f_X7_tell_27
      simp only [c4, if_true, c5, e2]
      simp (disch := omega) only [nI_leI, c3, hA2, e1, f_X7_tell_60, f_X7_tell_189, bS, if_true, if_false, nI_lit, nI_add, nI_mul, rowI_R, rowJ_R, setI_R, setJ_R, rowI_J, setI_J, rowJ_I, setJ_I, rowI_setI, rowJ_setJ, rowI_Ib, rowJ_Jb, setI_I, setJ_J, Nat.add_left_cancel_iff, Nat.reduceEqDiff, Nat.left_eq_add, Nat.add_eq_left, Nat.reduceAdd, gR, gI, gN, pI, not_false_eq_true, not_true_eq_false, and_true, true_and, and_false, false_and, or_true, true_or, or_false, false_or, kx_40 HX, kx_41 HX, kx_42 HX, rx_40_0 HX, rx_40_1 HX, lx_41 HX, lx_42 HX, sx_41 HX, sx_42 HX, nx_41 HX, nx_42 HX]
      rw [List.length_cons] at this
      exact this
    · have e1 : r q.length = iI x := hs.1
      have e2 : nI 1 - iI x = iI (1 - x) := iI_sub 1 x
      have := ih (j + 1) i (upd r q.length (iI (1 - x))) _ hC1 hw1 (by omega) (by omega) (Stk_push hs.2) (by simpa using h64) hr2
      simp only [List.length_cons] at h64
      have c3 : ¬ (nI (q.length + 1) < nI 1) := fun q2 => by
        rw [nI_lt2 (by omega) (by omega)] at q2
        omega
      rw [hA, bS, hld, bS, if_neg (show ¬ (nI len ≤ nI j) from fun q => hc ((nI_leI (by omega) (by omega)).mp q)), if_neg (show ¬ ((0 : Int32) ≤ iI (cC 3006)) by decide), if_pos (show (-11 : Int32) < iI (cC 3006) by decide), if_pos (show iI (cC 3006) = (-9) by decide)]
      simp (disch := omega) only [List.length_cons, nI_p, e1, e2, c3, f_X7_tell_189, bS, if_true, if_false, nI_lit, nI_add, nI_mul, rowI_R, rowJ_R, setI_R, setJ_R, rowI_J, setI_J, rowJ_I, setJ_I, rowI_setI, rowJ_setJ, rowI_Ib, rowJ_Jb, setI_I, setJ_J, Nat.add_left_cancel_iff, Nat.reduceEqDiff, Nat.left_eq_add, Nat.add_eq_left, Nat.reduceAdd, gR, gI, gN, pI, not_false_eq_true, not_true_eq_false, and_true, true_and, and_false, false_and, or_true, true_or, or_false, false_or, kx_40 HX, kx_41 HX, kx_42 HX, rx_40_0 HX, rx_40_1 HX, lx_41 HX, lx_42 HX, sx_41 HX, sx_42 HX, nx_41 HX, nx_42 HX]
      rw [List.length_cons] at this
      exact this
    · have e1 : r q.length = iI x := hs.2.2.1
      have e2 : r (q.length + 1) = iI t := hs.2.1
      have e3 : r (q.length + 1 + 1) = iI e := hs.1
      simp only [List.length_cons] at h64
      have c3 : ¬ (nI (q.length + 1 + 1 + 1) < nI 3) := fun q2 => by
        rw [nI_lt2 (by omega) (by omega)] at q2
        omega
      have := ih (j + 1) i (upd r q.length (iI (if x = 1 then t else e))) _ hC1 hw1 (by omega) (by omega) (Stk_push hs.2.2.2) (by simp; omega) hr2
      rw [List.length_cons] at this
      rw [hA, bS, hld, bS, if_neg (show ¬ (nI len ≤ nI j) from fun q => hc ((nI_leI (by omega) (by omega)).mp q)), if_neg (show ¬ ((0 : Int32) ≤ iI (cC 3009)) by decide), if_pos (show (-11 : Int32) < iI (cC 3009) by decide), if_neg (show ¬ (iI (cC 3009) = (-9)) by decide), if_pos (show iI (cC 3009) = (-10) by decide)]
      rcases hx with rfl | rfl
      · simp (disch := omega) only [List.length_cons, nI_m2, nI_p, c3, e1, e2, e3, f_X7_tell_150, f_X7_tell_189, show (iI 0 = nI 0) by decide, bS, if_true, if_false, nI_lit, nI_add, nI_mul, rowI_R, rowJ_R, setI_R, setJ_R, rowI_J, setI_J, rowJ_I, setJ_I, rowI_setI, rowJ_setJ, rowI_Ib, rowJ_Jb, setI_I, setJ_J, Nat.add_left_cancel_iff, Nat.reduceEqDiff, Nat.left_eq_add, Nat.add_eq_left, Nat.reduceAdd, gR, gI, gN, pI, not_false_eq_true, not_true_eq_false, and_true, true_and, and_false, false_and, or_true, true_or, or_false, false_or, kx_40 HX, kx_41 HX, kx_42 HX, rx_40_0 HX, rx_40_1 HX, lx_41 HX, lx_42 HX, sx_41 HX, sx_42 HX, nx_41 HX, nx_42 HX]
        exact this
      · simp (disch := omega) only [List.length_cons, nI_m2, nI_p, c3, e1, e2, e3, f_X7_tell_150, f_X7_tell_189, show ¬ (iI 1 = nI 0) by decide, bS, if_true, if_false, nI_lit, nI_add, nI_mul, rowI_R, rowJ_R, setI_R, setJ_R, rowI_J, setI_J, rowJ_I, setJ_I, rowI_setI, rowJ_setJ, rowI_Ib, rowJ_Jb, setI_I, setJ_J, Nat.add_left_cancel_iff, Nat.reduceEqDiff, Nat.left_eq_add, Nat.add_eq_left, Nat.reduceAdd, gR, gI, gN, pI, not_false_eq_true, not_true_eq_false, and_true, true_and, and_false, false_and, or_true, true_or, or_false, false_or, kx_40 HX, kx_41 HX, kx_42 HX, rx_40_0 HX, rx_40_1 HX, lx_41 HX, lx_42 HX, sx_41 HX, sx_42 HX, nx_41 HX, nx_42 HX]
        exact this
    · have e1 : r q.length = iI x := hs.2.1
      have e2 : r (q.length + 1) = iI y := hs.1
      simp only [List.length_cons] at h64
      have c3 : ¬ (nI (q.length + 1 + 1) < nI 2) := fun q2 => by
        rw [nI_lt2 (by omega) (by omega)] at q2
        omega
      have hq := cC_op h0
      have this := ih (j + 1) i (upd r q.length (iI (opV c x y))) _ hC1 hw1 (by omega) (by omega) (Stk_push hs.2.2) (by simp; omega) hr2
      rw [List.length_cons] at this
      have d1 : ¬ ((0 : Int32) ≤ iI (cC c)) := fun q => by
        rw [show (0 : Int32) = iI 0 by decide, iI_le (by omega) (by omega) (by omega) (by omega)] at q
        omega
      have d2 : ((-11 : Int32) < iI (cC c)) := by
        rw [show (-11 : Int32) = iI (-11) by decide, iI_lt (by omega) (by omega) (by omega) (by omega)]
        omega
      have d3 : ¬ (iI (cC c) = (-9)) := fun q => by
        rw [show (-9 : Int32) = iI (-9) by decide, iI_eq (by omega) (by omega) (by omega) (by omega)] at q
        omega
      have d4 : ¬ (iI (cC c) = (-10)) := fun q => by
        rw [show (-10 : Int32) = iI (-10) by decide, iI_eq (by omega) (by omega) (by omega) (by omega)] at q
        omega
      rw [hA, bS, hld, bS, if_neg (show ¬ (nI len ≤ nI j) from fun q => hc ((nI_leI (by omega) (by omega)).mp q)), if_neg d1, if_pos d2, if_neg d3, if_neg d4]
      simp (disch := omega) only [List.length_cons, nI_m1, nI_p, c3, e1, e2, joined_ok h0 hb ht, f_X7_tell_189, bS, if_true, if_false, nI_lit, nI_add, nI_mul, rowI_R, rowJ_R, setI_R, setJ_R, rowI_J, setI_J, rowJ_I, setJ_I, rowI_setI, rowJ_setJ, rowI_Ib, rowJ_Jb, setI_I, setJ_J, Nat.add_left_cancel_iff, Nat.reduceEqDiff, Nat.left_eq_add, Nat.add_eq_left, Nat.reduceAdd, gR, gI, gN, pI, not_false_eq_true, not_true_eq_false, and_true, true_and, and_false, false_and, or_true, true_or, or_false, false_or, kx_40 HX, kx_41 HX, kx_42 HX, rx_40_0 HX, rx_40_1 HX, lx_41 HX, lx_42 HX, sx_41 HX, sx_42 HX, nx_41 HX, nx_42 HX]
      exact this
