/-! ===== town, 5: the reference's reader: is, eats, fails, codes ===== -/
def RS (b : Nat) (sv : Nat → Nat) (z : Sh) (tx : Nat → Nat) (N w : Nat) (T : Tk) (M : List Nat) (g : Hp) : Prop :=
  Rx b sv z tx N g ∧ (∃ e, e ≤ N ∧ T = tkN tx N e) ∧ g.I (b + 72) 11 = nI 0 ∧ g.I (b + 72) 6 = nI T.1 ∧ g.I (b + 72) 7 = nI T.2.1 ∧ g.I (b + 72) 9 = nI T.2.2.1 ∧ (T.2.2.1 = 24 → g.I (b + 72) 10 = nI T.2.2.2) ∧ (w < 2 → g.I (b + 72) 15 = nI (1 - w)) ∧ g.I (b + 76) 557 = nI M.length ∧ M.length ≤ 900 ∧ ∀ j, j < M.length → g.I (b + 76) (558 + j) = nI (M.getD j 0)
def RF (b : Nat) (z : Sh) (fl pl : Nat) (g : Hp) : Prop := LayR z g.2.2 (b + 72) ∧ g.I (b + 72) 11 = nI fl ∧ g.I (b + 72) 12 = nI pl ∧ 0 < fl ∧ fl < 5
def FrR (b : Nat) (h h' : Hp) : Prop := (∀ a, h'.R a = h.R a) ∧ (∀ a, h'.J a = h.J a) ∧ (∀ a, a ≠ b + 72 → a ≠ b + 76 → h'.I a = h.I a) ∧ (∀ k, k ≠ 6 → k ≠ 7 → k ≠ 9 → k ≠ 10 → k ≠ 11 → k ≠ 12 → h'.I (b + 72) k = h.I (b + 72) k) ∧ ∀ k, k < 557 → h'.I (b + 76) k = h.I (b + 76) k
theorem FrR.rf {b : Nat} {h : Hp} : FrR b h h := ⟨fun _ => rfl, fun _ => rfl, fun _ _ _ => rfl, fun _ _ _ _ _ _ _ => rfl, fun _ _ => rfl⟩
theorem FrR.tr {b : Nat} {h h' h'' : Hp} (A : FrR b h h') (B : FrR b h' h'') : FrR b h h'' := ⟨fun a => (B.1 a).trans (A.1 a), fun a => (B.2.1 a).trans (A.2.1 a), fun a q1 q2 => (B.2.2.1 a q1 q2).trans (A.2.2.1 a q1 q2), fun k q1 q2 q3 q4 q5 q6 => (B.2.2.2.1 k q1 q2 q3 q4 q5 q6).trans (A.2.2.2.1 k q1 q2 q3 q4 q5 q6), fun k q => (B.2.2.2.2 k q).trans (A.2.2.2.2 k q)⟩
theorem FrR.st {b : Nat} {h : Hp} {k : Nat} {v : Int32} (hk : k = 11 ∨ k = 12) : FrR b h (h.setI (b + 72) k v) := ⟨fun _ => rfl, fun _ => rfl, fun _ q _ => sI_o q, fun j q1 q2 q3 q4 q5 q6 => sI_ne (by omega), fun _ _ => by rw [sI_o (by omega)]⟩
theorem FrR.sc {b : Nat} {h : Hp} {k : Nat} {v : Int32} (hk : 557 ≤ k) : FrR b h (h.setI (b + 76) k v) := ⟨fun _ => rfl, fun _ => rfl, fun _ _ q => sI_o q, fun j q1 q2 q3 q4 q5 q6 => by rw [sI_o (by omega)], fun j q => sI_ne (by omega)⟩
theorem Sm.fr {b : Nat} {h h' : Hp} (S : Sm b h h') : FrR b h h' := ⟨S.1, S.2.1, fun a q _ => S.2.2.1 a q, fun k q1 q2 q3 q4 _ _ => S.2.2.2 k q1 q2 q3 q4, fun k _ => by rw [S.2.2.1 (b + 76) (by omega)]⟩
section
variable {n b N w : Nat} {sv : Nat → Nat} {z : Sh} {tx : Nat → Nat} {T : Tk} {M : List Nat} {g : Hp}
theorem RS.tk (C : RS b sv z tx N w T M g) : ∃ e, e ≤ N ∧ T = tkN tx N e := C.2.1
theorem RS.K (C : RS b sv z tx N w T M g) : z.K (b + 72) = 12 := km_0 C.1.1
theorem next_R (C : RS b sv z tx N w T M g) (hN : N ≤ 900) (hx : ∀ j, tx j < 256) (hn : 400000 ≤ n) : ∃ g', f_X12_next n z g (b + 72) = some g' ∧ FrR b g g' ∧ RS b sv z tx N w (tkN tx N T.2.1) M g' := by
  obtain ⟨c1, c2, c3, c4, c5, c6, c7, c8, c9, c10, c11⟩ := C
  obtain ⟨g', e1, e2, e3, e4, e5, e6⟩ := next_r hN hx hn c1 (tkT c2).2.1 c5
  have R := e2.2.2.2
  refine ⟨g', e1, e2.fr, c1.sm e2, tkX c2, ?_, e3, e4, e5, e6, ?_, ?_, c10, fun j hj => ?_⟩
  · rw [R 11 (by decide) (by decide) (by decide) (by decide)]
    exact c3
  · rw [R 15 (by decide) (by decide) (by decide) (by decide)]
    exact c8
  · rw [e2.2.2.1 (b + 76) (by omega)]
    exact c9
  · rw [e2.2.2.1 (b + 76) (by omega)]
    exact c11 j hj
theorem is_r (C : RS b sv z tx N w T M g) {k : Nat} (hk : k < 50) : f_X12_is z g (b + 72) (nI k) = some (if T.2.2.1 = k then 1 else 0) := by
  have hT := (tkT C.tk).2.2.2.2
  unfold f_X12_is
  rw [if_pos C.K, gI_ok C.K, bS, C.2.2.1, if_pos (show nI 0 = 0 from rfl), gI_ok C.K, bS, C.2.2.2.2.2.1]
  by_cases q : T.2.2.1 = k
  · rw [if_pos (by rw [q]), if_pos q]
  · rw [if_neg (fun w => q ((nI_inj (by omega) (by omega)).mp w)), if_neg q]
theorem eats_t (C : RS b sv z tx N w T M g) (hN : N ≤ 900) (hx : ∀ j, tx j < 256) (hn : 400000 ≤ n) {k : Nat} (hk : k < 50) (q : T.2.2.1 = k) : ∃ g', f_X12_eats n z g (b + 72) (nI k) = some (1, g') ∧ FrR b g g' ∧ RS b sv z tx N w (tkN tx N T.2.1) M g' := by
  obtain ⟨g', e1, e2, e3⟩ := next_R C hN hx hn
  refine ⟨g', ?_, e2, e3⟩
  unfold f_X12_eats
  rw [if_pos C.K, is_r C hk, bS, if_pos q, if_neg (by decide), e1, bS]
theorem eats_f (C : RS b sv z tx N w T M g) {k : Nat} (hk : k < 50) (q : T.2.2.1 ≠ k) : f_X12_eats n z g (b + 72) (nI k) = some (0, g) := by
  unfold f_X12_eats
  rw [if_pos C.K, is_r C hk, bS, if_neg q, if_pos rfl]
theorem fails_r (C : RS b sv z tx N w T M g) {v : Nat} (h1 : 0 < v) (h2 : v < 5) : ∃ g', f_X12_fails z g (b + 72) (nI v) = some g' ∧ FrR b g g' ∧ RF b z (flt T.2.2.1 v) T.1 g' := by
  have hT := (tkT C.tk).2.2.2.2
  have i4 : (nI T.2.2.1 = 26) ↔ T.2.2.1 = 26 := nI_inj (j := 26) (by omega) (by decide)
  have key : ∀ fl, 0 < fl → fl < 5 → ∃ g', f_X12_fails_23 z g (b + 72) (nI fl) (b + 72) = some g' ∧ FrR b g g' ∧ RF b z fl T.1 g' := by
    intro fl q1 q2
    refine ⟨(g.setI (b + 72) 11 (nI fl)).setI (b + 72) 12 (nI T.1), ?_, (FrR.st (by omega)).tr (FrR.st (by omega)), C.1.1, (sI_ne (by decide)).trans sI_eq, sI_eq, q1, q2⟩
    unfold f_X12_fails_23
    rw [pI_ok C.K, bS, gI_ok C.K, bS, pI_ok C.K, bS, sI_ne (by decide), C.2.2.2.1]
  unfold f_X12_fails flt
  rw [if_pos C.K, gI_ok C.K, bS, C.2.2.1, if_pos (show nI 0 = 0 from rfl), gI_ok C.K, bS, C.2.2.2.2.2.1]
  by_cases q : T.2.2.1 = 26
  · rw [if_pos (i4.mpr q), if_pos q]
    exact key 1 (by decide) (by decide)
  · rw [if_neg (fun w => q (i4.mp w)), if_neg q]
    exact key v h1 h2
theorem codes_r (C : RS b sv z tx N w T M g) {c : Nat} (hM : M.length < 900) : ∃ g', f_X12_codes z g (b + 72) (nI c) = some g' ∧ FrR b g g' ∧ RS b sv z tx N w T (M ++ [c]) g' := by
  obtain ⟨c1, c2, c3, c4, c5, c6, c7, c8, c9, c10, c11⟩ := id C
  have E : f_X12_codes z g (b + 72) (nI c) = some ((g.setI (b + 76) (558 + M.length) (nI c)).setI (b + 76) 557 (nI (M.length + 1))) := by
    unfold f_X12_codes
    have l1 : ldI z g (b + 76) 557 = some (nI M.length) := (lm_4 (j := 557) c1.1 (by decide)).trans (by rw [c9])
    have l2 : ldI z (g.setI (b + 76) (558 + M.length) (nI c)) (b + 76) 557 = some (nI M.length) := (lm_4 (j := 557) c1.1 (by decide)).trans (by rw [sI_ne (by omega), c9])
    have s1 : stI z g (b + 76) (nI (558 + M.length)) (nI c) = some (g.setI (b + 76) (558 + M.length) (nI c)) := sm_4 c1.1 (by omega)
    have s2 : ∀ (h : Hp) (x : Int32), stI z h (b + 76) 557 x = some (h.setI (b + 76) 557 x) := fun h x => sm_4 (R := g.2.2) (j := 557) c1.1 (by decide)
    have r1 : gR z g 12 (b + 72) 4 = some (b + 76) := gR_ok C.K (rm_4 c1.1)
    have r2 : gR z (g.setI (b + 76) (558 + M.length) (nI c)) 12 (b + 72) 4 = some (b + 76) := gR_ok C.K (rm_4 c1.1)
    rw [if_pos C.K, gI_ok C.K, bS, c3, if_pos (show nI 0 = 0 from rfl), r1, bS, bS, l1, bS, show (558 : Int32) + nI M.length = nI (558 + M.length) from nI_add 558 _, s1, bS, r2, bS, l2, bS, s2, bS, nI_1]
  have I2 : ∀ k, ((g.setI (b + 76) (558 + M.length) (nI c)).setI (b + 76) 557 (nI (M.length + 1))).I (b + 72) k = g.I (b + 72) k := fun k => by rw [sI_o (show b + 72 ≠ b + 76 by omega), sI_o (show b + 72 ≠ b + 76 by omega)]
  refine ⟨_, E, (FrR.sc (by omega)).tr (FrR.sc (by omega)), ⟨c1.1, (I2 8).trans c1.2.1, fun j hj => ?_, c1.2.2.2.mv (fun a ha => ?_) (fun _ _ => rfl)⟩, c2, (I2 11).trans c3, (I2 6).trans c4, (I2 7).trans c5, (I2 9).trans c6, fun q => (I2 10).trans (c7 q), fun q => (I2 15).trans (c8 q), ?_, ?_, fun j hj => ?_⟩
  · rw [sI_o (show b + 75 ≠ b + 76 by omega), sI_o (show b + 75 ≠ b + 76 by omega)]
    exact c1.2.2.1 j hj
  · rw [sI_o (show a ≠ b + 76 by omega), sI_o (show a ≠ b + 76 by omega)]
  · rw [sI_eq, List.length_append]
    rfl
  · rw [List.length_append]
    show M.length + 1 ≤ 900
    omega
  · rw [List.length_append] at hj
    have hj : j < M.length + 1 := hj
    rw [sI_ne (by omega)]
    rcases (by omega : j < M.length ∨ j = M.length) with q | rfl
    · rw [sI_ne (by omega), c11 j q, List.getD_eq_getElem?_getD, List.getD_eq_getElem?_getD, List.getElem?_append_left q]
    · rw [sI_eq, List.getD_eq_getElem?_getD, List.getElem?_append_right (Nat.le_refl _), Nat.sub_self]
      rfl
theorem wordOf_r (C : RS b sv z tx N w T M g) (hw : w < 2) : f_X12_wordOf z g (b + 72) (nI T.2.2.1) = some (if fct w T.2.2.1 = 9 then -1 else nI (fct w T.2.2.1)) := by
  have hT := (tkT C.tk).2.2.2.2
  have c8 := C.2.2.2.2.2.2.2.1 hw
  unfold f_X12_wordOf
  rw [if_pos C.K, gI_ok C.K, bS, c8]
  simp only [within_ok]
  generalize T.2.2.1 = k at *
  have key : ∀ k, k < 42 → ∀ w, w < 2 → (if nI k = 4 then some (0 : Int32) else (if nI k = 14 then some (1 : Int32) else (if nI (1 - w) = 0 then (some (if (15 : Int64).toInt ≤ (Int32.toInt64 (nI k)).toInt ∧ (Int32.toInt64 (nI k)).toInt ≤ (19 : Int64).toInt then (1 : Int32) else 0)).bind (fun x5 => if x5 = 0 then some (-1 : Int32) else some ((2 + nI k) - 15)) else some (-1 : Int32)))) = some (if fct w k = 9 then -1 else nI (fct w k)) := by decide +kernel
  exact key k hT w hw
theorem goes_t (C : RS b sv z tx N w T M g) (hN : N ≤ 900) (hx : ∀ j, tx j < 256) (hn : 400000 ≤ n) {d : Nat} (hd : d < 6) : ∃ g', f_X12_goesIn n z g (b + 72) (nI d) = some (1, g') ∧ FrR b g g' ∧ RS b sv z tx N w (tkN tx N T.2.1) M g' := by
  obtain ⟨g', e1, e2, e3⟩ := next_R C hN hx hn
  refine ⟨g', ?_, e2, e3⟩
  unfold f_X12_goesIn f_X12_goesIn_11 f_X12_goesIn_22
  rw [if_pos C.K, if_neg (fun w => by
    have := (nI_inj (j := 6) (by omega) (by decide)).mp w
    omega), gI_ok C.K, bS, C.2.2.1, if_pos (show nI 0 = 0 from rfl), e1, bS, gI_ok C.K, bS, e3.2.2.1, if_pos (show nI 0 = 0 from rfl)]
/-! once something is wrong nothing happens -/
theorem RF.K {fl pl : Nat} (C : RF b z fl pl g) : z.K (b + 72) = 12 := km_0 C.1
theorem RF.ne {fl pl : Nat} (C : RF b z fl pl g) : ¬ (g.I (b + 72) 11 = 0) := fun q => by
  have h1 := C.2.1
  have h4 := C.2.2.2
  rw [h1] at q
  have := (nI_inj (j := 0) (by omega) (by decide)).mp q
  omega
theorem is_F {fl pl : Nat} (C : RF b z fl pl g) (x : Int32) : f_X12_is z g (b + 72) x = some 0 := by
  unfold f_X12_is
  rw [if_pos C.K, gI_ok C.K, bS, if_neg C.ne]
theorem eats_F {fl pl : Nat} (C : RF b z fl pl g) (x : Int32) : f_X12_eats n z g (b + 72) x = some (0, g) := by
  unfold f_X12_eats
  rw [if_pos C.K, is_F C, bS, if_pos rfl]
theorem fails_F {fl pl : Nat} (C : RF b z fl pl g) (x : Int32) : f_X12_fails z g (b + 72) x = some g := by
  unfold f_X12_fails
  rw [if_pos C.K, gI_ok C.K, bS, if_neg C.ne]
theorem codes_F {fl pl : Nat} (C : RF b z fl pl g) (x : Int32) : f_X12_codes z g (b + 72) x = some g := by
  unfold f_X12_codes
  rw [if_pos C.K, gI_ok C.K, bS, if_neg C.ne]
theorem goes_f (C : RS b sv z tx N w T M g) : ∃ g', f_X12_goesIn n z g (b + 72) (nI 6) = some (0, g') ∧ FrR b g g' ∧ RF b z (flt T.2.2.1 4) T.1 g' := by
  obtain ⟨g', e1, e2, e3⟩ := fails_r C (v := 4) (by decide) (by decide)
  have e1 : f_X12_fails z g (b + 72) 4 = some g' := e1
  refine ⟨g', ?_, e2, e3⟩
  unfold f_X12_goesIn f_X12_goesIn_11 f_X12_goesIn_22
  rw [if_pos C.K, if_pos (show nI 6 = 6 from rfl), e1, bS, gI_ok C.K, bS, if_neg e3.ne, bS, if_neg e3.ne]
theorem takes_t (C : RS b sv z tx N w T M g) (hN : N ≤ 900) (hx : ∀ j, tx j < 256) (hn : 400000 ≤ n) {lo hi : Nat} (hlo : lo < 1000) (hhi : hi < 1000) (hk : T.2.2.1 = 24) (h1 : lo ≤ T.2.2.2) (h2 : T.2.2.2 ≤ hi) : ∃ g', f_X12_takes n z g (b + 72) (nI lo) (nI hi) = some (nI T.2.2.2, g') ∧ FrR b g g' ∧ RS b sv z tx N w (tkN tx N T.2.1) M g' := by
  obtain ⟨g', e1, e2, e3⟩ := next_R C hN hx hn
  refine ⟨g', ?_, e2, e3⟩
  have hm := (tkT C.tk).2.2.2.1 hk
  have c7 := C.2.2.2.2.2.2.1 hk
  have i24 : f_X12_is z g (b + 72) 24 = some 1 := (is_r C (k := 24) (by decide)).trans (by rw [if_pos hk])
  have hw : f_X12_within z g (Int32.toInt64 (nI T.2.2.2)) (Int32.toInt64 (nI lo)) (Int32.toInt64 (nI hi)) = some 1 := by
    rw [within_ok, nI_iI, nI_iI, nI_iI, iI_64 (by omega) (by omega), iI_64 (by omega) (by omega), iI_64 (by omega) (by omega), lI_to (by omega) (by omega), lI_to (by omega) (by omega), lI_to (by omega) (by omega), if_pos (by omega)]
  unfold f_X12_takes f_X12_takes_37
  rw [if_pos C.K, i24, bS, if_neg (by decide), gI_ok C.K, bS, c7, hw, bS, if_neg (by decide), gI_ok C.K, bS, bS, C.2.2.1, if_pos (show nI 0 = 0 from rfl), e1, bS]
theorem takes_f (C : RS b sv z tx N w T M g) {lo hi : Nat} (hlo : lo < 1000) (hhi : hi < 1000) (hk : ¬ (T.2.2.1 = 24 ∧ lo ≤ T.2.2.2 ∧ T.2.2.2 ≤ hi)) : ∃ g' x, f_X12_takes n z g (b + 72) (nI lo) (nI hi) = some (x, g') ∧ FrR b g g' ∧ RF b z (if T.2.2.1 = 24 then 3 else flt T.2.2.1 2) T.1 g' := by
  have t37 : ∀ {fl pl : Nat} {g' : Hp}, RF b z fl pl g' → f_X12_takes_37 n z g' (b + 72) = some (g'.I (b + 72) 10, g') := by
    intro fl pl g' F
    unfold f_X12_takes_37
    rw [gI_ok F.K, bS, gI_ok F.K, bS, if_neg F.ne]
  by_cases q : T.2.2.1 = 24
  · obtain ⟨g', e1, e2, e3⟩ := fails_r C (v := 3) (by decide) (by decide)
    have e1 : f_X12_fails z g (b + 72) 3 = some g' := e1
    have hm := (tkT C.tk).2.2.2.1 q
    have c7 := C.2.2.2.2.2.2.1 q
    have i24 : f_X12_is z g (b + 72) 24 = some 1 := (is_r C (k := 24) (by decide)).trans (by rw [if_pos q])
    have hw : f_X12_within z g (Int32.toInt64 (nI T.2.2.2)) (Int32.toInt64 (nI lo)) (Int32.toInt64 (nI hi)) = some 0 := by
      rw [within_ok, nI_iI, nI_iI, nI_iI, iI_64 (by omega) (by omega), iI_64 (by omega) (by omega), iI_64 (by omega) (by omega), lI_to (by omega) (by omega), lI_to (by omega) (by omega), lI_to (by omega) (by omega), if_neg (by omega)]
    have wf : flt T.2.2.1 3 = 3 := by
      unfold flt
      rw [if_neg (by omega)]
    rw [wf] at e3
    rw [if_pos q]
    refine ⟨g', g'.I (b + 72) 10, ?_, e2, e3⟩
    unfold f_X12_takes
    rw [if_pos C.K, i24, bS, if_neg (by decide), gI_ok C.K, bS, c7, hw, bS, if_pos rfl, e1, bS]
    exact t37 e3
  · obtain ⟨g', e1, e2, e3⟩ := fails_r C (v := 2) (by decide) (by decide)
    have e1 : f_X12_fails z g (b + 72) 2 = some g' := e1
    have i24 : f_X12_is z g (b + 72) 24 = some 0 := (is_r C (k := 24) (by decide)).trans (by rw [if_neg q])
    rw [if_neg q]
    refine ⟨g', g'.I (b + 72) 10, ?_, e2, e3⟩
    unfold f_X12_takes
    rw [if_pos C.K, i24, bS, if_pos rfl, e1, bS]
    exact t37 e3
theorem takes_F {fl pl : Nat} (C : RF b z fl pl g) (x y : Int32) : f_X12_takes n z g (b + 72) x y = some (g.I (b + 72) 10, g) := by
  unfold f_X12_takes f_X12_takes_37
  rw [if_pos C.K, is_F C, bS, if_pos rfl, fails_F C, bS, gI_ok C.K, bS, gI_ok C.K, bS, if_neg C.ne]
theorem atom_F {fl pl : Nat} (C : RF b z fl pl g) (i : Nat) (x : Int32) : (rc_X12_readAtom n (i + 1)).1 z g (b + 72) x = some g := by
  show F_X12_readAtom n _ _ _ _ _ _ _ z g (b + 72) x = some g
  unfold F_X12_readAtom f_X12_readAtom_66
  rw [if_pos C.K, is_F C, bS, if_pos rfl, gI_ok C.K, bS, if_neg C.ne, is_F C, bS, if_pos rfl, is_F C, bS, if_pos rfl, fails_F C, bS]
theorem term_F {fl pl : Nat} (C : RF b z fl pl g) (hn : 400000 ≤ n) (i : Nat) (x : Int32) : (rc_X12_readAtom n (i + 2)).2.2.1 z g (b + 72) x = some g := by
  show F_X12_readTerm n _ _ _ _ _ _ _ z g (b + 72) x = some g
  obtain ⟨n, rfl⟩ : ∃ k, n = k + 1 := ⟨n - 1, by omega⟩
  unfold F_X12_readTerm ckK
  rw [if_pos C.K, if_pos C.K, bS, atom_F C, bS, f_X12_readTerm_5.eq_2, eats_F C, bS]
  rfl
theorem sum_F {fl pl : Nat} (C : RF b z fl pl g) (hn : 400000 ≤ n) (i : Nat) (x : Int32) : (rc_X12_readAtom n (i + 3)).2.2.2.1 z g (b + 72) x = some g := by
  show F_X12_readSum n _ _ _ _ _ _ _ z g (b + 72) x = some g
  obtain ⟨n, rfl⟩ : ∃ k, n = k + 1 := ⟨n - 1, by omega⟩
  unfold F_X12_readSum ckK
  rw [if_pos C.K, if_pos C.K, bS, term_F C (by omega), bS, f_X12_readSum_5.eq_2, is_F C, bS, if_pos rfl, is_F C, bS, if_pos rfl]
end
