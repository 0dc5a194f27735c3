/-! ===== the reference's start ===== -/
theorem rowI_setI (h : Hp) (a k : Nat) (f : Nat → Int32) (v : Int32) : (h.rowI a f).setI a k v = h.rowI a (upd f k v) := by
  simp only [Hp.setI, rowI_I]
  simp only [Hp.rowI, Hp.rowI]
  congr 1
  funext j
  simp only [va_up]
  split <;> rfl
theorem rowI_self (h : Hp) (a : Nat) : h.rowI a (h.I a) = h := by
  simp only [Hp.rowI, Hp.I]
  have : va_up h.1 a (h.1 a) = h.1 := by
    funext j
    simp only [va_up]
    split
    · rename_i e
      rw [e]
    · rfl
  rw [this]
theorem leL {n j : Nat} (hn : n < 2147483648) (hj : j < 2147483648) : (nI n ≤ nI j) ↔ n ≤ j := nI_leI hn hj
def zr (f : Nat → Int32) (j : Nat) : Nat → Int32 := fun k => if k < j then 0 else f k
theorem zr_0 (f : Nat → Int32) : zr f 0 = f := by funext k; simp [zr]
theorem zr_s (f : Nat → Int32) (j : Nat) : upd (zr f j) j 0 = zr f (j + 1) := by
  funext k
  simp only [upd, zr]
  by_cases h1 : k = j
  · subst h1
    simp
  · by_cases h2 : k < j
    · simp [h1, h2, Nat.lt_succ_of_lt h2]
    · simp [h1, h2, show ¬ k < j + 1 by omega]
/-- LIFE 1 and no last trade, for the first j people -/
def pl (f : Nat → Int32) (j : Nat) : Nat → Int32 := fun k => if 24 ≤ k ∧ k < 24 + j then 1 else if 36 ≤ k ∧ k < 36 + j then 9 else f k
theorem pl_0 (f : Nat → Int32) : pl f 0 = f := by
  funext k
  simp only [pl]
  rw [if_neg (by omega), if_neg (by omega)]
theorem pl_s (f : Nat → Int32) {j : Nat} (hj : j < 6) : upd (upd (pl f j) (24 + j) 1) (36 + j) 9 = pl f (j + 1) := by
  funext k
  simp only [upd, pl]
  by_cases h1 : k = 36 + j
  · subst h1
    rw [if_pos rfl, if_neg (by omega), if_pos (by omega)]
  · rw [if_neg h1]
    by_cases h2 : k = 24 + j
    · subst h2
      rw [if_pos rfl, if_pos (by omega)]
    · rw [if_neg h2]
      by_cases h3 : 24 ≤ k ∧ k < 24 + j
      · rw [if_pos h3, if_pos (by omega)]
      · rw [if_neg h3, if_neg (show ¬ (24 ≤ k ∧ k < 24 + (j + 1)) by omega)]
        by_cases h4 : 36 ≤ k ∧ k < 36 + j
        · rw [if_pos h4, if_pos (by omega)]
        · rw [if_neg h4, if_neg (show ¬ (36 ≤ k ∧ k < 36 + (j + 1)) by omega)]
/-- what 'plain' leaves -/
def plainRow (f : Nat → Int32) : Nat → Int32 := pl (upd (upd (zr f 1458) 1 1) 2 1) 6
theorem plain_29 {n : Nat} {z : Sh} {h : Hp} {a N : Nat} (hK : z.K a = 14) (hN : z.N a = N) (h1 : 1458 ≤ N) (h2 : N < 2147483648) (f : Nat → Int32) : ∀ (d j i : Nat), j + d = 6 → d < i → f_X12_plain_29 n z i (h.rowI a (pl f j)) a (nI j) = some (h.rowI a (pl f 6)) := by
  intro d
  induction d with
  | zero =>
    intro j i hj hi
    obtain ⟨i, rfl⟩ : ∃ k, i = k + 1 := ⟨i - 1, by omega⟩
    rw [f_X12_plain_29.eq_2, show j = 6 by omega, if_pos (show (6 : Int32) ≤ nI 6 from by decide)]
  | succ d ih =>
    intro j i hj hi
    obtain ⟨i, rfl⟩ : ∃ k, i = k + 1 := ⟨i - 1, by omega⟩
    rw [f_X12_plain_29.eq_2, if_neg (show ¬ ((6 : Int32) ≤ nI j) from fun q => absurd ((leL (n := 6) (by decide) (by omega)).mp q) (by omega))]
    rw [stI_ok (j := 24 + j) hK hN (nI_add 24 j) (by omega) h2, bS, rowI_setI, stI_ok (j := 36 + j) hK hN (nI_add 36 j) (by omega) h2, bS, rowI_setI, bS, pl_s f (by omega), nI_1]
    exact ih (j + 1) i (by omega) (by omega)
theorem plain_2 {n : Nat} {z : Sh} {h : Hp} {a N : Nat} (hn : 6 < n) (hK : z.K a = 14) (hN : z.N a = N) (h1 : 1458 ≤ N) (h2 : N < 2147483648) (f : Nat → Int32) : ∀ (d j i : Nat), j + d = 1458 → d < i → f_X12_plain_2 n z i (h.rowI a (zr f j)) a (nI j) = some (h.rowI a (plainRow f)) := by
  intro d
  induction d with
  | zero =>
    intro j i hj hi
    obtain ⟨i, rfl⟩ : ∃ k, i = k + 1 := ⟨i - 1, by omega⟩
    rw [f_X12_plain_2.eq_2, show j = 1458 by omega, if_pos (show (1458 : Int32) ≤ nI 1458 from by decide)]
    rw [stI_ok (j := 1) hK hN rfl (by omega) h2, bS, rowI_setI, stI_ok (j := 2) hK hN rfl (by omega) h2, bS, rowI_setI]
    have := plain_29 (n := n) (h := h) hK hN h1 h2 (upd (upd (zr f 1458) 1 1) 2 1) 6 0 n (by omega) hn
    rw [pl_0] at this
    exact this
  | succ d ih =>
    intro j i hj hi
    obtain ⟨i, rfl⟩ : ∃ k, i = k + 1 := ⟨i - 1, by omega⟩
    rw [f_X12_plain_2.eq_2, if_neg (show ¬ ((1458 : Int32) ≤ nI j) from fun q => absurd ((leL (n := 1458) (by decide) (by omega)).mp q) (by omega))]
    rw [stI_ok (j := j) hK hN rfl (by omega) h2, bS, rowI_setI, bS, zr_s, nI_1]
    exact ih (j + 1) i (by omega) (by omega)
theorem plain_ok {n : Nat} {z : Sh} {h : Hp} {a N : Nat} (hn : 1458 < n) (hK : z.K a = 14) (hN : z.N a = N) (h1 : 1458 ≤ N) (h2 : N < 2147483648) : f_X12_plain n z h a = some (h.rowI a (plainRow (h.I a))) := by
  have := plain_2 (n := n) (h := h) (by omega) hK hN h1 h2 (h.I a) 1458 0 n (by omega) hn
  rw [zr_0, rowI_self] at this
  exact this
set_option maxHeartbeats 4000000 in
set_option maxRecDepth 20000 in
theorem m_init {n : Nat} {z : Sh} {h : Hp} {m : Nat} (hn : 1458 < n) (hs : z.sz = m + 1) (hK : z.K m = 12) (hI : h.I m = fun _ => 0) (hJ : h.J m = fun _ => 0) (hR : h.R m = fun _ => none) : ∃ h' z', f_X12_init n z h m = some (h', z') ∧ LayM z' h' m ∧ z'.sz = m + 20 ∧ z'.sl = z.sl + 405757 ∧ (∀ a, a < m → z'.K a = z.K a ∧ z'.N a = z.N a ∧ h'.I a = h.I a ∧ h'.J a = h.J a ∧ h'.R a = h.R a) ∧ (∀ k, z'.st k = z.st k) ∧ h'.I m = upd (fun _ => 0) 14 (-1) ∧ h'.I (m + 1) = plainRow (fun _ => 0) ∧ h'.I (m + 17) = (fun k => if k < 4 then -1 else 0) ∧ (∀ o, 2 ≤ o → o < 20 → o ≠ 17 → h'.I (m + o) = fun _ => 0) ∧ ∀ o, o < 20 → h'.J (m + o) = fun _ => 0 := by
  have H : BI z h m 1 0 (fun _ => 12) (fun _ => z.N m) (fun _ _ => 0) (fun _ _ => none) z h := ⟨hs, rfl, fun i hi => by
    have : i = 0 := by omega
    subst this
    exact ⟨hK, rfl, hI, hJ, hR⟩, fun _ _ => ⟨rfl, rfl, rfl, rfl, rfl⟩, fun _ => rfl⟩
  have main : ev (f_X12_init n z h m) (fun q => m + 20 ≤ q.2.sz ∧ z.sl + 405757 ≤ q.2.sl ∧ ∃ h1, q.1 = h1.rowI (m + 1) (plainRow (fun _ => 0)) ∧ ∃ (kf nl : Nat → Nat) (rI : Nat → Nat → Int32) (rR : Nat → Nat → Option Nat), BI z h m 20 405757 kf nl rI rR q.2 h1 ∧ (∀ o, o < 20 → kf o = kM o) ∧ (∀ o, 1 ≤ o → o < 20 → nl o = nM o) ∧ (∀ k, k < 36 → rb 12 k = true → rR 0 k = some (m + oM k)) ∧ rI 0 = upd (fun _ => 0) 14 (-1) ∧ rI 1 = (fun _ => 0) ∧ rI 17 = (fun k => if k < 4 then -1 else 0) ∧ ∀ o, 2 ≤ o → o < 20 → o ≠ 17 → rI o = fun _ => 0) := by
    unfold f_X12_init
    refine ev_pos hK ?_
    have hP : ∀ q : Hp × Sh, (m + 20 ≤ q.2.sz ∧ z.sl + 405757 ≤ q.2.sl ∧ ∃ h1, q.1 = h1.rowI (m + 1) (plainRow (fun _ => 0)) ∧ ∃ (kf nl : Nat → Nat) (rI : Nat → Nat → Int32) (rR : Nat → Nat → Option Nat), BI z h m 20 405757 kf nl rI rR q.2 h1 ∧ (∀ o, o < 20 → kf o = kM o) ∧ (∀ o, 1 ≤ o → o < 20 → nl o = nM o) ∧ (∀ k, k < 36 → rb 12 k = true → rR 0 k = some (m + oM k)) ∧ rI 0 = upd (fun _ => 0) 14 (-1) ∧ rI 1 = (fun _ => 0) ∧ rI 17 = (fun k => if k < 4 then -1 else 0) ∧ ∀ o, 2 ≤ o → o < 20 → o ≠ 17 → rI o = fun _ => 0) → m + 20 ≤ q.2.sz ∧ z.sl + 405757 ≤ q.2.sl := fun q hq => ⟨hq.1, hq.2.1⟩
    refine ev_gdB hP (by omega) (by omega) ?_
    refine ev_nwA (kd := 14) (N := 4374) H rfl (by decide) (by decide) hP (by omega) (by omega) (fun z3 h2 H => ?_)
    refine ev_pR (i := 0) H (by decide) rfl (fun h4 H => ?_)
    refine ev_nwA (kd := 16) (N := 2) H rfl (by decide) (by decide) hP (by omega) (by omega) (fun z7 h6 H => ?_)
    refine ev_pR (i := 0) H (by decide) rfl (fun h8 H => ?_)
    refine ev_nwA (kd := 14) (N := 900) H rfl (by decide) (by decide) hP (by omega) (by omega) (fun z11 h10 H => ?_)
    refine ev_pR (i := 0) H (by decide) rfl (fun h12 H => ?_)
    refine ev_nwA (kd := 14) (N := 1458) H rfl (by decide) (by decide) hP (by omega) (by omega) (fun z15 h14 H => ?_)
    refine ev_pR (i := 0) H (by decide) rfl (fun h16 H => ?_)
    refine ev_pI (i := 0) H (by decide) rfl (fun h17 H => ?_)
    refine ev_nwA (kd := 14) (N := 900) H rfl (by decide) (by decide) hP (by omega) (by omega) (fun z20 h19 H => ?_)
    refine ev_pR (i := 0) H (by decide) rfl (fun h21 H => ?_)
    refine ev_nwA (kd := 14) (N := 7) H rfl (by decide) (by decide) hP (by omega) (by omega) (fun z24 h23 H => ?_)
    refine ev_pR (i := 0) H (by decide) rfl (fun h25 H => ?_)
    refine ev_nwA (kd := 14) (N := 49) H rfl (by decide) (by decide) hP (by omega) (by omega) (fun z28 h27 H => ?_)
    refine ev_pR (i := 0) H (by decide) rfl (fun h29 H => ?_)
    refine ev_nwA (kd := 14) (N := 3430) H rfl (by decide) (by decide) hP (by omega) (by omega) (fun z32 h31 H => ?_)
    refine ev_pR (i := 0) H (by decide) rfl (fun h33 H => ?_)
    refine ev_nwA (kd := 14) (N := 3430) H rfl (by decide) (by decide) hP (by omega) (by omega) (fun z36 h35 H => ?_)
    refine ev_pR (i := 0) H (by decide) rfl (fun h37 H => ?_)
    refine ev_nwA (kd := 15) (N := 3430) H rfl (by decide) (by decide) hP (by omega) (by omega) (fun z40 h39 H => ?_)
    refine ev_pR (i := 0) H (by decide) rfl (fun h41 H => ?_)
    refine ev_nwA (kd := 16) (N := 3430) H rfl (by decide) (by decide) hP (by omega) (by omega) (fun z44 h43 H => ?_)
    refine ev_pR (i := 0) H (by decide) rfl (fun h45 H => ?_)
    refine ev_nwA (kd := 14) (N := 3430) H rfl (by decide) (by decide) hP (by omega) (by omega) (fun z48 h47 H => ?_)
    refine ev_pR (i := 0) H (by decide) rfl (fun h49 H => ?_)
    refine ev_nwA (kd := 14) (N := 3430) H rfl (by decide) (by decide) hP (by omega) (by omega) (fun z52 h51 H => ?_)
    refine ev_pR (i := 0) H (by decide) rfl (fun h53 H => ?_)
    refine ev_nwA (kd := 15) (N := 3430) H rfl (by decide) (by decide) hP (by omega) (by omega) (fun z56 h55 H => ?_)
    refine ev_pR (i := 0) H (by decide) rfl (fun h57 H => ?_)
    refine ev_nwA (kd := 15) (N := 373870) H rfl (by decide) (by decide) hP (by omega) (by omega) (fun z60 h59 H => ?_)
    refine ev_pR (i := 0) H (by decide) rfl (fun h61 H => ?_)
    refine ev_nwA (kd := 14) (N := 19) H rfl (by decide) (by decide) hP (by omega) (by omega) (fun z64 h63 H => ?_)
    refine ev_pR (i := 0) H (by decide) rfl (fun h65 H => ?_)
    refine ev_nwA (kd := 14) (N := 4) H rfl (by decide) (by decide) hP (by omega) (by omega) (fun z68 h67 H => ?_)
    refine ev_stIB (i := 17) (j := 0) H (by decide) rfl rfl (by decide) (by decide) (fun h69 H => ?_)
    refine ev_stIB (i := 17) (j := 1) H (by decide) rfl rfl (by decide) (by decide) (fun h70 H => ?_)
    refine ev_stIB (i := 17) (j := 2) H (by decide) rfl rfl (by decide) (by decide) (fun h71 H => ?_)
    refine ev_stIB (i := 17) (j := 3) H (by decide) rfl rfl (by decide) (by decide) (fun h72 H => ?_)
    refine ev_pR (i := 0) H (by decide) rfl (fun h73 H => ?_)
    refine ev_nwA (kd := 14) (N := 4) H rfl (by decide) (by decide) hP (by omega) (by omega) (fun z76 h75 H => ?_)
    refine ev_pR (i := 0) H (by decide) rfl (fun h77 H => ?_)
    refine ev_nwA (kd := 15) (N := 160) H rfl (by decide) (by decide) hP (by omega) (by omega) (fun z80 h79 H => ?_)
    refine ev_pR (i := 0) H (by decide) rfl (fun h81 H => ?_)
    refine ev_gR (i := 0) (v := m + 1) H (by decide) rfl rfl ?_
    have h1 := plain_ok (n := n) (z := z80) (h := h81) (a := m + 1) (N := 4374) hn ((H.K (i := 1) (by decide)).trans rfl) ((H.N (i := 1) (by decide)).trans rfl) (by decide) (by decide)
    have e1 : h81.I (m + 1) = fun _ => 0 := (H.2.2.1 1 (by decide)).2.2.1
    rw [e1] at h1
    refine ev_go h1 ?_
    refine ev_some ⟨by have := H.1; simp only; omega, by have := H.2.1; simp only; omega, h81, rfl, _, _, _, _, H, ?_, ?_, ?_, rfl, rfl, ?_, ?_⟩
    · intro o ho
      match o, ho with
      | 0, _ => rfl
      | 1, _ => rfl
      | 2, _ => rfl
      | 3, _ => rfl
      | 4, _ => rfl
      | 5, _ => rfl
      | 6, _ => rfl
      | 7, _ => rfl
      | 8, _ => rfl
      | 9, _ => rfl
      | 10, _ => rfl
      | 11, _ => rfl
      | 12, _ => rfl
      | 13, _ => rfl
      | 14, _ => rfl
      | 15, _ => rfl
      | 16, _ => rfl
      | 17, _ => rfl
      | 18, _ => rfl
      | 19, _ => rfl
      | o + 20, ho => omega
    · intro o h1 ho
      match o, h1, ho with
      | 1, _, _ => rfl
      | 2, _, _ => rfl
      | 3, _, _ => rfl
      | 4, _, _ => rfl
      | 5, _, _ => rfl
      | 6, _, _ => rfl
      | 7, _, _ => rfl
      | 8, _, _ => rfl
      | 9, _, _ => rfl
      | 10, _, _ => rfl
      | 11, _, _ => rfl
      | 12, _, _ => rfl
      | 13, _, _ => rfl
      | 14, _, _ => rfl
      | 15, _, _ => rfl
      | 16, _, _ => rfl
      | 17, _, _ => rfl
      | 18, _, _ => rfl
      | 19, _, _ => rfl
      | o + 20, _, ho => omega
    · intro k hk hr
      match k, hk, hr with
      | 0, _, hr => cases hr
      | 1, _, _ => rfl
      | 2, _, _ => rfl
      | 3, _, _ => rfl
      | 4, _, _ => rfl
      | 5, _, hr => cases hr
      | 6, _, hr => cases hr
      | 7, _, hr => cases hr
      | 8, _, hr => cases hr
      | 9, _, hr => cases hr
      | 10, _, hr => cases hr
      | 11, _, hr => cases hr
      | 12, _, hr => cases hr
      | 13, _, hr => cases hr
      | 14, _, hr => cases hr
      | 15, _, hr => cases hr
      | 16, _, _ => rfl
      | 17, _, _ => rfl
      | 18, _, _ => rfl
      | 19, _, hr => cases hr
      | 20, _, hr => cases hr
      | 21, _, _ => rfl
      | 22, _, _ => rfl
      | 23, _, _ => rfl
      | 24, _, _ => rfl
      | 25, _, hr => cases hr
      | 26, _, hr => cases hr
      | 27, _, _ => rfl
      | 28, _, _ => rfl
      | 29, _, _ => rfl
      | 30, _, _ => rfl
      | 31, _, _ => rfl
      | 32, _, hr => cases hr
      | 33, _, _ => rfl
      | 34, _, _ => rfl
      | 35, _, _ => rfl
      | k + 36, hk, _ => omega
    · funext k
      match k with
      | 0 => rfl
      | 1 => rfl
      | 2 => rfl
      | 3 => rfl
      | k + 4 => rfl
    · intro o h1 ho hne
      match o, h1, ho, hne with
      | 2, _, _, _ => rfl
      | 3, _, _, _ => rfl
      | 4, _, _, _ => rfl
      | 5, _, _, _ => rfl
      | 6, _, _, _ => rfl
      | 7, _, _, _ => rfl
      | 8, _, _, _ => rfl
      | 9, _, _, _ => rfl
      | 10, _, _, _ => rfl
      | 11, _, _, _ => rfl
      | 12, _, _, _ => rfl
      | 13, _, _, _ => rfl
      | 14, _, _, _ => rfl
      | 15, _, _, _ => rfl
      | 16, _, _, _ => rfl
      | 18, _, _, _ => rfl
      | 19, _, _, _ => rfl
      | 17, _, _, hne => exact absurd rfl hne
      | o + 20, _, ho, _ => omega
  obtain ⟨⟨h', z'⟩, hf, l1, l2, h1, e1, kf, nl, rI, rR, H, q1, q2, q3, q4, q5, q6, q7⟩ := main
  dsimp only at e1 H
  subst e1
  have ne1 : ∀ o, o ≠ 1 → m + o ≠ m + 1 := fun o ho => by omega
  refine ⟨_, _, hf, ⟨fun o ho => (H.K ho).trans (q1 o ho), fun o h1 ho => (H.N ho).trans (q2 o h1 ho), fun k hk hr => ?_⟩, H.1, H.2.1, fun a ha => ?_, H.2.2.2.2, ?_, ?_, ?_, ?_, ?_⟩
  · have := (H.2.2.1 0 (by decide)).2.2.2.2
    rw [Nat.add_zero] at this
    show h1.R m k = _
    rw [this]
    exact q3 k hk hr
  · rw [rowI_ne h1 _ (show a ≠ m + 1 by omega)]
    exact H.2.2.2.1 a ha
  · rw [rowI_ne h1 _ (show m ≠ m + 1 by omega)]
    exact ((H.2.2.1 0 (by decide)).2.2.1).trans q4
  · rw [rowI_I]
  · rw [rowI_ne h1 _ (ne1 17 (by decide))]
    exact ((H.2.2.1 17 (by decide)).2.2.1).trans q6
  · intro o h2 ho hne
    rw [rowI_ne h1 _ (ne1 o (by omega))]
    exact ((H.2.2.1 o ho).2.2.1).trans (q7 o h2 ho hne)
  · intro o ho
    exact (H.2.2.1 o ho).2.2.2.1
