/-! ===== town, 3: the class's reader: is, wrong, emit, take ===== -/
def CS (b : Nat) (sv : Nat → Nat) (z : Sh) (tx : Nat → Nat) (N w : Nat) (T : Tk) (L : List Nat) (h : Hp) : Prop :=
  Cx b sv z tx N h ∧ (∃ e, e ≤ N ∧ T = tkN tx N e) ∧ h.I (b + 2) 0 = nI 0 ∧ h.I (b + 2) 4 = nI T.1 ∧ h.I (b + 2) 5 = nI T.2.1 ∧ h.I (b + 2) 6 = nI (ckO T.2.2.1) ∧ (T.2.2.1 = 24 → h.I (b + 2) 7 = nI T.2.2.2) ∧ h.I (b + 2) 9 = nI w ∧ (w < 2 → h.I (b + 2) 11 = nI L.length) ∧ (w < 2 → L.length ≤ 900) ∧ (w < 2 → ∀ j, j < L.length → h.I (b + 7) j = iI (cC (L.getD j 0)))
def CF (b w fl pl : Nat) (h : Hp) : Prop := h.I (b + 2) 0 = nI fl ∧ h.I (b + 2) 1 = nI pl ∧ 0 < fl ∧ fl < 5 ∧ pl ≤ 900 ∧ h.R (b + 2) 10 = some (b + 7) ∧ (w < 2 → ∃ l, l ≤ 900 ∧ h.I (b + 2) 11 = nI l)
theorem CF.wk {b w fl pl : Nat} {h : Hp} (F : CF b w fl pl h) : CF b 2 fl pl h := ⟨F.1, F.2.1, F.2.2.1, F.2.2.2.1, F.2.2.2.2.1, F.2.2.2.2.2.1, fun q => absurd q (by decide)⟩
def Fc (b : Nat) (h h' : Hp) : Prop := (∀ a, h'.R a = h.R a) ∧ (∀ a, h'.J a = h.J a) ∧ ∀ a, a ≠ b + 2 → a ≠ b + 7 → h'.I a = h.I a
def flt (k v : Nat) : Nat := if k = 26 then 1 else v
theorem Fc.rf {b : Nat} {h : Hp} : Fc b h h := ⟨fun _ => rfl, fun _ => rfl, fun _ _ _ => rfl⟩
theorem Fc.tr {b : Nat} {h h' h'' : Hp} (A : Fc b h h') (B : Fc b h' h'') : Fc b h h'' := ⟨fun a => (B.1 a).trans (A.1 a), fun a => (B.2.1 a).trans (A.2.1 a), fun a q1 q2 => (B.2.2 a q1 q2).trans (A.2.2 a q1 q2)⟩
theorem Fc.st {b : Nat} {h : Hp} {k : Nat} {v : Int32} : Fc b h (h.setI (b + 2) k v) := ⟨fun _ => rfl, fun _ => rfl, fun _ q _ => sI_o q⟩
theorem Fc.sl {b : Nat} {h : Hp} {k : Nat} {v : Int32} : Fc b h (h.setI (b + 7) k v) := ⟨fun _ => rfl, fun _ => rfl, fun _ _ q => sI_o q⟩
theorem Sb.fc {b : Nat} {h h' : Hp} (S : Sb b h h') : Fc b h h' := ⟨S.1, S.2.1, fun a q _ => S.2.2.1 a q⟩
theorem tkT {tx : Nat → Nat} {N : Nat} {T : Tk} (h : ∃ e, e ≤ N ∧ T = tkN tx N e) : T.1 ≤ T.2.1 ∧ T.2.1 ≤ N ∧ (T.2.2.1 ≠ 25 → T.1 < T.2.1) ∧ (T.2.2.1 = 24 → T.2.2.2 < 1000) ∧ T.2.2.1 < 42 := by
  obtain ⟨e, he, rfl⟩ := h
  exact (tk_ok he).2
theorem tkX {tx : Nat → Nat} {N : Nat} {T : Tk} (h : ∃ e, e ≤ N ∧ T = tkN tx N e) : ∃ e, e ≤ N ∧ tkN tx N T.2.1 = tkN tx N e := ⟨_, (tkT h).2.1, rfl⟩
/-- the next token lies behind -/
theorem tkG {tx : Nat → Nat} {N : Nat} {T : Tk} (h : ∃ e, e ≤ N ∧ T = tkN tx N e) (hk : T.2.2.1 ≠ 25) : T.1 + 1 ≤ (tkN tx N T.2.1).1 := by
  have h1 := tkT h
  have h2 := (tk_ok (tx := tx) h1.2.1).1
  have h3 := h1.2.2.1 hk
  omega
theorem ckO_lt (k : Nat) : ckO k < 5 := by
  unfold ckO
  repeat' split
  all_goals decide
theorem ckO_4 (k : Nat) : ckO k = 4 ↔ k = 26 := by
  unfold ckO
  repeat' split
  all_goals omega
theorem ckO_1 (k : Nat) : ckO k = 1 ↔ k = 24 := by
  unfold ckO
  repeat' split
  all_goals omega
theorem ckO_3 (k : Nat) : ckO k = 3 ↔ k = 25 := by
  unfold ckO
  repeat' split
  all_goals omega
section
variable {n b N w : Nat} {sv : Nat → Nat} {z : Sh} {tx : Nat → Nat} {T : Tk} {L : List Nat} {h : Hp}
theorem CS.tk (C : CS b sv z tx N w T L h) : ∃ e, e ≤ N ∧ T = tkN tx N e := C.2.1
theorem next_C (C : CS b sv z tx N w T L h) (Z : ZC b z) (hN : N ≤ 900) (hx : ∀ j, tx j < 256) (hn : 400000 ≤ n) : ∃ h', f_X6_next n z h (b + 2) = some h' ∧ Fc b h h' ∧ CS b sv z tx N w (tkN tx N T.2.1) L h' := by
  obtain ⟨c1, c2, c3, c4, c5, c6, c7, c8, c9, c10, c11⟩ := C
  obtain ⟨h', e1, e2, e3, e4, e5, e6⟩ := next_c Z hN hx hn c1 (tkT c2).2.1 c5
  have R := e2.2.2.2
  refine ⟨h', e1, e2.fc, c1.sb e2, tkX c2, ?_, e3, e4, e5, e6, ?_, fun q => ?_, c10, fun q j hj => ?_⟩
  · rw [R 0 (by decide) (by decide) (by decide) (by decide)]
    exact c3
  · rw [R 9 (by decide) (by decide) (by decide) (by decide)]
    exact c8
  · rw [R 11 (by decide) (by decide) (by decide) (by decide)]
    exact c9 q
  · rw [e2.2.2.1 (b + 7) (by omega)]
    exact c11 q j hj
theorem is35 (Z : ZC b z) (C : Cx b sv z tx N h) (hN : N ≤ 900) (hx : ∀ j, tx j < 256) {s a : Nat} (h1 : 11 ≤ s) (h2 : s < 46) (h4 : h.I (b + 2) 4 = nI a) (ha : a + (txL s).length ≤ N) : ∀ d i f, i + d = (txL s).length → d < f → ∃ r, f_X6_is_35 n z h f (b + 2) (z.st s) (nI i) = some r ∧ ((r = 1 ∧ ∀ j, i ≤ j → j < (txL s).length → tx (a + j) = (txL s).getD j 0) ∨ (r = 0 ∧ ∃ j, i ≤ j ∧ j < (txL s).length ∧ tx (a + j) ≠ (txL s).getD j 0)) := by
  have hl := txL_len s (by omega)
  intro d
  induction d with
  | zero =>
    intro i f hi hf
    obtain ⟨f, rfl⟩ : ∃ q, f = q + 1 := ⟨f - 1, by omega⟩
    refine ⟨1, ?_, Or.inl ⟨rfl, fun j q1 q2 => by omega⟩⟩
    rw [f_X6_is_35.eq_2, len_s C.2.2.2.2 (by omega) (by omega), bS, if_pos ((nI_leI (by omega) (by omega)).mpr (by omega))]
  | succ d ih =>
    intro i f hi hf
    obtain ⟨f, rfl⟩ : ∃ q, f = q + 1 := ⟨f - 1, by omega⟩
    obtain ⟨r, r1, r2⟩ := ih (i + 1) f (by omega) (by omega)
    have c1 : ¬ (nI (txL s).length ≤ nI i) := fun q => by
      rw [nI_leI (by omega) (by omega)] at q
      omega
    rw [f_X6_is_35.eq_2]
    simp only [len_s C.2.2.2.2 (show 10 ≤ s by omega) (show s < 48 by omega), bS, c1, if_false, gI_ok Z.2.2.1, h4, nI_add, nI_1, bA Z C hN (show a + i < N by omega), chr_s C.2.2.2.2 (show 10 ≤ s by omega) (show s < 48 by omega) (show i < (txL s).length by omega)]
    have hc := txL_lt s (by omega) _ (getD_mem (L := txL s) (j := i) (by omega))
    by_cases q : tx (a + i) = (txL s).getD i 0
    · refine ⟨r, ?_, ?_⟩
      · rw [if_pos (by rw [q])]
        exact r1
      · rcases r2 with ⟨q1, q2⟩ | ⟨q1, j, q2, q3, q4⟩
        · refine Or.inl ⟨q1, fun j w1 w2 => ?_⟩
          rcases (by omega : j = i ∨ i + 1 ≤ j) with rfl | w3
          · exact q
          · exact q2 j w3 w2
        · exact Or.inr ⟨q1, j, by omega, q3, q4⟩
    · refine ⟨0, ?_, Or.inr ⟨rfl, i, by omega, by omega, q⟩⟩
      have hv := hx (a + i)
      rw [if_neg (fun q5 => q ((nI_inj (by omega) (by omega)).mp q5))]
theorem is_c (C : CS b sv z tx N w T L h) (Z : ZC b z) (hN : N ≤ 900) (hx : ∀ j, tx j < 256) (hn : 400000 ≤ n) {s : Nat} (h1 : 11 ≤ s) (h2 : s < 46) : f_X6_is n z h (b + 2) (z.st s) = some (if T.2.2.1 = stK s then 1 else 0) := by
  obtain ⟨c1, c2, c3, c4, c5, c6, c7, c8, c9, c10, c11⟩ := C
  have hT := tkT c2
  obtain ⟨e, he, rfl⟩ := c2
  have hI := is_iff (tx := tx) (N := N) (e := e) h1 h2
  have hl := txL_len s (by omega)
  have hk := ckO_lt (tkN tx N e).2.2.1
  generalize tkN tx N e = T at *
  have i0 : (nI (ckO T.2.2.1) = 0) ↔ ckO T.2.2.1 = 0 := nI_inj (j := 0) (by omega) (by decide)
  have i2 : (nI (ckO T.2.2.1) = 2) ↔ ckO T.2.2.1 = 2 := nI_inj (j := 2) (by omega) (by decide)
  have e15 : (ckO T.2.2.1 = 0 ∨ ckO T.2.2.1 = 2) → f_X6_is_15 n z h (b + 2) (z.st s) = some (if T.2.2.1 = stK s then 1 else 0) := by
    intro hc
    unfold f_X6_is_15
    simp only [gI_ok Z.2.2.1, bS, c4, c5, len_s c1.2.2.2.2 (show 10 ≤ s by omega) (show s < 48 by omega)]
    rw [nI_sub hT.1]
    by_cases q : T.2.1 - T.1 = (txL s).length
    · obtain ⟨r, r1, r2⟩ := is35 (n := n) Z c1 hN hx h1 h2 c4 (by omega) (txL s).length 0 n (by omega) (by omega)
      rw [if_pos (by rw [q])]
      refine (show f_X6_is_35 n z h n (b + 2) (z.st s) 0 = some r from r1).trans ?_
      rcases r2 with ⟨rfl, q2⟩ | ⟨rfl, j, q2, q3, q4⟩
      · rw [if_pos (hI.mp ⟨hc, slc_eq.mpr ⟨q, fun j hj => q2 j (by omega) hj⟩⟩)]
      · rw [if_neg (fun w => q4 ((slc_eq.mp (hI.mpr w).2).2 j q3))]
    · rw [if_neg (fun w => q ((nI_inj (by omega) (by omega)).mp w)), if_neg (fun w => q (slc_eq.mp (hI.mpr w).2).1)]
  unfold f_X6_is
  simp only [Z.2.2.1, eq_self, if_true, gI_ok Z.2.2.1, bS, c6]
  by_cases q0 : ckO T.2.2.1 = 0
  · rw [if_pos (i0.mpr q0)]
    exact e15 (Or.inl q0)
  · rw [if_neg (fun w => q0 (i0.mp w))]
    by_cases q2 : ckO T.2.2.1 = 2
    · rw [if_pos (i2.mpr q2)]
      exact e15 (Or.inr q2)
    · rw [if_neg (fun w => q2 (i2.mp w)), if_neg (fun w => by
        rcases (hI.mpr w).1 with q | q
        · exact q0 q
        · exact q2 q)]
theorem is_y (C : CS b sv z tx N w T L h) (Z : ZC b z) (hN : N ≤ 900) (hx : ∀ j, tx j < 256) (hn : 400000 ≤ n) {s : Nat} (h1 : 11 ≤ s) (h2 : s < 46) (hk : T.2.2.1 = stK s) : f_X6_is n z h (b + 2) (z.st s) = some 1 := (is_c C Z hN hx hn h1 h2).trans (by rw [if_pos hk])
theorem is_n (C : CS b sv z tx N w T L h) (Z : ZC b z) (hN : N ≤ 900) (hx : ∀ j, tx j < 256) (hn : 400000 ≤ n) {s : Nat} (h1 : 11 ≤ s) (h2 : s < 46) (hk : T.2.2.1 ≠ stK s) : f_X6_is n z h (b + 2) (z.st s) = some 0 := (is_c C Z hN hx hn h1 h2).trans (by rw [if_neg hk])
theorem wrong_c (C : CS b sv z tx N w T L h) (Z : ZC b z) (hN : N ≤ 900) {v : Nat} (h1 : 0 < v) (h2 : v < 5) : ∃ h', f_X6_wrong z h (b + 2) (nI v) = some (0, h') ∧ Fc b h h' ∧ CF b w (flt T.2.2.1 v) T.1 h' := by
  obtain ⟨c1, c2, c3, c4, c5, c6, c7, c8, c9, c10, c11⟩ := C
  have hT := tkT c2
  have hk := ckO_lt T.2.2.1
  have i4 : (nI (ckO T.2.2.1) = 4) ↔ T.2.2.1 = 26 := (nI_inj (j := 4) (by omega) (by decide)).trans (ckO_4 _)
  have key : ∀ fl, 0 < fl → fl < 5 → ∃ h', f_X6_wrong_21 z h (b + 2) (nI fl) (b + 2) = some (0, h') ∧ Fc b h h' ∧ CF b w fl T.1 h' := by
    intro fl q1 q2
    refine ⟨(h.setI (b + 2) 0 (nI fl)).setI (b + 2) 1 (nI T.1), ?_, Fc.st.tr Fc.st, (sI_ne (by decide)).trans sI_eq, sI_eq, q1, q2, by omega, c1.2.1, fun q => ⟨L.length, c10 q, ?_⟩⟩
    · unfold f_X6_wrong_21
      rw [pI_ok Z.2.2.1, bS, gI_ok Z.2.2.1, bS, pI_ok Z.2.2.1, bS, sI_ne (by decide), c4]
    · rw [sI_ne (by decide), sI_ne (by decide)]
      exact c9 q
  unfold f_X6_wrong flt
  rw [if_pos Z.2.2.1, gI_ok Z.2.2.1, bS, c3, if_pos (show nI 0 = 0 from rfl), gI_ok Z.2.2.1, bS, c6]
  by_cases q : T.2.2.1 = 26
  · rw [if_pos (i4.mpr q), if_pos q]
    exact key 1 (by decide) (by decide)
  · rw [if_neg (fun w => q (i4.mp w)), if_neg q]
    exact key v h1 h2
theorem emit_C (hw : w < 2) (C : CS b sv z tx N w T L h) (Z : ZC b z) {c : Nat} (hL : L.length < 900) {x : Int32} (hxx : x = iI (cC c)) : ∃ h', f_X6_emit z h (b + 2) x = some h' ∧ Fc b h h' ∧ CS b sv z tx N w T (L ++ [c]) h' := by
  obtain ⟨c1, c2, c3, c4, c5, c6, c7, c8, c9, c10, c11⟩ := C
  have c9 := c9 hw
  have c10 := c10 hw
  have c11 := c11 hw
  have q1 : ¬ (nI 900 ≤ nI L.length) := fun q => by
    rw [nI_leI (by decide) (by omega)] at q
    omega
  have E : f_X6_emit z h (b + 2) x = some ((h.setI (b + 7) L.length x).setI (b + 2) 11 (nI (L.length + 1))) := by
    unfold f_X6_emit
    simp only [Z.2.2.1, eq_self, if_true, gI_ok Z.2.2.1, gR_ok Z.2.2.1 c1.2.1, bS, c9, aL_ok Z.2.2.2.1 rfl Z.2.2.2.2, q1, if_false, stI_ok Z.2.2.2.1 Z.2.2.2.2 rfl hL (by decide), pI_ok Z.2.2.1, sI_o (show b + 2 ≠ b + 7 by omega), nI_1]
  have I2 : ∀ k, k ≠ 11 → ((h.setI (b + 7) L.length x).setI (b + 2) 11 (nI (L.length + 1))).I (b + 2) k = h.I (b + 2) k := fun k hk => (sI_ne hk).trans (by rw [sI_o (show b + 2 ≠ b + 7 by omega)])
  refine ⟨_, E, Fc.sl.tr Fc.st, ⟨⟨c1.1.1, (I2 1 (by decide)).trans c1.1.2⟩, c1.2.1, (I2 3 (by decide)).trans c1.2.2.1, fun j hj => ?_, c1.2.2.2.2.mv (fun a ha => ?_) (fun _ _ => rfl)⟩, c2, (I2 0 (by decide)).trans c3, (I2 4 (by decide)).trans c4, (I2 5 (by decide)).trans c5, (I2 6 (by decide)).trans c6, fun q => (I2 7 (by decide)).trans (c7 q), (I2 9 (by decide)).trans c8, fun _ => ?_, fun _ => ?_, fun _ j hj => ?_⟩
  · rw [sI_o (show b + 1 ≠ b + 2 by omega), sI_o (show b + 1 ≠ b + 7 by omega)]
    exact c1.2.2.2.1 j hj
  · rw [sI_o (show a ≠ b + 2 by omega), sI_o (show a ≠ b + 7 by omega)]
  · rw [sI_eq, List.length_append]
    rfl
  · rw [List.length_append]
    show L.length + 1 ≤ 900
    omega
  · rw [List.length_append] at hj
    have hj : j < L.length + 1 := hj
    rw [sI_o (show b + 7 ≠ b + 2 by omega)]
    rcases (by omega : j < L.length ∨ j = L.length) with q | rfl
    · rw [sI_ne (by omega), c11 j q, List.getD_eq_getElem?_getD, List.getD_eq_getElem?_getD, List.getElem?_append_left q]
    · rw [sI_eq, hxx, List.getD_eq_getElem?_getD, List.getElem?_append_right (Nat.le_refl _), Nat.sub_self]
      rfl
theorem emit_F (hw : w < 2) {fl pl : Nat} (C : CF b w fl pl h) (Z : ZC b z) (x : Int32) : ∃ h', f_X6_emit z h (b + 2) x = some h' ∧ Fc b h h' ∧ CF b w fl pl h' := by
  obtain ⟨c1, c2, c3, c4, c5, c6, c7⟩ := C
  obtain ⟨l, c7, c8⟩ := c7 hw
  by_cases q : 900 ≤ l
  · refine ⟨h, ?_, Fc.rf, c1, c2, c3, c4, c5, c6, fun _ => ⟨l, c7, c8⟩⟩
    have q1 : nI 900 ≤ nI l := (nI_leI (by decide) (by omega)).mpr q
    unfold f_X6_emit
    simp only [Z.2.2.1, eq_self, if_true, gI_ok Z.2.2.1, gR_ok Z.2.2.1 c6, bS, c8, aL_ok Z.2.2.2.1 rfl Z.2.2.2.2, q1]
  · have q1 : ¬ (nI 900 ≤ nI l) := fun q2 => by
      rw [nI_leI (by decide) (by omega)] at q2
      omega
    have E : f_X6_emit z h (b + 2) x = some ((h.setI (b + 7) l x).setI (b + 2) 11 (nI (l + 1))) := by
      unfold f_X6_emit
      simp only [Z.2.2.1, eq_self, if_true, gI_ok Z.2.2.1, gR_ok Z.2.2.1 c6, bS, c8, aL_ok Z.2.2.2.1 rfl Z.2.2.2.2, q1, if_false, stI_ok Z.2.2.2.1 Z.2.2.2.2 rfl (show l < 900 by omega) (by decide), pI_ok Z.2.2.1, sI_o (show b + 2 ≠ b + 7 by omega), nI_1]
    refine ⟨_, E, Fc.sl.tr Fc.st, ?_, ?_, c3, c4, c5, c6, fun _ => ⟨l + 1, by omega, sI_eq⟩⟩
    · rw [sI_ne (by decide), sI_o (show b + 2 ≠ b + 7 by omega)]
      exact c1
    · rw [sI_ne (by decide), sI_o (show b + 2 ≠ b + 7 by omega)]
      exact c2
theorem take_t (C : CS b sv z tx N w T L h) (Z : ZC b z) (hN : N ≤ 900) (hx : ∀ j, tx j < 256) (hn : 400000 ≤ n) {s : Nat} (h1 : 11 ≤ s) (h2 : s < 46) (hk : T.2.2.1 = stK s) : ∃ h', f_X6_take n z h (b + 2) (z.st s) = some (1, h') ∧ Fc b h h' ∧ CS b sv z tx N w (tkN tx N T.2.1) L h' := by
  obtain ⟨h', e1, e2, e3⟩ := next_C C Z hN hx hn
  refine ⟨h', ?_, e2, e3⟩
  unfold f_X6_take
  rw [if_pos Z.2.2.1, is_c C Z hN hx hn h1 h2, bS, if_pos hk, if_neg (by decide), e1, bS]
theorem take_f (C : CS b sv z tx N w T L h) (Z : ZC b z) (hN : N ≤ 900) (hx : ∀ j, tx j < 256) (hn : 400000 ≤ n) {s : Nat} (h1 : 11 ≤ s) (h2 : s < 46) (hk : T.2.2.1 ≠ stK s) : ∃ h', f_X6_take n z h (b + 2) (z.st s) = some (0, h') ∧ Fc b h h' ∧ CF b w (flt T.2.2.1 2) T.1 h' := by
  obtain ⟨h', e1, e2, e3⟩ := wrong_c C Z hN (v := 2) (by decide) (by decide)
  refine ⟨h', ?_, e2, e3⟩
  have e1 : f_X6_wrong z h (b + 2) 2 = some (0, h') := e1
  unfold f_X6_take
  rw [if_pos Z.2.2.1, is_c C Z hN hx hn h1 h2, bS, if_neg hk, if_pos rfl, e1, bS]
  simp only [bz_ok (x := 0) (Or.inl rfl), bS]
theorem deep_t (C : CS b sv z tx N w T L h) (Z : ZC b z) (hN : N ≤ 900) (hx : ∀ j, tx j < 256) (hn : 400000 ≤ n) {d : Nat} (hd : d < 6) : ∃ h', f_X6_deeper n z h (b + 2) (nI d) = some (1, h') ∧ Fc b h h' ∧ CS b sv z tx N w (tkN tx N T.2.1) L h' := by
  obtain ⟨h', e1, e2, e3⟩ := next_C C Z hN hx hn
  refine ⟨h', ?_, e2, e3⟩
  unfold f_X6_deeper
  rw [if_pos Z.2.2.1, if_pos (show nI d < 6 from (nI_lt2 (j := 6) (by omega) (by decide)).mpr hd), e1, bS]
theorem deep_f (C : CS b sv z tx N w T L h) (Z : ZC b z) (hN : N ≤ 900) : ∃ h', f_X6_deeper n z h (b + 2) (nI 6) = some (0, h') ∧ Fc b h h' ∧ CF b w (flt T.2.2.1 4) T.1 h' := by
  obtain ⟨h', e1, e2, e3⟩ := wrong_c C Z hN (v := 4) (by decide) (by decide)
  refine ⟨h', ?_, e2, e3⟩
  have e1 : f_X6_wrong z h (b + 2) 4 = some (0, h') := e1
  unfold f_X6_deeper
  rw [if_pos Z.2.2.1, if_neg (by decide), e1, bS]
  simp only [bz_ok (x := 0) (Or.inl rfl), bS]
theorem takeN_t (C : CS b sv z tx N w T L h) (Z : ZC b z) (hN : N ≤ 900) (hx : ∀ j, tx j < 256) (hn : 400000 ≤ n) {lo hi : Nat} (hlo : lo < 1000) (hhi : hi < 1000) (hk : T.2.2.1 = 24) (h1 : lo ≤ T.2.2.2) (h2 : T.2.2.2 ≤ hi) : ∃ h', f_X6_takeNumber n z h (b + 2) (nI lo) (nI hi) = some (nI T.2.2.2, h') ∧ Fc b h h' ∧ CS b sv z tx N w (tkN tx N T.2.1) L h' := by
  obtain ⟨h', e1, e2, e3⟩ := next_C C Z hN hx hn
  refine ⟨h', ?_, e2, e3⟩
  have hm := (tkT C.tk).2.2.2.1 hk
  have c6 : h.I (b + 2) 6 = 1 := C.2.2.2.2.2.1.trans (by rw [hk]; rfl)
  have c7 := C.2.2.2.2.2.2.1 hk
  unfold f_X6_takeNumber
  rw [if_pos Z.2.2.1, gI_ok Z.2.2.1, bS, if_pos c6, gI_ok Z.2.2.1, bS, c7, if_neg (fun q => by
    have := (nI_lt2 (by omega) (by omega)).mp q
    omega), if_pos ((nI_leI (by omega) (by omega)).mpr h2), e1, bS]
theorem takeN_f (C : CS b sv z tx N w T L h) (Z : ZC b z) (hN : N ≤ 900) {lo hi : Nat} (hlo : lo < 1000) (hhi : hi < 1000) (hk : ¬ (T.2.2.1 = 24 ∧ lo ≤ T.2.2.2 ∧ T.2.2.2 ≤ hi)) : ∃ h', f_X6_takeNumber n z h (b + 2) (nI lo) (nI hi) = some (nI 0, h') ∧ Fc b h h' ∧ CF b w (if T.2.2.1 = 24 then 3 else flt T.2.2.1 2) T.1 h' := by
  have hl := ckO_lt T.2.2.1
  by_cases q : T.2.2.1 = 24
  · obtain ⟨h', e1, e2, e3⟩ := wrong_c C Z hN (v := 3) (by decide) (by decide)
    have e1 : f_X6_wrong z h (b + 2) 3 = some (0, h') := e1
    have hm := (tkT C.tk).2.2.2.1 q
    have c6 : h.I (b + 2) 6 = 1 := C.2.2.2.2.2.1.trans (by rw [q]; rfl)
    have c7 := C.2.2.2.2.2.2.1 q
    have eq : f_X6_takeNumber_31 n z h (b + 2) = some (nI 0, h') := by
      unfold f_X6_takeNumber_31
      rw [e1, bS]
      rfl
    rw [if_pos q]
    have e3 : CF b w 3 T.1 h' := by
      have w : flt T.2.2.1 3 = 3 := by
        unfold flt
        rw [if_neg (by omega)]
      rw [w] at e3
      exact e3
    refine ⟨h', ?_, e2, e3⟩
    unfold f_X6_takeNumber
    rw [if_pos Z.2.2.1, gI_ok Z.2.2.1, bS, if_pos c6, gI_ok Z.2.2.1, bS, c7]
    by_cases q1 : T.2.2.2 < lo
    · rw [if_pos ((nI_lt2 (by omega) (by omega)).mpr q1), eq]
    · rw [if_neg (fun w => q1 ((nI_lt2 (by omega) (by omega)).mp w)), if_neg (fun w => by
        have := (nI_leI (by omega) (by omega)).mp w
        omega), eq]
  · obtain ⟨h', e1, e2, e3⟩ := wrong_c C Z hN (v := 2) (by decide) (by decide)
    have e1 : f_X6_wrong z h (b + 2) 2 = some (0, h') := e1
    rw [if_neg q]
    refine ⟨h', ?_, e2, e3⟩
    have i1 : (h.I (b + 2) 6 = 1) ↔ T.2.2.1 = 24 := by
      rw [C.2.2.2.2.2.1]
      exact (nI_inj (j := 1) (by omega) (by decide)).trans (ckO_1 _)
    unfold f_X6_takeNumber
    rw [if_pos Z.2.2.1, gI_ok Z.2.2.1, bS, if_neg (fun w => q (i1.mp w)), e1, bS]
    rfl
/-- the fact that a token names, in a law of worth (1) or of growing (0) -/
def fct (w k : Nat) : Nat := if k = 4 then 0 else if k = 14 then 1 else if w = 1 ∧ 15 ≤ k ∧ k ≤ 19 then k - 13 else 9
theorem fact_c (C : CS b sv z tx N w T L h) (Z : ZC b z) (hN : N ≤ 900) (hx : ∀ j, tx j < 256) (hn : 400000 ≤ n) (hw : w < 2) : f_X6_factTold n z h (b + 2) = some (if fct w T.2.2.1 = 9 then -1 else nI (fct w T.2.2.1)) := by
  have I := fun s h1 h2 => is_c (s := s) C Z hN hx hn h1 h2
  have c9 := C.2.2.2.2.2.2.2.1
  unfold f_X6_factTold
  simp only [Z.2.2.1, eq_self, if_true, I 16 (by decide) (by decide), I 37 (by decide) (by decide), I 38 (by decide) (by decide), I 39 (by decide) (by decide), I 40 (by decide) (by decide), I 41 (by decide) (by decide), I 42 (by decide) (by decide), bS, gI_ok Z.2.2.1, c9]
  have hK := (tkT C.tk).2.2.2.2
  generalize T.2.2.1 = k at *
  clear I C c9
  show _ = some (if fct w k = 9 then -1 else nI (fct w k))
  have hw : w = 0 ∨ w = 1 := by omega
  have key : ∀ k, k < 42 → ∀ w, w < 2 → (if (if k = stK 16 then (1 : Int32) else 0) = 0 then (if (if k = stK 37 then (1 : Int32) else 0) = 0 then (if nI w = 0 then some (-1 : Int32) else (if (if k = stK 38 then (1 : Int32) else 0) = 0 then (if (if k = stK 39 then (1 : Int32) else 0) = 0 then (if (if k = stK 40 then (1 : Int32) else 0) = 0 then (if (if k = stK 41 then (1 : Int32) else 0) = 0 then (if (if k = stK 42 then (1 : Int32) else 0) = 0 then some (-1 : Int32) else some 6) else some 5) else some 4) else some 3) else some 2)) else some 1) else some 0) = some (if fct w k = 9 then -1 else nI (fct w k)) := by decide +kernel
  exact key k hK w (by omega)
end
