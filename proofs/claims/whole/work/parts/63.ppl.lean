/-! ===== people on the class's side ===== -/
def PL (z : Sh) (R : Nat → Nat → Option Nat) (q r : Nat) : Prop := z.K q = 5 ∧ R q 0 = some r ∧ z.K r = 14 ∧ z.N r = 54 ∧ q ≠ r
theorem nI_neg0 {k : Nat} (h : k < 2147483648) : ¬ (nI k < nI 0) := nI_pos h
theorem has_ok {z : Sh} {h : Hp} {q r P : Nat} (H : PL z h.2.2 q r) (hP : h.I q 1 = nI P) (h6 : P ≤ 6) (p : Int32) : f_X5_has z h q p = some (if 0 ≤ p.toInt ∧ p.toInt < P then 1 else 0) := by
  unfold f_X5_has
  have e0 : (0 : Int32).toInt = 0 := rfl
  have eP : (nI P).toInt = P := nI_to (by omega)
  simp only [H.1, if_true, gI, hP, bS, Int32.lt_iff_toInt_lt, Int32.le_iff_toInt_le, e0, eP]
  by_cases h1 : p.toInt < 0
  · rw [if_pos h1, if_neg (by omega)]
  · rw [if_neg h1]
    by_cases h2 : (P : Int) ≤ p.toInt
    · rw [if_pos h2, if_neg (by omega)]
    · rw [if_neg h2, if_pos (by omega)]
theorem part_ok {z : Sh} {h : Hp} {q r : Nat} (H : PL z h.2.2 q r) {p w : Nat} (hp : p < 6) (hw : w < 9) : f_X5_part z h q (nI p) (nI w) = some (h.I r (9 * p + w)) := by
  obtain ⟨h1, h2, h3, h4, h5⟩ := H
  have h2 : h.R q 0 = some r := h2
  have hA : aL z r = some (nI 54) := aL_ok h3 rfl h4
  have c1 : ¬ (54 ≤ 9 * p + w) := by omega
  have c2 : ldI z h r (nI (9 * p + w)) = some (h.I r (9 * p + w)) := ldI_ok h3 h4 rfl (by omega) (by omega)
  simp (disch := omega) only [f_X5_part, h1, nI_lit, nI_mul, nI_add, Nat.mul_comm p 9, bS, nI_neg0, gR, h2, hA, nI_leI, c1, c2, if_true, if_false]
theorem put_ok {z : Sh} {h : Hp} {q r : Nat} (H : PL z h.2.2 q r) {p w : Nat} {v : Int32} (hp : p < 6) (hw : w < 9) : f_X5_put z h q (nI p) (nI w) v = some (h.setI r (9 * p + w) v) := by
  obtain ⟨h1, h2, h3, h4, h5⟩ := H
  have h2 : h.R q 0 = some r := h2
  have hA : aL z r = some (nI 54) := aL_ok h3 rfl h4
  have c1 : ¬ (54 ≤ 9 * p + w) := by omega
  have c2 : stI z h r (nI (9 * p + w)) v = some (h.setI r (9 * p + w) v) := stI_ok h3 h4 rfl (by omega) (by omega)
  simp (disch := omega) only [f_X5_put, h1, nI_lit, nI_mul, nI_add, Nat.mul_comm p 9, bS, nI_neg0, gR, h2, hA, nI_leI, c1, c2, if_true, if_false]
theorem copy_ok {z : Sh} {h : Hp} {q r q' r' : Nat} (H : PL z h.2.2 q r) (H' : PL z h.2.2 q' r') (n1 : q' ≠ r) (n2 : q' ≠ q) : f_X5_copy z h q q' = some ((h.rowI r (va_cpy (h.I r') (h.I r) 0 0 54)).rowI q (upd (upd (h.I q) 1 (h.I q' 1)) 2 (h.I q' 2))) := by
  obtain ⟨h1, h2, h3, h4, h5⟩ := H
  obtain ⟨g1, g2, g3, g4, g5⟩ := H'
  have h2 : h.R q 0 = some r := h2
  have g2 : h.R q' 0 = some r' := g2
  have hA : aL z r = some (nI 54) := aL_ok h3 rfl h4
  have hc : cpI z h r' (nI 0) r (nI 0) (nI 54) = some (h.rowI r (va_cpy (h.I r') (h.I r) 0 0 54)) := by
    unfold cpI
    rw [if_pos ⟨g3, h3⟩, if_pos]
    · rfl
    · refine ⟨by decide, by decide, by decide, ?_, ?_⟩
      · rw [g4]
        decide
      · rw [h4]
        decide
  have e1 : (h.rowI r (va_cpy (h.I r') (h.I r) 0 0 54)).I q' = h.I q' := rowI_ne h _ n1
  have e2 : (h.rowI r (va_cpy (h.I r') (h.I r) 0 0 54)).I q = h.I q := rowI_ne h _ h5
  have e3 : ((h.rowI r (va_cpy (h.I r') (h.I r) 0 0 54)).rowI q (upd (h.I q) 1 (h.I q' 1))).I q' = h.I q' := by rw [rowI_ne _ _ n2, e1]
  simp (disch := omega) only [f_X5_copy, h1, g1, gR, h2, g2, hA, nI_lit, hc, bS, gI, pI, if_true, setI_row, e1, e2, e3, rowI_I, rowI_rowI]
theorem about_ok {z : Sh} {h : Hp} {b q r : Nat} (HX : LayX z h.2.2 b) (H : PL z h.2.2 q r) (hr : r ≠ b + 41) {p : Nat} (hp : p < 6) : f_X7_about z h (b + 40) q (nI p) = some (h.rowI (b + 41) (upd (upd (upd (upd (upd (upd (h.I (b + 41)) 0 (h.I r (9 * p + 6))) 1 (h.I r (9 * p))) 3 (h.I r (9 * p + 3))) 4 (h.I r (9 * p + 4))) 5 (h.I r (9 * p + 1))) 6 (h.I r (9 * p + 5)))) := by
  have e : ∀ (f : Nat → Int32), PL z (h.rowI (b + 41) f).2.2 q r := fun _ => H
  have e1 : ∀ (f : Nat → Int32), (h.rowI (b + 41) f).I r = h.I r := fun f => rowI_ne h f hr
  have p1 : ∀ {w : Nat}, w < 9 → f_X5_part z h q (nI p) (nI w) = some (h.I r (9 * p + w)) := fun hw => part_ok H hp hw
  have p2 : ∀ {w : Nat} {f : Nat → Int32}, w < 9 → f_X5_part z (h.rowI (b + 41) f) q (nI p) (nI w) = some (h.I r (9 * p + w)) := fun {w f} hw => by
    rw [part_ok (e f) hp hw, e1]
  simp (disch := omega) only [f_X7_about, p1, p2, setI_row, rowI_rowI, Nat.add_zero, bS, if_true, if_false, nI_lit, nI_add, nI_mul, rowI_R, rowJ_R, setI_R, setJ_R, rowI_J, setI_J, rowJ_I, setJ_I, rowI_setI, rowJ_setJ, rowI_Ib, rowJ_Jb, setI_I, setJ_J, Nat.add_left_cancel_iff, Nat.reduceEqDiff, Nat.left_eq_add, Nat.add_eq_left, Nat.reduceAdd, gR, gI, gN, pI, not_false_eq_true, not_true_eq_false, and_true, true_and, and_false, false_and, or_true, true_or, or_false, false_or, kx_40 HX, kx_41 HX, kx_42 HX, kx_43 HX, rx_40_0 HX, rx_40_1 HX, rx_43_0 HX, lx_41 HX, lx_42 HX, sx_41 HX, sx_42 HX, nx_41 HX, nx_42 HX]
/-! ===== deeds, by what they do to the row ===== -/
def nv (A : Nat → Int32) (k : Nat) : Nat := (A k).toInt.toNat
theorem nv_of {A : Nat → Int32} {k j : Nat} (h : A k = nI j) (hj : j < 2147483648) : nv A k = j := by
  unfold nv
  rw [h, nI_to hj]
  omega
def aS (A : Nat → Int32) (p : Nat) : Nat := sN (nv A (24 + p)) (nv A (48 + p)) (nv A (18 + p)) (nv A (36 + p)) (nv A (42 + p))
def dl (A : Nat → Int32) (p : Nat) (y la st hs : Int32) : Nat → Int32 := fun k => if k = 18 + p then y else if k = 30 + p then hs else if k = 36 + p then la else if k = 42 + p then st else A k
def dr (A : Nat → Int32) (p : Nat) (o y : Int32) : Nat → Int32 := fun k => if k = 18 + p then y else if k = 24 + p then nI 2 else if k = 36 + p then nI 9 else if k = 42 + p then nI 0 else if k = 48 + p then o else A k
def go (A : Nat → Int32) (p : Nat) (n : Int32) : Nat → Int32 := fun k => if k = 60 + p then A k + n else if k = 30 + p then A k + n else if k = 17 then A k - n else A k
def aLive (τ : TT) (P : Nat) (A : Nat → Int32) (p t : Int) : Nat × (Nat → Int32) :=
  if (0 ≤ p ∧ p < P) ∧ (0 ≤ t ∧ t < tD τ) then (if nv A (18 + p.toNat) < tY τ then (0, dl A p.toNat (nI (nv A (18 + p.toNat) + 1)) (nI t.toNat) (nI (if nv A (36 + p.toNat) = t.toNat then nv A (42 + p.toNat) + 1 else 1)) (A (30 + p.toNat) + iI (wV τ (nv A (54 + p.toNat)) (aS A p.toNat) t.toNat))) else (2, A)) else (1, A)
def aDraw (τ : TT) (P : Nat) (A : Nat → Int32) (p : Int) : Nat × (Nat → Int32) :=
  if (0 ≤ p ∧ p < P) then (if nv A (24 + p.toNat) = 1 then (if nv A (60 + p.toNat) = 0 then (0, dr A p.toNat (nI (nv A (18 + p.toNat))) (nI (gV τ (nv A (54 + p.toNat)) (nv A (18 + p.toNat))))) else (3, A)) else (2, A)) else (1, A)
def aPledge (P : Nat) (A : Nat → Int32) (p n : Int) : Nat × (Nat → Int32) :=
  if (0 ≤ p ∧ p < P) ∧ (1 ≤ n ∧ n ≤ 99) then (if nv A (24 + p.toNat) = 1 then (if nv A (60 + p.toNat) = 0 then (if n ≤ (A 17).toInt then (0, go A p.toNat (iI n)) else (4, A)) else (3, A)) else (2, A)) else (1, A)
def aRedeem (P : Nat) (A : Nat → Int32) (p : Int) : Nat × (Nat → Int32) :=
  if (0 ≤ p ∧ p < P) then (if nv A (60 + p.toNat) = 0 then (3, A) else (0, go A p.toNat (- A (60 + p.toNat)))) else (1, A)
/-- how a row agrees with people, piece by piece -/
theorem PX_up {o r A A' r' : Nat → Int32} {P : Nat} (H : PeopleX o r A P) (h17 : A' 17 = A 17) (hr : ∀ p, p < P → ∀ w, w < 9 → (r' (9 * p + w) = r (9 * p + w) ∧ A' (pos w + p) = A (pos w + p)) ∨ r' (9 * p + w) = A' (pos w + p)) : PeopleX o r' A' P := by
  refine ⟨H.1, ?_, fun p hp w hw => ?_⟩
  · rw [h17]; exact H.2.1
  · rcases hr p hp w hw with ⟨e1, e2⟩ | e
    · rw [e1, e2]
      exact H.2.2 p hp w hw
    · exact e
theorem Per_up {τ : TT} {A A' : Nat → Int32} {p : Nat} (H : PerOK τ A p) (h : ∀ w, w < 9 → A' (pos w + p) = A (pos w + p)) : PerOK τ A' p := by
  obtain ⟨y, l, la, st, o, tal, pl, fe, hs, h1, h2, h3, h4, h5, h6, h7, h8, h9, hh⟩ := H
  exact ⟨y, l, la, st, o, tal, pl, fe, hs, (h 0 (by omega)).trans h1, (h 1 (by omega)).trans h2, (h 2 (by omega)).trans h3, (h 3 (by omega)).trans h4, (h 4 (by omega)).trans h5, (h 5 (by omega)).trans h6, (h 6 (by omega)).trans h7, (h 8 (by omega)).trans h8, (h 7 (by omega)).trans h9, hh⟩
theorem pos_cases {w : Nat} (hw : w < 9) : (w = 0 ∧ pos w = 18) ∨ (w = 1 ∧ pos w = 24) ∨ (w = 2 ∧ pos w = 30) ∨ (w = 3 ∧ pos w = 36) ∨ (w = 4 ∧ pos w = 42) ∨ (w = 5 ∧ pos w = 48) ∨ (w = 6 ∧ pos w = 54) ∨ (w = 7 ∧ pos w = 11) ∨ (w = 8 ∧ pos w = 60) := by
  match w, hw with
  | 0, _ => decide
  | 1, _ => decide
  | 2, _ => decide
  | 3, _ => decide
  | 4, _ => decide
  | 5, _ => decide
  | 6, _ => decide
  | 7, _ => decide
  | 8, _ => decide
  | w + 9, h => omega
/-- other people aren't touched -/
theorem dl_ot {A : Nat → Int32} {p p' w : Nat} {y la st hs : Int32} (h6 : p < 6) (h6' : p' < 6) (hne : p' ≠ p) (hw : w < 9) : dl A p y la st hs (pos w + p') = A (pos w + p') := by
  have := pos_cases hw
  unfold dl
  rw [if_neg (by omega), if_neg (by omega), if_neg (by omega), if_neg (by omega)]
theorem dr_ot {A : Nat → Int32} {p p' w : Nat} {o y : Int32} (h6 : p < 6) (h6' : p' < 6) (hne : p' ≠ p) (hw : w < 9) : dr A p o y (pos w + p') = A (pos w + p') := by
  have := pos_cases hw
  unfold dr
  rw [if_neg (by omega), if_neg (by omega), if_neg (by omega), if_neg (by omega), if_neg (by omega)]
theorem go_ot {A : Nat → Int32} {p p' w : Nat} {n : Int32} (h6 : p < 6) (h6' : p' < 6) (hne : p' ≠ p) (hw : w < 9) : go A p n (pos w + p') = A (pos w + p') := by
  have := pos_cases hw
  unfold go
  rw [if_neg (by omega), if_neg (by omega), if_neg (by omega)]
