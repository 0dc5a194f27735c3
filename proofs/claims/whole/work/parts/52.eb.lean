/-! ===== the reference's start ===== -/
theorem rowI_setI (h : Hp) (a k : Nat) (f : Nat → Int32) (v : Int32) : (h.rowI a f).setI a k v = h.rowI a (upd f k v) := by
  simp only [Hp.setI, rowI_I]
  simp only [Hp.rowI, Hp.rowI]
  congr 1
  funext j
  simp only [va_up]
  split <;> rfl
theorem rowI_self (h : Hp) (a : Nat) : h.rowI a (h.I a) = h := by
  simp only [Hp.rowI, Hp.I]
  have : va_up h.1 a (h.1 a) = h.1 := by
    funext j
    simp only [va_up]
    split
    · rename_i e
      rw [e]
    · rfl
  rw [this]
  rfl
theorem leL {n j : Nat} (hn : n < 2147483648) (hj : j < 2147483648) : (nI n ≤ nI j) ↔ n ≤ j := nI_leI hn hj
def zr (f : Nat → Int32) (j : Nat) : Nat → Int32 := fun k => if k < j then 0 else f k
theorem zr_0 (f : Nat → Int32) : zr f 0 = f := by funext k; simp [zr]
theorem zr_s (f : Nat → Int32) (j : Nat) : upd (zr f j) j 0 = zr f (j + 1) := by
  funext k
  simp only [upd, zr]
  by_cases h1 : k = j
  · subst h1
    simp
  · by_cases h2 : k < j
    · simp [h1, h2, Nat.lt_succ_of_lt h2]
    · simp [h1, h2, show ¬ k < j + 1 by omega]
/-- LIFE 1 and no last trade, for the first j people -/
def pl (f : Nat → Int32) (j : Nat) : Nat → Int32 := fun k => if 24 ≤ k ∧ k < 24 + j then 1 else if 36 ≤ k ∧ k < 36 + j then 9 else f k
theorem pl_0 (f : Nat → Int32) : pl f 0 = f := by
  funext k
  simp only [pl]
  rw [if_neg (by omega), if_neg (by omega)]
theorem pl_s (f : Nat → Int32) {j : Nat} (hj : j < 6) : upd (upd (pl f j) (24 + j) 1) (36 + j) 9 = pl f (j + 1) := by
  funext k
  simp only [upd, pl]
  by_cases h1 : k = 36 + j
  · subst h1
    rw [if_pos rfl, if_neg (by omega), if_pos (by omega)]
  · rw [if_neg h1]
    by_cases h2 : k = 24 + j
    · subst h2
      rw [if_pos rfl, if_pos (by omega)]
    · rw [if_neg h2]
      by_cases h3 : 24 ≤ k ∧ k < 24 + j
      · rw [if_pos h3, if_pos (by omega)]
      · rw [if_neg h3, if_neg (show ¬ (24 ≤ k ∧ k < 24 + (j + 1)) by omega)]
        by_cases h4 : 36 ≤ k ∧ k < 36 + j
        · rw [if_pos h4, if_pos (by omega)]
        · rw [if_neg h4, if_neg (show ¬ (36 ≤ k ∧ k < 36 + (j + 1)) by omega)]
/-- what 'plain' leaves -/
def plainRow (f : Nat → Int32) : Nat → Int32 := pl (upd (upd (zr f 1458) 1 1) 2 1) 6
theorem plain_29 {n : Nat} {z : Sh} {h : Hp} {a N : Nat} (hK : z.K a = 14) (hN : z.N a = N) (h1 : 1458 ≤ N) (h2 : N < 2147483648) (f : Nat → Int32) : ∀ (d j i : Nat), j + d = 6 → d < i → f_X12_plain_29 n z i (h.rowI a (pl f j)) a (nI j) = some (h.rowI a (pl f 6)) := by
  intro d
  induction d with
  | zero =>
    intro j i hj hi
    obtain ⟨i, rfl⟩ : ∃ k, i = k + 1 := ⟨i - 1, by omega⟩
    rw [f_X12_plain_29.eq_2, show j = 6 by omega, if_pos (show (6 : Int32) ≤ nI 6 from by decide)]
  | succ d ih =>
    intro j i hj hi
    obtain ⟨i, rfl⟩ : ∃ k, i = k + 1 := ⟨i - 1, by omega⟩
    rw [f_X12_plain_29.eq_2, if_neg (show ¬ ((6 : Int32) ≤ nI j) from fun q => absurd ((leL (n := 6) (by decide) (by omega)).mp q) (by omega))]
    rw [stI_ok (i := 24 + nI j) (j := 24 + j) hK hN (nI_add 24 j) (by omega) h2, bS, rowI_setI, stI_ok (i := 36 + nI j) (j := 36 + j) hK hN (nI_add 36 j) (by omega) h2, bS, rowI_setI, bS, pl_s f (by omega), nI_1]
    exact ih (j + 1) i (by omega) (by omega)
theorem plain_2 {n : Nat} {z : Sh} {h : Hp} {a N : Nat} (hn : 6 < n) (hK : z.K a = 14) (hN : z.N a = N) (h1 : 1458 ≤ N) (h2 : N < 2147483648) (f : Nat → Int32) : ∀ (d j i : Nat), j + d = 1458 → d < i → f_X12_plain_2 n z i (h.rowI a (zr f j)) a (nI j) = some (h.rowI a (plainRow f)) := by
  intro d
  induction d with
  | zero =>
    intro j i hj hi
    obtain ⟨i, rfl⟩ : ∃ k, i = k + 1 := ⟨i - 1, by omega⟩
    rw [f_X12_plain_2.eq_2, show j = 1458 by omega, if_pos (show (1458 : Int32) ≤ nI 1458 from by decide)]
    rw [stI_ok (i := 1) (j := 1) hK hN rfl (by omega) h2, bS, rowI_setI, stI_ok (i := 2) (j := 2) hK hN rfl (by omega) h2, bS, rowI_setI]
    have := plain_29 (n := n) (h := h) hK hN h1 h2 (upd (upd (zr f 1458) 1 1) 2 1) 6 0 n (by omega) hn
    rw [pl_0] at this
    exact this
  | succ d ih =>
    intro j i hj hi
    obtain ⟨i, rfl⟩ : ∃ k, i = k + 1 := ⟨i - 1, by omega⟩
    rw [f_X12_plain_2.eq_2, if_neg (show ¬ ((1458 : Int32) ≤ nI j) from fun q => absurd ((leL (n := 1458) (by decide) (by omega)).mp q) (by omega))]
    rw [stI_ok (j := j) hK hN rfl (by omega) h2, bS, rowI_setI, bS, zr_s, nI_1]
    exact ih (j + 1) i (by omega) (by omega)
theorem plain_ok {n : Nat} {z : Sh} {h : Hp} {a N : Nat} (hn : 1458 < n) (hK : z.K a = 14) (hN : z.N a = N) (h1 : 1458 ≤ N) (h2 : N < 2147483648) : f_X12_plain n z h a = some (h.rowI a (plainRow (h.I a))) := by
  have := plain_2 (n := n) (h := h) (by omega) hK hN h1 h2 (h.I a) 1458 0 n (by omega) hn
  rw [zr_0, rowI_self] at this
  exact this
/-! ===== a constructor, step by step ===== -/
def EB (b t s0 S : Nat) (x : Option (Hp × Sh)) (P : Hp × Sh → Prop) : Prop := ∃ q, x = some q ∧ b + t ≤ q.2.sz ∧ s0 + S ≤ q.2.sl ∧ P q
theorem eb_up {b t s0 S t2 S2 : Nat} {x : Option (Hp × Sh)} {P : Hp × Sh → Prop} (h1 : t ≤ t2) (h2 : S ≤ S2) (H : EB b t2 s0 S2 x P) : EB b t s0 S x P := by
  obtain ⟨q, e, l1, l2, p⟩ := H
  exact ⟨q, e, by omega, by omega, p⟩
theorem eb_if {b t s0 S : Nat} {c : Prop} [Decidable c] {x y : Option (Hp × Sh)} {P : Hp × Sh → Prop} (hc : c) (H : EB b t s0 S x P) : EB b t s0 S (if c then x else y) P := by
  rw [if_pos hc]
  exact H
theorem eb_ne {b t s0 S : Nat} {c : Prop} [Decidable c] {x y : Option (Hp × Sh)} {P : Hp × Sh → Prop} (hc : ¬ c) (H : EB b t s0 S y P) : EB b t s0 S (if c then x else y) P := by
  rw [if_neg hc]
  exact H
theorem eb_val {α : Type} {b t s0 S : Nat} {x : Option α} {v : α} {f : α → Option (Hp × Sh)} {P : Hp × Sh → Prop} (hx : x = some v) (H : EB b t s0 S (f v) P) : EB b t s0 S (x.bind f) P := by
  subst hx
  exact H
theorem eb_call {b t s0 S t2 S2 : Nat} {x : Option (Hp × Sh)} {f : Hp × Sh → Option (Hp × Sh)} {P : Hp × Sh → Prop} (h1 : t ≤ t2) (h2 : S ≤ S2) (H : EB b t s0 S x (fun q => EB b t2 s0 S2 (f q) P)) : EB b t s0 S (x.bind f) P := by
  obtain ⟨q, e, l1, l2, p⟩ := H
  subst e
  exact eb_up h1 h2 p
theorem eb_gd {z0 : Sh} {h0 : Hp} {b t S : Nat} {kf nl : Nat → Nat} {rI : Nat → Nat → Int32} {rR : Nat → Nat → Option Nat} {z : Sh} {h : Hp} {x : Option (Hp × Sh)} {P : Hp × Sh → Prop} (H : BI z0 h0 b t S kf nl rI rR z h) (k : EB b t z0.sl S x P) : EB b t z0.sl S (gd2 z x) P := by
  obtain ⟨q, rfl, l1, l2, p⟩ := k
  have h1 := H.1
  have h2 := H.2.1
  exact ⟨q, if_pos ⟨by omega, by omega⟩, l1, l2, p⟩
theorem eb_some {z0 : Sh} {h0 : Hp} {b t S : Nat} {kf nl : Nat → Nat} {rI : Nat → Nat → Int32} {rR : Nat → Nat → Option Nat} {z : Sh} {h : Hp} {P : Hp × Sh → Prop} (H : BI z0 h0 b t S kf nl rI rR z h) (k : P (h, z)) : EB b t z0.sl S (some (h, z)) P := ⟨(h, z), rfl, Nat.le_of_eq H.1.symm, Nat.le_of_eq H.2.1.symm, k⟩
theorem eb_nwA {z0 : Sh} {h0 : Hp} {b t S : Nat} {kf nl : Nat → Nat} {rI : Nat → Nat → Int32} {rR : Nat → Nat → Option Nat} {z : Sh} {h : Hp} {kd N : Nat} {n : Int32} {G : Nat × Hp × Sh → Option (Hp × Sh)} {P : Hp × Sh → Prop} (H : BI z0 h0 b t S kf nl rI rR z h) (hn : n = nI N) (hN : N < 2147483648) (hb : N * kby kd ≤ 536870912)
    (k : ∀ z' h', BI z0 h0 b (t + 1) (S + N) (va_up kf t kd) (va_up nl t N) (va_up rI t (fun _ => 0)) (va_up rR t (fun _ => none)) z' h' → EB b (t + 1) z0.sl (S + N) (G (b + t, h', z')) P) : EB b t z0.sl S ((nwA z h kd n).bind G) P := by
  refine eb_val (nwA_ok hn hN hb) ?_
  have H2 := H.nw kd N N
  have e : z.sz = b + t := H.1
  rw [e] at H2 ⊢
  exact eb_up (by omega) (by omega) (k _ _ H2)
theorem eb_nwO {z0 : Sh} {h0 : Hp} {b t S : Nat} {kf nl : Nat → Nat} {rI : Nat → Nat → Int32} {rR : Nat → Nat → Option Nat} {z : Sh} {h : Hp} {ci : Nat} {G : Nat × Hp × Sh → Option (Hp × Sh)} {P : Hp × Sh → Prop} (H : BI z0 h0 b t S kf nl rI rR z h)
    (k : ∀ z' h', BI z0 h0 b (t + 1) (S + nf ci) (va_up kf t ci) (va_up nl t 0) (va_up rI t (fun _ => 0)) (va_up rR t (fun _ => none)) z' h' → EB b (t + 1) z0.sl (S + nf ci) (G (b + t, h', z')) P) : EB b t z0.sl S ((nwO z h ci).bind G) P := by
  refine eb_val (v := (z.sz, h.nw z.sz, z.al ci 0 (nf ci))) rfl ?_
  have H2 := H.nw ci 0 (nf ci)
  have e : z.sz = b + t := H.1
  rw [e] at H2 ⊢
  exact eb_up (by omega) (by omega) (k _ _ H2)
theorem eb_pR {z0 : Sh} {h0 : Hp} {b t S : Nat} {kf nl : Nat → Nat} {rI : Nat → Nat → Int32} {rR : Nat → Nat → Option Nat} {z : Sh} {h : Hp} {ci i kk : Nat} {v : Option Nat} {F : Hp → Option (Hp × Sh)} {P : Hp × Sh → Prop} (H : BI z0 h0 b t S kf nl rI rR z h) (hi : i < t) (hk : kf i = ci)
    (k : ∀ h', BI z0 h0 b t S kf nl rI (va_up rR i (va_up (rR i) kk v)) z h' → EB b t z0.sl S (F h') P) : EB b t z0.sl S ((pR z h ci (b + i) kk v).bind F) P := eb_val (pR_ok ((H.K hi).trans hk)) (k _ (H.pR hi kk v))
theorem eb_pRs {z0 : Sh} {h0 : Hp} {b t S : Nat} {kf nl : Nat → Nat} {rI : Nat → Nat → Int32} {rR : Nat → Nat → Option Nat} {z : Sh} {h : Hp} {ci i kk s : Nat} {F : Hp → Option (Hp × Sh)} {P : Hp × Sh → Prop} (H : BI z0 h0 b t S kf nl rI rR z h) (hi : i < t) (hk : kf i = ci)
    (k : ∀ h', BI z0 h0 b t S kf nl rI (va_up rR i (va_up (rR i) kk (some (z0.st s)))) z h' → EB b t z0.sl S (F h') P) : EB b t z0.sl S ((pR z h ci (b + i) kk (some (z.st s))).bind F) P := by
  rw [H.2.2.2.2 s]
  exact eb_pR H hi hk k
theorem eb_pI {z0 : Sh} {h0 : Hp} {b t S : Nat} {kf nl : Nat → Nat} {rI : Nat → Nat → Int32} {rR : Nat → Nat → Option Nat} {z : Sh} {h : Hp} {ci i kk : Nat} {v : Int32} {F : Hp → Option (Hp × Sh)} {P : Hp × Sh → Prop} (H : BI z0 h0 b t S kf nl rI rR z h) (hi : i < t) (hk : kf i = ci)
    (k : ∀ h', BI z0 h0 b t S kf nl (va_up rI i (upd (rI i) kk v)) rR z h' → EB b t z0.sl S (F h') P) : EB b t z0.sl S ((pI z h ci (b + i) kk v).bind F) P := eb_val (pI_ok ((H.K hi).trans hk)) (k _ (H.pI hi kk v))
theorem eb_pZ {z0 : Sh} {h0 : Hp} {b t S : Nat} {kf nl : Nat → Nat} {rI : Nat → Nat → Int32} {rR : Nat → Nat → Option Nat} {z : Sh} {h : Hp} {ci i kk : Nat} {v : Int32} {F : Hp → Option (Hp × Sh)} {P : Hp × Sh → Prop} (H : BI z0 h0 b t S kf nl rI rR z h) (hi : i < t) (hk : kf i = ci) (hv : v = 0 ∨ v = 1)
    (k : ∀ h', BI z0 h0 b t S kf nl (va_up rI i (upd (rI i) kk v)) rR z h' → EB b t z0.sl S (F h') P) : EB b t z0.sl S ((pZ z h ci (b + i) kk v).bind F) P := eb_val (pZ_ok ((H.K hi).trans hk) hv) (k _ (H.pI hi kk v))
theorem eb_gR {z0 : Sh} {h0 : Hp} {b t S : Nat} {kf nl : Nat → Nat} {rI : Nat → Nat → Int32} {rR : Nat → Nat → Option Nat} {z : Sh} {h : Hp} {ci i kk j : Nat} {F : Nat → Option (Hp × Sh)} {P : Hp × Sh → Prop} (H : BI z0 h0 b t S kf nl rI rR z h) (hi : i < t) (hk : kf i = ci) (hv : rR i kk = some (b + j)) (k : EB b t z0.sl S (F (b + j)) P) : EB b t z0.sl S ((gR z h ci (b + i) kk).bind F) P := eb_val (gR_ok ((H.K hi).trans hk) (by rw [H.R hi]; exact hv)) k
theorem eb_aL {z0 : Sh} {h0 : Hp} {b t S : Nat} {kf nl : Nat → Nat} {rI : Nat → Nat → Int32} {rR : Nat → Nat → Option Nat} {z : Sh} {h : Hp} {i N : Nat} {F : Int32 → Option (Hp × Sh)} {P : Hp × Sh → Prop} (H : BI z0 h0 b t S kf nl rI rR z h) (hi : i < t) (hk : isA (kf i) = true) (hn : nl i = N) (k : EB b t z0.sl S (F (nI N)) P) : EB b t z0.sl S ((aL z (b + i)).bind F) P := eb_val (aL_ok (H.K hi) hk ((H.N hi).trans hn)) k
theorem eb_stI {z0 : Sh} {h0 : Hp} {b t S : Nat} {kf nl : Nat → Nat} {rI : Nat → Nat → Int32} {rR : Nat → Nat → Option Nat} {z : Sh} {h : Hp} {i j : Nat} {jj v : Int32} {F : Hp → Option (Hp × Sh)} {P : Hp × Sh → Prop} (H : BI z0 h0 b t S kf nl rI rR z h) (hi : i < t) (hk : kf i = 14) (hj : jj = nI j) (hl : j < nl i) (hb : nl i < 2147483648)
    (k : ∀ h', BI z0 h0 b t S kf nl (va_up rI i (upd (rI i) j v)) rR z h' → EB b t z0.sl S (F h') P) : EB b t z0.sl S ((stI z h (b + i) jj v).bind F) P := eb_val (stI_ok ((H.K hi).trans hk) (H.N hi) hj hl hb) (k _ (H.pI hi j v))
theorem eb_stR {z0 : Sh} {h0 : Hp} {b t S : Nat} {kf nl : Nat → Nat} {rI : Nat → Nat → Int32} {rR : Nat → Nat → Option Nat} {z : Sh} {h : Hp} {kd ck i i2 j : Nat} {jj : Int32} {F : Hp → Option (Hp × Sh)} {P : Hp × Sh → Prop} (H : BI z0 h0 b t S kf nl rI rR z h) (hi : i < t) (hi2 : i2 < t) (hk : kf i = kd) (hk2 : kf i2 = ck) (hj : jj = nI j) (hl : j < nl i) (hb : nl i < 2147483648)
    (k : ∀ h', BI z0 h0 b t S kf nl rI (va_up rR i (va_up (rR i) j (some (b + i2)))) z h' → EB b t z0.sl S (F h') P) : EB b t z0.sl S ((stR z h kd ck (b + i) jj (b + i2)).bind F) P := eb_val (stR_ok ((H.K hi).trans hk) ((H.K hi2).trans hk2) (H.N hi) hj hl hb) (k _ (H.pR hi j _))
theorem eb_plain {z0 : Sh} {h0 : Hp} {b t S : Nat} {kf nl : Nat → Nat} {rI : Nat → Nat → Int32} {rR : Nat → Nat → Option Nat} {z : Sh} {h : Hp} {n : Nat} {F : Hp → Option (Hp × Sh)} {P : Hp × Sh → Prop} (hn : 1458 < n) (H : BI z0 h0 b t S kf nl rI rR z h) (hi : 1 < t) (hk : kf 1 = 14) (hl : nl 1 = 4374) (hz : rI 1 = fun _ => 0)
    (k : ∀ h', BI z0 h0 b t S kf nl (va_up rI 1 (plainRow (fun _ => 0))) rR z h' → EB b t z0.sl S (F h') P) : EB b t z0.sl S ((f_X12_plain n z h (b + 1)).bind F) P := by
  have e1 : h.I (b + 1) = fun _ => 0 := ((H.2.2.1 1 hi).2.2.1).trans hz
  have h1 := plain_ok (n := n) (z := z) (h := h) (a := b + 1) (N := 4374) hn ((H.K hi).trans hk) ((H.N hi).trans hl) (by decide) (by decide)
  rw [e1] at h1
  refine eb_val h1 (k _ ?_)
  obtain ⟨g1, g2, g3, g4, g5⟩ := H
  refine ⟨g1, g2, fun j hj => ?_, fun a ha => ?_, g5⟩
  · obtain ⟨q1, q2, q3, q4, q5⟩ := g3 j hj
    by_cases e : j = 1
    · subst e
      rw [rowI_I, va_up_self]
      exact ⟨q1, q2, rfl, q4, q5⟩
    · rw [rowI_ne h _ (show b + j ≠ b + 1 by omega), va_up_ne _ _ e]
      exact ⟨q1, q2, q3, q4, q5⟩
  · rw [rowI_ne h _ (show a ≠ b + 1 by omega)]
    exact g4 a ha
