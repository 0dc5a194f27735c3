/-! ===== numbers: 32 and 64 bits by their values ===== -/
def iI (v : Int) : Int32 := Int32.ofInt v
def lI (v : Int) : Int64 := Int64.ofInt v
theorem iI_of (x : Int32) : iI x.toInt = x := Int32.ofInt_toInt x
theorem lI_of (x : Int64) : lI x.toInt = x := Int64.ofInt_toInt x
theorem iI_add (a b : Int) : iI a + iI b = iI (a + b) := (Int32.ofInt_add a b).symm
theorem iI_sub (a b : Int) : iI a - iI b = iI (a - b) := (Int32.ofInt_sub a b).symm
theorem iI_mul (a b : Int) : iI a * iI b = iI (a * b) := (Int32.ofInt_mul a b).symm
theorem iI_neg (a : Int) : - iI a = iI (- a) := (Int32.ofInt_neg a).symm
theorem lI_add (a b : Int) : lI a + lI b = lI (a + b) := (Int64.ofInt_add a b).symm
theorem lI_sub (a b : Int) : lI a - lI b = lI (a - b) := (Int64.ofInt_sub a b).symm
theorem lI_mul (a b : Int) : lI a * lI b = lI (a * b) := (Int64.ofInt_mul a b).symm
theorem lI_neg (a : Int) : - lI a = lI (- a) := (Int64.ofInt_neg a).symm
theorem iI_to {v : Int} (h1 : -2147483648 ≤ v) (h2 : v < 2147483648) : (iI v).toInt = v := Int32.toInt_ofInt_of_le (by omega) (by omega)
theorem lI_to {v : Int} (h1 : -9223372036854775808 ≤ v) (h2 : v < 9223372036854775808) : (lI v).toInt = v := Int64.toInt_ofInt_of_le (by omega) (by omega)
theorem x_lo (x : Int32) : -2147483648 ≤ x.toInt := by have := Int32.le_toInt x; omega
theorem x_hi (x : Int32) : x.toInt < 2147483648 := by have := Int32.toInt_lt x; omega
theorem l_lo (x : Int64) : -9223372036854775808 ≤ x.toInt := by have := Int64.le_toInt x; omega
theorem l_hi (x : Int64) : x.toInt < 9223372036854775808 := by have := Int64.toInt_lt x; omega
theorem iI_lt {a b : Int} (h1 : -2147483648 ≤ a) (h2 : a < 2147483648) (h3 : -2147483648 ≤ b) (h4 : b < 2147483648) : iI a < iI b ↔ a < b := by
  rw [Int32.lt_iff_toInt_lt, iI_to h1 h2, iI_to h3 h4]
theorem iI_le {a b : Int} (h1 : -2147483648 ≤ a) (h2 : a < 2147483648) (h3 : -2147483648 ≤ b) (h4 : b < 2147483648) : iI a ≤ iI b ↔ a ≤ b := by
  rw [Int32.le_iff_toInt_le, iI_to h1 h2, iI_to h3 h4]
theorem iI_eq {a b : Int} (h1 : -2147483648 ≤ a) (h2 : a < 2147483648) (h3 : -2147483648 ≤ b) (h4 : b < 2147483648) : iI a = iI b ↔ a = b := by
  rw [← Int32.toInt_inj, iI_to h1 h2, iI_to h3 h4]
theorem lI_lt {a b : Int} (h1 : -9223372036854775808 ≤ a) (h2 : a < 9223372036854775808) (h3 : -9223372036854775808 ≤ b) (h4 : b < 9223372036854775808) : lI a < lI b ↔ a < b := by
  rw [Int64.lt_iff_toInt_lt, lI_to h1 h2, lI_to h3 h4]
theorem lI_eq {a b : Int} (h1 : -9223372036854775808 ≤ a) (h2 : a < 9223372036854775808) (h3 : -9223372036854775808 ≤ b) (h4 : b < 9223372036854775808) : lI a = lI b ↔ a = b := by
  rw [← Int64.toInt_inj, lI_to h1 h2, lI_to h3 h4]
theorem nI_iI (j : Nat) : nI j = iI j := by
  show Int32.ofNat j = Int32.ofInt j
  rw [← Int32.toBitVec_inj]
  simp [Int32.ofInt, Int32.ofNat]
theorem nI_to {j : Nat} (h : j < 2147483648) : (nI j).toInt = j := by
  rw [nI_iI]
  exact iI_to (by omega) (by omega)
theorem nI_inj {i j : Nat} (h1 : i < 2147483648) (h2 : j < 2147483648) : nI i = nI j ↔ i = j := by
  rw [← Int32.toInt_inj, nI_to h1, nI_to h2]
  omega
theorem nI_lt2 {i j : Nat} (h1 : i < 2147483648) (h2 : j < 2147483648) : nI i < nI j ↔ i < j := by
  rw [Int32.lt_iff_toInt_lt, nI_to h1, nI_to h2]
  omega
/-- an int that isn't negative -/
theorem nI_of0 {x : Int32} (h : 0 ≤ x.toInt) : x = nI x.toInt.toNat := by
  rw [← Int32.toInt_inj, nI_to (by have := x_hi x; omega)]
  omega
theorem nI_ex {x : Int32} {P : Nat} (h : 0 ≤ x.toInt ∧ x.toInt < P) : ∃ j, j < P ∧ x = nI j := ⟨x.toInt.toNat, by omega, nI_of0 h.1⟩
theorem iI_div {a b : Int} (h1 : 0 ≤ a) (h2 : a < 2147483648) (h3 : 0 < b) (h4 : b < 2147483648) : iI a / iI b = iI (a / b) := by
  have := Int32.ofInt_tdiv (a := a) (b := b) (by show (-2147483648 : Int) ≤ a; omega) (by show a ≤ (2147483647 : Int); omega) (by show (-2147483648 : Int) ≤ b; omega) (by show b ≤ (2147483647 : Int); omega)
  rw [Int.tdiv_eq_ediv_of_nonneg h1] at this
  exact this.symm
theorem lI_div {a b : Int} (h1 : 0 ≤ a) (h2 : a < 9223372036854775808) (h3 : 0 < b) (h4 : b < 9223372036854775808) : lI a / lI b = lI (a / b) := by
  have := Int64.ofInt_tdiv (a := a) (b := b) (by show (-9223372036854775808 : Int) ≤ a; omega) (by show a ≤ (9223372036854775807 : Int); omega) (by show (-9223372036854775808 : Int) ≤ b; omega) (by show b ≤ (9223372036854775807 : Int); omega)
  rw [Int.tdiv_eq_ediv_of_nonneg h1] at this
  exact this.symm
theorem nI_div {a b : Nat} (h2 : a < 2147483648) (h3 : 0 < b) (h4 : b < 2147483648) : nI a / nI b = nI (a / b) := by
  rw [nI_iI, nI_iI, nI_iI, iI_div (by omega) (by omega) (by omega) (by omega)]
  rfl
theorem nI_mul (a b : Nat) : nI a * nI b = nI (a * b) := by
  rw [nI_iI, nI_iI, nI_iI, iI_mul]
  rfl
theorem nI_sub {a b : Nat} (h : b ≤ a) : nI a - nI b = nI (a - b) := by
  rw [nI_iI, nI_iI, nI_iI, iI_sub]
  congr 1
  omega
theorem dvI_ok {a b : Nat} (h2 : a < 2147483648) (h3 : 0 < b) (h4 : b < 2147483648) : dvI (nI a) (nI b) = some (nI (a / b)) := by
  unfold dvI
  rw [if_pos (fun q => by rw [show (0 : Int32) = nI 0 from rfl, nI_inj h4 (by omega)] at q; omega), nI_div h2 h3 h4]
theorem rmI_ok {a b : Nat} (h2 : a < 2147483648) (h3 : 0 < b) (h4 : b < 2147483648) : rmI (nI a) (nI b) = some (nI (a % b)) := by
  unfold rmI
  have h5 := Nat.div_add_mod a b
  have h6 : a / b * b = b * (a / b) := Nat.mul_comm ..
  rw [if_pos (fun q => by rw [show (0 : Int32) = nI 0 from rfl, nI_inj h4 (by omega)] at q; omega), nI_div h2 h3 h4, nI_mul, nI_sub (by omega)]
  congr 2
  omega
theorem iI_64 {a : Int} (h1 : -2147483648 ≤ a) (h2 : a < 2147483648) : (iI a).toInt64 = lI a := Int32.toInt64_ofInt (by show (-2147483648 : Int) ≤ a; omega) (by show a ≤ (2147483647 : Int); omega)
theorem lI_32 (a : Int) : (lI a).toInt32 = iI a := Int64.toInt32_ofInt
theorem to64 (x : Int32) : x.toInt64.toInt = x.toInt := Int32.toInt_toInt64 x
theorem to64_32 (x : Int32) : x.toInt64.toInt32 = x := by
  rw [← iI_of x, iI_64 (x_lo x) (x_hi x), lI_32]
theorem cmp_lt (x y : Int64) : lg_cmp x y < 0 ↔ x.toInt < y.toInt := by
  unfold lg_cmp
  by_cases h1 : x > y
  · rw [if_pos h1]
    have : y.toInt < x.toInt := Int64.lt_iff_toInt_lt.mp h1
    exact ⟨fun q => absurd q (by decide), fun q => by omega⟩
  · rw [if_neg h1]
    have h1 : ¬ (y.toInt < x.toInt) := fun q => h1 (Int64.lt_iff_toInt_lt.mpr q)
    by_cases h2 : x = y
    · rw [if_pos h2]
      subst h2
      exact ⟨fun q => absurd q (by decide), fun q => by omega⟩
    · rw [if_neg h2]
      have h2 : ¬ (x.toInt = y.toInt) := fun q => h2 (Int64.toInt_inj.mp q)
      exact ⟨fun q => by omega, fun q => by decide⟩
theorem cmp_gt (x y : Int64) : 0 < lg_cmp x y ↔ y.toInt < x.toInt := by
  unfold lg_cmp
  by_cases h1 : x > y
  · rw [if_pos h1]
    have : y.toInt < x.toInt := Int64.lt_iff_toInt_lt.mp h1
    exact ⟨fun q => this, fun q => by decide⟩
  · rw [if_neg h1]
    have h1 : ¬ (y.toInt < x.toInt) := fun q => h1 (Int64.lt_iff_toInt_lt.mpr q)
    by_cases h2 : x = y
    · rw [if_pos h2]
      exact ⟨fun q => absurd q (by decide), fun q => absurd q h1⟩
    · rw [if_neg h2]
      exact ⟨fun q => absurd q (by decide), fun q => absurd q h1⟩
theorem cmp_eq (x y : Int64) : lg_cmp x y = 0 ↔ x.toInt = y.toInt := by
  unfold lg_cmp
  by_cases h1 : x > y
  · rw [if_pos h1]
    have : y.toInt < x.toInt := Int64.lt_iff_toInt_lt.mp h1
    exact ⟨fun q => absurd q (by decide), fun q => by omega⟩
  · rw [if_neg h1]
    have h1 : ¬ (y.toInt < x.toInt) := fun q => h1 (Int64.lt_iff_toInt_lt.mpr q)
    by_cases h2 : x = y
    · rw [if_pos h2]
      subst h2
      exact ⟨fun q => rfl, fun q => rfl⟩
    · rw [if_neg h2]
      have h2 : ¬ (x.toInt = y.toInt) := fun q => h2 (Int64.toInt_inj.mp q)
      exact ⟨fun q => absurd q (by decide), fun q => absurd q h2⟩
theorem cmp_le (x y : Int64) : lg_cmp x y ≤ 0 ↔ x.toInt ≤ y.toInt := by
  have h := cmp_gt x y
  rw [Int32.lt_iff_toInt_lt] at h
  rw [Int32.le_iff_toInt_le]
  have h3 : (0 : Int32).toInt = 0 := rfl
  omega
theorem cmp_ge (x y : Int64) : 0 ≤ lg_cmp x y ↔ y.toInt ≤ x.toInt := by
  have h := cmp_lt x y
  rw [Int32.lt_iff_toInt_lt] at h
  rw [Int32.le_iff_toInt_le]
  have h3 : (0 : Int32).toInt = 0 := rfl
  omega
/-- the reference's 'within' -/
theorem within_ok {z : Sh} {h : Hp} (v a b : Int64) : f_X12_within z h v a b = some (if a.toInt ≤ v.toInt ∧ v.toInt ≤ b.toInt then 1 else 0) := by
  unfold f_X12_within
  by_cases h1 : lg_cmp v a < 0
  · rw [if_pos h1, if_neg (by have := (cmp_lt v a).mp h1; omega)]
  · rw [if_neg h1]
    have h1 : ¬ v.toInt < a.toInt := fun q => h1 ((cmp_lt v a).mpr q)
    by_cases h2 : 0 < lg_cmp v b
    · rw [if_pos h2, if_neg (by have := (cmp_gt v b).mp h2; omega)]
    · rw [if_neg h2, if_pos]
      have h2 : ¬ b.toInt < v.toInt := fun q => h2 ((cmp_gt v b).mpr q)
      omega
theorem bz_if {c : Prop} [Decidable c] : bz (if c then 1 else 0) = some (if c then 1 else 0) := by
  by_cases hc : c
  · simp only [if_pos hc]
    rfl
  · simp only [if_neg hc]
    rfl
theorem nI0 : (0 : Int32) = nI 0 := rfl
theorem if10_0 {c : Prop} [Decidable c] : ((if c then 1 else 0 : Int32) = 0) ↔ ¬ c := by
  by_cases hc : c
  · simp only [if_pos hc]
    exact ⟨fun q => absurd q (by decide), fun q => absurd hc q⟩
  · simp only [if_neg hc]
    exact ⟨fun _ => hc, fun _ => trivial⟩
theorem if10_1 {c : Prop} [Decidable c] : ((if c then 1 else 0 : Int32) = 1) ↔ c := by
  by_cases hc : c
  · simp only [if_pos hc]
    exact ⟨fun q => hc, fun q => trivial⟩
  · simp only [if_neg hc]
    exact ⟨fun q => absurd q (by decide), fun q => absurd q hc⟩
/-! rows -/
theorem rowI_Ib (h : Hp) (a b : Nat) (f : Nat → Int32) : (h.rowI a f).I b = if b = a then f else h.I b := by
  by_cases hb : b = a
  · subst hb
    rw [if_pos rfl, rowI_I]
  · rw [if_neg hb, rowI_ne h _ hb]
theorem rowJ_Jb (h : Hp) (a b : Nat) (f : Nat → Int64) : (h.rowJ a f).J b = if b = a then f else h.J b := by
  by_cases hb : b = a
  · subst hb
    rw [if_pos rfl, rowJ_J]
  · rw [if_neg hb, rowJ_ne h _ hb]
theorem rowI_J (h : Hp) (a b : Nat) (f : Nat → Int32) : (h.rowI a f).J b = h.J b := rfl
theorem rowI_R (h : Hp) (a b : Nat) (f : Nat → Int32) : (h.rowI a f).R b = h.R b := rfl
theorem rowJ_I (h : Hp) (a b : Nat) (f : Nat → Int64) : (h.rowJ a f).I b = h.I b := rfl
theorem rowJ_R (h : Hp) (a b : Nat) (f : Nat → Int64) : (h.rowJ a f).R b = h.R b := rfl
theorem rowI_rowI (h : Hp) (a : Nat) (f g : Nat → Int32) : (h.rowI a f).rowI a g = h.rowI a g := by
  simp only [Hp.rowI]
  congr 1
  funext j
  simp only [va_up]
  split <;> rfl
theorem rowJ_rowJ (h : Hp) (a : Nat) (f g : Nat → Int64) : (h.rowJ a f).rowJ a g = h.rowJ a g := by
  simp only [Hp.rowJ]
  congr 2
  funext j
  simp only [va_up]
  split <;> rfl
theorem rowI_comm (h : Hp) {a c : Nat} (f g : Nat → Int32) (hne : a ≠ c) : (h.rowI a f).rowI c g = (h.rowI c g).rowI a f := by
  simp only [Hp.rowI]
  congr 1
  funext j
  simp only [va_up]
  by_cases h1 : j = c
  · subst h1
    rw [if_pos rfl, if_neg (fun q => hne q.symm), if_pos rfl]
  · rw [if_neg h1, if_neg h1]
theorem rowJ_setJ (h : Hp) (a k : Nat) (f : Nat → Int64) (v : Int64) : (h.rowJ a f).setJ a k v = h.rowJ a (vp_updL f k v) := by
  rw [Hp.setJ, rowJ_J, rowJ_rowJ]
theorem rowJ_self (h : Hp) (a : Nat) : h.rowJ a (h.J a) = h := by
  have : va_up h.2.1 a (h.2.1 a) = h.2.1 := by
    funext j
    simp only [va_up]
    split
    · rename_i e
      rw [e]
    · rfl
  simp only [Hp.rowJ, Hp.J]
  rw [this]
  rfl
