/-- THE PURE PART: what the functions of the two classes say of each other -/
theorem pure_law {z : Sh} {h : Hp} (hI : Ini z h) {L : Nat} (hL : L ≤ 3072) (xs : Nat → Int32) : ∃ n, f_law n z h L xs = some () := ⟨400000, pure_n hI (Nat.le_refl _) hL xs⟩
