/-! ===== runs: sets of people as numbers below 64 ===== -/
def pcn (s : Nat) : Nat := s % 2 + s / 2 % 2 + s / 4 % 2 + s / 8 % 2 + s / 16 % 2 + s / 32 % 2
theorem bc_c {z : Sh} {h : Hp} : ∀ s, s < 64 → f_J6_bitCount_0f7a4 z h (nI s) = some (nI (pcn s)) := by
  unfold f_J6_bitCount_0f7a4
  decide +kernel
def bsum (v : Int32) : Nat → Nat → Int32 → Int32
  | 0, _, a => a
  | d + 1, j, a => bsum v d (j + 1) (a + ((v >>> (nI j &&& 31)) &&& 1))
theorem bsum_ok : ∀ s, s < 64 → bsum (nI s) 10 0 0 = nI (pcn s) := by decide +kernel
theorem bits_4 {n : Nat} {z : Sh} {h : Hp} {v : Int32} : ∀ (d j i : Nat) (a : Int32), j + d = 10 → d < i → f_X12_bitsOf_4 n z h i v a (nI j) = some (bsum v d j a) := by
  intro d
  induction d with
  | zero =>
    intro j i a hj hi
    obtain ⟨i, rfl⟩ : ∃ k, i = k + 1 := ⟨i - 1, by omega⟩
    obtain rfl : j = 10 := by omega
    rw [f_X12_bitsOf_4.eq_2, if_pos (by decide)]
    rfl
  | succ d ih =>
    intro j i a hj hi
    obtain ⟨i, rfl⟩ : ∃ k, i = k + 1 := ⟨i - 1, by omega⟩
    rw [f_X12_bitsOf_4.eq_2, if_neg (fun q => by have := (nI_leI (a := 10) (by omega) (by omega)).mp q; omega), bS, bS, show nI j + 1 = nI (j + 1) from nI_add j 1, ih (j + 1) i _ (by omega) (by omega)]
    rfl
theorem bc_m {n : Nat} {z : Sh} {h : Hp} (hn : 400000 ≤ n) {s : Nat} (hs : s < 64) : f_X12_bitsOf n z h (nI s) = some (nI (pcn s)) := by
  unfold f_X12_bitsOf
  rw [show (0 : Int32) = nI 0 from rfl, bits_4 10 0 n _ (by omega) (by omega), ← bsum_ok s hs]
  rfl
theorem isIn_ok {z : Sh} {h : Hp} : ∀ s, s < 64 → ∀ j, j < 6 → f_X12_isIn z h (Int32.toInt64 (nI s)) (nI j) = some (if s / 2 ^ j % 2 = 1 then 1 else 0) := by
  unfold f_X12_isIn
  decide +kernel
theorem bc_le : ∀ P, P < 7 → ∀ s, s < 2 ^ P → pcn s ≤ P := by decide +kernel
theorem or_n : ∀ a, a < 64 → ∀ c, c < 64 → nI a ||| nI c = nI (a ||| c) := by decide +kernel
theorem or_j : ∀ a, a < 64 → ∀ j, j < 6 → nI a ||| ((1 : Int32) <<< (nI j &&& 31)) = nI (a ||| 2 ^ j) := by decide +kernel
theorem an_n : ∀ a, a < 64 → ∀ c, c < 64 → nI a &&& (nI c ^^^ (-1)) = nI (a &&& (63 ^^^ c)) := by decide +kernel
theorem bc_up : ∀ a, a < 64 → ∀ s, s < 64 → ¬ (a &&& (63 ^^^ s) = 0) → pcn s < pcn (s ||| (a &&& (63 ^^^ s))) := by decide +kernel
theorem or_an : ∀ a, a < 64 → ∀ s, s < 64 → s ||| (a &&& (63 ^^^ s)) = s ||| a := by decide +kernel
theorem or_eq : ∀ a, a < 64 → ∀ s, s < 64 → (s ||| a = s ↔ a &&& (63 ^^^ s) = 0) := by decide +kernel
theorem sh_P : ∀ P, P < 7 → ((1 : Int32) <<< (nI P &&& 31)) = nI (2 ^ P) := by decide +kernel
theorem ev_P : ∀ P, P < 7 → ((1 : Int32) <<< (nI P &&& 31)) - 1 = nI (2 ^ P - 1) := by decide +kernel
theorem an_j : ∀ a, a < 64 → ∀ c, c < 64 → ∀ j, j < 6 → (a ||| 2 ^ j) &&& (63 ^^^ c) = if c / 2 ^ j % 2 = 1 then a &&& (63 ^^^ c) else (a &&& (63 ^^^ c)) ||| 2 ^ j := by decide +kernel
theorem lt64 {P s : Nat} (hP : P ≤ 6) (h : s < 2 ^ P) : s < 64 := Nat.lt_of_lt_of_le h (Nat.pow_le_pow_right (by decide) (show P ≤ 6 from hP))
theorem or_lt {P a c : Nat} (h1 : a < 2 ^ P) (h2 : c < 2 ^ P) : a ||| c < 2 ^ P := Nat.or_lt_two_pow h1 h2
theorem and_lt {P a c : Nat} (h1 : a < 2 ^ P) : a &&& c < 2 ^ P := Nat.lt_of_le_of_lt Nat.and_le_left h1
/-- the class's test of a set is the reference's -/
theorem isSet_c : ∀ P, P < 7 → ∀ s, s < 2 ^ P → nI s &&& (nI (2 ^ P - 1) ^^^ (-1)) = 0 := by decide +kernel
theorem split_v (v m : Int32) : v = (v &&& m) ||| (v &&& (m ^^^ (-1))) := by
  rw [← Int32.toBitVec_inj]
  apply BitVec.eq_of_getLsbD_eq
  intro i hi
  simp only [Int32.toBitVec_or, Int32.toBitVec_and, Int32.toBitVec_xor, BitVec.getLsbD_or, BitVec.getLsbD_and, BitVec.getLsbD_xor]
  have e : (-1 : Int32).toBitVec.getLsbD i = true := by
    rw [show (-1 : Int32).toBitVec = BitVec.allOnes 32 by decide, BitVec.getLsbD_allOnes]
    simpa using hi
  rw [e]
  cases v.toBitVec.getLsbD i <;> cases m.toBitVec.getLsbD i <;> rfl
theorem and_mask {P : Nat} (hP : P < 7) (v : Int32) : ∃ s, s < 2 ^ P ∧ v &&& nI (2 ^ P - 1) = nI s := by
  have hp : 2 ^ P ≤ 64 := Nat.pow_le_pow_right (n := 2) (by decide) (show P ≤ 6 by omega)
  have hp0 : 0 < 2 ^ P := Nat.pow_pos (by decide)
  refine ⟨v.toBitVec.toNat % 2 ^ P, Nat.mod_lt _ hp0, ?_⟩
  rw [← Int32.toBitVec_inj]
  apply BitVec.eq_of_toNat_eq
  show (v.toBitVec &&& (BitVec.ofNat 32 (2 ^ P - 1))).toNat = (BitVec.ofNat 32 _).toNat
  have h2 : v.toBitVec.toNat % 2 ^ P < 2 ^ P := Nat.mod_lt _ hp0
  rw [BitVec.toNat_and, BitVec.toNat_ofNat, BitVec.toNat_ofNat, Nat.mod_eq_of_lt (show 2 ^ P - 1 < 2 ^ 32 by omega), Nat.and_two_pow_sub_one_eq_mod, Nat.mod_eq_of_lt (show v.toBitVec.toNat % 2 ^ P < 2 ^ 32 by omega)]
theorem isSet_iff {P : Nat} (hP : P < 7) (v : Int32) : v &&& (nI (2 ^ P - 1) ^^^ (-1)) = 0 ↔ 0 ≤ v.toInt ∧ v.toInt < (2 ^ P : Nat) := by
  constructor
  · intro h
    have e := split_v v (nI (2 ^ P - 1))
    obtain ⟨s, hs, e2⟩ := and_mask hP v
    rw [h, e2, Int32.or_zero] at e
    have h64 := lt64 (show P ≤ 6 by omega) hs
    rw [e, nI_to (by omega)]
    omega
  · intro h
    obtain ⟨s, hs, rfl⟩ := nI_ex (P := 2 ^ P) h
    exact isSet_c P hP s hs
/-! who joins -/
def jN (f : Nat → Nat) (seen : Nat) : Nat → Nat → Nat → Nat
  | 0, _, a => a
  | d + 1, j, a => jN f seen d (j + 1) (if seen < f j then a else a ||| 2 ^ j)
theorem jN_lt {f : Nat → Nat} {seen P : Nat} : ∀ (d j a : Nat), j + d = P → a < 2 ^ P → jN f seen d j a < 2 ^ P := by
  intro d
  induction d with
  | zero => intro j a _ h; exact h
  | succ d ih =>
    intro j a hj h
    unfold jN
    refine ih (j + 1) _ (by omega) ?_
    split
    · exact h
    · exact or_lt h (Nat.pow_lt_pow_right (by decide) (by omega))
def jo (f : Nat → Nat) (P c s : Nat) : Nat := (jN f (pcn s) P 0 0 &&& (63 ^^^ s)) &&& (63 ^^^ c)
def rE (f : Nat → Nat) (P c : Nat) : Nat → Nat → Nat
  | 0, s => s
  | k + 1, s => if jo f P c s = 0 then s else rE f P c k (s ||| jo f P c s)
def rN (f : Nat → Nat) (P c : Nat) : Nat → Nat → Nat
  | 0, _ => 0
  | k + 1, s => if jo f P c s = 0 then 0 else 1 + rN f P c k (s ||| jo f P c s)
section
variable {f : Nat → Nat} {P c : Nat}
theorem jo_lt {s : Nat} : jo f P c s < 2 ^ P := and_lt (and_lt (jN_lt P 0 0 (by omega) (Nat.pow_pos (by decide))))
theorem jo_alt {s : Nat} : jo f P c s = (jN f (pcn s) P 0 0 &&& (63 ^^^ c)) &&& (63 ^^^ s) := by
  unfold jo
  rw [Nat.and_assoc, Nat.and_comm (63 ^^^ s), ← Nat.and_assoc]
theorem rE_lt : ∀ (k s : Nat), s < 2 ^ P → rE f P c k s < 2 ^ P := by
  intro k
  induction k with
  | zero => intro s h; exact h
  | succ k ih =>
    intro s h
    unfold rE
    split
    · exact h
    · exact ih _ (or_lt h jo_lt)
theorem jo_up (hP : P ≤ 6) {s : Nat} (hs : s < 2 ^ P) (h : ¬ jo f P c s = 0) : pcn s < pcn (s ||| jo f P c s) := by
  rw [jo_alt] at h ⊢
  exact bc_up _ (lt64 hP (and_lt (jN_lt P 0 0 (by omega) (Nat.pow_pos (by decide))))) s (lt64 hP hs) h
end
/-- people with their fears -/
def FeX (A : Nat → Int32) (P : Nat) (f : Nat → Nat) : Prop := ∀ p, p < P → A (11 + p) = nI (f p) ∧ f p ≤ 9
section
variable {n : Nat} {z : Sh} {h : Hp} {q r P : Nat} {A : Nat → Int32} {f : Nat → Nat}
theorem joining_11 (HP : PL z h.2.2 q r) (X : PeopleX (h.I q) (h.I r) A P) (h6 : P ≤ 6) (hf : FeX A P f) {s cc seen : Nat} (hs : s < 64) (hc : cc < 64) (hse : seen < 100) : ∀ (d j i a : Nat), j + d = P → d < i → a < 2 ^ P → f_X5_joining_11 n z h i q (nI s) (nI cc) (nI seen) (nI a) (nI j) = some (nI ((jN f seen d j a &&& (63 ^^^ s)) &&& (63 ^^^ cc))) := by
  intro d
  induction d with
  | zero =>
    intro j i a hj hi ha
    obtain ⟨i, rfl⟩ : ∃ k, i = k + 1 := ⟨i - 1, by omega⟩
    obtain rfl : j = P := by omega
    have ha6 := lt64 h6 ha
    rw [f_X5_joining_11.eq_2, gI_ok HP.1, bS, X.1, if_pos ((nI_leI (by omega) (by omega)).mpr (Nat.le_refl _)), an_n a ha6 s hs, an_n _ (lt64 h6 (and_lt ha)) cc hc]
    rfl
  | succ d ih =>
    intro j i a hj hi ha
    obtain ⟨i, rfl⟩ : ∃ k, i = k + 1 := ⟨i - 1, by omega⟩
    have ha6 := lt64 h6 ha
    obtain ⟨f1, f2⟩ := hf j (by omega)
    have ih1 := fun a' ha' => ih (j + 1) i a' (by omega) (by omega) ha'
    have hx : f_X5_part z h q (nI j) 7 = some (nI (f j)) := by
      rw [show (7 : Int32) = nI 7 from rfl, part_ok HP (by omega) (by omega), (PX_P X (show j < P by omega)).2.2.2.2.2.2.2.1, f1]
    rw [f_X5_joining_11.eq_2, gI_ok HP.1, bS, X.1, if_neg (fun q => by have := (nI_leI (by omega) (by omega)).mp q; omega), hx, bS]
    unfold f_X5_joining_42 jN
    rw [show nI j + 1 = nI (j + 1) from nI_add j 1]
    by_cases hc : seen < f j
    · rw [if_pos ((nI_lt2 (by omega) (by omega)).mpr hc), if_pos hc, bS, bS, show nI a ||| (0 : Int32) = nI a from Int32.or_zero, ih1 a ha]
    · rw [if_neg (fun q => hc ((nI_lt2 (by omega) (by omega)).mp q)), if_neg hc, bS, bS, or_j a ha6 j (by omega), ih1 _ (or_lt ha (Nat.pow_lt_pow_right (by decide) (by omega)))]
theorem joining_ok (HP : PL z h.2.2 q r) (X : PeopleX (h.I q) (h.I r) A P) (h6 : P ≤ 6) (hn : 400000 ≤ n) (hf : FeX A P f) {s cc : Nat} (hs : s < 64) (hc : cc < 64) : f_X5_joining n z h q (nI s) (nI cc) = some (nI (jo f P cc s)) := by
  unfold f_X5_joining
  have hb : pcn s < 100 := by unfold pcn; omega
  rw [if_pos HP.1, bc_c s hs, bS, show (0 : Int32) = nI 0 from rfl, joining_11 HP X h6 hf hs hc hb P 0 n 0 (by omega) (by omega) (Nat.pow_pos (by decide))]
  rfl
theorem runOf_13 (HP : PL z h.2.2 q r) (X : PeopleX (h.I q) (h.I r) A P) (h6 : P ≤ 6) (hn : 400000 ≤ n) (hf : FeX A P f) {cc : Nat} (hc : cc < 64) : ∀ (d j i s : Nat), j + d = P → d < i → s < 2 ^ P → f_X5_runOf_13 n z h i q (nI cc) (nI s) (nI (jo f P cc s)) (nI j) = some (nI (rE f P cc d s)) := by
  intro d
  induction d with
  | zero =>
    intro j i s hj hi hs
    obtain ⟨i, rfl⟩ : ∃ k, i = k + 1 := ⟨i - 1, by omega⟩
    obtain rfl : j = P := by omega
    rw [f_X5_runOf_13.eq_2, gI_ok HP.1, bS, X.1, if_pos ((nI_leI (by omega) (by omega)).mpr (Nat.le_refl _))]
    rfl
  | succ d ih =>
    intro j i s hj hi hs
    obtain ⟨i, rfl⟩ : ∃ k, i = k + 1 := ⟨i - 1, by omega⟩
    have hj6 : jo f P cc s < 64 := lt64 h6 jo_lt
    rw [f_X5_runOf_13.eq_2, gI_ok HP.1, bS, X.1, if_neg (fun q => by have := (nI_leI (by omega) (by omega)).mp q; omega)]
    unfold rE
    by_cases h0 : jo f P cc s = 0
    · rw [if_pos (by rw [h0]; rfl), if_pos h0]
    · rw [if_neg (show ¬ nI (jo f P cc s) = 0 from fun q => h0 ((nI_inj (j := 0) (by omega) (by omega)).mp q)), if_neg h0, bS, or_n s (lt64 h6 hs) _ hj6, joining_ok HP X h6 hn hf (lt64 h6 (or_lt hs jo_lt)) hc, bS, bS, show nI j + 1 = nI (j + 1) from nI_add j 1]
      exact ih (j + 1) i _ (by omega) (by omega) (or_lt hs jo_lt)
theorem run_c (HP : PL z h.2.2 q r) (X : PeopleX (h.I q) (h.I r) A P) (h6 : P ≤ 6) (hn : 400000 ≤ n) (hf : FeX A P f) {cc s : Nat} (hc : cc < 64) (hs : s < 2 ^ P) : f_X5_runOf n z h q (nI s) (nI cc) = some (nI (rE f P cc P s)) := by
  unfold f_X5_runOf
  rw [if_pos HP.1, joining_ok HP X h6 hn hf (lt64 h6 hs) hc, bS, show (0 : Int32) = nI 0 from rfl]
  exact runOf_13 HP X h6 hn hf hc P 0 n s (by omega) (by omega) hs
theorem roundsOf_12 (HP : PL z h.2.2 q r) (X : PeopleX (h.I q) (h.I r) A P) (h6 : P ≤ 6) (hn : 400000 ≤ n) (hf : FeX A P f) : ∀ (d j i s : Nat), j + d = P → d < i → s < 2 ^ P → f_X5_roundsOf_12 n z h i q (nI s) (nI (jo f P 0 s)) (nI j) = some (nI (j + rN f P 0 d s)) := by
  intro d
  induction d with
  | zero =>
    intro j i s hj hi hs
    obtain ⟨i, rfl⟩ : ∃ k, i = k + 1 := ⟨i - 1, by omega⟩
    obtain rfl : j = P := by omega
    rw [f_X5_roundsOf_12.eq_2, gI_ok HP.1, bS, X.1, if_pos ((nI_leI (by omega) (by omega)).mpr (Nat.le_refl _))]
    rfl
  | succ d ih =>
    intro j i s hj hi hs
    obtain ⟨i, rfl⟩ : ∃ k, i = k + 1 := ⟨i - 1, by omega⟩
    have hj6 : jo f P 0 s < 64 := lt64 h6 jo_lt
    rw [f_X5_roundsOf_12.eq_2, gI_ok HP.1, bS, X.1, if_neg (fun q => by have := (nI_leI (by omega) (by omega)).mp q; omega)]
    unfold rN
    by_cases h0 : jo f P 0 s = 0
    · rw [if_pos (by rw [h0]; rfl), if_pos h0]
      rfl
    · rw [if_neg (show ¬ nI (jo f P 0 s) = 0 from fun q => h0 ((nI_inj (j := 0) (by omega) (by omega)).mp q)), if_neg h0, bS, or_n s (lt64 h6 hs) _ hj6, show (0 : Int32) = nI 0 from rfl, joining_ok HP X h6 hn hf (lt64 h6 (or_lt hs jo_lt)) (by decide), bS, bS, show nI j + 1 = nI (j + 1) from nI_add j 1, ih (j + 1) i _ (by omega) (by omega) (or_lt hs jo_lt)]
      congr 2
      omega
theorem rounds_c (HP : PL z h.2.2 q r) (X : PeopleX (h.I q) (h.I r) A P) (h6 : P ≤ 6) (hn : 400000 ≤ n) (hf : FeX A P f) {s : Nat} (hs : s < 2 ^ P) : f_X5_roundsOf n z h q (nI s) = some (nI (rN f P 0 P s)) := by
  unfold f_X5_roundsOf
  rw [if_pos HP.1, show (0 : Int32) = nI 0 from rfl, joining_ok HP X h6 hn hf (lt64 h6 hs) (by decide), bS, roundsOf_12 HP X h6 hn hf P 0 n s (by omega) (by omega) hs, Nat.zero_add]
/-! rests -/
def rsT (f : Nat → Nat) (s : Nat) : Nat → Nat → Bool
  | 0, _ => true
  | d + 1, j => (if s / 2 ^ j % 2 = 1 then Nat.ble (f j + 1) (pcn s) else !Nat.ble (f j) (pcn s)) && rsT f s d (j + 1)
theorem bit_ok : ∀ s, s < 64 → ∀ j, j < 6 → (((nI s >>> (nI j &&& 31)) &&& 1) = 1 ↔ s / 2 ^ j % 2 = 1) := by decide +kernel
theorem nim1 : ∀ s, s < 64 → ∀ j, j < 6 → s / 2 ^ j % 2 = 1 → 1 ≤ pcn s := by decide +kernel
theorem atRest_7 (HP : PL z h.2.2 q r) (X : PeopleX (h.I q) (h.I r) A P) (h6 : P ≤ 6) (hf : FeX A P f) {s : Nat} (hs : s < 64) : ∀ (d j i : Nat), j + d = P → d < i → f_X5_atRest_7 n z h i q (nI s) (nI (pcn s)) (nI j) = some (if rsT f s d j = true then 1 else 0) := by
  have hb : pcn s < 100 := by unfold pcn; omega
  intro d
  induction d with
  | zero =>
    intro j i hj hi
    obtain ⟨i, rfl⟩ : ∃ k, i = k + 1 := ⟨i - 1, by omega⟩
    obtain rfl : j = P := by omega
    rw [f_X5_atRest_7.eq_2, gI_ok HP.1, bS, X.1, if_pos ((nI_leI (by omega) (by omega)).mpr (Nat.le_refl _))]
    rfl
  | succ d ih =>
    intro j i hj hi
    obtain ⟨i, rfl⟩ : ∃ k, i = k + 1 := ⟨i - 1, by omega⟩
    obtain ⟨f1, f2⟩ := hf j (by omega)
    have ih1 := ih (j + 1) i (by omega) (by omega)
    have hx : f_X5_part z h q (nI j) 7 = some (nI (f j)) := by
      rw [show (7 : Int32) = nI 7 from rfl, part_ok HP (by omega) (by omega), (PX_P X (show j < P by omega)).2.2.2.2.2.2.2.1, f1]
    rw [f_X5_atRest_7.eq_2, gI_ok HP.1, bS, X.1, if_neg (fun q => by have := (nI_leI (by omega) (by omega)).mp q; omega)]
    unfold f_X5_atRest_29 f_X5_atRest_50 f_X5_atRest_58 rsT
    by_cases hc : s / 2 ^ j % 2 = 1
    · have := nim1 s hs j (by omega) hc
      rw [if_pos ((bit_ok s hs j (by omega)).mpr hc), hx, bS, if_neg (by decide), if_pos hc]
      by_cases hl : pcn s - 1 < f j
      · have e : Nat.ble (f j + 1) (pcn s) = false := by
          cases e : Nat.ble (f j + 1) (pcn s) with
          | false => rfl
          | true => have := Nat.ble_eq.mp e; omega
        rw [if_pos (show nI (pcn s) - 1 < nI (f j) by rw [show (1 : Int32) = nI 1 from rfl, nI_sub (by omega), nI_lt2 (by omega) (by omega)]; exact hl), if_neg (by decide), e]
        rfl
      · have e : Nat.ble (f j + 1) (pcn s) = true := Nat.ble_eq.mpr (by omega)
        rw [if_neg (show ¬ nI (pcn s) - 1 < nI (f j) by rw [show (1 : Int32) = nI 1 from rfl, nI_sub (by omega), nI_lt2 (by omega) (by omega)]; exact hl), if_pos rfl, bS, show nI j + 1 = nI (j + 1) from nI_add j 1, ih1, e]
        rfl
    · rw [if_neg (fun q => hc ((bit_ok s hs j (by omega)).mp q)), hx, bS, if_pos rfl, if_neg hc]
      by_cases hl : pcn s < f j
      · have e : Nat.ble (f j) (pcn s) = false := by
          cases e : Nat.ble (f j) (pcn s) with
          | false => rfl
          | true => have := Nat.ble_eq.mp e; omega
        rw [if_pos ((nI_lt2 (by omega) (by omega)).mpr hl), if_pos rfl, bS, show nI j + 1 = nI (j + 1) from nI_add j 1, ih1, e]
        rfl
      · have e : Nat.ble (f j) (pcn s) = true := Nat.ble_eq.mpr (by omega)
        rw [if_neg (fun q => hl ((nI_lt2 (by omega) (by omega)).mp q)), if_neg (by decide), e]
        rfl
theorem atRest_ok (HP : PL z h.2.2 q r) (X : PeopleX (h.I q) (h.I r) A P) (h6 : P ≤ 6) (hn : 400000 ≤ n) (hf : FeX A P f) {s : Nat} (hs : s < 64) : f_X5_atRest n z h q (nI s) = some (if rsT f s P 0 = true then 1 else 0) := by
  unfold f_X5_atRest
  rw [if_pos HP.1, bc_c s hs, bS, show (0 : Int32) = nI 0 from rfl]
  exact atRest_7 HP X h6 hf hs P 0 n (by omega) (by omega)
end
section
variable {n : Nat} {z : Sh} {h : Hp} {b P : Nat} {A : Nat → Int32} {f : Nat → Nat}
theorem joins_5 (HM : LayR z h.2.2 (b + 72)) (h73 : h.I (b + 73) = A) (h3 : A 3 = nI P) (h6 : P ≤ 6) (hn : 400000 ≤ n) (hf : FeX A P f) {s cc : Nat} (hs : s < 2 ^ P) (hc : cc < 64) : ∀ (d j i a : Nat), j + d = P → d < i → a < 2 ^ P → f_X12_joins_5 n z h i (b + 72) (nI s) (nI cc) (nI (s ||| (a &&& (63 ^^^ cc)))) (nI j) = some (nI (s ||| (jN f (pcn s) d j a &&& (63 ^^^ cc)))) := by
  have hb : pcn s < 100 := by unfold pcn; omega
  have hs6 := lt64 h6 hs
  intro d
  induction d with
  | zero =>
    intro j i a hj hi ha
    obtain ⟨i, rfl⟩ : ∃ k, i = k + 1 := ⟨i - 1, by omega⟩
    obtain rfl : j = P := by omega
    rw [f_X12_joins_5.eq_2, gR_ok (km_0 HM) (rm_1 HM), bS, show (3 : Int32) = nI 3 from rfl, lm_1 HM (by omega), bS, h73, h3, if_pos ((nI_leI (by omega) (by omega)).mpr (Nat.le_refl _))]
    rfl
  | succ d ih =>
    intro j i a hj hi ha
    obtain ⟨i, rfl⟩ : ∃ k, i = k + 1 := ⟨i - 1, by omega⟩
    have ha6 := lt64 h6 ha
    have hj2 : a ||| 2 ^ j < 2 ^ P := or_lt ha (Nat.pow_lt_pow_right (by decide) (by omega))
    obtain ⟨f1, f2⟩ := hf j (by omega)
    have ih1 := fun a' ha' => ih (j + 1) i a' (by omega) (by omega) ha'
    have hso : s ||| (a &&& (63 ^^^ cc)) < 64 := lt64 h6 (or_lt hs (and_lt ha))
    rw [f_X12_joins_5.eq_2, gR_ok (km_0 HM) (rm_1 HM), bS, show (3 : Int32) = nI 3 from rfl, lm_1 HM (by omega), bS, h73, h3, if_neg (fun q => by have := (nI_leI (by omega) (by omega)).mp q; omega), isIn_ok cc hc j (by omega), bS, bc_m hn hs6, bS, bS, show (11 : Int32) = nI 11 from rfl, nI_add, lm_1 HM (by omega), bS, h73, f1]
    unfold f_X12_joins_51 f_X12_joins_52 jN
    rw [show nI j + 1 = nI (j + 1) from nI_add j 1]
    have o0 : nI (s ||| (a &&& (63 ^^^ cc))) ||| (0 : Int32) = nI (s ||| (a &&& (63 ^^^ cc))) := Int32.or_zero
    by_cases hi2 : cc / 2 ^ j % 2 = 1
    · rw [if_pos hi2, if_neg (by decide), bS, bS, o0]
      by_cases hl : pcn s < f j
      · rw [if_pos hl]
        exact ih1 a ha
      · rw [if_neg hl]
        have := ih1 _ hj2
        rw [an_j a ha6 cc hc j (by omega), if_pos hi2] at this
        exact this
    · rw [if_neg hi2, if_pos rfl]
      by_cases hl : pcn s < f j
      · rw [if_pos hl, if_pos ((nI_lt2 (by omega) (by omega)).mpr hl), bS, bS, o0]
        exact ih1 a ha
      · rw [if_neg hl, if_neg (fun q => hl ((nI_lt2 (by omega) (by omega)).mp q)), bS, bS, or_j _ hso j (by omega), Nat.or_assoc]
        have := ih1 _ hj2
        rw [an_j a ha6 cc hc j (by omega), if_neg hi2] at this
        exact this
theorem joins_ok (HM : LayR z h.2.2 (b + 72)) (h73 : h.I (b + 73) = A) (h3 : A 3 = nI P) (h6 : P ≤ 6) (hn : 400000 ≤ n) (hf : FeX A P f) {s cc : Nat} (hs : s < 2 ^ P) (hc : cc < 64) : f_X12_joins n z h (b + 72) (nI s) (nI cc) = some (nI (s ||| jo f P cc s)) ∧ (nI (s ||| jo f P cc s) = nI s ↔ jo f P cc s = 0) := by
  have hJ : jN f (pcn s) P 0 0 &&& (63 ^^^ cc) < 2 ^ P := and_lt (jN_lt P 0 0 (by omega) (Nat.pow_pos (by decide)))
  have e : s ||| jo f P cc s = s ||| (jN f (pcn s) P 0 0 &&& (63 ^^^ cc)) := by
    rw [jo_alt, or_an _ (lt64 h6 hJ) s (lt64 h6 hs)]
  constructor
  · unfold f_X12_joins
    have := joins_5 (n := n) HM h73 h3 h6 hn hf hs hc P 0 n 0 (by omega) (by omega) (Nat.pow_pos (by decide))
    rw [Nat.zero_and, Nat.or_zero] at this
    rw [if_pos (km_0 HM), show (0 : Int32) = nI 0 from rfl, this, e]
  · rw [nI_inj (by have := lt64 h6 (or_lt hs (jo_lt (f := f) (P := P) (c := cc) (s := s))); omega) (by have := lt64 h6 hs; omega), e, or_eq _ (lt64 h6 hJ) s (lt64 h6 hs), jo_alt]
/-- the reference's run from a round on -/
theorem runM_7 (h3 : A 3 = nI P) (h6 : P ≤ 6) (hn : 400000 ≤ n) (hf : FeX A P f) {cc : Nat} (hc : cc < 64) : ∀ (d j i s : Nat) (h : Hp), LayR z h.2.2 (b + 72) → h.I (b + 73) = A → h.I (b + 72) 32 = nI j → j + d = P → d < i → s < 2 ^ P → j ≤ pcn s → f_X12_runOf_7 n z i h (b + 72) (nI cc) (nI s) = some (nI (rE f P cc d s), h.rowI (b + 72) (upd (h.I (b + 72)) 32 (nI (j + rN f P cc d s)))) := by
  intro d
  induction d with
  | zero =>
    intro j i s h HM h73 h32 hj hi hs hle
    obtain ⟨i, rfl⟩ : ∃ k, i = k + 1 := ⟨i - 1, by omega⟩
    obtain ⟨j1, j2⟩ := joins_ok (n := n) HM h73 h3 h6 hn hf hs hc
    have h0 : jo f P cc s = 0 := by
      by_cases h0 : jo f P cc s = 0
      · exact h0
      · have h1 := jo_up h6 hs h0
        have h2 := bc_le P (by omega) _ (or_lt hs (jo_lt (f := f) (P := P) (c := cc) (s := s)))
        omega
    rw [f_X12_runOf_7.eq_2, j1, bS, if_pos (j2.mpr h0)]
    unfold rE rN
    rw [show j + 0 = j from rfl, ← h32]
    have : upd (h.I (b + 72)) 32 (h.I (b + 72) 32) = h.I (b + 72) := by
      funext k
      unfold upd
      split
      · rename_i e
        rw [e]
      · rfl
    rw [this, rowI_self]
  | succ d ih =>
    intro j i s h HM h73 h32 hj hi hs hle
    obtain ⟨i, rfl⟩ : ∃ k, i = k + 1 := ⟨i - 1, by omega⟩
    obtain ⟨j1, j2⟩ := joins_ok (n := n) HM h73 h3 h6 hn hf hs hc
    rw [f_X12_runOf_7.eq_2, j1, bS]
    unfold rE rN
    by_cases h0 : jo f P cc s = 0
    · rw [if_pos (j2.mpr h0), if_pos h0, if_pos h0]
      rw [show j + 0 = j from rfl, ← h32]
      have : upd (h.I (b + 72)) 32 (h.I (b + 72) 32) = h.I (b + 72) := by
        funext k
        unfold upd
        split
        · rename_i e
          rw [e]
        · rfl
      rw [this, rowI_self]
    · have h1 := jo_up h6 hs h0
      have ih := ih (j + 1) i (s ||| jo f P cc s) (h.setI (b + 72) 32 (nI (j + 1))) HM ((rowI_ne _ _ (by omega)).trans h73) (sv_I _ _ _ _) (by omega) (by omega) (or_lt hs jo_lt) (by omega)
      rw [if_neg (fun q => h0 (j2.mp q)), if_neg h0, if_neg h0, bS, gI_ok (km_0 HM), bS, h32, show nI j + 1 = nI (j + 1) from nI_add j 1, pI_ok (km_0 HM), bS, ih, setI_row, rowI_I, rowI_rowI]
      congr 3
      funext k
      unfold upd
      split
      · congr 1
        omega
      · rfl
theorem run_m (HM : LayR z h.2.2 (b + 72)) (h73 : h.I (b + 73) = A) (h3 : A 3 = nI P) (h6 : P ≤ 6) (hn : 400000 ≤ n) (hf : FeX A P f) {s cc : Nat} (hs : s < 2 ^ P) (hc : cc < 64) : f_X12_runOf n z h (b + 72) (nI s) (nI cc) = some (nI (rE f P cc P s), h.rowI (b + 72) (upd (h.I (b + 72)) 32 (nI (rN f P cc P s)))) := by
  unfold f_X12_runOf
  have := runM_7 (n := n) (z := z) (b := b) h3 h6 hn hf hc P 0 n s (h.setI (b + 72) 32 0) HM ((rowI_ne _ _ (by omega)).trans h73) (sv_I _ _ _ _) (by omega) (by omega) hs (by omega)
  rw [if_pos (km_0 HM), pI_ok (km_0 HM), bS, this, setI_row, rowI_I, rowI_rowI, Nat.zero_add]
  congr 3
  funext k
  unfold upd
  split <;> rfl
theorem isRest_4 (HM : LayR z h.2.2 (b + 72)) (h73 : h.I (b + 73) = A) (h3 : A 3 = nI P) (h6 : P ≤ 6) (hn : 400000 ≤ n) (hf : FeX A P f) {s : Nat} (hs : s < 64) : ∀ (d j i : Nat) (t : Bool), j + d = P → d < i → f_X12_isRest_4 n z h i (b + 72) (nI s) (if t = true then 1 else 0) (nI j) = some (if (t && rsT f s d j) = true then 1 else 0) := by
  have hb : pcn s < 100 := by unfold pcn; omega
  intro d
  induction d with
  | zero =>
    intro j i t hj hi
    obtain ⟨i, rfl⟩ : ∃ k, i = k + 1 := ⟨i - 1, by omega⟩
    obtain rfl : j = P := by omega
    rw [f_X12_isRest_4.eq_2, gR_ok (km_0 HM) (rm_1 HM), bS, show (3 : Int32) = nI 3 from rfl, lm_1 HM (by omega), bS, h73, h3, if_pos ((nI_leI (by omega) (by omega)).mpr (Nat.le_refl _))]
    unfold rsT
    cases t <;> rfl
  | succ d ih =>
    intro j i t hj hi
    obtain ⟨i, rfl⟩ : ∃ k, i = k + 1 := ⟨i - 1, by omega⟩
    obtain ⟨f1, f2⟩ := hf j (by omega)
    have ih1 := fun t => ih (j + 1) i t (by omega) (by omega)
    rw [f_X12_isRest_4.eq_2, gR_ok (km_0 HM) (rm_1 HM), bS, show (3 : Int32) = nI 3 from rfl, lm_1 HM (by omega), bS, h73, h3, if_neg (fun q => by have := (nI_leI (by omega) (by omega)).mp q; omega), isIn_ok s hs j (by omega), bS]
    have l11 : ldI z h (b + 73) (11 + nI j) = some (nI (f j)) := by
      rw [show (11 : Int32) = nI 11 from rfl, nI_add, lm_1 HM (by omega), h73, f1]
    unfold f_X12_isRest_71 rsT
    have a0 : ((if t = true then (1 : Int32) else 0) &&& 0) = (if false = true then 1 else 0) := by cases t <;> rfl
    have a1 : ((if t = true then (1 : Int32) else 0) &&& 1) = (if t = true then 1 else 0) := by cases t <;> rfl
    by_cases hc : s / 2 ^ j % 2 = 1
    · have := nim1 s hs j (by omega) hc
      rw [if_pos hc, if_neg (by decide), if_pos hc, bc_m hn hs, bS, bS, l11, bS]
      by_cases hl : pcn s - 1 < f j
      · have e : Nat.ble (f j + 1) (pcn s) = false := by
          cases e : Nat.ble (f j + 1) (pcn s) with
          | false => rfl
          | true => have := Nat.ble_eq.mp e; omega
        rw [if_pos (show nI (pcn s) - 1 < nI (f j) by rw [show (1 : Int32) = nI 1 from rfl, nI_sub (by omega), nI_lt2 (by omega) (by omega)]; exact hl), bS, bS, show nI j + 1 = nI (j + 1) from nI_add j 1, a0, ih1, e]
        cases t <;> rfl
      · have e : Nat.ble (f j + 1) (pcn s) = true := Nat.ble_eq.mpr (by omega)
        rw [if_neg (show ¬ nI (pcn s) - 1 < nI (f j) by rw [show (1 : Int32) = nI 1 from rfl, nI_sub (by omega), nI_lt2 (by omega) (by omega)]; exact hl), bS, bS, show nI j + 1 = nI (j + 1) from nI_add j 1, a1, ih1, e]
        cases t <;> rfl
    · rw [if_neg hc, if_pos rfl, if_neg hc, bc_m hn hs, bS, bS, l11, bS]
      by_cases hl : f j ≤ pcn s
      · have e : Nat.ble (f j) (pcn s) = true := Nat.ble_eq.mpr hl
        rw [if_pos ((nI_leI (by omega) (by omega)).mpr hl), bS, bS, show nI j + 1 = nI (j + 1) from nI_add j 1, a0, ih1, e]
        cases t <;> rfl
      · have e : Nat.ble (f j) (pcn s) = false := by
          cases e : Nat.ble (f j) (pcn s) with
          | false => rfl
          | true => have := Nat.ble_eq.mp e; omega
        rw [if_neg (fun q => hl ((nI_leI (by omega) (by omega)).mp q)), bS, bS, show nI j + 1 = nI (j + 1) from nI_add j 1, a1, ih1, e]
        cases t <;> rfl
theorem isRest_ok (HM : LayR z h.2.2 (b + 72)) (h73 : h.I (b + 73) = A) (h3 : A 3 = nI P) (h6 : P ≤ 6) (hn : 400000 ≤ n) (hf : FeX A P f) {s : Nat} (hs : s < 64) : f_X12_isRest n z h (b + 72) (nI s) = some (if rsT f s P 0 = true then 1 else 0) := by
  unfold f_X12_isRest
  have := isRest_4 (n := n) HM h73 h3 h6 hn hf hs P 0 n true (by omega) (by omega)
  rw [if_pos (km_0 HM)]
  exact this
end
