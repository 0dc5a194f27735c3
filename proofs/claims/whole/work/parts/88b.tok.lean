/-! ===== town, 1: texts, bytes, tokens ===== -/
def txL (s : Nat) : List Nat := match s with
  | 10 => [59, 58, 43, 45, 42, 40, 41, 91, 93, 61, 60, 62]
  | 11 => [116, 111, 119, 110]
  | 12 => [121, 101, 97, 114, 115]
  | 13 => [116, 114, 97, 100, 101, 115]
  | 14 => [59]
  | 15 => [112, 101, 114, 115, 111, 110]
  | 16 => [116, 97, 108, 101, 110, 116]
  | 17 => [102, 101, 97, 114]
  | 18 => [99, 97, 115, 104]
  | 19 => [100, 105, 101, 115]
  | 20 => [119, 111, 114, 116, 104]
  | 21 => [103, 114, 111, 119, 115]
  | 22 => [58]
  | 23 => [40]
  | 24 => [41]
  | 25 => [105, 102]
  | 26 => [110, 111, 116]
  | 27 => [91]
  | 28 => [93]
  | 29 => [61]
  | 30 => [60]
  | 31 => [62]
  | 32 => [97, 110, 100]
  | 33 => [111, 114]
  | 34 => [116, 104, 101, 110]
  | 35 => [101, 108, 115, 101]
  | 36 => [101, 110, 100]
  | 37 => [121, 101, 97, 114]
  | 38 => [116, 114, 97, 100, 101]
  | 39 => [108, 97, 115, 116]
  | 40 => [115, 116, 114, 101, 97, 107]
  | 41 => [108, 105, 102, 101]
  | 42 => [111, 108, 100]
  | 43 => [42]
  | 44 => [43]
  | 45 => [45]
  | 46 => [32, 116, 111, 119, 110, 32, 121, 101, 97, 114, 115, 32, 116, 114, 97, 100, 101, 115, 32, 112, 101, 114, 115, 111, 110, 32, 116, 97, 108, 101, 110, 116, 32, 102, 101, 97, 114, 32, 99, 97, 115, 104, 32, 100, 105, 101, 115, 32, 119, 111, 114, 116, 104, 32, 103, 114, 111, 119, 115, 32, 105, 102, 32, 116, 104, 101, 110, 32, 101, 108, 115, 101, 32, 101, 110, 100, 32, 121, 101, 97, 114, 32, 116, 114, 97, 100, 101, 32, 108, 97, 115, 116, 32, 115, 116, 114, 101, 97, 107, 32, 108, 105, 102, 101, 32, 111, 108, 100, 32, 97, 110, 100, 32, 111, 114, 32, 110, 111, 116, 32]
  | 47 => [59, 58, 43, 45, 42, 40, 41, 91, 93, 61, 60, 62]
  | _ => []
def stK (s : Nat) : Nat := match s with
  | 11 => 0
  | 12 => 1
  | 13 => 2
  | 14 => 30
  | 15 => 3
  | 16 => 4
  | 17 => 5
  | 18 => 6
  | 19 => 7
  | 20 => 8
  | 21 => 9
  | 22 => 31
  | 23 => 35
  | 24 => 36
  | 25 => 10
  | 26 => 22
  | 27 => 37
  | 28 => 38
  | 29 => 39
  | 30 => 40
  | 31 => 41
  | 32 => 20
  | 33 => 21
  | 34 => 11
  | 35 => 12
  | 36 => 13
  | 37 => 14
  | 38 => 15
  | 39 => 16
  | 40 => 17
  | 41 => 18
  | 42 => 19
  | 43 => 34
  | 44 => 32
  | 45 => 33
  | _ => 0
def keyL : List (List Nat) := [txL 11, txL 12, txL 13, txL 15, txL 16, txL 17, txL 18, txL 19, txL 20, txL 21, txL 25, txL 34, txL 35, txL 36, txL 37, txL 38, txL 39, txL 40, txL 41, txL 42, txL 32, txL 33, txL 26]
def kyP (i : Nat) : Nat := ([1, 6, 12, 19, 26, 33, 38, 43, 48, 54, 60, 63, 68, 73, 77, 82, 88, 93, 100, 105, 109, 113, 116, 120] : List Nat).getD i 0
theorem txL_ok : ∀ q ∈ strTab, sby q.2.2.1 = (txL q.2.2.2).map nI := by decide +kernel
theorem txL_lt : ∀ s, s < 48 → ∀ c ∈ txL s, c < 128 := by decide +kernel
theorem txL_st : ∀ s, s < 48 → 10 ≤ s → ∃ q ∈ strTab, q.2.2.2 = s := by decide +kernel
def StrH (b : Nat) (sv : Nat → Nat) (z : Sh) (h : Hp) : Prop := ∀ s, 10 ≤ s → s < 48 → z.st s < b ∧ sv s < b ∧ h.R (z.st s) 0 = some (sv s) ∧ z.K (sv s) = 33 ∧ z.N (sv s) = (txL s).length ∧ ∀ j, j < (txL s).length → h.I (sv s) j = nI ((txL s).getD j 0)
theorem isS_st {z : Sh} {s : Nat} (h1 : 10 ≤ s) (h2 : s < 48) : z.isS (z.st s) = true := by
  refine List.any_eq_true.mpr ⟨s - 10, List.mem_range.mpr (by omega), ?_⟩
  rw [show 10 + (s - 10) = s by omega]
  exact beq_self_eq_true _
theorem txL_len : ∀ s, s < 48 → (txL s).length < 128 := by decide +kernel
theorem len_s {b : Nat} {sv : Nat → Nat} {z : Sh} {h : Hp} (S : StrH b sv z h) {s : Nat} (h1 : 10 ≤ s) (h2 : s < 48) : f_J0_length_8abf5 z h (z.st s) = some (nI (txL s).length) := by
  obtain ⟨a1, a2, a3, a4, a5, a6⟩ := S s h1 h2
  have e := isS_st (z := z) h1 h2
  have c1 : ¬ ((1 : Int32) = 0) := by decide
  have c2 : ((0 : Int32) &&& 31) = 0 := by decide
  simp only [f_J0_length_8abf5, f_J0_coder_7d493, gSV, gSC, e, if_true, a3, bS, aL_ok a4 rfl a5, c1, if_false, bz_ok (x := 0) (Or.inl rfl), c2, Int32.shiftRight_zero]
theorem chb : ∀ c, c < 128 → (bc ((Int32.toUInt32 (nI c &&& 255) % 65536).toInt32)).bind (fun x => bc x) = some (nI c) := by decide +kernel
theorem getD_mem {L : List Nat} {j : Nat} (hj : j < L.length) : L.getD j 0 ∈ L := by
  rw [List.getD_eq_getElem?_getD, List.getElem?_eq_getElem hj]
  exact List.getElem_mem hj
theorem chr_s {b : Nat} {sv : Nat → Nat} {z : Sh} {h : Hp} (S : StrH b sv z h) {s j : Nat} (h1 : 10 ≤ s) (h2 : s < 48) (hj : j < (txL s).length) : f_J0_charAt_5068e z h (z.st s) (nI j) = some (nI ((txL s).getD j 0)) := by
  obtain ⟨a1, a2, a3, a4, a5, a6⟩ := S s h1 h2
  have e := isS_st (z := z) h1 h2
  have hl := txL_len s h2
  have c1 : ¬ ((1 : Int32) = 0) := by decide
  have c3 : ¬ (nI j < 0) := nI_pos (by omega)
  have c4 : nI j < nI (txL s).length := (nI_lt2 (by omega) (by omega)).mpr hj
  have hc := chb _ (txL_lt s h2 _ (getD_mem hj))
  simp only [f_J0_charAt_5068e, f_J0_isLatin1_aae02, gSV, gSC, e, if_true, a3, bS, c1, if_false, f_J1_charAt_3b067, f_J0_checkIndex_df160, f_J3_checkIndex_8e157, aL_ok a4 rfl a5, c3, c4, ldB_ok (Or.inr a4) a5 rfl hj (by omega), a6 j hj]
  exact hc
/-! the signs -/
theorem sgb : ∀ v, v < 256 → (Int32.toUInt32 (nI v) % 65536).toInt32 = nI v ∧ ¬ (nI v < 0) ∧ ¬ ((255 : Int32) < nI v) ∧ ∀ c ∈ txL 10, (nI c = (Int32.toInt8 (nI v)).toInt32 ↔ c = v) := by decide +kernel
theorem ixl {n : Nat} {b : Nat} {sv : Nat → Nat} {z : Sh} {h : Hp} (S : StrH b sv z h) {v : Nat} (hv : v < 256) : ∀ d k i, k + d = 12 → d < i → ∃ x, f_J1_indexOfChar_4cfef_7 n z h i (sv 10) (nI 12) ((Int32.toInt8 (nI v)).toInt32) (nI k) = some x ∧ (x < 0 ↔ ∀ j, k ≤ j → j < 12 → (txL 10).getD j 0 ≠ v) := by
  obtain ⟨a1, a2, a3, a4, a5, a6⟩ := S 10 (by decide) (by decide)
  have hl : (txL 10).length = 12 := rfl
  intro d
  induction d with
  | zero =>
    intro k i hk hi
    obtain ⟨i, rfl⟩ : ∃ q, i = q + 1 := ⟨i - 1, by omega⟩
    obtain rfl : k = 12 := by omega
    refine ⟨-1, ?_, ?_⟩
    · rw [f_J1_indexOfChar_4cfef_7.eq_2, if_pos (by decide)]
    · exact ⟨fun _ j h1 h2 => by omega, fun _ => by decide⟩
  | succ d ih =>
    intro k i hk hi
    obtain ⟨i, rfl⟩ : ∃ q, i = q + 1 := ⟨i - 1, by omega⟩
    obtain ⟨x, e1, e2⟩ := ih (k + 1) i (by omega) (by omega)
    have c1 : ¬ (nI 12 ≤ nI k) := fun q => by
      rw [nI_leI (by omega) (by omega)] at q
      omega
    have hb := (sgb v hv).2.2.2 _ (getD_mem (L := txL 10) (j := k) (by omega))
    rw [f_J1_indexOfChar_4cfef_7.eq_2, if_neg c1, ldB_ok (Or.inr a4) a5 rfl (by omega) (by decide), bS, a6 k (by omega)]
    by_cases cq : (txL 10).getD k 0 = v
    · refine ⟨nI k, ?_, ?_⟩
      · rw [if_pos (hb.mpr cq)]
      · exact ⟨fun q => absurd q (nI_pos (by omega)), fun q => absurd cq (q k (by omega) (by omega))⟩
    · refine ⟨x, ?_, e2.trans ⟨fun q j h1 h2 => ?_, fun q j h1 h2 => q j (by omega) h2⟩⟩
      · rw [if_neg (fun q => cq (hb.mp q)), bS, nI_1]
        exact e1
      · rcases (by omega : j = k ∨ k + 1 ≤ j) with rfl | h3
        · exact cq
        · exact q j h3 h2
theorem idx_s {n : Nat} {b : Nat} {sv : Nat → Nat} {z : Sh} {h : Hp} (S : StrH b sv z h) {v : Nat} (hv : v < 256) (hn : 12 < n) : ∃ x, f_J0_indexOf_0f7a4 n z h (z.st 10) ((Int32.toUInt32 (nI v) % 65536).toInt32) = some x ∧ (x < 0 ↔ ∀ j, j < 12 → (txL 10).getD j 0 ≠ v) := by
  obtain ⟨a1, a2, a3, a4, a5, a6⟩ := S 10 (by decide) (by decide)
  obtain ⟨b1, b2, b3, b4⟩ := sgb v hv
  obtain ⟨x, e1, e2⟩ := ixl (n := n) S hv 12 0 n rfl hn
  refine ⟨x, ?_, e2.trans ⟨fun q j h2 => q j (by omega) h2, fun q j _ h2 => q j h2⟩⟩
  have e := isS_st (z := z) (s := 10) (by decide) (by decide)
  have c1 : ¬ ((1 : Int32) = 0) := by decide
  have c5 : ¬ ((0 : Int32) < 0) := by decide
  have c6 : ¬ (nI 12 < nI 12) := by decide
  have c7 : (0 : Int32) < nI 12 := by decide
  have hl : (txL 10).length = 12 := rfl
  have e1 : f_J1_indexOfChar_4cfef_7 n z h n (sv 10) (nI 12) ((Int32.toInt8 (nI v)).toInt32) 0 = some x := e1
  rw [b1]
  simp only [f_J0_indexOf_0f7a4, f_J0_indexOf_7cf53, f_J0_isLatin1_aae02, gSV, gSC, e, if_true, a3, bS, c1, if_false, len_s S (s := 10) (by decide) (by decide), f_J1_indexOf_4cfef, f_J1_canEncode_9a6ad, b2, b3, f_J9_max_7cf53, f_J9_min_7cf53, aL_ok a4 rfl a5, c5, c6, hl, c7, f_J1_indexOfChar_4cfef, e1]
/-! tokens -/
def sk (p : Nat → Bool) : Nat → Nat → Nat
  | 0, e => e
  | d + 1, e => if p e = true then sk p d (e + 1) else e
theorem sk_ge (p : Nat → Bool) : ∀ d e, e ≤ sk p d e := by
  intro d
  induction d with
  | zero => exact fun e => Nat.le_refl _
  | succ d ih =>
    intro e
    unfold sk
    split
    · exact Nat.le_trans (Nat.le_succ e) (ih (e + 1))
    · exact Nat.le_refl _
theorem sk_le (p : Nat → Bool) : ∀ d e, sk p d e ≤ e + d := by
  intro d
  induction d with
  | zero => exact fun e => Nat.le_refl _
  | succ d ih =>
    intro e
    unfold sk
    split
    · have := ih (e + 1)
      omega
    · omega
theorem sk_all (p : Nat → Bool) : ∀ d e j, e ≤ j → j < sk p d e → p j = true := by
  intro d
  induction d with
  | zero =>
    intro e j h1 h2
    have h2 : j < e := h2
    omega
  | succ d ih =>
    intro e j h1 h2
    unfold sk at h2
    split at h2
    · rename_i c
      rcases (by omega : j = e ∨ e + 1 ≤ j) with rfl | h3
      · exact c
      · exact ih (e + 1) j h3 h2
    · omega
theorem sk_1 {p : Nat → Bool} {d e : Nat} (h : p e = true) (hd : 0 < d) : sk p d e = sk p (d - 1) (e + 1) := by
  obtain ⟨d, rfl⟩ : ∃ k, d = k + 1 := ⟨d - 1, by omega⟩
  exact if_pos h
theorem sk_0 {p : Nat → Bool} {d e : Nat} (h : p e = false) : sk p d e = e := by
  cases d with
  | zero => rfl
  | succ d => exact if_neg (by rw [h]; decide)
def lBl (v : Nat) : Bool := decide (v = 10 ∨ v = 32)
def lLe (v : Nat) : Bool := decide (97 ≤ v ∧ v ≤ 122)
def lDi (v : Nat) : Bool := decide (48 ≤ v ∧ v ≤ 57)
def slc (tx : Nat → Nat) (a k : Nat) : List Nat := (List.range k).map (fun i => tx (a + i))
def keyO (W : List Nat) : Nat := keyL.findIdx (fun D => D == W)
def sgI (v : Nat) : Nat := (txL 10).findIdx (fun c => c == v)
def sgnO (v : Nat) : Nat := if sgI v < 12 then 30 + sgI v else 26
def nuv (tx : Nat → Nat) (a : Nat) : Nat → Nat
  | 0 => 0
  | k + 1 => 10 * nuv tx a k + (tx (a + k) - 48)
abbrev Tk : Type := Nat × Nat × Nat × Nat
def tkN (tx : Nat → Nat) (N e : Nat) : Tk :=
  let a := sk (fun j => lBl (tx j)) (N - e) e
  if a < N then
    if lLe (tx a) = true then (a, sk (fun j => lLe (tx j)) (N - a) a, keyO (slc tx a (sk (fun j => lLe (tx j)) (N - a) a - a)), 0)
    else if lDi (tx a) = true then (a, sk (fun j => lDi (tx j)) (N - a) a, if sk (fun j => lDi (tx j)) (N - a) a - a ≤ 3 then 24 else 26, nuv tx a (min 3 (sk (fun j => lDi (tx j)) (N - a) a - a)))
    else (a, a + 1, sgnO (tx a), 0)
  else (a, a, 25, 0)
def ckO (k : Nat) : Nat := if k ≤ 23 then 0 else if k = 24 then 1 else if k = 25 then 3 else if k = 26 then 4 else 2
theorem slc_len (tx : Nat → Nat) (a k : Nat) : (slc tx a k).length = k := by simp [slc]
theorem slc_at {tx : Nat → Nat} {a k j : Nat} (h : j < k) : (slc tx a k).getD j 0 = tx (a + j) := by
  simp [slc, List.getD_eq_getElem?_getD, List.getElem?_range h]
theorem list_ext {A B : List Nat} (h1 : A.length = B.length) (h2 : ∀ j, j < A.length → A.getD j 0 = B.getD j 0) : A = B := by
  refine List.ext_getElem h1 (fun j q1 q2 => ?_)
  have := h2 j q1
  rw [List.getD_eq_getElem?_getD, List.getD_eq_getElem?_getD, List.getElem?_eq_getElem q1, List.getElem?_eq_getElem q2] at this
  exact this
theorem slc_eq {tx : Nat → Nat} {a k : Nat} {D : List Nat} : slc tx a k = D ↔ k = D.length ∧ ∀ j, j < D.length → tx (a + j) = D.getD j 0 := by
  constructor
  · rintro rfl
    refine ⟨(slc_len tx a k).symm, fun j hj => ?_⟩
    rw [slc_len] at hj
    exact (slc_at hj).symm
  · rintro ⟨rfl, h⟩
    exact list_ext (slc_len _ _ _) (fun j hj => by
      rw [slc_len] at hj
      rw [slc_at hj]
      exact h j hj)
theorem keyL_i : ∀ i, i < 23 → keyO (keyL.getD i []) = i := by decide +kernel
theorem keyO_le (W : List Nat) : keyO W ≤ 23 := List.findIdx_le_length
theorem keyO_iff {W : List Nat} {i : Nat} (hi : i < 23) : keyO W = i ↔ W = keyL.getD i [] := by
  constructor
  · intro h
    have hl : keyL.length = 23 := rfl
    have h1 : keyL.findIdx (fun D => D == W) < keyL.length := by
      show keyO W < _
      omega
    have h2 := List.findIdx_getElem (p := fun D => D == W) (xs := keyL) (w := h1)
    have h3 : keyL[keyL.findIdx (fun D => D == W)]'h1 = W := by simpa using h2
    have h4 : keyL.getD i [] = W := by
      rw [List.getD_eq_getElem?_getD, ← h]
      show (keyL[keyL.findIdx (fun D => D == W)]?).getD [] = W
      rw [List.getElem?_eq_getElem h1]
      exact h3
    exact h4.symm
  · rintro rfl
    exact keyL_i i hi
theorem sgI_i : ∀ i, i < 12 → sgI ((txL 10).getD i 0) = i := by decide +kernel
theorem sgI_iff {v i : Nat} (hi : i < 12) : sgI v = i ↔ v = (txL 10).getD i 0 := by
  constructor
  · intro h
    have hl : (txL 10).length = 12 := rfl
    have h1 : (txL 10).findIdx (fun c => c == v) < (txL 10).length := by
      show sgI v < _
      omega
    have h2 := List.findIdx_getElem (p := fun c => c == v) (xs := txL 10) (w := h1)
    have h3 : (txL 10)[(txL 10).findIdx (fun c => c == v)]'h1 = v := by simpa using h2
    rw [List.getD_eq_getElem?_getD, ← h]
    show v = ((txL 10)[(txL 10).findIdx (fun c => c == v)]?).getD 0
    rw [List.getElem?_eq_getElem h1]
    exact h3.symm
  · rintro rfl
    exact sgI_i i hi
theorem stK_ok : ∀ s, s < 46 → 11 ≤ s → (stK s < 23 ∧ keyL.getD (stK s) [] = txL s ∧ 0 < (txL s).length ∧ lLe ((txL s).getD 0 0) = true) ∨ (30 ≤ stK s ∧ stK s < 42 ∧ txL s = [(txL 10).getD (stK s - 30) 0] ∧ lLe ((txL s).getD 0 0) = false) := by decide +kernel
theorem ckO_w {k : Nat} (h : k ≤ 23) : ckO k = 0 := if_pos h
theorem is_iff {tx : Nat → Nat} {N e s : Nat} (hs : 11 ≤ s) (hs2 : s < 46) : ((ckO (tkN tx N e).2.2.1 = 0 ∨ ckO (tkN tx N e).2.2.1 = 2) ∧ slc tx (tkN tx N e).1 ((tkN tx N e).2.1 - (tkN tx N e).1) = txL s) ↔ (tkN tx N e).2.2.1 = stK s := by
  have hk := stK_ok s hs2 hs
  unfold tkN
  generalize sk (fun j => lBl (tx j)) (N - e) e = a
  simp only
  split
  · rename_i ha
    split
    · rename_i hle
      simp only
      have hE := sk_1 (d := N - a) (p := fun j => lLe (tx j)) hle (by omega)
      have hE2 := sk_ge (fun j => lLe (tx j)) (N - a - 1) (a + 1)
      generalize hEE : sk (fun j => lLe (tx j)) (N - a) a = E at *
      have k1 := keyO_le (slc tx a (E - a))
      constructor
      · rintro ⟨-, h⟩
        rcases hk with ⟨q1, q2, q3, q4⟩ | ⟨q1, q2, q3, q4⟩
        · rw [h]
          exact (keyO_iff q1).mpr q2.symm
        · have := (slc_eq.mp h).2 0 (by rw [q3]; exact Nat.zero_lt_one)
          rw [← this] at q4
          rw [Nat.add_zero, hle] at q4
          cases q4
      · intro h
        refine ⟨Or.inl (ckO_w k1), ?_⟩
        rcases hk with ⟨q1, q2, q3, q4⟩ | ⟨q1, q2, q3, q4⟩
        · exact ((keyO_iff q1).mp h).trans q2
        · omega
    · rename_i hle
      split
      · simp only
        constructor
        · rintro ⟨h, -⟩
          exfalso
          revert h
          split <;> decide
        · intro h
          exfalso
          revert h
          split <;> omega
      · simp only
        rw [show a + 1 - a = 1 by omega]
        have hle : lLe (tx a) = false := by
          cases h : lLe (tx a) with
          | true => exact absurd h hle
          | false => rfl
        constructor
        · rintro ⟨-, h⟩
          have hh := slc_eq.mp h
          rcases hk with ⟨q1, q2, q3, q4⟩ | ⟨q1, q2, q3, q4⟩
          · have := hh.2 0 (by omega)
            rw [← this, Nat.add_zero, hle] at q4
            cases q4
          · have := hh.2 0 (by rw [q3]; exact Nat.zero_lt_one)
            rw [q3, Nat.add_zero] at this
            have this : tx a = (txL 10).getD (stK s - 30) 0 := this
            have h5 := (sgI_iff (v := tx a) (by omega)).mpr this
            unfold sgnO
            rw [h5, if_pos (by omega)]
            omega
        · intro h
          unfold sgnO at h ⊢
          by_cases c : sgI (tx a) < 12
          · rw [if_pos c] at h ⊢
            rcases hk with ⟨q1, q2, q3, q4⟩ | ⟨q1, q2, q3, q4⟩
            · omega
            · refine ⟨Or.inr ?_, ?_⟩
              · unfold ckO
                rw [if_neg (by omega), if_neg (by omega), if_neg (by omega), if_neg (by omega)]
              · have h5 := (sgI_iff (v := tx a) (i := stK s - 30) (by omega)).mp (by omega)
                refine slc_eq.mpr ⟨by rw [q3]; rfl, fun j hj => ?_⟩
                rw [q3] at hj ⊢
                have : j = 0 := by
                  have : j < 1 := hj
                  omega
                subst this
                exact h5
          · rw [if_neg c] at h
            omega
  · simp only
    constructor
    · rintro ⟨h, -⟩
      exfalso
      revert h
      decide
    · intro h
      rcases hk with q | q <;> omega
