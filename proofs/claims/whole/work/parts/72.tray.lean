/-! ===== trays, sums over people; talent, undo, judge, perform, season ===== -/
theorem Sc.mk' {b : Nat} {h h' : Hp} (hR : h'.2.2 = h.2.2) (hJ : ∀ a, h'.J a = h.J a) (hI : ∀ a, a ≠ b + 7 → a ≠ b + 13 → a ≠ b + 14 → a ≠ b + 41 → a ≠ b + 42 → a ≠ b + 43 → a ≠ b + 59 → a ≠ b + 72 → ¬ (b + 76 ≤ a ∧ a ≤ b + 88) → h'.I a = h.I a) (h72 : ∀ k, k = 5 ∨ k = 13 ∨ k = 14 → h'.I (b + 72) k = h.I (b + 72) k) : Sc b h h' := by
  refine ⟨hR, fun a ha => ⟨hI a (ha 7 rfl) (ha 13 rfl) (ha 14 rfl) (ha 41 rfl) (ha 42 rfl) (ha 43 rfl) (ha 59 rfl) (ha 72 rfl) (fun q => ?_), hJ a⟩, h72 5 (by omega), h72 13 (by omega), h72 14 (by omega)⟩
  have h1 : scrA (a - b) = true := by
    unfold scrA
    have h1 : Nat.ble 76 (a - b) = true := Nat.ble_eq.mpr (by omega)
    have h2 : Nat.ble (a - b) 88 = true := Nat.ble_eq.mpr (by omega)
    rw [h1, h2]
    simp
  exact ha (a - b) h1 (by omega)
theorem Cc.sc {b : Nat} {h h1 h2 : Hp} (C : Cc b h h1) (s : ∀ k, 11 ≤ k → k < 37 → k ≠ 13 → k ≠ 14 → h1.I (b + k) = h.I (b + k)) (R : Re b h1 h2) (h73 : h2.I (b + 73) = h1.I (b + 73)) : Sc b h h2 := by
  refine Sc.mk' (R.1.trans C.1) (fun a => (R.2.1 a).trans (C.2.1 a)) (fun a k1 k2 k3 k4 k5 k6 k7 k8 k9 => ?_) (fun k hk => (R.2.2.2 k hk).trans (by rw [C.i (k := 72) (by omega) (by omega) (by omega) (by omega)]))
  have e1 : h2.I a = h1.I a := by
    by_cases e : a = b + 73
    · rw [e]; exact h73
    · exact R.2.2.1 a k8 e (by omega) (by omega) (by omega)
  rw [e1]
  by_cases e : b + 11 ≤ a ∧ a < b + 37
  · obtain ⟨k, rfl⟩ : ∃ k, a = b + k := ⟨a - b, by omega⟩
    exact s k (by omega) (by omega) (by omega) (by omega)
  · exact C.2.2 a e k4 k5 k6
theorem trayAt_ok {z : Sh} {h : Hp} {b : Nat} (HX : LayX z h.2.2 b) (v : Int32) : f_X11_trayAt z h b v = some (if 0 ≤ v.toInt ∧ v.toInt < 4 then some (b + 64 + 2 * v.toInt.toNat) else none) := by
  unfold f_X11_trayAt
  have hA : aL z (b + 39) = some (nI 4) := aL_ok (kx_39 HX) rfl (nx_39 HX)
  rw [if_pos (kx_0 HX)]
  by_cases c : 0 ≤ v.toInt ∧ v.toInt < 4
  · obtain ⟨j, hj, rfl⟩ := nI_ex (P := 4) c
    have ej : (nI j).toInt = j := nI_to (by omega)
    have hr : h.R (b + 39) j = some (b + 64 + 2 * j) := by
      match j, hj with
      | 0, _ => exact rx_39_0 HX
      | 1, _ => exact rx_39_1 HX
      | 2, _ => exact rx_39_2 HX
      | 3, _ => exact rx_39_3 HX
      | j + 4, hj => omega
    rw [if_neg (nI_pos (by omega)), gR_ok (kx_0 HX) (rx_0_9 HX), bS, hA, bS, if_neg (fun q => by have := (nI_leI (by omega) (by omega)).mp q; omega), bS, ldR_ok (kx_39 HX) (nx_39 HX) rfl hj (by omega) hr, bS, if_pos c, ej]
    rfl
  · rw [if_neg c]
    by_cases c1 : v < 0
    · rw [if_pos c1]
    · rw [if_neg c1, gR_ok (kx_0 HX) (rx_0_9 HX), bS, hA, bS, if_pos]
      rw [le_iff, nI_to (by omega)]
      rw [lt_iff, show (0 : Int32).toInt = 0 from rfl] at c1
      omega
theorem tray_K {z : Sh} {h : Hp} {b : Nat} (HX : LayX z h.2.2 b) {j : Nat} (hj : j < 4) : z.K (b + 64 + 2 * j) = 9 ∧ h.R (b + 64 + 2 * j) 0 = some (b + 65 + 2 * j) ∧ z.K (b + 65 + 2 * j) = 15 ∧ z.N (b + 65 + 2 * j) = 40 := by
  rw [Nat.add_assoc b, Nat.add_assoc b]
  match j, hj with
  | 0, _ => exact ⟨kx_64 HX, rx_64_0 HX, kx_65 HX, nx_65 HX⟩
  | 1, _ => exact ⟨kx_66 HX, rx_66_0 HX, kx_67 HX, nx_67 HX⟩
  | 2, _ => exact ⟨kx_68 HX, rx_68_0 HX, kx_69 HX, nx_69 HX⟩
  | 3, _ => exact ⟨kx_70 HX, rx_70_0 HX, kx_71 HX, nx_71 HX⟩
  | j + 4, hj => omega
theorem noTray_ok {z : Sh} {h : Hp} {b : Nat} (HM : LayR z h.2.2 (b + 72)) (v : Int32) : f_X12_noTray z h (b + 72) v = some (if 0 ≤ v.toInt ∧ v.toInt < 4 then (if h.I (b + 89) v.toInt.toNat = -1 then -99000006 else 0) else -99000002) := by
  unfold f_X12_noTray
  rw [if_pos (km_0 HM), within_ok, bS, to64, show (0 : Int64).toInt = 0 from rfl, show (3 : Int64).toInt = 3 from rfl]
  by_cases c : 0 ≤ v.toInt ∧ v.toInt < 4
  · obtain ⟨j, hj, rfl⟩ := nI_ex (P := 4) c
    have ej : (nI j).toInt = j := nI_to (by omega)
    rw [if_pos (show 0 ≤ (nI j).toInt ∧ (nI j).toInt ≤ 3 by omega), if_neg (by decide), gR_ok (km_0 HM) (rm_33 HM), bS, lm_17 HM hj, bS, if_pos c, ej]
    simp only [Int.toNat_natCast]
    split <;> rfl
  · rw [if_neg (show ¬ (0 ≤ v.toInt ∧ v.toInt ≤ 3) by omega), if_pos rfl, if_neg c]
/-- a tray that is there, on both sides -/
theorem tray_in {z : Sh} {h : Hp} {b : Nat} (HX : LayX z h.2.2 b) (HT : TrayI b h) {j : Nat} (hj : j < 4) : (h.I (b + 64 + 2 * j) 1 = nI 0 ∧ h.I (b + 89) j = -1) ∨ (h.I (b + 64 + 2 * j) 1 = nI 1 ∧ ∃ so sz, so ≤ 3 ∧ sz ≤ 40 ∧ h.I (b + 89) j = nI so ∧ h.I (b + 90) j = nI sz ∧ h.I (b + 64 + 2 * j) 2 = nI so ∧ TC z h (b + 64 + 2 * j) (b + 65 + 2 * j) sz (fun i => h.J (b + 91) (40 * j + i))) := by
  obtain ⟨k1, k2, k3, k4⟩ := tray_K HX hj
  rcases HT j hj with ⟨h1, h2⟩ | ⟨h1, so, sz, h2, h3, h4, h5, h6, h7, h8⟩
  · exact Or.inl ⟨h1, h2⟩
  · exact Or.inr ⟨h1, so, sz, h2, h3, h4, h6, h5, k1, k2, k3, k4, h7, h3, h8⟩
theorem nI_m1' {x : Nat} (h : x ≤ 3) : ¬ nI x = -1 := by
  rw [← Int32.toInt_inj, nI_to (by omega), show (-1 : Int32).toInt = -1 from rfl]
  omega
/-! sums over people -/
def wF (A : Nat → Int32) : Nat → Nat → Int32 → Int32
  | 0, _, s => s
  | d + 1, j, s => wF A d (j + 1) (s + A (30 + j))
def dF (A : Nat → Int32) : Nat → Nat → Int32 → Int32
  | 0, _, s => s
  | d + 1, j, s => dF A d (j + 1) (s ||| (if A (24 + j) = 2 then (1 : Int32) <<< (nI j &&& 31) else 0))
def pF (A : Nat → Int32) : Nat → Nat → Int32 → Int32
  | 0, _, s => s
  | d + 1, j, s => pF A d (j + 1) (s ||| (if A (60 + j) ≤ 0 then 0 else (1 : Int32) <<< (nI j &&& 31)))
theorem wealth_4 {n : Nat} {z : Sh} {h : Hp} {q r P : Nat} {A : Nat → Int32} (HP : PL z h.2.2 q r) (X : PeopleX (h.I q) (h.I r) A P) (h6 : P ≤ 6) : ∀ (d j i : Nat) (s : Int32), j + d = P → d < i → f_X5_wealth_4 n z h i q s (nI j) = some (wF A d j s) := by
  intro d
  induction d with
  | zero =>
    intro j i s hj hi
    obtain ⟨i, rfl⟩ : ∃ k, i = k + 1 := ⟨i - 1, by omega⟩
    obtain rfl : j = P := by omega
    rw [f_X5_wealth_4.eq_2, gI_ok HP.1, bS, X.1, if_pos ((nI_leI (by omega) (by omega)).mpr (Nat.le_refl _))]
    rfl
  | succ d ih =>
    intro j i s hj hi
    obtain ⟨i, rfl⟩ : ∃ k, i = k + 1 := ⟨i - 1, by omega⟩
    rw [f_X5_wealth_4.eq_2, gI_ok HP.1, bS, X.1, if_neg (fun q => by have := (nI_leI (by omega) (by omega)).mp q; omega), show (2 : Int32) = nI 2 from rfl, part_ok HP (by omega) (by omega), bS, bS, bS, show (1 : Int32) = nI 1 from rfl, nI_add, (PX_P X (show j < P by omega)).2.2.1, ih (j + 1) i _ (by omega) (by omega)]
    rfl
theorem drawn_4 {n : Nat} {z : Sh} {h : Hp} {q r P : Nat} {A : Nat → Int32} (HP : PL z h.2.2 q r) (X : PeopleX (h.I q) (h.I r) A P) (h6 : P ≤ 6) : ∀ (d j i : Nat) (s : Int32), j + d = P → d < i → f_X5_drawn_4 n z h i q s (nI j) = some (dF A d j s) := by
  intro d
  induction d with
  | zero =>
    intro j i s hj hi
    obtain ⟨i, rfl⟩ : ∃ k, i = k + 1 := ⟨i - 1, by omega⟩
    obtain rfl : j = P := by omega
    rw [f_X5_drawn_4.eq_2, gI_ok HP.1, bS, X.1, if_pos ((nI_leI (by omega) (by omega)).mpr (Nat.le_refl _))]
    rfl
  | succ d ih =>
    intro j i s hj hi
    obtain ⟨i, rfl⟩ : ∃ k, i = k + 1 := ⟨i - 1, by omega⟩
    have ih1 := fun s => ih (j + 1) i s (by omega) (by omega)
    rw [f_X5_drawn_4.eq_2, gI_ok HP.1, bS, X.1, if_neg (fun q => by have := (nI_leI (by omega) (by omega)).mp q; omega), show f_X5_part z h q (nI j) 1 = some (A (24 + j)) from by rw [show (1 : Int32) = nI 1 from rfl, part_ok HP (by omega) (by omega), (PX_P X (show j < P by omega)).2.1], bS]
    unfold f_X5_drawn_30 dF
    rw [show nI j + 1 = nI (j + 1) from nI_add j 1]
    by_cases hc : A (24 + j) = 2
    · rw [if_pos hc, if_pos hc, bS, bS, ih1]
    · rw [if_neg hc, if_neg hc, bS, bS, ih1]
theorem pledged_4 {n : Nat} {z : Sh} {h : Hp} {q r P : Nat} {A : Nat → Int32} (HP : PL z h.2.2 q r) (X : PeopleX (h.I q) (h.I r) A P) (h6 : P ≤ 6) : ∀ (d j i : Nat) (s : Int32), j + d = P → d < i → f_X5_pledged_4 n z h i q s (nI j) = some (pF A d j s) := by
  intro d
  induction d with
  | zero =>
    intro j i s hj hi
    obtain ⟨i, rfl⟩ : ∃ k, i = k + 1 := ⟨i - 1, by omega⟩
    obtain rfl : j = P := by omega
    rw [f_X5_pledged_4.eq_2, gI_ok HP.1, bS, X.1, if_pos ((nI_leI (by omega) (by omega)).mpr (Nat.le_refl _))]
    rfl
  | succ d ih =>
    intro j i s hj hi
    obtain ⟨i, rfl⟩ : ∃ k, i = k + 1 := ⟨i - 1, by omega⟩
    have ih1 := fun s => ih (j + 1) i s (by omega) (by omega)
    rw [f_X5_pledged_4.eq_2, gI_ok HP.1, bS, X.1, if_neg (fun q => by have := (nI_leI (by omega) (by omega)).mp q; omega), show f_X5_part z h q (nI j) 8 = some (A (60 + j)) from by rw [show (8 : Int32) = nI 8 from rfl, part_ok HP (by omega) (by omega), (PX_P X (show j < P by omega)).2.2.2.2.2.2.2.2], bS]
    unfold f_X5_pledged_30 pF
    rw [show nI j + 1 = nI (j + 1) from nI_add j 1]
    by_cases hc : A (60 + j) ≤ 0
    · rw [if_pos hc, if_pos hc, bS, bS, ih1]
    · rw [if_neg hc, if_neg hc, bS, bS, ih1]
section
variable {n : Nat} {z : Sh} {h : Hp} {b P : Nat} {A : Nat → Int32}
theorem hasAll_4 (HM : LayR z h.2.2 (b + 72)) (h73 : h.I (b + 73) = A) (h3 : A 3 = nI P) (h6 : P ≤ 6) : ∀ (d j i : Nat) (s : Int32), j + d = P → d < i → f_X12_hasAll_4 n z h i (b + 72) s (nI j) = some (wF A d j s) := by
  intro d
  induction d with
  | zero =>
    intro j i s hj hi
    obtain ⟨i, rfl⟩ : ∃ k, i = k + 1 := ⟨i - 1, by omega⟩
    obtain rfl : j = P := by omega
    rw [f_X12_hasAll_4.eq_2, gR_ok (km_0 HM) (rm_1 HM), bS, show (3 : Int32) = nI 3 from rfl, lm_1 HM (by omega), bS, h73, h3, if_pos ((nI_leI (by omega) (by omega)).mpr (Nat.le_refl _))]
    rfl
  | succ d ih =>
    intro j i s hj hi
    obtain ⟨i, rfl⟩ : ∃ k, i = k + 1 := ⟨i - 1, by omega⟩
    rw [f_X12_hasAll_4.eq_2, gR_ok (km_0 HM) (rm_1 HM), bS, show (3 : Int32) = nI 3 from rfl, lm_1 HM (by omega), bS, h73, h3, if_neg (fun q => by have := (nI_leI (by omega) (by omega)).mp q; omega), bS, show (30 : Int32) = nI 30 from rfl, nI_add, lm_1 HM (by omega), bS, bS, bS, h73, show (1 : Int32) = nI 1 from rfl, nI_add, ih (j + 1) i _ (by omega) (by omega)]
    rfl
theorem inSecond_4 (HM : LayR z h.2.2 (b + 72)) (h73 : h.I (b + 73) = A) (h3 : A 3 = nI P) (h6 : P ≤ 6) : ∀ (d j i : Nat) (s : Int32), j + d = P → d < i → f_X12_inSecond_4 n z h i (b + 72) s (nI j) = some (dF A d j s) := by
  intro d
  induction d with
  | zero =>
    intro j i s hj hi
    obtain ⟨i, rfl⟩ : ∃ k, i = k + 1 := ⟨i - 1, by omega⟩
    obtain rfl : j = P := by omega
    rw [f_X12_inSecond_4.eq_2, gR_ok (km_0 HM) (rm_1 HM), bS, show (3 : Int32) = nI 3 from rfl, lm_1 HM (by omega), bS, h73, h3, if_pos ((nI_leI (by omega) (by omega)).mpr (Nat.le_refl _))]
    rfl
  | succ d ih =>
    intro j i s hj hi
    obtain ⟨i, rfl⟩ : ∃ k, i = k + 1 := ⟨i - 1, by omega⟩
    have ih1 := fun s => ih (j + 1) i s (by omega) (by omega)
    rw [f_X12_inSecond_4.eq_2, gR_ok (km_0 HM) (rm_1 HM), bS, show (3 : Int32) = nI 3 from rfl, lm_1 HM (by omega), bS, h73, h3, if_neg (fun q => by have := (nI_leI (by omega) (by omega)).mp q; omega), bS, show (24 : Int32) = nI 24 from rfl, nI_add, lm_1 HM (by omega), bS, h73]
    unfold f_X12_inSecond_35 dF
    rw [show nI j + 1 = nI (j + 1) from nI_add j 1]
    by_cases hc : A (24 + j) = 2
    · rw [if_pos hc, if_pos hc, bS, bS, ih1]
    · rw [if_neg hc, if_neg hc, bS, bS, ih1]
theorem pledgedSet_4 (HM : LayR z h.2.2 (b + 72)) (h73 : h.I (b + 73) = A) (h3 : A 3 = nI P) (h6 : P ≤ 6) : ∀ (d j i : Nat) (s : Int32), j + d = P → d < i → f_X12_pledgedSet_4 n z h i (b + 72) s (nI j) = some (pF A d j s) := by
  intro d
  induction d with
  | zero =>
    intro j i s hj hi
    obtain ⟨i, rfl⟩ : ∃ k, i = k + 1 := ⟨i - 1, by omega⟩
    obtain rfl : j = P := by omega
    rw [f_X12_pledgedSet_4.eq_2, gR_ok (km_0 HM) (rm_1 HM), bS, show (3 : Int32) = nI 3 from rfl, lm_1 HM (by omega), bS, h73, h3, if_pos ((nI_leI (by omega) (by omega)).mpr (Nat.le_refl _))]
    rfl
  | succ d ih =>
    intro j i s hj hi
    obtain ⟨i, rfl⟩ : ∃ k, i = k + 1 := ⟨i - 1, by omega⟩
    have ih1 := fun s => ih (j + 1) i s (by omega) (by omega)
    rw [f_X12_pledgedSet_4.eq_2, gR_ok (km_0 HM) (rm_1 HM), bS, show (3 : Int32) = nI 3 from rfl, lm_1 HM (by omega), bS, h73, h3, if_neg (fun q => by have := (nI_leI (by omega) (by omega)).mp q; omega), bS, show (60 : Int32) = nI 60 from rfl, nI_add, lm_1 HM (by omega), bS, h73]
    unfold f_X12_pledgedSet_34 pF
    rw [show nI j + 1 = nI (j + 1) from nI_add j 1]
    by_cases hc : A (60 + j) ≤ 0
    · rw [if_pos hc, if_pos hc, bS, bS, ih1]
    · rw [if_neg hc, if_neg hc, bS, bS, ih1]
end
theorem aRun_per {τ : TT} (hτ : TownOK τ) {P : Nat} (h6 : P ≤ 6) {vs : Nat → Int64} : ∀ (d j : Nat) (A : Nat → Int32), (∀ p, p < P → PerOK τ A p) → ∀ p, p < P → PerOK τ (aRun τ P vs d j A).2.2 p := by
  intro d
  induction d with
  | zero => intro j A H; exact H
  | succ d ih =>
    intro j A H
    unfold aRun
    split
    · exact ih _ _ (aTold_per hτ h6 H _)
    · exact H
theorem aRun_k {τ : TT} {P : Nat} (h6 : P ≤ 6) {vs : Nat → Int64} {k : Nat} (hk : k < 17 ∨ 66 ≤ k) : ∀ (d j : Nat) (A : Nat → Int32), (aRun τ P vs d j A).2.2 k = A k := by
  intro d
  induction d with
  | zero => intro j A; rfl
  | succ d ih =>
    intro j A
    unfold aRun
    split
    · rw [ih, aTold_k h6 hk]
    · rfl
theorem aRun_le {τ : TT} {P : Nat} {vs : Nat → Int64} : ∀ (d j : Nat) (A : Nat → Int32), j ≤ (aRun τ P vs d j A).1 ∧ (aRun τ P vs d j A).1 ≤ j + d ∧ ((aRun τ P vs d j A).2.1 = 0 ↔ (aRun τ P vs d j A).1 = j + d) ∧ (aRun τ P vs d j A).2.1 < 10 ∧ ((aRun τ P vs d j A).1 = j → (aRun τ P vs d j A).2.2 = A) := by
  intro d
  induction d with
  | zero =>
    intro j A
    unfold aRun
    exact ⟨Nat.le_refl _, Nat.le_refl _, ⟨fun _ => rfl, fun _ => rfl⟩, (show 0 < 10 by decide), fun _ => rfl⟩
  | succ d ih =>
    intro j A
    unfold aRun
    split
    · obtain ⟨h1, h2, h3, h4, h5⟩ := ih (j + 1) (aTold τ P A (vs j).toInt).2
      refine ⟨by omega, by omega, ?_, h4, fun q => by omega⟩
      rw [h3]
      omega
    · rename_i hz
      have hb : (aTold τ P A (vs j).toInt).1 < 10 := aTold_lt
      dsimp only
      exact ⟨Nat.le_refl _, by omega, by omega, hb, fun _ => rfl⟩
section
variable {n : Nat} {z0 : Sh} {h0 : Hp} {b c : Nat} {z : Sh} {h : Hp}
/-- the class refuses at once, and the reference too -/
theorem ref_sc (I : Inv z0 h0 b c z h) (v : Int32) : Inv z0 h0 b c z (h.setI (b + 72) 0 v) := I.sc (Sc.set b h 0 v (by omega) (by omega) (by omega))
theorem perform_ok (I : Inv z0 h0 b c z h) (hn : 400000 ≤ n) (v : Int32) : ∃ r h1 h2, f_X11_perform n z h b v = some (r, h1) ∧ f_X12_perform n z h1 (b + 72) v = some (r, h2) ∧ Inv z0 h0 b c z h2 := by
  obtain ⟨t, τ, P, nx, sz, D⟩ := I.now
  obtain ⟨HX, ⟨HM, hτ, -, hA, h3, h6, hp6⟩, hR3, hT, -, HA, ⟨p1, p2, p3, p4, p5⟩, -⟩ := id D
  have HTr : TrayI b h := I.2.2.2.2.2.1
  have km := km_0 HM
  have HM1 : LayR z (h.setI (b + 72) 0 0).2.2 (b + 72) := HM
  have e89 : (h.setI (b + 72) 0 0).I (b + 89) = h.I (b + 89) := rowI_ne h _ (by omega)
  unfold f_X11_perform
  rw [if_pos (kx_0 HX), trayAt_ok HX, bS]
  by_cases c1 : 0 ≤ v.toInt ∧ v.toInt < 4
  · rw [if_pos c1]
    obtain ⟨i, hi, rfl⟩ := nI_ex (P := 4) c1
    have ei : (nI i).toInt = i := nI_to (by omega)
    rw [ei, Int.toNat_natCast]
    dsimp only
    rw [gI_ok (tray_K HX hi).1, bS]
    rcases tray_in HX HTr hi with ⟨t1, t2⟩ | ⟨t1, so, m, t2, t3, t4, t5, t6, t7⟩
    · rw [t1, if_pos (show nI 0 = (0 : Int32) from rfl), f_X11_refused, bS]
      refine two_go (y := fun g => f_X12_perform n z g (b + 72) (nI i)) rfl ⟨h.setI (b + 72) 0 0, ?_, ref_sc I 0⟩
      try dsimp only
      unfold f_X12_perform
      rw [if_pos km, pI_ok km, bS, noTray_ok HM1, bS, if_pos c1, ei, Int.toNat_natCast, e89, t2, if_pos rfl, if_neg (by decide)]
      rfl
    · obtain ⟨g1, e1, C1, s1, T⟩ := tcopy D
      have HX1 : LayX z g1.2.2 b := by rw [C1.1]; exact HX
      have q1 : f_X2_doAll n z g1 (b + 43) t (b + 11) (b + 64 + 2 * i) = f_X2_doAll_8 n z n (g1.setI (b + 43) 1 0) (b + 43) t (b + 11) (b + 64 + 2 * i) (nI 0) := by
        unfold f_X2_doAll
        rw [if_pos (kx_43 HX), pI_ok (kx_43 HX), bS]
        rfl
      have CS : Ce b (b + 11) (b + 12) g1 (g1.setI (b + 43) 1 0) := Ce.set g1 1 0
      have TC1 : TC z (g1.setI (b + 43) 1 0) (b + 64 + 2 * i) (b + 65 + 2 * i) m (fun j => h.J (b + 91) (40 * i + j)) := t7.fr (by rw [CS.R, C1.R]) ((CS.2.2 _ (by omega) (by omega) (by omega) (by omega) (by omega)).trans (C1.2.2 _ (by omega) (by omega) (by omega) (by omega))) ((CS.2.1 _).trans (C1.2.1 _))
      obtain ⟨g2, e2, C2, X2, W2⟩ := doAll_8 (n := n) (z := z) (b := b) (q := b + 11) (r := b + 12) (t := t) hn (Or.inl ⟨rfl, rfl⟩) hτ h6 (o := b + 64 + 2 * i) (ro := b + 65 + 2 * i) (sz := m) (vs := fun j => h.J (b + 91) (40 * i + j)) (by unfold Tq; omega) m 0 n (g1.setI (b + 43) 1 0) (h.I (b + 73)) (by omega) (by omega) HX1 (now_PL HX1) (hT.fr ((C1.trans (Ce.c (Or.inl ⟨rfl, rfl⟩) CS)).fr)) (by rw [show (g1.setI (b + 43) 1 0).I (b + 11) = g1.I (b + 11) from rowI_ne _ _ (by omega), show (g1.setI (b + 43) 1 0).I (b + 12) = g1.I (b + 12) from rowI_ne _ _ (by omega), s1 11 (by omega) (by omega), s1 12 (by omega) (by omega)]; exact HA) TC1 (sv_I _ _ _ _)
      have CE := CS.trans C2
      have HX2 : LayX z g2.2.2 b := by rw [CE.1]; exact HX1
      obtain ⟨l1, l2, l3, l4, l5⟩ := aRun_le (τ := τ) (P := P) (vs := fun j => h.J (b + 91) (40 * i + j)) m 0 (h.I (b + 73))
      have per := aRun_per hτ h6 (vs := fun j => h.J (b + 91) (40 * i + j)) m 0 (h.I (b + 73)) hp6
      have keq : ∀ k, k < 17 ∨ 66 ≤ k → (aRun τ P (fun j => h.J (b + 91) (40 * i + j)) m 0 (h.I (b + 73))).2.2 k = h.I (b + 73) k := fun k hk => aRun_k h6 hk m 0 _
      rw [t1, if_neg (by decide), gR_ok (kx_0 HX) (rx_0_5 HX), bS, gR_ok (kx_0 HX) (rx_0_4 HX), bS, e1, bS, gR_ok (kx_0 HX) (rx_0_11 HX1), bS, gR_ok (kx_0 HX) (show g1.R b 3 = some t by rw [C1.R]; exact hR3), bS, gR_ok (kx_0 HX) (rx_0_4 HX1), bS, q1, e2, bS]
      dsimp only
      -- the reference's side, from a heap that the class has left
      have ref : ∀ g3, Cc b h g3 → (∀ a, g3.J a = h.J a) → ∃ g4 g5, f_X12_noTray z (g3.setI (b + 72) 0 0) (b + 72) (nI i) = some 0 ∧ f_X12_keeps n z (g3.setI (b + 72) 0 0) (b + 72) = some g4 ∧ f_X12_tells n z g4 (b + 72) (nI i) = some (nI (aRun τ P (fun j => h.J (b + 91) (40 * i + j)) m 0 (h.I (b + 73))).1, g5) ∧ Re b g3 g5 ∧ g5.I (b + 73) = (aRun τ P (fun j => h.J (b + 91) (40 * i + j)) m 0 (h.I (b + 73))).2.2 ∧ ∀ k, k < 49 → g5.I (b + 79) k = h.I (b + 73) (17 + k) := by
        intro g3 CC hJ
        obtain ⟨H1, g4, m1, H4, R4, w4⟩ := beg_kept (n := n) D hn CC
        have m90 : (g4.setI (b + 72) 19 0).I (b + 90) i = nI m := by
          rw [show (g4.setI (b + 72) 19 0).I (b + 90) = g4.I (b + 90) from rowI_ne _ _ (by omega), R4.2.2.1 _ (by omega) (by omega) (by omega) (by omega) (by omega), CC.i (k := 90) (by omega) (by omega) (by omega) (by omega)]
          exact t5
        have J91 : ∀ j, j < m → (g4.setI (b + 72) 19 0).J (b + 91) (40 * i + j) = h.J (b + 91) (40 * i + j) := fun j _ => by
          show g4.J (b + 91) (40 * i + j) = _
          rw [R4.2.1, hJ]
        have H5 : RefI b z (g4.setI (b + 72) 19 0) τ P (h.I (b + 73)) := H4.fr rfl (rowI_ne _ _ (by omega))
        obtain ⟨g5, f1, f2, f3, f4⟩ := tells_7 (n := n) (z := z) (b := b) hn (τ := τ) (P := P) (tr := i) (sz := m) hi t3 (vs := fun j => h.J (b + 91) (40 * i + j)) m 0 n (g4.setI (b + 72) 19 0) (h.I (b + 73)) (by omega) (by omega) H5 m90 J91 (sv_I _ _ _ _)
        refine ⟨g4, g5, ?_, m1, ?_, (R4.trans (Re.set g4 0 (by omega))).trans f2.e, f3, fun k hk => ?_⟩
        · rw [noTray_ok H1.1, if_pos c1, ei, Int.toNat_natCast, show (g3.setI (b + 72) 0 0).I (b + 89) = g3.I (b + 89) from rowI_ne _ _ (by omega), CC.i (k := 89) (by omega) (by omega) (by omega) (by omega), t4, if_neg (nI_m1' t2)]
        · unfold f_X12_tells
          rw [if_pos km, pI_ok km, bS]
          exact f1
        · rw [f2.2.2.1 _ (by omega) (by omega) (by omega) (by omega), show (g4.setI (b + 72) 19 0).I (b + 79) = g4.I (b + 79) from rowI_ne _ _ (by omega)]
          exact w4 k hk
      by_cases hz : (aRun τ P (fun j => h.J (b + 91) (40 * i + j)) m 0 (h.I (b + 73))).1 = 0
      · rw [hz, if_pos (show nI 0 ≤ (0 : Int32) by decide)]
        have CC : Cc b h g2 := C1.trans (Ce.c (Or.inl ⟨rfl, rfl⟩) CE)
        obtain ⟨g4, g5, f1, f2, f3, f4, f5, f6⟩ := ref g2 CC CC.2.1
        rw [l5 hz] at X2 f5
        refine two_go (y := fun g => f_X12_perform n z g (b + 72) (nI i)) rfl ⟨g5, ?_, I.same D CC (fun k k1 k2 => (CE.2.2 _ (by omega) (by omega) (by omega) (by omega) (by omega)).trans (s1 k (by omega) (by omega))) X2 f4 (fun k => congrFun f5 k)⟩
        try dsimp only
        unfold f_X12_perform
        rw [if_pos km, pI_ok km, bS, f1, bS, if_pos rfl, f2, bS, f3, bS]
        dsimp only
        rw [hz, if_pos (show nI 0 ≤ (0 : Int32) by decide)]
      · have hpos : ¬ (nI (aRun τ P (fun j => h.J (b + 91) (40 * i + j)) m 0 (h.I (b + 73))).1 ≤ 0) := fun q => by
          have := (nI_leI (b := 0) (by omega) (by omega)).mp q
          omega
        obtain ⟨g3, k1, K, T3⟩ := ck_now D C1 s1 T CE X2
        rw [if_neg hpos, gR_ok (kx_0 HX) (rx_0_6 HX2), bS, gR_ok (kx_0 HX) (rx_0_5 HX2), bS, k1, bS]
        obtain ⟨g4, g5, f1, f2, f3, f4, f5, f6⟩ := ref g3 K.1 K.1.2.1
        obtain ⟨h4, n1, n2, -⟩ := fin_kept (n := n) I D hn K f4 f5 f6 keq per
        refine two_go (y := fun g => f_X12_perform n z g (b + 72) (nI i)) rfl ⟨h4, ?_, n2⟩
        try dsimp only
        unfold f_X12_perform
        rw [if_pos km, pI_ok km, bS, f1, bS, if_pos rfl, f2, bS, f3, bS]
        dsimp only
        rw [if_neg hpos, n1, bS]
  · rw [if_neg c1]
    dsimp only
    rw [f_X11_refused, bS]
    refine two_go (y := fun g => f_X12_perform n z g (b + 72) v) rfl ⟨h.setI (b + 72) 0 0, ?_, ref_sc I 0⟩
    try dsimp only
    unfold f_X12_perform
    rw [if_pos km, pI_ok km, bS, noTray_ok HM1, bS, if_neg c1, if_neg (by decide)]
    rfl
theorem judge_ok (I : Inv z0 h0 b c z h) (hn : 400000 ≤ n) (v u : Int32) : ∃ r h1 h2, f_X11_judge n z h b v u = some (r, h1) ∧ f_X12_judge n z h1 (b + 72) v u = some (r, h2) ∧ Inv z0 h0 b c z h2 := by
  obtain ⟨t, τ, P, nx, sz, D⟩ := I.now
  obtain ⟨HX, ⟨HM, hτ, -, hA, h3, h6, hp6⟩, hR3, hT, -, HA, ⟨p1, p2, p3, p4, p5⟩, -⟩ := id D
  have HTr : TrayI b h := I.2.2.2.2.2.1
  have km := km_0 HM
  have HM1 : LayR z (h.setI (b + 72) 0 0).2.2 (b + 72) := HM
  have e89 : (h.setI (b + 72) 0 0).I (b + 89) = h.I (b + 89) := rowI_ne h _ (by omega)
  unfold f_X11_judge f_X11_judge_19
  rw [if_pos (kx_0 HX), trayAt_ok HX, bS]
  have wu : f_X12_within z (h.setI (b + 72) 0 0) (Int32.toInt64 u) 0 3 = some (if 0 ≤ u.toInt ∧ u.toInt ≤ 3 then 1 else 0) := by
    rw [within_ok, to64]
    rfl
  have i0 : (u < 0) ↔ (u.toInt < 0) := by rw [lt_iff]; rfl
  have i3 : (u ≤ 3) ↔ (u.toInt ≤ 3) := by rw [le_iff]; rfl
  by_cases c1 : 0 ≤ v.toInt ∧ v.toInt < 4
  · rw [if_pos c1]
    obtain ⟨i, hi, rfl⟩ := nI_ex (P := 4) c1
    have ei : (nI i).toInt = i := nI_to (by omega)
    rw [ei, Int.toNat_natCast]
    dsimp only
    by_cases cu : 0 ≤ u.toInt ∧ u.toInt ≤ 3
    · rw [if_neg (fun q => by have := i0.mp q; omega), if_pos (i3.mpr cu.2), gI_ok (tray_K HX hi).1, bS]
      rw [if_pos cu] at wu
      rcases tray_in HX HTr hi with ⟨t1, t2⟩ | ⟨t1, so, m, t2, t3, t4, t5, t6, t7⟩
      · rw [t1, if_pos (show nI 0 = (0 : Int32) from rfl), f_X11_refused, bS]
        refine two_go (y := fun g => f_X12_judge n z g (b + 72) (nI i) u) rfl ⟨h.setI (b + 72) 0 0, ?_, ref_sc I 0⟩
        try dsimp only
        unfold f_X12_judge
        rw [if_pos km, pI_ok km, bS, wu, bS, if_neg (by decide), noTray_ok HM1, bS, if_pos c1, ei, Int.toNat_natCast, e89, t2, if_pos rfl, if_neg (by decide)]
        rfl
      · obtain ⟨g1, e1, C1, s1, T⟩ := tcopy D
        have HX1 : LayX z g1.2.2 b := by rw [C1.1]; exact HX
        have q1 : f_X2_doAll n z g1 (b + 43) t (b + 13) (b + 64 + 2 * i) = f_X2_doAll_8 n z n (g1.setI (b + 43) 1 0) (b + 43) t (b + 13) (b + 64 + 2 * i) (nI 0) := by
          unfold f_X2_doAll
          rw [if_pos (kx_43 HX), pI_ok (kx_43 HX), bS]
          rfl
        have CS : Ce b (b + 13) (b + 14) g1 (g1.setI (b + 43) 1 0) := Ce.set g1 1 0
        have TC1 : TC z (g1.setI (b + 43) 1 0) (b + 64 + 2 * i) (b + 65 + 2 * i) m (fun j => h.J (b + 91) (40 * i + j)) := t7.fr (by rw [CS.R, C1.R]) ((CS.2.2 _ (by omega) (by omega) (by omega) (by omega) (by omega)).trans (C1.2.2 _ (by omega) (by omega) (by omega) (by omega))) ((CS.2.1 _).trans (C1.2.1 _))
        obtain ⟨g2, e2, C2, X2, W2⟩ := doAll_8 (n := n) (z := z) (b := b) (q := b + 13) (r := b + 14) (t := t) hn (Or.inr ⟨rfl, rfl⟩) hτ h6 (o := b + 64 + 2 * i) (ro := b + 65 + 2 * i) (sz := m) (vs := fun j => h.J (b + 91) (40 * i + j)) (by unfold Tq; omega) m 0 n (g1.setI (b + 43) 1 0) (h.I (b + 73)) (by omega) (by omega) HX1 (trial_PL HX1) (hT.fr ((C1.trans (Ce.c (Or.inr ⟨rfl, rfl⟩) CS)).fr)) (by rw [show (g1.setI (b + 43) 1 0).I (b + 13) = g1.I (b + 13) from rowI_ne _ _ (by omega), show (g1.setI (b + 43) 1 0).I (b + 14) = g1.I (b + 14) from rowI_ne _ _ (by omega)]; exact ⟨T, hp6⟩) TC1 (sv_I _ _ _ _)
        have CE := CS.trans C2
        have HX2 : LayX z g2.2.2 b := by rw [CE.1]; exact HX1
        have TC2 : TC z g2 (b + 64 + 2 * i) (b + 65 + 2 * i) m (fun j => h.J (b + 91) (40 * i + j)) := TC1.fr (C2.R _) (C2.2.2 _ (by omega) (by omega) (by omega) (by omega) (by omega)) (C2.2.1 _)
        have CC : Cc b h g2 := C1.trans (Ce.c (Or.inr ⟨rfl, rfl⟩) CE)
        obtain ⟨l1, l2, l3, l4, l5⟩ := aRun_le (τ := τ) (P := P) (vs := fun j => h.J (b + 91) (40 * i + j)) m 0 (h.I (b + 73))
        have per := aRun_per hτ h6 (vs := fun j => h.J (b + 91) (40 * i + j)) m 0 (h.I (b + 73)) hp6
        have keq : ∀ k, k < 17 ∨ 66 ≤ k → (aRun τ P (fun j => h.J (b + 91) (40 * i + j)) m 0 (h.I (b + 73))).2.2 k = h.I (b + 73) k := fun k hk => aRun_k h6 hk m 0 _
        generalize hA' : (aRun τ P (fun j => h.J (b + 91) (40 * i + j)) m 0 (h.I (b + 73))).2.2 = A' at *
        generalize hw' : (aRun τ P (fun j => h.J (b + 91) (40 * i + j)) m 0 (h.I (b + 73))).2.1 = wy at *
        generalize hd' : (aRun τ P (fun j => h.J (b + 91) (40 * i + j)) m 0 (h.I (b + 73))).1 = dn at *
        -- the reference
        obtain ⟨H1, g4, m1, H4, R4, w4⟩ := beg_kept (n := n) D hn CC
        have m90 : (g4.setI (b + 72) 19 0).I (b + 90) i = nI m := by
          rw [show (g4.setI (b + 72) 19 0).I (b + 90) = g4.I (b + 90) from rowI_ne _ _ (by omega), R4.2.2.1 _ (by omega) (by omega) (by omega) (by omega) (by omega), CC.i (k := 90) (by omega) (by omega) (by omega) (by omega)]
          exact t5
        have J91 : ∀ j, j < m → (g4.setI (b + 72) 19 0).J (b + 91) (40 * i + j) = h.J (b + 91) (40 * i + j) := fun j _ => by
          show g4.J (b + 91) (40 * i + j) = _
          rw [R4.2.1, CC.2.1]
        have H5 : RefI b z (g4.setI (b + 72) 19 0) τ P (h.I (b + 73)) := H4.fr rfl (rowI_ne _ _ (by omega))
        obtain ⟨g5, f1, f2, f3, f4⟩ := tells_7 (n := n) (z := z) (b := b) hn (τ := τ) (P := P) (tr := i) (sz := m) hi t3 (vs := fun j => h.J (b + 91) (40 * i + j)) m 0 n (g4.setI (b + 72) 19 0) (h.I (b + 73)) (by omega) (by omega) H5 m90 J91 (sv_I _ _ _ _)
        rw [hA'] at f3
        rw [hw'] at f4
        rw [hd'] at f1
        have F1 : f_X12_tells n z g4 (b + 72) (nI i) = some (nI dn, g5) := by
          unfold f_X12_tells
          rw [if_pos km, pI_ok km, bS]
          exact f1
        have RE : Re b g2 g5 := (R4.trans (Re.set g4 0 (by omega))).trans f2.e
        have HM5 : LayR z g5.2.2 (b + 72) := by rw [RE.1, CC.1]; exact HM
        have w5 : ∀ k, k < 49 → g5.I (b + 79) k = h.I (b + 73) (17 + k) := fun k hk => by
          rw [f2.2.2.1 _ (by omega) (by omega) (by omega) (by omega), show (g4.setI (b + 72) 19 0).I (b + 79) = g4.I (b + 79) from rowI_ne _ _ (by omega)]
          exact w4 k hk
        have A3 : A' 3 = nI P := by rw [keq 3 (by omega)]; exact h3
        have ha : f_X12_hasAll n z g5 (b + 72) = some (wF A' P 0 0) := by
          unfold f_X12_hasAll
          rw [if_pos km]
          exact hasAll_4 HM5 f3 A3 h6 P 0 n 0 (by omega) (by omega)
        have hs : f_X12_inSecond n z g5 (b + 72) = some (dF A' P 0 0) := by
          unfold f_X12_inSecond
          rw [if_pos km]
          exact inSecond_4 HM5 f3 A3 h6 P 0 n 0 (by omega) (by omega)
        have hc : f_X5_wealth n z g2 (b + 13) = some (wF A' P 0 0) := by
          unfold f_X5_wealth
          rw [if_pos (kx_13 HX)]
          exact wealth_4 (trial_PL HX2) X2 h6 P 0 n 0 (by omega) (by omega)
        have hd : f_X5_drawn n z g2 (b + 13) = some (dF A' P 0 0) := by
          unfold f_X5_drawn
          rw [if_pos (kx_13 HX)]
          exact drawn_4 (trial_PL HX2) X2 h6 P 0 n 0 (by omega) (by omega)
        have ag := isAgain_ok (n := n) HM5 hn
        have e73 : (g5.rowI (b + 73) (cpy (g5.I (b + 79)) (g5.I (b + 73)) 0 17 49)).I (b + 73) = g2.I (b + 73) := by
          rw [rowI_I, CC.i (k := 73) (by omega) (by omega) (by omega) (by omega), f3]
          funext k
          by_cases ck : 17 ≤ k ∧ k < 17 + 49
          · rw [cpy_in ck, w5 _ (by omega)]
            congr 1
            omega
          · rw [cpy_up ck]
            exact keq k (by omega)
        have fin : Inv z0 h0 b c z (g5.rowI (b + 73) (cpy (g5.I (b + 79)) (g5.I (b + 73)) 0 17 49)) := I.sc (CC.sc (fun k k1 k2 k3 k4 => (CE.2.2 _ (by omega) (by omega) (by omega) (by omega) (by omega)).trans (s1 k k3 k4)) (RE.trans (Re.row _ _ (by omega))) e73)
        have n72 : (g5.rowI (b + 73) (cpy (g5.I (b + 79)) (g5.I (b + 73)) 0 17 49)).I (b + 72) 19 = nI wy := by
          rw [rowI_ne _ _ (by omega)]
          exact f4
        generalize g5.rowI (b + 73) (cpy (g5.I (b + 79)) (g5.I (b + 73)) 0 17 49) = g6 at *
        have nT : f_X12_noTray z (g2.setI (b + 72) 0 0) (b + 72) (nI i) = some 0 := by
          rw [noTray_ok H1.1, if_pos c1, ei, Int.toNat_natCast, show (g2.setI (b + 72) 0 0).I (b + 89) = g2.I (b + 89) from rowI_ne _ _ (by omega), CC.i (k := 89) (by omega) (by omega) (by omega) (by omega), t4, if_neg (nI_m1' t2)]
        have wu2 : f_X12_within z (g2.setI (b + 72) 0 0) (Int32.toInt64 u) 0 3 = some 1 := by
          rw [within_ok, to64, show (0 : Int64).toInt = 0 from rfl, show (3 : Int64).toInt = 3 from rfl, if_pos cu]
        have ry : ∀ {r : Int32}, (if u = 0 then (if nI wy = 0 then some (((-1) : Int32), g6) else some (nI dn, g6)) else if u = 1 then some (nI wy, g6) else if u = 2 then some (wF A' P 0 0, g6) else some (dF A' P 0 0, g6)) = some (r, g6) → f_X12_judge n z g2 (b + 72) (nI i) u = some (r, g6) := by
          intro r hr
          unfold f_X12_judge
          rw [if_pos km, pI_ok km, bS, wu2, bS, if_neg (by decide), nT, bS, if_pos rfl, m1, bS, F1, bS]
          dsimp only
          rw [ha, bS, hs, bS, ag, bS, gI_ok km, bS, n72, bS]
          exact hr
        rw [t1, if_neg (by decide), gR_ok (kx_0 HX) (rx_0_5 HX), bS, gR_ok (kx_0 HX) (rx_0_4 HX), bS, e1, bS, gR_ok (kx_0 HX) (rx_0_11 HX1), bS, gR_ok (kx_0 HX) (show g1.R b 3 = some t by rw [C1.R]; exact hR3), bS, gR_ok (kx_0 HX) (rx_0_5 HX1), bS, q1, e2, bS]
        dsimp only
        rw [gI_ok TC2.1, bS, TC2.2.2.2.2.1, gR_ok (kx_0 HX) (rx_0_11 HX2), bS, gI_ok (kx_43 HX), bS, W2, gR_ok (kx_0 HX) (rx_0_5 HX2), bS, bS, hc, bS, hd, bS]
        by_cases u0 : u = 0
        · rw [if_pos u0]
          simp only [if_pos u0] at ry
          by_cases hm : m ≤ dn
          · rw [if_pos ((nI_leI (by omega) (by omega)).mpr hm)]
            refine two_go (y := fun g => f_X12_judge n z g (b + 72) (nI i) u) rfl ⟨g6, ry ?_, fin⟩
            rw [if_pos (show nI wy = 0 by rw [l3.mpr (by omega)]; rfl)]
          · rw [if_neg (fun q => hm ((nI_leI (by omega) (by omega)).mp q))]
            refine two_go (y := fun g => f_X12_judge n z g (b + 72) (nI i) u) rfl ⟨g6, ry ?_, fin⟩
            rw [if_neg (nz l4 (fun q => by have := l3.mp q; omega))]
        · rw [if_neg u0]
          simp only [if_neg u0] at ry
          by_cases u1 : u = 1
          · rw [if_pos u1]
            simp only [if_pos u1] at ry
            exact two_go (y := fun g => f_X12_judge n z g (b + 72) (nI i) u) rfl ⟨g6, ry rfl, fin⟩
          · rw [if_neg u1]
            simp only [if_neg u1] at ry
            by_cases u2 : u = 2
            · rw [if_pos u2]
              simp only [if_pos u2] at ry
              exact two_go (y := fun g => f_X12_judge n z g (b + 72) (nI i) u) rfl ⟨g6, ry rfl, fin⟩
            · rw [if_neg u2]
              simp only [if_neg u2] at ry
              exact two_go (y := fun g => f_X12_judge n z g (b + 72) (nI i) u) rfl ⟨g6, ry rfl, fin⟩
    · have key : ∀ {α : Type} (x y : α), (if u < 0 then x else if u ≤ 3 then y else x) = x := fun x y => by
        by_cases d : u < 0
        · rw [if_pos d]
        · rw [if_neg d, if_neg (fun q => cu ⟨by have d' : ¬ u.toInt < 0 := fun q => d (i0.mpr q); omega, i3.mp q⟩)]
      rw [key, f_X11_refused, bS]
      refine two_go (y := fun g => f_X12_judge n z g (b + 72) (nI i) u) rfl ⟨h.setI (b + 72) 0 0, ?_, ref_sc I 0⟩
      try dsimp only
      unfold f_X12_judge
      rw [if_pos km, pI_ok km, bS, wu, bS, if_neg cu, if_pos rfl]
      rfl
  · rw [if_neg c1]
    dsimp only
    rw [f_X11_refused, bS]
    refine two_go (y := fun g => f_X12_judge n z g (b + 72) v u) rfl ⟨h.setI (b + 72) 0 0, ?_, ref_sc I 0⟩
    try dsimp only
    unfold f_X12_judge
    rw [if_pos km, pI_ok km, bS, wu, bS]
    by_cases cu : 0 ≤ u.toInt ∧ u.toInt ≤ 3
    · rw [if_pos cu, if_neg (by decide), noTray_ok HM1, bS, if_neg c1, if_neg (by decide)]
      rfl
    · rw [if_neg cu, if_pos rfl]
      rfl
end
