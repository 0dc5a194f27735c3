/-! ===== told deeds, seasons ===== -/
def aTold (τ : TT) (P : Nat) (A : Nat → Int32) (v : Int) : Nat × (Nat → Int32) :=
  if 0 ≤ v ∧ v ≤ 99 then aLive τ P A (v / 10) (v % 10) else if 100 ≤ v ∧ v ≤ 109 then aDraw τ P A (v - 100) else if 110 ≤ v ∧ v ≤ 119 then aRedeem P A (v - 110) else if 1000 ≤ v ∧ v ≤ 1999 then aPledge P A ((v - 1000) / 100) (v % 100) else (1, A)
theorem aLive_0 {τ : TT} {P : Nat} {A : Nat → Int32} {p t : Int} (h : (aLive τ P A p t).1 ≠ 0) : (aLive τ P A p t).2 = A := by
  unfold aLive at h ⊢
  split at h
  · split at h
    · exact absurd rfl h
    · rename_i h1 h2
      rw [if_pos h1, if_neg h2]
  · rename_i h1
    rw [if_neg h1]
theorem aDraw_0 {τ : TT} {P : Nat} {A : Nat → Int32} {p : Int} (h : (aDraw τ P A p).1 ≠ 0) : (aDraw τ P A p).2 = A := by
  unfold aDraw at h ⊢
  split at h
  · split at h
    · split at h
      · exact absurd rfl h
      · rename_i h1 h2 h3
        rw [if_pos h1, if_pos h2, if_neg h3]
    · rename_i h1 h2
      rw [if_pos h1, if_neg h2]
  · rename_i h1
    rw [if_neg h1]
theorem aPledge_0 {P : Nat} {A : Nat → Int32} {p n : Int} (h : (aPledge P A p n).1 ≠ 0) : (aPledge P A p n).2 = A := by
  unfold aPledge at h ⊢
  split at h
  · split at h
    · split at h
      · split at h
        · exact absurd rfl h
        · rename_i h1 h2 h3 h4
          rw [if_pos h1, if_pos h2, if_pos h3, if_neg h4]
      · rename_i h1 h2 h3
        rw [if_pos h1, if_pos h2, if_neg h3]
    · rename_i h1 h2
      rw [if_pos h1, if_neg h2]
  · rename_i h1
    rw [if_neg h1]
theorem aRedeem_0 {P : Nat} {A : Nat → Int32} {p : Int} (h : (aRedeem P A p).1 ≠ 0) : (aRedeem P A p).2 = A := by
  unfold aRedeem at h ⊢
  split at h
  · split at h
    · rename_i h1 h2
      rw [if_pos h1, if_pos h2]
    · exact absurd rfl h
  · rename_i h1
    rw [if_neg h1]
theorem aTold_0 {τ : TT} {P : Nat} {A : Nat → Int32} {v : Int} (h : (aTold τ P A v).1 ≠ 0) : (aTold τ P A v).2 = A := by
  unfold aTold at h ⊢
  split at h
  · rename_i h1
    rw [if_pos h1]
    exact aLive_0 h
  · rename_i h1
    rw [if_neg h1]
    split at h
    · rename_i h2
      rw [if_pos h2]
      exact aDraw_0 h
    · rename_i h2
      rw [if_neg h2]
      split at h
      · rename_i h3
        rw [if_pos h3]
        exact aRedeem_0 h
      · rename_i h3
        rw [if_neg h3]
        split at h
        · rename_i h4
          rw [if_pos h4]
          exact aPledge_0 h
        · rename_i h4
          rw [if_neg h4]
theorem aTold_k {τ : TT} {P : Nat} {A : Nat → Int32} {v : Int} {k : Nat} (h6 : P ≤ 6) (hk : k < 17 ∨ 66 ≤ k) : (aTold τ P A v).2 k = A k := by
  unfold aTold
  split
  · exact aLive_k h6 hk
  · split
    · exact aDraw_k h6 hk
    · split
      · exact aRedeem_k h6 hk
      · split
        · exact aPledge_k h6 hk
        · rfl
theorem aTold_per {τ : TT} (hτ : TownOK τ) {P : Nat} (h6 : P ≤ 6) {A : Nat → Int32} (H : ∀ p, p < P → PerOK τ A p) (v : Int) : ∀ p', p' < P → PerOK τ (aTold τ P A v).2 p' := by
  unfold aTold
  split
  · exact aLive_per hτ h6 H _ _
  · split
    · exact aDraw_per hτ h6 H _
    · split
      · exact aRedeem_per h6 H _
      · split
        · exact aPledge_per h6 H _ _
        · exact H
theorem dvJ_ok {a b : Int} (h1 : 0 ≤ a) (h2 : a < 9223372036854775808) (h3 : 0 < b) (h4 : b < 9223372036854775808) : dvJ (lI a) (lI b) = some (lI (a / b)) := by
  unfold dvJ
  rw [if_pos (fun q => by rw [show (0 : Int64) = lI 0 by decide, lI_eq (by omega) (by omega) (by omega) (by omega)] at q; omega), lI_div h1 h2 h3 h4]
theorem rmJ_ok {a b : Int} (h1 : 0 ≤ a) (h2 : a < 9223372036854775808) (h3 : 0 < b) (h4 : b < 9223372036854775808) : rmJ (lI a) (lI b) = some (lI (a % b)) := by
  unfold rmJ
  rw [if_pos (fun q => by rw [show (0 : Int64) = lI 0 by decide, lI_eq (by omega) (by omega) (by omega) (by omega)] at q; omega), lI_div h1 h2 h3 h4, lI_mul, lI_sub]
  congr 2
  rw [Int.emod_def, Int.mul_comm]
theorem dvI_i {a b : Int} (h1 : 0 ≤ a) (h2 : a < 2147483648) (h3 : 0 < b) (h4 : b < 2147483648) : dvI (iI a) (iI b) = some (iI (a / b)) := by
  unfold dvI
  rw [if_pos (fun q => by rw [show (0 : Int32) = iI 0 by decide, iI_eq (by omega) (by omega) (by omega) (by omega)] at q; omega), iI_div h1 h2 h3 h4]
theorem rmI_i {a b : Int} (h1 : 0 ≤ a) (h2 : a < 2147483648) (h3 : 0 < b) (h4 : b < 2147483648) : rmI (iI a) (iI b) = some (iI (a % b)) := by
  unfold rmI
  rw [if_pos (fun q => by rw [show (0 : Int32) = iI 0 by decide, iI_eq (by omega) (by omega) (by omega) (by omega)] at q; omega), iI_div h1 h2 h3 h4, iI_mul, iI_sub]
  congr 2
  rw [Int.emod_def, Int.mul_comm]
theorem l10 : (10 : Int64) = lI 10 := by decide
theorem l100 : (100 : Int64) = lI 100 := by decide
theorem l110 : (110 : Int64) = lI 110 := by decide
theorem l1000 : (1000 : Int64) = lI 1000 := by decide
set_option maxHeartbeats 1000000 in
theorem ctold_ok {n : Nat} {z : Sh} {h : Hp} {b q r t : Nat} (HX : LayX z h.2.2 b) (hn : 400000 ≤ n) (Q : Qd b q r) (HP : PL z h.2.2 q r) {τ : TT} (hτ : TownOK τ) (hT : TownX b z h t τ) {P : Nat} (h6 : P ≤ 6) {A : Nat → Int32} (HA : PplI τ P (h.I q) (h.I r) A) (v : Int64) : ∃ h', f_X2_doTold n z h (b + 43) t q v = some (nI (aTold τ P A v.toInt).1, h') ∧ Cd b q r h h' ∧ PeopleX (h'.I q) (h'.I r) (aTold τ P A v.toInt).2 P := by
  unfold f_X2_doTold f_X2_doTold_32 f_X2_doTold_61 f_X2_doTold_89 aTold
  simp only [cmp_lt, cmp_gt, show (0 : Int64).toInt = 0 from rfl, show (99 : Int64).toInt = 99 from rfl, show (100 : Int64).toInt = 100 from rfl, show (109 : Int64).toInt = 109 from rfl, show (110 : Int64).toInt = 110 from rfl, show (119 : Int64).toInt = 119 from rfl, show (1000 : Int64).toInt = 1000 from rfl, show (1999 : Int64).toInt = 1999 from rfl]
  rw [if_pos (kx_43 HX)]
  have bnd : ∀ {α β : Type} (x : α × β), (match x with | (x5, h6) => some (x5, h6)) = some x := fun x => rfl
  obtain ⟨u, hu⟩ : ∃ u : Int, v = lI u ∧ v.toInt = u := ⟨v.toInt, (lI_of v).symm, rfl⟩
  rw [hu.2]
  have l1 := l_lo v
  have l2 := l_hi v
  rw [hu.2] at l1 l2
  by_cases c1 : 0 ≤ u ∧ u ≤ 99
  · rw [if_neg (by omega), if_neg (by omega), if_pos c1, hu.1, l10, dvJ_ok (by omega) (by omega) (by omega) (by omega), bS, rmJ_ok (by omega) (by omega) (by omega) (by omega), bS, lI_32]
    obtain ⟨h', e, c, p⟩ := clives_ok HX hn Q HP hτ hT h6 HA (iI (u / 10)) (lI (u % 10))
    rw [iI_to (by omega) (by omega), lI_to (by omega) (by omega)] at e p
    exact ⟨h', by rw [e]; rfl, c, p⟩
  · have key : ∀ {α : Type} (x y : α), (if u < 0 then x else if 99 < u then x else y) = x := fun x y => by
      by_cases d : u < 0
      · rw [if_pos d]
      · rw [if_neg d, if_pos (by omega)]
    rw [if_neg c1, key]
    by_cases c2 : 100 ≤ u ∧ u ≤ 109
    · rw [if_neg (by omega), if_neg (by omega), if_pos c2, hu.1, l100, lI_sub, lI_32]
      obtain ⟨h', e, c, p⟩ := cdraws_ok HX hn Q HP hτ hT h6 HA (iI (u - 100))
      rw [iI_to (by omega) (by omega)] at e p
      exact ⟨h', by rw [e]; rfl, c, p⟩
    · have key : ∀ {α : Type} (x y : α), (if u < 100 then x else if 109 < u then x else y) = x := fun x y => by
        by_cases d : u < 100
        · rw [if_pos d]
        · rw [if_neg d, if_pos (by omega)]
      rw [if_neg c2, key]
      by_cases c3 : 110 ≤ u ∧ u ≤ 119
      · rw [if_neg (by omega), if_neg (by omega), if_pos c3, hu.1, l110, lI_sub, lI_32]
        obtain ⟨h', e, c, p⟩ := credeems_ok HX hn Q HP hτ hT h6 HA (iI (u - 110))
        rw [iI_to (by omega) (by omega)] at e p
        exact ⟨h', by rw [e]; rfl, c, p⟩
      · have key : ∀ {α : Type} (x y : α), (if u < 110 then x else if 119 < u then x else y) = x := fun x y => by
          by_cases d : u < 110
          · rw [if_pos d]
          · rw [if_neg d, if_pos (by omega)]
        rw [if_neg c3, key]
        by_cases c4 : 1000 ≤ u ∧ u ≤ 1999
        · rw [if_neg (by omega), if_neg (by omega), if_pos c4, hu.1, l1000, l100, lI_sub, dvJ_ok (by omega) (by omega) (by omega) (by omega), bS, rmJ_ok (by omega) (by omega) (by omega) (by omega), bS, lI_32, lI_32]
          obtain ⟨h', e, c, p⟩ := cpledges_ok HX hn Q HP hτ hT h6 HA (iI ((u - 1000) / 100)) (iI (u % 100))
          rw [iI_to (by omega) (by omega), iI_to (by omega) (by omega)] at e p
          exact ⟨h', by rw [e]; rfl, c, p⟩
        · have key : ∀ {α : Type} (x y : α), (if u < 1000 then x else if 1999 < u then x else y) = x := fun x y => by
            by_cases d : u < 1000
            · rw [if_pos d]
            · rw [if_neg d, if_pos (by omega)]
          rw [if_neg c4, key]
          exact ⟨h, rfl, Cd.refl .., HA.1⟩
section
variable {n : Nat} {z : Sh} {h : Hp} {b : Nat} {τ : TT} {P : Nat} {A : Nat → Int32}
theorem wNot_ok (H : RefI b z h τ P A) (v : Int64) : f_X12_whyNot z h (b + 72) v = some (nI (aTold τ P A v.toInt).1) := by
  have HM := H.1
  unfold f_X12_whyNot aTold
  rw [if_pos (km_0 HM)]
  simp only [within_ok, bS, show (0 : Int64).toInt = 0 from rfl, show (99 : Int64).toInt = 99 from rfl, show (100 : Int64).toInt = 100 from rfl, show (109 : Int64).toInt = 109 from rfl, show (110 : Int64).toInt = 110 from rfl, show (119 : Int64).toInt = 119 from rfl, show (1000 : Int64).toInt = 1000 from rfl, show (1999 : Int64).toInt = 1999 from rfl, if10_0]
  obtain ⟨u, hu⟩ : ∃ u : Int, v = lI u ∧ v.toInt = u := ⟨v.toInt, (lI_of v).symm, rfl⟩
  rw [hu.2]
  have l1 := l_lo v
  have l2 := l_hi v
  rw [hu.2] at l1 l2
  by_cases c1 : 0 ≤ u ∧ u ≤ 99
  · rw [if_neg (fun q => q c1), if_pos c1, hu.1, l10, dvJ_ok (by omega) (by omega) (by omega) (by omega), bS, rmJ_ok (by omega) (by omega) (by omega) (by omega), bS, wLive_ok H, bS, lI_to (by omega) (by omega), lI_to (by omega) (by omega)]
  · rw [if_pos c1, if_neg c1]
    by_cases c2 : 100 ≤ u ∧ u ≤ 109
    · rw [if_neg (fun q => q c2), if_pos c2, hu.1, l100, lI_sub, wDraw_ok H, bS, lI_to (by omega) (by omega)]
    · rw [if_pos c2, if_neg c2]
      by_cases c3 : 110 ≤ u ∧ u ≤ 119
      · rw [if_neg (fun q => q c3), if_pos c3, hu.1, l110, lI_sub, wRedeem_ok H, bS, lI_to (by omega) (by omega)]
      · rw [if_pos c3, if_neg c3]
        by_cases c4 : 1000 ≤ u ∧ u ≤ 1999
        · rw [if_neg (fun q => q c4), if_pos c4, hu.1, l1000, l100, lI_sub, dvJ_ok (by omega) (by omega) (by omega) (by omega), bS, rmJ_ok (by omega) (by omega) (by omega) (by omega), bS, wPledge_ok H, bS, lI_to (by omega) (by omega), lI_to (by omega) (by omega)]
        · rw [if_pos c4, if_neg c4]
          rfl
theorem aLive_yes {p t : Int} (h : (aLive τ P A p t).1 = 0) : (0 ≤ p ∧ p < P) ∧ (0 ≤ t ∧ t < tD τ) ∧ nv A (18 + p.toNat) < tY τ := by
  unfold aLive at h
  split at h
  · rename_i h1
    split at h
    · rename_i h2
      exact ⟨h1.1, h1.2, h2⟩
    · cases h
  · cases h
theorem aDraw_yes {p : Int} (h : (aDraw τ P A p).1 = 0) : (0 ≤ p ∧ p < P) ∧ nv A (24 + p.toNat) = 1 ∧ nv A (60 + p.toNat) = 0 := by
  unfold aDraw at h
  split at h
  · rename_i h1
    split at h
    · rename_i h2
      split at h
      · rename_i h3
        exact ⟨h1, h2, h3⟩
      · cases h
    · cases h
  · cases h
theorem aPledge_yes {p v : Int} (h : (aPledge P A p v).1 = 0) : (0 ≤ p ∧ p < P) ∧ (1 ≤ v ∧ v ≤ 99) ∧ (aPledge P A p v).2 = go A p.toNat (iI v) := by
  unfold aPledge at h ⊢
  split at h
  · rename_i h1
    rw [if_pos h1]
    split at h
    · rename_i h2
      rw [if_pos h2]
      split at h
      · rename_i h3
        rw [if_pos h3]
        split at h
        · rename_i h4
          rw [if_pos h4]
          exact ⟨h1.1, h1.2, rfl⟩
        · cases h
      · cases h
    · cases h
  · cases h
theorem aRedeem_yes {p : Int} (h : (aRedeem P A p).1 = 0) : (0 ≤ p ∧ p < P) ∧ (aRedeem P A p).2 = go A p.toNat (- A (60 + p.toNat)) := by
  unfold aRedeem at h ⊢
  split at h
  · rename_i h1
    rw [if_pos h1]
    split at h
    · cases h
    · rename_i h2
      rw [if_neg h2]
      exact ⟨h1, rfl⟩
  · cases h
set_option maxHeartbeats 1000000 in
theorem does_ok (H : RefI b z h τ P A) (hn : 400000 ≤ n) {v : Int} (h0 : (aTold τ P A v).1 = 0) : ∃ r1 r2, f_X12_does n z h (b + 72) (iI v) = some (((h.rowI (b + 78) r1).rowI (b + 77) r2).rowI (b + 73) (aTold τ P A v).2) := by
  have HM := H.1
  have h73 := H.2.2.1
  have h6 : P ≤ 6 := H.2.2.2.2.2.1
  have hv : (0 ≤ v ∧ v ≤ 119) ∨ (1000 ≤ v ∧ v ≤ 1999) := by
    unfold aTold at h0
    split at h0
    · omega
    · split at h0
      · omega
      · split at h0
        · omega
        · split at h0
          · omega
          · cases h0
  unfold f_X12_does
  rw [if_pos (km_0 HM), show (100 : Int32) = iI 100 by decide, show (110 : Int32) = iI 110 by decide, show (120 : Int32) = iI 120 by decide, show (1000 : Int32) = iI 1000 by decide, show (10 : Int32) = iI 10 by decide]
  simp (disch := omega) only [iI_le]
  by_cases c1 : 0 ≤ v ∧ v ≤ 99
  · have e : aTold τ P A v = aLive τ P A (v / 10) (v % 10) := by unfold aTold; rw [if_pos c1]
    rw [e] at h0 ⊢
    obtain ⟨y1, y2, y3⟩ := aLive_yes h0
    obtain ⟨j, hj⟩ : ∃ j : Nat, v / 10 = j := ⟨(v / 10).toNat, by omega⟩
    obtain ⟨k, hk⟩ : ∃ k : Nat, v % 10 = k := ⟨(v % 10).toNat, by omega⟩
    rw [hj, hk] at h0 ⊢
    rw [hj] at y1 y3
    rw [hk] at y2
    obtain ⟨r1, r2, hl⟩ := mlives_ok (n := n) H hn (j := j) (k := k) (by omega) (by omega) (by simpa using y3)
    refine ⟨r1, r2, ?_⟩
    rw [if_neg (by omega), dvI_i (by omega) (by omega) (by omega) (by omega), bS, rmI_i (by omega) (by omega) (by omega) (by omega), bS, hj, hk, ← nI_iI, ← nI_iI, hl, bS]
  · by_cases c2 : 100 ≤ v ∧ v ≤ 109
    · have e : aTold τ P A v = aDraw τ P A (v - 100) := by unfold aTold; rw [if_neg c1, if_pos c2]
      rw [e] at h0 ⊢
      obtain ⟨y1, y2, y3⟩ := aDraw_yes h0
      obtain ⟨j, hj⟩ : ∃ j : Nat, v - 100 = j := ⟨(v - 100).toNat, by omega⟩
      rw [hj] at h0 y1 y2 y3 ⊢
      obtain ⟨r1, r2, hl⟩ := mdraws_ok (n := n) H hn (j := j) (by omega) (by simpa using y2) (by simpa using y3)
      refine ⟨r1, r2, ?_⟩
      rw [if_pos (by omega), if_neg (by omega), iI_sub, hj, ← nI_iI, hl, bS]
    · by_cases c3 : 110 ≤ v ∧ v ≤ 119
      · have e : aTold τ P A v = aRedeem P A (v - 110) := by unfold aTold; rw [if_neg c1, if_neg c2, if_pos c3]
        rw [e] at h0 ⊢
        obtain ⟨y1, y2⟩ := aRedeem_yes h0
        obtain ⟨j, hj⟩ : ∃ j : Nat, v - 110 = j := ⟨(v - 110).toNat, by omega⟩
        refine ⟨h.I (b + 78), h.I (b + 77), ?_⟩
        rw [rows2_self, y2, if_pos (by omega), if_pos (by omega), if_neg (by omega), gR, if_pos (km_0 HM), rm_1 HM, bS]
        have e2 : (60 : Int32) + iI v - iI 110 = nI (60 + j) := by
          rw [show (60 : Int32) = iI 60 by decide, iI_add, iI_sub, nI_iI]
          congr 1
          omega
        rw [e2, lm_1 HM (by omega), bS, iI_sub, hj, ← nI_iI, mgoes_ok H (by omega), bS, h73]
        simp only [Int.toNat_natCast]
      · have c4 : 1000 ≤ v ∧ v ≤ 1999 := by omega
        have e : aTold τ P A v = aPledge P A ((v - 1000) / 100) (v % 100) := by unfold aTold; rw [if_neg c1, if_neg c2, if_neg c3, if_pos c4]
        rw [e] at h0 ⊢
        obtain ⟨y1, y2, y3⟩ := aPledge_yes h0
        obtain ⟨j, hj⟩ : ∃ j : Nat, (v - 1000) / 100 = j := ⟨((v - 1000) / 100).toNat, by omega⟩
        refine ⟨h.I (b + 78), h.I (b + 77), ?_⟩
        rw [rows2_self, y3, if_pos (by omega), if_pos (by omega), if_pos (by omega), iI_sub, dvI_i (by omega) (by omega) (by omega) (by omega), bS, rmI_i (by omega) (by omega) (by omega) (by omega), bS, hj, ← nI_iI, mgoes_ok H (by omega), bS]
        simp only [Int.toNat_natCast]
end
