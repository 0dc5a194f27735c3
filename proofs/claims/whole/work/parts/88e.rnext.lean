/-! ===== town, 4: the reference's reader, its small steps ===== -/
def Rx (b : Nat) (sv : Nat → Nat) (z : Sh) (tx : Nat → Nat) (N : Nat) (g : Hp) : Prop :=
  LayR z g.2.2 (b + 72) ∧ g.I (b + 72) 8 = nI N ∧ (∀ j, j < N → g.I (b + 75) j = nI (tx j)) ∧ StrH b sv z g
def Sm (b : Nat) (h h' : Hp) : Prop := (∀ a, h'.R a = h.R a) ∧ (∀ a, h'.J a = h.J a) ∧ (∀ a, a ≠ b + 72 → h'.I a = h.I a) ∧ ∀ k, k ≠ 6 → k ≠ 7 → k ≠ 9 → k ≠ 10 → h'.I (b + 72) k = h.I (b + 72) k
theorem Sm.rf {b : Nat} {h : Hp} : Sm b h h := ⟨fun _ => rfl, fun _ => rfl, fun _ _ => rfl, fun _ _ _ _ _ => rfl⟩
theorem Sm.tr {b : Nat} {h h' h'' : Hp} (A : Sm b h h') (B : Sm b h' h'') : Sm b h h'' := ⟨fun a => (B.1 a).trans (A.1 a), fun a => (B.2.1 a).trans (A.2.1 a), fun a q => (B.2.2.1 a q).trans (A.2.2.1 a q), fun k q1 q2 q3 q4 => (B.2.2.2 k q1 q2 q3 q4).trans (A.2.2.2 k q1 q2 q3 q4)⟩
theorem Sm.st {b : Nat} {h : Hp} {k : Nat} {v : Int32} (hk : k = 6 ∨ k = 7 ∨ k = 9 ∨ k = 10) : Sm b h (h.setI (b + 72) k v) := ⟨fun _ => rfl, fun _ => rfl, fun _ q => sI_o q, fun j q1 q2 q3 q4 => sI_ne (by omega)⟩
theorem LayR.mv {z : Sh} {m : Nat} {h h' : Hp} (H : LayR z h.2.2 m) (E : ∀ a, h'.R a = h.R a) : LayR z h'.2.2 m := ⟨H.1, fun q hq => (congrFun (E (m + q.1)) q.2.1).trans (H.2 q hq)⟩
theorem Rx.sm {b : Nat} {sv : Nat → Nat} {z : Sh} {tx : Nat → Nat} {N : Nat} {h h' : Hp} (C : Rx b sv z tx N h) (S : Sm b h h') : Rx b sv z tx N h' := by
  obtain ⟨c1, c2, c3, c4⟩ := C
  refine ⟨c1.mv S.1, ?_, fun j hj => ?_, c4.mv (fun a ha => S.2.2.1 a (by omega)) (fun a _ => S.1 a)⟩
  · rw [S.2.2.2 8 (by decide) (by decide) (by decide) (by decide)]
    exact c2
  · rw [S.2.2.1 (b + 75) (by omega)]
    exact c3 j hj
section
variable {n b N : Nat} {sv : Nat → Nat} {z : Sh} {tx : Nat → Nat} {g : Hp}
theorem see_in (C : Rx b sv z tx N g) (hN : N ≤ 900) {j : Nat} (hj : j < N) : f_X12_see z g (b + 72) (nI j) = some (nI (tx j)) := by
  have c1 : ¬ (nI N ≤ nI j) := fun q => by
    rw [nI_leI (by omega) (by omega)] at q
    omega
  simp only [f_X12_see, km_0 C.1, eq_self, if_true, gI_ok (km_0 C.1), bS, C.2.1, c1, if_false, gR_ok (km_0 C.1) (rm_3 C.1), lm_3 C.1 (show j < 900 by omega), C.2.2.1 j hj]
theorem see_out (C : Rx b sv z tx N g) (hN : N ≤ 900) : f_X12_see z g (b + 72) (nI N) = some (-1) := by
  have c1 : nI N ≤ nI N := (nI_leI (by omega) (by omega)).mpr (Nat.le_refl _)
  simp only [f_X12_see, km_0 C.1, eq_self, if_true, gI_ok (km_0 C.1), bS, C.2.1, c1]
theorem lLe_r {v : Nat} (hv : v < 256) : f_X12_isSmall z g (nI v) = some (if lLe v = true then 1 else 0) := rng_c hv (by decide) (by decide)
theorem lDi_r {v : Nat} (hv : v < 256) : f_X12_isDigit z g (nI v) = some (if lDi v = true then 1 else 0) := rng_c hv (by decide) (by decide)
theorem bl_ne {v : Nat} (hv : v < 256) (h : ¬ lBl v = true) : ¬ (nI v = 10) ∧ ¬ (nI v = 32) := by
  refine ⟨fun q => h (decide_eq_true (Or.inl ((nI_inj (j := 10) (by omega) (by decide)).mp q))), fun q => h (decide_eq_true (Or.inr ((nI_inj (j := 32) (by omega) (by decide)).mp q)))⟩
theorem mx8 (hN : N ≤ 900) (hx : ∀ j, tx j < 256) : ∀ d e i (g : Hp), Rx b sv z tx N g → g.I (b + 72) 6 = nI e → e + d = N → d < i → ∃ j g', Sm b g g' ∧ g'.I (b + 72) 6 = nI (sk (fun j => lBl (tx j)) d e) ∧ (sk (fun j => lBl (tx j)) d e < N → ¬ lBl (tx (sk (fun j => lBl (tx j)) d e)) = true) ∧ f_X12_next_8 n z i g (b + 72) = f_X12_next_8 n z (j + 1) g' (b + 72) := by
  intro d
  induction d with
  | zero =>
    intro e i g C h6 he hi
    obtain ⟨i, rfl⟩ : ∃ q, i = q + 1 := ⟨i - 1, by omega⟩
    exact ⟨i, g, Sm.rf, h6, fun q => by
      have q : e < N := q
      omega, rfl⟩
  | succ d ih =>
    intro e i g C h6 he hi
    obtain ⟨i, rfl⟩ : ∃ q, i = q + 1 := ⟨i - 1, by omega⟩
    by_cases q : lBl (tx e) = true
    · obtain ⟨j, g', s1, s2, s3, s4⟩ := ih (e + 1) i (g.setI (b + 72) 6 (nI (e + 1))) (C.sm (Sm.st (by omega))) sI_eq (by omega) (by omega)
      have eq : sk (fun j => lBl (tx j)) (d + 1) e = sk (fun j => lBl (tx j)) d (e + 1) := sk_1 (p := fun j => lBl (tx j)) q (by omega)
      rw [eq]
      refine ⟨j, g', (Sm.st (by omega)).tr s1, s2, s3, ?_⟩
      rw [← s4, f_X12_next_8.eq_2]
      have e34 : f_X12_next_34 n z (f_X12_next_8 n z i) g (b + 72) = f_X12_next_8 n z i (g.setI (b + 72) 6 (nI (e + 1))) (b + 72) := by
        unfold f_X12_next_34
        rw [gI_ok (km_0 C.1), bS, pI_ok (km_0 C.1), bS, h6, nI_1]
      simp only [gI_ok (km_0 C.1), bS, h6, see_in C hN (show e < N by omega), e34]
      have q : tx e = 10 ∨ tx e = 32 := of_decide_eq_true q
      rcases q with q | q
      · rw [q, if_pos (show nI 10 = 10 from rfl)]
      · rw [q, if_neg (show ¬ (nI 32 = 10) by decide), if_pos (show nI 32 = 32 from rfl)]
    · have eq : sk (fun j => lBl (tx j)) (d + 1) e = e := if_neg q
      rw [eq]
      exact ⟨i, g, Sm.rf, h6, fun _ => q, rfl⟩
theorem mx89 (hN : N ≤ 900) (hx : ∀ j, tx j < 256) : ∀ d e i (g : Hp), Rx b sv z tx N g → g.I (b + 72) 7 = nI e → e + d = N → d < i → ∃ g', Sm b g g' ∧ g'.I (b + 72) 7 = nI (sk (fun j => lLe (tx j)) d e) ∧ g'.I (b + 72) 6 = g.I (b + 72) 6 ∧ f_X12_next_89 n z i g (b + 72) = (f_X12_keyAt n z g' (b + 72)).bind fun x5 => (pI z g' 12 (b + 72) 9 x5).bind fun h6 => some h6 := by
  intro d
  induction d with
  | zero =>
    intro e i g C h7 he hi
    obtain ⟨i, rfl⟩ : ∃ q, i = q + 1 := ⟨i - 1, by omega⟩
    obtain rfl : e = N := by omega
    refine ⟨g, Sm.rf, h7, rfl, ?_⟩
    rw [f_X12_next_89.eq_2, gI_ok (km_0 C.1), bS, h7, see_out C hN, bS]
    rw [show f_X12_isSmall z g (-1) = some 0 from rfl, bS, if_pos rfl]
  | succ d ih =>
    intro e i g C h7 he hi
    obtain ⟨i, rfl⟩ : ∃ q, i = q + 1 := ⟨i - 1, by omega⟩
    rw [f_X12_next_89.eq_2, gI_ok (km_0 C.1), bS, h7, see_in C hN (show e < N by omega), bS, lLe_r (hx e), bS]
    by_cases q : lLe (tx e) = true
    · obtain ⟨g', s1, s2, s3, s4⟩ := ih (e + 1) i (g.setI (b + 72) 7 (nI (e + 1))) (C.sm (Sm.st (by omega))) sI_eq (by omega) (by omega)
      refine ⟨g', (Sm.st (by omega)).tr s1, ?_, s3.trans (sI_ne (by decide)), ?_⟩
      · rw [sk_1 (p := fun j => lLe (tx j)) q (by omega)]
        exact s2
      · rw [if_pos q, if_neg (by decide), bS, pI_ok (km_0 C.1), bS, nI_1]
        exact s4
    · refine ⟨g, Sm.rf, ?_, rfl, ?_⟩
      · rw [show sk (fun j => lLe (tx j)) (d + 1) e = e from if_neg q]
        exact h7
      · rw [if_neg q, if_pos rfl]
theorem mx146 (hN : N ≤ 900) (hx : ∀ j, tx j < 256) {a : Nat} : ∀ d e i (g : Hp), Rx b sv z tx N g → g.I (b + 72) 6 = nI a → g.I (b + 72) 7 = nI e → g.I (b + 72) 10 = nI (nuv tx a (min 3 (e - a))) → a ≤ e → e + d = N → d < i → ∃ g', f_X12_next_146 n z i g (b + 72) = some g' ∧ Sm b g g' ∧ g'.I (b + 72) 6 = nI a ∧ g'.I (b + 72) 7 = nI (sk (fun j => lDi (tx j)) d e) ∧ g'.I (b + 72) 9 = nI (if sk (fun j => lDi (tx j)) d e - a ≤ 3 then 24 else 26) ∧ g'.I (b + 72) 10 = nI (nuv tx a (min 3 (sk (fun j => lDi (tx j)) d e - a))) := by
  have fin : ∀ e (g : Hp), Rx b sv z tx N g → g.I (b + 72) 6 = nI a → g.I (b + 72) 7 = nI e → g.I (b + 72) 10 = nI (nuv tx a (min 3 (e - a))) → a ≤ e → e ≤ N → ∃ g', (if (nI e - nI a) ≤ 3 then (pI z g 12 (b + 72) 9 24).bind fun h8 => some h8 else (pI z g 12 (b + 72) 9 26).bind fun h9 => some h9) = some g' ∧ Sm b g g' ∧ g'.I (b + 72) 6 = nI a ∧ g'.I (b + 72) 7 = nI e ∧ g'.I (b + 72) 9 = nI (if e - a ≤ 3 then 24 else 26) ∧ g'.I (b + 72) 10 = nI (nuv tx a (min 3 (e - a))) := by
    intro e g C h6 h7 h10 ha he
    rw [nI_sub ha]
    by_cases q : e - a ≤ 3
    · refine ⟨g.setI (b + 72) 9 24, ?_, Sm.st (by omega), (sI_ne (by decide)).trans h6, (sI_ne (by decide)).trans h7, ?_, (sI_ne (by decide)).trans h10⟩
      · rw [if_pos (show nI (e - a) ≤ 3 from (nI_leI (b := 3) (by omega) (by decide)).mpr q), pI_ok (km_0 C.1), bS]
      · rw [sI_eq, if_pos q]
        rfl
    · refine ⟨g.setI (b + 72) 9 26, ?_, Sm.st (by omega), (sI_ne (by decide)).trans h6, (sI_ne (by decide)).trans h7, ?_, (sI_ne (by decide)).trans h10⟩
      · rw [if_neg (show ¬ nI (e - a) ≤ 3 from fun w => q ((nI_leI (b := 3) (by omega) (by decide)).mp w)), pI_ok (km_0 C.1), bS]
      · rw [sI_eq, if_neg q]
        rfl
  intro d
  induction d with
  | zero =>
    intro e i g C h6 h7 h10 ha he hi
    obtain ⟨i, rfl⟩ : ∃ q, i = q + 1 := ⟨i - 1, by omega⟩
    obtain rfl : e = N := by omega
    obtain ⟨g', w1, w2⟩ := fin e g C h6 h7 h10 ha (by omega)
    refine ⟨g', ?_, w2⟩
    rw [f_X12_next_146.eq_2]
    simp only [gI_ok (km_0 C.1), bS, h7, h6, see_out C hN, show f_X12_isDigit z g (-1) = some 0 from rfl, if_true]
    exact w1
  | succ d ih =>
    intro e i g C h6 h7 h10 ha he hi
    obtain ⟨i, rfl⟩ : ∃ q, i = q + 1 := ⟨i - 1, by omega⟩
    rw [f_X12_next_146.eq_2]
    simp only [gI_ok (km_0 C.1), bS, h7, h6, see_in C hN (show e < N by omega), lDi_r (hx e), h10]
    by_cases q : lDi (tx e) = true
    · have hd : 48 ≤ tx e ∧ tx e ≤ 57 := of_decide_eq_true q
      rw [if_pos q, if_neg (by decide), nI_sub ha]
      have eq : sk (fun j => lDi (tx j)) (d + 1) e = sk (fun j => lDi (tx j)) d (e + 1) := sk_1 (p := fun j => lDi (tx j)) q (by omega)
      rw [eq]
      by_cases c3 : 3 ≤ e - a
      · obtain ⟨g', t1, t2, t3⟩ := ih (e + 1) i (g.setI (b + 72) 7 (nI (e + 1))) (C.sm (Sm.st (by omega))) ((sI_ne (by decide)).trans h6) sI_eq (((sI_ne (by decide)).trans h10).trans (by rw [show min 3 (e + 1 - a) = min 3 (e - a) by omega])) (by omega) (by omega) (by omega)
        refine ⟨g', ?_, (Sm.st (by omega)).tr t2, t3⟩
        rw [if_pos (show (3 : Int32) ≤ nI (e - a) from (nI_leI (a := 3) (by decide) (by omega)).mpr c3)]
        unfold f_X12_next_196
        rw [gI_ok (km_0 C.1), bS, pI_ok (km_0 C.1), bS, h7, nI_1]
        exact t1
      · have hv : 10 * nI (nuv tx a (min 3 (e - a))) + nI (tx e) - 48 = nI (nuv tx a (min 3 (e + 1 - a))) := by
          rw [show (10 : Int32) = nI 10 from rfl, show (48 : Int32) = nI 48 from rfl, nI_mul, nI_add, nI_sub (by omega), show min 3 (e + 1 - a) = min 3 (e - a) + 1 by omega]
          show _ = nI (10 * nuv tx a (min 3 (e - a)) + (tx (a + min 3 (e - a)) - 48))
          rw [show a + min 3 (e - a) = e by omega]
          congr 1
          omega
        have C1 := C.sm (Sm.st (k := 10) (v := nI (nuv tx a (min 3 (e + 1 - a)))) (by omega))
        obtain ⟨g', t1, t2, t3⟩ := ih (e + 1) i ((g.setI (b + 72) 10 (nI (nuv tx a (min 3 (e + 1 - a))))).setI (b + 72) 7 (nI (e + 1))) (C1.sm (Sm.st (by omega))) ((sI_ne (by decide)).trans ((sI_ne (by decide)).trans h6)) sI_eq ((sI_ne (by decide)).trans sI_eq) (by omega) (by omega) (by omega)
        refine ⟨g', ?_, ((Sm.st (by omega)).tr (Sm.st (by omega))).tr t2, t3⟩
        rw [if_neg (show ¬ (3 : Int32) ≤ nI (e - a) from fun w => c3 ((nI_leI (a := 3) (by decide) (by omega)).mp w)), hv, pI_ok (km_0 C.1), bS]
        unfold f_X12_next_196
        rw [gI_ok (km_0 C.1), bS, pI_ok (km_0 C.1), bS, sI_ne (by decide), h7, nI_1]
        exact t1
    · rw [if_neg q, if_pos rfl, show sk (fun j => lDi (tx j)) (d + 1) e = e from if_neg q]
      exact fin e g C h6 h7 h10 ha (by omega)
theorem mx254 (hN : N ≤ 900) (hx : ∀ j, tx j < 256) {a : Nat} (ha : a < N) : ∀ d k i (g : Hp), Rx b sv z tx N g → g.I (b + 72) 6 = nI a → g.I (b + 72) 9 = nI (if sgI (tx a) < k then 30 + sgI (tx a) else 26) → k + d = 12 → d < i → ∃ g', f_X12_next_254 n z i g (b + 72) (nI k) = some g' ∧ Sm b g g' ∧ g'.I (b + 72) 6 = nI a ∧ g'.I (b + 72) 7 = g.I (b + 72) 7 ∧ g'.I (b + 72) 9 = nI (sgnO (tx a)) := by
  have hl : (txL 47).length = 12 := rfl
  intro d
  induction d with
  | zero =>
    intro k i g C h6 h9 hk hi
    obtain ⟨i, rfl⟩ : ∃ q, i = q + 1 := ⟨i - 1, by omega⟩
    obtain rfl : k = 12 := by omega
    refine ⟨g, ?_, Sm.rf, h6, rfl, h9⟩
    rw [f_X12_next_254.eq_2, len_s C.2.2.2 (by decide) (by decide), bS, hl, if_pos (by decide)]
  | succ d ih =>
    intro k i g C h6 h9 hk hi
    obtain ⟨i, rfl⟩ : ∃ q, i = q + 1 := ⟨i - 1, by omega⟩
    have c1 : ¬ (nI 12 ≤ nI k) := fun q => by
      rw [nI_leI (by omega) (by omega)] at q
      omega
    have hc := txL_lt 10 (by decide) _ (getD_mem (L := txL 10) (j := k) (by
      show k < 12
      omega))
    have hv := hx a
    have e47 : (txL 47).getD k 0 = (txL 10).getD k 0 := rfl
    rw [f_X12_next_254.eq_2]
    simp only [len_s C.2.2.2 (s := 47) (by decide) (by decide), hl, bS, c1, if_false, gI_ok (km_0 C.1), h6, see_in C hN ha, chr_s C.2.2.2 (s := 47) (j := k) (by decide) (by decide) (by rw [hl]; omega), e47]
    by_cases q : tx a = (txL 10).getD k 0
    · have qi := (sgI_iff (v := tx a) (i := k) (by omega)).mpr q
      obtain ⟨g', t1, t2, t3, t4, t5⟩ := ih (k + 1) i (g.setI (b + 72) 9 (nI (30 + k))) (C.sm (Sm.st (by omega))) ((sI_ne (by decide)).trans h6) (sI_eq.trans (by rw [qi, if_pos (by omega)])) (by omega) (by omega)
      refine ⟨g', ?_, (Sm.st (by omega)).tr t2, t3, t4.trans (sI_ne (by decide)), t5⟩
      rw [if_pos (by rw [q]), pI_ok (km_0 C.1), bS]
      unfold f_X12_next_288
      rw [bS, nI_1, show (30 : Int32) = nI 30 from rfl, nI_add]
      exact t1
    · have qi : sgI (tx a) ≠ k := fun w => q ((sgI_iff (v := tx a) (i := k) (by omega)).mp w)
      obtain ⟨g', t1, t2, t3, t4, t5⟩ := ih (k + 1) i g C h6 (h9.trans (by
        by_cases w : sgI (tx a) < k
        · rw [if_pos w, if_pos (by omega)]
        · rw [if_neg w, if_neg (by omega)])) (by omega) (by omega)
      refine ⟨g', ?_, t2, t3, t4, t5⟩
      rw [if_neg (fun w => q ((nI_inj (by omega) (by omega)).mp w))]
      unfold f_X12_next_288
      rw [bS, nI_1]
      exact t1
/-! the keys -/
theorem ky_ok : ∀ i, i < 23 → kyP (i + 1) = kyP i + (keyL.getD i []).length + 1 ∧ kyP (i + 1) ≤ 120 ∧ (txL 46).getD (kyP i + (keyL.getD i []).length) 0 = 32 ∧ ∀ j, j < (keyL.getD i []).length → (txL 46).getD (kyP i + j) 0 = (keyL.getD i []).getD j 0 ∧ (keyL.getD i []).getD j 0 ≠ 32 ∧ (keyL.getD i []).getD j 0 < 128 := by decide +kernel
theorem ky_len : (txL 46).length = 120 ∧ kyP 23 = 120 ∧ kyP 0 = 1 := by decide +kernel
theorem ka97 (C : Rx b sv z tx N g) {i : Nat} (hi : i < 23) (k4 : Nat → Int32 → Int32 → Option Int32) : ∀ d j f, j + d = (keyL.getD i []).length → d < f → f_X12_keyAt_97 n z g k4 f (b + 72) (nI i) (nI (kyP i + j)) = k4 (b + 72) (nI (i + 1)) (nI (kyP (i + 1))) := by
  obtain ⟨k1, k2, k3, k4'⟩ := ky_ok i hi
  have hl := ky_len.1
  intro d
  induction d with
  | zero =>
    intro j f hj hf
    obtain ⟨f, rfl⟩ : ∃ q, f = q + 1 := ⟨f - 1, by omega⟩
    obtain rfl : j = (keyL.getD i []).length := by omega
    rw [f_X12_keyAt_97.eq_2, chr_s C.2.2.2 (by decide) (by decide) (by omega), bS, k3, if_pos (show nI 32 = 32 from rfl), bS, bS, nI_1, nI_1, k1]
  | succ d ih =>
    intro j f hj hf
    obtain ⟨f, rfl⟩ : ∃ q, f = q + 1 := ⟨f - 1, by omega⟩
    have h1 := k4' j (by omega)
    rw [f_X12_keyAt_97.eq_2, chr_s C.2.2.2 (by decide) (by decide) (by omega), bS, h1.1, if_neg (show ¬ (nI ((keyL.getD i []).getD j 0) = 32) from fun q => h1.2.1 ((nI_inj (j := 32) (by omega) (by decide)).mp q)), bS, nI_1, Nat.add_assoc]
    exact ih (j + 1) f (by omega) (by omega)
theorem ka15 (C : Rx b sv z tx N g) (hN : N ≤ 900) (hx : ∀ j, tx j < 256) (hn : 400000 ≤ n) {a e i : Nat} (h6 : g.I (b + 72) 6 = nI a) (h7 : g.I (b + 72) 7 = nI e) (hae : a ≤ e) (he : e ≤ N) (hi : i < 23) (k4 : Nat → Int32 → Int32 → Option Int32) : ∀ d j f, j + d = (keyL.getD i []).length → d < f → j ≤ e - a → (∀ q, q < j → tx (a + q) = (keyL.getD i []).getD q 0) → f_X12_keyAt_15 n z g k4 f (b + 72) (nI i) (nI (kyP i)) (nI j) = if slc tx a (e - a) = keyL.getD i [] then some (nI i) else k4 (b + 72) (nI (i + 1)) (nI (kyP (i + 1))) := by
  obtain ⟨k1, k2, k3, k4'⟩ := ky_ok i hi
  have hl := ky_len.1
  have s97 : f_X12_keyAt_97 n z g k4 n (b + 72) (nI i) (nI (kyP i)) = k4 (b + 72) (nI (i + 1)) (nI (kyP (i + 1))) := ka97 C hi k4 (keyL.getD i []).length 0 n (by omega) (by omega)
  have s69 : ∀ j, j < (keyL.getD i []).length → f_X12_keyAt_69 n z g k4 (b + 72) (nI i) (nI (kyP i)) (nI j) = k4 (b + 72) (nI (i + 1)) (nI (kyP (i + 1))) := by
    intro j hj
    have h1 := k4' j hj
    unfold f_X12_keyAt_69
    rw [nI_add, chr_s C.2.2.2 (by decide) (by decide) (by omega), bS, h1.1, if_neg (show ¬ (nI ((keyL.getD i []).getD j 0) = 32) from fun q => h1.2.1 ((nI_inj (j := 32) (by omega) (by decide)).mp q))]
    exact s97
  intro d
  induction d with
  | zero =>
    intro j f hj hf hje hq
    obtain ⟨f, rfl⟩ : ∃ q, f = q + 1 := ⟨f - 1, by omega⟩
    obtain rfl : j = (keyL.getD i []).length := by omega
    rw [f_X12_keyAt_15.eq_2, nI_add, chr_s C.2.2.2 (by decide) (by decide) (by omega), bS, k3, if_pos (show nI 32 = 32 from rfl)]
    unfold f_X12_keyAt_69
    rw [nI_add, chr_s C.2.2.2 (by decide) (by decide) (by omega), bS, k3, if_pos (show nI 32 = 32 from rfl), gI_ok (km_0 C.1), bS, gI_ok (km_0 C.1), bS, h6, h7, nI_add]
    by_cases q : e - a = (keyL.getD i []).length
    · rw [if_pos (by rw [show a + (keyL.getD i []).length = e by omega]), if_pos (slc_eq.mpr ⟨q, fun j hj => hq j hj⟩)]
    · rw [if_neg (fun w => q (by
        have := (nI_inj (by omega) (by omega)).mp w
        omega)), if_neg (fun w => q (slc_eq.mp w).1)]
      exact s97
  | succ d ih =>
    intro j f hj hf hje hq
    obtain ⟨f, rfl⟩ : ∃ q, f = q + 1 := ⟨f - 1, by omega⟩
    have h1 := k4' j (by omega)
    rw [f_X12_keyAt_15.eq_2, nI_add, chr_s C.2.2.2 (by decide) (by decide) (by omega), bS, h1.1, if_neg (show ¬ (nI ((keyL.getD i []).getD j 0) = 32) from fun q => h1.2.1 ((nI_inj (j := 32) (by omega) (by decide)).mp q)), gI_ok (km_0 C.1), bS, gI_ok (km_0 C.1), bS, h6, h7, nI_add]
    by_cases q : e ≤ a + j
    · rw [if_pos ((nI_leI (by omega) (by omega)).mpr q), s69 j (by omega), if_neg (fun w => by
        have := (slc_eq.mp w).1
        omega)]
    · have hv := hx (a + j)
      rw [if_neg (fun w => q ((nI_leI (by omega) (by omega)).mp w)), gR_ok (km_0 C.1) (rm_3 C.1), bS, bS, nI_add, lm_3 C.1 (show a + j < 900 by omega), bS, bS, C.2.2.1 (a + j) (by omega)]
      by_cases q2 : tx (a + j) = (keyL.getD i []).getD j 0
      · rw [if_pos (by rw [q2]), bS, nI_1]
        exact ih (j + 1) f (by omega) (by omega) (by omega) (fun r hr => by
          rcases (by omega : r < j ∨ r = j) with w | rfl
          · exact hq r w
          · exact q2)
      · rw [if_neg (fun w => q2 ((nI_inj (by omega) (by omega)).mp w)), s69 j (by omega), if_neg (fun w => q2 ((slc_eq.mp w).2 j (by omega)))]
theorem ka4 (C : Rx b sv z tx N g) (hN : N ≤ 900) (hx : ∀ j, tx j < 256) (hn : 400000 ≤ n) {a e : Nat} (h6 : g.I (b + 72) 6 = nI a) (h7 : g.I (b + 72) 7 = nI e) (hae : a ≤ e) (he : e ≤ N) : ∀ d i f, i + d = 23 → d < f → (∀ q, q < i → keyO (slc tx a (e - a)) ≠ q) → f_X12_keyAt_4 n z g f (b + 72) (nI i) (nI (kyP i)) = some (nI (keyO (slc tx a (e - a)))) := by
  intro d
  induction d with
  | zero =>
    intro i f hi hf hq
    obtain ⟨f, rfl⟩ : ∃ q, f = q + 1 := ⟨f - 1, by omega⟩
    obtain rfl : i = 23 := by omega
    have k1 := keyO_le (slc tx a (e - a))
    have k2 : keyO (slc tx a (e - a)) = 23 := by
      rcases (by omega : keyO (slc tx a (e - a)) < 23 ∨ keyO (slc tx a (e - a)) = 23) with w | w
      · exact absurd rfl (hq _ w)
      · exact w
    rw [f_X12_keyAt_4.eq_2, len_s C.2.2.2 (by decide) (by decide), bS, ky_len.1, ky_len.2.1, if_pos (by decide), k2]
    rfl
  | succ d ih =>
    intro i f hi hf hq
    obtain ⟨f, rfl⟩ : ∃ q, f = q + 1 := ⟨f - 1, by omega⟩
    have k0 := ky_ok i (by omega)
    have h15 := ka15 (n := n) C hN hx hn h6 h7 hae he (i := i) (by omega) (f_X12_keyAt_4 n z g f) (keyL.getD i []).length 0 n (by omega) (by omega) (by omega) (fun q hq => by omega)
    rw [f_X12_keyAt_4.eq_2, len_s C.2.2.2 (by decide) (by decide), bS, ky_len.1, if_neg (fun w => by
      have := (nI_leI (by omega) (by omega)).mp w
      omega)]
    refine (show f_X12_keyAt_15 n z g (f_X12_keyAt_4 n z g f) n (b + 72) (nI i) (nI (kyP i)) 0 = _ from h15).trans ?_
    by_cases q : slc tx a (e - a) = keyL.getD i []
    · rw [if_pos q, (keyO_iff (show i < 23 by omega)).mpr q]
    · rw [if_neg q]
      exact ih (i + 1) f (by omega) (by omega) (fun r hr => by
        rcases (by omega : r < i ∨ r = i) with w | rfl
        · exact hq r w
        · exact fun w => q ((keyO_iff (by omega)).mp w))
theorem keyAt_ok (C : Rx b sv z tx N g) (hN : N ≤ 900) (hx : ∀ j, tx j < 256) (hn : 400000 ≤ n) {a e : Nat} (h6 : g.I (b + 72) 6 = nI a) (h7 : g.I (b + 72) 7 = nI e) (hae : a ≤ e) (he : e ≤ N) : f_X12_keyAt n z g (b + 72) = some (nI (keyO (slc tx a (e - a)))) := by
  unfold f_X12_keyAt
  rw [if_pos (km_0 C.1)]
  exact ka4 (n := n) C hN hx hn h6 h7 hae he 23 0 n rfl (by omega) (fun q hq => by omega)
theorem next_r (hN : N ≤ 900) (hx : ∀ j, tx j < 256) (hn : 400000 ≤ n) {e : Nat} (C : Rx b sv z tx N g) (he : e ≤ N) (h7 : g.I (b + 72) 7 = nI e) : ∃ g', f_X12_next n z g (b + 72) = some g' ∧ Sm b g g' ∧ g'.I (b + 72) 6 = nI (tkN tx N e).1 ∧ g'.I (b + 72) 7 = nI (tkN tx N e).2.1 ∧ g'.I (b + 72) 9 = nI (tkN tx N e).2.2.1 ∧ ((tkN tx N e).2.2.1 = 24 → g'.I (b + 72) 10 = nI (tkN tx N e).2.2.2) := by
  have g2' := sk_le (fun j => lBl (tx j)) (N - e) e
  obtain ⟨j, g2, s1, s2, s3, s4⟩ := mx8 (n := n) hN hx (N - e) e n (g.setI (b + 72) 6 (nI e)) (C.sm (Sm.st (by omega))) sI_eq (by omega) (by omega)
  have S2 := (Sm.st (b := b) (h := g) (k := 6) (v := nI e) (by omega)).tr s1
  have C2 := C.sm S2
  have hU : f_X12_next n z g (b + 72) = f_X12_next_8 n z (j + 1) g2 (b + 72) := by
    unfold f_X12_next
    rw [if_pos (km_0 C.1), gI_ok (km_0 C.1), bS, pI_ok (km_0 C.1), bS, h7]
    exact s4
  rw [hU, f_X12_next_8.eq_2]
  generalize ha : sk (fun j => lBl (tx j)) (N - e) e = a at *
  have K := km_0 C2.1
  have C3 := C2.sm (Sm.st (k := 7) (v := nI a) (by omega))
  have e6 : (g2.setI (b + 72) 7 (nI a)).I (b + 72) 6 = nI a := (sI_ne (by decide)).trans s2
  by_cases h1 : a < N
  · have c1 : nI a < nI N := (nI_lt2 (by omega) (by omega)).mpr h1
    obtain ⟨n1, n2⟩ := bl_ne (hx a) (s3 h1)
    simp only [gI_ok K, bS, s2, see_in C2 hN h1, n1, n2, if_false, pI_ok K, e6, C3.2.1, c1, if_true, see_in C3 hN h1, lLe_r (hx a)]
    by_cases q1 : lLe (tx a) = true
    · rw [tkN_w ha h1 q1, if_pos q1, if_neg (by decide)]
      have k2 := sk_ge (fun j => lLe (tx j)) (N - a) a
      have k3 := sk_le (fun j => lLe (tx j)) (N - a) a
      obtain ⟨g', t1, t2, t3, t4⟩ := mx89 (n := n) hN hx (N - a) a n (g2.setI (b + 72) 7 (nI a)) C3 sI_eq (by omega) (by omega)
      have C4 := C3.sm t1
      have hk := keyAt_ok (n := n) C4 hN hx hn (t3.trans e6) t2 k2 (by omega)
      have k1 := keyO_le (slc tx a (sk (fun j => lLe (tx j)) (N - a) a - a))
      rw [t4, hk, bS, pI_ok (km_0 C4.1), bS]
      refine ⟨_, rfl, S2.tr (((Sm.st (by omega)).tr t1).tr (Sm.st (by omega))), ?_, ?_, sI_eq, fun q => ?_⟩
      · rw [sI_ne (by decide), t3]
        exact e6
      · rw [sI_ne (by decide)]
        exact t2
      · exfalso
        have q : keyO (slc tx a (sk (fun j => lLe (tx j)) (N - a) a - a)) = 24 := q
        omega
    · rw [if_neg q1, if_pos rfl]
      by_cases q2 : lDi (tx a) = true
      · rw [tkN_d ha h1 q1 q2]
        simp only [lDi_r (hx a), bS]
        rw [if_pos q2, if_neg (show ¬ ((1 : Int32) = 0) by decide)]
        obtain ⟨g', t1, t2, t3, t4, t5, t6⟩ := mx146 (n := n) hN hx (a := a) (N - a) a n ((g2.setI (b + 72) 7 (nI a)).setI (b + 72) 10 0) (C3.sm (Sm.st (by omega))) ((sI_ne (by decide)).trans e6) ((sI_ne (by decide)).trans sI_eq) (sI_eq.trans (by
          rw [Nat.sub_self]
          rfl)) (Nat.le_refl _) (by omega) (by omega)
        exact ⟨g', t1, S2.tr (((Sm.st (by omega)).tr (Sm.st (by omega))).tr t2), t3, t4, t5, fun _ => t6⟩
      · rw [tkN_s ha h1 q1 q2]
        simp only [lDi_r (hx a), bS]
        rw [if_neg q2, if_pos (show (0 : Int32) = 0 from rfl), sI_eq, nI_1]
        have C5 := (C3.sm (Sm.st (k := 7) (v := nI (a + 1)) (by omega))).sm (Sm.st (k := 9) (v := 26) (by omega))
        obtain ⟨g', t1, t2, t3, t4, t5⟩ := mx254 (n := n) hN hx h1 12 0 n (((g2.setI (b + 72) 7 (nI a)).setI (b + 72) 7 (nI (a + 1))).setI (b + 72) 9 26) C5 ((sI_ne (by decide)).trans ((sI_ne (by decide)).trans e6)) (sI_eq.trans (by rw [if_neg (by omega)]; rfl)) rfl (by omega)
        refine ⟨g', t1, S2.tr ((((Sm.st (by omega)).tr (Sm.st (by omega))).tr (Sm.st (by omega))).tr t2), t3, t4.trans ((sI_ne (by decide)).trans sI_eq), t5, fun w => ?_⟩
        exfalso
        have w : sgnO (tx a) = 24 := w
        unfold sgnO at w
        split at w <;> omega
  · obtain rfl : a = N := by omega
    have c1 : ¬ (nI a < nI a) := fun w => h1 ((nI_lt2 (by omega) (by omega)).mp w)
    rw [tkN_e ha h1]
    have n1 : ¬ ((-1 : Int32) = 10) := by decide
    have n2 : ¬ ((-1 : Int32) = 32) := by decide
    simp only [gI_ok K, bS, s2, see_out C2 hN, n1, n2, if_false, pI_ok K, e6, C3.2.1, c1]
    exact ⟨_, rfl, S2.tr ((Sm.st (by omega)).tr (Sm.st (by omega))), (sI_ne (by decide)).trans e6, (sI_ne (by decide)).trans sI_eq, sI_eq, fun w => by cases w⟩
end
