/-! ===== town, 2: the class's reader, its small steps ===== -/
theorem sI_eq {h : Hp} {a k : Nat} {v : Int32} : (h.setI a k v).I a k = v := by
  rw [setI_I, if_pos rfl]
  unfold upd
  rw [if_pos rfl]
theorem sI_ne {h : Hp} {a k j : Nat} {v : Int32} (hj : j ≠ k) : (h.setI a k v).I a j = h.I a j := by
  rw [setI_I, if_pos rfl]
  unfold upd
  rw [if_neg hj]
theorem sI_o {h : Hp} {a k c : Nat} {v : Int32} (hc : c ≠ a) : (h.setI a k v).I c = h.I c := by
  rw [setI_I, if_neg hc]
theorem tkN_w {tx : Nat → Nat} {N e a : Nat} (ha : sk (fun j => lBl (tx j)) (N - e) e = a) (h1 : a < N) (h2 : lLe (tx a) = true) : tkN tx N e = (a, sk (fun j => lLe (tx j)) (N - a) a, keyO (slc tx a (sk (fun j => lLe (tx j)) (N - a) a - a)), 0) := by
  subst ha
  unfold tkN
  simp only
  rw [if_pos h1, if_pos h2]
theorem tkN_d {tx : Nat → Nat} {N e a : Nat} (ha : sk (fun j => lBl (tx j)) (N - e) e = a) (h1 : a < N) (h2 : ¬ lLe (tx a) = true) (h3 : lDi (tx a) = true) : tkN tx N e = (a, sk (fun j => lDi (tx j)) (N - a) a, if sk (fun j => lDi (tx j)) (N - a) a - a ≤ 3 then 24 else 26, nuv tx a (min 3 (sk (fun j => lDi (tx j)) (N - a) a - a))) := by
  subst ha
  unfold tkN
  simp only
  rw [if_pos h1, if_neg h2, if_pos h3]
theorem tkN_s {tx : Nat → Nat} {N e a : Nat} (ha : sk (fun j => lBl (tx j)) (N - e) e = a) (h1 : a < N) (h2 : ¬ lLe (tx a) = true) (h3 : ¬ lDi (tx a) = true) : tkN tx N e = (a, a + 1, sgnO (tx a), 0) := by
  subst ha
  unfold tkN
  simp only
  rw [if_pos h1, if_neg h2, if_neg h3]
theorem tkN_e {tx : Nat → Nat} {N e a : Nat} (ha : sk (fun j => lBl (tx j)) (N - e) e = a) (h1 : ¬ a < N) : tkN tx N e = (a, a, 25, 0) := by
  subst ha
  unfold tkN
  simp only
  rw [if_neg h1]
theorem nuv_lt {tx : Nat → Nat} {a : Nat} : ∀ k, (∀ j, j < k → lDi (tx (a + j)) = true) → nuv tx a k < 10 ^ k := by
  intro k
  induction k with
  | zero => exact fun _ => Nat.zero_lt_one
  | succ k ih =>
    intro h
    have h1 := ih (fun j hj => h j (by omega))
    have h2 := h k (by omega)
    have h2 : 48 ≤ tx (a + k) ∧ tx (a + k) ≤ 57 := of_decide_eq_true h2
    unfold nuv
    rw [Nat.pow_succ]
    omega
/-- what is known of a token -/
theorem tk_ok {tx : Nat → Nat} {N e : Nat} (he : e ≤ N) : e ≤ (tkN tx N e).1 ∧ (tkN tx N e).1 ≤ (tkN tx N e).2.1 ∧ (tkN tx N e).2.1 ≤ N ∧ ((tkN tx N e).2.2.1 ≠ 25 → (tkN tx N e).1 < (tkN tx N e).2.1) ∧ ((tkN tx N e).2.2.1 = 24 → (tkN tx N e).2.2.2 < 1000) ∧ (tkN tx N e).2.2.1 < 42 := by
  have g1 := sk_ge (fun j => lBl (tx j)) (N - e) e
  have g2 := sk_le (fun j => lBl (tx j)) (N - e) e
  generalize ha : sk (fun j => lBl (tx j)) (N - e) e = a at *
  by_cases h1 : a < N
  · by_cases h2 : lLe (tx a) = true
    · rw [tkN_w ha h1 h2]
      have e1 := sk_1 (d := N - a) (p := fun j => lLe (tx j)) h2 (by omega)
      have e2 := sk_ge (fun j => lLe (tx j)) (N - a - 1) (a + 1)
      have e3 := sk_le (fun j => lLe (tx j)) (N - a) a
      have k1 := keyO_le (slc tx a (sk (fun j => lLe (tx j)) (N - a) a - a))
      refine ⟨g1, ?_, ?_, fun _ => ?_, fun q => ?_, ?_⟩
      · show a ≤ sk (fun j => lLe (tx j)) (N - a) a
        omega
      · show sk (fun j => lLe (tx j)) (N - a) a ≤ N
        omega
      · show a < sk (fun j => lLe (tx j)) (N - a) a
        omega
      · exact (by decide : (0 : Nat) < 1000)
      · show keyO (slc tx a (sk (fun j => lLe (tx j)) (N - a) a - a)) < 42
        omega
    · by_cases h3 : lDi (tx a) = true
      · rw [tkN_d ha h1 h2 h3]
        have e1 := sk_1 (d := N - a) (p := fun j => lDi (tx j)) h3 (by omega)
        have e2 := sk_ge (fun j => lDi (tx j)) (N - a - 1) (a + 1)
        have e3 := sk_le (fun j => lDi (tx j)) (N - a) a
        have e4 := sk_all (fun j => lDi (tx j)) (N - a) a
        refine ⟨g1, ?_, ?_, fun _ => ?_, fun q => ?_, ?_⟩
        · show a ≤ sk (fun j => lDi (tx j)) (N - a) a
          omega
        · show sk (fun j => lDi (tx j)) (N - a) a ≤ N
          omega
        · show a < sk (fun j => lDi (tx j)) (N - a) a
          omega
        · show nuv tx a (min 3 (sk (fun j => lDi (tx j)) (N - a) a - a)) < 1000
          have := nuv_lt (tx := tx) (a := a) (min 3 (sk (fun j => lDi (tx j)) (N - a) a - a)) (fun j hj => e4 (a + j) (by omega) (by omega))
          have h5 : 10 ^ (min 3 (sk (fun j => lDi (tx j)) (N - a) a - a)) ≤ 10 ^ 3 := Nat.pow_le_pow_right (by decide) (by omega)
          omega
        · show (if sk (fun j => lDi (tx j)) (N - a) a - a ≤ 3 then 24 else 26) < 42
          split <;> decide
      · rw [tkN_s ha h1 h2 h3]
        refine ⟨g1, Nat.le_succ a, h1, fun _ => Nat.lt_succ_self a, fun q => (by decide : (0 : Nat) < 1000), ?_⟩
        show sgnO (tx a) < 42
        unfold sgnO
        split <;> omega
  · rw [tkN_e ha h1]
    exact ⟨g1, Nat.le_refl _, by show a ≤ N; omega, fun q => absurd rfl q, fun q => (by decide : (0 : Nat) < 1000), (by decide : (25 : Nat) < 42)⟩
def ZC (b : Nat) (z : Sh) : Prop := z.K (b + 1) = 13 ∧ z.N (b + 1) = 900 ∧ z.K (b + 2) = 6 ∧ z.K (b + 7) = 14 ∧ z.N (b + 7) = 900
def Cx (b : Nat) (sv : Nat → Nat) (z : Sh) (tx : Nat → Nat) (N : Nat) (h : Hp) : Prop :=
  (h.R (b + 2) 2 = some (b + 1) ∧ h.I (b + 2) 1 = -1) ∧ h.R (b + 2) 10 = some (b + 7) ∧ h.I (b + 2) 3 = nI N ∧ (∀ j, j < N → h.I (b + 1) j &&& 255 = nI (tx j)) ∧ StrH b sv z h
def Sb (b : Nat) (h h' : Hp) : Prop := (∀ a, h'.R a = h.R a) ∧ (∀ a, h'.J a = h.J a) ∧ (∀ a, a ≠ b + 2 → h'.I a = h.I a) ∧ ∀ k, k ≠ 4 → k ≠ 5 → k ≠ 6 → k ≠ 7 → h'.I (b + 2) k = h.I (b + 2) k
theorem Sb.rf {b : Nat} {h : Hp} : Sb b h h := ⟨fun _ => rfl, fun _ => rfl, fun _ _ => rfl, fun _ _ _ _ _ => rfl⟩
theorem Sb.tr {b : Nat} {h h' h'' : Hp} (A : Sb b h h') (B : Sb b h' h'') : Sb b h h'' := ⟨fun a => (B.1 a).trans (A.1 a), fun a => (B.2.1 a).trans (A.2.1 a), fun a q => (B.2.2.1 a q).trans (A.2.2.1 a q), fun k q1 q2 q3 q4 => (B.2.2.2 k q1 q2 q3 q4).trans (A.2.2.2 k q1 q2 q3 q4)⟩
theorem Sb.st {b : Nat} {h : Hp} {k : Nat} {v : Int32} (hk : k = 4 ∨ k = 5 ∨ k = 6 ∨ k = 7) : Sb b h (h.setI (b + 2) k v) := ⟨fun _ => rfl, fun _ => rfl, fun _ q => sI_o q, fun j q1 q2 q3 q4 => sI_ne (by omega)⟩
theorem StrH.mv {b : Nat} {sv : Nat → Nat} {z : Sh} {h h' : Hp} (S : StrH b sv z h) (h1 : ∀ a, a < b → h'.I a = h.I a) (h2 : ∀ a, a < b → h'.R a = h.R a) : StrH b sv z h' := fun s q1 q2 => by
  obtain ⟨a1, a2, a3, a4, a5, a6⟩ := S s q1 q2
  refine ⟨a1, a2, ?_, a4, a5, fun j hj => ?_⟩
  · rw [h2 _ a1]
    exact a3
  · rw [h1 _ a2]
    exact a6 j hj
theorem Cx.sb {b : Nat} {sv : Nat → Nat} {z : Sh} {tx : Nat → Nat} {N : Nat} {h h' : Hp} (C : Cx b sv z tx N h) (S : Sb b h h') : Cx b sv z tx N h' := by
  obtain ⟨c1, c2, c3, c4, c5⟩ := C
  refine ⟨?_, ?_, ?_, fun j hj => ?_, c5.mv (fun a ha => S.2.2.1 a (by omega)) (fun a _ => S.1 a)⟩
  · rw [S.1, S.2.2.2 1 (by decide) (by decide) (by decide) (by decide)]
    exact c1
  · rw [S.1]
    exact c2
  · rw [S.2.2.2 3 (by decide) (by decide) (by decide) (by decide)]
    exact c3
  · rw [S.2.2.1 (b + 1) (by omega)]
    exact c4 j hj
section
variable {n b N : Nat} {sv : Nat → Nat} {z : Sh} {tx : Nat → Nat}
theorem bA {h : Hp} (Z : ZC b z) (C : Cx b sv z tx N h) (hN : N ≤ 900) {j : Nat} (hj : j < N) : f_X6_byteAt z h (b + 2) (nI j) = some (nI (tx j)) := by
  have c1 : ¬ (nI j < 0) := nI_pos (by omega)
  have c2 : ¬ (nI 900 ≤ nI j) := fun q => by
    rw [nI_leI (by decide) (by omega)] at q
    omega
  simp only [f_X6_byteAt, Z.2.2.1, eq_self, if_true, c1, if_false, gR_ok Z.2.2.1 C.1.1, bS, aL_ok Z.1 rfl Z.2.1, c2, ldB_ok (Or.inl Z.1) Z.2.1 rfl (show j < 900 by omega) (by decide), C.2.2.2.1 j hj]
theorem lBl_c {h : Hp} {v : Nat} (hv : v < 256) : f_X6_isBlank z h (nI v) = some (if lBl v = true then 1 else 0) := by
  unfold f_X6_isBlank
  have e1 : (nI v = 10) ↔ v = 10 := nI_inj (j := 10) (by omega) (by decide)
  have e2 : (nI v = 32) ↔ v = 32 := nI_inj (j := 32) (by omega) (by decide)
  by_cases q1 : v = 10
  · rw [if_pos (e1.mpr q1), if_pos (show lBl v = true from decide_eq_true (Or.inl q1))]
  · rw [if_neg (fun q => q1 (e1.mp q))]
    by_cases q2 : v = 32
    · rw [if_pos (e2.mpr q2), if_pos (show lBl v = true from decide_eq_true (Or.inr q2))]
    · rw [if_neg (fun q => q2 (e2.mp q)), if_neg (fun q => by
        have : v = 10 ∨ v = 32 := of_decide_eq_true q
        omega)]
theorem rng_c {v lo hi : Nat} (hv : v < 256) (h1 : lo < 256) (h2 : hi < 256) : (if nI v < nI lo then (some 0 : Option Int32) else if nI hi < nI v then some 0 else some 1) = some (if decide (lo ≤ v ∧ v ≤ hi) = true then 1 else 0) := by
  have e1 : (nI v < nI lo) ↔ v < lo := nI_lt2 (by omega) (by omega)
  have e2 : (nI hi < nI v) ↔ hi < v := nI_lt2 (by omega) (by omega)
  by_cases q1 : v < lo
  · rw [if_pos (e1.mpr q1), if_neg (fun q => by
      have := of_decide_eq_true q
      omega)]
  · rw [if_neg (fun q => q1 (e1.mp q))]
    by_cases q2 : hi < v
    · rw [if_pos (e2.mpr q2), if_neg (fun q => by
        have := of_decide_eq_true q
        omega)]
    · rw [if_neg (fun q => q2 (e2.mp q)), if_pos (decide_eq_true (by omega))]
theorem lLe_c {h : Hp} {v : Nat} (hv : v < 256) : f_X6_isLetter z h (nI v) = some (if lLe v = true then 1 else 0) := rng_c hv (by decide) (by decide)
theorem lDi_c {h : Hp} {v : Nat} (hv : v < 256) : f_X6_isDigit z h (nI v) = some (if lDi v = true then 1 else 0) := rng_c hv (by decide) (by decide)
theorem nx8 (Z : ZC b z) (hN : N ≤ 900) (hx : ∀ j, tx j < 256) : ∀ d e i (h : Hp), Cx b sv z tx N h → h.I (b + 2) 4 = nI e → e + d = N → d < i → ∃ h', Sb b h h' ∧ h'.I (b + 2) 4 = nI (sk (fun j => lBl (tx j)) d e) ∧ f_X6_next_8 n z i h (b + 2) = f_X6_next_46 n z h' (b + 2) := by
  intro d
  induction d with
  | zero =>
    intro e i h C h4 he hi
    obtain ⟨i, rfl⟩ : ∃ q, i = q + 1 := ⟨i - 1, by omega⟩
    have c1 : nI N ≤ nI e := (nI_leI (by omega) (by omega)).mpr (by omega)
    refine ⟨h, Sb.rf, h4, ?_⟩
    rw [f_X6_next_8.eq_2]
    simp only [gI_ok Z.2.2.1, bS, h4, C.2.2.1, c1, if_true]
  | succ d ih =>
    intro e i h C h4 he hi
    obtain ⟨i, rfl⟩ : ∃ q, i = q + 1 := ⟨i - 1, by omega⟩
    have c1 : ¬ (nI N ≤ nI e) := fun q => by
      rw [nI_leI (by omega) (by omega)] at q
      omega
    rw [f_X6_next_8.eq_2]
    simp only [gI_ok Z.2.2.1, bS, h4, C.2.2.1, c1, if_false, bA Z C hN (show e < N by omega), lBl_c (hx e)]
    by_cases q : lBl (tx e) = true
    · obtain ⟨h', s1, s2, s3⟩ := ih (e + 1) i (h.setI (b + 2) 4 (nI (e + 1))) (C.sb (Sb.st (Or.inl rfl))) sI_eq (by omega) (by omega)
      refine ⟨h', (Sb.st (Or.inl rfl)).tr s1, ?_, ?_⟩
      · rw [sk_1 (p := fun j => lBl (tx j)) q (by omega)]
        exact s2
      · rw [if_pos q, if_neg (by decide), pI_ok Z.2.2.1, bS, nI_1]
        exact s3
    · refine ⟨h, Sb.rf, ?_, ?_⟩
      · rw [sk_0 (p := fun j => lBl (tx j)) (by
          cases h : lBl (tx e) with
          | true => exact absurd h q
          | false => rfl)]
        exact h4
      · rw [if_neg q, if_pos rfl]
theorem nx102 (Z : ZC b z) (hN : N ≤ 900) (hx : ∀ j, tx j < 256) : ∀ d e i (h : Hp), Cx b sv z tx N h → h.I (b + 2) 5 = nI e → e + d = N → d < i → ∃ h', Sb b h h' ∧ h'.I (b + 2) 5 = nI (sk (fun j => lLe (tx j)) d e) ∧ h'.I (b + 2) 4 = h.I (b + 2) 4 ∧ h'.I (b + 2) 6 = h.I (b + 2) 6 ∧ f_X6_next_102 n z i h (b + 2) = some h' := by
  intro d
  induction d with
  | zero =>
    intro e i h C h4 he hi
    obtain ⟨i, rfl⟩ : ∃ q, i = q + 1 := ⟨i - 1, by omega⟩
    have c1 : nI N ≤ nI e := (nI_leI (by omega) (by omega)).mpr (by omega)
    refine ⟨h, Sb.rf, h4, rfl, rfl, ?_⟩
    rw [f_X6_next_102.eq_2]
    simp only [gI_ok Z.2.2.1, bS, h4, C.2.2.1, c1, if_true]
  | succ d ih =>
    intro e i h C h4 he hi
    obtain ⟨i, rfl⟩ : ∃ q, i = q + 1 := ⟨i - 1, by omega⟩
    have c1 : ¬ (nI N ≤ nI e) := fun q => by
      rw [nI_leI (by omega) (by omega)] at q
      omega
    rw [f_X6_next_102.eq_2]
    simp only [gI_ok Z.2.2.1, bS, h4, C.2.2.1, c1, if_false, bA Z C hN (show e < N by omega), lLe_c (hx e)]
    by_cases q : lLe (tx e) = true
    · obtain ⟨h', s1, s2, s3, s4, s5⟩ := ih (e + 1) i (h.setI (b + 2) 5 (nI (e + 1))) (C.sb (Sb.st (by omega))) sI_eq (by omega) (by omega)
      refine ⟨h', (Sb.st (by omega)).tr s1, ?_, s3.trans (sI_ne (by decide)), s4.trans (sI_ne (by decide)), ?_⟩
      · rw [sk_1 (p := fun j => lLe (tx j)) q (by omega)]
        exact s2
      · rw [if_pos q, if_neg (by decide), pI_ok Z.2.2.1, bS, nI_1]
        exact s5
    · refine ⟨h, Sb.rf, ?_, rfl, rfl, ?_⟩
      · rw [sk_0 (p := fun j => lLe (tx j)) (by
          cases h : lLe (tx e) with
          | true => exact absurd h q
          | false => rfl)]
        exact h4
      · rw [if_neg q, if_pos rfl]
theorem nx15 (Z : ZC b z) (hN : N ≤ 900) (hx : ∀ j, tx j < 256) {a : Nat} : ∀ d e i (h : Hp), Cx b sv z tx N h → h.I (b + 2) 4 = nI a → h.I (b + 2) 5 = nI e → h.I (b + 2) 7 = nI (nuv tx a (min 3 (e - a))) → a < e → e + d = N → d < i → ∃ h', Sb b h h' ∧ h'.I (b + 2) 4 = nI a ∧ h'.I (b + 2) 5 = nI (sk (fun j => lDi (tx j)) d e) ∧ h'.I (b + 2) 7 = nI (nuv tx a (min 3 (sk (fun j => lDi (tx j)) d e - a))) ∧ f_X6_next_155 n z i h (b + 2) = f_X6_next_229 n z h' (b + 2) := by
  intro d
  induction d with
  | zero =>
    intro e i h C h4 h5 h7 ha he hi
    obtain ⟨i, rfl⟩ : ∃ q, i = q + 1 := ⟨i - 1, by omega⟩
    have c1 : nI N ≤ nI e := (nI_leI (by omega) (by omega)).mpr (by omega)
    refine ⟨h, Sb.rf, h4, h5, h7, ?_⟩
    rw [f_X6_next_155.eq_2]
    simp only [gI_ok Z.2.2.1, bS, h5, C.2.2.1, c1, if_true]
  | succ d ih =>
    intro e i h C h4 h5 h7 ha he hi
    obtain ⟨i, rfl⟩ : ∃ q, i = q + 1 := ⟨i - 1, by omega⟩
    have c1 : ¬ (nI N ≤ nI e) := fun q => by
      rw [nI_leI (by omega) (by omega)] at q
      omega
    rw [f_X6_next_155.eq_2]
    simp only [gI_ok Z.2.2.1, bS, h5, C.2.2.1, c1, if_false, bA Z C hN (show e < N by omega), lDi_c (hx e)]
    by_cases q : lDi (tx e) = true
    · have hd : 48 ≤ tx e ∧ tx e ≤ 57 := of_decide_eq_true q
      rw [if_pos q, if_neg (by decide), h4, nI_sub (by omega)]
      by_cases c3 : 3 ≤ e - a
      · obtain ⟨h', s1, s2, s3, s4, s5⟩ := ih (e + 1) i (h.setI (b + 2) 5 (nI (e + 1))) (C.sb (Sb.st (by omega))) ((sI_ne (by decide)).trans h4) sI_eq (((sI_ne (by decide)).trans h7).trans (by rw [show min 3 (e + 1 - a) = min 3 (e - a) by omega])) (by omega) (by omega) (by omega)
        refine ⟨h', (Sb.st (by omega)).tr s1, s2, ?_, ?_, ?_⟩
        · rw [sk_1 (p := fun j => lDi (tx j)) q (by omega)]
          exact s3
        · rw [sk_1 (p := fun j => lDi (tx j)) q (by omega)]
          exact s4
        · rw [if_pos (show (3 : Int32) ≤ nI (e - a) from (nI_leI (a := 3) (by decide) (by omega)).mpr c3)]
          unfold f_X6_next_216
          rw [gI_ok Z.2.2.1, bS, pI_ok Z.2.2.1, bS, h5, nI_1]
          exact s5
      · have hv : nI (nuv tx a (min 3 (e - a))) * 10 + nI (tx e) - 48 = nI (nuv tx a (min 3 (e + 1 - a))) := by
          rw [show (10 : Int32) = nI 10 from rfl, show (48 : Int32) = nI 48 from rfl, nI_mul, nI_add, nI_sub (by omega), show min 3 (e + 1 - a) = min 3 (e - a) + 1 by omega]
          show _ = nI (10 * nuv tx a (min 3 (e - a)) + (tx (a + min 3 (e - a)) - 48))
          rw [show a + min 3 (e - a) = e by omega]
          congr 1
          omega
        have C1 := C.sb (Sb.st (k := 7) (v := nI (nuv tx a (min 3 (e + 1 - a)))) (by omega))
        obtain ⟨h', s1, s2, s3, s4, s5⟩ := ih (e + 1) i ((h.setI (b + 2) 7 (nI (nuv tx a (min 3 (e + 1 - a))))).setI (b + 2) 5 (nI (e + 1))) (C1.sb (Sb.st (by omega))) ((sI_ne (by decide)).trans ((sI_ne (by decide)).trans h4)) sI_eq ((sI_ne (by decide)).trans sI_eq) (by omega) (by omega) (by omega)
        refine ⟨h', ((Sb.st (by omega)).tr (Sb.st (by omega))).tr s1, s2, ?_, ?_, ?_⟩
        · rw [sk_1 (p := fun j => lDi (tx j)) q (by omega)]
          exact s3
        · rw [sk_1 (p := fun j => lDi (tx j)) q (by omega)]
          exact s4
        · rw [if_neg (show ¬ (3 : Int32) ≤ nI (e - a) from fun w => c3 ((nI_leI (a := 3) (by decide) (by omega)).mp w)), h7, hv, pI_ok Z.2.2.1, bS]
          unfold f_X6_next_216
          rw [gI_ok Z.2.2.1, bS, pI_ok Z.2.2.1, bS, sI_ne (by decide), h5, nI_1]
          exact s5
    · refine ⟨h, Sb.rf, h4, ?_, ?_, ?_⟩
      · rw [sk_0 (p := fun j => lDi (tx j)) (by
          cases h : lDi (tx e) with
          | true => exact absurd h q
          | false => rfl)]
        exact h5
      · rw [sk_0 (p := fun j => lDi (tx j)) (by
          cases h : lDi (tx e) with
          | true => exact absurd h q
          | false => rfl)]
        exact h7
      · rw [if_neg q, if_pos rfl]
theorem next_c (Z : ZC b z) (hN : N ≤ 900) (hx : ∀ j, tx j < 256) (hn : 400000 ≤ n) {h : Hp} {e : Nat} (C : Cx b sv z tx N h) (he : e ≤ N) (h5 : h.I (b + 2) 5 = nI e) : ∃ h', f_X6_next n z h (b + 2) = some h' ∧ Sb b h h' ∧ h'.I (b + 2) 4 = nI (tkN tx N e).1 ∧ h'.I (b + 2) 5 = nI (tkN tx N e).2.1 ∧ h'.I (b + 2) 6 = nI (ckO (tkN tx N e).2.2.1) ∧ ((tkN tx N e).2.2.1 = 24 → h'.I (b + 2) 7 = nI (tkN tx N e).2.2.2) := by
  have g2 := sk_le (fun j => lBl (tx j)) (N - e) e
  obtain ⟨h2, s1, s2, s3⟩ := nx8 (n := n) Z hN hx (N - e) e n (h.setI (b + 2) 4 (nI e)) (C.sb (Sb.st (by omega))) sI_eq (by omega) (by omega)
  have S2 := (Sb.st (b := b) (h := h) (k := 4) (v := nI e) (by omega)).tr s1
  have C2 := C.sb S2
  have hU : f_X6_next n z h (b + 2) = f_X6_next_46 n z h2 (b + 2) := by
    unfold f_X6_next
    rw [if_pos Z.2.2.1, gI_ok Z.2.2.1, bS, pI_ok Z.2.2.1, bS, h5]
    exact s3
  rw [hU]
  generalize ha : sk (fun j => lBl (tx j)) (N - e) e = a at *
  unfold f_X6_next_46
  by_cases h1 : a < N
  · have c1 : nI a < nI N := (nI_lt2 (by omega) (by omega)).mpr h1
    have C3 := C2.sb (Sb.st (k := 5) (v := nI (a + 1)) (by omega))
    have e4 : (h2.setI (b + 2) 5 (nI (a + 1))).I (b + 2) 4 = nI a := (sI_ne (by decide)).trans s2
    simp only [gI_ok Z.2.2.1, bS, s2, C2.2.2.1, c1, if_true, pI_ok Z.2.2.1, nI_1, e4, bA Z C3 hN h1, lLe_c (hx a)]
    by_cases q1 : lLe (tx a) = true
    · rw [tkN_w ha h1 q1, if_pos q1, if_neg (by decide)]
      obtain ⟨h', t1, t2, t3, t4, t5⟩ := nx102 (n := n) Z hN hx (N - (a + 1)) (a + 1) n ((h2.setI (b + 2) 5 (nI (a + 1))).setI (b + 2) 6 0) (C3.sb (Sb.st (by omega))) ((sI_ne (by decide)).trans sI_eq) (by omega) (by omega)
      have k1 := keyO_le (slc tx a (sk (fun j => lLe (tx j)) (N - a) a - a))
      refine ⟨h', t5, S2.tr (((Sb.st (by omega)).tr (Sb.st (by omega))).tr t1), ?_, ?_, ?_, fun q => ?_⟩
      · rw [t3, sI_ne (by decide)]
        exact e4
      · rw [t2]
        show _ = nI (sk (fun j => lLe (tx j)) (N - a) a)
        rw [sk_1 (p := fun j => lLe (tx j)) q1 (by omega), Nat.sub_sub]
      · rw [t4, sI_eq]
        show 0 = nI (ckO (keyO (slc tx a (sk (fun j => lLe (tx j)) (N - a) a - a))))
        rw [ckO_w k1]
        rfl
      · exfalso
        have q : keyO (slc tx a (sk (fun j => lLe (tx j)) (N - a) a - a)) = 24 := q
        omega
    · rw [if_neg q1, if_pos rfl]
      by_cases q2 : lDi (tx a) = true
      · rw [tkN_d ha h1 q1 q2]
        simp only [lDi_c (hx a), bS]
        rw [if_pos q2, if_neg (show ¬ ((1 : Int32) = 0) by decide)]
        have hd : 48 ≤ tx a ∧ tx a ≤ 57 := of_decide_eq_true q2
        have C4 := C3.sb (Sb.st (k := 7) (v := nI (tx a - 48)) (by omega))
        obtain ⟨h', t1, t2, t3, t4, t5⟩ := nx15 (n := n) Z hN hx (a := a) (N - (a + 1)) (a + 1) n ((h2.setI (b + 2) 5 (nI (a + 1))).setI (b + 2) 7 (nI (tx a - 48))) C4 ((sI_ne (by decide)).trans e4) ((sI_ne (by decide)).trans sI_eq) (sI_eq.trans (by
          rw [show a + 1 - a = 1 by omega]
          show nI (tx a - 48) = nI (10 * 0 + (tx (a + 0) - 48))
          rw [Nat.add_zero, Nat.mul_zero, Nat.zero_add])) (by omega) (by omega) (by omega)
        rw [show nI (tx a) - 48 = nI (tx a - 48) from nI_sub (b := 48) (by omega), t5]
        have eE : sk (fun j => lDi (tx j)) (N - a) a = sk (fun j => lDi (tx j)) (N - (a + 1)) (a + 1) := by
          rw [sk_1 (p := fun j => lDi (tx j)) q2 (by omega), Nat.sub_sub]
        have eG := sk_ge (fun j => lDi (tx j)) (N - (a + 1)) (a + 1)
        have eL := sk_le (fun j => lDi (tx j)) (N - (a + 1)) (a + 1)
        unfold f_X6_next_229
        simp only [gI_ok Z.2.2.1, bS, t2, t3, pI_ok Z.2.2.1]
        rw [nI_sub (by omega), eE]
        generalize sk (fun j => lDi (tx j)) (N - (a + 1)) (a + 1) = E at *
        have S6 := S2.tr (((Sb.st (k := 5) (v := nI (a + 1)) (by omega)).tr (Sb.st (k := 7) (v := nI (tx a - 48)) (by omega))).tr t1)
        by_cases q3 : E - a ≤ 3
        · refine ⟨h'.setI (b + 2) 6 1, ?_, S6.tr (Sb.st (by omega)), (sI_ne (by decide)).trans t2, (sI_ne (by decide)).trans t3, ?_, fun _ => (sI_ne (by decide)).trans t4⟩
          · rw [if_pos (show nI (E - a) ≤ 3 from (nI_leI (b := 3) (by omega) (by decide)).mpr q3)]
          · rw [sI_eq]
            show 1 = nI (ckO (if E - a ≤ 3 then 24 else 26))
            rw [if_pos q3]
            rfl
        · refine ⟨h'.setI (b + 2) 6 4, ?_, S6.tr (Sb.st (by omega)), (sI_ne (by decide)).trans t2, (sI_ne (by decide)).trans t3, ?_, fun _ => (sI_ne (by decide)).trans t4⟩
          · rw [if_neg (show ¬ nI (E - a) ≤ 3 from fun w => q3 ((nI_leI (b := 3) (by omega) (by decide)).mp w))]
          · rw [sI_eq]
            show 4 = nI (ckO (if E - a ≤ 3 then 24 else 26))
            rw [if_neg q3]
            rfl
      · rw [tkN_s ha h1 q1 q2]
        simp only [lDi_c (hx a), bS]
        rw [if_neg q2, if_pos (show (0 : Int32) = 0 from rfl)]
        obtain ⟨x, x1, x2⟩ := idx_s (n := n) C3.2.2.2.2 (hx a) (by omega)
        rw [x1, bS]
        by_cases q3 : x < 0
        · have q4 := x2.mp q3
          have q5 : ¬ sgI (tx a) < 12 := fun w => q4 (sgI (tx a)) w ((sgI_iff w).mp rfl).symm
          refine ⟨(h2.setI (b + 2) 5 (nI (a + 1))).setI (b + 2) 6 4, ?_, S2.tr ((Sb.st (by omega)).tr (Sb.st (by omega))), (sI_ne (by decide)).trans e4, (sI_ne (by decide)).trans sI_eq, ?_, fun w => ?_⟩
          · rw [if_pos q3]
          · rw [sI_eq]
            show 4 = nI (ckO (sgnO (tx a)))
            unfold sgnO
            rw [if_neg q5]
            rfl
          · exfalso
            have w : sgnO (tx a) = 24 := w
            unfold sgnO at w
            rw [if_neg q5] at w
            omega
        · have q5 : sgI (tx a) < 12 := by
            by_cases w : sgI (tx a) < 12
            · exact w
            · exfalso
              refine q3 (x2.mpr (fun j hj hq => w ?_))
              rw [(sgI_iff hj).mpr hq.symm]
              exact hj
          refine ⟨(h2.setI (b + 2) 5 (nI (a + 1))).setI (b + 2) 6 2, ?_, S2.tr ((Sb.st (by omega)).tr (Sb.st (by omega))), (sI_ne (by decide)).trans e4, (sI_ne (by decide)).trans sI_eq, ?_, fun w => ?_⟩
          · rw [if_neg q3]
          · rw [sI_eq]
            show 2 = nI (ckO (sgnO (tx a)))
            unfold sgnO ckO
            rw [if_pos q5, if_neg (by omega), if_neg (by omega), if_neg (by omega), if_neg (by omega)]
            rfl
          · exfalso
            have w : sgnO (tx a) = 24 := w
            unfold sgnO at w
            rw [if_pos q5] at w
            omega
  · have c1 : ¬ (nI a < nI N) := fun w => h1 ((nI_lt2 (by omega) (by omega)).mp w)
    rw [tkN_e ha h1]
    simp only [gI_ok Z.2.2.1, bS, s2, C2.2.2.1, c1, if_false, pI_ok Z.2.2.1]
    exact ⟨_, rfl, S2.tr ((Sb.st (by omega)).tr (Sb.st (by omega))), (sI_ne (by decide)).trans ((sI_ne (by decide)).trans s2), (sI_ne (by decide)).trans sI_eq, sI_eq, fun w => by cases w⟩
end
