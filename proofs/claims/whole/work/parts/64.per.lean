/-! ===== deeds keep people in order ===== -/
theorem dl_k {A : Nat → Int32} {p k : Nat} {y la st hs : Int32} (h6 : p < 6) (hk : k < 17 ∨ 66 ≤ k) : dl A p y la st hs k = A k := by
  unfold dl
  rw [if_neg (by omega), if_neg (by omega), if_neg (by omega), if_neg (by omega)]
theorem dr_k {A : Nat → Int32} {p k : Nat} {o y : Int32} (h6 : p < 6) (hk : k < 17 ∨ 66 ≤ k) : dr A p o y k = A k := by
  unfold dr
  rw [if_neg (by omega), if_neg (by omega), if_neg (by omega), if_neg (by omega), if_neg (by omega)]
theorem go_k {A : Nat → Int32} {p k : Nat} {n : Int32} (h6 : p < 6) (hk : k < 17 ∨ 66 ≤ k) : go A p n k = A k := by
  unfold go
  rw [if_neg (by omega), if_neg (by omega), if_neg (by omega)]
theorem aLive_k {τ : TT} {P : Nat} {A : Nat → Int32} {p t : Int} {k : Nat} (h6 : P ≤ 6) (hk : k < 17 ∨ 66 ≤ k) : (aLive τ P A p t).2 k = A k := by
  unfold aLive
  split
  · split
    · exact dl_k (by omega) hk
    · rfl
  · rfl
theorem aDraw_k {τ : TT} {P : Nat} {A : Nat → Int32} {p : Int} {k : Nat} (h6 : P ≤ 6) (hk : k < 17 ∨ 66 ≤ k) : (aDraw τ P A p).2 k = A k := by
  unfold aDraw
  split
  · split
    · split
      · exact dr_k (by omega) hk
      · rfl
    · rfl
  · rfl
theorem aPledge_k {P : Nat} {A : Nat → Int32} {p n : Int} {k : Nat} (h6 : P ≤ 6) (hk : k < 17 ∨ 66 ≤ k) : (aPledge P A p n).2 k = A k := by
  unfold aPledge
  split
  · split
    · split
      · split
        · exact go_k (by omega) hk
        · rfl
      · rfl
    · rfl
  · rfl
theorem aRedeem_k {P : Nat} {A : Nat → Int32} {p : Int} {k : Nat} (h6 : P ≤ 6) (hk : k < 17 ∨ 66 ≤ k) : (aRedeem P A p).2 k = A k := by
  unfold aRedeem
  split
  · split
    · rfl
    · exact go_k (by omega) hk
  · rfl
/-- a person's numbers -/
theorem Per_st {τ : TT} (hτ : TownOK τ) {A : Nat → Int32} {p : Nat} (H : PerOK τ A p) : SOK τ (nv A (24 + p)) (nv A (48 + p)) (nv A (18 + p)) (nv A (36 + p)) (nv A (42 + p)) ∧ SV τ (aS A p) ∧ sL (aS A p) = nv A (24 + p) ∧ sO (aS A p) = nv A (48 + p) ∧ sY (aS A p) = nv A (18 + p) ∧ sA (aS A p) = nv A (36 + p) ∧ sT (aS A p) = nv A (42 + p) ∧ A (24 + p) = nI (nv A (24 + p)) ∧ A (48 + p) = nI (nv A (48 + p)) ∧ A (18 + p) = nI (nv A (18 + p)) ∧ A (36 + p) = nI (nv A (36 + p)) ∧ A (42 + p) = nI (nv A (42 + p)) ∧ A (54 + p) = nI (nv A (54 + p)) ∧ nv A (54 + p) ≤ 9 ∧ A (60 + p) = nI (nv A (60 + p)) ∧ nv A (60 + p) ≤ 99 ∧ (nv A (24 + p) = 2 → nv A (60 + p) = 0) ∧ A (11 + p) = nI (nv A (11 + p)) ∧ nv A (11 + p) ≤ 9 ∧ (-300 ≤ (A (30 + p)).toInt ∧ (A (30 + p)).toInt ≤ 300) := by
  obtain ⟨y, l, la, st, o, tal, pl, fe, hs, h1, h2, h3, h4, h5, h6, h7, h8, h9, h10, h11, h12, h13, h14, h15⟩ := H
  obtain ⟨⟨g1, g2⟩, ⟨g3, g4⟩, -⟩ := id hτ
  have h10' := h10
  obtain ⟨k1, k2, k3⟩ := h10'
  have e1 := nv_of h1 (by omega)
  have e2 := nv_of h2 (by omega)
  have e4 := nv_of h4 (by omega)
  have e5 := nv_of h5 (by omega)
  have e6 := nv_of h6 (by omega)
  have e7 := nv_of h7 (by omega)
  have e8 := nv_of h8 (by omega)
  have e9 := nv_of h9 (by omega)
  have e3 : (A (30 + p)).toInt = hs := by rw [h3, iI_to (by omega) (by omega)]
  unfold aS
  rw [e1, e2, e4, e5, e6, e7, e8, e9]
  obtain ⟨q1, q2, q3, q4, q5, q6⟩ := SV_of hτ h10
  exact ⟨h10, q1, q2, q3, q4, q5, q6, h2, h6, h1, h4, h5, h7, h11, h8, h12, h13, h9, h14, by omega, by omega⟩
theorem aLive_per {τ : TT} (hτ : TownOK τ) {P : Nat} (h6 : P ≤ 6) {A : Nat → Int32} (H : ∀ p, p < P → PerOK τ A p) (p t : Int) : ∀ p', p' < P → PerOK τ (aLive τ P A p t).2 p' := by
  intro p' hp'
  unfold aLive
  split
  · rename_i hc
    split
    · rename_i hy
      by_cases e : p' = p.toNat
      · subst e
        obtain ⟨y, l, la, st, o, tal, pl, fe, hs, h1, h2, h3, h4, h5, h6', h7, h8, h9, h10, h11, h12, h13, h14, h15⟩ := H _ hp'
        obtain ⟨⟨g1, g2⟩, ⟨g3, g4⟩, -⟩ := id hτ
        obtain ⟨k1, k2, k3⟩ := h10
        have w := wV_bd τ (nv A (54 + p.toNat)) (aS A p.toNat) t.toNat
        have e1 := nv_of h1 (by omega)
        have e5 := nv_of h5 (by omega)
        have e4 := nv_of h4 (by omega)
        rw [e1] at hy
        have hc2 := hc.2
        refine ⟨y + 1, l, t.toNat, (if la = t.toNat then st + 1 else 1), o, tal, pl, fe, hs + wV τ (nv A (54 + p.toNat)) (aS A p.toNat) t.toNat, ?_, ?_, ?_, ?_, ?_, ?_, ?_, ?_, ?_, ⟨k1, by omega, Or.inr ⟨by omega, ?_, ?_⟩⟩, h11, h12, h13, h14, by omega, by omega⟩
        · dsimp only; unfold dl; rw [if_pos rfl, e1]
        · dsimp only; unfold dl; rw [if_neg (by omega), if_neg (by omega), if_neg (by omega), if_neg (by omega)]; exact h2
        · dsimp only; unfold dl; rw [if_neg (by omega), if_pos rfl, h3, iI_add]
        · dsimp only; unfold dl; rw [if_neg (by omega), if_neg (by omega), if_pos rfl]
        · dsimp only; unfold dl; rw [if_neg (by omega), if_neg (by omega), if_neg (by omega), if_pos rfl, e4, e5]
        · dsimp only; unfold dl; rw [if_neg (by omega), if_neg (by omega), if_neg (by omega), if_neg (by omega)]; exact h6'
        · dsimp only; unfold dl; rw [if_neg (by omega), if_neg (by omega), if_neg (by omega), if_neg (by omega)]; exact h7
        · dsimp only; unfold dl; rw [if_neg (by omega), if_neg (by omega), if_neg (by omega), if_neg (by omega)]; exact h8
        · dsimp only; unfold dl; rw [if_neg (by omega), if_neg (by omega), if_neg (by omega), if_neg (by omega)]; exact h9
        · split <;> omega
        · split <;> omega
      · exact Per_up (H p' hp') (fun w hw => dl_ot (by omega) (by omega) e hw)
    · exact H p' hp'
  · exact H p' hp'
theorem aDraw_per {τ : TT} (hτ : TownOK τ) {P : Nat} (h6 : P ≤ 6) {A : Nat → Int32} (H : ∀ p, p < P → PerOK τ A p) (p : Int) : ∀ p', p' < P → PerOK τ (aDraw τ P A p).2 p' := by
  intro p' hp'
  unfold aDraw
  split
  · rename_i hc
    split
    · rename_i hl
      split
      · rename_i hpl
        by_cases e : p' = p.toNat
        · subst e
          obtain ⟨y, l, la, st, o, tal, pl, fe, hs, h1, h2, h3, h4, h5, h6', h7, h8, h9, h10, h11, h12, h13, h14, h15⟩ := H _ hp'
          obtain ⟨⟨g1, g2⟩, ⟨g3, g4⟩, -⟩ := id hτ
          obtain ⟨k1, k2, k3⟩ := h10
          have e1 := nv_of h1 (by omega)
          have e2 := nv_of h2 (by omega)
          have e8 := nv_of h8 (by omega)
          have g := gV_le τ (nv A (54 + p.toNat)) y
          rw [e1]
          rw [e2] at hl
          rw [e8] at hpl
          refine ⟨gV τ (nv A (54 + p.toNat)) y, 2, 9, 0, y, tal, pl, fe, hs, ?_, ?_, ?_, ?_, ?_, ?_, ?_, ?_, ?_, ⟨Or.inr ⟨rfl, k2⟩, g, Or.inl ⟨rfl, rfl⟩⟩, h11, h12, fun _ => hpl, h14, by omega, by omega⟩
          · dsimp only; unfold dr; rw [if_pos rfl]
          · dsimp only; unfold dr; rw [if_neg (by omega), if_pos rfl]
          · dsimp only; unfold dr; rw [if_neg (by omega), if_neg (by omega), if_neg (by omega), if_neg (by omega), if_neg (by omega)]; exact h3
          · dsimp only; unfold dr; rw [if_neg (by omega), if_neg (by omega), if_pos rfl]
          · dsimp only; unfold dr; rw [if_neg (by omega), if_neg (by omega), if_neg (by omega), if_pos rfl]
          · dsimp only; unfold dr; rw [if_neg (by omega), if_neg (by omega), if_neg (by omega), if_neg (by omega), if_pos rfl]
          · dsimp only; unfold dr; rw [if_neg (by omega), if_neg (by omega), if_neg (by omega), if_neg (by omega), if_neg (by omega)]; exact h7
          · dsimp only; unfold dr; rw [if_neg (by omega), if_neg (by omega), if_neg (by omega), if_neg (by omega), if_neg (by omega)]; exact h8
          · dsimp only; unfold dr; rw [if_neg (by omega), if_neg (by omega), if_neg (by omega), if_neg (by omega), if_neg (by omega)]; exact h9
        · exact Per_up (H p' hp') (fun w hw => dr_ot (by omega) (by omega) e hw)
      · exact H p' hp'
    · exact H p' hp'
  · exact H p' hp'
theorem go_per {τ : TT} {P : Nat} (h6 : P ≤ 6) {A : Nat → Int32} (H : ∀ p, p < P → PerOK τ A p) {p : Nat} (hp : p < P) {n : Int} {pl : Nat} (hn : n = -(nv A (60 + p) : Int) ∨ (nv A (60 + p) = 0 ∧ nv A (24 + p) = 1 ∧ 1 ≤ n ∧ n ≤ 99)) : ∀ p', p' < P → PerOK τ (go A p (iI n)) p' := by
  intro p' hp'
  by_cases e : p' = p
  · subst e
    obtain ⟨y, l, la, st, o, tal, pl, fe, hs, h1, h2, h3, h4, h5, h6', h7, h8, h9, h10, h11, h12, h13, h14, h15⟩ := H _ hp'
    obtain ⟨k1, k2, k3⟩ := id h10
    have e2 := nv_of h2 (by omega)
    have e8 := nv_of h8 (by omega)
    rw [e8, e2] at hn
    refine ⟨y, l, la, st, o, tal, (pl + n).toNat, fe, hs + n, ?_, ?_, ?_, ?_, ?_, ?_, ?_, ?_, ?_, h10, h11, by omega, by omega, h14, by omega, by omega⟩
    · unfold go; rw [if_neg (by omega), if_neg (by omega), if_neg (by omega)]; exact h1
    · unfold go; rw [if_neg (by omega), if_neg (by omega), if_neg (by omega)]; exact h2
    · unfold go; rw [if_neg (by omega), if_pos rfl, h3, iI_add]
    · unfold go; rw [if_neg (by omega), if_neg (by omega), if_neg (by omega)]; exact h4
    · unfold go; rw [if_neg (by omega), if_neg (by omega), if_neg (by omega)]; exact h5
    · unfold go; rw [if_neg (by omega), if_neg (by omega), if_neg (by omega)]; exact h6'
    · unfold go; rw [if_neg (by omega), if_neg (by omega), if_neg (by omega)]; exact h7
    · unfold go; rw [if_pos rfl, h8, nI_iI, nI_iI, iI_add]
      congr 1
      omega
    · unfold go; rw [if_neg (by omega), if_neg (by omega), if_neg (by omega)]; exact h9
  · exact Per_up (H p' hp') (fun w hw => go_ot (by omega) (by omega) e hw)
theorem aPledge_per {τ : TT} {P : Nat} (h6 : P ≤ 6) {A : Nat → Int32} (H : ∀ p, p < P → PerOK τ A p) (p n : Int) : ∀ p', p' < P → PerOK τ (aPledge P A p n).2 p' := by
  unfold aPledge
  split
  · rename_i hc
    split
    · rename_i hl
      split
      · rename_i hpl
        split
        · exact go_per (pl := 0) h6 H (by omega) (Or.inr ⟨hpl, hl, hc.2.1, hc.2.2⟩)
        · exact H
      · exact H
    · exact H
  · exact H
theorem aRedeem_per {τ : TT} {P : Nat} (h6 : P ≤ 6) {A : Nat → Int32} (H : ∀ p, p < P → PerOK τ A p) (p : Int) : ∀ p', p' < P → PerOK τ (aRedeem P A p).2 p' := by
  unfold aRedeem
  split
  · rename_i hc
    split
    · exact H
    · have e : A (60 + p.toNat) = nI (nv A (60 + p.toNat)) := by
        obtain ⟨y, l, la, st, o, tal, pl, fe, hs, h1, h2, h3, h4, h5, h6', h7, h8, h9, h10, h11, h12, h13, h14, h15⟩ := H p.toNat (by omega)
        rw [nv_of h8 (by omega)]
        exact h8
      have := go_per (pl := 0) h6 H (p := p.toNat) (by omega) (n := -(nv A (60 + p.toNat) : Int)) (Or.inl rfl)
      rw [e, nI_iI, iI_neg]
      rw [nv] at this ⊢
      exact this
  · exact H
