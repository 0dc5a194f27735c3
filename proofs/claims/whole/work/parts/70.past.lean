/-! ===== the past on both sides ===== -/
theorem PplI.ext {τ : TT} {P : Nat} {o r A A' : Nat → Int32} (h6 : P ≤ 6) (h : ∀ k, 11 ≤ k → k < 66 → A' k = A k) (H : PplI τ P o r A) : PplI τ P o r A' := by
  obtain ⟨⟨h1, h2, h3⟩, h4⟩ := H
  have e : ∀ p, p < P → ∀ w, w < 9 → A' (pos w + p) = A (pos w + p) := fun p hp w hw => by
    have := pos_cases hw
    exact h _ (by omega) (by omega)
  exact ⟨⟨h1, by rw [h 17 (by omega) (by omega)]; exact h2, fun p hp w hw => by rw [e p hp w hw]; exact h3 p hp w hw⟩, fun p hp => Per_up (h4 p hp) (e p hp)⟩
theorem PeopleX.cp {o r A o' r' : Nat → Int32} {P : Nat} (h6 : P ≤ 6) (H : PeopleX o r A P) (h1 : o' 1 = o 1) (h2 : o' 2 = o 2) (h3 : ∀ k, k < 54 → r' k = r k) : PeopleX o' r' A P := ⟨h1.trans H.1, h2.trans H.2.1, fun p hp w hw => (h3 _ (by omega)).trans (H.2.2 p hp w hw)⟩
theorem cp54 {f g : Nat → Int32} {k : Nat} (hk : k < 54) : va_cpy f g 0 0 54 k = f k := by
  unfold va_cpy
  rw [if_pos (by omega)]
  congr 1
  omega
theorem kept_PL {z : Sh} {h : Hp} {b : Nat} (HX : LayX z h.2.2 b) {i : Nat} (hi : i < 10) : PL z h.2.2 (b + 17 + 2 * i) (b + 18 + 2 * i) ∧ h.R (b + 16) i = some (b + 17 + 2 * i) := by
  have mk : ∀ {q r k : Nat}, q < 72 → r < 72 → kX q = 5 → kX r = 14 → nX r = 54 → q ≠ r → (q, 0, r) ∈ rX → (16, k, q) ∈ rX → PL z h.2.2 (b + q) (b + r) ∧ h.R (b + 16) k = some (b + q) := fun hq hr k1 k2 k3 hne m1 m2 => ⟨⟨(HX.1 _ hq).1.trans k1, HX.2 _ m1, (HX.1 _ hr).1.trans k2, (HX.1 _ hr).2.trans k3, by omega⟩, HX.2 _ m2⟩
  rw [Nat.add_assoc b, Nat.add_assoc b]
  match i, hi with
  | 0, _ => exact mk (by decide) (by decide) rfl rfl rfl (by decide) (List.mem_of_getElem? (i := 32) rfl) (List.mem_of_getElem? (i := 22) rfl)
  | 1, _ => exact mk (by decide) (by decide) rfl rfl rfl (by decide) (List.mem_of_getElem? (i := 33) rfl) (List.mem_of_getElem? (i := 23) rfl)
  | 2, _ => exact mk (by decide) (by decide) rfl rfl rfl (by decide) (List.mem_of_getElem? (i := 34) rfl) (List.mem_of_getElem? (i := 24) rfl)
  | 3, _ => exact mk (by decide) (by decide) rfl rfl rfl (by decide) (List.mem_of_getElem? (i := 35) rfl) (List.mem_of_getElem? (i := 25) rfl)
  | 4, _ => exact mk (by decide) (by decide) rfl rfl rfl (by decide) (List.mem_of_getElem? (i := 36) rfl) (List.mem_of_getElem? (i := 26) rfl)
  | 5, _ => exact mk (by decide) (by decide) rfl rfl rfl (by decide) (List.mem_of_getElem? (i := 37) rfl) (List.mem_of_getElem? (i := 27) rfl)
  | 6, _ => exact mk (by decide) (by decide) rfl rfl rfl (by decide) (List.mem_of_getElem? (i := 38) rfl) (List.mem_of_getElem? (i := 28) rfl)
  | 7, _ => exact mk (by decide) (by decide) rfl rfl rfl (by decide) (List.mem_of_getElem? (i := 39) rfl) (List.mem_of_getElem? (i := 29) rfl)
  | 8, _ => exact mk (by decide) (by decide) rfl rfl rfl (by decide) (List.mem_of_getElem? (i := 40) rfl) (List.mem_of_getElem? (i := 30) rfl)
  | 9, _ => exact mk (by decide) (by decide) rfl rfl rfl (by decide) (List.mem_of_getElem? (i := 41) rfl) (List.mem_of_getElem? (i := 31) rfl)
  | i + 10, hi => omega
theorem now_PL {z : Sh} {h : Hp} {b : Nat} (HX : LayX z h.2.2 b) : PL z h.2.2 (b + 11) (b + 12) := ⟨kx_11 HX, rx_11_0 HX, kx_12 HX, nx_12 HX, by omega⟩
theorem trial_PL {z : Sh} {h : Hp} {b : Nat} (HX : LayX z h.2.2 b) : PL z h.2.2 (b + 13) (b + 14) := ⟨kx_13 HX, rx_13_0 HX, kx_14 HX, nx_14 HX, by omega⟩
theorem min_ok {z : Sh} {h : Hp} {a c : Nat} (h1 : a < 2147483648) (h2 : c < 2147483648) : f_J9_min_7cf53 z h (nI a) (nI c) = some (nI (min a c)) := by
  unfold f_J9_min_7cf53
  by_cases hc : c < a
  · rw [if_pos ((nI_lt2 h2 h1).mpr hc), Nat.min_eq_right (by omega)]
  · rw [if_neg (fun q => hc ((nI_lt2 h2 h1).mp q)), Nat.min_eq_left (by omega)]
/-- what keeping leaves -/
def keepH (h : Hp) (b q r nx sz : Nat) : Hp := ((h.rowI (b + 18 + 2 * nx) (va_cpy (h.I r) (h.I (b + 18 + 2 * nx)) 0 0 54)).rowI (b + 17 + 2 * nx) (upd (upd (h.I (b + 17 + 2 * nx)) 1 (h.I q 1)) 2 (h.I q 2))).rowI (b + 15) (upd (upd (h.I (b + 15)) 1 (nI ((nx + 1) % 10))) 2 (nI (min (sz + 1) 10)))
theorem keep_ok {z : Sh} {h : Hp} {b q r : Nat} (HX : LayX z h.2.2 b) (Q : Qd b q r) (HP : PL z h.2.2 q r) {nx sz : Nat} (hnx : nx < 10) (hsz : sz ≤ 10) (h1 : h.I (b + 15) 1 = nI nx) (h2 : h.I (b + 15) 2 = nI sz) : f_X4_keep z h (b + 15) q = some (keepH h b q r nx sz) := by
  obtain ⟨K1, K2⟩ := kept_PL HX hnx
  have hA : aL z (b + 16) = some (nI 10) := aL_ok (kx_16 HX) rfl (nx_16 HX)
  have hL : ldR z h 18 (b + 16) (nI nx) = some (b + 17 + 2 * nx) := ldR_ok (kx_16 HX) (nx_16 HX) rfl hnx (by omega) K2
  have hC := copy_ok (h := h) K1 HP (by unfold Qd at Q; omega) (by unfold Qd at Q; omega)
  unfold f_X4_keep keepH
  rw [if_pos (kx_15 HX), gI_ok (kx_15 HX), bS, h1, if_neg (nI_pos (by omega)), bS, gR_ok (kx_15 HX) (rx_15_0 HX), bS, hA, bS, if_pos ((nI_lt2 (by omega) (by omega)).mpr hnx), bS, bS, hL, bS, hC, bS]
  have e15 : ((h.rowI (b + 18 + 2 * nx) (va_cpy (h.I r) (h.I (b + 18 + 2 * nx)) 0 0 54)).rowI (b + 17 + 2 * nx) (upd (upd (h.I (b + 17 + 2 * nx)) 1 (h.I q 1)) 2 (h.I q 2))).I (b + 15) = h.I (b + 15) := by rw [rowI_ne _ _ (by omega), rowI_ne _ _ (by omega)]
  generalize (h.rowI (b + 18 + 2 * nx) (va_cpy (h.I r) (h.I (b + 18 + 2 * nx)) 0 0 54)).rowI (b + 17 + 2 * nx) (upd (upd (h.I (b + 17 + 2 * nx)) 1 (h.I q 1)) 2 (h.I q 2)) = g at *
  rw [gI_ok (kx_15 HX), bS, e15, h1, show (1 : Int32) = nI 1 from rfl, nI_add, show (10 : Int32) = nI 10 from rfl, rmI_ok (by omega) (by omega) (by omega), bS, pI_ok (kx_15 HX), bS, setI_row, e15, gI_ok (kx_15 HX), bS, rowI_I]
  have e2 : upd (h.I (b + 15)) 1 (nI ((nx + 1) % 10)) 2 = nI sz := by rw [upd, if_neg (by omega), h2]
  rw [e2, nI_add, min_ok (by omega) (by omega), bS, pI_ok (kx_15 HX), bS, setI_row, rowI_I, rowI_rowI]
/-- keeping the people of A, in the row and on the class's side -/
theorem Past_keep {τ : TT} {P : Nat} (h6 : P ≤ 6) {o' : Nat → Int32} {g g' : Nat → Nat → Int32} {A A1 w : Nat → Int32} {nx sz : Nat} (hnx : nx < 10) (hsz : sz ≤ 10) (h66 : A 66 = nI sz)
    (H : ∀ i, i < sz → PplI τ P (g (2 * ((nx + 10 - sz + i) % 10))) (g (2 * ((nx + 10 - sz + i) % 10) + 1)) (ovr A i))
    (H0 : PplI τ P (g' (2 * nx)) (g' (2 * nx + 1)) A) (hg : ∀ k, k < 20 → k ≠ 2 * nx → k ≠ 2 * nx + 1 → g' k = g k) (ho1 : o' 1 = nI ((nx + 1) % 10)) (ho2 : o' 2 = nI (min (sz + 1) 10))
    (hA1 : ∀ k, k < 17 ∨ 66 ≤ k → A1 k = A k) (hw : ∀ k, k < 49 → w k = A (17 + k)) : PastX τ P o' g' (notesRow A1 w sz) := by
  refine ⟨(nx + 1) % 10, min (sz + 1) 10, by omega, by omega, ho1, ho2, ?_, ?_⟩
  · unfold notesRow
    by_cases e : sz = 10
    · rw [if_pos e, upd, if_pos rfl, e]
      rfl
    · rw [if_neg e, upd, if_pos rfl, Nat.min_eq_left (by omega)]
  · intro i hi
    by_cases e : sz = 10
    · subst e
      rw [show min (10 + 1) 10 = 10 from rfl] at hi ⊢
      have hlow : ∀ k, 11 ≤ k → k < 17 → notesRow A1 w 10 k = A k := fun k k1 k2 => by
        unfold notesRow
        rw [if_pos rfl, upd, if_neg (by omega), cpy_up (by omega), upd, if_neg (by omega), shf, if_neg (by omega)]
        exact hA1 k (by omega)
      have hx : ((nx + 1) % 10 + 10 - 10 + i) % 10 = (nx + 1 + i) % 10 := by omega
      rw [hx]
      by_cases ei : i = 9
      · subst ei
        rw [show (nx + 1 + 9) % 10 = nx by omega]
        refine H0.ext h6 (fun k k1 k2 => ?_)
        unfold ovr
        by_cases c : 17 ≤ k ∧ k < 66
        · rw [if_pos c]
          unfold notesRow
          rw [if_pos rfl, upd, if_neg (by omega), cpy_in (by omega)]
          rw [show 0 + (67 + 49 * 9 + (k - 17) - 508) = k - 17 by omega, hw _ (by omega)]
          congr 1
          omega
        · rw [if_neg c]
          exact hlow k k1 (by omega)
      · have h1 := H (i + 1) (by omega)
        rw [show (nx + 10 - 10 + (i + 1)) % 10 = (nx + 1 + i) % 10 by omega] at h1
        rw [hg _ (by omega) (by omega) (by omega), hg _ (by omega) (by omega) (by omega)]
        refine h1.ext h6 (fun k k1 k2 => ?_)
        unfold ovr
        by_cases c : 17 ≤ k ∧ k < 66
        · rw [if_pos c, if_pos c]
          unfold notesRow
          rw [if_pos rfl, upd, if_neg (by omega), cpy_up (by omega), upd, if_neg (by omega), shf, if_pos (by omega), hA1 _ (by omega)]
          congr 1
          omega
        · rw [if_neg c, if_neg c]
          exact hlow k k1 (by omega)
    · have hm : min (sz + 1) 10 = sz + 1 := Nat.min_eq_left (by omega)
      rw [hm] at hi ⊢
      have hlow : ∀ k, 11 ≤ k → k < 17 → notesRow A1 w sz k = A k := fun k k1 k2 => by
        unfold notesRow
        rw [if_neg e, upd, if_neg (by omega), cpy_up (by omega)]
        exact hA1 k (by omega)
      by_cases ei : i = sz
      · subst ei
        rw [show ((nx + 1) % 10 + 10 - (i + 1) + i) % 10 = nx by omega]
        refine H0.ext h6 (fun k k1 k2 => ?_)
        unfold ovr
        by_cases c : 17 ≤ k ∧ k < 66
        · rw [if_pos c]
          unfold notesRow
          rw [if_neg e, upd, if_neg (by omega), cpy_in (by omega)]
          rw [show 0 + (67 + 49 * i + (k - 17) - (67 + 49 * i)) = k - 17 by omega, hw _ (by omega)]
          congr 1
          omega
        · rw [if_neg c]
          exact hlow k k1 (by omega)
      · have h1 := H i (by omega)
        rw [show ((nx + 1) % 10 + 10 - (sz + 1) + i) % 10 = (nx + 10 - sz + i) % 10 by omega]
        rw [hg _ (by omega) (by omega) (by omega), hg _ (by omega) (by omega) (by omega)]
        refine h1.ext h6 (fun k k1 k2 => ?_)
        unfold ovr
        by_cases c : 17 ≤ k ∧ k < 66
        · rw [if_pos c, if_pos c]
          unfold notesRow
          rw [if_neg e, upd, if_neg (by omega), cpy_up (by omega), hA1 _ (by omega)]
        · rw [if_neg c, if_neg c]
          exact hlow k k1 (by omega)
theorem notesRow_k {A w : Nat → Int32} {e k : Nat} (he : e ≤ 10) (hk : k < 66 ∨ 557 ≤ k) : notesRow A w e k = A k := by
  unfold notesRow
  by_cases c : e = 10
  · rw [if_pos c, upd, if_neg (by omega), cpy_up (by omega), upd, if_neg (by omega), shf, if_neg (by omega)]
  · rw [if_neg c, upd, if_neg (by omega), cpy_up (by omega)]
theorem PastX.ext {τ : TT} {P : Nat} (h6 : P ≤ 6) {o : Nat → Int32} {g : Nat → Nat → Int32} {A A' : Nat → Int32} (h : ∀ k, (11 ≤ k ∧ k < 17) ∨ (66 ≤ k ∧ k < 557) → A' k = A k) (H : PastX τ P o g A) : PastX τ P o g A' := by
  obtain ⟨nx, sz, h1, h2, h3, h4, h5, h7⟩ := H
  refine ⟨nx, sz, h1, h2, h3, h4, by rw [h 66 (by omega)]; exact h5, fun i hi => (h7 i hi).ext h6 (fun k k1 k2 => ?_)⟩
  unfold ovr
  by_cases c : 17 ≤ k ∧ k < 66
  · rw [if_pos c, if_pos c]
    exact h _ (by omega)
  · rw [if_neg c, if_neg c]
    exact h _ (by omega)
/-- all of the town and its people as they stand -/
def NowD (b : Nat) (z : Sh) (h : Hp) (t : Nat) (τ : TT) (P nx sz : Nat) : Prop := LayX z h.2.2 b ∧ RefI b z h τ P (h.I (b + 73)) ∧ h.R b 3 = some t ∧ TownX b z h t τ ∧ h.I t 5 = h.I (b + 73) 0 ∧ PplI τ P (h.I (b + 11)) (h.I (b + 12)) (h.I (b + 73)) ∧ (nx < 10 ∧ sz ≤ 10 ∧ h.I (b + 15) 1 = nI nx ∧ h.I (b + 15) 2 = nI sz ∧ h.I (b + 73) 66 = nI sz) ∧ ∀ i, i < sz → PplI τ P (h.I (b + 17 + 2 * ((nx + 10 - sz + i) % 10))) (h.I (b + 17 + (2 * ((nx + 10 - sz + i) % 10) + 1))) (ovr (h.I (b + 73)) i)
theorem Inv.now {z0 : Sh} {h0 : Hp} {b c : Nat} {z : Sh} {h : Hp} (I : Inv z0 h0 b c z h) : ∃ t τ P nx sz, NowD b z h t τ P nx sz := by
  obtain ⟨i1, i2, i3, ⟨t, τ, P, n1, n2, n3, n4, n5, n6, n7, n8, nx, sz, p1, p2, p3, p4, p5, p6⟩, -⟩ := I
  exact ⟨t, τ, P, nx, sz, i2, ⟨i3, n3, rfl, n4, n6, n7, n8.2⟩, n1, n2, n5, n8, ⟨p1, p2, p3, p4, p5⟩, p6⟩
/-- a call that changed people (and the past) leaves all in order -/
theorem Inv.deed {z0 : Sh} {h0 : Hp} {b c : Nat} {z : Sh} {h h' : Hp} (I : Inv z0 h0 b c z h) {t : Nat} {τ : TT} {P nx sz : Nat} (D : NowD b z h t τ P nx sz) (hR : h'.2.2 = h.2.2) (hJ : ∀ a, h'.J a = h.J a)
    (hI : ∀ a, ¬ (b + 11 ≤ a ∧ a < b + 37) → a ≠ b + 41 → a ≠ b + 42 → a ≠ b + 43 → a ≠ b + 72 → a ≠ b + 73 → ¬ (b + 76 ≤ a ∧ a ≤ b + 88) → h'.I a = h.I a)
    (h72 : ∀ k, k = 5 ∨ k = 13 ∨ k = 14 → h'.I (b + 72) k = h.I (b + 72) k) (h73 : ∀ k, k < 17 ∨ 557 ≤ k → h'.I (b + 73) k = h.I (b + 73) k)
    (m1 : PplI τ P (h'.I (b + 11)) (h'.I (b + 12)) (h'.I (b + 73))) (m2 : PastX τ P (h'.I (b + 15)) (fun k => h'.I (b + 17 + k)) (h'.I (b + 73))) : Inv z0 h0 b c z h' := by
  have F : Fr b h h' := by
    intro a ha
    unfold kW at ha
    refine ⟨hI a (by omega) (by omega) (by omega) (by omega) (by omega) (by omega) (by omega), hJ a, ?_⟩
    show h'.2.2 a = h.2.2 a
    rw [hR]
  have RR : ∀ a, h'.R a = h.R a := fun a => by
    show h'.2.2 a = h.2.2 a
    rw [hR]
  have hIk : ∀ k, ¬ (11 ≤ k ∧ k < 37) → k ≠ 41 → k ≠ 42 → k ≠ 43 → k ≠ 72 → k ≠ 73 → ¬ (76 ≤ k ∧ k ≤ 88) → h'.I (b + k) = h.I (b + k) := fun k k1 k2 k3 k4 k5 k6 k7 => hI _ (by omega) (by omega) (by omega) (by omega) (by omega) (by omega) (by omega)
  obtain ⟨i1, i2, i3, -, ⟨i5, i5'⟩, i6, i7, i8, i9⟩ := I
  obtain ⟨-, ⟨-, n3, -, n4, n6, n7, -⟩, n1, n2, n5, n8, -, -⟩ := D
  have hA : TownA (h'.I (b + 73)) τ := by
    have hl : ∀ {i d : Nat} {L : List Nat}, i < 2 → LawA (h.I (b + 73)) i L d → LawA (h'.I (b + 73)) i L d := by
      intro i d L hi HL
      rcases HL with ⟨e1, e2⟩ | ⟨e1, fr, e2, e3, e4, e5⟩
      · exact Or.inl ⟨by rw [h73 _ (by omega)]; exact e1, e2⟩
      · exact Or.inr ⟨by rw [h73 _ (by omega)]; exact e1, fr, by rw [h73 _ (by omega)]; exact e2, by rw [h73 _ (by omega)]; exact e3, e4, fun k hk => by rw [h73 _ (by omega)]; exact e5 k hk⟩
    obtain ⟨a1, a2, a3, a4, a5⟩ := n4
    exact ⟨by rw [h73 _ (by omega)]; exact a1, by rw [h73 _ (by omega)]; exact a2, by rw [h73 _ (by omega)]; exact a3, hl (by omega) a4, hl (by omega) a5⟩
  refine ⟨i1.fr F, by rw [hR]; exact i2, by rw [hR]; exact i3, ⟨t, τ, P, by rw [RR]; exact n1, n2.fr F, n3, hA, ?_, by rw [h73 _ (by omega)]; exact n6, n7, m1, m2⟩, ⟨i5.fr F (by omega) (by rw [RR]) (by rw [hIk 74 (by omega) (by omega) (by omega) (by omega) (by omega) (by omega) (by omega)]) (fun k hk => h73 k (by omega)) (fun k k1 k2 => hIk k (by omega) (by omega) (by omega) (by omega) (by omega) (by omega) (by omega)), i5'.fr F (by omega) (by rw [RR]) (by rw [hIk 74 (by omega) (by omega) (by omega) (by omega) (by omega) (by omega) (by omega)]) (fun k hk => h73 k (by omega)) (fun k k1 k2 => hIk k (by omega) (by omega) (by omega) (by omega) (by omega) (by omega) (by omega))⟩, i6.fr (fun k k1 k2 => hIk k (by omega) (by omega) (by omega) (by omega) (by omega) (by omega) (by omega)) (fun k k1 k2 => hJ _) (hIk 89 (by omega) (by omega) (by omega) (by omega) (by omega) (by omega) (by omega)) (hIk 90 (by omega) (by omega) (by omega) (by omega) (by omega) (by omega) (by omega)) (hJ _), i7.fr ?_ (hIk 1 (by omega) (by omega) (by omega) (by omega) (by omega) (by omega) (by omega)) ?_ ?_ (h72 5 (by omega)) (h72 13 (by omega)) (h72 14 (by omega)) (hIk 75 (by omega) (by omega) (by omega) (by omega) (by omega) (by omega) (by omega)), i8.fr F, i9.fr F⟩
  · rw [(F t n2.k).1, h73 0 (by omega)]
    exact n5
  · rw [hI b (by omega) (by omega) (by omega) (by omega) (by omega) (by omega) (by omega)]
  · rw [hIk 2 (by omega) (by omega) (by omega) (by omega) (by omega) (by omega) (by omega)]
  · rw [hIk 2 (by omega) (by omega) (by omega) (by omega) (by omega) (by omega) (by omega)]
/-! the class's part and the reference's part of a call -/
def Cc (b : Nat) (h h' : Hp) : Prop := h'.2.2 = h.2.2 ∧ (∀ a, h'.J a = h.J a) ∧ ∀ a, ¬ (b + 11 ≤ a ∧ a < b + 37) → a ≠ b + 41 → a ≠ b + 42 → a ≠ b + 43 → h'.I a = h.I a
theorem Cc.refl (b : Nat) (h : Hp) : Cc b h h := ⟨rfl, fun _ => rfl, fun _ _ _ _ _ => rfl⟩
theorem Cc.trans {b : Nat} {h h' h'' : Hp} (H : Cc b h h') (G : Cc b h' h'') : Cc b h h'' := ⟨G.1.trans H.1, fun a => (G.2.1 a).trans (H.2.1 a), fun a h1 h2 h3 h4 => (G.2.2 a h1 h2 h3 h4).trans (H.2.2 a h1 h2 h3 h4)⟩
theorem Ce.c {b q r : Nat} {h h' : Hp} (Q : Qd b q r) (H : Ce b q r h h') : Cc b h h' := ⟨H.1, H.2.1, fun a h1 h2 h3 h4 => H.2.2 a h2 h3 h4 (by unfold Qd at Q; omega) (by unfold Qd at Q; omega)⟩
theorem Cc.row {b : Nat} (h : Hp) {a : Nat} (f : Nat → Int32) (ha : b + 11 ≤ a ∧ a < b + 37) : Cc b h (h.rowI a f) := ⟨rfl, fun _ => rfl, fun c h1 h2 h3 h4 => rowI_ne h _ (by omega)⟩
theorem Cc.R {b : Nat} {h h' : Hp} (H : Cc b h h') (a : Nat) : h'.R a = h.R a := by
  show h'.2.2 a = h.2.2 a
  rw [H.1]
theorem Cc.i {b : Nat} {h h' : Hp} (H : Cc b h h') {k : Nat} (h1 : ¬ (11 ≤ k ∧ k < 37)) (h2 : k ≠ 41) (h3 : k ≠ 42) (h4 : k ≠ 43) : h'.I (b + k) = h.I (b + k) := H.2.2 _ (by omega) (by omega) (by omega) (by omega)
theorem Cc.fr {b : Nat} {h h' : Hp} (H : Cc b h h') : Fr b h h' := by
  intro a ha
  unfold kW at ha
  exact ⟨H.2.2 a (by omega) (by omega) (by omega) (by omega), H.2.1 a, H.R a⟩
def Re (b : Nat) (h h' : Hp) : Prop := h'.2.2 = h.2.2 ∧ (∀ a, h'.J a = h.J a) ∧ (∀ a, a ≠ b + 72 → a ≠ b + 73 → a ≠ b + 77 → a ≠ b + 78 → a ≠ b + 79 → h'.I a = h.I a) ∧ ∀ k, k = 5 ∨ k = 13 ∨ k = 14 → h'.I (b + 72) k = h.I (b + 72) k
theorem Re.refl (b : Nat) (h : Hp) : Re b h h := ⟨rfl, fun _ => rfl, fun _ _ _ _ _ _ => rfl, fun _ _ => rfl⟩
theorem Re.trans {b : Nat} {h h' h'' : Hp} (H : Re b h h') (G : Re b h' h'') : Re b h h'' := ⟨G.1.trans H.1, fun a => (G.2.1 a).trans (H.2.1 a), fun a h1 h2 h3 h4 h5 => (G.2.2.1 a h1 h2 h3 h4 h5).trans (H.2.2.1 a h1 h2 h3 h4 h5), fun k hk => (G.2.2.2 k hk).trans (H.2.2.2 k hk)⟩
theorem Rd.e {b : Nat} {h h' : Hp} (H : Rd b h h') : Re b h h' := ⟨H.1, H.2.1, fun a h1 h2 h3 h4 _ => H.2.2.1 a h1 h2 h3 h4, fun k hk => H.2.2.2 k (by omega) (by omega)⟩
theorem Re.row {b : Nat} (h : Hp) {a : Nat} (f : Nat → Int32) (ha : a = b + 73 ∨ a = b + 77 ∨ a = b + 78 ∨ a = b + 79) : Re b h (h.rowI a f) := ⟨rfl, fun _ => rfl, fun c h1 h2 h3 h4 h5 => rowI_ne h _ (by omega), fun k _ => by rw [rowI_ne h _ (by omega)]⟩
theorem Re.set {b : Nat} (h : Hp) {k : Nat} (v : Int32) (hk : k ≠ 5 ∧ k ≠ 13 ∧ k ≠ 14) : Re b h (h.setI (b + 72) k v) := ⟨rfl, fun _ => rfl, fun c h1 h2 h3 h4 h5 => rowI_ne h _ h1, fun j hj => by rw [setI_I, if_pos rfl, upd, if_neg (by omega)]⟩
theorem Inv.two {z0 : Sh} {h0 : Hp} {b c : Nat} {z : Sh} {h h1 h2 : Hp} (I : Inv z0 h0 b c z h) {t : Nat} {τ : TT} {P nx sz : Nat} (D : NowD b z h t τ P nx sz) (C : Cc b h h1) (R : Re b h1 h2) (h73 : ∀ k, k < 17 ∨ 557 ≤ k → h2.I (b + 73) k = h.I (b + 73) k)
    (m1 : PplI τ P (h2.I (b + 11)) (h2.I (b + 12)) (h2.I (b + 73))) (m2 : PastX τ P (h2.I (b + 15)) (fun k => h2.I (b + 17 + k)) (h2.I (b + 73))) : Inv z0 h0 b c z h2 :=
  I.deed D (R.1.trans C.1) (fun a => (R.2.1 a).trans (C.2.1 a)) (fun a k1 k2 k3 k4 k5 k6 k7 => (R.2.2.1 a k5 k6 (by omega) (by omega) (by omega)).trans (C.2.2 a k1 k2 k3 k4)) (fun k hk => (R.2.2.2 k hk).trans (by rw [C.i (k := 72) (by omega) (by omega) (by omega) (by omega)])) h73 m1 m2
/-- nothing was kept -/
theorem Inv.same {z0 : Sh} {h0 : Hp} {b c : Nat} {z : Sh} {h h1 h2 : Hp} (I : Inv z0 h0 b c z h) {t : Nat} {τ : TT} {P nx sz : Nat} (D : NowD b z h t τ P nx sz) (C : Cc b h h1) (C2 : ∀ k, 15 ≤ k → k < 37 → h1.I (b + k) = h.I (b + k)) (X : PeopleX (h1.I (b + 11)) (h1.I (b + 12)) (h.I (b + 73)) P) (R : Re b h1 h2) (h73 : ∀ k, h2.I (b + 73) k = h.I (b + 73) k) : Inv z0 h0 b c z h2 := by
  have e73 : h2.I (b + 73) = h.I (b + 73) := funext h73
  have e : ∀ k, 11 ≤ k → k < 37 → h2.I (b + k) = h1.I (b + k) := fun k h1 h2 => R.2.2.1 _ (by omega) (by omega) (by omega) (by omega) (by omega)
  obtain ⟨-, d1, -, -, -, d2, ⟨p1, p2, p3, p4, p5⟩, p6⟩ := id D
  refine I.two D C R (fun k _ => h73 k) ?_ ?_
  · rw [e73, e 11 (by omega) (by omega), e 12 (by omega) (by omega)]
    exact ⟨X, d2.2⟩
  · rw [e73, e 15 (by omega) (by omega), C2 15 (by omega) (by omega)]
    refine ⟨nx, sz, p1, p2, p3, p4, p5, fun i hi => ?_⟩
    dsimp only
    rw [Nat.add_assoc b, Nat.add_assoc b, e _ (by omega) (by omega), e _ (by omega) (by omega), C2 _ (by omega) (by omega), C2 _ (by omega) (by omega), ← Nat.add_assoc b, ← Nat.add_assoc b]
    exact p6 i hi
theorem Inv.kept {z0 : Sh} {h0 : Hp} {b c : Nat} {z : Sh} {h h3 h4 : Hp} (I : Inv z0 h0 b c z h) {t : Nat} {τ : TT} {P nx sz : Nat} (D : NowD b z h t τ P nx sz) (C : Cc b h h3) {A' w : Nat → Int32} (X : PeopleX (h3.I (b + 11)) (h3.I (b + 12)) A' P) (o1 : h3.I (b + 15) 1 = nI ((nx + 1) % 10)) (o2 : h3.I (b + 15) 2 = nI (min (sz + 1) 10)) (K : PeopleX (h3.I (b + 17 + 2 * nx)) (h3.I (b + 17 + (2 * nx + 1))) (h.I (b + 73)) P) (kk : ∀ k, k < 20 → k ≠ 2 * nx → k ≠ 2 * nx + 1 → h3.I (b + 17 + k) = h.I (b + 17 + k)) (R : Re b h3 h4) (hA' : ∀ k, k < 17 ∨ 66 ≤ k → A' k = h.I (b + 73) k) (hp : ∀ p, p < P → PerOK τ A' p) (hw : ∀ k, k < 49 → w k = h.I (b + 73) (17 + k)) (h73 : h4.I (b + 73) = notesRow A' w sz) : Inv z0 h0 b c z h4 := by
  have e : ∀ k, 11 ≤ k → k < 37 → h4.I (b + k) = h3.I (b + k) := fun k h1 h2 => R.2.2.1 _ (by omega) (by omega) (by omega) (by omega) (by omega)
  obtain ⟨-, d1, -, -, -, d2, ⟨p1, p2, p3, p4, p5⟩, p6⟩ := id D
  have h6 : P ≤ 6 := d1.2.2.2.2.2.1
  refine I.two D C R (fun k hk => ?_) ?_ ?_
  · rw [h73, notesRow_k p2 (by omega), hA' k (by omega)]
  · rw [h73, e 11 (by omega) (by omega), e 12 (by omega) (by omega)]
    exact PplI.ext h6 (fun k k1 k2 => notesRow_k p2 (by omega)) ⟨X, hp⟩
  · rw [h73]
    refine Past_keep (g := fun k => h.I (b + 17 + k)) h6 p1 p2 p5 p6 ?_ (fun k k1 k2 k3 => ?_) ?_ ?_ hA' hw
    · rw [Nat.add_assoc b, Nat.add_assoc b, e _ (by omega) (by omega), e _ (by omega) (by omega), ← Nat.add_assoc b, ← Nat.add_assoc b]
      exact ⟨K, d2.2⟩
    · rw [Nat.add_assoc b, e _ (by omega) (by omega), ← Nat.add_assoc b]
      exact kk k k1 k2 k3
    · rw [e 15 (by omega) (by omega)]
      exact o1
    · rw [e 15 (by omega) (by omega)]
      exact o2
