/-! ===== images ===== -/
theorem TownA.ext {A A' : Nat → Int32} {τ : TT} (H : TownA A τ) (h : ∀ k, k < 17 ∨ (557 ≤ k ∧ k < 1458) → A' k = A k) : TownA A' τ := by
  have hl : ∀ {i d : Nat} {L : List Nat}, i < 2 → LawA A i L d → LawA A' i L d := by
    intro i d L hi HL
    rcases HL with ⟨e1, e2⟩ | ⟨e1, fr, e2, e3, e4, e5⟩
    · exact Or.inl ⟨by rw [h _ (by omega)]; exact e1, e2⟩
    · exact Or.inr ⟨by rw [h _ (by omega)]; exact e1, fr, by rw [h _ (by omega)]; exact e2, by rw [h _ (by omega)]; exact e3, e4, fun k hk => by rw [h _ (by omega)]; exact e5 k hk⟩
  obtain ⟨h1, h2, h3, h4, h5⟩ := H
  exact ⟨by rw [h _ (by omega)]; exact h1, by rw [h _ (by omega)]; exact h2, by rw [h _ (by omega)]; exact h3, hl (by omega) h4, hl (by omega) h5⟩
theorem rX_37 : ∀ q ∈ rX, q.1 ≠ 37 ∧ ¬ (q.1 = 0 ∧ q.2.1 = 3) := by decide +kernel
theorem rM_20 : ∀ q ∈ rM, q.1 < 20 := by decide +kernel
theorem LayX.upR {z : Sh} {R R' : Nat → Nat → Option Nat} {b : Nat} (H : LayX z R b) (h : ∀ a k, a ≠ b + 37 → ¬ (a = b ∧ k = 3) → R' a k = R a k) : LayX z R' b := by
  refine ⟨H.1, fun q hq => ?_⟩
  have := rX_37 q hq
  rw [h _ _ (by omega) (by omega)]
  exact H.2 q hq
theorem LayR.upR {z : Sh} {R R' : Nat → Nat → Option Nat} {m : Nat} (H : LayR z R m) (h : ∀ a, m ≤ a → a < m + 20 → R' a = R a) : LayR z R' m := by
  refine ⟨H.1, fun q hq => ?_⟩
  have := rM_20 q hq
  rw [h _ (by omega) (by omega)]
  exact H.2 q hq
section
variable {n : Nat} {z0 : Sh} {h0 : Hp} {b c : Nat} {z : Sh} {h : Hp}
theorem img_PL (HX : LayX z h.2.2 b) {i : Nat} (hi : i < 2) : PL z h.2.2 (b + 60 + 2 * i) (b + 61 + 2 * i) ∧ h.R (b + 38) i = some (b + 60 + 2 * i) := by
  rw [Nat.add_assoc b, Nat.add_assoc b]
  match i, hi with
  | 0, _ => exact ⟨⟨kx_60 HX, rx_60_0 HX, kx_61 HX, nx_61 HX, by omega⟩, rx_38_0 HX⟩
  | 1, _ => exact ⟨⟨kx_62 HX, rx_62_0 HX, kx_63 HX, nx_63 HX, by omega⟩, rx_38_1 HX⟩
  | i + 2, hi => omega
theorem image_20 (HM : LayR z h.2.2 (b + 72)) {t : Nat} (ht : t < 2) (A : Nat → Int32) : ∀ (d j i : Nat), j + d = 1458 → d < i → f_X12_image_20 n z i (h.rowI (b + 73) (cpy A A 0 (1458 * (t + 1)) j)) (b + 72) (nI t) (nI j) = some (0, (h.rowI (b + 73) (cpy A A 0 (1458 * (t + 1)) 1458)).setI (b + 74) t 1) := by
  intro d
  induction d with
  | zero =>
    intro j i hj hi
    obtain ⟨i, rfl⟩ : ∃ k, i = k + 1 := ⟨i - 1, by omega⟩
    obtain rfl : j = 1458 := by omega
    have HM1 : LayR z (h.rowI (b + 73) (cpy A A 0 (1458 * (t + 1)) 1458)).2.2 (b + 72) := HM
    rw [f_X12_image_20.eq_2, show (1458 : Int32) = nI 1458 from rfl, if_pos ((nI_leI (by omega) (by omega)).mpr (Nat.le_refl _)), gR_ok (km_0 HM) (rm_2 HM1), bS, sm_2 HM1 ht, bS]
    rfl
  | succ d ih =>
    intro j i hj hi
    obtain ⟨i, rfl⟩ : ∃ k, i = k + 1 := ⟨i - 1, by omega⟩
    have ih := ih (j + 1) i (by omega) (by omega)
    have HM1 : LayR z (h.rowI (b + 73) (cpy A A 0 (1458 * (t + 1)) j)).2.2 (b + 72) := HM
    have cj : cpy A A 0 (1458 * (t + 1)) j j = A j := cpy_up (by omega)
    rw [f_X12_image_20.eq_2, show (1458 : Int32) = nI 1458 from rfl, if_neg (fun q => by have := (nI_leI (by omega) (by omega)).mp q; omega), gR_ok (km_0 HM) (rm_1 HM1), bS, bS, lm_1 HM1 (by omega), bS, rowI_I, cj, show (1 : Int32) = nI 1 from rfl, nI_add, nI_mul, nI_add, sm_1 HM1 (by omega), bS, bS, nI_add, rowI_setI, cpy_t0]
    exact ih
theorem restore_32 (HM : LayR z h.2.2 (b + 72)) {t : Nat} (ht : t < 2) (A : Nat → Int32) : ∀ (d j i : Nat), j + d = 1458 → d < i → f_X12_restore_32 n z i (h.rowI (b + 73) (cpy A A (1458 * (t + 1)) 0 j)) (b + 72) (nI t) (nI j) = some (0, h.rowI (b + 73) (upd (cpy A A (1458 * (t + 1)) 0 1458) 66 (nI 0))) := by
  intro d
  induction d with
  | zero =>
    intro j i hj hi
    obtain ⟨i, rfl⟩ : ∃ k, i = k + 1 := ⟨i - 1, by omega⟩
    obtain rfl : j = 1458 := by omega
    have HM1 : LayR z (h.rowI (b + 73) (cpy A A (1458 * (t + 1)) 0 1458)).2.2 (b + 72) := HM
    rw [f_X12_restore_32.eq_2, show (1458 : Int32) = nI 1458 from rfl, if_pos ((nI_leI (by omega) (by omega)).mpr (Nat.le_refl _)), gR_ok (km_0 HM) (rm_1 HM1), bS, show (66 : Int32) = nI 66 from rfl, sm_1 HM1 (by omega), bS, rowI_setI]
    rfl
  | succ d ih =>
    intro j i hj hi
    obtain ⟨i, rfl⟩ : ∃ k, i = k + 1 := ⟨i - 1, by omega⟩
    have ih := ih (j + 1) i (by omega) (by omega)
    have HM1 : LayR z (h.rowI (b + 73) (cpy A A (1458 * (t + 1)) 0 j)).2.2 (b + 72) := HM
    have cj : cpy A A (1458 * (t + 1)) 0 j (1458 * (t + 1) + j) = A (1458 * (t + 1) + j) := cpy_up (by omega)
    rw [f_X12_restore_32.eq_2, show (1458 : Int32) = nI 1458 from rfl, if_neg (fun q => by have := (nI_leI (by omega) (by omega)).mp q; omega), gR_ok (km_0 HM) (rm_1 HM1), bS, bS, show (1 : Int32) = nI 1 from rfl, nI_add, nI_mul, nI_add, lm_1 HM1 (by omega), bS, rowI_I, cj, sm_1 HM1 (by omega), bS, bS, nI_add, rowI_setI, cpy_s0]
    exact ih
theorem image_ok (I : Inv z0 h0 b c z h) (hn : 400000 ≤ n) (v : Int32) : ∃ r h1 h2, f_X11_image z h b v = some (r, h1) ∧ f_X12_image n z h1 (b + 72) v = some (r, h2) ∧ Inv z0 h0 b c z h2 := by
  obtain ⟨t, τ, P, nx, sz, D⟩ := I.now
  obtain ⟨HX, HRef, hR3, hT, hT5, HA, ⟨p1, p2, p3, p4, p5⟩, p6⟩ := id D
  obtain ⟨HM, hτ, -, hA, h3, h6, hp6⟩ := id HRef
  have km := km_0 HM
  have W1 : ∀ (g : Hp), f_X12_within z g (Int32.toInt64 v) 0 1 = some (if 0 ≤ v.toInt ∧ v.toInt ≤ 1 then 1 else 0) := fun g => by
    rw [within_ok, to64]
    rfl
  unfold f_X11_image f_X11_image_22
  rw [if_pos (kx_0 HX), gR_ok (kx_0 HX) (rx_0_7 HX), bS, aL_ok (kx_37 HX) rfl (nx_37 HX), bS, gR_ok (kx_0 HX) (rx_0_8 HX), bS, aL_ok (kx_38 HX) rfl (nx_38 HX), bS, bS]
  by_cases cv : 0 ≤ v.toInt ∧ v.toInt ≤ 1
  · obtain ⟨i, hi, rfl⟩ := nI_ex (x := v) (P := 2) (by omega)
    obtain ⟨K1, K2⟩ := img_PL HX hi
    rw [if_neg (nI_pos (by omega)), if_neg (fun q => by have := (nI_leI (by omega) (by omega)).mp q; omega), if_pos ((nI_lt2 (by omega) (by omega)).mpr hi), ldR_ok (kx_38 HX) (nx_38 HX) rfl hi (by omega) K2, bS, bS, gR_ok (kx_0 HX) hR3, bS, stR_ok (kx_37 HX) hT.2.1 (nx_37 HX) rfl hi (by omega), bS]
    have HX1 : LayX z (h.setR (b + 37) i (some t)).2.2 b := HX.upR (fun a k e1 e2 => congrFun ((setR_R h (b + 37) i a (some t)).trans (if_neg e1)) k)
    obtain ⟨K3, -⟩ := img_PL HX1 hi
    rw [gR_ok (kx_0 HX) (rx_0_4 HX1), bS, copy_ok K3 (now_PL HX1) (by omega) (by omega), bS]
    have a1 : ∀ a, a ≠ b + 60 + 2 * i → a ≠ b + 61 + 2 * i → (((h.setR (b + 37) i (some t)).rowI (b + 61 + 2 * i) (va_cpy ((h.setR (b + 37) i (some t)).I (b + 12)) ((h.setR (b + 37) i (some t)).I (b + 61 + 2 * i)) 0 0 54)).rowI (b + 60 + 2 * i) (upd (upd ((h.setR (b + 37) i (some t)).I (b + 60 + 2 * i)) 1 ((h.setR (b + 37) i (some t)).I (b + 11) 1)) 2 ((h.setR (b + 37) i (some t)).I (b + 11) 2))).I a = h.I a := fun a e1 e2 => by
      rw [rowI_ne _ _ e1, rowI_ne _ _ e2]
      rfl
    have a2 : PeopleX ((((h.setR (b + 37) i (some t)).rowI (b + 61 + 2 * i) (va_cpy ((h.setR (b + 37) i (some t)).I (b + 12)) ((h.setR (b + 37) i (some t)).I (b + 61 + 2 * i)) 0 0 54)).rowI (b + 60 + 2 * i) (upd (upd ((h.setR (b + 37) i (some t)).I (b + 60 + 2 * i)) 1 ((h.setR (b + 37) i (some t)).I (b + 11) 1)) 2 ((h.setR (b + 37) i (some t)).I (b + 11) 2))).I (b + 60 + 2 * i)) ((((h.setR (b + 37) i (some t)).rowI (b + 61 + 2 * i) (va_cpy ((h.setR (b + 37) i (some t)).I (b + 12)) ((h.setR (b + 37) i (some t)).I (b + 61 + 2 * i)) 0 0 54)).rowI (b + 60 + 2 * i) (upd (upd ((h.setR (b + 37) i (some t)).I (b + 60 + 2 * i)) 1 ((h.setR (b + 37) i (some t)).I (b + 11) 1)) 2 ((h.setR (b + 37) i (some t)).I (b + 11) 2))).I (b + 61 + 2 * i)) (h.I (b + 73)) P := by
      rw [rowI_I, rowI_ne _ _ (by omega), rowI_I]
      exact HA.1.cp h6 (by rw [upd, if_neg (by omega), upd, if_pos rfl]; rfl) (by rw [upd, if_pos rfl]; rfl) (fun k hk => cp54 hk)
    have a3 : (((h.setR (b + 37) i (some t)).rowI (b + 61 + 2 * i) (va_cpy ((h.setR (b + 37) i (some t)).I (b + 12)) ((h.setR (b + 37) i (some t)).I (b + 61 + 2 * i)) 0 0 54)).rowI (b + 60 + 2 * i) (upd (upd ((h.setR (b + 37) i (some t)).I (b + 60 + 2 * i)) 1 ((h.setR (b + 37) i (some t)).I (b + 11) 1)) 2 ((h.setR (b + 37) i (some t)).I (b + 11) 2))).2.2 = (h.setR (b + 37) i (some t)).2.2 := rfl
    have a4 : ∀ a, (((h.setR (b + 37) i (some t)).rowI (b + 61 + 2 * i) (va_cpy ((h.setR (b + 37) i (some t)).I (b + 12)) ((h.setR (b + 37) i (some t)).I (b + 61 + 2 * i)) 0 0 54)).rowI (b + 60 + 2 * i) (upd (upd ((h.setR (b + 37) i (some t)).I (b + 60 + 2 * i)) 1 ((h.setR (b + 37) i (some t)).I (b + 11) 1)) 2 ((h.setR (b + 37) i (some t)).I (b + 11) 2))).J a = h.J a := fun _ => rfl
    generalize ((h.setR (b + 37) i (some t)).rowI (b + 61 + 2 * i) (va_cpy ((h.setR (b + 37) i (some t)).I (b + 12)) ((h.setR (b + 37) i (some t)).I (b + 61 + 2 * i)) 0 0 54)).rowI (b + 60 + 2 * i) (upd (upd ((h.setR (b + 37) i (some t)).I (b + 60 + 2 * i)) 1 ((h.setR (b + 37) i (some t)).I (b + 11) 1)) 2 ((h.setR (b + 37) i (some t)).I (b + 11) 2)) = g at *
    have HMr : LayR z (h.setR (b + 37) i (some t)).2.2 (b + 72) := HM.upR (fun a k1 k2 => (setR_R h (b + 37) i a (some t)).trans (if_neg (by omega)))
    have HM1 : LayR z (g.setI (b + 72) 0 0).2.2 (b + 72) := by
      show LayR z g.2.2 (b + 72)
      rw [a3]
      exact HMr
    have im := image_20 (n := n) (z := z) (h := g.setI (b + 72) 0 0) HM1 hi ((g.setI (b + 72) 0 0).I (b + 73)) 1458 0 n (by omega) (by omega)
    rw [cpy_0, rowI_self] at im
    have e73 : (g.setI (b + 72) 0 0).I (b + 73) = h.I (b + 73) := (rowI_ne _ _ (by omega)).trans (a1 _ (by omega) (by omega))
    rw [e73] at im
    refine two_go (y := fun g => f_X12_image n z g (b + 72) (nI i)) rfl ⟨((g.setI (b + 72) 0 0).rowI (b + 73) (cpy (h.I (b + 73)) (h.I (b + 73)) 0 (1458 * (i + 1)) 1458)).setI (b + 74) i 1, ?_, ?_⟩
    · unfold f_X12_image
      rw [if_pos km, pI_ok km, bS, W1, bS, if_pos cv, if_neg (by decide)]
      exact im
    · have b1 : ∀ a, a ≠ b + 72 → a ≠ b + 73 → a ≠ b + 74 → (((g.setI (b + 72) 0 0).rowI (b + 73) (cpy (h.I (b + 73)) (h.I (b + 73)) 0 (1458 * (i + 1)) 1458)).setI (b + 74) i 1).I a = g.I a := fun a e1 e2 e3 => by
        rw [setI_row, rowI_ne _ _ e3, rowI_ne _ _ e2, setI_row, rowI_ne _ _ e1]
      have b2 : (((g.setI (b + 72) 0 0).rowI (b + 73) (cpy (h.I (b + 73)) (h.I (b + 73)) 0 (1458 * (i + 1)) 1458)).setI (b + 74) i 1).I (b + 73) = cpy (h.I (b + 73)) (h.I (b + 73)) 0 (1458 * (i + 1)) 1458 := by
        rw [setI_row, rowI_ne _ _ (by omega), rowI_I]
      have b3 : (((g.setI (b + 72) 0 0).rowI (b + 73) (cpy (h.I (b + 73)) (h.I (b + 73)) 0 (1458 * (i + 1)) 1458)).setI (b + 74) i 1).I (b + 74) = upd (h.I (b + 74)) i 1 := by
        rw [setI_row, rowI_I, rowI_ne _ _ (by omega), setI_row, rowI_ne _ _ (by omega), a1 _ (by omega) (by omega)]
      have b4 : ∀ k, k ≠ 0 → (((g.setI (b + 72) 0 0).rowI (b + 73) (cpy (h.I (b + 73)) (h.I (b + 73)) 0 (1458 * (i + 1)) 1458)).setI (b + 74) i 1).I (b + 72) k = h.I (b + 72) k := fun k hk => by
        rw [setI_row, rowI_ne _ _ (by omega), rowI_ne _ _ (by omega), setI_row, rowI_I, upd, if_neg hk, a1 _ (by omega) (by omega)]
      have b5 : (((g.setI (b + 72) 0 0).rowI (b + 73) (cpy (h.I (b + 73)) (h.I (b + 73)) 0 (1458 * (i + 1)) 1458)).setI (b + 74) i 1).2.2 = (h.setR (b + 37) i (some t)).2.2 := a3
      have b6 : ∀ a, (((g.setI (b + 72) 0 0).rowI (b + 73) (cpy (h.I (b + 73)) (h.I (b + 73)) 0 (1458 * (i + 1)) 1458)).setI (b + 74) i 1).J a = h.J a := a4
      generalize ((g.setI (b + 72) 0 0).rowI (b + 73) (cpy (h.I (b + 73)) (h.I (b + 73)) 0 (1458 * (i + 1)) 1458)).setI (b + 74) i 1 = g2 at *
      have RR : ∀ a, g2.R a = (h.setR (b + 37) i (some t)).R a := fun a => by
        show g2.2.2 a = _
        rw [b5]
        rfl
      have Rn : ∀ a, a ≠ b + 37 → g2.R a = h.R a := fun a ha => by rw [RR, setR_R, if_neg ha]
      have Rs : g2.R (b + 37) = va_up (h.R (b + 37)) i (some t) := by rw [RR, setR_R, if_pos rfl]
      have e : ∀ a, a ≠ b + 72 → a ≠ b + 73 → a ≠ b + 74 → a ≠ b + 60 + 2 * i → a ≠ b + 61 + 2 * i → g2.I a = h.I a := fun a k1 k2 k3 k4 k5 => (b1 a k1 k2 k3).trans (a1 a k4 k5)
      have F : Fr b h g2 := fun a ha => ⟨e a (by unfold kW at ha; omega) (by unfold kW at ha; omega) (by unfold kW at ha; omega) (by unfold kW at ha; omega) (by unfold kW at ha; omega), b6 a, Rn a (by unfold kW at ha; omega)⟩
      have low : ∀ k, k < 1458 → g2.I (b + 73) k = h.I (b + 73) k := fun k hk => by rw [b2, cpy_up (by omega)]
      obtain ⟨i1, i2, i3, i4, ⟨i5, i5'⟩, i6, i7, i8, i9⟩ := I
      have other : ∀ j, j < 2 → j ≠ i → ImgI b z h j → ImgI b z g2 j := fun j hj hne H => by
        rcases H with ⟨q1, q2⟩ | ⟨q1, t', τ', P', q2, q3, q4, q5, q6, q7, q8, q9⟩
        · exact Or.inl ⟨by rw [b3, upd, if_neg hne]; exact q1, by rw [Rs, va_up_ne _ _ hne]; exact q2⟩
        · have ei : ∀ k, k < 1458 → img (g2.I (b + 73)) j k = img (h.I (b + 73)) j k := fun k hk => by
            unfold img
            rw [b2, cpy_up]
            omega
          refine Or.inr ⟨by rw [b3, upd, if_neg hne]; exact q1, t', τ', P', by rw [Rs, va_up_ne _ _ hne]; exact q2, q3.fr F, q4, q5.ext (fun k hk => ei k (by omega)), ?_, by rw [ei 3 (by omega)]; exact q7, q8, ?_⟩
          · rw [(F t' q3.k).1, ei 0 (by omega)]
            exact q6
          · rw [e (b + 60 + 2 * j) (by omega) (by omega) (by omega) (by omega) (by omega), e (b + 61 + 2 * j) (by omega) (by omega) (by omega) (by omega) (by omega)]
            exact q9.ext q8 (fun k k1 k2 => ei k (by omega))
      have this_ : ImgI b z g2 i := by
        have ei : ∀ k, k < 1458 → img (g2.I (b + 73)) i k = h.I (b + 73) k := fun k hk => by
          unfold img
          rw [b2, cpy_in (by omega), show 0 + (1458 * (i + 1) + k - 1458 * (i + 1)) = k by omega]
        refine Or.inr ⟨by rw [b3, upd, if_pos rfl]; rfl, t, τ, P, by rw [Rs, va_up_self], hT.fr F, hτ, hA.ext (fun k hk => ei k (by omega)), ?_, by rw [ei 3 (by omega)]; exact h3, h6, ?_⟩
        · rw [(F t hT.k).1, ei 0 (by omega)]
          exact hT5
        · rw [b1 (b + 60 + 2 * i) (by omega) (by omega) (by omega), b1 (b + 61 + 2 * i) (by omega) (by omega) (by omega)]
          exact PplI.ext h6 (fun k k1 k2 => ei k (by omega)) ⟨a2, hp6⟩
      refine ⟨i1.fr F, by rw [b5]; exact HX1, by rw [b5]; exact HMr, ?_, ⟨?_, ?_⟩, ?_, ?_, i8.fr F, i9.fr F⟩
      · refine ⟨t, τ, P, by rw [Rn b (by omega)]; exact hR3, hT.fr F, hτ, hA.ext (fun k hk => low k (by omega)), ?_, by rw [low 3 (by omega)]; exact h3, h6, ?_, nx, sz, p1, p2, ?_, ?_, by rw [low 66 (by omega)]; exact p5, fun j hj => ?_⟩
        · rw [(F t hT.k).1, low 0 (by omega)]
          exact hT5
        · rw [e (b + 11) (by omega) (by omega) (by omega) (by omega) (by omega), e (b + 12) (by omega) (by omega) (by omega) (by omega) (by omega)]
          exact HA.ext h6 (fun k k1 k2 => low k (by omega))
        · rw [e (b + 15) (by omega) (by omega) (by omega) (by omega) (by omega)]
          exact p3
        · rw [e (b + 15) (by omega) (by omega) (by omega) (by omega) (by omega)]
          exact p4
        · dsimp only
          rw [e _ (by omega) (by omega) (by omega) (by omega) (by omega), e _ (by omega) (by omega) (by omega) (by omega) (by omega)]
          refine (p6 j hj).ext h6 (fun k k1 k2 => ?_)
          unfold ovr
          split
          · exact low _ (by omega)
          · exact low _ (by omega)
      · by_cases ci : i = 0
        · subst ci
          exact this_
        · exact other 0 (by omega) (by omega) i5
      · by_cases ci : i = 1
        · subst ci
          exact this_
        · exact other 1 (by omega) (by omega) i5'
      · exact i6.fr (fun k k1 k2 => e _ (by omega) (by omega) (by omega) (by omega) (by omega)) (fun k k1 k2 => b6 _) (e _ (by omega) (by omega) (by omega) (by omega) (by omega)) (e _ (by omega) (by omega) (by omega) (by omega) (by omega)) (b6 _)
      · exact i7.fr (congrFun (e b (by omega) (by omega) (by omega) (by omega) (by omega)) 1) (e _ (by omega) (by omega) (by omega) (by omega) (by omega)) (by rw [e (b + 2) (by omega) (by omega) (by omega) (by omega) (by omega)]) (by rw [e (b + 2) (by omega) (by omega) (by omega) (by omega) (by omega)]) (b4 5 (by omega)) (b4 13 (by omega)) (b4 14 (by omega)) (e _ (by omega) (by omega) (by omega) (by omega) (by omega))
  · have key : ∀ {α : Type} (x y : α), (if v < 0 then x else if nI 2 ≤ v then x else if v < nI 2 then y else x) = x := fun x y => by
      by_cases d : v < 0
      · rw [if_pos d]
      · rw [if_neg d, if_pos]
        rw [le_iff, nI_to (by omega)]
        have d' : ¬ v.toInt < 0 := fun q => d (by rw [lt_iff]; exact q)
        omega
    rw [key, f_X11_refused, bS]
    refine two_go (y := fun g => f_X12_image n z g (b + 72) v) rfl ⟨h.setI (b + 72) 0 0, ?_, ref_sc I 0⟩
    unfold f_X12_image
    rw [if_pos km, pI_ok km, bS, W1, bS, if_neg cv, if_pos rfl]
    rfl
theorem img_of (I : Inv z0 h0 b c z h) {i : Nat} (hi : i < 2) : ImgI b z h i := by
  obtain ⟨-, -, -, -, ⟨h1, h2⟩, -⟩ := I
  by_cases e : i = 0
  · rw [e]
    exact h1
  · rw [show i = 1 by omega]
    exact h2
theorem restore_ok (I : Inv z0 h0 b c z h) (hn : 400000 ≤ n) (v : Int32) : ∃ r h1 h2, f_X11_restore z h b v = some (r, h1) ∧ f_X12_restore n z h1 (b + 72) v = some (r, h2) ∧ Inv z0 h0 b c z h2 := by
  obtain ⟨t0, τ0, P0, nx, sz, D⟩ := I.now
  obtain ⟨HX, HRef, hR3, hT0, hT50, HA0, ⟨p1, p2, p3, p4, p5⟩, p6⟩ := id D
  have HM := HRef.1
  have km := km_0 HM
  have W1 : ∀ (g : Hp), f_X12_within z g (Int32.toInt64 v) 0 1 = some (if 0 ≤ v.toInt ∧ v.toInt ≤ 1 then 1 else 0) := fun g => by
    rw [within_ok, to64]
    rfl
  unfold f_X11_restore f_X11_restore_22 f_X11_restore_49
  rw [if_pos (kx_0 HX), gR_ok (kx_0 HX) (rx_0_7 HX), bS, aL_ok (kx_37 HX) rfl (nx_37 HX), bS, gR_ok (kx_0 HX) (rx_0_8 HX), bS, aL_ok (kx_38 HX) rfl (nx_38 HX), bS, bS]
  by_cases cv : 0 ≤ v.toInt ∧ v.toInt ≤ 1
  · obtain ⟨i, hi, rfl⟩ := nI_ex (x := v) (P := 2) (by omega)
    obtain ⟨K1, K2⟩ := img_PL HX hi
    have HI : ImgI b z h i := img_of I hi
    rw [if_neg (nI_pos (by omega)), if_neg (fun q => by have := (nI_leI (by omega) (by omega)).mp q; omega), if_pos ((nI_lt2 (by omega) (by omega)).mpr hi), ldN_ok (kx_37 HX) (nx_37 HX) rfl hi (by omega), bS]
    have HM0 : LayR z (h.setI (b + 72) 0 0).2.2 (b + 72) := HM
    have L2 : ldZ z (h.setI (b + 72) 0 0) (b + 74) (nI i) = some (h.I (b + 74) i) := by
      rw [lm_2 HM0 hi, show (h.setI (b + 72) 0 0).I (b + 74) = h.I (b + 74) from rowI_ne _ _ (by omega)]
    rcases HI with ⟨q1, q2⟩ | ⟨q1, t, τ, P, q2, q3, q4, q5, q6, q7, q8, q9⟩
    · rw [q2]
      dsimp only
      rw [bS, ldR_ok (kx_38 HX) (nx_38 HX) rfl hi (by omega) K2, bS, f_X11_refused, bS]
      refine two_go (y := fun g => f_X12_restore n z g (b + 72) (nI i)) rfl ⟨h.setI (b + 72) 0 0, ?_, ref_sc I 0⟩
      unfold f_X12_restore
      rw [if_pos km, pI_ok km, bS, W1, bS, if_pos cv, if_neg (by decide), gR_ok km (rm_2 HM0), bS, L2, bS, q1, if_pos (by decide)]
      rfl
    · rw [q2]
      dsimp only
      rw [bS, ldR_ok (kx_38 HX) (nx_38 HX) rfl hi (by omega) K2, bS, pR_ok (kx_0 HX), bS]
      have HX1 : LayX z (h.setR b 3 (some t)).2.2 b := HX.upR (fun a k e1 e2 => by
        show (h.setR b 3 (some t)).R a k = h.R a k
        rw [setR_R]
        by_cases ea : a = b
        · rw [if_pos ea, ea, va_up_ne _ _ (by omega)]
        · rw [if_neg ea])
      obtain ⟨K3, -⟩ := img_PL HX1 hi
      rw [gR_ok (kx_0 HX) (rx_0_4 HX1), bS, copy_ok (now_PL HX1) K3 (by omega) (by omega), bS]
      have a1 : ∀ a, a ≠ b + 11 → a ≠ b + 12 → (((h.setR b 3 (some t)).rowI (b + 12) (va_cpy ((h.setR b 3 (some t)).I (b + 61 + 2 * i)) ((h.setR b 3 (some t)).I (b + 12)) 0 0 54)).rowI (b + 11) (upd (upd ((h.setR b 3 (some t)).I (b + 11)) 1 ((h.setR b 3 (some t)).I (b + 60 + 2 * i) 1)) 2 ((h.setR b 3 (some t)).I (b + 60 + 2 * i) 2))).I a = h.I a := fun a e1 e2 => by
        rw [rowI_ne _ _ e1, rowI_ne _ _ e2]
        rfl
      have a2 : PeopleX ((((h.setR b 3 (some t)).rowI (b + 12) (va_cpy ((h.setR b 3 (some t)).I (b + 61 + 2 * i)) ((h.setR b 3 (some t)).I (b + 12)) 0 0 54)).rowI (b + 11) (upd (upd ((h.setR b 3 (some t)).I (b + 11)) 1 ((h.setR b 3 (some t)).I (b + 60 + 2 * i) 1)) 2 ((h.setR b 3 (some t)).I (b + 60 + 2 * i) 2))).I (b + 11)) ((((h.setR b 3 (some t)).rowI (b + 12) (va_cpy ((h.setR b 3 (some t)).I (b + 61 + 2 * i)) ((h.setR b 3 (some t)).I (b + 12)) 0 0 54)).rowI (b + 11) (upd (upd ((h.setR b 3 (some t)).I (b + 11)) 1 ((h.setR b 3 (some t)).I (b + 60 + 2 * i) 1)) 2 ((h.setR b 3 (some t)).I (b + 60 + 2 * i) 2))).I (b + 12)) (img (h.I (b + 73)) i) P := by
        rw [rowI_I, rowI_ne _ _ (by omega), rowI_I]
        exact q9.1.cp q8 (by rw [upd, if_neg (by omega), upd, if_pos rfl]; rfl) (by rw [upd, if_pos rfl]; rfl) (fun k hk => cp54 hk)
      have a3 : (((h.setR b 3 (some t)).rowI (b + 12) (va_cpy ((h.setR b 3 (some t)).I (b + 61 + 2 * i)) ((h.setR b 3 (some t)).I (b + 12)) 0 0 54)).rowI (b + 11) (upd (upd ((h.setR b 3 (some t)).I (b + 11)) 1 ((h.setR b 3 (some t)).I (b + 60 + 2 * i) 1)) 2 ((h.setR b 3 (some t)).I (b + 60 + 2 * i) 2))).2.2 = (h.setR b 3 (some t)).2.2 := rfl
      have a4 : ∀ a, (((h.setR b 3 (some t)).rowI (b + 12) (va_cpy ((h.setR b 3 (some t)).I (b + 61 + 2 * i)) ((h.setR b 3 (some t)).I (b + 12)) 0 0 54)).rowI (b + 11) (upd (upd ((h.setR b 3 (some t)).I (b + 11)) 1 ((h.setR b 3 (some t)).I (b + 60 + 2 * i) 1)) 2 ((h.setR b 3 (some t)).I (b + 60 + 2 * i) 2))).J a = h.J a := fun _ => rfl
      generalize ((h.setR b 3 (some t)).rowI (b + 12) (va_cpy ((h.setR b 3 (some t)).I (b + 61 + 2 * i)) ((h.setR b 3 (some t)).I (b + 12)) 0 0 54)).rowI (b + 11) (upd (upd ((h.setR b 3 (some t)).I (b + 11)) 1 ((h.setR b 3 (some t)).I (b + 60 + 2 * i) 1)) 2 ((h.setR b 3 (some t)).I (b + 60 + 2 * i) 2)) = g0 at *
      have HX2 : LayX z g0.2.2 b := by rw [a3]; exact HX1
      rw [gR_ok (kx_0 HX) (rx_0_6 HX2), bS]
      unfold f_X4_forget
      rw [if_pos (kx_15 HX), pI_ok (kx_15 HX), bS, bS]
      have c1 : ∀ a, a ≠ b + 11 → a ≠ b + 12 → a ≠ b + 15 → (g0.setI (b + 15) 2 0).I a = h.I a := fun a e1 e2 e3 => (rowI_ne _ _ e3).trans (a1 a e1 e2)
      have c11 : (g0.setI (b + 15) 2 0).I (b + 11) = g0.I (b + 11) := rowI_ne _ _ (by omega)
      have c12 : (g0.setI (b + 15) 2 0).I (b + 12) = g0.I (b + 12) := rowI_ne _ _ (by omega)
      have c15 : (g0.setI (b + 15) 2 0).I (b + 15) = upd (h.I (b + 15)) 2 0 := by rw [setI_I, if_pos rfl, a1 _ (by omega) (by omega)]
      have c3 : (g0.setI (b + 15) 2 0).2.2 = (h.setR b 3 (some t)).2.2 := a3
      have c4 : ∀ a, (g0.setI (b + 15) 2 0).J a = h.J a := a4
      rw [← c11, ← c12] at a2
      generalize g0.setI (b + 15) 2 0 = g at *
      have HMr : LayR z (h.setR b 3 (some t)).2.2 (b + 72) := HM.upR (fun a k1 k2 => (setR_R h b 3 a (some t)).trans (if_neg (by omega)))
      have HM1 : LayR z (g.setI (b + 72) 0 0).2.2 (b + 72) := by
        show LayR z g.2.2 (b + 72)
        rw [c3]
        exact HMr
      have im := restore_32 (n := n) (z := z) (h := g.setI (b + 72) 0 0) HM1 hi ((g.setI (b + 72) 0 0).I (b + 73)) 1458 0 n (by omega) (by omega)
      rw [cpy_0, rowI_self] at im
      have e73 : (g.setI (b + 72) 0 0).I (b + 73) = h.I (b + 73) := (rowI_ne _ _ (by omega)).trans (c1 _ (by omega) (by omega) (by omega))
      have e74 : (g.setI (b + 72) 0 0).I (b + 74) = h.I (b + 74) := (rowI_ne _ _ (by omega)).trans (c1 _ (by omega) (by omega) (by omega))
      rw [e73] at im
      refine two_go (y := fun g => f_X12_restore n z g (b + 72) (nI i)) rfl ⟨(g.setI (b + 72) 0 0).rowI (b + 73) (upd (cpy (h.I (b + 73)) (h.I (b + 73)) (1458 * (i + 1)) 0 1458) 66 (nI 0)), ?_, ?_⟩
      · unfold f_X12_restore
        rw [if_pos km, pI_ok km, bS, W1, bS, if_pos cv, if_neg (by decide), gR_ok km (rm_2 HM1), bS, lm_2 HM1 hi, bS, e74, q1, if_neg (by decide)]
        exact im
      · have b1 : ∀ a, a ≠ b + 72 → a ≠ b + 73 → ((g.setI (b + 72) 0 0).rowI (b + 73) (upd (cpy (h.I (b + 73)) (h.I (b + 73)) (1458 * (i + 1)) 0 1458) 66 (nI 0))).I a = g.I a := fun a e1 e2 => by
          rw [rowI_ne _ _ e2, setI_row, rowI_ne _ _ e1]
        have b2 : ((g.setI (b + 72) 0 0).rowI (b + 73) (upd (cpy (h.I (b + 73)) (h.I (b + 73)) (1458 * (i + 1)) 0 1458) 66 (nI 0))).I (b + 73) = upd (cpy (h.I (b + 73)) (h.I (b + 73)) (1458 * (i + 1)) 0 1458) 66 (nI 0) := rowI_I _ _ _
        have b4 : ∀ k, k ≠ 0 → ((g.setI (b + 72) 0 0).rowI (b + 73) (upd (cpy (h.I (b + 73)) (h.I (b + 73)) (1458 * (i + 1)) 0 1458) 66 (nI 0))).I (b + 72) k = h.I (b + 72) k := fun k hk => by
          rw [rowI_ne _ _ (by omega), setI_row, rowI_I, upd, if_neg hk, c1 _ (by omega) (by omega) (by omega)]
        have b5 : ((g.setI (b + 72) 0 0).rowI (b + 73) (upd (cpy (h.I (b + 73)) (h.I (b + 73)) (1458 * (i + 1)) 0 1458) 66 (nI 0))).2.2 = (h.setR b 3 (some t)).2.2 := c3
        have b6 : ∀ a, ((g.setI (b + 72) 0 0).rowI (b + 73) (upd (cpy (h.I (b + 73)) (h.I (b + 73)) (1458 * (i + 1)) 0 1458) 66 (nI 0))).J a = h.J a := c4
        generalize (g.setI (b + 72) 0 0).rowI (b + 73) (upd (cpy (h.I (b + 73)) (h.I (b + 73)) (1458 * (i + 1)) 0 1458) 66 (nI 0)) = g2 at *
        have RR : ∀ a, g2.R a = (h.setR b 3 (some t)).R a := fun a => by
          show g2.2.2 a = _
          rw [b5]
          rfl
        have Rn : ∀ a, a ≠ b → g2.R a = h.R a := fun a ha => by rw [RR, setR_R, if_neg ha]
        have Rs : g2.R b 3 = some t := by rw [RR, setR_R, if_pos rfl, va_up_self]
        have e : ∀ a, a ≠ b + 72 → a ≠ b + 73 → a ≠ b + 11 → a ≠ b + 12 → a ≠ b + 15 → g2.I a = h.I a := fun a k1 k2 k3 k4 k5 => (b1 a k1 k2).trans (c1 a k3 k4 k5)
        have F : Fr b h g2 := fun a ha => ⟨e a (by unfold kW at ha; omega) (by unfold kW at ha; omega) (by unfold kW at ha; omega) (by unfold kW at ha; omega) (by unfold kW at ha; omega), b6 a, Rn a (by unfold kW at ha; omega)⟩
        have low : ∀ k, k < 1458 → k ≠ 66 → g2.I (b + 73) k = img (h.I (b + 73)) i k := fun k hk h66 => by
          rw [b2, upd, if_neg h66, cpy_in (by omega)]
          rfl
        have high : ∀ k, 1458 ≤ k → g2.I (b + 73) k = h.I (b + 73) k := fun k hk => by
          rw [b2, upd, if_neg (by omega), cpy_up (by omega)]
        obtain ⟨i1, i2, i3, i4, ⟨i5, i5'⟩, i6, i7, i8, i9⟩ := I
        refine ⟨i1.fr F, by rw [b5]; exact HX1, by rw [b5]; exact HMr, ?_, ⟨i5.fr F (by omega) (by rw [Rn _ (by omega)]) (by rw [e (b + 74) (by omega) (by omega) (by omega) (by omega) (by omega)]) high (fun k k1 k2 => e _ (by omega) (by omega) (by omega) (by omega) (by omega)), i5'.fr F (by omega) (by rw [Rn _ (by omega)]) (by rw [e (b + 74) (by omega) (by omega) (by omega) (by omega) (by omega)]) high (fun k k1 k2 => e _ (by omega) (by omega) (by omega) (by omega) (by omega))⟩, ?_, ?_, i8.fr F, i9.fr F⟩
        · refine ⟨t, τ, P, Rs, q3.fr F, q4, q5.ext (fun k hk => low k (by omega) (by omega)), ?_, by rw [low 3 (by omega) (by omega)]; exact q7, q8, ?_, nx, 0, p1, by omega, ?_, ?_, ?_, fun j hj => absurd hj (Nat.not_lt_zero j)⟩
          · rw [(F t q3.k).1, low 0 (by omega) (by omega)]
            exact q6
          · rw [b1 (b + 11) (by omega) (by omega), b1 (b + 12) (by omega) (by omega)]
            exact PplI.ext q8 (fun k k1 k2 => low k (by omega) (by omega)) ⟨a2, q9.2⟩
          · rw [b1 (b + 15) (by omega) (by omega), c15, upd, if_neg (by omega)]
            exact p3
          · rw [b1 (b + 15) (by omega) (by omega), c15, upd, if_pos rfl]
            rfl
          · rw [b2, upd, if_pos rfl]
        · exact i6.fr (fun k k1 k2 => e _ (by omega) (by omega) (by omega) (by omega) (by omega)) (fun k k1 k2 => b6 _) (e _ (by omega) (by omega) (by omega) (by omega) (by omega)) (e _ (by omega) (by omega) (by omega) (by omega) (by omega)) (b6 _)
        · exact i7.fr (congrFun (e b (by omega) (by omega) (by omega) (by omega) (by omega)) 1) (e _ (by omega) (by omega) (by omega) (by omega) (by omega)) (by rw [e (b + 2) (by omega) (by omega) (by omega) (by omega) (by omega)]) (by rw [e (b + 2) (by omega) (by omega) (by omega) (by omega) (by omega)]) (b4 5 (by omega)) (b4 13 (by omega)) (b4 14 (by omega)) (e _ (by omega) (by omega) (by omega) (by omega) (by omega))
  · have key : ∀ {α : Type} (x y : α), (if v < 0 then x else if nI 2 ≤ v then x else if v < nI 2 then y else x) = x := fun x y => by
      by_cases d : v < 0
      · rw [if_pos d]
      · rw [if_neg d, if_pos]
        rw [le_iff, nI_to (by omega)]
        have d' : ¬ v.toInt < 0 := fun q => d (by rw [lt_iff]; exact q)
        omega
    rw [key, f_X11_refused, bS]
    refine two_go (y := fun g => f_X12_restore n z g (b + 72) v) rfl ⟨h.setI (b + 72) 0 0, ?_, ref_sc I 0⟩
    unfold f_X12_restore
    rw [if_pos km, pI_ok km, bS, W1, bS, if_neg cv, if_pos rfl]
    rfl
end
