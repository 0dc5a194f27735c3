/-! ===== season, talent, undo; what is told of people ===== -/
section
variable {n : Nat} {z0 : Sh} {h0 : Hp} {b c : Nat} {z : Sh} {h : Hp}
theorem season_ok (I : Inv z0 h0 b c z h) (hn : 400000 ≤ n) (x v : Int32) : ∃ r h1 h2, f_X11_season n z h b x v = some (r, h1) ∧ f_X12_season n z h1 (b + 72) x v = some (r, h2) ∧ Inv z0 h0 b c z h2 := by
  obtain ⟨t, τ, P, nx, sz, D⟩ := I.now
  obtain ⟨HX, ⟨HM, hτ, -, hA, h3, h6, hp6⟩, hR3, hT, -, HA, ⟨p1, p2, p3, p4, p5⟩, -⟩ := id D
  have km := km_0 HM
  have i1 : (v < 1) ↔ (v.toInt < 1) := by rw [lt_iff]; rfl
  have i40 : (v ≤ 40) ↔ (v.toInt ≤ 40) := by rw [le_iff]; rfl
  unfold f_X11_season f_X11_season_11
  rw [if_pos (kx_0 HX)]
  by_cases cv : 1 ≤ v.toInt ∧ v.toInt ≤ 40
  · rw [if_neg (fun q => by have := i1.mp q; omega), if_pos (i40.mpr cv.2)]
    obtain ⟨N, hN, rfl⟩ := nI_ex (x := v) (P := 41) (by omega)
    have eN : (nI N).toInt = N := nI_to (by omega)
    obtain ⟨g1, e1, C1, s1, T⟩ := tcopy D
    have HX1 : LayX z g1.2.2 b := by rw [C1.1]; exact HX
    have q1 : f_X2_doSeason n z g1 (b + 43) t (b + 11) x (nI N) = f_X2_doSeason_11 n z n (g1.setI (b + 43) 2 x) (b + 43) t (b + 11) (nI N) (nI 0) (nI 0) := by
      unfold f_X2_doSeason
      rw [if_pos (kx_43 HX), pI_ok (kx_43 HX), bS]
      rfl
    have CS : Ce b (b + 11) (b + 12) g1 (g1.setI (b + 43) 2 x) := Ce.set g1 2 x
    obtain ⟨g2, e2, C2, X2⟩ := csea_11 (n := n) (z := z) (b := b) (q := b + 11) (r := b + 12) (t := t) hn (Or.inl ⟨rfl, rfl⟩) hτ h6 (N := N) (by omega) N 0 n 0 (g1.setI (b + 43) 2 x) (h.I (b + 73)) (by omega) (by omega) (by omega) HX1 (now_PL HX1) (hT.fr ((C1.trans (Ce.c (Or.inl ⟨rfl, rfl⟩) CS)).fr)) (by rw [show (g1.setI (b + 43) 2 x).I (b + 11) = g1.I (b + 11) from rowI_ne _ _ (by omega), show (g1.setI (b + 43) 2 x).I (b + 12) = g1.I (b + 12) from rowI_ne _ _ (by omega), s1 11 (by omega) (by omega), s1 12 (by omega) (by omega)]; exact HA)
    rw [sv_I] at e2 X2
    have CE := CS.trans C2
    have HX2 : LayX z g2.2.2 b := by rw [CE.1]; exact HX1
    have per := aSea_per hτ h6 N x 0 (h.I (b + 73)) hp6
    have keq : ∀ k, k < 17 ∨ 66 ≤ k → (aSea τ P N x 0 (h.I (b + 73))).2 k = h.I (b + 73) k := fun k hk => aSea_k h6 hk N x 0 _
    have le := aSea_le (τ := τ) (P := P) N x 0 (h.I (b + 73))
    have ref : ∀ g3, Cc b h g3 → ∃ g5, f_X12_season n z g3 (b + 72) x (nI N) = (if (aSea τ P N x 0 (h.I (b + 73))).1 = 0 then some (nI 0, g5) else (f_X12_notes n z g5 (b + 72)).bind fun h3 => some (nI (aSea τ P N x 0 (h.I (b + 73))).1, h3)) ∧ Re b g3 g5 ∧ g5.I (b + 73) = (aSea τ P N x 0 (h.I (b + 73))).2 ∧ ∀ k, k < 49 → g5.I (b + 79) k = h.I (b + 73) (17 + k) := by
      intro g3 CC
      obtain ⟨H1, g4, m1, H4, R4, w4⟩ := beg_kept (n := n) D hn CC
      have H5 : RefI b z (g4.setI (b + 72) 20 x) τ P (h.I (b + 73)) := H4.fr rfl (rowI_ne _ _ (by omega))
      obtain ⟨g5, f1, f2, f3⟩ := msea_34 (n := n) (z := z) (b := b) hn (τ := τ) (P := P) (N := N) (by omega) N 0 n 0 (g4.setI (b + 72) 20 x) (h.I (b + 73)) (by omega) (by omega) (by omega) H5
      rw [sv_I] at f1 f3
      refine ⟨g5, ?_, (R4.trans (Re.set g4 x (by omega))).trans f2.e, f3, fun k hk => ?_⟩
      · unfold f_X12_season
        rw [if_pos km, pI_ok km, bS, within_ok, to64, show (1 : Int64).toInt = 1 from rfl, show (40 : Int64).toInt = 40 from rfl, if_pos cv, bS, if_neg (by decide), m1, bS, pI_ok km, bS]
        exact f1
      · rw [f2.2.2.1 _ (by omega) (by omega) (by omega) (by omega), show (g4.setI (b + 72) 20 x).I (b + 79) = g4.I (b + 79) from rowI_ne _ _ (by omega)]
        exact w4 k hk
    rw [gR_ok (kx_0 HX) (rx_0_5 HX), bS, gR_ok (kx_0 HX) (rx_0_4 HX), bS, e1, bS, gR_ok (kx_0 HX) (rx_0_11 HX1), bS, gR_ok (kx_0 HX) (show g1.R b 3 = some t by rw [C1.R]; exact hR3), bS, gR_ok (kx_0 HX) (rx_0_4 HX1), bS, q1, e2, bS]
    dsimp only
    by_cases hz : (aSea τ P N x 0 (h.I (b + 73))).1 = 0
    · rw [hz, if_pos (show nI 0 ≤ (0 : Int32) by decide)]
      have CC : Cc b h g2 := C1.trans (Ce.c (Or.inl ⟨rfl, rfl⟩) CE)
      obtain ⟨g5, f1, f4, f5, f6⟩ := ref g2 CC
      rw [aSea_0 N x 0 _ hz] at X2 f5
      refine two_go (y := fun g => f_X12_season n z g (b + 72) x (nI N)) rfl ⟨g5, ?_, I.same D CC (fun k k1 k2 => (CE.2.2 _ (by omega) (by omega) (by omega) (by omega) (by omega)).trans (s1 k (by omega) (by omega))) X2 f4 (fun k => congrFun f5 k)⟩
      rw [f1, if_pos hz]
    · have hpos : ¬ (nI (aSea τ P N x 0 (h.I (b + 73))).1 ≤ 0) := fun q => by
        have := (nI_leI (b := 0) (by omega) (by omega)).mp q
        omega
      obtain ⟨g3, k1, K, T3⟩ := ck_now D C1 s1 T CE X2
      rw [if_neg hpos, gR_ok (kx_0 HX) (rx_0_6 HX2), bS, gR_ok (kx_0 HX) (rx_0_5 HX2), bS, k1, bS]
      obtain ⟨g5, f1, f4, f5, f6⟩ := ref g3 K.1
      obtain ⟨h4, n1, n2, -⟩ := fin_kept (n := n) I D hn K f4 f5 f6 keq per
      refine two_go (y := fun g => f_X12_season n z g (b + 72) x (nI N)) rfl ⟨h4, ?_, n2⟩
      rw [f1, if_neg hz, n1, bS]
  · have key : ∀ {α : Type} (x y : α), (if v < 1 then x else if v ≤ 40 then y else x) = x := fun x y => by
      by_cases d : v < 1
      · rw [if_pos d]
      · rw [if_neg d, if_neg (fun q => cv ⟨by have d' : ¬ v.toInt < 1 := fun q => d (i1.mpr q); omega, i40.mp q⟩)]
    rw [key, f_X11_refused, bS]
    refine two_go (y := fun g => f_X12_season n z g (b + 72) x v) rfl ⟨h.setI (b + 72) 0 0, ?_, ref_sc I 0⟩
    try dsimp only
    unfold f_X12_season
    rw [if_pos km, pI_ok km, bS, within_ok, to64, show (1 : Int64).toInt = 1 from rfl, show (40 : Int64).toInt = 40 from rfl, if_neg cv, bS, if_pos rfl]
    rfl
theorem talent_ok (I : Inv z0 h0 b c z h) (hn : 400000 ≤ n) (p v : Int32) : ∃ r h1 h2, f_X11_talent z h b p v = some (r, h1) ∧ f_X12_talent n z h1 (b + 72) p v = some (r, h2) ∧ Inv z0 h0 b c z h2 := by
  obtain ⟨t, τ, P, nx, sz, D⟩ := I.now
  obtain ⟨HX, HRef, hR3, hT, -, HA, ⟨p1, p2, p3, p4, p5⟩, -⟩ := id D
  obtain ⟨HM, hτ, -, hA, h3, h6, hp6⟩ := id HRef
  have km := km_0 HM
  have i1 : (v < 0) ↔ (v.toInt < 0) := by rw [lt_iff]; rfl
  have i10 : (v < 10) ↔ (v.toInt < 10) := by rw [lt_iff]; rfl
  unfold f_X11_talent f_X11_talent_21
  rw [if_pos (kx_0 HX), gR_ok (kx_0 HX) (rx_0_4 HX), bS, has_ok (now_PL HX) HA.1.1 h6, bS]
  have H0 := set72 D (Cc.refl b h) (k := 0) 0
  have wv : ∀ g : Hp, f_X12_within z g (Int32.toInt64 v) 0 9 = some (if 0 ≤ v.toInt ∧ v.toInt ≤ 9 then 1 else 0) := fun g => by
    rw [within_ok, to64]
    rfl
  by_cases cp : 0 ≤ p.toInt ∧ p.toInt < P
  · rw [if_pos cp, if_neg (by decide)]
    obtain ⟨j, hj, rfl⟩ := nI_ex (P := P) cp
    have ej : (nI j).toInt = j := nI_to (by omega)
    by_cases cv : 0 ≤ v.toInt ∧ v.toInt ≤ 9
    · rw [if_neg (fun q => by have := i1.mp q; omega), if_pos (i10.mpr (by omega)), bS, show (6 : Int32) = nI 6 from rfl, part_ok (now_PL HX) (by omega) (by omega), bS, (PX_P HA.1 hj).2.2.2.2.2.2.1, gR_ok (kx_0 HX) (rx_0_6 HX), bS, bS]
      obtain ⟨k1, k2, k3, k4, k5, k6, k7⟩ := ckeep D (Cc.refl b h) (fun _ _ _ => rfl) (q := b + 11) (r := b + 12) (Or.inl ⟨rfl, rfl⟩) (fun _ _ _ => rfl) (Cc.refl b h) HA.1
      rw [k1, bS]
      generalize keepH h b (b + 11) (b + 12) nx sz = g3 at *
      have HX3 : LayX z g3.2.2 b := by rw [k2.1]; exact HX
      rw [gR_ok (kx_0 HX) (rx_0_4 HX3), bS, put_ok (now_PL HX3) (by omega) (by omega), bS]
      have s3 : ∀ k, k ≠ 12 → (g3.setI (b + 12) (9 * j + 6) v).I (b + k) = g3.I (b + k) := fun k hk => rowI_ne _ _ (by omega)
      have e12 : (g3.setI (b + 12) (9 * j + 6) v).I (b + 12) = upd (h.I (b + 12)) (9 * j + 6) v := by
        rw [setI_I, if_pos rfl, k3 12 (by omega) (by omega)]
      have K : CK b h (g3.setI (b + 12) (9 * j + 6) v) P nx sz (upd (h.I (b + 73)) (54 + j) v) := by
        refine ⟨k2.trans (Cc.row g3 _ (by omega)), ?_, ⟨?_, ?_⟩, ?_, fun k h1 h2 h3 => ?_⟩
        · rw [s3 11 (by omega), k3 11 (by omega) (by omega), e12]
          refine PX_pos (j := j) HA.1 (by unfold upd; rw [if_neg (by omega)]) (fun p' hp' e w hw9 => ⟨by unfold upd; rw [if_neg (by omega)], by have := pos_cases hw9; unfold upd; rw [if_neg (by omega)]⟩) (fun w hw9 => ?_)
          rcases pos_cases hw9 with ⟨rfl, e⟩ | ⟨rfl, e⟩ | ⟨rfl, e⟩ | ⟨rfl, e⟩ | ⟨rfl, e⟩ | ⟨rfl, e⟩ | ⟨rfl, e⟩ | ⟨rfl, e⟩ | ⟨rfl, e⟩ <;> rw [e] <;> unfold upd
          · left; exact ⟨by rw [if_neg (by omega)], by rw [if_neg (by omega)]⟩
          · left; exact ⟨by rw [if_neg (by omega)], by rw [if_neg (by omega)]⟩
          · left; exact ⟨by rw [if_neg (by omega)], by rw [if_neg (by omega)]⟩
          · left; exact ⟨by rw [if_neg (by omega)], by rw [if_neg (by omega)]⟩
          · left; exact ⟨by rw [if_neg (by omega)], by rw [if_neg (by omega)]⟩
          · left; exact ⟨by rw [if_neg (by omega)], by rw [if_neg (by omega)]⟩
          · right; rw [if_pos rfl, if_pos rfl]
          · left; exact ⟨by rw [if_neg (by omega)], by rw [if_neg (by omega)]⟩
          · left; exact ⟨by rw [if_neg (by omega)], by rw [if_neg (by omega)]⟩
        · rw [s3 15 (by omega)]; exact k4
        · rw [s3 15 (by omega)]; exact k5
        · rw [Nat.add_assoc b, Nat.add_assoc b, s3 _ (by omega), s3 _ (by omega), ← Nat.add_assoc b, ← Nat.add_assoc b]
          exact k6
        · rw [Nat.add_assoc b, s3 _ (by omega), ← Nat.add_assoc b]
          exact k7 k h1 h2 h3
      generalize g3.setI (b + 12) (9 * j + 6) v = g6 at *
      obtain ⟨H1, g4, m1, H4, R4, w4⟩ := beg_kept (n := n) D hn K.1
      obtain ⟨w, hw, hw2⟩ := nI_ex (x := v) (P := 10) (by omega)
      have per : ∀ p', p' < P → PerOK τ (upd (h.I (b + 73)) (54 + j) v) p' := by
        intro p' hp'
        by_cases e : p' = j
        · subst e
          obtain ⟨y, l, la, st, o, tal, pl, fe, hs, h1, h2, h3, h4, h5, h6', h7, h8, h9, h10, h11, h12, h13, h14, h15⟩ := hp6 _ hp'
          refine ⟨y, l, la, st, o, w, pl, fe, hs, ?_, ?_, ?_, ?_, ?_, ?_, ?_, ?_, ?_, h10, by omega, h12, h13, h14, h15⟩
          · unfold upd; rw [if_neg (by omega)]; exact h1
          · unfold upd; rw [if_neg (by omega)]; exact h2
          · unfold upd; rw [if_neg (by omega)]; exact h3
          · unfold upd; rw [if_neg (by omega)]; exact h4
          · unfold upd; rw [if_neg (by omega)]; exact h5
          · unfold upd; rw [if_neg (by omega)]; exact h6'
          · unfold upd; rw [if_pos rfl]; exact hw2
          · unfold upd; rw [if_neg (by omega)]; exact h8
          · unfold upd; rw [if_neg (by omega)]; exact h9
        · exact Per_up (hp6 p' hp') (fun w hw9 => by have := pos_cases hw9; unfold upd; rw [if_neg (by omega)])
      have hA' : ∀ k, k < 17 ∨ 66 ≤ k → upd (h.I (b + 73)) (54 + j) v k = h.I (b + 73) k := fun k hk => by unfold upd; rw [if_neg (by omega)]
      have HM4 := H4.1
      have e73 : (g4.setI (b + 73) (54 + j) v).I (b + 73) = upd (h.I (b + 73)) (54 + j) v := by rw [setI_I, if_pos rfl, H4.2.2.1]
      have e79 : (g4.setI (b + 73) (54 + j) v).I (b + 79) = g4.I (b + 79) := rowI_ne _ _ (by omega)
      have R5 : Re b g4 (g4.setI (b + 73) (54 + j) v) := Re.row _ _ (by omega)
      have st : stI z g4 (b + 73) (nI (54 + j)) v = some (g4.setI (b + 73) (54 + j) v) := by
        exact sm_1 (h := g4) HM4 (by omega)
      generalize g4.setI (b + 73) (54 + j) v = g5 at *
      obtain ⟨h4, n1, n2, n3, n4, n5⟩ := fin_kept (n := n) I D hn K (R4.trans R5) e73 (by rw [e79]; exact w4) hA' per
      have HM9 : LayR z h4.2.2 (b + 72) := by rw [n3]; exact HM
      refine two_go (y := fun g => f_X12_talent n z g (b + 72) (nI j) v) rfl ⟨h4, ?_, n2⟩
      unfold f_X12_talent
      rw [if_pos km, pI_ok km, bS, isP_ok H1, bS, to64, ej, if_pos (show (0 ≤ (j : Int) ∧ (j : Int) < P) by omega), if_neg (by decide), wv, bS, if_pos cv, if_neg (by decide), m1, bS, gR_ok km (rm_1 HM4), bS, show (54 : Int32) = nI 54 from rfl, nI_add, st, bS, n1, bS, gR_ok km (rm_18 HM9), bS, show (37 : Int32) = nI 37 from rfl, nI_add, lm_7 HM9 (by omega), bS, n5, e79, w4 _ (by omega)]
      congr 3
      omega
    · have key : ∀ {α : Type} (x y : α), (if v < 0 then x else if v < 10 then y else x) = x := fun x y => by
        by_cases d : v < 0
        · rw [if_pos d]
        · rw [if_neg d, if_neg (fun q => cv ⟨by have d' : ¬ v.toInt < 0 := fun q => d (i1.mpr q); omega, by have := i10.mp q; omega⟩)]
      rw [key, f_X11_refused, bS]
      refine two_go (y := fun g => f_X12_talent n z g (b + 72) (nI j) v) rfl ⟨h.setI (b + 72) 0 0, ?_, ref_sc I 0⟩
      unfold f_X12_talent
      rw [if_pos km, pI_ok km, bS, isP_ok H0, bS, to64, ej, if_pos (show (0 ≤ (j : Int) ∧ (j : Int) < P) by omega), if_neg (by decide), wv, bS, if_neg cv, if_pos rfl]
      rfl
  · rw [if_neg cp, if_pos rfl, f_X11_refused, bS]
    refine two_go (y := fun g => f_X12_talent n z g (b + 72) p v) rfl ⟨h.setI (b + 72) 0 0, ?_, ref_sc I 0⟩
    unfold f_X12_talent
    rw [if_pos km, pI_ok km, bS, isP_ok H0, bS, to64, if_neg cp, if_pos rfl]
    rfl
theorem fMod : ∀ nx, nx < 10 → ∀ m, m < 11 → 1 ≤ m → ((rmI (nI nx - nI m) 10).bind fun x1 => if 0 ≤ ((nI nx - nI m) ^^^ 10) then some x1 else if x1 = 0 then some x1 else some (x1 + 10)) = some (nI ((nx + 10 - m) % 10)) := by decide +kernel
theorem undo_44 {A : Nat → Int32} (HM : LayR z h.2.2 (b + 72)) {e : Nat} (he : e ≤ 9) (h66 : A 66 = nI e) : ∀ (d j i : Nat), j + d = 49 → d < i → f_X12_undo_44 n z i (h.rowI (b + 73) (cpy A A (67 + 49 * e) 17 j)) (b + 72) (nI j) = some (nI e, h.rowI (b + 73) (cpy A A (67 + 49 * e) 17 49)) := by
  intro d
  induction d with
  | zero =>
    intro j i hj hi
    obtain ⟨i, rfl⟩ : ∃ k, i = k + 1 := ⟨i - 1, by omega⟩
    obtain rfl : j = 49 := by omega
    have c66 : cpy A A (67 + 49 * e) 17 49 66 = nI e := by rw [cpy_up (by omega), h66]
    rw [f_X12_undo_44.eq_2, show (49 : Int32) = nI 49 from rfl, if_pos ((nI_leI (by omega) (by omega)).mpr (Nat.le_refl _)), gR_ok (km_0 HM) (rm_1 (h := h.rowI (b + 73) (cpy A A (67 + 49 * e) 17 49)) HM), bS, show (66 : Int32) = nI 66 from rfl, lm_1 (h := h.rowI (b + 73) (cpy A A (67 + 49 * e) 17 49)) HM (by omega), bS, rowI_I, c66]
  | succ d ih =>
    intro j i hj hi
    obtain ⟨i, rfl⟩ : ∃ k, i = k + 1 := ⟨i - 1, by omega⟩
    have c66 : cpy A A (67 + 49 * e) 17 j 66 = nI e := by rw [cpy_up (by omega), h66]
    have cj : cpy A A (67 + 49 * e) 17 j (67 + 49 * e + j) = A (67 + 49 * e + j) := cpy_up (by omega)
    have ih := ih (j + 1) i (by omega) (by omega)
    rw [f_X12_undo_44.eq_2, show (49 : Int32) = nI 49 from rfl, if_neg (fun q => by have := (nI_leI (by omega) (by omega)).mp q; omega), gR_ok (km_0 HM) (rm_1 (h := h.rowI (b + 73) (cpy A A (67 + 49 * e) 17 j)) HM), bS, bS, bS, show (66 : Int32) = nI 66 from rfl, lm_1 (h := h.rowI (b + 73) (cpy A A (67 + 49 * e) 17 j)) HM (by omega), bS, rowI_I, c66, show (67 : Int32) = nI 67 from rfl, nI_mul, nI_add, nI_add, lm_1 (h := h.rowI (b + 73) (cpy A A (67 + 49 * e) 17 j)) HM (by omega), bS, rowI_I, cj, show (17 : Int32) = nI 17 from rfl, nI_add, sm_1 (h := h.rowI (b + 73) (cpy A A (67 + 49 * e) 17 j)) HM (by omega), bS, bS, rowI_setI, show (1 : Int32) = nI 1 from rfl, nI_add]
    rw [cpy_s A A (67 + 49 * e) 17 j]
    exact ih
theorem undo_ok (I : Inv z0 h0 b c z h) (hn : 400000 ≤ n) (v : Int32) : ∃ r h1 h2, f_X11_undo z h b v = some (r, h1) ∧ f_X12_undo n z h1 (b + 72) v = some (r, h2) ∧ Inv z0 h0 b c z h2 := by
  obtain ⟨t, τ, P, nx, sz, D⟩ := I.now
  obtain ⟨HX, HRef, hR3, hT, -, HA, ⟨p1, p2, p3, p4, p5⟩, p6⟩ := id D
  obtain ⟨HM, hτ, -, hA, h3, h6, hp6⟩ := id HRef
  have km := km_0 HM
  have i1 : (v < 1) ↔ (v.toInt < 1) := by rw [lt_iff]; rfl
  have iz : (v ≤ nI sz) ↔ (v.toInt ≤ sz) := by rw [le_iff, nI_to (by omega)]
  unfold f_X11_undo
  rw [if_pos (kx_0 HX), gR_ok (kx_0 HX) (rx_0_6 HX), bS, gR_ok (kx_0 HX) (rx_0_4 HX), bS]
  unfold f_X4_bringBack
  rw [if_pos (kx_15 HX), gI_ok (kx_15 HX), bS, p4]
  have wv : ∀ g : Hp, f_X12_within z g (Int32.toInt64 v) 1 10 = some (if 1 ≤ v.toInt ∧ v.toInt ≤ 10 then 1 else 0) := fun g => by
    rw [within_ok, to64]
    rfl
  have c66 : (h.setI (b + 72) 0 0).I (b + 73) 66 = nI sz := by
    rw [show (h.setI (b + 72) 0 0).I (b + 73) = h.I (b + 73) from rowI_ne _ _ (by omega)]
    exact p5
  by_cases cv : 1 ≤ v.toInt ∧ v.toInt ≤ sz
  · obtain ⟨m, hm, rfl⟩ := nI_ex (x := v) (P := 11) (by omega)
    have em : (nI m).toInt = m := nI_to (by omega)
    rw [em] at cv
    rw [if_neg (fun q => by have := i1.mp q; omega), if_pos (iz.mpr (by omega)), gI_ok (kx_15 HX), bS, p3]
    unfold f_J9_floorMod_7cf53
    rw [fMod nx p1 m hm (by omega), bS, gR_ok (kx_15 HX) (rx_15_0 HX), bS, aL_ok (kx_16 HX) rfl (nx_16 HX), bS, if_neg (fun q => by have := (nI_leI (by omega) (by omega)).mp q; omega), bS]
    obtain ⟨a, ha⟩ : ∃ a, a = (nx + 10 - m) % 10 := ⟨_, rfl⟩
    rw [← ha]
    have ha10 : a < 10 := by omega
    obtain ⟨K1, K2⟩ := kept_PL HX ha10
    rw [ldR_ok (kx_16 HX) (nx_16 HX) rfl ha10 (by omega) K2, bS]
    unfold f_X4_bringBack_46
    dsimp only
    rw [copy_ok (now_PL HX) K1 (by omega) (by omega), bS]
    have u1 : ((h.rowI (b + 12) (va_cpy (h.I (b + 18 + 2 * a)) (h.I (b + 12)) 0 0 54)).rowI (b + 11) (upd (upd (h.I (b + 11)) 1 (h.I (b + 17 + 2 * a) 1)) 2 (h.I (b + 17 + 2 * a) 2))).I (b + 15) = h.I (b + 15) := by rw [rowI_ne _ _ (by omega), rowI_ne _ _ (by omega)]
    have u2 : PeopleX (((h.rowI (b + 12) (va_cpy (h.I (b + 18 + 2 * a)) (h.I (b + 12)) 0 0 54)).rowI (b + 11) (upd (upd (h.I (b + 11)) 1 (h.I (b + 17 + 2 * a) 1)) 2 (h.I (b + 17 + 2 * a) 2))).I (b + 11)) (((h.rowI (b + 12) (va_cpy (h.I (b + 18 + 2 * a)) (h.I (b + 12)) 0 0 54)).rowI (b + 11) (upd (upd (h.I (b + 11)) 1 (h.I (b + 17 + 2 * a) 1)) 2 (h.I (b + 17 + 2 * a) 2))).I (b + 12)) (ovr (h.I (b + 73)) (sz - m)) P := by
      rw [rowI_I, rowI_ne _ _ (by omega), rowI_I]
      have := p6 (sz - m) (by omega)
      rw [show (nx + 10 - sz + (sz - m)) % 10 = a by omega, show b + 17 + (2 * a + 1) = b + 18 + 2 * a by omega] at this
      exact this.1.cp h6 (by rw [upd, if_neg (by omega), upd, if_pos rfl]) (by rw [upd, if_pos rfl]) (fun k hk => cp54 hk)
    have u3 : Cc b h ((h.rowI (b + 12) (va_cpy (h.I (b + 18 + 2 * a)) (h.I (b + 12)) 0 0 54)).rowI (b + 11) (upd (upd (h.I (b + 11)) 1 (h.I (b + 17 + 2 * a) 1)) 2 (h.I (b + 17 + 2 * a) 2))) := (Cc.row _ _ (by omega)).trans (Cc.row _ _ (by omega))
    have u4 : ∀ k, k < 20 → ((h.rowI (b + 12) (va_cpy (h.I (b + 18 + 2 * a)) (h.I (b + 12)) 0 0 54)).rowI (b + 11) (upd (upd (h.I (b + 11)) 1 (h.I (b + 17 + 2 * a) 1)) 2 (h.I (b + 17 + 2 * a) 2))).I (b + 17 + k) = h.I (b + 17 + k) := fun k _ => by rw [rowI_ne _ _ (by omega), rowI_ne _ _ (by omega)]
    generalize (h.rowI (b + 12) (va_cpy (h.I (b + 18 + 2 * a)) (h.I (b + 12)) 0 0 54)).rowI (b + 11) (upd (upd (h.I (b + 11)) 1 (h.I (b + 17 + 2 * a) 1)) 2 (h.I (b + 17 + 2 * a) 2)) = g at *
    have HXg : LayX z g.2.2 b := by rw [u3.1]; exact HX
    rw [pI_ok (kx_15 HX), bS, gI_ok (kx_15 HX), bS, setI_row, rowI_I, u1, upd, if_neg (by omega), p4, nI_sub (by omega), pI_ok (kx_15 HX), bS, setI_row, rowI_I, rowI_rowI, bS]
    dsimp only
    rw [if_neg (by decide), gR_ok (kx_0 HX) (rx_0_6 (h := g.rowI (b + 15) _) HXg), bS, gI_ok (kx_15 HX), bS, rowI_I, upd, if_pos rfl]
    have v3 : Cc b h (g.rowI (b + 15) (upd (upd (h.I (b + 15)) 1 (nI a)) 2 (nI (sz - m)))) := u3.trans (Cc.row _ _ (by omega))
    have v2 : PeopleX ((g.rowI (b + 15) (upd (upd (h.I (b + 15)) 1 (nI a)) 2 (nI (sz - m)))).I (b + 11)) ((g.rowI (b + 15) (upd (upd (h.I (b + 15)) 1 (nI a)) 2 (nI (sz - m)))).I (b + 12)) (ovr (h.I (b + 73)) (sz - m)) P := by
      rw [rowI_ne _ _ (by omega), rowI_ne _ _ (by omega)]
      exact u2
    have v4 : ∀ k, k < 20 → (g.rowI (b + 15) (upd (upd (h.I (b + 15)) 1 (nI a)) 2 (nI (sz - m)))).I (b + 17 + k) = h.I (b + 17 + k) := fun k hk => by
      rw [rowI_ne _ _ (by omega)]
      exact u4 k hk
    have v5 : (g.rowI (b + 15) (upd (upd (h.I (b + 15)) 1 (nI a)) 2 (nI (sz - m)))).I (b + 15) = upd (upd (h.I (b + 15)) 1 (nI a)) 2 (nI (sz - m)) := rowI_I _ _ _
    generalize g.rowI (b + 15) (upd (upd (h.I (b + 15)) 1 (nI a)) 2 (nI (sz - m))) = g3 at *
    have H1 := set72 D v3 (k := 0) 0
    have d66 : (g3.setI (b + 72) 0 0).I (b + 73) 66 = nI sz := by rw [H1.2.2.1]; exact p5
    have un := undo_44 (n := n) (z := z) (h := g3.setI (b + 72) 0 0) (b := b) (A := upd (h.I (b + 73)) 66 (nI (sz - m))) H1.1 (e := sz - m) (by omega) (by rw [upd, if_pos rfl]) 49 0 n (by omega) (by omega)
    rw [cpy_0] at un
    have eA : ∀ k, cpy (upd (h.I (b + 73)) 66 (nI (sz - m))) (upd (h.I (b + 73)) 66 (nI (sz - m))) (67 + 49 * (sz - m)) 17 49 k = if k = 66 then nI (sz - m) else ovr (h.I (b + 73)) (sz - m) k := by
      intro k
      unfold ovr
      by_cases ck : 17 ≤ k ∧ k < 17 + 49
      · rw [cpy_in ck, upd, if_neg (by omega), if_neg (by omega), if_pos (by omega)]
      · rw [cpy_up ck, upd]
        by_cases e66 : k = 66
        · rw [if_pos e66, if_pos e66]
        · rw [if_neg e66, if_neg e66, if_neg (by omega)]
    generalize hA2 : cpy (upd (h.I (b + 73)) 66 (nI (sz - m))) (upd (h.I (b + 73)) 66 (nI (sz - m))) (67 + 49 * (sz - m)) 17 49 = A2 at *
    refine two_go (y := fun g => f_X12_undo n z g (b + 72) (nI m)) rfl ⟨(g3.setI (b + 72) 0 0).rowI (b + 73) A2, ?_, ?_⟩
    · unfold f_X12_undo
      rw [if_pos km, pI_ok km, bS, wv, bS, if_pos (show 1 ≤ (nI m).toInt ∧ (nI m).toInt ≤ 10 by omega), if_neg (by decide), gR_ok km (rm_1 H1.1), bS, show (66 : Int32) = nI 66 from rfl, lm_1 H1.1 (by omega), bS, d66, if_pos ((nI_leI (by omega) (by omega)).mpr (by omega)), bS, lm_1 H1.1 (by omega), bS, d66, nI_sub (by omega), sm_1 H1.1 (by omega), bS, setI_row, H1.2.2.1]
      exact un
    · refine I.two D v3 ((Re.set g3 0 (by omega)).trans (Re.row _ A2 (by omega))) (fun k hk => ?_) ?_ ?_
      · rw [rowI_I, eA, if_neg (by omega)]
        unfold ovr
        rw [if_neg (by omega)]
      · have e11 : ((g3.setI (b + 72) 0 0).rowI (b + 73) A2).I (b + 11) = g3.I (b + 11) := by rw [rowI_ne _ _ (by omega)]; exact rowI_ne _ _ (by omega)
        have e12 : ((g3.setI (b + 72) 0 0).rowI (b + 73) A2).I (b + 12) = g3.I (b + 12) := by rw [rowI_ne _ _ (by omega)]; exact rowI_ne _ _ (by omega)
        rw [rowI_I, e11, e12]
        have := p6 (sz - m) (by omega)
        exact PplI.ext h6 (fun k k1 k2 => by rw [eA, if_neg (by omega)]) ⟨v2, this.2⟩
      · have e15 : ((g3.setI (b + 72) 0 0).rowI (b + 73) A2).I (b + 15) = g3.I (b + 15) := by rw [rowI_ne _ _ (by omega)]; exact rowI_ne _ _ (by omega)
        have e17 : ∀ k, k < 20 → ((g3.setI (b + 72) 0 0).rowI (b + 73) A2).I (b + 17 + k) = h.I (b + 17 + k) := fun k hk => by
          rw [rowI_ne _ _ (by omega), show (g3.setI (b + 72) 0 0).I (b + 17 + k) = g3.I (b + 17 + k) from rowI_ne _ _ (by omega)]
          exact v4 k hk
        rw [rowI_I, e15, v5]
        refine ⟨a, sz - m, ha10, by omega, by rw [upd, if_neg (by omega), upd, if_pos rfl], by rw [upd, if_pos rfl], by rw [eA, if_pos rfl], fun i hi => ?_⟩
        dsimp only
        have := p6 i (by omega)
        rw [show (a + 10 - (sz - m) + i) % 10 = (nx + 10 - sz + i) % 10 by omega, e17 _ (by omega), e17 _ (by omega)]
        refine this.ext h6 (fun k k1 k2 => ?_)
        unfold ovr
        by_cases ck : 17 ≤ k ∧ k < 66
        · rw [if_pos ck, if_pos ck, eA, if_neg (by omega)]
          unfold ovr
          rw [if_neg (by omega)]
        · rw [if_neg ck, if_neg ck, eA, if_neg (by omega)]
          unfold ovr
          rw [if_neg ck]
  · have key : ∀ {α : Type} (x y : α), (if v < 1 then x else if v ≤ nI sz then y else x) = x := fun x y => by
      by_cases d : v < 1
      · rw [if_pos d]
      · rw [if_neg d, if_neg (fun q => cv ⟨by have d' : ¬ v.toInt < 1 := fun q => d (i1.mpr q); omega, iz.mp q⟩)]
    rw [key, bS]
    dsimp only
    rw [if_pos rfl, f_X11_refused, bS]
    refine two_go (y := fun g => f_X12_undo n z g (b + 72) v) rfl ⟨h.setI (b + 72) 0 0, ?_, ref_sc I 0⟩
    unfold f_X12_undo
    have HM1 : LayR z (h.setI (b + 72) 0 0).2.2 (b + 72) := HM
    rw [if_pos km, pI_ok km, bS, wv, bS]
    by_cases cu : 1 ≤ v.toInt ∧ v.toInt ≤ 10
    · rw [if_pos cu, if_neg (by decide), gR_ok km (rm_1 HM1), bS, show (66 : Int32) = nI 66 from rfl, lm_1 HM1 (by omega), bS, c66, if_neg (fun q => by have := iz.mp q; omega)]
      rfl
    · rw [if_neg cu, if_pos rfl]
      rfl
end
