/-! ===== small calls: fault, person, count, worth, grown ===== -/
theorem one_go {α : Type} {x : Option α} {y : Option (α × Hp)} {Q : Hp → Prop} {r : α} (hx : x = some r) (hy : ∃ h2, y = some (r, h2) ∧ Q h2) : ∃ r h2, x = some r ∧ y = some (r, h2) ∧ Q h2 := by
  obtain ⟨h2, e, q⟩ := hy
  exact ⟨r, h2, hx, e, q⟩
section
variable {n : Nat} {z0 : Sh} {h0 : Hp} {b c : Nat} {z : Sh} {h : Hp}
theorem fault_ok (I : Inv z0 h0 b c z h) (v : Int32) : ∃ r h2, f_X11_fault z h b v = some r ∧ f_X12_fault z h (b + 72) v = some (r, h2) ∧ Inv z0 h0 b c z h2 := by
  have HX := I.2.1
  have HM := I.2.2.1
  obtain ⟨-, t1, t2⟩ := I.2.2.2.2.2.2.1
  have km := km_0 HM
  unfold f_X11_fault f_X12_fault
  rw [if_pos (kx_0 HX), if_pos km, pI_ok km, bS]
  have e13 : (h.setI (b + 72) 0 0).I (b + 72) 13 = h.I (b + 72) 13 := by rw [setI_I, if_pos rfl, upd, if_neg (by omega)]
  have e14 : (h.setI (b + 72) 0 0).I (b + 72) 14 = h.I (b + 72) 14 := by rw [setI_I, if_pos rfl, upd, if_neg (by omega)]
  by_cases c0 : v = 0
  · rw [if_pos c0, if_pos c0, gR_ok (kx_0 HX) (rx_0_2 HX), bS, gI_ok (kx_2 HX), bS, gI_ok km, bS, e13, t1]
    exact ⟨_, _, rfl, rfl, ref_sc I 0⟩
  · rw [if_neg c0, if_neg c0]
    by_cases c1 : v = 1
    · rw [if_pos c1, if_pos c1, gR_ok (kx_0 HX) (rx_0_2 HX), bS, gI_ok (kx_2 HX), bS, gI_ok km, bS, e14, t2]
      exact ⟨_, _, rfl, rfl, ref_sc I 0⟩
    · rw [if_neg c1, if_neg c1]
      exact ⟨_, _, rfl, rfl, ref_sc I 0⟩
theorem person_ok (I : Inv z0 h0 b c z h) (p v : Int32) : ∃ r h2, f_X11_person z h b p v = some r ∧ f_X12_person z h (b + 72) p v = some (r, h2) ∧ Inv z0 h0 b c z h2 := by
  obtain ⟨t, τ, P, nx, sz, D⟩ := I.now
  obtain ⟨HX, HRef, hR3, hT, -, HA, ⟨p1, p2, p3, p4, p5⟩, -⟩ := id D
  obtain ⟨HM, hτ, -, hA, h3, h6, hp6⟩ := id HRef
  have km := km_0 HM
  have i1 : (v < 0) ↔ (v.toInt < 0) := by rw [lt_iff]; rfl
  have i9 : (v < 9) ↔ (v.toInt < 9) := by rw [lt_iff]; rfl
  have H0 := set72 D (Cc.refl b h) (k := 0) 0
  have HM1 := H0.1
  have e73 := H0.2.2.1
  unfold f_X11_person f_X11_person_21
  rw [if_pos (kx_0 HX), gR_ok (kx_0 HX) (rx_0_4 HX), bS, has_ok (now_PL HX) HA.1.1 h6, bS]
  by_cases cp : 0 ≤ p.toInt ∧ p.toInt < P
  · rw [if_pos cp, if_neg (by decide)]
    obtain ⟨j, hj, rfl⟩ := nI_ex (P := P) cp
    have ej : (nI j).toInt = j := nI_to (by omega)
    have isp : f_X12_isPerson z (h.setI (b + 72) 0 0) (b + 72) (Int32.toInt64 (nI j)) = some 1 := by
      rw [isP_ok H0, to64, ej, if_pos (show (0 ≤ (j : Int) ∧ (j : Int) < P) by omega)]
    by_cases cv : 0 ≤ v.toInt ∧ v.toInt < 9
    · rw [if_neg (fun q => by have := i1.mp q; omega), if_pos (i9.mpr (by omega)), bS]
      obtain ⟨w, hw, rfl⟩ := nI_ex (x := v) (P := 9) cv
      rw [part_ok (now_PL HX) (by omega) hw, bS, HA.1.2.2 j hj w hw]
      refine one_go rfl ⟨h.setI (b + 72) 0 0, ?_, ref_sc I 0⟩
      unfold f_X12_person
      rw [if_pos km, pI_ok km, bS, isp, bS, if_neg (by decide)]
      match w, hw with
      | 0, _ => rw [if_pos (by decide), gR_ok km (rm_1 HM1), bS, show (18 : Int32) = nI 18 from rfl, nI_add, lm_1 HM1 (by omega), bS, e73]; rfl
      | 1, _ => rw [if_neg (by decide), if_pos (by decide), gR_ok km (rm_1 HM1), bS, show (24 : Int32) = nI 24 from rfl, nI_add, lm_1 HM1 (by omega), bS, e73]; rfl
      | 2, _ => rw [if_neg (by decide), if_neg (by decide), if_pos (by decide), gR_ok km (rm_1 HM1), bS, show (30 : Int32) = nI 30 from rfl, nI_add, lm_1 HM1 (by omega), bS, e73]; rfl
      | 3, _ => rw [if_neg (by decide), if_neg (by decide), if_neg (by decide), if_pos (by decide), gR_ok km (rm_1 HM1), bS, show (36 : Int32) = nI 36 from rfl, nI_add, lm_1 HM1 (by omega), bS, e73]; rfl
      | 4, _ => rw [if_neg (by decide), if_neg (by decide), if_neg (by decide), if_neg (by decide), if_pos (by decide), gR_ok km (rm_1 HM1), bS, show (42 : Int32) = nI 42 from rfl, nI_add, lm_1 HM1 (by omega), bS, e73]; rfl
      | 5, _ => rw [if_neg (by decide), if_neg (by decide), if_neg (by decide), if_neg (by decide), if_neg (by decide), if_pos (by decide), gR_ok km (rm_1 HM1), bS, show (48 : Int32) = nI 48 from rfl, nI_add, lm_1 HM1 (by omega), bS, e73]; rfl
      | 6, _ => rw [if_neg (by decide), if_neg (by decide), if_neg (by decide), if_neg (by decide), if_neg (by decide), if_neg (by decide), if_pos (by decide), gR_ok km (rm_1 HM1), bS, show (54 : Int32) = nI 54 from rfl, nI_add, lm_1 HM1 (by omega), bS, e73]; rfl
      | 7, _ => rw [if_neg (by decide), if_neg (by decide), if_neg (by decide), if_neg (by decide), if_neg (by decide), if_neg (by decide), if_neg (by decide), if_pos (by decide), gR_ok km (rm_1 HM1), bS, show (11 : Int32) = nI 11 from rfl, nI_add, lm_1 HM1 (by omega), bS, e73]; rfl
      | 8, _ => rw [if_neg (by decide), if_neg (by decide), if_neg (by decide), if_neg (by decide), if_neg (by decide), if_neg (by decide), if_neg (by decide), if_neg (by decide), if_pos (by decide), gR_ok km (rm_1 HM1), bS, show (60 : Int32) = nI 60 from rfl, nI_add, lm_1 HM1 (by omega), bS, e73]; rfl
      | w + 9, hw => omega
    · have key : ∀ {α : Type} (x y : α), (if v < 0 then x else if v < 9 then y else x) = x := fun x y => by
        by_cases d : v < 0
        · rw [if_pos d]
        · rw [if_neg d, if_neg (fun q => cv ⟨by have d' : ¬ v.toInt < 0 := fun q => d (i1.mpr q); omega, i9.mp q⟩)]
      rw [key, f_X11_refused, bS]
      refine one_go rfl ⟨h.setI (b + 72) 0 0, ?_, ref_sc I 0⟩
      have ne : ∀ k : Nat, k < 9 → ¬ v = nI k := fun k hk q => by
        rw [q, nI_to (by omega)] at cv
        omega
      unfold f_X12_person
      rw [if_pos km, pI_ok km, bS, isp, bS, if_neg (by decide), if_neg (show ¬ v = 0 from ne 0 (by omega)), if_neg (show ¬ v = 1 from ne 1 (by omega)), if_neg (show ¬ v = 2 from ne 2 (by omega)), if_neg (show ¬ v = 3 from ne 3 (by omega)), if_neg (show ¬ v = 4 from ne 4 (by omega)), if_neg (show ¬ v = 5 from ne 5 (by omega)), if_neg (show ¬ v = 6 from ne 6 (by omega)), if_neg (show ¬ v = 7 from ne 7 (by omega)), if_neg (show ¬ v = 8 from ne 8 (by omega))]
      rfl
  · rw [if_neg cp, if_pos rfl, f_X11_refused, bS]
    refine one_go rfl ⟨h.setI (b + 72) 0 0, ?_, ref_sc I 0⟩
    unfold f_X12_person
    rw [if_pos km, pI_ok km, bS, isP_ok H0, bS, to64, if_neg cp, if_pos rfl]
    rfl
theorem count_ok (I : Inv z0 h0 b c z h) (hn : 400000 ≤ n) (v : Int32) : ∃ r h2, f_X11_count n z h b v = some r ∧ f_X12_count n z h (b + 72) v = some (r, h2) ∧ Inv z0 h0 b c z h2 := by
  obtain ⟨t, τ, P, nx, sz, D⟩ := I.now
  obtain ⟨HX, HRef, hR3, hT, hT5, HA, ⟨p1, p2, p3, p4, p5⟩, -⟩ := id D
  obtain ⟨HM, hτ, -, hA, h3, h6, hp6⟩ := id HRef
  obtain ⟨⟨tp, t1, t2, t3, -⟩, -⟩ := I.2.2.2.2.2.2.1
  have km := km_0 HM
  have H0 := set72 D (Cc.refl b h) (k := 0) 0
  have HM1 := H0.1
  have e73 := H0.2.2.1
  have e5 : (h.setI (b + 72) 0 0).I (b + 72) 5 = h.I (b + 72) 5 := by rw [setI_I, if_pos rfl, upd, if_neg (by omega)]
  have hw : f_X5_wealth n z h (b + 11) = some (wF (h.I (b + 73)) P 0 0) := by
    unfold f_X5_wealth
    rw [if_pos (kx_11 HX)]
    exact wealth_4 (now_PL HX) HA.1 h6 P 0 n 0 (by omega) (by omega)
  have hd : f_X5_drawn n z h (b + 11) = some (dF (h.I (b + 73)) P 0 0) := by
    unfold f_X5_drawn
    rw [if_pos (kx_11 HX)]
    exact drawn_4 (now_PL HX) HA.1 h6 P 0 n 0 (by omega) (by omega)
  have hp : f_X5_pledged n z h (b + 11) = some (pF (h.I (b + 73)) P 0 0) := by
    unfold f_X5_pledged
    rw [if_pos (kx_11 HX)]
    exact pledged_4 (now_PL HX) HA.1 h6 P 0 n 0 (by omega) (by omega)
  have mw : f_X12_hasAll n z (h.setI (b + 72) 0 0) (b + 72) = some (wF (h.I (b + 73)) P 0 0) := by
    unfold f_X12_hasAll
    rw [if_pos km]
    exact hasAll_4 HM1 e73 h3 h6 P 0 n 0 (by omega) (by omega)
  have md : f_X12_inSecond n z (h.setI (b + 72) 0 0) (b + 72) = some (dF (h.I (b + 73)) P 0 0) := by
    unfold f_X12_inSecond
    rw [if_pos km]
    exact inSecond_4 HM1 e73 h3 h6 P 0 n 0 (by omega) (by omega)
  have mp : f_X12_pledgedSet n z (h.setI (b + 72) 0 0) (b + 72) = some (pF (h.I (b + 73)) P 0 0) := by
    unfold f_X12_pledgedSet
    rw [if_pos km]
    exact pledgedSet_4 HM1 e73 h3 h6 P 0 n 0 (by omega) (by omega)
  have fin := ref_sc I 0
  unfold f_X11_count f_X12_count
  rw [if_pos (kx_0 HX), if_pos km, pI_ok km, bS]
  by_cases c0 : v = 0
  · rw [if_pos c0, if_pos c0, gR_ok (kx_0 HX) hR3, bS, gI_ok hT.2.1, bS, hT.2.2.1, gR_ok km (rm_1 HM1), bS, show (1 : Int32) = nI 1 from rfl, lm_1 HM1 (by omega), bS, e73, hA.1]
    exact ⟨_, _, rfl, rfl, fin⟩
  rw [if_neg c0, if_neg c0]
  by_cases c1 : v = 1
  · rw [if_pos c1, if_pos c1, gR_ok (kx_0 HX) hR3, bS, gI_ok hT.2.1, bS, hT.2.2.2.1, gR_ok km (rm_1 HM1), bS, show (2 : Int32) = nI 2 from rfl, lm_1 HM1 (by omega), bS, e73, hA.2.1]
    exact ⟨_, _, rfl, rfl, fin⟩
  rw [if_neg c1, if_neg c1]
  by_cases c2 : v = 2
  · rw [if_pos c2, if_pos c2, gR_ok (kx_0 HX) (rx_0_4 HX), bS, gI_ok (kx_11 HX), bS, HA.1.1, gR_ok km (rm_1 HM1), bS, show (3 : Int32) = nI 3 from rfl, lm_1 HM1 (by omega), bS, e73, h3]
    exact ⟨_, _, rfl, rfl, fin⟩
  rw [if_neg c2, if_neg c2]
  by_cases c3 : v = 3
  · rw [if_pos c3, if_pos c3, gR_ok (kx_0 HX) (rx_0_4 HX), bS, gI_ok (kx_11 HX), bS, HA.1.2.1, gR_ok km (rm_1 HM1), bS, show (17 : Int32) = nI 17 from rfl, lm_1 HM1 (by omega), bS, e73]
    exact ⟨_, _, rfl, rfl, fin⟩
  rw [if_neg c3, if_neg c3]
  by_cases c4 : v = 4
  · rw [if_pos c4, if_pos c4, gR_ok (kx_0 HX) (rx_0_4 HX), bS, hw, bS, mw, bS]
    exact ⟨_, _, rfl, rfl, fin⟩
  rw [if_neg c4, if_neg c4]
  by_cases c5 : v = 5
  · rw [if_pos c5, if_pos c5, gR_ok (kx_0 HX) (rx_0_4 HX), bS, hd, bS, md, bS]
    exact ⟨_, _, rfl, rfl, fin⟩
  rw [if_neg c5, if_neg c5]
  by_cases c6 : v = 6
  · rw [if_pos c6, if_pos c6, gR_ok (kx_0 HX) (rx_0_4 HX), bS, hp, bS, mp, bS]
    exact ⟨_, _, rfl, rfl, fin⟩
  rw [if_neg c6, if_neg c6]
  by_cases c7 : v = 7
  · rw [if_pos c7, if_pos c7, gR_ok (kx_0 HX) (rx_0_6 HX), bS, gI_ok (kx_15 HX), bS, p4, gR_ok km (rm_1 HM1), bS, show (66 : Int32) = nI 66 from rfl, lm_1 HM1 (by omega), bS, e73, p5]
    exact ⟨_, _, rfl, rfl, fin⟩
  rw [if_neg c7, if_neg c7]
  by_cases c8 : v = 8
  · rw [if_pos c8, if_pos c8, gI_ok (kx_0 HX), bS, t2, gI_ok km, bS, e5, t3]
    exact ⟨_, _, rfl, rfl, fin⟩
  rw [if_neg c8, if_neg c8]
  by_cases c9 : v = 9
  · rw [if_pos c9, if_pos c9, gR_ok (kx_0 HX) hR3, bS, gI_ok hT.2.1, bS, hT5, gR_ok km (rm_1 HM1), bS, show ldI z (h.setI (b + 72) 0 0) (b + 73) 0 = some ((h.setI (b + 72) 0 0).I (b + 73) 0) from lm_1 (h := h.setI (b + 72) 0 0) HM1 (j := 0) (by omega), bS, e73]
    exact ⟨_, _, rfl, rfl, fin⟩
  rw [if_neg c9, if_neg c9]
  exact ⟨_, _, rfl, rfl, fin⟩
theorem worth_ok (I : Inv z0 h0 b c z h) (hn : 400000 ≤ n) (p v : Int32) : ∃ r h1 h2, f_X11_worth n z h b p v = some (r, h1) ∧ f_X12_worth n z h1 (b + 72) p v = some (r, h2) ∧ Inv z0 h0 b c z h2 := by
  obtain ⟨t, τ, P, nx, sz, D⟩ := I.now
  obtain ⟨HX, HRef, hR3, hT, hT5, HA, ⟨p1, p2, p3, p4, p5⟩, -⟩ := id D
  obtain ⟨HM, hτ, -, hA, h3, h6, hp6⟩ := id HRef
  have km := km_0 HM
  have H0 := set72 D (Cc.refl b h) (k := 0) 0
  have hY := hτ.1
  have hD := hτ.2.1
  unfold f_X11_worth f_X11_worth_23
  rw [if_pos (kx_0 HX), gR_ok (kx_0 HX) (rx_0_4 HX), bS, has_ok (now_PL HX) HA.1.1 h6, bS, gR_ok (kx_0 HX) hR3, bS, trade_ok hT.2.1 hT.2.2.2.1 hD.2, bS, to64]
  by_cases cp : 0 ≤ p.toInt ∧ p.toInt < P
  · rw [if_pos cp, if_neg (by decide)]
    obtain ⟨j, hj, rfl⟩ := nI_ex (P := P) cp
    have ej : (nI j).toInt = j := nI_to (by omega)
    have isp : ∀ g, RefI b z g τ P (h.I (b + 73)) → f_X12_isPerson z g (b + 72) (Int32.toInt64 (nI j)) = some 1 := fun g H => by
      rw [isP_ok H, to64, ej, if_pos (show (0 ≤ (j : Int) ∧ (j : Int) < P) by omega)]
    by_cases cv : 0 ≤ v.toInt ∧ v.toInt < tD τ
    · obtain ⟨k, hk, rfl⟩ := nI_ex (x := v) (P := tD τ) cv
      have ek : (nI k).toInt = k := nI_to (by omega)
      have ist : ∀ g, RefI b z g τ P (h.I (b + 73)) → f_X12_isTrade z g (b + 72) (Int32.toInt64 (nI k)) = some 1 := fun g H => by
        rw [isT_ok H, to64, ek, if_pos (show (0 ≤ (k : Int) ∧ (k : Int) < tD τ) by omega)]
      rw [if_pos cv, if_neg (by decide), bS, show (0 : Int32) = nI 0 from rfl, part_ok (now_PL HX) (by omega) (by omega), bS, bS, gI_ok hT.2.1, bS, hT.2.2.1, Nat.add_zero (9 * j), (PX_P HA.1 hj).1]
      obtain ⟨s0, s1, s2, s3, s4, s5, s6, e11, e12, e13, e14, e15, e16, e17, -⟩ := Per_st hτ (hp6 j hj)
      have hs0 := s0.2.1
      rw [e13]
      by_cases hy : nv (h.I (b + 73)) (18 + j) < tY τ
      · rw [if_pos ((nI_lt2 (by omega) (by omega)).mpr hy), gR_ok (kx_0 HX) (rx_0_10 HX), bS, bS, about_ok HX (now_PL HX) (by omega) (by omega), bS]
        generalize hF : (upd (upd (upd (upd (upd (upd (h.I (b + 41)) 0 (h.I (b + 12) (9 * j + 6))) 1 (h.I (b + 12) (9 * j))) 3 (h.I (b + 12) (9 * j + 3))) 4 (h.I (b + 12) (9 * j + 4))) 5 (h.I (b + 12) (9 * j + 1))) 6 (h.I (b + 12) (9 * j + 5))) = F
        have c1 : Sc b h (h.rowI (b + 41) F) := Sc.row b h 41 F rfl (by omega)
        obtain ⟨r1, r2, hw⟩ := cworth_ok (n := n) (z := z) (h := h.rowI (b + 41) F) (b := b) HX hn hτ (hT.fr c1.fr) (tal := nv (h.I (b + 73)) (54 + j)) (s := aS (h.I (b + 73)) j) (tr := k) e17 s1.1 (by omega) (by
          rw [rowI_I, ← hF]
          exact abt_f hτ (hp6 j hj) (PX_P HA.1 hj))
        have c2 : Sc b h (((h.rowI (b + 41) F).rowI (b + 41) r1).rowI (b + 42) r2) := (c1.trans (Sc.row b _ 41 r1 rfl (by omega))).trans (Sc.row b _ 42 r2 rfl (by omega))
        rw [gR_ok (kx_0 HX) (rx_0_10 (h := h.rowI (b + 41) F) HX), bS, gR_ok (kx_0 HX) (show (h.rowI (b + 41) F).R b 3 = some t from hR3), bS, hw, bS]
        dsimp only
        generalize ((h.rowI (b + 41) F).rowI (b + 41) r1).rowI (b + 42) r2 = g at *
        have c3 : Sc b h (g.setI (b + 72) 0 0) := c2.trans (Sc.set b g 0 0 (by omega) (by omega) (by omega))
        have H1 : RefI b z (g.setI (b + 72) 0 0) τ P (h.I (b + 73)) := HRef.fr c3.1 (c3.I rfl)
        obtain ⟨w1, w2, hm⟩ := mworth_ok (n := n) (z := z) (h := g.setI (b + 72) 0 0) H1.1 hn hτ (by rw [H1.2.2.1]; exact hA) (tal := nv (h.I (b + 73)) (54 + j)) (s := aS (h.I (b + 73)) j) (t := k) e17 s1.1 (by omega)
        refine two_go (y := fun g => f_X12_worth n z g (b + 72) (nI j) (nI k)) rfl ⟨_, ?_, I.sc ((c3.trans (Sc.row b _ 78 w1 rfl (by omega))).trans (Sc.row b _ 77 w2 rfl (by omega)))⟩
        unfold f_X12_worth
        rw [if_pos km, pI_ok km, bS, isp _ H1, bS, if_neg (by decide), ist _ H1, bS, if_neg (by decide), now_ok H1 hj, bS, over_ok H1 s1.1, bS, s4, if_pos hy, if_pos rfl, gR_ok km (rm_1 H1.1), bS, show (54 : Int32) = nI 54 from rfl, nI_add, lm_1 H1.1 (by omega), bS, H1.2.2.1, e16, bS, hm, bS]
      · rw [if_neg (fun q => hy ((nI_lt2 (by omega) (by omega)).mp q)), f_X11_refused, bS]
        refine two_go (y := fun g => f_X12_worth n z g (b + 72) (nI j) (nI k)) rfl ⟨h.setI (b + 72) 0 0, ?_, ref_sc I 0⟩
        unfold f_X12_worth
        rw [if_pos km, pI_ok km, bS, isp _ H0, bS, if_neg (by decide), ist _ H0, bS, if_neg (by decide), now_ok H0 hj, bS, over_ok H0 s1.1, bS, s4, if_neg hy, if_neg (by decide)]
        rfl
    · rw [if_neg cv, if_pos rfl, f_X11_refused, bS]
      refine two_go (y := fun g => f_X12_worth n z g (b + 72) (nI j) v) rfl ⟨h.setI (b + 72) 0 0, ?_, ref_sc I 0⟩
      unfold f_X12_worth
      rw [if_pos km, pI_ok km, bS, isp _ H0, bS, if_neg (by decide), isT_ok H0, bS, to64, if_neg cv, if_pos rfl]
      rfl
  · rw [if_neg cp, if_pos rfl, f_X11_refused, bS]
    refine two_go (y := fun g => f_X12_worth n z g (b + 72) p v) rfl ⟨h.setI (b + 72) 0 0, ?_, ref_sc I 0⟩
    unfold f_X12_worth
    rw [if_pos km, pI_ok km, bS, isP_ok H0, bS, to64, if_neg cp, if_pos rfl]
    rfl
theorem grown_ok (I : Inv z0 h0 b c z h) (hn : 400000 ≤ n) (p : Int32) : ∃ r h1 h2, f_X11_grown n z h b p = some (r, h1) ∧ f_X12_grown n z h1 (b + 72) p = some (r, h2) ∧ Inv z0 h0 b c z h2 := by
  obtain ⟨t, τ, P, nx, sz, D⟩ := I.now
  obtain ⟨HX, HRef, hR3, hT, hT5, HA, ⟨p1, p2, p3, p4, p5⟩, -⟩ := id D
  obtain ⟨HM, hτ, -, hA, h3, h6, hp6⟩ := id HRef
  have km := km_0 HM
  have H0 := set72 D (Cc.refl b h) (k := 0) 0
  have hY := hτ.1
  unfold f_X11_grown
  rw [if_pos (kx_0 HX), gR_ok (kx_0 HX) (rx_0_4 HX), bS, has_ok (now_PL HX) HA.1.1 h6, bS]
  by_cases cp : 0 ≤ p.toInt ∧ p.toInt < P
  · rw [if_pos cp, if_neg (by decide)]
    obtain ⟨j, hj, rfl⟩ := nI_ex (P := P) cp
    have ej : (nI j).toInt = j := nI_to (by omega)
    have isp : ∀ g, RefI b z g τ P (h.I (b + 73)) → f_X12_isPerson z g (b + 72) (Int32.toInt64 (nI j)) = some 1 := fun g H => by
      rw [isP_ok H, to64, ej, if_pos (show (0 ≤ (j : Int) ∧ (j : Int) < P) by omega)]
    obtain ⟨s0, s1, s2, s3, s4, s5, s6, e11, e12, e13, e14, e15, e16, e17, -⟩ := Per_st hτ (hp6 j hj)
    have hs0 := s0.2.1
    have hs1 := s0.1
    rw [bS, show (1 : Int32) = nI 1 from rfl, part_ok (now_PL HX) (by omega) (by omega), bS, (PX_P HA.1 hj).2.1, e11]
    by_cases hl : nv (h.I (b + 73)) (24 + j) = 1
    · rw [if_pos (by rw [hl]), gR_ok (kx_0 HX) (rx_0_10 HX), bS, bS, about_ok HX (now_PL HX) (by omega) (by omega), bS]
      generalize hF : (upd (upd (upd (upd (upd (upd (h.I (b + 41)) 0 (h.I (b + 12) (9 * j + 6))) 1 (h.I (b + 12) (9 * j))) 3 (h.I (b + 12) (9 * j + 3))) 4 (h.I (b + 12) (9 * j + 4))) 5 (h.I (b + 12) (9 * j + 1))) 6 (h.I (b + 12) (9 * j + 5))) = F
      have c1 : Sc b h (h.rowI (b + 41) F) := Sc.row b h 41 F rfl (by omega)
      obtain ⟨r2, hw⟩ := cgrown_ok (n := n) (z := z) (h := h.rowI (b + 41) F) (b := b) HX hn hτ (hT.fr c1.fr) (tal := nv (h.I (b + 73)) (54 + j)) (y := nv (h.I (b + 73)) (18 + j)) e17 (by omega) (by
        rw [rowI_I, ← hF]
        exact (PX_P HA.1 hj).2.2.2.2.2.2.1.trans e16) (by
        rw [rowI_I, ← hF]
        exact (PX_P HA.1 hj).1.trans e13)
      have c2 : Sc b h ((h.rowI (b + 41) F).rowI (b + 42) r2) := c1.trans (Sc.row b _ 42 r2 rfl (by omega))
      rw [gR_ok (kx_0 HX) (rx_0_10 (h := h.rowI (b + 41) F) HX), bS, gR_ok (kx_0 HX) (show (h.rowI (b + 41) F).R b 3 = some t from hR3), bS, hw, bS]
      dsimp only
      generalize (h.rowI (b + 41) F).rowI (b + 42) r2 = g at *
      have c3 : Sc b h (g.setI (b + 72) 0 0) := c2.trans (Sc.set b g 0 0 (by omega) (by omega) (by omega))
      have H1 : RefI b z (g.setI (b + 72) 0 0) τ P (h.I (b + 73)) := HRef.fr c3.1 (c3.I rfl)
      obtain ⟨w1, w2, hm⟩ := mgrown_ok (n := n) (z := z) (h := g.setI (b + 72) 0 0) H1.1 hn hτ (by rw [H1.2.2.1]; exact hA) (tal := nv (h.I (b + 73)) (54 + j)) (y := nv (h.I (b + 73)) (18 + j)) e17 (by omega)
      refine two_go (y := fun g => f_X12_grown n z g (b + 72) (nI j)) rfl ⟨_, ?_, I.sc ((c3.trans (Sc.row b _ 78 w1 rfl (by omega))).trans (Sc.row b _ 77 w2 rfl (by omega)))⟩
      unfold f_X12_grown
      rw [if_pos km, pI_ok km, bS, isp _ H1, bS, if_neg (by decide), gR_ok km (rm_1 H1.1), bS, show (24 : Int32) = nI 24 from rfl, nI_add, lm_1 H1.1 (by omega), bS, H1.2.2.1, e11, if_neg (show ¬ nI (nv (h.I (b + 73)) (24 + j)) = 2 by rw [hl]; decide), bS, show (54 : Int32) = nI 54 from rfl, nI_add, lm_1 H1.1 (by omega), bS, bS, show (18 : Int32) = nI 18 from rfl, nI_add, lm_1 H1.1 (by omega), bS, H1.2.2.1, e16, e13, hm, bS]
    · have hl2 : nv (h.I (b + 73)) (24 + j) = 2 := by omega
      rw [if_neg (fun q => hl ((nI_inj (by omega) (by omega)).mp q)), f_X11_refused, bS]
      refine two_go (y := fun g => f_X12_grown n z g (b + 72) (nI j)) rfl ⟨h.setI (b + 72) 0 0, ?_, ref_sc I 0⟩
      unfold f_X12_grown
      rw [if_pos km, pI_ok km, bS, isp _ H0, bS, if_neg (by decide), gR_ok km (rm_1 H0.1), bS, show (24 : Int32) = nI 24 from rfl, nI_add, lm_1 H0.1 (by omega), bS, H0.2.2.1, e11, if_pos (show nI (nv (h.I (b + 73)) (24 + j)) = 2 by rw [hl2]; rfl)]
      rfl
  · rw [if_neg cp, if_pos rfl, f_X11_refused, bS]
    refine two_go (y := fun g => f_X12_grown n z g (b + 72) p) rfl ⟨h.setI (b + 72) 0 0, ?_, ref_sc I 0⟩
    unfold f_X12_grown
    rw [if_pos km, pI_ok km, bS, isP_ok H0, bS, to64, if_neg cp, if_pos rfl]
    rfl
end
