/-! ===== best, course, drawsAt ===== -/
section
variable {n : Nat} {z0 : Sh} {h0 : Hp} {b c : Nat} {z : Sh} {h : Hp}
theorem ways_end {t P nx sz : Nat} {τ : TT} (I : Inv z0 h0 b c z h) (N : NowD b z h t τ P nx sz) {z' : Sh} {h' : Hp} {tal : Nat} {md : Bool} {st ts : Nat} (W : WayD z0 b (c + 1) z' h' t τ tal md st ts) (E : Ex b z h z' h') : Inv z0 h0 b (c + 1) z' h' ∧ RefI b z' h' τ P (h.I (b + 73)) := by
  have hb : b + 92 ≤ z.sz := I.2.2.2.2.2.2.2.2.1
  have I1 := I.ways E W.1.1 W.wI W.1.2.1
  obtain ⟨HX, ⟨HM, hτ, -, hA, h3, h6, hp6⟩, -⟩ := N
  exact ⟨I1, I1.2.2.1, hτ, E.2.2.2.1 _ (by omega) (by omega) (by omega) (by omega) (by omega) (by omega) (by omega) (by omega), hA, h3, h6, hp6⟩
theorem w_isp {z' : Sh} {g : Hp} {τ : TT} {P j : Nat} {A : Nat → Int32} (H : RefI b z' g τ P A) (hj : j < P) : f_X12_isPerson z' g (b + 72) (Int32.toInt64 (nI j)) = some 1 := by
  have h6 := H.2.2.2.2.2.1
  rw [isP_ok H, to64, nI_to (by omega), if_pos (show (0 ≤ (j : Int) ∧ (j : Int) < P) by omega)]
theorem s72_r {z' : Sh} {g : Hp} {τ : TT} {P : Nat} {A : Nat → Int32} (H : RefI b z' g τ P A) (v : Int32) : RefI b z' (g.setI (b + 72) 0 v) τ P A := H.fr rfl (by rw [setI_I, if_neg (by omega)])
theorem best_ok (I : Inv z0 h0 b c z h) (hn : 400000 ≤ n) (hc : c < 600) (p : Int32) : ∃ r h1 z1 h2, f_X11_best n z h b p = some (r, h1, z1) ∧ f_X12_best n z1 h1 (b + 72) p = some (r, h2) ∧ Inv z0 h0 b (c + 1) z1 h2 := by
  obtain ⟨t, τ, P, nx, sz, D⟩ := I.now
  obtain ⟨HX, HRef, hR3, hT, hT5, HA, -, -⟩ := id D
  obtain ⟨HM, hτ, -, hA, h3, h6, hp6⟩ := id HRef
  have km := km_0 HM
  have H0 := s72_r (b := b) HRef 0
  by_cases cp : 0 ≤ p.toInt ∧ p.toInt < P
  · obtain ⟨j, hj, rfl⟩ := nI_ex (P := P) cp
    obtain ⟨g, st, ts, e1, W, E, es⟩ := wab_ok (n := n) hn I hc D hj
    obtain ⟨-, hs, -⟩ := Per_st hτ (hp6 j hj)
    have HXg := W.1.1
    generalize hA73 : h.I (b + 73) = A at *
    obtain ⟨z1, h1, e2, W1, E1, -⟩ := most_c hn W hs
    obtain ⟨I1, H1⟩ := ways_end I D W1 (E.trans E1.1)
    rw [hA73] at H1
    have H2 := s72_r (b := b) H1 0
    obtain ⟨k1, k2, r1, r2, r3, C, B, K, kk, -⟩ := rl_ok (n := n) hn H2 hj
    have h13 := rk_le hτ (aS A j)
    refine ⟨iI (bM τ (nv A (54 + j)) (decide (nv A (60 + j) = 0)) (aS A j)), h1, z1, k2, ?_, ?_, (ref_sc I1 0).sc C.sc⟩
    · unfold f_X11_best
      rw [if_pos (kx_0 HX)]
      refine gd3_ok ?_ E1.1.1
      rw [gR_ok (kx_0 HX) (rx_0_4 HX), bS, has_ok (now_PL HX) HA.1.1 h6, bS, if_pos cp, if_neg (show ¬ (1 : Int32) = 0 by decide), gR_ok (kx_0 HX) (rx_0_12 HX), bS, gR_ok (kx_0 HX) hR3, bS, bS, e1, bS, gR_ok (kx_0 HX) (rx_0_13 HXg), bS, gR_ok (kx_0 HX) (rx_0_12 HXg), bS, gI_ok (kx_44 HX), bS, es, e2, bS]
      exact gd3_ok rfl ⟨Nat.le_refl _, Nat.le_refl _⟩
    · unfold f_X12_best
      rw [if_pos (km_0 H1.1), pI_ok (km_0 H1.1), bS, w_isp H2 hj, bS, if_neg (show ¬ (1 : Int32) = 0 by decide), r1, bS, r2, bS, r3, bS, gR_ok (km_0 B.1.1) (rm_21 B.1.1), bS, now_ok B.1 hj, bS, lm_8 B.1.1 hs.1, bS, (K.2 _ hs (by omega) kk).1.1]
  · refine ⟨-99000002, h, z, h.setI (b + 72) 0 0, ?_, ?_, (ref_sc I 0).up⟩
    · unfold f_X11_best
      rw [if_pos (kx_0 HX)]
      refine gd3_ok ?_ ⟨Nat.le_refl _, Nat.le_refl _⟩
      rw [gR_ok (kx_0 HX) (rx_0_4 HX), bS, has_ok (now_PL HX) HA.1.1 h6, bS, if_neg cp, if_pos rfl]
      rfl
    · unfold f_X12_best
      rw [if_pos km, pI_ok km, bS, isP_ok H0, bS, to64, if_neg cp, if_pos rfl]
theorem drawsAt_ok (I : Inv z0 h0 b c z h) (hn : 400000 ≤ n) (hc : c < 600) (p : Int32) : ∃ r h1 z1 h2, f_X11_drawsAt n z h b p = some (r, h1, z1) ∧ f_X12_drawsAt n z1 h1 (b + 72) p = some (r, h2) ∧ Inv z0 h0 b (c + 1) z1 h2 := by
  obtain ⟨t, τ, P, nx, sz, D⟩ := I.now
  obtain ⟨HX, HRef, hR3, hT, hT5, HA, -, -⟩ := id D
  obtain ⟨HM, hτ, -, hA, h3, h6, hp6⟩ := id HRef
  have km := km_0 HM
  have H0 := s72_r (b := b) HRef 0
  by_cases cp : 0 ≤ p.toInt ∧ p.toInt < P
  · obtain ⟨j, hj, rfl⟩ := nI_ex (P := P) cp
    obtain ⟨g, st, ts, e1, W, E, es⟩ := wab_ok (n := n) hn I hc D hj
    obtain ⟨-, hs, -⟩ := Per_st hτ (hp6 j hj)
    have HXg := W.1.1
    generalize hA73 : h.I (b + 73) = A at *
    have h13 := rk_le hτ (aS A j)
    obtain ⟨z1, h1, e2, W1, E1⟩ := cy_10 (n := n) hn 13 0 14 n (aS A j) z g (by omega) (by omega) h13 (by omega) hs W
    obtain ⟨I1, H1⟩ := ways_end I D W1 (E.trans E1.1)
    rw [hA73] at H1
    have H2 := s72_r (b := b) H1 0
    obtain ⟨k1, k2, r1, r2, r3, C, B, K, kk, -⟩ := rl_ok (n := n) hn H2 hj
    obtain ⟨k3, r4, T⟩ := ry_33 (n := n) (z := z1) (b := b) (P := P) (A := A) hn hτ 13 14 n (aS A j) k2 h13 (by omega) (by omega) hs B K kk
    refine ⟨iI (DY τ (nv A (54 + j)) (decide (nv A (60 + j) = 0)) 14 (aS A j)), h1, z1, k3, ?_, ?_, ((ref_sc I1 0).sc C.sc).sc T.lz.sc⟩
    · unfold f_X11_drawsAt
      rw [if_pos (kx_0 HX)]
      refine gd3_ok ?_ E1.1.1
      have e3 : f_X1_drawingYear n z g (b + 50) = some (iI (DY τ (nv A (54 + j)) (decide (nv A (60 + j) = 0)) 14 (aS A j)), h1, z1) := by
        unfold f_X1_drawingYear
        rw [if_pos (kx_50 HX), gR_ok (kx_50 HX) (rx_50_0 HXg), bS, gI_ok (kx_44 HX), bS, es]
        exact gd3_ok e2 E1.1.1
      rw [gR_ok (kx_0 HX) (rx_0_4 HX), bS, has_ok (now_PL HX) HA.1.1 h6, bS, if_pos cp, if_neg (show ¬ (1 : Int32) = 0 by decide), gR_ok (kx_0 HX) (rx_0_12 HX), bS, gR_ok (kx_0 HX) hR3, bS, bS, e1, bS, gR_ok (kx_0 HX) (rx_0_13 HXg), bS, e3, bS]
      exact gd3_ok rfl ⟨Nat.le_refl _, Nat.le_refl _⟩
    · unfold f_X12_drawsAt
      rw [if_pos (km_0 H1.1), pI_ok (km_0 H1.1), bS, w_isp H2 hj, bS, if_neg (show ¬ (1 : Int32) = 0 by decide), r1, bS, r2, bS, r3, bS]
      exact r4
  · refine ⟨-99000002, h, z, h.setI (b + 72) 0 0, ?_, ?_, (ref_sc I 0).up⟩
    · unfold f_X11_drawsAt
      rw [if_pos (kx_0 HX)]
      refine gd3_ok ?_ ⟨Nat.le_refl _, Nat.le_refl _⟩
      rw [gR_ok (kx_0 HX) (rx_0_4 HX), bS, has_ok (now_PL HX) HA.1.1 h6, bS, if_neg cp, if_pos rfl]
      rfl
    · unfold f_X12_drawsAt
      rw [if_pos km, pI_ok km, bS, isP_ok H0, bS, to64, if_neg cp, if_pos rfl]
theorem course_ok (I : Inv z0 h0 b c z h) (hn : 400000 ≤ n) (hc : c < 600) (p v : Int32) : ∃ r h1 z1 h2, f_X11_course n z h b p v = some (r, h1, z1) ∧ f_X12_course n z1 h1 (b + 72) p v = some (r, h2) ∧ Inv z0 h0 b (c + 1) z1 h2 := by
  obtain ⟨t, τ, P, nx, sz, D⟩ := I.now
  obtain ⟨HX, HRef, hR3, hT, hT5, HA, -, -⟩ := id D
  obtain ⟨HM, hτ, -, hA, h3, h6, hp6⟩ := id HRef
  have km := km_0 HM
  have H0 := s72_r (b := b) HRef 0
  by_cases cp : 0 ≤ p.toInt ∧ p.toInt < P
  · obtain ⟨j, hj, rfl⟩ := nI_ex (P := P) cp
    by_cases cv : (0 : Int32) ≤ v
    case neg =>
      refine ⟨-99000003, h, z, h.setI (b + 72) 0 0, ?_, ?_, (ref_sc I 0).up⟩
      · unfold f_X11_course
        rw [if_pos (kx_0 HX)]
        refine gd3_ok ?_ ⟨Nat.le_refl _, Nat.le_refl _⟩
        rw [gR_ok (kx_0 HX) (rx_0_4 HX), bS, has_ok (now_PL HX) HA.1.1 h6, bS, if_pos cp, if_neg (show ¬ (1 : Int32) = 0 by decide), if_neg cv]
        rfl
      · unfold f_X12_course
        rw [if_pos km, pI_ok km, bS, w_isp H0 hj, bS, if_neg (show ¬ (1 : Int32) = 0 by decide), if_neg cv]
    have cv' : 0 ≤ v.toInt := by rw [Int32.le_iff_toInt_le] at cv; exact cv
    obtain ⟨g, st, ts, e1, W, E, es⟩ := wab_ok (n := n) hn I hc D hj
    obtain ⟨-, hs, -⟩ := Per_st hτ (hp6 j hj)
    have HXg := W.1.1
    generalize hA73 : h.I (b + 73) = A at *
    have h13 := rk_le hτ (aS A j)
    obtain ⟨z1, h1, e2, W1, E1⟩ := cd_10 (n := n) (v1 := v) hn 13 0 v.toInt.toNat n (aS A j) z g (by omega) (by omega) h13 (by omega) hs W
    obtain ⟨I1, H1⟩ := ways_end I D W1 (E.trans E1.1)
    rw [hA73] at H1
    have H2 := s72_r (b := b) H1 0
    obtain ⟨k1, k2, r1, r2, r3, C, B, K, kk, -⟩ := rl_ok (n := n) hn H2 hj
    obtain ⟨k3, r4, T⟩ := rc_19 (n := n) (z := z1) (b := b) (P := P) (A := A) (v2 := v) hn hτ 13 0 v.toInt.toNat n (aS A j) k2 h13 (by omega) (by omega) (by omega) hs B K kk
    refine ⟨iI (CO τ (nv A (54 + j)) (decide (nv A (60 + j) = 0)) v.toInt.toNat (aS A j)), h1, z1, k3, ?_, ?_, ((ref_sc I1 0).sc C.sc).sc T.lz.sc⟩
    · unfold f_X11_course
      rw [if_pos (kx_0 HX)]
      refine gd3_ok ?_ E1.1.1
      have e3 : f_X1_doingAt n z g (b + 50) v = some (iI (CO τ (nv A (54 + j)) (decide (nv A (60 + j) = 0)) v.toInt.toNat (aS A j)), h1, z1) := by
        unfold f_X1_doingAt
        rw [if_pos (kx_50 HX), gR_ok (kx_50 HX) (rx_50_0 HXg), bS, gI_ok (kx_44 HX), bS, es]
        exact gd3_ok e2 E1.1.1
      rw [gR_ok (kx_0 HX) (rx_0_4 HX), bS, has_ok (now_PL HX) HA.1.1 h6, bS, if_pos cp, if_neg (show ¬ (1 : Int32) = 0 by decide), if_pos cv, gR_ok (kx_0 HX) (rx_0_12 HX), bS, gR_ok (kx_0 HX) hR3, bS, bS, e1, bS, gR_ok (kx_0 HX) (rx_0_13 HXg), bS, e3, bS]
      exact gd3_ok rfl ⟨Nat.le_refl _, Nat.le_refl _⟩
    · unfold f_X12_course f_X12_courseAt
      rw [if_pos (km_0 H1.1), pI_ok (km_0 H1.1), bS, w_isp H2 hj, bS, if_neg (show ¬ (1 : Int32) = 0 by decide), if_pos cv, if_pos (km_0 H1.1), r1, bS, r2, bS, r3, bS, show (0 : Int32) = nI 0 from rfl, r4, bS]
  · refine ⟨-99000002, h, z, h.setI (b + 72) 0 0, ?_, ?_, (ref_sc I 0).up⟩
    · unfold f_X11_course
      rw [if_pos (kx_0 HX)]
      refine gd3_ok ?_ ⟨Nat.le_refl _, Nat.le_refl _⟩
      rw [gR_ok (kx_0 HX) (rx_0_4 HX), bS, has_ok (now_PL HX) HA.1.1 h6, bS, if_neg cp, if_pos rfl]
      rfl
    · unfold f_X12_course
      rw [if_pos km, pI_ok km, bS, isP_ok H0, bS, to64, if_neg cp, if_pos rfl]
end
