/-! ===== hope, hoping ===== -/
section
variable {n : Nat} {z : Sh} {b : Nat} {τ : TT} {P : Nat} {A : Nat → Int32} {tal : Nat} {md : Bool}
theorem bh_7 : ∀ (d j i : Nat) (h : Hp), j + d = 373870 → d < i → LayR z h.2.2 (b + 72) → (∀ k, k < j → h.J (b + 87) k = lI (-1)) → ∃ h', f_X12_beginsHope_7 n z i h (b + 72) (nI j) = some h' ∧ h'.2.2 = h.2.2 ∧ (∀ a, h'.I a = h.I a) ∧ (∀ a, a ≠ b + 87 → h'.J a = h.J a) ∧ ∀ k, k < 373870 → h'.J (b + 87) k = lI (-1) := by
  intro d
  induction d with
  | zero =>
    intro j i h hj hi HM hk
    obtain ⟨i, rfl⟩ : ∃ k, i = k + 1 := ⟨i - 1, by omega⟩
    obtain rfl : j = 373870 := by omega
    refine ⟨h, ?_, rfl, fun _ => rfl, fun _ _ => rfl, hk⟩
    rw [f_X12_beginsHope_7.eq_2, if_pos (show (373870 : Int32) ≤ nI 373870 by decide)]
  | succ d ih =>
    intro j i h hj hi HM hk
    obtain ⟨i, rfl⟩ : ∃ k, i = k + 1 := ⟨i - 1, by omega⟩
    obtain ⟨h', f1, f2, f3, f4, f5⟩ := ih (j + 1) i (h.setJ (b + 87) j (lI (-1))) (by omega) (by omega) HM (fun k hk' => by
      rw [setJ_J, if_pos rfl]
      by_cases e : k = j
      · exact if_pos e
      · exact (if_neg e).trans (hk k (by omega)))
    refine ⟨h', ?_, f2, f3, fun a ha => by rw [f4 a ha, setJ_J, if_neg ha], f5⟩
    rw [f_X12_beginsHope_7.eq_2, if_neg (show ¬ (373870 : Int32) ≤ nI j from fun q => by have := (nI_leI (a := 373870) (by omega) (by omega)).mp q; omega), gR_ok (km_0 HM) (rm_30 HM), bS, show (-1 : Int64) = lI (-1) by decide, sm_15 HM (show j < 373870 by omega), bS, bS, show nI j + 1 = nI (j + 1) from nI_add j 1]
    exact f1
theorem bh_ok (hn : 400000 ≤ n) {h : Hp} (H : RefI b z h τ P A) {p : Nat} (hp : p < P) : ∃ h', f_X12_beginsHope n z h (b + 72) (nI p) = some h' ∧ Sc b h h' ∧ BR b z h' τ P A (nv A (54 + p)) (decide (nv A (60 + p) = 0)) ∧ KH b h' τ (nv A (54 + p)) (decide (nv A (60 + p) = 0)) := by
  obtain ⟨h1, e1, C1, B1, -⟩ := bg_ok (n := n) hn H hp
  obtain ⟨h', f1, f2, f3, f4, f5⟩ := bh_7 (n := n) (z := z) (b := b) 373870 0 n h1 (by omega) (by omega) B1.1.1 (fun k hk => absurd hk (Nat.not_lt_zero k))
  have D1 : Dz b h1 h' := ⟨f2, fun a ha => f4 a (by omega), fun a _ => f3 a⟩
  refine ⟨h', ?_, C1.sc.trans D1.sc, B1.dz D1, fun s need hs q1 q2 => Or.inl (f5 _ (by have := hs.1; omega))⟩
  unfold f_X12_beginsHope
  rw [if_pos (km_0 H.1), e1, bS]
  exact f1
theorem rh_67 (hn : 400000 ≤ n) (hτ : TownOK τ) {s : Nat} {need : Int} (hs : SV τ s) (hnb : 0 ≤ need ∧ need ≤ 60) : ∀ (d t i : Nat) (h : Hp), t + d = opn τ s → d < i → BR b z h τ P A tal md → KH b h τ tal md → ∃ h', f_X12_hoping_67 n z i h (b + 72) (iI need) (nI s) (lI (Rh τ tal md s need)) (nI t) = some (iI (sch (fun t => hY τ tal md (Hv τ tal md) s need t) (Hv τ tal md s need) d t), h') ∧ Dz b h h' := by
  have hTD := hτ.2.1
  have o4 := opn4 hτ s
  have hs0 := hs.1
  have ep := eT_pos (τ := τ) s
  have h13 := rk_le hτ s
  have rb := Rh_b (tal := tal) (md := md) hτ hs need
  intro d
  induction d with
  | zero =>
    intro t i h hj hi B K
    obtain ⟨i, rfl⟩ : ∃ k, i = k + 1 := ⟨i - 1, by omega⟩
    obtain rfl : t = opn τ s := by omega
    have HM := B.1.1
    have hA := B.1.2.2.2.1
    refine ⟨h, ?_, Dz.refl b h⟩
    rw [f_X12_hoping_67.eq_2, gR_ok (km_0 HM) (rm_1 HM), bS, show (2 : Int32) = nI 2 from rfl, lm_1 HM (by omega), bS, B.1.2.2.1, hA.2.1]
    by_cases hy : sY s < tY τ
    · have e : opn τ s = tD τ := by unfold opn; rw [if_pos hy]
      rw [if_pos ((nI_leI (by omega) (by omega)).mpr (by omega))]
      rfl
    · have e : opn τ s = 0 := by unfold opn; rw [if_neg hy]
      rw [if_neg (fun q => by have := (nI_leI (by omega) (by omega)).mp q; omega), over_ok B.1 hs0, bS, if_neg hy, if_neg (show ¬ (1 : Int32) = 0 by decide)]
      rfl
  | succ d ih =>
    intro t i h hj hi B K
    obtain ⟨i, rfl⟩ : ∃ k, i = k + 1 := ⟨i - 1, by omega⟩
    have HM := B.1.1
    have hA := B.1.2.2.2.1
    have hto : t < opn τ s := by omega
    obtain ⟨q1, q2⟩ := opn_lt hto
    have yb := hY_b (tal := tal) (md := md) hτ hs hto need
    have yb2 := eT_b1 hτ yb.1 yb.2
    obtain ⟨h1, e1, D1, K1⟩ := (rh_ok (n := n) (z := z) (b := b) (P := P) (A := A) (tal := tal) (md := md) hn hτ 60).2.1 s t need hs hto (by omega) (by omega) (by omega) h B K
    have e1' : f_X12_livedHope n z h (b + 72) (nI s) (nI t) (iI need) = some (lI (hY τ tal md (Hv τ tal md) s need t * eT τ s), h1) := e1
    have cmp : lg_cmp (lI (hY τ tal md (Hv τ tal md) s need t * eT τ s)) (lI (Rh τ tal md s need)) = 0 ↔ hY τ tal md (Hv τ tal md) s need t = Hv τ tal md s need := by
      rw [cmp_eq, lI_to (by omega) (by omega), lI_to (by omega) (by omega)]
      exact mulE_eq ep
    rw [f_X12_hoping_67.eq_2, gR_ok (km_0 HM) (rm_1 HM), bS, show (2 : Int32) = nI 2 from rfl, lm_1 HM (by omega), bS, B.1.2.2.1, hA.2.1, if_neg (fun q => by have := (nI_leI (by omega) (by omega)).mp q; omega), over_ok B.1 hs0, bS, if_pos q1, if_pos rfl, e1', bS]
    dsimp only
    unfold sch
    by_cases cq : hY τ tal md (Hv τ tal md) s need t = Hv τ tal md s need
    · exact ⟨h1, by rw [if_pos (cmp.mpr cq), if_pos cq, nI_iI], D1⟩
    · obtain ⟨h2, e2, D2⟩ := ih (t + 1) i h1 (by omega) (by omega) (B.dz D1) K1
      refine ⟨h2, ?_, D1.trans D2⟩
      rw [if_neg (fun q => cq (cmp.mp q)), if_neg cq, bS, show nI t + 1 = nI (t + 1) from nI_add t 1]
      exact e2
end
section
variable {n : Nat} {z0 : Sh} {h0 : Hp} {b c : Nat} {z : Sh} {h : Hp}
theorem hoping_ok (I : Inv z0 h0 b c z h) (hn : 400000 ≤ n) (hc : c < 600) (T0 : TN b z0 h0) (p v : Int32) : ∃ r h1 z1 h2, f_X11_hoping n z h b p v = some (r, h1, z1) ∧ f_X12_hoping n z1 h1 (b + 72) p v = some (r, h2) ∧ Inv z0 h0 b (c + 1) z1 h2 := by
  obtain ⟨t, τ, P, nx, sz, D⟩ := I.now
  obtain ⟨HX, HRef, hR3, hT, hT5, HA, -, -⟩ := id D
  obtain ⟨HM, hτ, -, hA, h3, h6, hp6⟩ := id HRef
  have km := km_0 HM
  have H0 := s72_r (b := b) HRef 0
  by_cases cp : 0 ≤ p.toInt ∧ p.toInt < P
  · obtain ⟨j, hj, rfl⟩ := nI_ex (P := P) cp
    by_cases cv : 0 ≤ v.toInt ∧ v.toInt ≤ 60
    case neg =>
      refine ⟨-99000003, h, z, h.setI (b + 72) 0 0, ?_, ?_, (ref_sc I 0).up⟩
      · unfold f_X11_hoping
        rw [if_pos (kx_0 HX)]
        refine gd3_ok ?_ ⟨Nat.le_refl _, Nat.le_refl _⟩
        rw [gR_ok (kx_0 HX) (rx_0_4 HX), bS, has_ok (now_PL HX) HA.1.1 h6, bS, if_pos cp, if_neg (show ¬ (1 : Int32) = 0 by decide)]
        by_cases c1 : v < 0
        · rw [if_pos c1]
          rfl
        · rw [if_neg c1, if_neg (show ¬ v ≤ 60 from fun q => by
            rw [Int32.le_iff_toInt_le, show (60 : Int32).toInt = 60 from rfl] at q
            rw [Int32.lt_iff_toInt_lt, show (0 : Int32).toInt = 0 from rfl] at c1
            exact cv ⟨by omega, q⟩)]
          rfl
      · unfold f_X12_hoping
        rw [if_pos km, pI_ok km, bS, w_isp H0 hj, bS, if_neg (show ¬ (1 : Int32) = 0 by decide), within_ok, bS, to64, show (0 : Int64).toInt = 0 from rfl, show (60 : Int64).toInt = 60 from rfl, if_neg cv, if_pos rfl]
    have nlt : ¬ v < 0 := fun q => by
      rw [Int32.lt_iff_toInt_lt, show (0 : Int32).toInt = 0 from rfl] at q
      omega
    have le60 : v ≤ 60 := by
      rw [Int32.le_iff_toInt_le, show (60 : Int32).toInt = 60 from rfl]
      exact cv.2
    generalize hnd : v.toInt = need at cv
    have ev : v = iI need := by rw [← hnd]; exact (iI_of v).symm
    have cv0 : v = 0 ↔ need ≤ 0 := by
      rw [ev, show (0 : Int32) = iI 0 by decide, iI_eq (by omega) (by omega) (by omega) (by omega)]
      omega
    obtain ⟨g, st, ts, e1, W, E, es⟩ := wab_ok (n := n) hn I hc D hj
    obtain ⟨-, hs, -⟩ := Per_st hτ (hp6 j hj)
    have HXg := W.1.1
    generalize hA73 : h.I (b + 73) = A at *
    have T1 := (I.tn T0).ex I.2.2.2.2.2.2.2.2.1 E
    have h13 := rk_le hτ (aS A j)
    have h12 := tn_le hτ (aS A j)
    have o4 := opn4 hτ (aS A j)
    obtain ⟨z1, h1, e2, W1, E1⟩ := hdo_ok (n := n) hn W T1 hs cv es
    obtain ⟨I1, H1⟩ := ways_end I D W1 (E.trans E1.1)
    rw [hA73] at H1
    have H2 := s72_r (b := b) H1 0
    obtain ⟨k1, r1, C, B, K⟩ := bh_ok (n := n) hn H2 hj
    obtain ⟨k2, r2, L, K2⟩ := (rh_ok (n := n) (z := z1) (b := b) (P := P) (A := A) (tal := nv A (54 + j)) (md := decide (nv A (60 + j) = 0)) hn hτ 60).2.2 (aS A j) need hs (by omega) (by omega) (by omega) k1 B K
    have r2' : f_X12_hopeFrom n z1 k1 (b + 72) (nI (aS A j)) (iI need) = some (lI (Rh τ (nv A (54 + j)) (decide (nv A (60 + j) = 0)) (aS A j) need), k2) := r2
    have rb := Rh_b (tal := nv A (54 + j)) (md := decide (nv A (60 + j) = 0)) hτ hs need
    have cmp : lg_cmp (lI (Rh τ (nv A (54 + j)) (decide (nv A (60 + j) = 0)) (aS A j) need)) 0 = 0 ↔ Hv τ (nv A (54 + j)) (decide (nv A (60 + j) = 0)) (aS A j) need = 0 := by
      rw [cmp_eq, lI_to (by omega) (by omega), show (0 : Int64).toInt = 0 from rfl]
      have := mulE_eq (a := Hv τ (nv A (54 + j)) (decide (nv A (60 + j) = 0)) (aS A j) need) (d := 0) (eT_pos (τ := τ) (aS A j))
      rw [Int.zero_mul] at this
      exact this
    have cx : f_X11_hoping n z h b (nI j) v = some (iI (if need ≤ 0 ∨ Hv τ (nv A (54 + j)) (decide (nv A (60 + j) = 0)) (aS A j) need = 0 then -1 else sch (fun t => hY τ (nv A (54 + j)) (decide (nv A (60 + j) = 0)) (Hv τ (nv A (54 + j)) (decide (nv A (60 + j) = 0))) (aS A j) need t) (Hv τ (nv A (54 + j)) (decide (nv A (60 + j) = 0)) (aS A j) need) (opn τ (aS A j)) 0), h1, z1) := by
      unfold f_X11_hoping
      rw [if_pos (kx_0 HX)]
      refine gd3_ok ?_ E1.1.1
      rw [gR_ok (kx_0 HX) (rx_0_4 HX), bS, has_ok (now_PL HX) HA.1.1 h6, bS, if_pos cp, if_neg (show ¬ (1 : Int32) = 0 by decide), if_neg nlt, if_pos le60, gR_ok (kx_0 HX) (rx_0_12 HX), bS, gR_ok (kx_0 HX) hR3, bS, bS, e1, bS, gR_ok (kx_0 HX) (rx_0_14 HXg), bS, ev, e2, bS]
      exact gd3_ok rfl ⟨Nat.le_refl _, Nat.le_refl _⟩
    have rx : ∀ r hh, (if v = 0 then some ((-1 : Int32), k2) else if lg_cmp (lI (Rh τ (nv A (54 + j)) (decide (nv A (60 + j) = 0)) (aS A j) need)) 0 = 0 then some ((-1 : Int32), k2) else f_X12_hoping_67 n z1 n k2 (b + 72) v (nI (aS A j)) (lI (Rh τ (nv A (54 + j)) (decide (nv A (60 + j) = 0)) (aS A j) need)) 0) = some (r, hh) → f_X12_hoping n z1 h1 (b + 72) (nI j) v = some (r, hh) := fun r hh q => by
      unfold f_X12_hoping
      rw [if_pos (km_0 H1.1), pI_ok (km_0 H1.1), bS, w_isp H2 hj, bS, if_neg (show ¬ (1 : Int32) = 0 by decide), within_ok, bS, to64, show (0 : Int64).toInt = 0 from rfl, show (60 : Int64).toInt = 60 from rfl, hnd, if_pos cv, if_neg (show ¬ (1 : Int32) = 0 by decide), r1, bS, now_ok B.1 hj, bS]
      rw [show f_X12_hopeFrom n z1 k1 (b + 72) (nI (aS A j)) v = some (lI (Rh τ (nv A (54 + j)) (decide (nv A (60 + j) = 0)) (aS A j) need), k2) by rw [ev]; exact r2', bS]
      exact q
    by_cases cn : need ≤ 0
    · rw [if_pos (Or.inl cn)] at cx
      refine ⟨_, h1, z1, k2, cx, rx _ _ ?_, ((ref_sc I1 0).sc C).sc L.sc⟩
      rw [if_pos (cv0.mpr cn)]
      rfl
    · by_cases c0 : Hv τ (nv A (54 + j)) (decide (nv A (60 + j) = 0)) (aS A j) need = 0
      · rw [if_pos (Or.inr c0)] at cx
        refine ⟨_, h1, z1, k2, cx, rx _ _ ?_, ((ref_sc I1 0).sc C).sc L.sc⟩
        rw [if_neg (fun q => cn (cv0.mp q)), if_pos (cmp.mpr c0)]
        rfl
      · rw [if_neg (fun q => by rcases q with q | q; exact cn q; exact c0 q)] at cx
        obtain ⟨k3, r3, L3⟩ := rh_67 (n := n) (z := z1) (b := b) (P := P) (A := A) (tal := nv A (54 + j)) (md := decide (nv A (60 + j) = 0)) hn hτ hs cv (opn τ (aS A j)) 0 n k2 (by omega) (by omega) (B.dz L) K2
        refine ⟨_, h1, z1, k3, cx, rx _ _ ?_, (((ref_sc I1 0).sc C).sc L.sc).sc L3.sc⟩
        rw [if_neg (fun q => cn (cv0.mp q)), if_neg (fun q => c0 (cmp.mp q)), ev]
        exact r3
  · refine ⟨-99000002, h, z, h.setI (b + 72) 0 0, ?_, ?_, (ref_sc I 0).up⟩
    · unfold f_X11_hoping
      rw [if_pos (kx_0 HX)]
      refine gd3_ok ?_ ⟨Nat.le_refl _, Nat.le_refl _⟩
      rw [gR_ok (kx_0 HX) (rx_0_4 HX), bS, has_ok (now_PL HX) HA.1.1 h6, bS, if_neg cp, if_pos rfl]
      rfl
    · unfold f_X12_hoping
      rw [if_pos km, pI_ok km, bS, isP_ok H0, bS, to64, if_neg cp, if_pos rfl]
theorem hope_ok (I : Inv z0 h0 b c z h) (hn : 400000 ≤ n) (hc : c < 600) (T0 : TN b z0 h0) (p v u : Int32) : ∃ r h1 z1 h2, f_X11_hope n z h b p v u = some (r, h1, z1) ∧ f_X12_hope n z1 h1 (b + 72) p v u = some (r, h2) ∧ Inv z0 h0 b (c + 1) z1 h2 := by
  obtain ⟨t, τ, P, nx, sz, D⟩ := I.now
  obtain ⟨HX, HRef, hR3, hT, hT5, HA, -, -⟩ := id D
  obtain ⟨HM, hτ, -, hA, h3, h6, hp6⟩ := id HRef
  have km := km_0 HM
  have H0 := s72_r (b := b) HRef 0
  by_cases cp : 0 ≤ p.toInt ∧ p.toInt < P
  · obtain ⟨j, hj, rfl⟩ := nI_ex (P := P) cp
    by_cases cu : 0 ≤ u.toInt ∧ u.toInt ≤ 1
    case neg =>
      refine ⟨-99000002, h, z, h.setI (b + 72) 0 0, ?_, ?_, (ref_sc I 0).up⟩
      · unfold f_X11_hope
        rw [if_pos (kx_0 HX)]
        refine gd3_ok ?_ ⟨Nat.le_refl _, Nat.le_refl _⟩
        rw [gR_ok (kx_0 HX) (rx_0_4 HX), bS, has_ok (now_PL HX) HA.1.1 h6, bS, if_pos cp, if_neg (show ¬ (1 : Int32) = 0 by decide)]
        by_cases c1 : u < 0
        · rw [if_pos c1]
          rfl
        · rw [if_neg c1, if_neg (show ¬ u ≤ 1 from fun q => by
            rw [Int32.le_iff_toInt_le, show (1 : Int32).toInt = 1 from rfl] at q
            rw [Int32.lt_iff_toInt_lt, show (0 : Int32).toInt = 0 from rfl] at c1
            exact cu ⟨by omega, q⟩)]
          rfl
      · unfold f_X12_hope
        rw [if_pos km, pI_ok km, bS, w_isp H0 hj, bS, if_neg (show ¬ (1 : Int32) = 0 by decide), within_ok, bS, to64, show (0 : Int64).toInt = 0 from rfl, show (1 : Int64).toInt = 1 from rfl, if_neg cu, if_pos rfl]
    have ulo : ¬ u < 0 := fun q => by
      rw [Int32.lt_iff_toInt_lt, show (0 : Int32).toInt = 0 from rfl] at q
      omega
    have uhi : u ≤ 1 := by
      rw [Int32.le_iff_toInt_le, show (1 : Int32).toInt = 1 from rfl]
      exact cu.2
    by_cases cv : 0 ≤ v.toInt ∧ v.toInt ≤ 60
    case neg =>
      refine ⟨-99000003, h, z, h.setI (b + 72) 0 0, ?_, ?_, (ref_sc I 0).up⟩
      · unfold f_X11_hope
        rw [if_pos (kx_0 HX)]
        refine gd3_ok ?_ ⟨Nat.le_refl _, Nat.le_refl _⟩
        rw [gR_ok (kx_0 HX) (rx_0_4 HX), bS, has_ok (now_PL HX) HA.1.1 h6, bS, if_pos cp, if_neg (show ¬ (1 : Int32) = 0 by decide), if_neg ulo, if_pos uhi]
        by_cases c1 : v < 0
        · rw [if_pos c1]
          rfl
        · rw [if_neg c1, if_neg (show ¬ v ≤ 60 from fun q => by
            rw [Int32.le_iff_toInt_le, show (60 : Int32).toInt = 60 from rfl] at q
            rw [Int32.lt_iff_toInt_lt, show (0 : Int32).toInt = 0 from rfl] at c1
            exact cv ⟨by omega, q⟩)]
          rfl
      · unfold f_X12_hope
        rw [if_pos km, pI_ok km, bS, w_isp H0 hj, bS, if_neg (show ¬ (1 : Int32) = 0 by decide), within_ok, bS, to64, show (0 : Int64).toInt = 0 from rfl, show (1 : Int64).toInt = 1 from rfl, if_pos cu, if_neg (show ¬ (1 : Int32) = 0 by decide), within_ok, bS, to64, show (0 : Int64).toInt = 0 from rfl, show (60 : Int64).toInt = 60 from rfl, if_neg cv, if_pos rfl]
    have nlt : ¬ v < 0 := fun q => by
      rw [Int32.lt_iff_toInt_lt, show (0 : Int32).toInt = 0 from rfl] at q
      omega
    have le60 : v ≤ 60 := by
      rw [Int32.le_iff_toInt_le, show (60 : Int32).toInt = 60 from rfl]
      exact cv.2
    generalize hnd : v.toInt = need at cv
    have ev : v = iI need := by rw [← hnd]; exact (iI_of v).symm
    obtain ⟨g, st, ts, e1, W, E, es⟩ := wab_ok (n := n) hn I hc D hj
    obtain ⟨-, hs, -⟩ := Per_st hτ (hp6 j hj)
    have HXg := W.1.1
    generalize hA73 : h.I (b + 73) = A at *
    have T1 := (I.tn T0).ex I.2.2.2.2.2.2.2.2.1 E
    have h13 := rk_le hτ (aS A j)
    have h12 := tn_le hτ (aS A j)
    have o4 := opn4 hτ (aS A j)
    obtain ⟨z1, h1, e2, W1, E1, T2, -⟩ := hnow_ok (n := n) hn W T1 hs cv es
    obtain ⟨I1, H1⟩ := ways_end I D W1 (E.trans E1.1)
    rw [hA73] at H1
    have H2 := s72_r (b := b) H1 0
    obtain ⟨k1, r1, C, B, K⟩ := bh_ok (n := n) hn H2 hj
    obtain ⟨k2, r2, L, K2⟩ := (rh_ok (n := n) (z := z1) (b := b) (P := P) (A := A) (tal := nv A (54 + j)) (md := decide (nv A (60 + j) = 0)) hn hτ 60).2.2 (aS A j) need hs (by omega) (by omega) (by omega) k1 B K
    have r2' : f_X12_hopeFrom n z1 k1 (b + 72) (nI (aS A j)) (iI need) = some (lI (Rh τ (nv A (54 + j)) (decide (nv A (60 + j) = 0)) (aS A j) need), k2) := r2
    have rb := Rh_b (tal := nv A (54 + j)) (md := decide (nv A (60 + j) = 0)) hτ hs need
    have mb := Hv_bd (tal := nv A (54 + j)) (md := decide (nv A (60 + j) = 0)) hτ hs need
    have p12 := E_12 h12
    obtain ⟨a, ha⟩ : ∃ a : Nat, (a : Int) = Hv τ (nv A (54 + j)) (decide (nv A (60 + j) = 0)) (aS A j) need := ⟨(Hv τ (nv A (54 + j)) (decide (nv A (60 + j) = 0)) (aS A j) need).toNat, by omega⟩
    have er : Rh τ (nv A (54 + j)) (decide (nv A (60 + j) = 0)) (aS A j) need = ((a * 10 ^ (12 - tn τ (aS A j)) : Nat) : Int) := by
      unfold Rh eT
      rw [← ha, E_nat, ← Int.natCast_mul]
    have es1 : h1.I (b + 44) 8 = nI (enc (aS A j)) := by rw [E1.2.2.1]; exact es
    refine ⟨lI (((if u = 0 then a else 10 ^ (tn τ (aS A j))) / Nat.gcd a (10 ^ (tn τ (aS A j))) : Nat) : Int), h1, z1, k2, ?_, ?_, ((ref_sc I1 0).sc C).sc L.sc⟩
    · unfold f_X11_hope
      rw [if_pos (kx_0 HX)]
      refine gd3_ok ?_ E1.1.1
      rw [gR_ok (kx_0 HX) (rx_0_4 HX), bS, has_ok (now_PL HX) HA.1.1 h6, bS, if_pos cp, if_neg (show ¬ (1 : Int32) = 0 by decide), if_neg ulo, if_pos uhi, if_neg nlt, if_pos le60, gR_ok (kx_0 HX) (rx_0_12 HX), bS, gR_ok (kx_0 HX) hR3, bS, bS, e1, bS, gR_ok (kx_0 HX) (rx_0_14 HXg), bS, bS, ev, e2, bS]
      dsimp only
      refine gd3_ok ?_ ⟨Nat.le_refl _, Nat.le_refl _⟩
      rw [← ha, fr_ok hn W1 T2 hs es1 (by omega) u, bS]
    · unfold f_X12_hope
      rw [if_pos (km_0 H1.1), pI_ok (km_0 H1.1), bS, w_isp H2 hj, bS, if_neg (show ¬ (1 : Int32) = 0 by decide), within_ok, bS, to64, show (0 : Int64).toInt = 0 from rfl, show (1 : Int64).toInt = 1 from rfl, if_pos cu, if_neg (show ¬ (1 : Int32) = 0 by decide), within_ok, bS, to64, show (60 : Int64).toInt = 60 from rfl, show (0 : Int64).toInt = 0 from rfl, hnd, if_pos cv, if_neg (show ¬ (1 : Int32) = 0 by decide), r1, bS, now_ok B.1 hj, bS, ev, r2', bS]
      dsimp only
      rw [er, rp_ok hτ (by omega) u, bS]
  · refine ⟨-99000002, h, z, h.setI (b + 72) 0 0, ?_, ?_, (ref_sc I 0).up⟩
    · unfold f_X11_hope
      rw [if_pos (kx_0 HX)]
      refine gd3_ok ?_ ⟨Nat.le_refl _, Nat.le_refl _⟩
      rw [gR_ok (kx_0 HX) (rx_0_4 HX), bS, has_ok (now_PL HX) HA.1.1 h6, bS, if_neg cp, if_pos rfl]
      rfl
    · unfold f_X12_hope
      rw [if_pos km, pI_ok km, bS, isP_ok H0, bS, to64, if_neg cp, if_pos rfl]
end
