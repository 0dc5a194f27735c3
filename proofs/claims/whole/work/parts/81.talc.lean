/-! ===== talents and attempt as calls ===== -/
def okT (D : Nat) (vs : Nat → Int64) : Nat → Nat → Bool
  | 0, _ => true
  | d + 1, j => decide (0 ≤ (vs j).toInt ∧ (vs j).toInt < D) && okT D vs d (j + 1)
theorem okT_all {D : Nat} {vs : Nat → Int64} : ∀ (d j : Nat), okT D vs d j = true → ∀ k, j ≤ k → k < j + d → 0 ≤ (vs k).toInt ∧ (vs k).toInt < D := by
  intro d
  induction d with
  | zero => intro j _ k h1 h2; omega
  | succ d ih =>
    intro j h k h1 h2
    unfold okT at h
    rw [Bool.and_eq_true, decide_eq_true_eq] at h
    by_cases e : k = j
    · rw [e]; exact h.1
    · exact ih (j + 1) h.2 k (by omega) (by omega)
section
variable {n : Nat} {z : Sh} {h : Hp} {b : Nat} {τ : TT} {P t o ro m : Nat} {vs : Nat → Int64}
theorem lf_79 (HX : LayX z h.2.2 b) (hR3 : h.R b 3 = some t) (hT : TownX b z h t τ) (hD : tD τ ≤ 4) (HC : TC z h o ro m vs) : ∀ (d j i : Nat), j + d = m → d < i → f_X11_livedFault_79 n z h i b o (nI j) = some (if okT (tD τ) vs d j = true then 0 else 3) := by
  have hm := HC.2.2.2.2.2.1
  intro d
  induction d with
  | zero =>
    intro j i hj hi
    obtain ⟨i, rfl⟩ : ∃ k, i = k + 1 := ⟨i - 1, by omega⟩
    obtain rfl : j = m := by omega
    rw [f_X11_livedFault_79.eq_2, gI_ok HC.1, bS, HC.2.2.2.2.1, if_pos ((nI_leI (by omega) (by omega)).mpr (Nat.le_refl _))]
    rfl
  | succ d ih =>
    intro j i hj hi
    obtain ⟨i, rfl⟩ : ∃ k, i = k + 1 := ⟨i - 1, by omega⟩
    rw [f_X11_livedFault_79.eq_2, gI_ok HC.1, bS, HC.2.2.2.2.1, if_neg (fun q => by have := (nI_leI (by omega) (by omega)).mp q; omega), gR_ok (kx_0 HX) hR3, bS, num_ok HC (by omega), bS, trade_ok hT.2.1 hT.2.2.2.1 hD, bS]
    unfold okT
    by_cases hc : 0 ≤ (vs j).toInt ∧ (vs j).toInt < tD τ
    · rw [if_pos hc, if_neg (by decide), bS, show nI j + 1 = nI (j + 1) from nI_add j 1, ih (j + 1) i (by omega) (by omega), decide_eq_true hc]
      rfl
    · rw [if_neg hc, if_pos rfl, decide_eq_false hc]
      rfl
theorem nl_85 {A : Nat → Int32} {g : Hp} (H : RefI b z g τ P A) {tr : Nat} (htr : tr < 4) (hm : m ≤ 40) (hM : g.I (b + 90) tr = nI m) (hJ : ∀ j, j < m → g.J (b + 91) (40 * tr + j) = vs j) : ∀ (d j i : Nat), j + d = m → d < i → f_X12_noLived_85 n z g i (b + 72) (nI tr) (nI j) = some (if okT (tD τ) vs d j = true then 0 else -99000003) := by
  have HM := H.1
  intro d
  induction d with
  | zero =>
    intro j i hj hi
    obtain ⟨i, rfl⟩ : ∃ k, i = k + 1 := ⟨i - 1, by omega⟩
    obtain rfl : j = m := by omega
    rw [f_X12_noLived_85.eq_2, gR_ok (km_0 HM) (rm_34 HM), bS, lm_18 HM htr, bS, hM, if_pos ((nI_leI (by omega) (by omega)).mpr (Nat.le_refl _))]
    rfl
  | succ d ih =>
    intro j i hj hi
    obtain ⟨i, rfl⟩ : ∃ k, i = k + 1 := ⟨i - 1, by omega⟩
    rw [f_X12_noLived_85.eq_2, gR_ok (km_0 HM) (rm_34 HM), bS, lm_18 HM htr, bS, hM, if_neg (fun q => by have := (nI_leI (by omega) (by omega)).mp q; omega), gR_ok (km_0 HM) (rm_35 HM), bS, show (40 : Int32) = nI 40 from rfl, nI_mul, nI_add, lm_19 HM (by omega), bS, hJ j (by omega), isT_ok H, bS]
    unfold okT
    by_cases hc : 0 ≤ (vs j).toInt ∧ (vs j).toInt < tD τ
    · rw [if_pos hc, if_neg (by decide), bS, show nI j + 1 = nI (j + 1) from nI_add j 1, ih (j + 1) i (by omega) (by omega), decide_eq_true hc]
      rfl
    · rw [if_neg hc, if_pos rfl, decide_eq_false hc]
      rfl
end
section
variable {n : Nat} {z0 : Sh} {h0 : Hp} {b c : Nat} {z : Sh} {h : Hp}
/-- why years lived can't be judged, on both sides -/
theorem lf_ok (I : Inv z0 h0 b c z h) (hn : 400000 ≤ n) {t : Nat} {τ : TT} {P nx sz : Nat} (D : NowD b z h t τ P nx sz) (v u : Int32) : ∃ code : Nat, f_X11_livedFault n z h b v u = some (nI code) ∧ (∀ g, RefI b z g τ P (h.I (b + 73)) → g.I (b + 89) = h.I (b + 89) → g.I (b + 90) = h.I (b + 90) → g.J (b + 91) = h.J (b + 91) → f_X12_noLived n z g (b + 72) v u = some (if code = 0 then 0 else -99000000 - nI code)) ∧ code < 10 ∧ (code = 0 → ∃ i p m so, i < 4 ∧ v = nI i ∧ p < P ∧ u = nI p ∧ m ≤ 12 ∧ h.I (b + 90) i = nI m ∧ TC z h (b + 64 + 2 * i) (b + 65 + 2 * i) m (fun j => h.J (b + 91) (40 * i + j)) ∧ nv (h.I (b + 73)) (18 + p) + m ≤ tY τ ∧ okT (tD τ) (fun j => h.J (b + 91) (40 * i + j)) m 0 = true ∧ so = 0) := by
  obtain ⟨HX, HRef, hR3, hT, -, HA, -, -⟩ := id D
  obtain ⟨HM, hτ, -, hA, h3, h6, hp6⟩ := id HRef
  have km := km_0 HM
  have HTr : TrayI b h := I.2.2.2.2.2.1
  have W3 : ∀ g : Hp, f_X12_within z g (Int32.toInt64 v) 0 3 = some (if 0 ≤ v.toInt ∧ v.toInt ≤ 3 then 1 else 0) := fun g => by
    rw [within_ok, to64]
    rfl
  have hD := hτ.2.1
  have hY := hτ.1
  by_cases c1 : 0 ≤ v.toInt ∧ v.toInt < 4
  · obtain ⟨i, hi, rfl⟩ := nI_ex (P := 4) c1
    have ei : (nI i).toInt = i := nI_to (by omega)
    have cx : f_X11_livedFault n z h b (nI i) u = (if (if 0 ≤ u.toInt ∧ u.toInt < P then (1 : Int32) else 0) = 0 then some (2 : Int32) else (gI z h 9 (b + 64 + 2 * i) 1).bind fun x6 => if x6 = 0 then some (6 : Int32) else (gI z h 9 (b + 64 + 2 * i) 3).bind fun x8 => if x8 < 1 then some (4 : Int32) else (gI z h 9 (b + 64 + 2 * i) 3).bind fun x10 => if 12 < x10 then some (4 : Int32) else (gI z h 9 (b + 64 + 2 * i) 3).bind fun x12 => (gR z h 11 b 3).bind fun a13 => (gI z h 8 a13 0).bind fun x14 => (gR z h 11 b 4).bind fun a15 => (f_X5_part z h a15 u 0).bind fun x16 => if x12 ≤ (x14 - x16) then f_X11_livedFault_79 n z h n b (b + 64 + 2 * i) 0 else some (4 : Int32)) := by
      unfold f_X11_livedFault
      rw [if_pos (kx_0 HX), trayAt_ok HX, bS, if_pos c1, ei, Int.toNat_natCast]
      dsimp only
      rw [gR_ok (kx_0 HX) (rx_0_4 HX), bS, has_ok (now_PL HX) HA.1.1 h6, bS]
    by_cases c2 : 0 ≤ u.toInt ∧ u.toInt < P
    · obtain ⟨p, hp, rfl⟩ := nI_ex (P := P) c2
      have ep : (nI p).toInt = p := nI_to (by omega)
      obtain ⟨s0, s1, s2, s3, s4, s5, s6, e11, e12, e13, -⟩ := Per_st hτ (hp6 p hp)
      have isp : ∀ g, RefI b z g τ P (h.I (b + 73)) → f_X12_isPerson z g (b + 72) (Int32.toInt64 (nI p)) = some 1 := fun g H0 => by
        rw [isP_ok H0, to64, ep, if_pos (show (0 ≤ (p : Int) ∧ (p : Int) < P) by omega)]
      rw [if_pos c2, if_neg (by decide), gI_ok (tray_K HX hi).1, bS] at cx
      have mx : ∀ g, RefI b z g τ P (h.I (b + 73)) → g.I (b + 89) = h.I (b + 89) → f_X12_noLived n z g (b + 72) (nI i) (nI p) = (f_X12_noTray z g (b + 72) (nI i)).bind fun x5 => if x5 = 0 then (gR z g 12 (b + 72) 34).bind fun a7 => (ldI z g a7 (nI i)).bind fun x8 => (f_X12_within z g (Int32.toInt64 x8) 1 12).bind fun x9 => if x9 = 0 then some ((-99000004) : Int32) else (gR z g 12 (b + 72) 34).bind fun a11 => (ldI z g a11 (nI i)).bind fun x12 => (gR z g 12 (b + 72) 1).bind fun a13 => (ldI z g a13 1).bind fun x14 => (gR z g 12 (b + 72) 1).bind fun a15 => (ldI z g a15 (18 + nI p)).bind fun x16 => if x12 ≤ (x14 - x16) then f_X12_noLived_85 n z g n (b + 72) (nI i) 0 else some ((-99000004) : Int32) else some x5 := fun g H0 e89 => by
        unfold f_X12_noLived
        rw [if_pos km, W3, bS, if_pos (show 0 ≤ (nI i).toInt ∧ (nI i).toInt ≤ 3 by omega), if_neg (by decide), isp g H0, bS, if_neg (by decide)]
      rcases tray_in HX HTr hi with ⟨t1, t2⟩ | ⟨t1, so, m, t2, t3, t4, t5, t6, t7⟩
      · refine ⟨6, ?_, fun g H0 e89 e90 eJ => ?_, by decide, fun q => absurd q (by decide)⟩
        · rw [cx, t1, if_pos (show nI 0 = (0 : Int32) from rfl)]
          rfl
        · rw [mx g H0 e89, noTray_ok H0.1, bS, if_pos c1, ei, Int.toNat_natCast, e89, t2, if_pos rfl, if_neg (by decide), if_neg (by decide)]
          rfl
      · rw [t1, if_neg (by decide), gI_ok (tray_K HX hi).1, bS, t7.2.2.2.2.1] at cx
        have mx2 : ∀ g, RefI b z g τ P (h.I (b + 73)) → g.I (b + 89) = h.I (b + 89) → g.I (b + 90) = h.I (b + 90) → f_X12_noLived n z g (b + 72) (nI i) (nI p) = (if (if 1 ≤ (m : Int) ∧ (m : Int) ≤ 12 then (1 : Int32) else 0) = 0 then some ((-99000004) : Int32) else if nI m ≤ (nI (tY τ) - nI (nv (h.I (b + 73)) (18 + p))) then f_X12_noLived_85 n z g n (b + 72) (nI i) 0 else some ((-99000004) : Int32)) := fun g H0 e89 e90 => by
          have HM1 := H0.1
          have l1 : ldI z g (b + 73) 1 = some (nI (tY τ)) := by
            rw [show (1 : Int32) = nI 1 from rfl, lm_1 HM1 (by omega), H0.2.2.1, hA.1]
          have l18 : ldI z g (b + 73) (18 + nI p) = some (nI (nv (h.I (b + 73)) (18 + p))) := by
            rw [show (18 : Int32) = nI 18 from rfl, nI_add, lm_1 HM1 (by omega), H0.2.2.1, e13]
          have l90 : ldI z g (b + 90) (nI i) = some (nI m) := by rw [lm_18 HM1 hi, e90, t5]
          rw [mx g H0 e89, noTray_ok HM1, bS, if_pos c1, ei, Int.toNat_natCast, e89, t4, if_neg (nI_m1' t2), if_pos rfl, gR_ok km (rm_34 HM1), bS, l90, bS, within_ok, to64, show (1 : Int64).toInt = 1 from rfl, show (12 : Int64).toInt = 12 from rfl, nI_to (by omega), bS, bS, l90, bS, gR_ok km (rm_1 HM1), bS, l1, bS, bS, l18, bS]
        by_cases c3 : 1 ≤ m ∧ m ≤ 12
        · rw [if_neg (show ¬ nI m < 1 from fun q => by have := (nI_lt2 (j := 1) (by omega) (by omega)).mp q; omega), bS, if_neg (show ¬ (12 : Int32) < nI m from fun q => by have := (nI_lt2 (i := 12) (by omega) (by omega)).mp q; omega), bS, gR_ok (kx_0 HX) hR3, bS, gI_ok hT.2.1, bS, hT.2.2.1, gR_ok (kx_0 HX) (rx_0_4 HX), bS, show f_X5_part z h (b + 11) (nI p) 0 = some (nI (nv (h.I (b + 73)) (18 + p))) from (part_ok (now_PL HX) (show p < 6 by omega) (show 0 < 9 by omega)).trans (congrArg some ((PX_P HA.1 hp).1.trans e13)), bS, nI_sub s0.2.1] at cx
          simp only [if_pos (show 1 ≤ (m : Int) ∧ (m : Int) ≤ 12 by omega), if_neg (show ¬ (1 : Int32) = 0 by decide), nI_sub s0.2.1] at mx2
          by_cases c4 : m ≤ tY τ - nv (h.I (b + 73)) (18 + p)
          · rw [if_pos ((nI_leI (by omega) (by omega)).mpr c4)] at cx
            simp only [if_pos (show nI m ≤ nI (tY τ - nv (h.I (b + 73)) (18 + p)) from (nI_leI (by omega) (by omega)).mpr c4)] at mx2
            have l1 := lf_79 (n := n) HX hR3 hT hD.2 t7 m 0 n (by omega) (by omega)
            have l2 : ∀ g, RefI b z g τ P (h.I (b + 73)) → g.I (b + 90) = h.I (b + 90) → g.J (b + 91) = h.J (b + 91) → f_X12_noLived_85 n z g n (b + 72) (nI i) (nI 0) = _ := fun g H0 e90 eJ => nl_85 (n := n) (m := m) (vs := fun j => h.J (b + 91) (40 * i + j)) H0 hi t3 (by rw [e90]; exact t5) (fun j _ => by rw [eJ]) m 0 n (by omega) (by omega)
            by_cases c5 : okT (tD τ) (fun j => h.J (b + 91) (40 * i + j)) m 0 = true
            · rw [if_pos c5] at l1
              simp only [if_pos c5] at l2
              exact ⟨0, cx.trans l1, fun g H0 e89 e90 eJ => (mx2 g H0 e89 e90).trans (l2 g H0 e90 eJ), by decide, fun _ => ⟨i, p, m, 0, hi, rfl, hp, rfl, c3.2, t5, t7, by have := s0.2.1; omega, c5, rfl⟩⟩
            · rw [if_neg c5] at l1
              simp only [if_neg c5] at l2
              exact ⟨3, cx.trans l1, fun g H0 e89 e90 eJ => (mx2 g H0 e89 e90).trans (l2 g H0 e90 eJ), by decide, fun q => absurd q (by decide)⟩
          · rw [if_neg (fun q => c4 ((nI_leI (by omega) (by omega)).mp q))] at cx
            simp only [if_neg (show ¬ nI m ≤ nI (tY τ - nv (h.I (b + 73)) (18 + p)) from fun q => c4 ((nI_leI (by omega) (by omega)).mp q))] at mx2
            exact ⟨4, cx, fun g H0 e89 e90 eJ => mx2 g H0 e89 e90, by decide, fun q => absurd q (by decide)⟩
        · simp only [if_neg (show ¬ (1 ≤ (m : Int) ∧ (m : Int) ≤ 12) by omega), if_pos (show (0 : Int32) = 0 from rfl)] at mx2
          refine ⟨4, ?_, fun g H0 e89 e90 eJ => mx2 g H0 e89 e90, by decide, fun q => absurd q (by decide)⟩
          rw [cx]
          by_cases c4 : nI m < 1
          · rw [if_pos c4]
            rfl
          · rw [if_neg c4, bS, if_pos]
            · rfl
            · refine (nI_lt2 (i := 12) (by omega) (by omega)).mpr ?_
              have : ¬ m < 1 := fun q => c4 ((nI_lt2 (j := 1) (by omega) (by omega)).mpr q)
              omega
    · rw [if_neg c2, if_pos rfl] at cx
      refine ⟨2, cx, fun g H0 e89 e90 eJ => ?_, by decide, fun q => absurd q (by decide)⟩
      unfold f_X12_noLived
      rw [if_pos km, W3, bS, if_pos (show 0 ≤ (nI i).toInt ∧ (nI i).toInt ≤ 3 by omega), if_neg (by decide), isP_ok H0, bS, to64, if_neg c2, if_pos rfl]
      rfl
  · refine ⟨2, ?_, fun g H0 e89 e90 eJ => ?_, by decide, fun q => absurd q (by decide)⟩
    · unfold f_X11_livedFault
      rw [if_pos (kx_0 HX), trayAt_ok HX, bS, if_neg c1]
      rfl
    · unfold f_X12_noLived
      rw [if_pos km, W3, bS, if_neg (show ¬ (0 ≤ v.toInt ∧ v.toInt ≤ 3) by omega), if_pos rfl]
      rfl
theorem Cd.sc {g g' : Hp} (H : Cd b (b + 13) (b + 14) g g') : Sc b g g' := Sc.mk' H.1 H.2.1 (fun a k1 k2 k3 k4 k5 k6 k7 k8 k9 => H.2.2 a k4 k5 k2 k3) (fun k _ => by rw [H.2.2 (b + 72) (by omega) (by omega) (by omega) (by omega)])
theorem Rd.sc {g g' : Hp} (H : Rd b g g') (h73 : g'.I (b + 73) = g.I (b + 73)) : Sc b g g' := Sc.mk' H.1 H.2.1 (fun a k1 k2 k3 k4 k5 k6 k7 k8 k9 => by
  by_cases e : a = b + 73
  · rw [e]; exact h73
  · exact H.2.2.1 a k8 e (by omega) (by omega)) (fun k hk => H.2.2.2 k (by omega) (by omega))
theorem tvs {D : Nat} {vs : Nat → Int64} {m : Nat} (h : okT D vs m 0 = true) : ∀ j, j < m → vs j = lI ((vs j).toInt.toNat : Int) ∧ (vs j).toInt.toNat < D := fun j hj => by
  have := okT_all m 0 h j (by omega) (by omega)
  refine ⟨?_, by omega⟩
  rw [show (((vs j).toInt.toNat : Nat) : Int) = (vs j).toInt by omega, lI_of]
theorem talents_ok (I : Inv z0 h0 b c z h) (hn : 400000 ≤ n) (v u x : Int32) : ∃ r h1 h2, f_X11_talents n z h b v u x = some (r, h1) ∧ f_X12_talents n z h1 (b + 72) v u x = some (r, h2) ∧ Inv z0 h0 b c z h2 := by
  obtain ⟨t, τ, P, nx, sz, D⟩ := I.now
  obtain ⟨code, l1, l2, l3, l4⟩ := lf_ok (n := n) I hn D v u
  obtain ⟨HX, HRef, hR3, hT, -, HA, -, -⟩ := id D
  obtain ⟨HM, hτ, -, hA, h3, h6, hp6⟩ := id HRef
  have km := km_0 HM
  by_cases c0 : code = 0
  · obtain ⟨i, p, m, so, q1, rfl, q2, rfl, q3, q4, q5, q6, q7, -⟩ := l4 c0
    have ei : (nI i).toInt = i := nI_to (by omega)
    have hv := tvs q7
    obtain ⟨g1, e1, c1⟩ := fit_6 (n := n) (z := z) (b := b) (τ := τ) (P := P) (t := t) (o := b + 64 + 2 * i) (ro := b + 65 + 2 * i) (m := m) hn hτ h6 (by unfold Tq; omega) q2 hv (A := h.I (b + 73)) (sum := x) q6 10 0 n 0 h (by omega) (by omega) (by omega) HX hR3 hT HA q5
    have S1 := Cd.sc c1
    have I1 := I.sc S1
    have cx : f_X11_talents n z h b (nI i) (nI p) x = some (nI (tSet τ (aS (h.I (b + 73)) p) (fun j => (h.J (b + 91) (40 * i + j)).toInt.toNat) m x 10 0 0), g1) := by
      unfold f_X11_talents f_X11_fittingTalents
      rw [if_pos (kx_0 HX), l1, bS, c0, if_pos (show nI 0 = (0 : Int32) from rfl), trayAt_ok HX, bS, ei, if_pos (by omega), Int.toNat_natCast]
      dsimp only
      rw [if_pos (kx_0 HX), show f_X11_fittingTalents_6 n z n h b (b + 64 + 2 * i) (nI p) x 0 0 = _ from e1, bS]
    refine two_go (y := fun g => f_X12_talents n z g (b + 72) (nI i) (nI p) x) cx ?_
    have H1 : RefI b z (g1.setI (b + 72) 0 0) τ P (h.I (b + 73)) := HRef.fr c1.1 ((rowI_ne _ _ (by omega)).trans (S1.I rfl))
    have nl := l2 (g1.setI (b + 72) 0 0) H1 ((rowI_ne _ _ (by omega)).trans (S1.I rfl)) ((rowI_ne _ _ (by omega)).trans (S1.I rfl)) (c1.2.1 _)
    rw [if_pos c0] at nl
    obtain ⟨g2, f1, f2, f3, f4⟩ := tal_6 (n := n) (z := z) (b := b) (τ := τ) (P := P) (m := m) (vs := fun j => h.J (b + 91) (40 * i + j)) (tv := fun j => (h.J (b + 91) (40 * i + j)).toInt.toNat) hn (A := h.I (b + 73)) q1 (by omega) hv q2 (sum := x) q6 10 0 n 0 (g1.setI (b + 72) 0 0) (by omega) (by omega) (by omega) H1 (by rw [show (g1.setI (b + 72) 0 0).I (b + 90) = g1.I (b + 90) from rowI_ne _ _ (by omega), show g1.I (b + 90) = h.I (b + 90) from S1.I rfl]; exact q4) (fun j _ => by
      show g1.J (b + 91) (40 * i + j) = _
      rw [c1.2.1])
    refine ⟨g2, ?_, (ref_sc I1 0).sc (Rd.sc f2 f3)⟩
    try dsimp only
    unfold f_X12_talents f_X12_talentsOf
    rw [if_pos km, pI_ok km, bS, nl, bS, if_pos rfl, if_pos km, show f_X12_talentsOf_6 n z n (g1.setI (b + 72) 0 0) (b + 72) (nI i) (nI p) x 0 0 = _ from f1, bS]
  · have cx : f_X11_talents n z h b v u x = some (-99000000 - nI code, h) := by
      unfold f_X11_talents
      rw [if_pos (kx_0 HX), l1, bS, if_neg (nz l3 c0), f_X11_refused, bS]
    refine two_go (y := fun g => f_X12_talents n z g (b + 72) v u x) cx ⟨h.setI (b + 72) 0 0, ?_, ref_sc I 0⟩
    try dsimp only
    unfold f_X12_talents
    have l2 := l2 (h.setI (b + 72) 0 0) (set72 D (Cc.refl b h) (k := 0) 0) (rowI_ne _ _ (by omega)) (rowI_ne _ _ (by omega)) rfl
    rw [if_neg c0] at l2
    rw [if_pos km, pI_ok km, bS, l2, bS, if_neg]
    rw [show (-99000000 : Int32) = iI (-99000000) by decide, nI_iI, iI_sub, show (0 : Int32) = iI 0 by decide, iI_eq (by omega) (by omega) (by omega) (by omega)]
    omega
end
