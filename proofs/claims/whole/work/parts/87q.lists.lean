/-! ===== lists: the reference, and the call ===== -/
theorem rJ_self (h : Hp) (a : Nat) : h.rowJ a (h.J a) = h := rowJ_self h a
theorem Sc.rJ {b : Nat} {h h' : Hp} (S : Sc b h h') (r : Nat) (X : Nat → Int64) : Sc b (h.rowJ r X) (h'.rowJ r X) := by
  obtain ⟨s1, s2, s3, s4, s5⟩ := S
  refine ⟨s1, fun a ha => ⟨(s2 a ha).1, ?_⟩, s3, s4, s5⟩
  rw [rowJ_Jb, rowJ_Jb]
  by_cases e : a = r
  · rw [if_pos e, if_pos e]
  · rw [if_neg e, if_neg e]
    exact (s2 a ha).2
section
variable {n : Nat} {z : Sh} {b : Nat} {τ : TT} {P : Nat} {A : Nat → Int32}
theorem CO_bd {tal : Nat} {md : Bool} (hτ : TownOK τ) : ∀ k s, SV τ s → -1 ≤ CO τ tal md k s ∧ CO τ tal md k s ≤ 9 := by
  intro k
  induction k with
  | zero => intro s hs; exact dO_bd hτ hs
  | succ k ih =>
    intro s hs
    unfold CO
    by_cases c : dO τ tal md s = -1
    · rw [if_pos c]
      omega
    · rw [if_neg c]
      rcases dO_cs (tal := tal) (md := md) hτ hs with ⟨q, -⟩ | ⟨-, -, q1, -⟩
      · exact absurd q c
      · exact ih _ q1
theorem ca_ok (hn : 400000 ≤ n) {h : Hp} (H : RefI b z h τ P A) {p k : Nat} (hp : p < P) (hk : k ≤ 40) : ∃ h', f_X12_courseAt n z h (b + 72) (nI p) (nI k) = some (iI (CO τ (nv A (54 + p)) (decide (nv A (60 + p) = 0)) k (aS A p)), h') ∧ Sc b h h' ∧ RefI b z h' τ P A := by
  have hτ := H.2.1
  have h13 := rk_le hτ (aS A p)
  obtain ⟨k1, k2, r1, r2, r3, C, B, K, kk, hs⟩ := rl_ok (n := n) hn H hp
  obtain ⟨k3, r4, T⟩ := rc_19 (n := n) (z := z) (b := b) (P := P) (A := A) (v2 := nI k) hn hτ 13 0 k n (aS A p) k2 h13 (by omega) (by rw [nI_to (by omega)]; omega) (by omega) hs B K kk
  refine ⟨k3, ?_, C.sc.trans T.lz.sc, (B.lz T.lz).1⟩
  unfold f_X12_courseAt
  rw [if_pos (km_0 H.1), r1, bS, r2, bS, r3, bS, show (0 : Int32) = nI 0 from rfl, r4]
theorem ls_44 (hn : 400000 ≤ n) {i so sz p L : Nat} (hi : i < 4) (hso : so ≤ 3) (hsz : sz ≤ 40) (hp : p < P) (hL : L ≤ sz) (hne : ∀ q, q < L → CO τ (nv A (54 + p)) (decide (nv A (60 + p) = 0)) q (aS A p) ≠ -1) (hLe : L = sz ∨ CO τ (nv A (54 + p)) (decide (nv A (60 + p) = 0)) L (aS A p) = -1) {J0 : Nat → Int64} : ∀ (d k f : Nat) (h : Hp), k + d = L → d < f → RefI b z h τ P A → h.I (b + 89) i = nI so → h.I (b + 90) i = nI sz → (∀ x, h.J (b + 91) x = if 40 * i ≤ x ∧ x < 40 * i + k then cutV so (lsV p (CO τ (nv A (54 + p)) (decide (nv A (60 + p) = 0)) (x - 40 * i) (aS A p))) else J0 x) → ∃ h', f_X12_lists_44 n z f h (b + 72) (nI i) (nI p) (nI k) = some (nI L, h') ∧ Sc b (h.rowJ (b + 91) J0) (h'.rowJ (b + 91) J0) ∧ ∀ x, h'.J (b + 91) x = if 40 * i ≤ x ∧ x < 40 * i + L then cutV so (lsV p (CO τ (nv A (54 + p)) (decide (nv A (60 + p) = 0)) (x - 40 * i) (aS A p))) else J0 x := by
  intro d
  induction d with
  | zero =>
    intro k f h hj hf H h89 h90 hrow
    obtain ⟨f, rfl⟩ : ∃ q, f = q + 1 := ⟨f - 1, by omega⟩
    obtain rfl : k = L := by omega
    have HM := H.1
    rw [f_X12_lists_44.eq_2, gR_ok (km_0 HM) (rm_34 HM), bS, lm_18 HM hi, bS, h90]
    by_cases cs : sz ≤ k
    · refine ⟨h, ?_, Sc.refl .., hrow⟩
      rw [if_pos ((nI_leI (by omega) (by omega)).mpr cs)]
    · have hm1 : CO τ (nv A (54 + p)) (decide (nv A (60 + p) = 0)) k (aS A p) = -1 := by
        rcases hLe with q | q
        · omega
        · exact q
      obtain ⟨h1, e1, S1, H1⟩ := ca_ok (n := n) hn H hp (show k ≤ 40 by omega)
      refine ⟨h1, ?_, S1.rJ _ _, fun x => by rw [S1.J (k := 91) rfl]; exact hrow x⟩
      rw [if_neg (fun q => cs ((nI_leI (by omega) (by omega)).mp q)), e1, bS, hm1]
      dsimp only
      rw [if_pos (show iI (-1) = -1 by decide)]
  | succ d ih =>
    intro k f h hj hf H h89 h90 hrow
    obtain ⟨f, rfl⟩ : ∃ q, f = q + 1 := ⟨f - 1, by omega⟩
    have HM := H.1
    have hτ := H.2.1
    have h6 := H.2.2.2.2.2.1
    obtain ⟨h1, e1, S1, H1⟩ := ca_ok (n := n) hn H hp (show k ≤ 40 by omega)
    obtain ⟨h2, e2, S2, H2⟩ := ca_ok (n := n) hn H1 hp (show k ≤ 40 by omega)
    have HM2 := H2.1
    have c1 := hne k (by omega)
    have cb : -1 ≤ CO τ (nv A (54 + p)) (decide (nv A (60 + p) = 0)) k (aS A p) ∧ CO τ (nv A (54 + p)) (decide (nv A (60 + p) = 0)) k (aS A p) ≤ 9 := CO_bd hτ _ _ (Per_st hτ (H.2.2.2.2.2.2 p hp)).2.1
    have SS := S1.trans S2
    have d89 : h2.I (b + 89) i = nI so := by rw [SS.I (k := 89) rfl]; exact h89
    have d90 : h2.I (b + 90) i = nI sz := by rw [SS.I (k := 90) rfl]; exact h90
    have go : ∀ w : Int64, w = lsV p (CO τ (nv A (54 + p)) (decide (nv A (60 + p) = 0)) k (aS A p)) → ∃ h', f_X12_lists_109 n z (f_X12_lists_44 n z f) h2 (b + 72) (nI i) (nI p) (nI k) w (40 * nI i + nI k) (b + 91) = some (nI L, h') ∧ Sc b (h.rowJ (b + 91) J0) (h'.rowJ (b + 91) J0) ∧ ∀ x, h'.J (b + 91) x = if 40 * i ≤ x ∧ x < 40 * i + L then cutV so (lsV p (CO τ (nv A (54 + p)) (decide (nv A (60 + p) = 0)) (x - 40 * i) (aS A p))) else J0 x := fun w hw => by
      obtain ⟨h', g1, g2, g3⟩ := ih (k + 1) f (h2.setJ (b + 91) (40 * i + k) (cutV so w)) (by omega) (by omega) (H2.fr rfl rfl) d89 d90 (fun x => by
        rw [setJ_J, if_pos rfl]
        by_cases e : x = 40 * i + k
        · rw [e, if_pos (by omega), show 40 * i + k - 40 * i = k by omega, ← hw]
          exact if_pos rfl
        · rw [show vp_updL (h2.J (b + 91)) (40 * i + k) (cutV so w) x = h2.J (b + 91) x from if_neg e, SS.J (k := 91) rfl, hrow x]
          by_cases e2 : 40 * i ≤ x ∧ x < 40 * i + k
          · rw [if_pos e2, if_pos (by omega)]
          · rw [if_neg e2, if_neg (by omega)])
      have rr : (h2.setJ (b + 91) (40 * i + k) (cutV so w)).rowJ (b + 91) J0 = h2.rowJ (b + 91) J0 := rowJ_rowJ h2 (b + 91) (vp_updL (h2.J (b + 91)) (40 * i + k) (cutV so w)) J0
      rw [rr] at g2
      refine ⟨h', ?_, (SS.rJ _ _).trans g2, g3⟩
      unfold f_X12_lists_109
      rw [gR_ok (km_0 HM2) (rm_33 HM2), bS, lm_17 HM2 hi, bS, d89, cut_m hso, bS, show (40 : Int32) = nI 40 from rfl, nI_mul, nI_add, sm_19 HM2 (by omega), bS, bS, show nI k + 1 = nI (k + 1) from nI_add k 1]
      exact g1
    rw [f_X12_lists_44.eq_2, gR_ok (km_0 HM) (rm_34 HM), bS, lm_18 HM hi, bS, h90, if_neg (fun q => by have := (nI_leI (by omega) (by omega)).mp q; omega), e1, bS]
    dsimp only
    rw [if_neg (show ¬ iI (CO τ (nv A (54 + p)) (decide (nv A (60 + p) = 0)) k (aS A p)) = -1 from fun q => by rw [iIm1, iI_eq (by omega) (by omega) (by omega) (by omega)] at q; exact c1 q), e2, bS]
    dsimp only
    rw [gR_ok (km_0 HM2) (rm_35 HM2), bS]
    by_cases c9 : CO τ (nv A (54 + p)) (decide (nv A (60 + p) = 0)) k (aS A p) = 9
    · rw [if_pos (show iI (CO τ (nv A (54 + p)) (decide (nv A (60 + p) = 0)) k (aS A p)) = 9 by rw [c9]; decide)]
      refine go _ ?_
      unfold lsV
      rw [if_pos c9, show (100 : Int32) = nI 100 from rfl, nI_add, nI_iI, iI_64 (by omega) (by omega)]
      congr 1
    · rw [if_neg (show ¬ iI (CO τ (nv A (54 + p)) (decide (nv A (60 + p) = 0)) k (aS A p)) = 9 from fun q => by rw [show (9 : Int32) = iI 9 by decide, iI_eq (by omega) (by omega) (by omega) (by omega)] at q; exact c9 q)]
      refine go _ ?_
      unfold lsV
      rw [if_neg c9, show (10 : Int32) = nI 10 from rfl, nI_mul, nI_iI, iI_add, iI_64 (by omega) (by omega)]
      congr 1
end
section
variable {n : Nat} {z0 : Sh} {h0 : Hp} {b c : Nat} {z : Sh} {h : Hp}
theorem lists_ok (I : Inv z0 h0 b c z h) (hn : 400000 ≤ n) (hc : c < 600) (v u : Int32) : ∃ r h1 z1 h2, f_X11_lists n z h b v u = some (r, h1, z1) ∧ f_X12_lists n z1 h1 (b + 72) v u = some (r, h2) ∧ Inv z0 h0 b (c + 1) z1 h2 := by
  obtain ⟨t, τ, P, nx, sz', D⟩ := I.now
  obtain ⟨HX, HRef, hR3, hT, hT5, HA, -, -⟩ := id D
  obtain ⟨HM, hτ, -, hA, h3, h6, hp6⟩ := id HRef
  have HTr : TrayI b h := I.2.2.2.2.2.1
  have km := km_0 HM
  have H0 := s72_r (b := b) HRef 0
  have w03 : ∀ (z' : Sh) (g : Hp), f_X12_within z' g (Int32.toInt64 v) 0 3 = some (if 0 ≤ v.toInt ∧ v.toInt < 4 then 1 else 0) := fun z' g => by
    rw [within_ok, to64, show (0 : Int64).toInt = 0 from rfl, show (3 : Int64).toInt = 3 from rfl]
    by_cases q : 0 ≤ v.toInt ∧ v.toInt < 4
    · rw [if_pos q, if_pos (by omega)]
    · rw [if_neg q, if_neg (by omega)]
  by_cases cv : 0 ≤ v.toInt ∧ v.toInt < 4
  case neg =>
    refine ⟨-99000002, h, z, h.setI (b + 72) 0 0, ?_, ?_, (ref_sc I 0).up⟩
    · unfold f_X11_lists
      rw [if_pos (kx_0 HX)]
      refine gd3_ok ?_ ⟨Nat.le_refl _, Nat.le_refl _⟩
      rw [trayAt_ok HX, bS, if_neg cv]
      rfl
    · unfold f_X12_lists
      rw [if_pos km, pI_ok km, bS, w03, bS, if_neg cv, if_pos rfl]
  by_cases cp : 0 ≤ u.toInt ∧ u.toInt < P
  case neg =>
    refine ⟨-99000002, h, z, h.setI (b + 72) 0 0, ?_, ?_, (ref_sc I 0).up⟩
    · unfold f_X11_lists
      rw [if_pos (kx_0 HX)]
      refine gd3_ok ?_ ⟨Nat.le_refl _, Nat.le_refl _⟩
      rw [trayAt_ok HX, bS, if_pos cv]
      dsimp only
      rw [gR_ok (kx_0 HX) (rx_0_4 HX), bS, has_ok (now_PL HX) HA.1.1 h6, bS, if_neg cp, if_pos rfl]
      rfl
    · unfold f_X12_lists
      rw [if_pos km, pI_ok km, bS, w03, bS, if_pos cv, if_neg (show ¬ (1 : Int32) = 0 by decide), isP_ok H0, bS, to64, if_neg cp, if_pos rfl]
  obtain ⟨p, hp, rfl⟩ := nI_ex (P := P) cp
  obtain ⟨i, hi, rfl⟩ := nI_ex (P := 4) cv
  have ei : (nI i).toInt = i := nI_to (by omega)
  have nT : ∀ (z' : Sh) (g : Hp), LayR z' g.2.2 (b + 72) → f_X12_noTray z' g (b + 72) (nI i) = some (if g.I (b + 89) i = -1 then -99000006 else 0) := fun z' g HG => by
    rw [noTray_ok HG, if_pos cv, ei, Int.toNat_natCast]
  have e89 : ∀ g : Hp, (g.setI (b + 72) 0 0).I (b + 89) = g.I (b + 89) := fun g => rowI_ne g _ (by omega)
  have e90 : ∀ g : Hp, (g.setI (b + 72) 0 0).I (b + 90) = g.I (b + 90) := fun g => rowI_ne g _ (by omega)
  rcases tray_in HX HTr hi with ⟨t1, t2⟩ | ⟨t1, so, m, t2, t3, t4, t5, t6, t7⟩
  · refine ⟨-99000006, h, z, h.setI (b + 72) 0 0, ?_, ?_, (ref_sc I 0).up⟩
    · unfold f_X11_lists
      rw [if_pos (kx_0 HX)]
      refine gd3_ok ?_ ⟨Nat.le_refl _, Nat.le_refl _⟩
      rw [trayAt_ok HX, bS, if_pos cv, ei, Int.toNat_natCast]
      dsimp only
      rw [gR_ok (kx_0 HX) (rx_0_4 HX), bS, has_ok (now_PL HX) HA.1.1 h6, bS, if_pos cp, if_neg (show ¬ (1 : Int32) = 0 by decide), gI_ok (tray_K HX hi).1, bS, t1, if_pos (show nI 0 = (0 : Int32) from rfl)]
      rfl
    · unfold f_X12_lists
      rw [if_pos km, pI_ok km, bS, w03, bS, if_pos cv, if_neg (show ¬ (1 : Int32) = 0 by decide), w_isp H0 hp, bS, if_neg (show ¬ (1 : Int32) = 0 by decide), nT z (h.setI (b + 72) 0 0) HM, bS, e89, t2, if_pos rfl, if_neg (show ¬ (-99000006 : Int32) = 0 by decide)]
  · obtain ⟨g, st, ts, e1, W, E, es⟩ := wab_ok (n := n) hn I hc D hp
    obtain ⟨-, hs, -⟩ := Per_st hτ (hp6 p hp)
    have HXg := W.1.1
    have hb : b + 92 ≤ z.sz := I.2.2.2.2.2.2.2.2.1
    have h13 := rk_le hτ (aS (h.I (b + 73)) p)
    have gI : ∀ k, 60 ≤ k → k < 92 → g.I (b + k) = h.I (b + k) := fun k k1 k2 => E.2.2.2.1 _ (by omega) (by omega) (by omega) (by omega) (by omega) (by omega) (by omega) (by omega)
    have gJ : ∀ k, 60 ≤ k → k < 92 → g.J (b + k) = h.J (b + k) := fun k k1 k2 => E.2.2.2.2.1 _ (by omega) (by omega) (by omega)
    have go : g.I (b + 64 + 2 * i) = h.I (b + 64 + 2 * i) := by rw [Nat.add_assoc]; exact gI _ (by omega) (by omega)
    have gr : g.J (b + 65 + 2 * i) = h.J (b + 65 + 2 * i) := by rw [Nat.add_assoc]; exact gJ _ (by omega) (by omega)
    obtain ⟨L, z1, h1, f1, f2, f3, f4, W1, E1, f5, f6⟩ := ls_14 (n := n) (i := i) (so := so) (sz := m) (p := p) (s0 := aS (h.I (b + 73)) p) (zc := z) (hc := g) hn hi t2 t3 (by omega) 13 0 n (aS (h.I (b + 73)) p) z g (by omega) (by omega) h13 hs (fun q => by rw [Nat.zero_add]) (fun q hq => absurd hq (Nat.not_lt_zero q)) (Nat.zero_le _) W (by rw [rJ_self]; exact Ex.refl ..) (by rw [go]; exact t6) (by rw [go]; exact t7.2.2.2.2.1) hb (fun q => by rw [if_neg (Nat.not_lt_zero q)])
    have W2 : WayD z0 b (c + 1) z1 (h1.rowJ (b + 65 + 2 * i) (g.J (b + 65 + 2 * i))) t τ (nv (h.I (b + 73)) (54 + p)) (decide (nv (h.I (b + 73)) (60 + p) = 0)) st ts := W1.rJ (r := b + 65 + 2 * i) (by omega) rfl (fun _ => rfl) (fun a ha => by rw [rowJ_Jb, if_neg ha])
    obtain ⟨I1, H1⟩ := ways_end I D W2 (E.trans E1)
    have H1' : RefI b z1 h1 τ P (h.I (b + 73)) := H1.fr rfl rfl
    have H2 := s72_r (b := b) H1' 0
    have r89 : h1.I (b + 89) = h.I (b + 89) := (show h1.I (b + 89) = g.I (b + 89) from E1.2.2.2.1 _ (by omega) (by omega) (by omega) (by omega) (by omega) (by omega) (by omega) (by omega)).trans (gI 89 (by omega) (by omega))
    have r90 : h1.I (b + 90) = h.I (b + 90) := (show h1.I (b + 90) = g.I (b + 90) from E1.2.2.2.1 _ (by omega) (by omega) (by omega) (by omega) (by omega) (by omega) (by omega) (by omega)).trans (gI 90 (by omega) (by omega))
    have r91 : h1.J (b + 91) = h.J (b + 91) := by
      have := E1.2.2.2.2.1 (b + 91) (by omega) (by omega) (by omega)
      rw [rowJ_Jb, if_neg (by omega)] at this
      exact this.trans (gJ 91 (by omega) (by omega))
    obtain ⟨k2, g1, g2, g3⟩ := ls_44 (n := n) (z := z1) (b := b) (τ := τ) (P := P) (A := h.I (b + 73)) (i := i) (so := so) (sz := m) (p := p) (L := L) hn hi t2 t3 hp f2 f3 f4 (J0 := h.J (b + 91)) L 0 n (h1.setI (b + 72) 0 0) (by omega) (by omega) H2 (by rw [e89, r89]; exact t4) (by rw [e90, r90]; exact t5) (fun x => by
      rw [if_neg (by omega)]
      exact congrFun r91 x)
    have k0s : (h1.setI (b + 72) 0 0).rowJ (b + 91) (h.J (b + 91)) = h1.setI (b + 72) 0 0 := by
      rw [show h.J (b + 91) = (h1.setI (b + 72) 0 0).J (b + 91) from r91.symm, rJ_self]
    rw [k0s] at g2
    have I2 : Inv z0 h0 b (c + 1) z1 ((k2.rowJ (b + 91) (h.J (b + 91))).rowJ (b + 65 + 2 * i) (g.J (b + 65 + 2 * i))) := (ref_sc I1 0).sc (g2.rJ (b + 65 + 2 * i) (g.J (b + 65 + 2 * i)))
    have kr : ∀ q, k2.J (b + 65 + 2 * i) q = h1.J (b + 65 + 2 * i) q := fun q => by
      have := g2.J (k := 65 + 2 * i) (scr_img (by omega) (by omega))
      rw [rowJ_Jb, if_neg (by omega), ← Nat.add_assoc] at this
      exact congrFun this q
    refine ⟨nI L, h1, z1, k2, ?_, ?_, ?_⟩
    · unfold f_X11_lists
      rw [if_pos (kx_0 HX)]
      refine gd3_ok ?_ f5
      have e3 : f_X1_listInto n z g (b + 50) (b + 64 + 2 * i) (nI p) = some (nI L, h1, z1) := by
        unfold f_X1_listInto
        rw [if_pos (kx_50 HX), gR_ok (kx_50 HX) (rx_50_0 HXg), bS, gI_ok (kx_44 HX), bS, es]
        exact gd3_ok f1 f5
      rw [trayAt_ok HX, bS, if_pos cv, ei, Int.toNat_natCast]
      dsimp only
      rw [gR_ok (kx_0 HX) (rx_0_4 HX), bS, has_ok (now_PL HX) HA.1.1 h6, bS, if_pos cp, if_neg (show ¬ (1 : Int32) = 0 by decide), gI_ok (tray_K HX hi).1, bS, t1, if_neg (show ¬ nI 1 = (0 : Int32) by decide), gR_ok (kx_0 HX) (rx_0_12 HX), bS, gR_ok (kx_0 HX) hR3, bS, bS, e1, bS, gR_ok (kx_0 HX) (rx_0_13 HXg), bS, e3, bS]
      exact gd3_ok rfl ⟨Nat.le_refl _, Nat.le_refl _⟩
    · unfold f_X12_lists
      rw [if_pos (km_0 H1.1), pI_ok (km_0 H1.1), bS, w03, bS, if_pos cv, if_neg (show ¬ (1 : Int32) = 0 by decide), w_isp H2 hp, bS, if_neg (show ¬ (1 : Int32) = 0 by decide), nT z1 _ H2.1, bS, e89, r89, t4, if_neg (nI_m1' t2), if_pos rfl]
      exact g1
    · refine I2.trayed rfl (fun a _ _ _ _ => rfl) (fun a k1 k2 => by rw [rowJ_Jb, if_neg (by omega), rowJ_Jb, if_neg k2]) (fun k _ => rfl) ?_
      have TT2 : TrayI b ((k2.rowJ (b + 91) (h.J (b + 91))).rowJ (b + 65 + 2 * i) (g.J (b + 65 + 2 * i))) := I2.2.2.2.2.2.1
      intro i' hi'
      have old := TT2 i' hi'
      have n91 : ((k2.rowJ (b + 91) (h.J (b + 91))).rowJ (b + 65 + 2 * i) (g.J (b + 65 + 2 * i))).J (b + 91) = h.J (b + 91) := by rw [rowJ_Jb, if_neg (by omega), rowJ_Jb, if_pos rfl]
      rw [n91] at old
      by_cases e : i' = i
      · subst e
        have nr : ((k2.rowJ (b + 91) (h.J (b + 91))).rowJ (b + 65 + 2 * i') (g.J (b + 65 + 2 * i'))).J (b + 65 + 2 * i') = g.J (b + 65 + 2 * i') := by rw [rowJ_Jb, if_pos rfl]
        rw [nr] at old
        rcases old with ⟨o1, o2⟩ | ⟨o1, so', sz2, o2, o3, o4, o5, o6, o7, o8⟩
        · exact Or.inl ⟨o1, o2⟩
        · refine Or.inr ⟨o1, so', sz2, o2, o3, o4, o5, o6, o7, fun q hq => ?_⟩
          rw [kr, f6 q, g3 (40 * i' + q)]
          by_cases e2 : q < L
          · rw [if_pos e2, if_pos (by omega), show 40 * i' + q - 40 * i' = q by omega]
          · rw [if_neg e2, if_neg (by omega)]
            exact o8 q hq
      · have nr : ((k2.rowJ (b + 91) (h.J (b + 91))).rowJ (b + 65 + 2 * i) (g.J (b + 65 + 2 * i))).J (b + 65 + 2 * i') = k2.J (b + 65 + 2 * i') := by rw [rowJ_Jb, if_neg (by omega), rowJ_Jb, if_neg (by omega)]
        rw [nr] at old
        rcases old with ⟨o1, o2⟩ | ⟨o1, so', sz2, o2, o3, o4, o5, o6, o7, o8⟩
        · exact Or.inl ⟨o1, o2⟩
        · refine Or.inr ⟨o1, so', sz2, o2, o3, o4, o5, o6, o7, fun q hq => ?_⟩
          rw [g3 (40 * i' + q), if_neg (by omega)]
          exact o8 q hq
end
