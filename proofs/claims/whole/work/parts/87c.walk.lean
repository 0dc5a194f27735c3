/-! ===== walking along a best course ===== -/
def dO (τ : TT) (tal : Nat) (md : Bool) (s : Nat) : Int := (SC τ tal md 14 s).2
def nxB (τ : TT) (tal : Nat) (md : Bool) (s : Nat) : Nat := if dO τ tal md s = 9 then drN τ tal s else lvN s (dO τ tal md s).toNat
def CO (τ : TT) (tal : Nat) (md : Bool) : Nat → Nat → Int
  | 0, s => dO τ tal md s
  | i + 1, s => if dO τ tal md s = -1 then -1 else CO τ tal md i (nxB τ tal md s)
def DY (τ : TT) (tal : Nat) (md : Bool) : Nat → Nat → Int
  | 0, _ => -1
  | k + 1, s => if dO τ tal md s = -1 then -1 else if dO τ tal md s = 9 then sY s else DY τ tal md k (nxB τ tal md s)
section
variable {τ : TT} {tal : Nat} {md : Bool}
theorem dO_cs (hτ : TownOK τ) {s : Nat} (hs : SV τ s) : (dO τ tal md s = -1 ∧ bF τ tal md s = 0) ∨ (dO τ tal md s ≠ -1 ∧ 0 < bF τ tal md s ∧ SV τ (nxB τ tal md s) ∧ rk τ (nxB τ tal md s) < rk τ s ∧ ((∃ t, t < opn τ s ∧ dO τ tal md s = t ∧ nxB τ tal md s = lvN s t ∧ SG τ tal md s t = (SC τ tal md 14 s).1 ∧ ∀ t', t' < t → SG τ tal md s t' ≠ (SC τ tal md 14 s).1) ∨ ((md = true ∧ sL s = 1) ∧ dO τ tal md s = 9 ∧ nxB τ tal md s = drN τ tal s ∧ ∀ t, t < opn τ s → SG τ tal md s t ≠ (SC τ tal md 14 s).1))) := by
  have hD := hτ.2.1
  have ho : opn τ s ≤ 4 := by unfold opn; split <;> omega
  have h13 := rk_le hτ s
  rcases SC_cs (tal := tal) (md := md) hτ hs with ⟨e, -, -⟩ | ⟨t, ht, e, h1⟩ | ⟨hc, e, h1⟩
  · refine Or.inl ⟨by unfold dO; rw [e], ?_⟩
    unfold bF
    rw [e]
    show lF 0 = 0
    decide
  · obtain ⟨q1, q2⟩ := opn_lt ht
    have r1 := rk_lv hτ hs q2 q1
    have eo : dO τ tal md s = t := by unfold dO; rw [e]
    have en : nxB τ tal md s = lvN s t := by
      unfold nxB
      rw [if_neg (show ¬ dO τ tal md s = 9 by omega), eo]
      rfl
    have b1 := b_bd (tal := tal) (md := md) hτ (lv_SV hτ hs q2 q1).1
    refine Or.inr ⟨by omega, ?_, by rw [en]; exact (lv_SV hτ hs q2 q1).1, by rw [en]; omega, Or.inl ⟨t, ht, eo, en, by rw [e], fun t' ht' => ?_⟩⟩
    · unfold bF
      rw [e]
      show 0 < lF (SG τ tal md s t)
      rw [(SG_lm hτ hs ht).2]
      omega
    · rw [e]
      have := h1 t' ht'
      dsimp only
      omega
  · have r1 := rk_dr (tal := tal) hτ hs hc.2
    have eo : dO τ tal md s = 9 := by unfold dO; rw [e]
    have en : nxB τ tal md s = drN τ tal s := by unfold nxB; rw [if_pos eo]
    have b1 := b_bd (tal := tal) (md := md) hτ (dr_SV (tal := tal) hτ hs).1
    refine Or.inr ⟨by omega, ?_, by rw [en]; exact (dr_SV hτ hs).1, by rw [en]; exact r1, Or.inr ⟨hc, eo, en, fun t ht => ?_⟩⟩
    · unfold bF
      rw [e]
      show 0 < lF ((SC τ tal md 14 (drN τ tal s)).1 - 1)
      rw [(lM_of (q := (SC τ tal md 14 (drN τ tal s)).1 - 1) (m := bM τ tal md (drN τ tal s)) (f := bF τ tal md (drN τ tal s) + 1) (by omega) (by omega) (by omega)).2]
      omega
    · rw [e]
      have := h1 t ht
      dsimp only
      omega
theorem dO_bd (hτ : TownOK τ) {s : Nat} (hs : SV τ s) : -1 ≤ dO τ tal md s ∧ dO τ tal md s ≤ 9 := ⟨(SC_bd hτ 14 s hs).2.2.1, (SC_bd hτ 14 s hs).2.2.2⟩
theorem dO_zero (hτ : TownOK τ) {s : Nat} (hs : SV τ s) (hr : rk τ s = 0) : dO τ tal md s = -1 := by
  rcases dO_cs (tal := tal) (md := md) hτ hs with ⟨h, -⟩ | ⟨-, -, -, h, -⟩
  · exact h
  · omega
end
section
variable {n : Nat} {z0 : Sh} {b c : Nat} {wt : Nat} {ω : TT} {tal : Nat} {md : Bool} {st ts : Nat}
theorem iIm1 : (-1 : Int32) = iI (-1) := by decide
theorem caft_ok {z : Sh} {h : Hp} (W : WayD z0 b c z h wt ω tal md st ts) {s : Nat} (hs : SV ω s) (hd : dO ω tal md s ≠ -1) : f_X1_after z h (b + 50) (nI (enc s)) (iI (dO ω tal md s)) = some (nI (enc (nxB ω tal md s))) := by
  obtain ⟨⟨HX, HR, w3, w4, w5, w6, w7⟩, ⟨w8, w9, w10, w11⟩, ⟨w12, w13, w14, w15⟩, w16, -⟩ := W
  have hD := w10.2.1
  have ho : opn ω s ≤ 4 := by unfold opn; split <;> omega
  unfold f_X1_after
  rw [if_pos (kx_50 HX), gR_ok (kx_50 HX) (rx_50_0 HX), bS, bS]
  rcases dO_cs (tal := tal) (md := md) w10 hs with ⟨h, -⟩ | ⟨-, -, -, -, ⟨t, ht, e1, e2, -⟩ | ⟨hc, e1, e2, -⟩⟩
  · exact absurd h hd
  · obtain ⟨q1, q2⟩ := opn_lt ht
    rw [e1, e2, if_neg (show ¬ iI (t : Int) = 9 from fun q => by rw [show (9 : Int32) = iI 9 by decide, iI_eq (by omega) (by omega) (by omega) (by omega)] at q; omega), ← nI_iI, xlv_ok w10 (kx_44 HX) hs q2 q1, bS]
  · rw [e1, e2, if_pos (show iI 9 = 9 by decide), adr_ok HX w10 hs w14 w16, bS, if_pos hc]
theorem cd_10 (hn : 400000 ≤ n) {v1 : Int32} : ∀ (d j k i s : Nat) (z : Sh) (h : Hp), j + d = 13 → d < i → rk ω s ≤ d → v1.toInt = j + k → SV ω s → WayD z0 b c z h wt ω tal md st ts → ∃ z' h', f_X1_doingAt_10 n i z h (b + 50) v1 (nI (enc s)) (nI j) = some (iI (CO ω tal md k s), h', z') ∧ WayD z0 b c z' h' wt ω tal md st ts ∧ WE b st z h z' h' := by
  intro d
  induction d with
  | zero =>
    intro j k i s z h hj hi hr hv hs W
    obtain ⟨i, rfl⟩ : ∃ k, i = k + 1 := ⟨i - 1, by omega⟩
    obtain rfl : j = 13 := by omega
    have e0 := dO_zero (tal := tal) (md := md) W.2.1.2.2.1 hs (by omega)
    refine ⟨z, h, ?_, W, WE.refl ..⟩
    rw [f_X1_doingAt_10.eq_2, if_pos (show (13 : Int32) ≤ nI 13 by decide)]
    have : CO ω tal md k s = -1 := by
      cases k with
      | zero => exact e0
      | succ k => unfold CO; rw [if_pos e0]
    rw [this]
    rfl
  | succ d ih =>
    intro j k i s z h hj hi hr hv hs W
    obtain ⟨i, rfl⟩ : ∃ k, i = k + 1 := ⟨i - 1, by omega⟩
    have hω := W.2.1.2.2.1
    obtain ⟨z1, h1, e1, W1, E1, -⟩ := best_c hn W hs
    have bd := dO_bd (tal := tal) (md := md) hω hs
    rw [f_X1_doingAt_10.eq_2, if_neg (show ¬ (13 : Int32) ≤ nI j from fun q => by have := (nI_leI (a := 13) (by omega) (by omega)).mp q; omega), e1, bS]
    dsimp only
    rw [dIn_ok hω hs, bS]
    by_cases c1 : dO ω tal md s = -1
    · refine ⟨z1, h1, gd3_ok ?_ ⟨Nat.le_refl _, Nat.le_refl _⟩, W1, E1⟩
      have : CO ω tal md k s = -1 := by
        cases k with
        | zero => exact c1
        | succ k => unfold CO; rw [if_pos c1]
      rw [this, show (SC ω tal md 14 s).2 = -1 from c1, if_pos (show iI (-1) = -1 by decide)]
    · rw [if_neg (show ¬ iI (SC ω tal md 14 s).2 = -1 from fun q => by rw [iIm1, show (SC ω tal md 14 s).2 = dO ω tal md s from rfl, iI_eq (by omega) (by omega) (by omega) (by omega)] at q; exact c1 q)]
      by_cases c2 : k = 0
      · subst c2
        refine ⟨z1, h1, gd3_ok ?_ ⟨Nat.le_refl _, Nat.le_refl _⟩, W1, E1⟩
        rw [if_pos (show nI j = v1 by rw [← Int32.toInt_inj, nI_to (by omega)]; omega)]
        rfl
      · obtain ⟨k, rfl⟩ : ∃ k', k = k' + 1 := ⟨k - 1, by omega⟩
        rcases dO_cs (tal := tal) (md := md) hω hs with ⟨q, -⟩ | ⟨-, -, q1, q2, -⟩
        · exact absurd q c1
        · obtain ⟨z2, h2, e2, W2, E2⟩ := ih (j + 1) k i (nxB ω tal md s) z1 h1 (by omega) (by omega) (by omega) (by omega) q1 W1
          refine ⟨z2, h2, gd3_ok ?_ E2.1.1, W2, E1.trans E2⟩
          rw [if_neg (show ¬ nI j = v1 from fun q => by rw [← q, nI_to (by omega)] at hv; omega), show (SC ω tal md 14 s).2 = dO ω tal md s from rfl, caft_ok W1 hs c1, bS, bS, show nI j + 1 = nI (j + 1) from nI_add j 1]
          unfold CO
          rw [if_neg c1]
          exact e2
theorem cy_10 (hn : 400000 ≤ n) : ∀ (d j k i s : Nat) (z : Sh) (h : Hp), j + d = 13 → d < i → rk ω s ≤ d → rk ω s < k → SV ω s → WayD z0 b c z h wt ω tal md st ts → ∃ z' h', f_X1_drawingYear_10 n i z h (b + 50) (nI (enc s)) (nI j) = some (iI (DY ω tal md k s), h', z') ∧ WayD z0 b c z' h' wt ω tal md st ts ∧ WE b st z h z' h' := by
  intro d
  induction d with
  | zero =>
    intro j k i s z h hj hi hr hv hs W
    obtain ⟨i, rfl⟩ : ∃ k, i = k + 1 := ⟨i - 1, by omega⟩
    obtain ⟨k, rfl⟩ : ∃ k', k = k' + 1 := ⟨k - 1, by omega⟩
    obtain rfl : j = 13 := by omega
    have e0 := dO_zero (tal := tal) (md := md) W.2.1.2.2.1 hs (by omega)
    refine ⟨z, h, ?_, W, WE.refl ..⟩
    rw [f_X1_drawingYear_10.eq_2, if_pos (show (13 : Int32) ≤ nI 13 by decide)]
    unfold DY
    rw [if_pos e0]
    rfl
  | succ d ih =>
    intro j k i s z h hj hi hr hv hs W
    obtain ⟨i, rfl⟩ : ∃ k, i = k + 1 := ⟨i - 1, by omega⟩
    obtain ⟨k, rfl⟩ : ∃ k', k = k' + 1 := ⟨k - 1, by omega⟩
    have hω := W.2.1.2.2.1
    obtain ⟨z1, h1, e1, W1, E1, -⟩ := best_c hn W hs
    have bd := dO_bd (tal := tal) (md := md) hω hs
    rw [f_X1_drawingYear_10.eq_2, if_neg (show ¬ (13 : Int32) ≤ nI j from fun q => by have := (nI_leI (a := 13) (by omega) (by omega)).mp q; omega), e1, bS]
    dsimp only
    rw [dIn_ok hω hs, bS, show (SC ω tal md 14 s).2 = dO ω tal md s from rfl]
    unfold DY
    by_cases c1 : dO ω tal md s = -1
    · refine ⟨z1, h1, gd3_ok ?_ ⟨Nat.le_refl _, Nat.le_refl _⟩, W1, E1⟩
      rw [if_pos c1, c1, if_pos (show iI (-1) = -1 by decide)]
      rfl
    · rw [if_neg (show ¬ iI (dO ω tal md s) = -1 from fun q => by rw [iIm1, iI_eq (by omega) (by omega) (by omega) (by omega)] at q; exact c1 q), if_neg c1]
      by_cases c2 : dO ω tal md s = 9
      · refine ⟨z1, h1, gd3_ok ?_ ⟨Nat.le_refl _, Nat.le_refl _⟩, W1, E1⟩
        rw [if_pos c2, c2, if_pos (show iI 9 = 9 by decide), xy_ok hω hs, bS, nI_iI]
      · rcases dO_cs (tal := tal) (md := md) hω hs with ⟨q, -⟩ | ⟨-, -, q1, q2, -⟩
        · exact absurd q c1
        · obtain ⟨z2, h2, e2, W2, E2⟩ := ih (j + 1) k i (nxB ω tal md s) z1 h1 (by omega) (by omega) (by omega) (by omega) q1 W1
          refine ⟨z2, h2, gd3_ok ?_ E2.1.1, W2, E1.trans E2⟩
          rw [if_neg (show ¬ iI (dO ω tal md s) = 9 from fun q => by rw [show (9 : Int32) = iI 9 by decide, iI_eq (by omega) (by omega) (by omega) (by omega)] at q; exact c2 q), if_neg c2, caft_ok W1 hs c1, bS, bS, show nI j + 1 = nI (j + 1) from nI_add j 1]
          exact e2
theorem most_c (hn : 400000 ≤ n) {z : Sh} {h : Hp} (W : WayD z0 b c z h wt ω tal md st ts) {s : Nat} (hs : SV ω s) : ∃ z' h', f_X1_mostFrom n z h (b + 50) (nI (enc s)) = some (iI (bM ω tal md s), h', z') ∧ WayD z0 b c z' h' wt ω tal md st ts ∧ WE b st z h z' h' ∧ Stm (h'.J (b + 52)) st (enc s) := by
  have hω := W.2.1.2.2.1
  obtain ⟨z1, h1, e1, W1, E1, S1⟩ := best_c hn W hs
  have bd := SC_bd (tal := tal) (md := md) hω 14 s hs
  have h13 := rk_le hω s
  refine ⟨z1, h1, ?_, W1, E1, S1⟩
  unfold f_X1_mostFrom
  rw [if_pos (kx_50 W.1.1), e1, bS]
  refine gd3_ok ?_ E1.1.1
  dsimp only
  refine gd3_ok ?_ ⟨Nat.le_refl _, Nat.le_refl _⟩
  have e16 : iI (SC ω tal md 14 s).1 + 16 - 1 = nI ((SC ω tal md 14 s).1 + 15).toNat := by
    rw [nI_iI, show (16 : Int32) = iI 16 by decide, iI_add, show (1 : Int32) = iI 1 by decide, iI_sub]
    congr 1
    omega
  rw [sIn_ok hω hs, bS, e16, show (16 : Int32) = nI 16 from rfl, dvI_ok (by omega) (by omega) (by omega), bS, nI_iI]
  unfold bM lM
  congr 4
  omega
end
/-! the reference -/
def Cz (b : Nat) (h h' : Hp) : Prop := h'.2.2 = h.2.2 ∧ (∀ a, h'.J a = h.J a) ∧ (∀ a, a ≠ b + 72 → a ≠ b + 77 → a ≠ b + 78 → a ≠ b + 80 → a ≠ b + 81 → a ≠ b + 83 → h'.I a = h.I a) ∧ ∀ k, k ≠ 25 → k ≠ 26 → h'.I (b + 72) k = h.I (b + 72) k
theorem Cz.trans {b : Nat} {h h' h'' : Hp} (H : Cz b h h') (G : Cz b h' h'') : Cz b h h'' := ⟨G.1.trans H.1, fun a => (G.2.1 a).trans (H.2.1 a), fun a k0 k1 k2 k3 k4 k5 => (G.2.2.1 a k0 k1 k2 k3 k4 k5).trans (H.2.2.1 a k0 k1 k2 k3 k4 k5), fun k k1 k2 => (G.2.2.2 k k1 k2).trans (H.2.2.2 k k1 k2)⟩
theorem Lz.cz {b : Nat} {h h' : Hp} (L : Lz b h h') : Cz b h h' := ⟨L.1, L.2.1, fun a _ => L.2.2 a, fun k _ _ => by rw [L.2.2 (b + 72) (by omega) (by omega) (by omega) (by omega) (by omega)]⟩
theorem Cz.sc {b : Nat} {h h' : Hp} (L : Cz b h h') : Sc b h h' := Sc.mk' L.1 L.2.1 (fun a _ _ _ _ _ _ _ k0 k => L.2.2.1 a k0 (by omega) (by omega) (by omega) (by omega) (by omega)) (fun k hk => L.2.2.2 k (by omega) (by omega))
/-- only rows of scratch -/
def Tz (b : Nat) (h h' : Hp) : Prop := h'.2.2 = h.2.2 ∧ (∀ a, h'.J a = h.J a) ∧ ∀ a, a ≠ b + 77 → a ≠ b + 78 → h'.I a = h.I a
theorem Tz.refl (b : Nat) (h : Hp) : Tz b h h := ⟨rfl, fun _ => rfl, fun _ _ _ => rfl⟩
theorem Tz.trans {b : Nat} {h h' h'' : Hp} (H : Tz b h h') (G : Tz b h' h'') : Tz b h h'' := ⟨G.1.trans H.1, fun a => (G.2.1 a).trans (H.2.1 a), fun a k1 k2 => (G.2.2 a k1 k2).trans (H.2.2 a k1 k2)⟩
theorem Tz.two (b : Nat) (h : Hp) (f g : Nat → Int32) : Tz b h ((h.rowI (b + 78) f).rowI (b + 77) g) := ⟨rfl, fun _ => rfl, fun a k1 k2 => by rw [rowI_Ib, if_neg k1, rowI_Ib, if_neg k2]⟩
theorem Tz.lz {b : Nat} {h h' : Hp} (T : Tz b h h') : Lz b h h' := ⟨T.1, T.2.1, fun a k1 k2 _ _ _ => T.2.2 a k1 k2⟩
theorem KN.tz {b : Nat} {h h' : Hp} {τ : TT} {tal : Nat} {md : Bool} {R : Nat} (H : KN b h τ tal md R) (T : Tz b h h') : KN b h' τ tal md R := by
  unfold KN KV
  rw [T.2.2 (b + 80) (by omega) (by omega), T.2.2 (b + 81) (by omega) (by omega), T.2.2 (b + 83) (by omega) (by omega)]
  exact H
section
variable {n : Nat} {z : Sh} {b : Nat} {τ : TT} {P : Nat} {A : Nat → Int32} {tal : Nat} {md : Bool}
theorem bg_36 : ∀ (d j i : Nat) (h : Hp), j + d = 3430 → d < i → LayR z h.2.2 (b + 72) → (∀ k, k < j → h.I (b + 83) k = nI 0) → ∃ h', f_X12_begins_36 n z i h (b + 72) (nI j) = some h' ∧ h'.2.2 = h.2.2 ∧ (∀ a, h'.J a = h.J a) ∧ (∀ a, a ≠ b + 83 → h'.I a = h.I a) ∧ ∀ k, k < 3430 → h'.I (b + 83) k = nI 0 := by
  intro d
  induction d with
  | zero =>
    intro j i h hj hi HM hk
    obtain ⟨i, rfl⟩ : ∃ k, i = k + 1 := ⟨i - 1, by omega⟩
    obtain rfl : j = 3430 := by omega
    refine ⟨h, ?_, rfl, fun _ => rfl, fun _ _ => rfl, hk⟩
    rw [f_X12_begins_36.eq_2, if_pos (show (3430 : Int32) ≤ nI 3430 by decide)]
  | succ d ih =>
    intro j i h hj hi HM hk
    obtain ⟨i, rfl⟩ : ∃ k, i = k + 1 := ⟨i - 1, by omega⟩
    obtain ⟨h', f1, f2, f3, f4, f5⟩ := ih (j + 1) i (h.setI (b + 83) j (nI 0)) (by omega) (by omega) HM (fun k hk' => by
      rw [setI_I, if_pos rfl]
      by_cases e : k = j
      · exact if_pos e
      · exact (if_neg e).trans (hk k (by omega)))
    refine ⟨h', ?_, f2, f3, fun a ha => by rw [f4 a ha, setI_I, if_neg ha], f5⟩
    rw [f_X12_begins_36.eq_2, if_neg (show ¬ (3430 : Int32) ≤ nI j from fun q => by have := (nI_leI (a := 3430) (by omega) (by omega)).mp q; omega), gR_ok (km_0 HM) (rm_24 HM), bS, sm_11 HM (show j < 3430 by omega), bS, bS, show vp_nar .boolean (0 : Int32) = nI 0 by decide, show nI j + 1 = nI (j + 1) from nI_add j 1]
    exact f1
theorem bg_ok (hn : 400000 ≤ n) {h : Hp} (H : RefI b z h τ P A) {p : Nat} (hp : p < P) : ∃ h', f_X12_begins n z h (b + 72) (nI p) = some h' ∧ Cz b h h' ∧ BR b z h' τ P A (nv A (54 + p)) (decide (nv A (60 + p) = 0)) ∧ (∀ s, s < 3430 → h'.I (b + 83) s = nI 0) ∧ ∀ a, a ≠ b + 72 → a ≠ b + 83 → h'.I a = h.I a := by
  obtain ⟨HM, hτ, h3, h4, h5, h6, h7⟩ := id H
  obtain ⟨s0, s1, s2, s3, s4, s5, s6, e11, e12, e13, e14, e15, e16, e17, e18, e19, -⟩ := Per_st hτ (h7 p hp)
  generalize hg : (h.setI (b + 72) 25 (nI (nv A (54 + p)))).setI (b + 72) 26 (if decide (nv A (60 + p) = 0) = true then nI 1 else nI 0) = g
  have i72 : g.I (b + 72) = upd (upd (h.I (b + 72)) 25 (nI (nv A (54 + p)))) 26 (if decide (nv A (60 + p) = 0) = true then nI 1 else nI 0) := by rw [← hg, setI_I, if_pos rfl, setI_I, if_pos rfl]
  have ine : ∀ a, a ≠ b + 72 → g.I a = h.I a := fun a ha => by rw [← hg, setI_I, if_neg ha, setI_I, if_neg ha]
  have gR' : g.2.2 = h.2.2 := by rw [← hg]; rfl
  have gJ' : ∀ a, g.J a = h.J a := fun a => by rw [← hg]; rfl
  have HMg : LayR z g.2.2 (b + 72) := by rw [gR']; exact HM
  obtain ⟨h', f1, f2, f3, f4, f5⟩ := bg_36 (n := n) (z := z) (b := b) 3430 0 n g (by omega) (by omega) HMg (fun k hk => absurd hk (Nat.not_lt_zero k))
  have i72' : h'.I (b + 72) = g.I (b + 72) := f4 _ (by omega)
  refine ⟨h', ?_, ⟨f2.trans gR', fun a => (f3 a).trans (gJ' a), fun a k0 _ _ _ _ k5 => (f4 a k5).trans (ine a k0), fun k k1 k2 => ?_⟩, ⟨H.fr (f2.trans gR') ((f4 _ (by omega)).trans (ine _ (by omega))), ?_, ?_, e17⟩, f5, fun a k1 k2 => (f4 a k2).trans (ine a k1)⟩
  · unfold f_X12_begins
    rw [if_pos (km_0 HM), gR_ok (km_0 HM) (rm_1 HM), bS, show (54 : Int32) + nI p = nI (54 + p) from nI_add 54 p, lm_1 HM (by omega), bS, h3, e16, pI_ok (km_0 HM), bS, gR_ok (km_0 HM) (show (h.setI (b + 72) 25 (nI (nv A (54 + p)))).R (b + 72) 1 = some (b + 73) from rm_1 HM), bS, show (60 : Int32) + nI p = nI (60 + p) from nI_add 60 p, lm_1 HM (by omega), bS, show (h.setI (b + 72) 25 (nI (nv A (54 + p)))).I (b + 73) = A by rw [setI_I, if_neg (by omega)]; exact h3, e18]
    unfold f_X12_begins_31
    by_cases e0 : nv A (60 + p) = 0
    · rw [if_pos (show nI (nv A (60 + p)) = 0 by rw [e0]; rfl), pZ_ok (km_0 HM) (Or.inr rfl), bS]
      rw [if_pos (decide_eq_true e0)] at hg
      rw [show (1 : Int32) = nI 1 from rfl, hg]
      exact f1
    · rw [if_neg (show ¬ nI (nv A (60 + p)) = 0 from fun q => e0 ((nI_inj (j := 0) (by omega) (by omega)).mp q)), pZ_ok (km_0 HM) (Or.inl rfl), bS]
      rw [if_neg (show ¬ decide (nv A (60 + p) = 0) = true from fun q => e0 (of_decide_eq_true q))] at hg
      rw [show (h.setI (b + 72) 25 (nI (nv A (54 + p)))).setI (b + 72) 26 (0 : Int32) = g from hg]
      exact f1
  · rw [i72', i72]
    exact (if_neg k2).trans (if_neg k1)
  · rw [i72', i72]
    rfl
  · rw [i72', i72]
    rfl
theorem KN.none {h : Hp} (H : ∀ s, s < 3430 → h.I (b + 83) s = nI 0) (R : Nat) : KN b h τ tal md R := ⟨fun s hs => Or.inl (H s hs), fun s hs _ hk => by
  rw [H s hs.1] at hk
  exact absurd hk (by decide)⟩
/-- the next doing of a best course -/
theorem rn_13 (hn : 400000 ≤ n) {s : Nat} (hτ : TownOK τ) (hs : SV τ s) (hd : dO τ tal md s ≠ -1) : ∀ (d t i : Nat) (h : Hp), t + d = opn τ s → d < i → BR b z h τ P A tal md → KN b h τ tal md 14 → h.I (b + 83) s = nI 1 → (∀ t', t' < t → SG τ tal md s t' ≠ (SC τ tal md 14 s).1) → ∃ h', f_X12_nextBest_13 n z i h (b + 72) (nI s) (nI t) = some (iI (dO τ tal md s), h') ∧ Tz b h h' := by
  have hD := hτ.2.1
  have ho : opn τ s ≤ 4 := by unfold opn; split <;> omega
  have hs0 := hs.1
  have h13 := rk_le hτ s
  intro d
  induction d with
  | zero =>
    intro t i h hj hi B K hk hne
    obtain ⟨i, rfl⟩ : ∃ k, i = k + 1 := ⟨i - 1, by omega⟩
    obtain rfl : t = opn τ s := by omega
    have HM := B.1.1
    have e9 : dO τ tal md s = 9 := by
      rcases dO_cs (tal := tal) (md := md) hτ hs with ⟨q, -⟩ | ⟨-, -, -, -, ⟨t, ht, -, -, q, -⟩ | ⟨-, q, -⟩⟩
      · exact absurd q hd
      · exact absurd q (hne t ht)
      · exact q
    refine ⟨h, ?_, Tz.refl b h⟩
    rw [f_X12_nextBest_13.eq_2, gR_ok (km_0 HM) (rm_1 HM), bS, show (2 : Int32) = nI 2 from rfl, lm_1 HM (by omega), bS, B.1.2.2.1, B.1.2.2.2.1.2.1, e9]
    by_cases hy : sY s < tY τ
    · have e : opn τ s = tD τ := by unfold opn; rw [if_pos hy]
      rw [if_pos ((nI_leI (by omega) (by omega)).mpr (by omega))]
      rfl
    · have e : opn τ s = 0 := by unfold opn; rw [if_neg hy]
      rw [if_neg (fun q => by have := (nI_leI (by omega) (by omega)).mp q; omega), over_ok B.1 hs0, bS, if_neg hy, if_neg (show ¬ (1 : Int32) = 0 by decide)]
      rfl
  | succ d ih =>
    intro t i h hj hi B K hk hne
    obtain ⟨i, rfl⟩ : ∃ k, i = k + 1 := ⟨i - 1, by omega⟩
    have HM := B.1.1
    have hto : t < opn τ s := by omega
    obtain ⟨q1, q2⟩ := opn_lt hto
    have hlv := (lv_SV hτ hs q2 q1).1
    have hr1 := rk_lv hτ hs q2 q1
    have l0 := hlv.1
    obtain ⟨r1, r2, e2⟩ := mworth_ok (n := n) (z := z) (h := h) HM hn hτ (by rw [B.1.2.2.1]; exact B.1.2.2.2.1) B.2.2.2 hs0 (show t ≤ 9 by omega)
    have T := Tz.two b h r1 r2
    have B2 := B.lz T.lz
    have K2 := K.tz T
    have HM2 := B2.1.1
    have hk2 : ((h.rowI (b + 78) r1).rowI (b + 77) r2).I (b + 83) s = nI 1 := by rw [T.2.2 _ (by omega) (by omega)]; exact hk
    obtain ⟨v1, v2, -⟩ := K2.2 s hs (by omega) hk2
    obtain ⟨u1, -⟩ := K2.2 _ hlv (by omega) (v2 t hto)
    have bs := b_bd (tal := tal) (md := md) hτ hs
    have bl := b_bd (tal := tal) (md := md) hτ hlv
    have wb := wV_bd τ tal s t
    have sg : SG τ tal md s t = 16 * (wV τ tal s t + bM τ tal md (lvN s t)) - (bF τ tal md (lvN s t) + 1) := by unfold SG; omega
    rw [f_X12_nextBest_13.eq_2, gR_ok (km_0 HM) (rm_1 HM), bS, show (2 : Int32) = nI 2 from rfl, lm_1 HM (by omega), bS, B.1.2.2.1, B.1.2.2.2.1.2.1, if_neg (fun q => by have := (nI_leI (by omega) (by omega)).mp q; omega), over_ok B.1 hs0, bS, if_pos q1, if_pos rfl, lv_ok hs0 (by omega), bS, gI_ok (km_0 HM), bS, B.2.1, e2, bS]
    dsimp only
    rw [gR_ok (km_0 HM2) (rm_21 HM2), bS, lm_8 HM2 l0, bS, bS, lm_8 HM2 hs0, bS, u1.1, v1.1, iI_add, gR_ok (km_0 HM2) (rm_22 HM2), bS, lm_9 HM2 l0, bS, bS, lm_9 HM2 hs0, bS, u1.2, v1.2, show iI (bF τ tal md (lvN s t)) + 1 = iI (bF τ tal md (lvN s t) + 1) from iI_add _ 1]
    have no : SG τ tal md s t ≠ (SC τ tal md 14 s).1 → ∃ h', f_X12_nextBest_82 n z (f_X12_nextBest_13 n z i) ((h.rowI (b + 78) r1).rowI (b + 77) r2) (b + 72) (nI s) (nI t) = some (iI (dO τ tal md s), h') ∧ Tz b h h' := fun q => by
      obtain ⟨h', f1, f2⟩ := ih (t + 1) i _ (by omega) (by omega) B2 K2 hk2 (fun t' ht' => by
        by_cases e : t' = t
        · rw [e]; exact q
        · exact hne t' (by omega))
      refine ⟨h', ?_, T.trans f2⟩
      unfold f_X12_nextBest_82
      rw [bS, show nI t + 1 = nI (t + 1) from nI_add t 1]
      exact f1
    by_cases c1 : wV τ tal s t + bM τ tal md (lvN s t) = bM τ tal md s
    · rw [if_pos (by rw [c1])]
      by_cases c2 : bF τ tal md (lvN s t) + 1 = bF τ tal md s
      · rw [if_pos (by rw [c2])]
        have hq : SG τ tal md s t = (SC τ tal md 14 s).1 := by omega
        have et : dO τ tal md s = t := by
          rcases dO_cs (tal := tal) (md := md) hτ hs with ⟨q, -⟩ | ⟨-, -, -, -, ⟨t', ht', q3, -, q, q4⟩ | ⟨-, -, -, q⟩⟩
          · exact absurd q hd
          · rcases Nat.lt_trichotomy t t' with a | a | a
            · exact absurd hq (q4 t a)
            · rw [a]; exact q3
            · exact absurd q (hne t' a)
          · exact absurd hq (q t hto)
        exact ⟨_, by rw [et, nI_iI], T⟩
      · rw [if_neg (fun q => c2 ((iI_eq (by omega) (by omega) (by omega) (by omega)).mp q))]
        exact no (by omega)
    · rw [if_neg (fun q => c1 ((iI_eq (by omega) (by omega) (by omega) (by omega)).mp q))]
      exact no (by omega)
theorem rnx_ok (hn : 400000 ≤ n) {s : Nat} {h : Hp} (hs : SV τ s) (B : BR b z h τ P A tal md) (K : KN b h τ tal md 14) (hk : h.I (b + 83) s = nI 1) : ∃ h', f_X12_nextBest n z h (b + 72) (nI s) = some (iI (dO τ tal md s), h') ∧ Tz b h h' := by
  have hτ := B.1.2.1
  have HM := B.1.1
  have ho : opn τ s ≤ 4 := by have := hτ.2.1; unfold opn; split <;> omega
  have h13 := rk_le hτ s
  have bs := b_bd (tal := tal) (md := md) hτ hs
  obtain ⟨v1, -⟩ := K.2 s hs (by omega) hk
  unfold f_X12_nextBest
  rw [if_pos (km_0 HM), gR_ok (km_0 HM) (rm_22 HM), bS, lm_9 HM hs.1, bS, v1.2]
  rcases dO_cs (tal := tal) (md := md) hτ hs with ⟨q, q0⟩ | ⟨q, q0, -⟩
  · refine ⟨h, ?_, Tz.refl b h⟩
    rw [q0, if_pos (show iI 0 = 0 by decide), q]
    rfl
  · rw [if_neg (show ¬ iI (bF τ tal md s) = 0 from fun e => by rw [show (0 : Int32) = iI 0 by decide, iI_eq (by omega) (by omega) (by omega) (by omega)] at e; omega)]
    exact rn_13 hn hτ hs q (opn τ s) 0 n h (by omega) (by omega) B K hk (fun t' ht' => absurd ht' (Nat.not_lt_zero t'))
theorem rdone_ok (hn : 400000 ≤ n) {s : Nat} {h : Hp} (hs : SV τ s) (B : BR b z h τ P A tal md) (hd : dO τ tal md s ≠ -1) : ∃ h', f_X12_doneTo n z h (b + 72) (nI s) (iI (dO τ tal md s)) = some (nI (nxB τ tal md s), h') ∧ Tz b h h' := by
  have hτ := B.1.2.1
  have HM := B.1.1
  have ho : opn τ s ≤ 4 := by have := hτ.2.1; unfold opn; split <;> omega
  unfold f_X12_doneTo
  rw [if_pos (km_0 HM)]
  rcases dO_cs (tal := tal) (md := md) hτ hs with ⟨h, -⟩ | ⟨-, -, -, -, ⟨t, ht, e1, e2, -⟩ | ⟨hc, e1, e2, -⟩⟩
  · exact absurd h hd
  · refine ⟨h, ?_, Tz.refl b h⟩
    rw [e1, e2, if_neg (show ¬ iI (t : Int) = 9 from fun q => by rw [show (9 : Int32) = iI 9 by decide, iI_eq (by omega) (by omega) (by omega) (by omega)] at q; omega), ← nI_iI, lv_ok hs.1 (by omega), bS]
  · obtain ⟨r1, r2, e3⟩ := mdrawn_ok (n := n) (z := z) (h := h) HM hn hτ (by rw [B.1.2.2.1]; exact B.1.2.2.2.1) B.2.2.2 hs.1
    refine ⟨_, ?_, Tz.two b h r1 r2⟩
    rw [e1, e2, if_pos (show iI 9 = 9 by decide), gI_ok (km_0 HM), bS, B.2.1, e3, bS]
/-- a stand that comes behind a known one is known -/
theorem KN.nx {h : Hp} {s : Nat} (hτ : TownOK τ) (K : KN b h τ tal md 14) (hs : SV τ s) (hk : h.I (b + 83) s = nI 1) (hd : dO τ tal md s ≠ -1) : h.I (b + 83) (nxB τ tal md s) = nI 1 := by
  have h13 := rk_le hτ s
  obtain ⟨-, v2, v3⟩ := K.2 s hs (by omega) hk
  rcases dO_cs (tal := tal) (md := md) hτ hs with ⟨h, -⟩ | ⟨-, -, -, -, ⟨t, ht, e1, e2, -⟩ | ⟨hc, e1, e2, -⟩⟩
  · exact absurd h hd
  · rw [e2]; exact v2 t ht
  · rw [e2]; exact v3 hc
theorem rc_19 (hn : 400000 ≤ n) (hτ : TownOK τ) {v2 : Int32} : ∀ (r j k i s : Nat) (h : Hp), rk τ s ≤ r → r < i → v2.toInt = j + k → j + r ≤ 1000 → SV τ s → BR b z h τ P A tal md → KN b h τ tal md 14 → h.I (b + 83) s = nI 1 → ∃ h', f_X12_courseAt_19 n z i h (b + 72) v2 (nI s) (nI j) = some (iI (CO τ tal md k s), h') ∧ Tz b h h' := by
  intro r
  induction r with
  | zero =>
    intro j k i s h hr hi hv hjr hs B K hk
    obtain ⟨i, rfl⟩ : ∃ k, i = k + 1 := ⟨i - 1, by omega⟩
    have HM := B.1.1
    have e0 := dO_zero (tal := tal) (md := md) hτ hs (by omega)
    have h13 := rk_le hτ s
    obtain ⟨v1, -⟩ := K.2 s hs (by omega) hk
    obtain ⟨h', f1, f2⟩ := rnx_ok (n := n) hn hs B K hk
    have eq : f_X12_courseAt_51 n z h (b + 72) (nI s) = some (iI (CO τ tal md k s), h') := by
      unfold f_X12_courseAt_51
      rw [f1, bS]
      have : CO τ tal md k s = dO τ tal md s := by
        cases k with
        | zero => rfl
        | succ k => unfold CO; rw [if_pos e0, e0]
      rw [this]
    refine ⟨h', ?_, f2⟩
    rw [f_X12_courseAt_19.eq_2, gR_ok (km_0 HM) (rm_22 HM), bS, lm_9 HM hs.1, bS, v1.2]
    have b0 : bF τ tal md s = 0 := by
      rcases dO_cs (tal := tal) (md := md) hτ hs with ⟨-, q⟩ | ⟨q, -⟩
      · exact q
      · exact absurd e0 q
    split
    · exact eq
    · rw [b0, if_pos (show iI 0 ≤ 0 by decide)]
      exact eq
  | succ r ih =>
    intro j k i s h hr hi hv hjr hs B K hk
    obtain ⟨i, rfl⟩ : ∃ k, i = k + 1 := ⟨i - 1, by omega⟩
    have HM := B.1.1
    have h13 := rk_le hτ s
    obtain ⟨v1, -⟩ := K.2 s hs (by omega) hk
    obtain ⟨h1, f1, f2⟩ := rnx_ok (n := n) hn hs B K hk
    rw [f_X12_courseAt_19.eq_2, gR_ok (km_0 HM) (rm_22 HM), bS, lm_9 HM hs.1, bS, v1.2]
    by_cases c0 : k = 0
    · subst c0
      refine ⟨h1, ?_, f2⟩
      rw [if_pos (show v2 ≤ nI j by rw [Int32.le_iff_toInt_le, nI_to (by omega)]; omega)]
      unfold f_X12_courseAt_51
      rw [f1, bS]
      rfl
    · obtain ⟨k, rfl⟩ : ∃ k', k = k' + 1 := ⟨k - 1, by omega⟩
      rw [if_neg (show ¬ v2 ≤ nI j from fun q => by rw [Int32.le_iff_toInt_le, nI_to (by omega)] at q; omega)]
      unfold CO
      rcases dO_cs (tal := tal) (md := md) hτ hs with ⟨q, q0⟩ | ⟨q, q0, q1, q2, -⟩
      · refine ⟨h1, ?_, f2⟩
        rw [q0, if_pos (show iI 0 ≤ 0 by decide), if_pos q]
        unfold f_X12_courseAt_51
        rw [f1, bS, q]
      · have bs := b_bd (tal := tal) (md := md) hτ hs
        have B1 := B.lz f2.lz
        have K1 := K.tz f2
        obtain ⟨h2, f3, f4⟩ := rdone_ok (n := n) hn hs B1 q
        have B2 := B1.lz f4.lz
        have K2 := K1.tz f4
        have hk2 : h2.I (b + 83) s = nI 1 := by rw [f4.2.2 _ (by omega) (by omega), f2.2.2 _ (by omega) (by omega)]; exact hk
        obtain ⟨h3, f5, f6⟩ := ih (j + 1) k i (nxB τ tal md s) h2 (by omega) (by omega) (by omega) (by omega) q1 B2 K2 (K2.nx hτ hs hk2 q)
        refine ⟨h3, ?_, (f2.trans f4).trans f6⟩
        rw [if_neg (show ¬ iI (bF τ tal md s) ≤ 0 from fun e => by rw [show (0 : Int32) = iI 0 by decide, iI_le (by omega) (by omega) (by omega) (by omega)] at e; omega), f1, bS]
        dsimp only
        rw [f3, bS]
        dsimp only
        rw [bS, show nI j + 1 = nI (j + 1) from nI_add j 1, if_neg q]
        exact f5
theorem ry_33 (hn : 400000 ≤ n) (hτ : TownOK τ) : ∀ (r k i s : Nat) (h : Hp), rk τ s ≤ r → r < i → rk τ s < k → SV τ s → BR b z h τ P A tal md → KN b h τ tal md 14 → h.I (b + 83) s = nI 1 → ∃ h', f_X12_drawsAt_33 n z i h (b + 72) (nI s) = some (iI (DY τ tal md k s), h') ∧ Tz b h h' := by
  intro r
  induction r with
  | zero =>
    intro k i s h hr hi hv hs B K hk
    obtain ⟨i, rfl⟩ : ∃ k, i = k + 1 := ⟨i - 1, by omega⟩
    obtain ⟨k, rfl⟩ : ∃ k', k = k' + 1 := ⟨k - 1, by omega⟩
    have HM := B.1.1
    have e0 := dO_zero (tal := tal) (md := md) hτ hs (by omega)
    have h13 := rk_le hτ s
    obtain ⟨v1, -⟩ := K.2 s hs (by omega) hk
    have b0 : bF τ tal md s = 0 := by
      rcases dO_cs (tal := tal) (md := md) hτ hs with ⟨-, q⟩ | ⟨q, -⟩
      · exact q
      · exact absurd e0 q
    refine ⟨h, ?_, Tz.refl b h⟩
    unfold DY
    rw [f_X12_drawsAt_33.eq_2, gR_ok (km_0 HM) (rm_22 HM), bS, lm_9 HM hs.1, bS, v1.2, b0, if_pos (show iI 0 ≤ 0 by decide), if_pos e0]
    unfold f_X12_drawsAt_66
    rw [gR_ok (km_0 HM) (rm_22 HM), bS, lm_9 HM hs.1, bS, v1.2, b0, if_pos (show iI 0 ≤ 0 by decide)]
    rfl
  | succ r ih =>
    intro k i s h hr hi hv hs B K hk
    obtain ⟨i, rfl⟩ : ∃ k, i = k + 1 := ⟨i - 1, by omega⟩
    obtain ⟨k, rfl⟩ : ∃ k', k = k' + 1 := ⟨k - 1, by omega⟩
    have HM := B.1.1
    have h13 := rk_le hτ s
    obtain ⟨v1, -⟩ := K.2 s hs (by omega) hk
    have bs := b_bd (tal := tal) (md := md) hτ hs
    have bd := dO_bd (tal := tal) (md := md) hτ hs
    obtain ⟨h1, f1, f2⟩ := rnx_ok (n := n) hn hs B K hk
    unfold DY
    rw [f_X12_drawsAt_33.eq_2, gR_ok (km_0 HM) (rm_22 HM), bS, lm_9 HM hs.1, bS, v1.2]
    rcases dO_cs (tal := tal) (md := md) hτ hs with ⟨q, q0⟩ | ⟨q, q0, q1, q2, -⟩
    · refine ⟨h, ?_, Tz.refl b h⟩
      rw [q0, if_pos (show iI 0 ≤ 0 by decide), if_pos q]
      unfold f_X12_drawsAt_66
      rw [gR_ok (km_0 HM) (rm_22 HM), bS, lm_9 HM hs.1, bS, v1.2, q0, if_pos (show iI 0 ≤ 0 by decide)]
      rfl
    · have n0 : ¬ iI (bF τ tal md s) ≤ 0 := fun e => by rw [show (0 : Int32) = iI 0 by decide, iI_le (by omega) (by omega) (by omega) (by omega)] at e; omega
      have B1 := B.lz f2.lz
      have K1 := K.tz f2
      have hk1 : h1.I (b + 83) s = nI 1 := by rw [f2.2.2 _ (by omega) (by omega)]; exact hk
      rw [if_neg n0, if_neg q, f1, bS]
      dsimp only
      by_cases c9 : dO τ tal md s = 9
      · refine ⟨h1, ?_, f2⟩
        rw [if_pos c9, c9, if_pos (show iI 9 = 9 by decide)]
        unfold f_X12_drawsAt_66
        rw [gR_ok (km_0 B1.1.1) (rm_22 B1.1.1), bS, lm_9 B1.1.1 hs.1, bS, f2.2.2 (b + 81) (by omega) (by omega), v1.2, if_neg n0, y_ok hs.1, bS, nI_iI]
      · obtain ⟨h2, f3, f4⟩ := rnx_ok (n := n) hn hs B1 K1 hk1
        have B2 := B1.lz f4.lz
        have K2 := K1.tz f4
        have hk2 : h2.I (b + 83) s = nI 1 := by rw [f4.2.2 _ (by omega) (by omega)]; exact hk1
        obtain ⟨h3, f5, f6⟩ := rdone_ok (n := n) hn hs B2 q
        have B3 := B2.lz f6.lz
        have K3 := K2.tz f6
        have hk3 : h3.I (b + 83) s = nI 1 := by rw [f6.2.2 _ (by omega) (by omega)]; exact hk2
        obtain ⟨h4, f7, f8⟩ := ih k i (nxB τ tal md s) h3 (by omega) (by omega) (by omega) q1 B3 K3 (K3.nx hτ hs hk3 q)
        refine ⟨h4, ?_, ((f2.trans f4).trans f6).trans f8⟩
        rw [if_neg c9, if_neg (show ¬ iI (dO τ tal md s) = 9 from fun e => by rw [show (9 : Int32) = iI 9 by decide, iI_eq (by omega) (by omega) (by omega) (by omega)] at e; exact c9 e), f3, bS]
        dsimp only
        rw [f5, bS]
        exact f7
/-- the reference has laid its best courses -/
theorem rl_ok (hn : 400000 ≤ n) {h : Hp} (H : RefI b z h τ P A) {p : Nat} (hp : p < P) : ∃ h1 h2, f_X12_begins n z h (b + 72) (nI p) = some h1 ∧ f_X12_standNow z h1 (b + 72) (nI p) = some (nI (aS A p)) ∧ f_X12_laysBest n z h1 (b + 72) (nI (aS A p)) = some h2 ∧ Cz b h h2 ∧ BR b z h2 τ P A (nv A (54 + p)) (decide (nv A (60 + p) = 0)) ∧ KN b h2 τ (nv A (54 + p)) (decide (nv A (60 + p) = 0)) 14 ∧ h2.I (b + 83) (aS A p) = nI 1 ∧ SV τ (aS A p) := by
  have hτ := H.2.1
  obtain ⟨-, hs, -⟩ := Per_st hτ (H.2.2.2.2.2.2 p hp)
  have h13 := rk_le hτ (aS A p)
  obtain ⟨h1, e1, C1, B1, k1, -⟩ := bg_ok (n := n) hn H hp
  obtain ⟨h2, e2, L2, K2, U2, kk⟩ := rb_ok (n := n) (z := z) (b := b) (P := P) (A := A) hn hτ 20 (aS A p) hs (by omega) h1 B1 (KN.none (b := b) k1 _)
  refine ⟨h1, h2, e1, now_ok B1.1 hp, e2, C1.trans L2.cz, B1.lz L2, ?_, kk, hs⟩
  exact (KN.none (tal := nv A (54 + p)) (md := decide (nv A (60 + p) = 0)) (τ := τ) k1 14).low U2 K2
end
