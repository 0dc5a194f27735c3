/-! ===== hopes in the class ===== -/
section
variable {n : Nat} {z0 : Sh} {b c : Nat} {wt : Nat} {ω : TT} {tal : Nat} {md : Bool} {st ts : Nat}
theorem kmost_ok {z : Sh} {h : Hp} (W : WayD z0 b c z h wt ω tal md st ts) {s : Nat} (hs : SV ω s) (S : Stm (h.J (b + 52)) st (enc s)) : f_X1_knownMost z h (b + 50) (nI (enc s)) = some (iI (bM ω tal md s)) := by
  obtain ⟨⟨HX, HR, w3, w4, w5, w6, w7⟩, ⟨w8, w9, w10, w11⟩, ⟨w12, w13, w14, w15⟩, w16, ⟨⟨w17, w17'⟩, w18⟩, w19, w20⟩ := W
  obtain ⟨a1, a2, a3, a4⟩ := e_bd w10 hs
  have MXx : MX z h (b + 51) (b + 52) 1400 := ⟨kx_51 HX, rx_51_0 HX, kx_52 HX, nx_52 HX⟩
  obtain ⟨sc, v, c1, c2, c3, c4⟩ := w17 (enc s) a4
  obtain ⟨v0, v1, v2⟩ := S
  rw [c3] at v2
  obtain ⟨e1, e2⟩ := cel_inj (by omega) (by omega) c2 v1 v2
  have hv := c4 w3 e1 s hs rfl
  obtain ⟨u1, u2, u3, u4⟩ := scV_ok (tal := tal) (md := md) w10 hs
  have ev : v = scV ω tal md s := by omega
  have bd := SC_bd (tal := tal) (md := md) w10 14 s hs
  have h13 := rk_le w10 s
  unfold f_X1_knownMost
  rw [if_pos (kx_50 HX), gR_ok (kx_50 HX) (rx_50_1 HX), bS, gR_ok (kx_50 HX) (rx_50_0 HX), bS, gI_ok (kx_44 HX), bS, w15, find_ok MXx (by omega) a4 c1 (by omega) c2 c3, bS, if_pos e1, if_neg (show ¬ lg_cmp (lI (v : Int)) (-1) = 0 from fun q => by
    rw [cmp_eq, lI_to (by omega) (by omega), show (-1 : Int64).toInt = -1 from rfl] at q
    omega), ev, sIn_ok w10 hs, bS]
  have e16 : iI (SC ω tal md 14 s).1 + 16 - 1 = nI ((SC ω tal md 14 s).1 + 15).toNat := by
    rw [nI_iI, show (16 : Int32) = iI 16 by decide, iI_add, show (1 : Int32) = iI 1 by decide, iI_sub]
    congr 1
    omega
  rw [e16, show (16 : Int32) = nI 16 from rfl, dvI_ok (by omega) (by omega) (by omega), bS, nI_iI]
  unfold bM lM
  congr 2
  omega
def HOK (z0 : Sh) (b c wt : Nat) (ω : TT) (tal : Nat) (md : Bool) (st ts : Nat) (G : Sh → Hp → Option (Int64 × Hp × Sh)) (s : Nat) (v : Int) : Prop := ∀ z h, WayD z0 b c z h wt ω tal md st ts → TN b z h → Stm (h.J (b + 52)) st (enc s) → ∃ z' h', G z h = some (lI v, h', z') ∧ WayD z0 b c z' h' wt ω tal md st ts ∧ WE b st z h z' h' ∧ TN b z' h'
theorem ch_D {G1 : Sh → Hp → Nat → Int32 → Int32 → Option (Int64 × Hp × Sh)} {G2 G3 : Sh → Hp → Nat → Int32 → Int32 → Int32 → Option (Int64 × Hp × Sh)} (hω : TownOK ω) {s ten : Nat} {need : Int} (hs : SV ω s) (ht : md = true ∧ sL s = 1 → tn ω (drN ω tal s) ≤ ten) (h12 : ten ≤ 12) (hG : md = true ∧ sL s = 1 → HOK z0 b c wt ω tal md st ts (fun z h => G1 z h (b + 55) (nI (enc (drN ω tal s))) (iI need)) (drN ω tal s) (Hv ω tal md (drN ω tal s) need)) : HOK z0 b c wt ω tal md st ts (fun z h => F_X0_hopeByDrawing n G1 G2 G3 z h (b + 55) (nI (enc s)) (iI need) (nI ten)) s (hD ω tal md (Hv ω tal md) s need ten) := by
  intro z h W T S
  have HX := W.1.1
  dsimp only
  unfold F_X0_hopeByDrawing hD
  rw [if_pos (kx_55 HX), gR_ok (kx_55 HX) (rx_55_0 HX), bS, adr_ok HX hω hs W.2.2.1.2.2.1 W.2.2.2.1, bS]
  by_cases hc : md = true ∧ sL s = 1
  · have e1400 := (e_bd hω (dr_SV (tal := tal) hω hs).1).2.2.2
    have ne : ¬ nI (enc (drN ω tal s)) = -1 := by
      rw [← Int32.toInt_inj, nI_to (by omega), show (-1 : Int32).toInt = -1 from rfl]
      omega
    have S2 := (W.2.2.2.2.1.1.2 W.1.2.2.1 s hs S).2 hc
    obtain ⟨z1, h1, e1, W1, E1, T1⟩ := hG hc z h W T S2
    refine ⟨z1, h1, ?_, W1, E1, T1⟩
    have ht' := ht hc
    rw [if_pos hc, if_neg ne, if_pos hc, ckK_ok (kx_55 HX), bS]
    dsimp only at e1
    rw [e1, bS]
    refine gd3_ok ?_ E1.1.1
    dsimp only
    refine gd3_ok ?_ ⟨Nat.le_refl _, Nat.le_refl _⟩
    rw [tenA_ok W1 (dr_SV hω hs).1, bS, nI_sub ht', tens_ok T1 (by omega), bS, lI_mul]
  · refine ⟨z, h, ?_, W, WE.refl .., T⟩
    rw [if_neg hc, if_pos rfl, if_neg hc]
    exact gd3_ok rfl ⟨Nat.le_refl _, Nat.le_refl _⟩
theorem ch_Y (hn : 400000 ≤ n) {G1 : Sh → Hp → Nat → Int32 → Int32 → Option (Int64 × Hp × Sh)} {G2 G3 : Sh → Hp → Nat → Int32 → Int32 → Int32 → Option (Int64 × Hp × Sh)} (hω : TownOK ω) {s t : Nat} {need : Int} (hs : SV ω s) (ht : t < opn ω s) (hG : HOK z0 b c wt ω tal md st ts (fun z h => G1 z h (b + 55) (nI (enc (lvN s t))) (iI (need - wV ω tal s t))) (lvN s t) (Hv ω tal md (lvN s t) (need - wV ω tal s t))) (hG3 : HOK z0 b c wt ω tal md st ts (fun z h => G3 z h (b + 55) (nI (enc s)) (iI need) (nI (tn ω s - 1))) s (hD ω tal md (Hv ω tal md) s need (tn ω s - 1))) : HOK z0 b c wt ω tal md st ts (fun z h => F_X0_hopeByYear n G1 G2 G3 z h (b + 55) (nI (enc s)) (iI need) (nI t)) s (hY ω tal md (Hv ω tal md) s need t) := by
  intro z h W T S
  have HX := W.1.1
  obtain ⟨q1, q2⟩ := opn_lt ht
  have etn := tn_lv hω hs ht
  have h12 := tn_le hω s
  have hx := hω.2.2.1
  have wb := wV_bd ω tal s t
  obtain ⟨z1, h1, e1, W1, E1⟩ := cw_ok (n := n) hn W hs q2
  have T1 := T.ex W.1.2.1.1 E1.1
  have S1 := E1.2.1 _ S
  have S1' := (W1.2.2.2.2.1.1.2 W1.1.2.2.1 s hs S1).1 t ht
  obtain ⟨z2, h2, e2, W2, E2, T2⟩ := hG z1 h1 W1 T1 S1'
  obtain ⟨z3, h3, e3, W3, E3, T3⟩ := hG3 z2 h2 W2 T2 (E2.2.1 _ S1)
  have HX1 := W1.1.1
  have HX2 := W2.1.1
  refine ⟨z3, h3, ?_, W3, (E1.trans E2).trans E3, T3⟩
  dsimp only at e2 e3 ⊢
  unfold F_X0_hopeByYear
  rw [if_pos (kx_55 HX)]
  refine gd3_ok ?_ ((E1.trans E2).trans E3).1.1
  rw [gR_ok (kx_55 HX) (rx_55_0 HX), bS, gR_ok (kx_44 HX) W.2.1.1, bS, gI_ok W.2.1.2.1.2.1, bS, W.2.1.2.1.2.2.2.2.1, bS, xlv_ok hω (kx_44 HX) hs q2 q1, bS, bS, e1, bS]
  dsimp only
  refine gd3_ok ?_ (E2.trans E3).1.1
  rw [ckK_ok (kx_55 HX1), bS, iI_sub, e2, bS]
  dsimp only
  refine gd3_ok ?_ E3.1.1
  rw [tenA_ok W2 hs, bS, ckK_ok (kx_55 HX2), bS, show nI (tn ω s) - 1 = nI (tn ω s - 1) from nI_sub (b := 1) (by omega), e3, bS]
  dsimp only
  refine gd3_ok ?_ ⟨Nat.le_refl _, Nat.le_refl _⟩
  rw [show (10 : Int32) = nI 10 from rfl, nI_sub (show tX ω ≤ 10 by omega), nI_iI (10 - tX ω), iI_64 (by omega) (by omega), lI_mul, nI_iI (tX ω), iI_64 (by omega) (by omega), lI_mul, lI_add]
  unfold hY
  rw [show ((10 - tX ω : Nat) : Int) = 10 - (tX ω : Int) by omega]
theorem MX_h {z : Sh} {h : Hp} (W : WayD z0 b c z h wt ω tal md st ts) {mo : Nat} (hm : h.R (b + 55) 4 = some mo) : MX z h mo (mo + 1) 16506 := by
  obtain ⟨m1, m2, m3, m4, m5, m6, m7, m8⟩ := W.2.2.2.2.2.2 mo hm
  exact ⟨m3, m4, m5, by rw [m6, hpA_1400]⟩
theorem ch_110 {G1 : Sh → Hp → Nat → Int32 → Int32 → Option (Int64 × Hp × Sh)} {G2 G3 : Sh → Hp → Nat → Int32 → Int32 → Int32 → Option (Int64 × Hp × Sh)} (hω : TownOK ω) {s need mo : Nat} (hs : SV ω s) (h1 : 1 ≤ need) (h2 : need ≤ hpS (enc s)) (hG2 : ∀ t, t < opn ω s → HOK z0 b c wt ω tal md st ts (fun z h => G2 z h (b + 55) (nI (enc s)) (iI need) (nI t)) s (hY ω tal md (Hv ω tal md) s need t)) : ∀ (d t i : Nat) (z : Sh) (h : Hp), t + d = opn ω s → d < i → WayD z0 b c z h wt ω tal md st ts → TN b z h → Stm (h.J (b + 52)) st (enc s) → h.R (b + 55) 4 = some mo → ∃ z' h', f_X0_hopeFrom_110 n G1 G2 G3 i z h (b + 55) (nI (enc s)) (iI need) mo (nI (hpA (enc s) + need - 1)) (lI (mxT (fun t => hY ω tal md (Hv ω tal md) s need t) (hD ω tal md (Hv ω tal md) s need (tn ω s)) t)) (nI (opn ω s)) (nI t) = some (lI (Hv ω tal md s need), h', z') ∧ WayD z0 b c z' h' wt ω tal md st ts ∧ WE b st z h z' h' ∧ TN b z' h' := by
  have o4 := opn4 hω s
  have h12 := tn_le hω s
  obtain ⟨a1, a2, a3, a4⟩ := e_bd hω hs
  have p := E_pos (tn ω s)
  have p12 := E_12 h12
  have db := hD_b (tal := tal) (md := md) (ten := tn ω s) hω hs (fun q => (tn_dr hω hs q.2).2.1) need
  have hp1 := hpA_le (show enc s + 1 ≤ 1400 by omega)
  have hp2 : hpA (enc s + 1) = hpA (enc s) + hpS (enc s) := rfl
  rw [hpA_1400] at hp1
  intro d
  induction d with
  | zero =>
    intro t i z h hj hi W T S hm
    obtain ⟨i, rfl⟩ : ∃ k, i = k + 1 := ⟨i - 1, by omega⟩
    obtain rfl : t = opn ω s := by omega
    have HX := W.1.1
    have eq : mxT (fun t => hY ω tal md (Hv ω tal md) s need t) (hD ω tal md (Hv ω tal md) s need (tn ω s)) (opn ω s) = Hv ω tal md s need := by rw [Hv_eq hω hs need, if_neg (by omega)]
    have mb := Hv_bd (tal := tal) (md := md) hω hs need
    obtain ⟨v, hv⟩ : ∃ v : Nat, (v : Int) = Hv ω tal md s need := ⟨(Hv ω tal md s need).toNat, by omega⟩
    obtain ⟨W1, E1⟩ := W.setH hm hs h1 h2 hv (by omega)
    refine ⟨z, _, ?_, W1, E1, T.ex W.1.2.1.1 E1.1⟩
    rw [f_X0_hopeFrom_110.eq_2, if_pos ((nI_leI (by omega) (by omega)).mpr (Nat.le_refl _)), gR_ok (kx_55 HX) (rx_55_0 HX), bS, gI_ok (kx_44 HX), bS, W.2.2.1.2.2.2, eq, ← hv, mkeep_ok (MX_h W hm) (by omega) (by omega) (by have := W.1.2.2.2.1; have := W.1.2.2.2.2.2.2; omega) (by omega), bS]
  | succ d ih =>
    intro t i z h hj hi W T S hm
    obtain ⟨i, rfl⟩ : ∃ k, i = k + 1 := ⟨i - 1, by omega⟩
    have HX := W.1.1
    have hto : t < opn ω s := by omega
    have yb := hY_b (tal := tal) (md := md) hω hs hto need
    have xb := mxT_bd (g := fun t => hY ω tal md (Hv ω tal md) s need t) (v := hD ω tal md (Hv ω tal md) s need (tn ω s)) (B := 10 ^ (tn ω s)) db.2 t (fun t' ht' => (hY_b hω hs (by omega) need).2)
    obtain ⟨z1, h1', e1, W1, E1, T1⟩ := hG2 t hto z h W T S
    obtain ⟨z2, h2', e2, W2, E2, T2⟩ := ih (t + 1) i z1 h1' (by omega) (by omega) W1 T1 (E1.2.1 _ S) (E1.2.2.2.2.2 mo hm)
    refine ⟨z2, h2', ?_, W2, E1.trans E2, T2⟩
    dsimp only at e1
    rw [f_X0_hopeFrom_110.eq_2, if_neg (fun q => by have := (nI_leI (by omega) (by omega)).mp q; omega), ckK_ok (kx_55 HX), bS, e1, bS]
    dsimp only
    refine gd3_ok ?_ E2.1.1
    rw [max64 (by omega) (by omega) (by omega) (by omega), bS, bS, show nI t + 1 = nI (t + 1) from nI_add t 1]
    unfold mxT at e2
    exact e2
theorem ch_F {G1 : Sh → Hp → Nat → Int32 → Int32 → Option (Int64 × Hp × Sh)} {G2 G3 : Sh → Hp → Nat → Int32 → Int32 → Int32 → Option (Int64 × Hp × Sh)} (hn : 400000 ≤ n) (hω : TownOK ω) {s : Nat} {need : Int} (hs : SV ω s) (hnb : -1000 ≤ need ∧ need ≤ 1000) (hG2 : ∀ t, t < opn ω s → HOK z0 b c wt ω tal md st ts (fun z h => G2 z h (b + 55) (nI (enc s)) (iI need) (nI t)) s (hY ω tal md (Hv ω tal md) s need t)) (hG3 : HOK z0 b c wt ω tal md st ts (fun z h => G3 z h (b + 55) (nI (enc s)) (iI need) (nI (tn ω s))) s (hD ω tal md (Hv ω tal md) s need (tn ω s))) : HOK z0 b c wt ω tal md st ts (fun z h => F_X0_hopeFrom n G1 G2 G3 z h (b + 55) (nI (enc s)) (iI need)) s (Hv ω tal md s need) := by
  intro z h W T S
  have HX := W.1.1
  obtain ⟨a1, a2, a3, a4⟩ := e_bd hω hs
  have o4 := opn4 hω s
  have h12 := tn_le hω s
  have bb := b_bd (tal := tal) (md := md) hω hs
  have bh := bM_hp (tal := tal) (md := md) hω hs
  have hp1 := hpA_le (show enc s + 1 ≤ 1400 by omega)
  have hp2 : hpA (enc s + 1) = hpA (enc s) + hpS (enc s) := rfl
  rw [hpA_1400] at hp1
  dsimp only
  unfold F_X0_hopeFrom
  rw [if_pos (kx_55 HX)]
  by_cases c0 : 0 < need
  · rw [if_pos (show (0 : Int32) < iI need by rw [show (0 : Int32) = iI 0 by decide, iI_lt (by omega) (by omega) (by omega) (by omega)]; exact c0), gR_ok (kx_55 HX) (rx_55_1 HX), bS, kmost_ok W hs S, bS]
    by_cases c1 : bM ω tal md s < need
    · refine ⟨z, h, gd3_ok ?_ ⟨Nat.le_refl _, Nat.le_refl _⟩, W, WE.refl .., T⟩
      rw [if_pos ((iI_lt (by omega) (by omega) (by omega) (by omega)).mpr c1), Hv_most hω hs c1]
      rfl
    · obtain ⟨m, rfl⟩ : ∃ m : Nat, need = m := ⟨need.toNat, by omega⟩
      obtain ⟨mo, z1, h1, e1, W1, E1, R1⟩ := kh_ok (n := n) hn W
      have T1 := T.ex W.1.2.1.1 E1.1
      have S1 := E1.2.1 _ S
      have HX1 := W1.1.1
      obtain ⟨m1, m2, m3, m4, m5, m6, m7, m8⟩ := W1.2.2.2.2.2.2 mo R1
      have c600 := W1.1.2.2.2.2.2.2
      have stc := W1.1.2.2.2.1
      obtain ⟨sc, v, c1', c2, c3, c4⟩ := m8 (hpA (enc s) + m - 1) (by rw [hpA_1400]; omega)
      have ix : nI (hpA (enc s)) + iI (m : Int) - 1 = nI (hpA (enc s) + m - 1) := by
        rw [← nI_iI m, nI_add]
        exact nI_sub (b := 1) (by omega)
      rw [if_neg (fun q => by rw [iI_lt (by omega) (by omega) (by omega) (by omega)] at q; omega), if_neg (show ¬ nI (enc s) < 0 from fun q => by have := (nI_lt2 (j := 0) (by omega) (by omega)).mp q; omega), gR_ok (kx_55 HX) (rx_55_3 HX), bS, aL_ok (kx_58 HX) rfl (nx_58 HX), bS, if_pos ((nI_lt2 (by omega) (by omega)).mpr a4), e1, bS]
      dsimp only
      rw [gR_ok (kx_55 HX1) (rx_55_3 HX1), bS, lx_58 HX1 a4, bS, m7 _ a4, bS, ix, gR_ok (kx_55 HX1) (rx_55_0 HX1), bS, gI_ok (kx_44 HX1), bS, W1.2.2.1.2.2.2, find_ok (MX_h W1 R1) (by omega) (by omega) c1' (by omega) c2 c3, bS]
      by_cases hst : sc = st
      · have hv : (v : Int) = Hv ω tal md s m := c4 W1.1.2.2.1 hst s m hs (by omega) (by omega) (by omega)
        refine ⟨z1, h1, gd3_ok (gd3_ok ?_ ⟨Nat.le_refl _, Nat.le_refl _⟩) E1.1.1, W1, E1, T1⟩
        rw [if_pos hst, if_neg (show ¬ lg_cmp (lI (v : Int)) (-1) = 0 from fun q => by
          rw [cmp_eq, lI_to (by omega) (by omega), show (-1 : Int64).toInt = -1 from rfl] at q
          omega), hv]
      · obtain ⟨z2, h2, e2, W2, E2, T2⟩ := hG3 z1 h1 W1 T1 S1
        obtain ⟨z3, h3, e3, W3, E3, T3⟩ := ch_110 (n := n) (G1 := G1) (G2 := G2) (G3 := G3) (mo := mo) hω hs (show 1 ≤ m by omega) (by omega) hG2 (opn ω s) 0 n z2 h2 (by omega) (by omega) W2 T2 (E2.2.1 _ S1) (E2.2.2.2.2.2 mo R1)
        refine ⟨z3, h3, gd3_ok (gd3_ok ?_ (E2.trans E3).1.1) ((E1.trans E2).trans E3).1.1, W3, (E1.trans E2).trans E3, T3⟩
        dsimp only at e2
        rw [if_neg hst, if_pos (show lg_cmp (-1 : Int64) (-1) = 0 by decide), tenA_ok W1 hs, bS, ckK_ok (kx_55 HX1), bS, e2, bS]
        dsimp only
        refine gd3_ok ?_ E3.1.1
        rw [gR_ok (kx_55 W2.1.1) (rx_55_0 W2.1.1), bS, opn_ok (kx_44 W2.1.1) hω W2.2.1.1 W2.2.1.2.1 hs, bS]
        exact e3
  · refine ⟨z, h, gd3_ok ?_ ⟨Nat.le_refl _, Nat.le_refl _⟩, W, WE.refl .., T⟩
    rw [if_neg (show ¬ (0 : Int32) < iI need from fun q => by rw [show (0 : Int32) = iI 0 by decide, iI_lt (by omega) (by omega) (by omega) (by omega)] at q; exact c0 q), tenA_ok W hs, bS, tens_ok T h12, bS, Hv_eq hω hs, if_pos (by omega)]
theorem ch_all (hn : 400000 ≤ n) (hω : TownOK ω) : ∀ k, (∀ s need, SV ω s → -1000 + 9 * (rk ω s : Int) ≤ need → need ≤ 1000 - 9 * (rk ω s : Int) → 3 * rk ω s + 3 ≤ k → HOK z0 b c wt ω tal md st ts (fun z h => (rc_X0_hopeFrom n k).1 z h (b + 55) (nI (enc s)) (iI need)) s (Hv ω tal md s need)) ∧ (∀ s t need, SV ω s → t < opn ω s → -1000 + 9 * (rk ω s : Int) ≤ need → need ≤ 1000 - 9 * (rk ω s : Int) → 3 * rk ω s + 2 ≤ k → HOK z0 b c wt ω tal md st ts (fun z h => (rc_X0_hopeFrom n k).2.1 z h (b + 55) (nI (enc s)) (iI need) (nI t)) s (hY ω tal md (Hv ω tal md) s need t)) ∧ ∀ s ten need, SV ω s → (md = true ∧ sL s = 1 → tn ω (drN ω tal s) ≤ ten) → ten ≤ 12 → -1000 + 9 * (rk ω s : Int) ≤ need → need ≤ 1000 - 9 * (rk ω s : Int) → 3 * rk ω s + 1 ≤ k → HOK z0 b c wt ω tal md st ts (fun z h => (rc_X0_hopeFrom n k).2.2 z h (b + 55) (nI (enc s)) (iI need) (nI ten)) s (hD ω tal md (Hv ω tal md) s need ten) := by
  intro k
  induction k with
  | zero => exact ⟨fun _ _ _ _ _ h => by omega, fun _ _ _ _ _ _ _ h => by omega, fun _ _ _ _ _ _ _ _ h => by omega⟩
  | succ k ih =>
    obtain ⟨i1, i2, i3⟩ := ih
    refine ⟨fun s need hs n1 n2 hk => ?_, fun s t need hs ht n1 n2 hk => ?_, fun s ten need hs ht h12 n1 n2 hk => ?_⟩
    · exact ch_F (n := n) (G1 := (rc_X0_hopeFrom n k).1) (G2 := (rc_X0_hopeFrom n k).2.1) (G3 := (rc_X0_hopeFrom n k).2.2) hn hω hs (by omega) (fun t ht => i2 s t _ hs ht n1 n2 (by omega)) (i3 s _ _ hs (fun q => (tn_dr hω hs q.2).2.1) (tn_le hω s) n1 n2 (by omega))
    · obtain ⟨q1, q2⟩ := opn_lt ht
      have r1 := rk_lv hω hs q2 q1
      have h12 := tn_le hω s
      have wb := wV_bd ω tal s t
      exact ch_Y (n := n) (G1 := (rc_X0_hopeFrom n k).1) (G2 := (rc_X0_hopeFrom n k).2.1) (G3 := (rc_X0_hopeFrom n k).2.2) hn hω hs ht (i1 _ _ (lv_SV hω hs q2 q1).1 (by omega) (by omega) (by omega)) (i3 s _ _ hs (fun q => (tn_dr hω hs q.2).2.2 (by omega)) (by omega) n1 n2 (by omega))
    · exact ch_D (n := n) (G1 := (rc_X0_hopeFrom n k).1) (G2 := (rc_X0_hopeFrom n k).2.1) (G3 := (rc_X0_hopeFrom n k).2.2) hω hs ht h12 (fun q => by
        have := rk_dr (tal := tal) hω hs q.2
        exact i1 _ _ (dr_SV hω hs).1 (by omega) (by omega) (by omega))
theorem hnow_ok (hn : 400000 ≤ n) {z : Sh} {h : Hp} (W : WayD z0 b c z h wt ω tal md st ts) (T : TN b z h) {s : Nat} {need : Int} (hs : SV ω s) (hnb : 0 ≤ need ∧ need ≤ 60) (es : h.I (b + 44) 8 = nI (enc s)) : ∃ z' h', f_X0_hopeNow n z h (b + 55) (iI need) = some (lI (Hv ω tal md s need), h', z') ∧ WayD z0 b c z' h' wt ω tal md st ts ∧ WE b st z h z' h' ∧ TN b z' h' ∧ Stm (h'.J (b + 52)) st (enc s) := by
  have HX := W.1.1
  have hω := W.2.1.2.2.1
  have h13 := rk_le hω s
  obtain ⟨z1, h1, e1, W1, E1, S1⟩ := best_c hn W hs
  have T1 := T.ex W.1.2.1.1 E1.1
  obtain ⟨z2, h2, e2, W2, E2, T2⟩ := (ch_all (n := n) (z0 := z0) (b := b) (c := c) (wt := wt) (tal := tal) (md := md) (st := st) (ts := ts) hn hω 60).1 s need hs (by omega) (by omega) (by omega) z1 h1 W1 T1 S1
  have e2' : f_X0_hopeFrom n z1 h1 (b + 55) (nI (enc s)) (iI need) = some (lI (Hv ω tal md s need), h2, z2) := e2
  have es1 : h1.I (b + 44) 8 = nI (enc s) := by rw [E1.2.2.1]; exact es
  refine ⟨z2, h2, ?_, W2, E1.trans E2, T2, E2.2.1 _ S1⟩
  unfold f_X0_hopeNow
  rw [if_pos (kx_55 HX)]
  refine gd3_ok ?_ (E1.trans E2).1.1
  rw [gR_ok (kx_55 HX) (rx_55_1 HX), bS, gR_ok (kx_55 HX) (rx_55_0 HX), bS, gI_ok (kx_44 HX), bS, es, e1, bS]
  dsimp only
  refine gd3_ok ?_ E2.1.1
  rw [gR_ok (kx_55 W1.1.1) (rx_55_0 W1.1.1), bS, gI_ok (kx_44 W1.1.1), bS, es1, e2', bS]
  exact gd3_ok rfl ⟨Nat.le_refl _, Nat.le_refl _⟩
theorem hd_39 (hn : 400000 ≤ n) (hω : TownOK ω) {s : Nat} {need : Int} (hs : SV ω s) (hnb : 0 ≤ need ∧ need ≤ 60) : ∀ (d t i : Nat) (z : Sh) (h : Hp), t + d = opn ω s → d < i → WayD z0 b c z h wt ω tal md st ts → TN b z h → Stm (h.J (b + 52)) st (enc s) → ∃ z' h', f_X0_hopeDoing_39 n i z h (b + 55) (iI need) (nI (enc s)) (lI (Hv ω tal md s need)) (nI (opn ω s)) (nI t) = some (iI (sch (fun t => hY ω tal md (Hv ω tal md) s need t) (Hv ω tal md s need) d t), h', z') ∧ WayD z0 b c z' h' wt ω tal md st ts ∧ WE b st z h z' h' := by
  have o4 := opn4 hω s
  have mb := Hv_bd (tal := tal) (md := md) hω hs need
  have p12 := E_12 (tn_le hω s)
  have h13 := rk_le hω s
  intro d
  induction d with
  | zero =>
    intro t i z h hj hi W T S
    obtain ⟨i, rfl⟩ : ∃ k, i = k + 1 := ⟨i - 1, by omega⟩
    refine ⟨z, h, ?_, W, WE.refl ..⟩
    rw [f_X0_hopeDoing_39.eq_2, if_pos ((nI_leI (by omega) (by omega)).mpr (by omega))]
    rfl
  | succ d ih =>
    intro t i z h hj hi W T S
    obtain ⟨i, rfl⟩ : ∃ k, i = k + 1 := ⟨i - 1, by omega⟩
    have hto : t < opn ω s := by omega
    have yb := hY_b (tal := tal) (md := md) hω hs hto need
    obtain ⟨z1, h1, e1, W1, E1, T1⟩ := (ch_all (n := n) (z0 := z0) (b := b) (c := c) (wt := wt) (tal := tal) (md := md) (st := st) (ts := ts) hn hω 60).2.1 s t need hs hto (by omega) (by omega) (by omega) z h W T S
    have e1' : f_X0_hopeByYear n z h (b + 55) (nI (enc s)) (iI need) (nI t) = some (lI (hY ω tal md (Hv ω tal md) s need t), h1, z1) := e1
    rw [f_X0_hopeDoing_39.eq_2, if_neg (fun q => by have := (nI_leI (by omega) (by omega)).mp q; omega), e1', bS]
    dsimp only
    have cmp : lg_cmp (lI (hY ω tal md (Hv ω tal md) s need t)) (lI (Hv ω tal md s need)) = 0 ↔ hY ω tal md (Hv ω tal md) s need t = Hv ω tal md s need := by rw [cmp_eq, lI_to (by omega) (by omega), lI_to (by omega) (by omega)]
    unfold sch
    by_cases cq : hY ω tal md (Hv ω tal md) s need t = Hv ω tal md s need
    · refine ⟨z1, h1, gd3_ok ?_ ⟨Nat.le_refl _, Nat.le_refl _⟩, W1, E1⟩
      rw [if_pos (cmp.mpr cq), if_pos cq, nI_iI]
    · obtain ⟨z2, h2, e2, W2, E2⟩ := ih (t + 1) i z1 h1 (by omega) (by omega) W1 T1 (E1.2.1 _ S)
      refine ⟨z2, h2, gd3_ok ?_ E2.1.1, W2, E1.trans E2⟩
      rw [if_neg (fun q => cq (cmp.mp q)), if_neg cq, bS, show nI t + 1 = nI (t + 1) from nI_add t 1]
      exact e2
theorem hdo_ok (hn : 400000 ≤ n) {z : Sh} {h : Hp} (W : WayD z0 b c z h wt ω tal md st ts) (T : TN b z h) {s : Nat} {need : Int} (hs : SV ω s) (hnb : 0 ≤ need ∧ need ≤ 60) (es : h.I (b + 44) 8 = nI (enc s)) : ∃ z' h', f_X0_hopeDoing n z h (b + 55) (iI need) = some (iI (if need ≤ 0 ∨ Hv ω tal md s need = 0 then -1 else sch (fun t => hY ω tal md (Hv ω tal md) s need t) (Hv ω tal md s need) (opn ω s) 0), h', z') ∧ WayD z0 b c z' h' wt ω tal md st ts ∧ WE b st z h z' h' := by
  have HX := W.1.1
  have hω := W.2.1.2.2.1
  have o4 := opn4 hω s
  have mb := Hv_bd (tal := tal) (md := md) hω hs need
  have p12 := E_12 (tn_le hω s)
  obtain ⟨z1, h1, e1, W1, E1, T1, S1⟩ := hnow_ok (n := n) hn W T hs hnb es
  have cmp : lg_cmp (lI (Hv ω tal md s need)) 0 = 0 ↔ Hv ω tal md s need = 0 := by rw [cmp_eq, lI_to (by omega) (by omega), show (0 : Int64).toInt = 0 from rfl]
  unfold f_X0_hopeDoing
  rw [if_pos (kx_55 HX), gR_ok (kx_55 HX) (rx_55_0 HX), bS, gI_ok (kx_44 HX), bS, es, e1, bS]
  dsimp only
  by_cases cn : need ≤ 0
  · refine ⟨z1, h1, gd3_ok (gd3_ok ?_ ⟨Nat.le_refl _, Nat.le_refl _⟩) E1.1.1, W1, E1⟩
    rw [if_pos (show iI need ≤ 0 by rw [show (0 : Int32) = iI 0 by decide, iI_le (by omega) (by omega) (by omega) (by omega)]; exact cn), if_pos (Or.inl cn)]
    rfl
  · rw [if_neg (show ¬ iI need ≤ 0 from fun q => by rw [show (0 : Int32) = iI 0 by decide, iI_le (by omega) (by omega) (by omega) (by omega)] at q; exact cn q)]
    by_cases c0 : Hv ω tal md s need = 0
    · refine ⟨z1, h1, gd3_ok (gd3_ok ?_ ⟨Nat.le_refl _, Nat.le_refl _⟩) E1.1.1, W1, E1⟩
      rw [if_pos (cmp.mpr c0), if_pos (Or.inr c0)]
      rfl
    · obtain ⟨z2, h2, e2, W2, E2⟩ := hd_39 (n := n) hn hω hs hnb (opn ω s) 0 n z1 h1 (by omega) (by omega) W1 T1 S1
      refine ⟨z2, h2, gd3_ok (gd3_ok ?_ E2.1.1) (E1.trans E2).1.1, W2, E1.trans E2⟩
      rw [if_neg (fun q => c0 (cmp.mp q)), if_neg (fun q => by rcases q with q | q; exact cn q; exact c0 q), gR_ok (kx_55 W1.1.1) (rx_55_0 W1.1.1), bS, opn_ok (kx_44 W1.1.1) hω W1.2.1.1 W1.2.1.2.1 hs, bS]
      exact e2
end
