/-! ===== mean, choice, drawing ===== -/
theorem Inv.tn {z0 : Sh} {h0 : Hp} {b c : Nat} {z : Sh} {h : Hp} (I : Inv z0 h0 b c z h) (T : TN b z0 h0) : TN b z h := by
  obtain ⟨t1, t2, t3, t4⟩ := T
  obtain ⟨i1, i2⟩ := I.1
  obtain ⟨b1, b2, b3, b4, b5⟩ := i1 _ t1
  unfold TN
  rw [i2, b1, b2, b4]
  exact ⟨t1, t2, t3, t4⟩
theorem E_nat (k : Nat) : (10 : Int) ^ k = ((10 ^ k : Nat) : Int) := by
  induction k with
  | zero => rfl
  | succ k ih => rw [Int.pow_succ, Nat.pow_succ, Int.natCast_mul, ih]; rfl
theorem E_nb {k : Nat} (h : k ≤ 12) : 10 ^ k ≤ 1000000000000 := by
  have := E_12 h
  rw [E_nat] at this
  omega
def sch (g : Nat → Int) (v : Int) : Nat → Nat → Int
  | 0, _ => 9
  | d + 1, t => if g t = v then (t : Int) else sch g v d (t + 1)
section
variable {n : Nat} {z0 : Sh} {b c : Nat} {wt : Nat} {ω : TT} {tal : Nat} {md : Bool} {st ts : Nat}
theorem fr_ok (hn : 400000 ≤ n) {z : Sh} {h : Hp} (W : WayD z0 b c z h wt ω tal md st ts) (T : TN b z h) {s a : Nat} (hs : SV ω s) (es : h.I (b + 44) 8 = nI (enc s)) (ha : a < 9000000000000000000) (v : Int32) : f_X0_fraction n z h (b + 55) (lI (a : Int)) v = some (lI (((if v = 0 then a else 10 ^ (tn ω s)) / Nat.gcd a (10 ^ (tn ω s)) : Nat) : Int)) := by
  have HX := W.1.1
  have hω := W.2.1.2.2.1
  have h12 := tn_le hω s
  have hb := E_nb h12
  have p : 0 < 10 ^ (tn ω s) := Nat.pow_pos (by decide)
  have gp : 0 < Nat.gcd a (10 ^ (tn ω s)) := Nat.gcd_pos_of_pos_right _ p
  have gl : Nat.gcd a (10 ^ (tn ω s)) ≤ 10 ^ (tn ω s) := Nat.gcd_le_right _ p
  unfold f_X0_fraction f_X0_commonDivisor
  rw [if_pos (kx_55 HX), gR_ok (kx_55 HX) (rx_55_0 HX), bS, gI_ok (kx_44 HX), bS, es, tenA_ok W hs, bS, tens_ok T h12, bS, E_nat, show (0 : Int32) = nI 0 from rfl, cg_9 (n := n) 40 a (10 ^ (tn ω s)) 0 n (by omega) (by omega) (Nat.lt_of_le_of_lt hb (by decide)) (by omega) (by omega), bS]
  have n0 : ¬ lg_cmp (lI ((Nat.gcd a (10 ^ (tn ω s)) : Nat) : Int)) 0 = nI 0 := fun q => by have := (z64 (by omega)).mp q; omega
  rw [if_neg n0]
  by_cases c0 : v = nI 0
  · rw [if_pos c0, if_pos c0, dvJ_ok (by omega) (by omega) (by omega) (by omega), bS]
    rfl
  · rw [if_neg c0, if_neg c0, dvJ_ok (by omega) (by omega) (by omega) (by omega), bS]
    rfl
theorem rp_ok {z : Sh} {h : Hp} {τ : TT} (hτ : TownOK τ) {s a : Nat} (ha : a * 10 ^ (12 - tn τ s) < 9000000000000000000) (v : Int32) : f_X12_part z h (lI ((a * 10 ^ (12 - tn τ s) : Nat) : Int)) v = some (lI (((if v = 0 then a else 10 ^ (tn τ s)) / Nat.gcd a (10 ^ (tn τ s)) : Nat) : Int)) := by
  have h12 := tn_le hτ s
  have p2 : 0 < 10 ^ (12 - tn τ s) := Nat.pow_pos (by decide)
  have e12 : (1000000000000 : Nat) = 10 ^ (tn τ s) * 10 ^ (12 - tn τ s) := by
    rw [← Nat.pow_add, show tn τ s + (12 - tn τ s) = 12 by omega]
  have eg : Nat.gcd (a * 10 ^ (12 - tn τ s)) 1000000000000 = Nat.gcd a (10 ^ (tn τ s)) * 10 ^ (12 - tn τ s) := by
    rw [e12, Nat.gcd_mul_right]
  have gp : 0 < Nat.gcd (a * 10 ^ (12 - tn τ s)) 1000000000000 := Nat.gcd_pos_of_pos_right _ (by decide)
  have gl : Nat.gcd (a * 10 ^ (12 - tn τ s)) 1000000000000 ≤ 1000000000000 := Nat.gcd_le_right _ (by decide)
  have cm : f_X12_common z h (lI ((a * 10 ^ (12 - tn τ s) : Nat) : Int)) 1000000000000 = some (lI ((Nat.gcd (a * 10 ^ (12 - tn τ s)) 1000000000000 : Nat) : Int)) := by
    have := rg_ok (z := z) (h := h) 40 (a * 10 ^ (12 - tn τ s)) 1000000000000 100 (by omega) (by omega) (by decide) (by omega)
    exact this
  unfold f_X12_part f_X12_part_11
  rw [cm, bS, bS]
  by_cases c0 : v = 0
  · rw [if_pos c0, if_pos c0, dvJ_ok (by omega) (by omega) (by omega) (by omega), bS, eg]
    congr 2
    show (((a * 10 ^ (12 - tn τ s)) / (Nat.gcd a (10 ^ (tn τ s)) * 10 ^ (12 - tn τ s)) : Nat) : Int) = _
    rw [Nat.mul_div_mul_right _ _ p2]
  · rw [if_neg c0, if_neg c0, show (1000000000000 : Int64) = lI ((1000000000000 : Nat) : Int) by decide, dvJ_ok (by omega) (by omega) (by omega) (by omega), bS, eg]
    congr 2
    show ((1000000000000 / (Nat.gcd a (10 ^ (tn τ s)) * 10 ^ (12 - tn τ s)) : Nat) : Int) = _
    rw [e12, Nat.mul_div_mul_right _ _ p2]
theorem cd_35 (hn : 400000 ≤ n) (hω : TownOK ω) {s : Nat} (hs : SV ω s) : ∀ (d t i : Nat) (z : Sh) (h : Hp), t + d = opn ω s → d < i → WayD z0 b c z h wt ω tal md st ts → TN b z h → ∃ z' h', f_X0_meanDoing_35 n i z h (b + 55) (nI (enc s)) (lI (Mv ω tal md s)) (nI (opn ω s)) (nI t) = some (iI (sch (fun t => mY ω tal md (Mv ω tal md) s t) (Mv ω tal md s) d t), h', z') ∧ WayD z0 b c z' h' wt ω tal md st ts ∧ WE b st z h z' h' := by
  have o4 := opn4 hω s
  have mb := Mv_b (tal := tal) (md := md) hω hs
  have h13 := rk_le hω s
  intro d
  induction d with
  | zero =>
    intro t i z h hj hi W T
    obtain ⟨i, rfl⟩ : ∃ k, i = k + 1 := ⟨i - 1, by omega⟩
    refine ⟨z, h, ?_, W, WE.refl ..⟩
    rw [f_X0_meanDoing_35.eq_2, if_pos ((nI_leI (by omega) (by omega)).mpr (by omega))]
    rfl
  | succ d ih =>
    intro t i z h hj hi W T
    obtain ⟨i, rfl⟩ : ∃ k, i = k + 1 := ⟨i - 1, by omega⟩
    have hto : t < opn ω s := by omega
    have yb := mY_b (tal := tal) (md := md) hω hs hto
    obtain ⟨z1, h1, e1, W1, E1, T1⟩ := (cm_ok (n := n) (z0 := z0) (b := b) (c := c) (wt := wt) (tal := tal) (md := md) (st := st) (ts := ts) hn hω 60).2.1 s t hs hto (by omega) z h W T
    have e1' : f_X0_meanByYear n z h (b + 55) (nI (enc s)) (nI t) = some (lI (mY ω tal md (Mv ω tal md) s t), h1, z1) := e1
    rw [f_X0_meanDoing_35.eq_2, if_neg (fun q => by have := (nI_leI (by omega) (by omega)).mp q; omega), e1', bS]
    dsimp only
    have cmp : lg_cmp (lI (mY ω tal md (Mv ω tal md) s t)) (lI (Mv ω tal md s)) = 0 ↔ mY ω tal md (Mv ω tal md) s t = Mv ω tal md s := by rw [cmp_eq, lI_to (by omega) (by omega), lI_to (by omega) (by omega)]
    unfold sch
    by_cases cq : mY ω tal md (Mv ω tal md) s t = Mv ω tal md s
    · refine ⟨z1, h1, gd3_ok ?_ ⟨Nat.le_refl _, Nat.le_refl _⟩, W1, E1⟩
      rw [if_pos (cmp.mpr cq), if_pos cq, nI_iI]
    · obtain ⟨z2, h2, e2, W2, E2⟩ := ih (t + 1) i z1 h1 (by omega) (by omega) W1 T1
      refine ⟨z2, h2, gd3_ok ?_ E2.1.1, W2, E1.trans E2⟩
      rw [if_neg (fun q => cq (cmp.mp q)), if_neg cq, bS, show nI t + 1 = nI (t + 1) from nI_add t 1]
      exact e2
theorem cmd_ok (hn : 400000 ≤ n) {z : Sh} {h : Hp} (W : WayD z0 b c z h wt ω tal md st ts) (T : TN b z h) {s : Nat} (hs : SV ω s) (es : h.I (b + 44) 8 = nI (enc s)) : ∃ z' h', f_X0_meanDoing n z h (b + 55) = some (iI (if Mv ω tal md s = 0 then -1 else sch (fun t => mY ω tal md (Mv ω tal md) s t) (Mv ω tal md s) (opn ω s) 0), h', z') ∧ WayD z0 b c z' h' wt ω tal md st ts ∧ WE b st z h z' h' := by
  have HX := W.1.1
  have hω := W.2.1.2.2.1
  have o4 := opn4 hω s
  have h13 := rk_le hω s
  have mb := Mv_b (tal := tal) (md := md) hω hs
  obtain ⟨z1, h1, e1, W1, E1, T1⟩ := (cm_ok (n := n) (z0 := z0) (b := b) (c := c) (wt := wt) (tal := tal) (md := md) (st := st) (ts := ts) hn hω 60).1 s hs (by omega) z h W T
  have e1' : f_X0_meanFrom n z h (b + 55) (nI (enc s)) = some (lI (Mv ω tal md s), h1, z1) := e1
  have cmp : lg_cmp (lI (Mv ω tal md s)) 0 = 0 ↔ Mv ω tal md s = 0 := by rw [cmp_eq, lI_to (by omega) (by omega), show (0 : Int64).toInt = 0 from rfl]
  unfold f_X0_meanDoing
  rw [if_pos (kx_55 HX), gR_ok (kx_55 HX) (rx_55_0 HX), bS, gI_ok (kx_44 HX), bS, es, e1', bS]
  dsimp only
  by_cases c0 : Mv ω tal md s = 0
  · refine ⟨z1, h1, gd3_ok (gd3_ok ?_ ⟨Nat.le_refl _, Nat.le_refl _⟩) E1.1.1, W1, E1⟩
    rw [if_pos (cmp.mpr c0), if_pos c0]
    rfl
  · obtain ⟨z2, h2, e2, W2, E2⟩ := cd_35 (n := n) hn hω hs (opn ω s) 0 n z1 h1 (by omega) (by omega) W1 T1
    refine ⟨z2, h2, gd3_ok (gd3_ok ?_ E2.1.1) (E1.trans E2).1.1, W2, E1.trans E2⟩
    rw [if_neg (fun q => c0 (cmp.mp q)), if_neg c0, gR_ok (kx_55 W1.1.1) (rx_55_0 W1.1.1), bS, opn_ok (kx_44 W1.1.1) hω W1.2.1.1 W1.2.1.2.1 hs, bS]
    exact e2
theorem cdb_ok (hn : 400000 ≤ n) {z : Sh} {h : Hp} (W : WayD z0 b c z h wt ω tal md st ts) (T : TN b z h) {s : Nat} (hs : SV ω s) (es : h.I (b + 44) 8 = nI (enc s)) : ∃ z' h', f_X0_drawingIsBest n z h (b + 55) = some ((if (md = true ∧ sL s = 1) ∧ mD ω tal md (Mv ω tal md) s (tn ω s) = Mv ω tal md s then 1 else 0), h', z') ∧ WayD z0 b c z' h' wt ω tal md st ts ∧ WE b st z h z' h' := by
  have HX := W.1.1
  have hω := W.2.1.2.2.1
  have h13 := rk_le hω s
  have h12 := tn_le hω s
  have mb := Mv_b (tal := tal) (md := md) hω hs
  have db := mD_b (tal := tal) (md := md) (ten := tn ω s) hω hs (fun q => (tn_dr hω hs q.2).2.1) h12
  unfold f_X0_drawingIsBest
  rw [if_pos (kx_55 HX), gR_ok (kx_55 HX) (rx_55_0 HX), bS, gI_ok (kx_44 HX), bS, es, bS, adr_ok HX hω hs W.2.2.1.2.2.1 W.2.2.2.1, bS]
  by_cases hc : md = true ∧ sL s = 1
  · have e1400 := (e_bd hω (dr_SV (tal := tal) hω hs).1).2.2.2
    have ne : ¬ nI (enc (drN ω tal s)) = -1 := by
      rw [← Int32.toInt_inj, nI_to (by omega), show (-1 : Int32).toInt = -1 from rfl]
      omega
    obtain ⟨z1, h1, e1, W1, E1, T1⟩ := (cm_ok (n := n) (z0 := z0) (b := b) (c := c) (wt := wt) (tal := tal) (md := md) (st := st) (ts := ts) hn hω 60).2.2 s (tn ω s) hs (fun q => (tn_dr hω hs q.2).2.1) h12 (by omega) z h W T
    obtain ⟨z2, h2, e2, W2, E2, T2⟩ := (cm_ok (n := n) (z0 := z0) (b := b) (c := c) (wt := wt) (tal := tal) (md := md) (st := st) (ts := ts) hn hω 60).1 s hs (by omega) z1 h1 W1 T1
    have e1' : f_X0_meanByDrawing n z h (b + 55) (nI (enc s)) (nI (tn ω s)) = some (lI (mD ω tal md (Mv ω tal md) s (tn ω s)), h1, z1) := e1
    have e2' : f_X0_meanFrom n z1 h1 (b + 55) (nI (enc s)) = some (lI (Mv ω tal md s), h2, z2) := e2
    have cmp : lg_cmp (lI (mD ω tal md (Mv ω tal md) s (tn ω s))) (lI (Mv ω tal md s)) = 0 ↔ mD ω tal md (Mv ω tal md) s (tn ω s) = Mv ω tal md s := by rw [cmp_eq, lI_to (by omega) (by omega), lI_to (by omega) (by omega)]
    refine ⟨z2, h2, gd3_ok ?_ (E1.trans E2).1.1, W2, E1.trans E2⟩
    rw [if_pos hc, if_neg ne, tenA_ok W hs, bS, e1', bS]
    dsimp only
    refine gd3_ok ?_ E2.1.1
    rw [e2', bS]
    dsimp only
    refine gd3_ok ?_ ⟨Nat.le_refl _, Nat.le_refl _⟩
    by_cases cq : mD ω tal md (Mv ω tal md) s (tn ω s) = Mv ω tal md s
    · rw [if_pos (cmp.mpr cq), if_pos ⟨hc, cq⟩]
    · rw [if_neg (fun q => cq (cmp.mp q)), if_neg (fun q => cq q.2)]
  · refine ⟨z, h, gd3_ok ?_ ⟨Nat.le_refl _, Nat.le_refl _⟩, W, WE.refl ..⟩
    rw [if_neg hc, if_pos rfl, if_neg (fun q => hc q.1)]
end
section
variable {n : Nat} {z : Sh} {b : Nat} {τ : TT} {P : Nat} {A : Nat → Int32} {tal : Nat} {md : Bool}
theorem rc_45 (hn : 400000 ≤ n) (hτ : TownOK τ) {s : Nat} (hs : SV τ s) : ∀ (d t i : Nat) (h : Hp), t + d = opn τ s → d < i → BR b z h τ P A tal md → KJ b (b + 86) h τ (Rv τ tal md) (rk τ s) → ∃ h', f_X12_choice_45 n z i h (b + 72) (nI s) (lI (Rv τ tal md s)) (nI t) = some (iI (sch (fun t => mY τ tal md (Mv τ tal md) s t) (Mv τ tal md s) d t), h') ∧ Dz b h h' := by
  have hD := hτ.2.1
  have o4 := opn4 hτ s
  have hs0 := hs.1
  have ep := eT_pos (τ := τ) s
  have h13 := rk_le hτ s
  have rb := Rv_b (tal := tal) (md := md) hτ hs
  intro d
  induction d with
  | zero =>
    intro t i h hj hi B K
    obtain ⟨i, rfl⟩ : ∃ k, i = k + 1 := ⟨i - 1, by omega⟩
    obtain rfl : t = opn τ s := by omega
    have HM := B.1.1
    have hA := B.1.2.2.2.1
    refine ⟨h, ?_, Dz.refl b h⟩
    rw [f_X12_choice_45.eq_2, gR_ok (km_0 HM) (rm_1 HM), bS, show (2 : Int32) = nI 2 from rfl, lm_1 HM (by omega), bS, B.1.2.2.1, hA.2.1]
    by_cases hy : sY s < tY τ
    · have e : opn τ s = tD τ := by unfold opn; rw [if_pos hy]
      rw [if_pos ((nI_leI (by omega) (by omega)).mpr (by omega))]
      rfl
    · have e : opn τ s = 0 := by unfold opn; rw [if_neg hy]
      rw [if_neg (fun q => by have := (nI_leI (by omega) (by omega)).mp q; omega), over_ok B.1 hs0, bS, if_neg hy, if_neg (show ¬ (1 : Int32) = 0 by decide)]
      rfl
  | succ d ih =>
    intro t i h hj hi B K
    obtain ⟨i, rfl⟩ : ∃ k, i = k + 1 := ⟨i - 1, by omega⟩
    have HM := B.1.1
    have hA := B.1.2.2.2.1
    have hto : t < opn τ s := by omega
    obtain ⟨q1, q2⟩ := opn_lt hto
    have yb := mY_bd (tal := tal) (md := md) hτ hs hto
    have yb2 := eT_bd hτ yb.1 yb.2
    obtain ⟨h1, e1, D1, K1, -⟩ := (rm_ok (n := n) (z := z) (b := b) (P := P) (A := A) (tal := tal) (md := md) hn hτ 60).2.1 s t hs hto (by omega) h B K
    have e1' : f_X12_livedMean n z h (b + 72) (nI s) (nI t) = some (lI (mY τ tal md (Mv τ tal md) s t * eT τ s), h1) := e1
    have cmp : lg_cmp (lI (mY τ tal md (Mv τ tal md) s t * eT τ s)) (lI (Rv τ tal md s)) = 0 ↔ mY τ tal md (Mv τ tal md) s t = Mv τ tal md s := by
      rw [cmp_eq, lI_to (by omega) (by omega), lI_to (by omega) (by omega)]
      exact mulE_eq ep
    rw [f_X12_choice_45.eq_2, gR_ok (km_0 HM) (rm_1 HM), bS, show (2 : Int32) = nI 2 from rfl, lm_1 HM (by omega), bS, B.1.2.2.1, hA.2.1, if_neg (fun q => by have := (nI_leI (by omega) (by omega)).mp q; omega), over_ok B.1 hs0, bS, if_pos q1, if_pos rfl, e1', bS]
    dsimp only
    unfold sch
    by_cases cq : mY τ tal md (Mv τ tal md) s t = Mv τ tal md s
    · exact ⟨h1, by rw [if_pos (cmp.mpr cq), if_pos cq, nI_iI], D1⟩
    · obtain ⟨h2, e2, D2⟩ := ih (t + 1) i h1 (by omega) (by omega) (B.dz D1) K1
      refine ⟨h2, ?_, D1.trans D2⟩
      rw [if_neg (fun q => cq (cmp.mp q)), if_neg cq, bS, show nI t + 1 = nI (t + 1) from nI_add t 1]
      exact e2
end
section
variable {n : Nat} {z0 : Sh} {h0 : Hp} {b c : Nat} {z : Sh} {h : Hp}
theorem choice_ok (I : Inv z0 h0 b c z h) (hn : 400000 ≤ n) (hc : c < 600) (T0 : TN b z0 h0) (p : Int32) : ∃ r h1 z1 h2, f_X11_choice n z h b p = some (r, h1, z1) ∧ f_X12_choice n z1 h1 (b + 72) p = some (r, h2) ∧ Inv z0 h0 b (c + 1) z1 h2 := by
  obtain ⟨t, τ, P, nx, sz, D⟩ := I.now
  obtain ⟨HX, HRef, hR3, hT, hT5, HA, -, -⟩ := id D
  obtain ⟨HM, hτ, -, hA, h3, h6, hp6⟩ := id HRef
  have km := km_0 HM
  have H0 := s72_r (b := b) HRef 0
  by_cases cp : 0 ≤ p.toInt ∧ p.toInt < P
  · obtain ⟨j, hj, rfl⟩ := nI_ex (P := P) cp
    obtain ⟨g, st, ts, e1, W, E, es⟩ := wab_ok (n := n) hn I hc D hj
    obtain ⟨-, hs, -⟩ := Per_st hτ (hp6 j hj)
    have HXg := W.1.1
    generalize hA73 : h.I (b + 73) = A at *
    have T1 := (I.tn T0).ex I.2.2.2.2.2.2.2.2.1 E
    obtain ⟨z1, h1, e2, W1, E1⟩ := cmd_ok (n := n) hn W T1 hs es
    obtain ⟨I1, H1⟩ := ways_end I D W1 (E.trans E1.1)
    rw [hA73] at H1
    have H2 := s72_r (b := b) H1 0
    have h13 := rk_le hτ (aS A j)
    have o4 := opn4 hτ (aS A j)
    obtain ⟨k1, r1, C, B, k0, -⟩ := bg_ok (n := n) hn H2 hj
    obtain ⟨k2, r2, L, K2, -⟩ := (rm_ok (n := n) (z := z1) (b := b) (P := P) (A := A) (tal := nv A (54 + j)) (md := decide (nv A (60 + j) = 0)) hn hτ 60).2.2 (aS A j) hs (by omega) k1 B (KJ.none k0 _)
    have r2' : f_X12_meanFrom n z1 k1 (b + 72) (nI (aS A j)) = some (lI (Rv τ (nv A (54 + j)) (decide (nv A (60 + j) = 0)) (aS A j)), k2) := r2
    have rb := Rv_b (tal := nv A (54 + j)) (md := decide (nv A (60 + j) = 0)) hτ hs
    have cmp : lg_cmp (lI (Rv τ (nv A (54 + j)) (decide (nv A (60 + j) = 0)) (aS A j))) 0 = 0 ↔ Mv τ (nv A (54 + j)) (decide (nv A (60 + j) = 0)) (aS A j) = 0 := by
      rw [cmp_eq, lI_to (by omega) (by omega), show (0 : Int64).toInt = 0 from rfl]
      have := mulE_eq (a := Mv τ (nv A (54 + j)) (decide (nv A (60 + j) = 0)) (aS A j)) (d := 0) (eT_pos (τ := τ) (aS A j))
      rw [Int.zero_mul] at this
      exact this
    have cx : f_X11_choice n z h b (nI j) = some (iI (if Mv τ (nv A (54 + j)) (decide (nv A (60 + j) = 0)) (aS A j) = 0 then -1 else sch (fun t => mY τ (nv A (54 + j)) (decide (nv A (60 + j) = 0)) (Mv τ (nv A (54 + j)) (decide (nv A (60 + j) = 0))) (aS A j) t) (Mv τ (nv A (54 + j)) (decide (nv A (60 + j) = 0)) (aS A j)) (opn τ (aS A j)) 0), h1, z1) := by
      unfold f_X11_choice
      rw [if_pos (kx_0 HX)]
      refine gd3_ok ?_ E1.1.1
      rw [gR_ok (kx_0 HX) (rx_0_4 HX), bS, has_ok (now_PL HX) HA.1.1 h6, bS, if_pos cp, if_neg (show ¬ (1 : Int32) = 0 by decide), gR_ok (kx_0 HX) (rx_0_12 HX), bS, gR_ok (kx_0 HX) hR3, bS, bS, e1, bS, gR_ok (kx_0 HX) (rx_0_14 HXg), bS, e2, bS]
      exact gd3_ok rfl ⟨Nat.le_refl _, Nat.le_refl _⟩
    by_cases c0 : Mv τ (nv A (54 + j)) (decide (nv A (60 + j) = 0)) (aS A j) = 0
    · rw [if_pos c0] at cx
      refine ⟨_, h1, z1, k2, cx, ?_, ((ref_sc I1 0).sc C.sc).sc L.sc⟩
      unfold f_X12_choice
      rw [if_pos (km_0 H1.1), pI_ok (km_0 H1.1), bS, w_isp H2 hj, bS, if_neg (show ¬ (1 : Int32) = 0 by decide), r1, bS, now_ok B.1 hj, bS, r2', bS]
      dsimp only
      rw [if_pos (cmp.mpr c0)]
      rfl
    · rw [if_neg c0] at cx
      obtain ⟨k3, r3, L3⟩ := rc_45 (n := n) (z := z1) (b := b) (P := P) (A := A) (tal := nv A (54 + j)) (md := decide (nv A (60 + j) = 0)) hn hτ hs (opn τ (aS A j)) 0 n k2 (by omega) (by omega) (B.dz L) (K2.le (by omega))
      refine ⟨_, h1, z1, k3, cx, ?_, (((ref_sc I1 0).sc C.sc).sc L.sc).sc L3.sc⟩
      unfold f_X12_choice
      rw [if_pos (km_0 H1.1), pI_ok (km_0 H1.1), bS, w_isp H2 hj, bS, if_neg (show ¬ (1 : Int32) = 0 by decide), r1, bS, now_ok B.1 hj, bS, r2', bS]
      dsimp only
      rw [if_neg (fun q => c0 (cmp.mp q))]
      exact r3
  · refine ⟨-99000002, h, z, h.setI (b + 72) 0 0, ?_, ?_, (ref_sc I 0).up⟩
    · unfold f_X11_choice
      rw [if_pos (kx_0 HX)]
      refine gd3_ok ?_ ⟨Nat.le_refl _, Nat.le_refl _⟩
      rw [gR_ok (kx_0 HX) (rx_0_4 HX), bS, has_ok (now_PL HX) HA.1.1 h6, bS, if_neg cp, if_pos rfl]
      rfl
    · unfold f_X12_choice
      rw [if_pos km, pI_ok km, bS, isP_ok H0, bS, to64, if_neg cp, if_pos rfl]
theorem drawing_ok (I : Inv z0 h0 b c z h) (hn : 400000 ≤ n) (hc : c < 600) (T0 : TN b z0 h0) (p : Int32) : ∃ r h1 z1 h2, f_X11_drawing n z h b p = some (r, h1, z1) ∧ f_X12_drawing n z1 h1 (b + 72) p = some (r, h2) ∧ Inv z0 h0 b (c + 1) z1 h2 := by
  obtain ⟨t, τ, P, nx, sz, D⟩ := I.now
  obtain ⟨HX, HRef, hR3, hT, hT5, HA, -, -⟩ := id D
  obtain ⟨HM, hτ, -, hA, h3, h6, hp6⟩ := id HRef
  have km := km_0 HM
  have H0 := s72_r (b := b) HRef 0
  by_cases cp : 0 ≤ p.toInt ∧ p.toInt < P
  · obtain ⟨j, hj, rfl⟩ := nI_ex (P := P) cp
    obtain ⟨g, st, ts, e1, W, E, es⟩ := wab_ok (n := n) hn I hc D hj
    obtain ⟨-, hs, -⟩ := Per_st hτ (hp6 j hj)
    have HXg := W.1.1
    generalize hA73 : h.I (b + 73) = A at *
    have T1 := (I.tn T0).ex I.2.2.2.2.2.2.2.2.1 E
    obtain ⟨z1, h1, e2, W1, E1⟩ := cdb_ok (n := n) hn W T1 hs es
    obtain ⟨I1, H1⟩ := ways_end I D W1 (E.trans E1.1)
    rw [hA73] at H1
    have H2 := s72_r (b := b) H1 0
    have h13 := rk_le hτ (aS A j)
    have h12 := tn_le hτ (aS A j)
    obtain ⟨k1, r1, C, B, k0, -⟩ := bg_ok (n := n) hn H2 hj
    have cx : f_X11_drawing n z h b (nI j) = some ((if (decide (nv A (60 + j) = 0) = true ∧ sL (aS A j) = 1) ∧ mD τ (nv A (54 + j)) (decide (nv A (60 + j) = 0)) (Mv τ (nv A (54 + j)) (decide (nv A (60 + j) = 0))) (aS A j) (tn τ (aS A j)) = Mv τ (nv A (54 + j)) (decide (nv A (60 + j) = 0)) (aS A j) then 1 else 0), h1, z1) := by
      unfold f_X11_drawing
      rw [if_pos (kx_0 HX)]
      refine gd3_ok ?_ E1.1.1
      rw [gR_ok (kx_0 HX) (rx_0_4 HX), bS, has_ok (now_PL HX) HA.1.1 h6, bS, if_pos cp, if_neg (show ¬ (1 : Int32) = 0 by decide), gR_ok (kx_0 HX) (rx_0_12 HX), bS, gR_ok (kx_0 HX) hR3, bS, bS, e1, bS, gR_ok (kx_0 HX) (rx_0_14 HXg), bS, e2, bS]
      dsimp only
      refine gd3_ok ?_ ⟨Nat.le_refl _, Nat.le_refl _⟩
      by_cases cq : (decide (nv A (60 + j) = 0) = true ∧ sL (aS A j) = 1) ∧ mD τ (nv A (54 + j)) (decide (nv A (60 + j) = 0)) (Mv τ (nv A (54 + j)) (decide (nv A (60 + j) = 0))) (aS A j) (tn τ (aS A j)) = Mv τ (nv A (54 + j)) (decide (nv A (60 + j) = 0)) (aS A j)
      · rw [if_pos cq, if_neg (show ¬ (1 : Int32) = 0 by decide)]
      · rw [if_neg cq, if_pos rfl]
    by_cases hcd : decide (nv A (60 + j) = 0) = true ∧ sL (aS A j) = 1
    · obtain ⟨k2, r2, L, K2, JU2⟩ := (rm_ok (n := n) (z := z1) (b := b) (P := P) (A := A) (tal := nv A (54 + j)) (md := decide (nv A (60 + j) = 0)) hn hτ 60).1 (aS A j) hs (by omega) k1 B (KJ.none k0 _)
      have U2 : ∀ s', rk τ (aS A j) ≤ rk τ s' → s' < 3430 → k2.I (b + 83) s' = nI 0 := fun s' q q2 => by rw [(JU2 s' q).2]; exact k0 s' q2
      obtain ⟨k3, r3, L3, K3, -⟩ := (rm_ok (n := n) (z := z1) (b := b) (P := P) (A := A) (tal := nv A (54 + j)) (md := decide (nv A (60 + j) = 0)) hn hτ 60).2.2 (aS A j) hs (by omega) k2 (B.dz L) ⟨K2.1, fun s' hs' hr hk => by
        rcases Nat.lt_or_ge (rk τ s') (rk τ (aS A j)) with q | q
        · exact K2.2 s' hs' q hk
        · rw [U2 s' q hs'.1] at hk
          exact absurd hk (by decide)⟩
      have r2' : f_X12_drawnMean n z1 k1 (b + 72) (nI (aS A j)) = some (lI (mD τ (nv A (54 + j)) (decide (nv A (60 + j) = 0)) (Mv τ (nv A (54 + j)) (decide (nv A (60 + j) = 0))) (aS A j) (tn τ (aS A j)) * eT τ (aS A j)), k2) := r2
      have r3' : f_X12_meanFrom n z1 k2 (b + 72) (nI (aS A j)) = some (lI (Rv τ (nv A (54 + j)) (decide (nv A (60 + j) = 0)) (aS A j)), k3) := r3
      have rb := Rv_b (tal := nv A (54 + j)) (md := decide (nv A (60 + j) = 0)) hτ hs
      have p := E_pos (tn τ (aS A j))
      have db := mD_bd (tal := nv A (54 + j)) (md := decide (nv A (60 + j) = 0)) (ten := tn τ (aS A j)) hτ hs (fun q => (tn_dr hτ hs q.2).2.1) (fun q => Mv_bd hτ (dr_SV hτ hs).1)
      have db2 := eT_bd hτ (show -9 * 10 ^ (tn τ (aS A j)) ≤ mD τ (nv A (54 + j)) (decide (nv A (60 + j) = 0)) (Mv τ (nv A (54 + j)) (decide (nv A (60 + j) = 0))) (aS A j) (tn τ (aS A j)) by omega) db.2
      have cmp : lg_cmp (lI (mD τ (nv A (54 + j)) (decide (nv A (60 + j) = 0)) (Mv τ (nv A (54 + j)) (decide (nv A (60 + j) = 0))) (aS A j) (tn τ (aS A j)) * eT τ (aS A j))) (lI (Rv τ (nv A (54 + j)) (decide (nv A (60 + j) = 0)) (aS A j))) = 0 ↔ mD τ (nv A (54 + j)) (decide (nv A (60 + j) = 0)) (Mv τ (nv A (54 + j)) (decide (nv A (60 + j) = 0))) (aS A j) (tn τ (aS A j)) = Mv τ (nv A (54 + j)) (decide (nv A (60 + j) = 0)) (aS A j) := by
        rw [cmp_eq, lI_to (by omega) (by omega), lI_to (by omega) (by omega)]
        exact mulE_eq (eT_pos (τ := τ) (aS A j))
      refine ⟨_, h1, z1, k3, cx, ?_, (((ref_sc I1 0).sc C.sc).sc L.sc).sc L3.sc⟩
      unfold f_X12_drawing
      rw [if_pos (km_0 H1.1), pI_ok (km_0 H1.1), bS, w_isp H2 hj, bS, if_neg (show ¬ (1 : Int32) = 0 by decide), r1, bS, now_ok B.1 hj, bS, can_ok B hs.1, bS, if_pos hcd, if_neg (show ¬ (1 : Int32) = 0 by decide), r2', bS]
      dsimp only
      rw [r3', bS]
      dsimp only
      by_cases cq : mD τ (nv A (54 + j)) (decide (nv A (60 + j) = 0)) (Mv τ (nv A (54 + j)) (decide (nv A (60 + j) = 0))) (aS A j) (tn τ (aS A j)) = Mv τ (nv A (54 + j)) (decide (nv A (60 + j) = 0)) (aS A j)
      · rw [if_pos (cmp.mpr cq), if_pos ⟨hcd, cq⟩]
      · rw [if_neg (fun q => cq (cmp.mp q)), if_neg (fun q => cq q.2)]
    · refine ⟨_, h1, z1, k1, cx, ?_, (ref_sc I1 0).sc C.sc⟩
      rw [if_neg (fun q => hcd q.1)]
      unfold f_X12_drawing
      rw [if_pos (km_0 H1.1), pI_ok (km_0 H1.1), bS, w_isp H2 hj, bS, if_neg (show ¬ (1 : Int32) = 0 by decide), r1, bS, now_ok B.1 hj, bS, can_ok B hs.1, bS, if_neg hcd, if_pos rfl]
  · refine ⟨-99000002, h, z, h.setI (b + 72) 0 0, ?_, ?_, (ref_sc I 0).up⟩
    · unfold f_X11_drawing
      rw [if_pos (kx_0 HX)]
      refine gd3_ok ?_ ⟨Nat.le_refl _, Nat.le_refl _⟩
      rw [gR_ok (kx_0 HX) (rx_0_4 HX), bS, has_ok (now_PL HX) HA.1.1 h6, bS, if_neg cp, if_pos rfl]
      rfl
    · unfold f_X12_drawing
      rw [if_pos km, pI_ok km, bS, isP_ok H0, bS, to64, if_neg cp, if_pos rfl]
theorem mean_ok (I : Inv z0 h0 b c z h) (hn : 400000 ≤ n) (hc : c < 600) (T0 : TN b z0 h0) (p v : Int32) : ∃ r h1 z1 h2, f_X11_mean n z h b p v = some (r, h1, z1) ∧ f_X12_mean n z1 h1 (b + 72) p v = some (r, h2) ∧ Inv z0 h0 b (c + 1) z1 h2 := by
  obtain ⟨t, τ, P, nx, sz, D⟩ := I.now
  obtain ⟨HX, HRef, hR3, hT, hT5, HA, -, -⟩ := id D
  obtain ⟨HM, hτ, -, hA, h3, h6, hp6⟩ := id HRef
  have km := km_0 HM
  have H0 := s72_r (b := b) HRef 0
  by_cases cp : 0 ≤ p.toInt ∧ p.toInt < P
  · obtain ⟨j, hj, rfl⟩ := nI_ex (P := P) cp
    by_cases cv : 0 ≤ v.toInt ∧ v.toInt ≤ 1
    case neg =>
      refine ⟨-99000002, h, z, h.setI (b + 72) 0 0, ?_, ?_, (ref_sc I 0).up⟩
      · unfold f_X11_mean
        rw [if_pos (kx_0 HX)]
        refine gd3_ok ?_ ⟨Nat.le_refl _, Nat.le_refl _⟩
        rw [gR_ok (kx_0 HX) (rx_0_4 HX), bS, has_ok (now_PL HX) HA.1.1 h6, bS, if_pos cp, if_neg (show ¬ (1 : Int32) = 0 by decide)]
        by_cases c1 : v < 0
        · rw [if_pos c1]
          rfl
        · rw [if_neg c1, if_neg (show ¬ v ≤ 1 from fun q => by
            rw [Int32.le_iff_toInt_le, show (1 : Int32).toInt = 1 from rfl] at q
            rw [Int32.lt_iff_toInt_lt, show (0 : Int32).toInt = 0 from rfl] at c1
            exact cv ⟨by omega, q⟩)]
          rfl
      · unfold f_X12_mean
        rw [if_pos km, pI_ok km, bS, w_isp H0 hj, bS, if_neg (show ¬ (1 : Int32) = 0 by decide), within_ok, bS, to64, show (0 : Int64).toInt = 0 from rfl, show (1 : Int64).toInt = 1 from rfl, if_neg cv, if_pos rfl]
    obtain ⟨g, st, ts, e1, W, E, es⟩ := wab_ok (n := n) hn I hc D hj
    obtain ⟨-, hs, -⟩ := Per_st hτ (hp6 j hj)
    have HXg := W.1.1
    generalize hA73 : h.I (b + 73) = A at *
    have T1 := (I.tn T0).ex I.2.2.2.2.2.2.2.2.1 E
    have h13 := rk_le hτ (aS A j)
    have h12 := tn_le hτ (aS A j)
    obtain ⟨z1, h1, e2, W1, E1, T2⟩ := (cm_ok (n := n) (z0 := z0) (b := b) (c := c + 1) (wt := t) (tal := nv A (54 + j)) (md := decide (nv A (60 + j) = 0)) (st := st) (ts := ts) hn hτ 60).1 (aS A j) hs (by omega) z g W T1
    have e2' : f_X0_meanFrom n z g (b + 55) (nI (enc (aS A j))) = some (lI (Mv τ (nv A (54 + j)) (decide (nv A (60 + j) = 0)) (aS A j)), h1, z1) := e2
    obtain ⟨I1, H1⟩ := ways_end I D W1 (E.trans E1.1)
    rw [hA73] at H1
    have H2 := s72_r (b := b) H1 0
    obtain ⟨k1, r1, C, B, k0, -⟩ := bg_ok (n := n) hn H2 hj
    obtain ⟨k2, r2, L, K2, -⟩ := (rm_ok (n := n) (z := z1) (b := b) (P := P) (A := A) (tal := nv A (54 + j)) (md := decide (nv A (60 + j) = 0)) hn hτ 60).2.2 (aS A j) hs (by omega) k1 B (KJ.none k0 _)
    have r2' : f_X12_meanFrom n z1 k1 (b + 72) (nI (aS A j)) = some (lI (Rv τ (nv A (54 + j)) (decide (nv A (60 + j) = 0)) (aS A j)), k2) := r2
    have mb := Mv_b (tal := nv A (54 + j)) (md := decide (nv A (60 + j) = 0)) hτ hs
    have rb := Rv_b (tal := nv A (54 + j)) (md := decide (nv A (60 + j) = 0)) hτ hs
    obtain ⟨a, ha⟩ : ∃ a : Nat, (a : Int) = Mv τ (nv A (54 + j)) (decide (nv A (60 + j) = 0)) (aS A j) := ⟨(Mv τ (nv A (54 + j)) (decide (nv A (60 + j) = 0)) (aS A j)).toNat, by omega⟩
    have er : Rv τ (nv A (54 + j)) (decide (nv A (60 + j) = 0)) (aS A j) = ((a * 10 ^ (12 - tn τ (aS A j)) : Nat) : Int) := by
      unfold Rv eT
      rw [← ha, E_nat, ← Int.natCast_mul]
    have es1 : h1.I (b + 44) 8 = nI (enc (aS A j)) := by rw [E1.2.2.1]; exact es
    refine ⟨lI (((if v = 0 then a else 10 ^ (tn τ (aS A j))) / Nat.gcd a (10 ^ (tn τ (aS A j))) : Nat) : Int), h1, z1, k2, ?_, ?_, ((ref_sc I1 0).sc C.sc).sc L.sc⟩
    · unfold f_X11_mean
      rw [if_pos (kx_0 HX)]
      refine gd3_ok ?_ E1.1.1
      rw [gR_ok (kx_0 HX) (rx_0_4 HX), bS, has_ok (now_PL HX) HA.1.1 h6, bS, if_pos cp, if_neg (show ¬ (1 : Int32) = 0 by decide), if_neg (show ¬ v < 0 from fun q => by
        rw [Int32.lt_iff_toInt_lt, show (0 : Int32).toInt = 0 from rfl] at q
        omega), if_pos (show v ≤ 1 by
        rw [Int32.le_iff_toInt_le, show (1 : Int32).toInt = 1 from rfl]
        exact cv.2), gR_ok (kx_0 HX) (rx_0_12 HX), bS, gR_ok (kx_0 HX) hR3, bS, bS, e1, bS, gR_ok (kx_0 HX) (rx_0_14 HXg), bS, bS, gR_ok (kx_0 HX) (rx_0_12 HXg), bS, gI_ok (kx_44 HX), bS, es, e2', bS]
      dsimp only
      refine gd3_ok ?_ ⟨Nat.le_refl _, Nat.le_refl _⟩
      rw [← ha, fr_ok hn W1 T2 hs es1 (by omega) v, bS]
    · unfold f_X12_mean
      rw [if_pos (km_0 H1.1), pI_ok (km_0 H1.1), bS, w_isp H2 hj, bS, if_neg (show ¬ (1 : Int32) = 0 by decide), within_ok, bS, to64, show (0 : Int64).toInt = 0 from rfl, show (1 : Int64).toInt = 1 from rfl, if_pos cv, if_neg (show ¬ (1 : Int32) = 0 by decide), r1, bS, now_ok B.1 hj, bS, r2', bS]
      dsimp only
      rw [er, rp_ok hτ (by omega) v, bS]
  · refine ⟨-99000002, h, z, h.setI (b + 72) 0 0, ?_, ?_, (ref_sc I 0).up⟩
    · unfold f_X11_mean
      rw [if_pos (kx_0 HX)]
      refine gd3_ok ?_ ⟨Nat.le_refl _, Nat.le_refl _⟩
      rw [gR_ok (kx_0 HX) (rx_0_4 HX), bS, has_ok (now_PL HX) HA.1.1 h6, bS, if_neg cp, if_pos rfl]
      rfl
    · unfold f_X12_mean
      rw [if_pos km, pI_ok km, bS, isP_ok H0, bS, to64, if_neg cp, if_pos rfl]
end
