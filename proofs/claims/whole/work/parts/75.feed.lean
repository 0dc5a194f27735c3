/-! ===== bytes; feed ===== -/
theorem tn_mod (y : Int32) : y.toInt % 256 = (y.toBitVec.toNat : Int) % 256 := by
  have := BitVec.toInt_eq_toNat_cond y.toBitVec
  rw [Int32.toInt_toBitVec] at this
  have h2 := y.toBitVec.isLt
  split at this <;> omega
theorem and255 (y : Int32) : y &&& 255 = nI (y.toInt % 256).toNat := by
  rw [tn_mod y, ← Int32.toBitVec_inj]
  apply BitVec.eq_of_toNat_eq
  show (y.toBitVec &&& 255#32).toNat = (BitVec.ofNat 32 _).toNat
  rw [BitVec.toNat_and, BitVec.toNat_ofNat, BitVec.toNat_ofNat, show 255 % 2 ^ 32 = 2 ^ 8 - 1 by decide, Nat.and_two_pow_sub_one_eq_mod]
  omega
/-- the byte that the class lays down -/
def bC (v : Int32) (s : Nat) : Int32 := vp_nar .byte ((Int32.toInt8 ((Int32.toUInt32 v >>> (Int32.toUInt32 (nI s) &&& Int32.toUInt32 31)).toInt32)).toInt32)
def bV (v : Int32) (s : Nat) : Nat := (v.toBitVec.toNat / 2 ^ s) % 256
theorem nar_i (x : Int32) : (vp_nar .byte x).toInt = x.toInt.bmod 256 := by
  show (x.toInt8.toInt32).toInt = _
  rw [Int8.toInt_toInt32, Int32.toInt_toInt8]
theorem nar2 (x : Int32) : (Int32.toInt8 x).toInt32.toInt = x.toInt.bmod 256 := by
  rw [Int8.toInt_toInt32, Int32.toInt_toInt8]
theorem bm256 (x : Int) : x.bmod 256 % 256 = x % 256 := Int.bmod_emod
def okS (s : Nat) : Prop := s = 24 ∨ s = 16 ∨ s = 8 ∨ s = 0
theorem bC_ok (v : Int32) {s : Nat} (hs : okS s) : bC v s &&& 255 = nI (bV v s) := by
  rw [and255]
  rcases hs with rfl | rfl | rfl | rfl
  · have k : (Int32.toUInt32 (nI 24) &&& Int32.toUInt32 31) = 24 := by decide
    have w : ((Int32.toUInt32 v >>> (24 : UInt32)).toInt32).toBitVec.toNat = v.toBitVec.toNat / 2 ^ 24 := by
      show (v.toUInt32 >>> (24 : UInt32)).toNat = _
      rw [UInt32.toNat_shiftRight, show (24 : UInt32).toNat % 32 = 24 by decide, Nat.shiftRight_eq_div_pow]
      rfl
    unfold bC
    rw [k, nar_i, bm256, nar2, bm256, tn_mod, w]
    unfold bV
    congr 1
  · have k : (Int32.toUInt32 (nI 16) &&& Int32.toUInt32 31) = 16 := by decide
    have w : ((Int32.toUInt32 v >>> (16 : UInt32)).toInt32).toBitVec.toNat = v.toBitVec.toNat / 2 ^ 16 := by
      show (v.toUInt32 >>> (16 : UInt32)).toNat = _
      rw [UInt32.toNat_shiftRight, show (16 : UInt32).toNat % 32 = 16 by decide, Nat.shiftRight_eq_div_pow]
      rfl
    unfold bC
    rw [k, nar_i, bm256, nar2, bm256, tn_mod, w]
    unfold bV
    congr 1
  · have k : (Int32.toUInt32 (nI 8) &&& Int32.toUInt32 31) = 8 := by decide
    have w : ((Int32.toUInt32 v >>> (8 : UInt32)).toInt32).toBitVec.toNat = v.toBitVec.toNat / 2 ^ 8 := by
      show (v.toUInt32 >>> (8 : UInt32)).toNat = _
      rw [UInt32.toNat_shiftRight, show (8 : UInt32).toNat % 32 = 8 by decide, Nat.shiftRight_eq_div_pow]
      rfl
    unfold bC
    rw [k, nar_i, bm256, nar2, bm256, tn_mod, w]
    unfold bV
    congr 1
  · have k : (Int32.toUInt32 (nI 0) &&& Int32.toUInt32 31) = 0 := by decide
    have w : ((Int32.toUInt32 v >>> (0 : UInt32)).toInt32).toBitVec.toNat = v.toBitVec.toNat / 2 ^ 0 := by
      show (v.toUInt32 >>> (0 : UInt32)).toNat = _
      rw [UInt32.toNat_shiftRight, show (0 : UInt32).toNat % 32 = 0 by decide, Nat.shiftRight_eq_div_pow]
      rfl
    unfold bC
    rw [k, nar_i, bm256, nar2, bm256, tn_mod, w]
    unfold bV
    congr 1
theorem bM_ok (v : Int32) {s : Nat} (hs : okS s) : (v >>> (nI s &&& 31)) &&& 255 = nI (bV v s) := by
  rw [and255]
  rcases hs with rfl | rfl | rfl | rfl
  · have w : (v >>> (nI 24 &&& 31)).toInt = v.toInt / 2 ^ 24 := by
      show (v.toBitVec.sshiftRight' ((nI 24 &&& 31).toBitVec.smod 32)).toInt = _
      rw [BitVec.toInt_sshiftRight', show ((nI 24 &&& 31).toBitVec.smod 32).toNat = 24 by decide, Int.shiftRight_eq_div_pow]
      rfl
    rw [w]
    unfold bV
    have := BitVec.toInt_eq_toNat_cond v.toBitVec
    rw [Int32.toInt_toBitVec] at this
    have h2 := v.toBitVec.isLt
    congr 1
    split at this <;> omega
  · have w : (v >>> (nI 16 &&& 31)).toInt = v.toInt / 2 ^ 16 := by
      show (v.toBitVec.sshiftRight' ((nI 16 &&& 31).toBitVec.smod 32)).toInt = _
      rw [BitVec.toInt_sshiftRight', show ((nI 16 &&& 31).toBitVec.smod 32).toNat = 16 by decide, Int.shiftRight_eq_div_pow]
      rfl
    rw [w]
    unfold bV
    have := BitVec.toInt_eq_toNat_cond v.toBitVec
    rw [Int32.toInt_toBitVec] at this
    have h2 := v.toBitVec.isLt
    congr 1
    split at this <;> omega
  · have w : (v >>> (nI 8 &&& 31)).toInt = v.toInt / 2 ^ 8 := by
      show (v.toBitVec.sshiftRight' ((nI 8 &&& 31).toBitVec.smod 32)).toInt = _
      rw [BitVec.toInt_sshiftRight', show ((nI 8 &&& 31).toBitVec.smod 32).toNat = 8 by decide, Int.shiftRight_eq_div_pow]
      rfl
    rw [w]
    unfold bV
    have := BitVec.toInt_eq_toNat_cond v.toBitVec
    rw [Int32.toInt_toBitVec] at this
    have h2 := v.toBitVec.isLt
    congr 1
    split at this <;> omega
  · have w : (v >>> (nI 0 &&& 31)).toInt = v.toInt / 2 ^ 0 := by
      show (v.toBitVec.sshiftRight' ((nI 0 &&& 31).toBitVec.smod 32)).toInt = _
      rw [BitVec.toInt_sshiftRight', show ((nI 0 &&& 31).toBitVec.smod 32).toNat = 0 by decide, Int.shiftRight_eq_div_pow]
      rfl
    rw [w]
    unfold bV
    have := BitVec.toInt_eq_toNat_cond v.toBitVec
    rw [Int32.toInt_toBitVec] at this
    have h2 := v.toBitVec.isLt
    congr 1
    split at this <;> omega
theorem bV_lt (v : Int32) (s : Nat) : bV v s < 256 := Nat.mod_lt _ (by decide)
def shM (m : Nat) : Nat := 24 - 8 * (m % 4)
theorem shM_ok (m : Nat) : okS (shM m) := by
  unfold okS shM
  omega
/-- the row with the fed bytes -/
def fed (f : Nat → Int32) (w : Nat → Int32) (tp m : Nat) : Nat → Int32 := fun k => if tp ≤ k ∧ k < tp + m then bC (w ((k - tp) / 4)) (shM (k - tp)) else f k
def fedM (f : Nat → Int32) (w : Nat → Int32) (tp m : Nat) : Nat → Int32 := fun k => if tp ≤ k ∧ k < tp + m then nI (bV (w ((k - tp) / 4)) (shM (k - tp))) else f k
theorem fed_0 (f w : Nat → Int32) (tp : Nat) : fed f w tp 0 = f := by
  funext k
  unfold fed
  rw [if_neg (by omega)]
theorem fedM_0 (f w : Nat → Int32) (tp : Nat) : fedM f w tp 0 = f := by
  funext k
  unfold fedM
  rw [if_neg (by omega)]
theorem fed_s (f w : Nat → Int32) (tp m : Nat) : upd (fed f w tp m) (tp + m) (bC (w (m / 4)) (shM m)) = fed f w tp (m + 1) := by
  funext k
  unfold upd fed
  by_cases h1 : k = tp + m
  · subst h1
    rw [if_pos rfl, if_pos (by omega), show tp + m - tp = m by omega]
  · rw [if_neg h1]
    by_cases h2 : tp ≤ k ∧ k < tp + m
    · rw [if_pos h2, if_pos (by omega)]
    · rw [if_neg h2, if_neg (by omega)]
theorem fedM_s (f w : Nat → Int32) (tp m : Nat) : upd (fedM f w tp m) (tp + m) (nI (bV (w (m / 4)) (shM m))) = fedM f w tp (m + 1) := by
  funext k
  unfold upd fedM
  by_cases h1 : k = tp + m
  · subst h1
    rw [if_pos rfl, if_pos (by omega), show tp + m - tp = m by omega]
  · rw [if_neg h1]
    by_cases h2 : tp ≤ k ∧ k < tp + m
    · rw [if_pos h2, if_pos (by omega)]
    · rw [if_neg h2, if_neg (by omega)]
section
variable {n : Nat} {z0 : Sh} {h0 : Hp} {b c : Nat} {z : Sh} {h : Hp}
def fdH (h : Hp) (b : Nat) (w : Nat → Int32) (tp m : Nat) : Hp := (h.rowI (b + 1) (fed (h.I (b + 1)) w tp m)).rowI b (upd (h.I b) 1 (nI (tp + m)))
theorem tw_step (HX : LayX z h.2.2 b) {w : Nat → Int32} {tp m i q : Nat} (hm : tp + m < 900) (hq : q = m / 4) : f_X11_tapeWord_3 n z (i + 1) (fdH h b w tp m) b (w q) (nI (shM m)) = f_X11_tapeWord_3 n z i (fdH h b w tp (m + 1)) b (w q) (nI (shM m) + -8) := by
  have HX1 : LayX z (fdH h b w tp m).2.2 b := HX
  have e1 : (fdH h b w tp m).I b 1 = nI (tp + m) := by
    unfold fdH
    rw [rowI_I, upd, if_pos rfl]
  have e2 : (fdH h b w tp m).I (b + 1) = fed (h.I (b + 1)) w tp m := by
    unfold fdH
    rw [rowI_ne _ _ (by omega), rowI_I]
  have sh : ¬ nI (shM m) < 0 := nI_pos (by have := shM_ok m; unfold okS at this; omega)
  have hB := stB_ok (z := z) (h := fdH h b w tp m) (a := b + 1) (N := 900) (j := tp + m) (i := nI (tp + m)) (x := (Int32.toInt8 ((Int32.toUInt32 (w q) >>> (Int32.toUInt32 (nI (shM m)) &&& Int32.toUInt32 31)).toInt32)).toInt32) (kx_1 HX) (nx_1 HX) rfl hm (by omega)
  rw [f_X11_tapeWord_3.eq_2, if_neg sh, gI_ok (kx_0 HX), bS, e1, gR_ok (kx_0 HX) (rx_0_0 HX1), bS, aL_ok (kx_1 HX) rfl (nx_1 HX), bS, if_neg (fun q => by have := (nI_leI (by omega) (by omega)).mp q; omega), bS, bS, hB, bS]
  have e3 : ((fdH h b w tp m).setI (b + 1) (tp + m) (vp_nar .byte ((Int32.toInt8 ((Int32.toUInt32 (w q) >>> (Int32.toUInt32 (nI (shM m)) &&& Int32.toUInt32 31)).toInt32)).toInt32))).I b 1 = nI (tp + m) := by
    rw [show ((fdH h b w tp m).setI (b + 1) (tp + m) (vp_nar .byte ((Int32.toInt8 ((Int32.toUInt32 (w q) >>> (Int32.toUInt32 (nI (shM m)) &&& Int32.toUInt32 31)).toInt32)).toInt32))).I b = (fdH h b w tp m).I b from rowI_ne _ _ (by omega)]
    exact e1
  rw [gI_ok (kx_0 HX), bS, e3, pI_ok (kx_0 HX), bS]
  unfold f_X11_tapeWord_42
  rw [bS]
  congr 1
  rw [show nI (tp + m) + 1 = nI (tp + (m + 1)) from nI_add (tp + m) 1]
  show ((fdH h b w tp m).setI (b + 1) (tp + m) (bC (w q) (shM m))).setI b 1 (nI (tp + (m + 1))) = _
  rw [setI_row, setI_row, e2, hq, fed_s]
  unfold fdH
  rw [rowI_ne _ _ (by omega), rowI_I, rowI_comm _ _ _ (by omega), rowI_rowI, rowI_comm _ _ _ (by omega), rowI_rowI]
  congr 1
  funext k
  unfold upd
  split <;> rfl
theorem tw_ok (HX : LayX z h.2.2 b) (hn : 400000 ≤ n) {w : Nat → Int32} {tp q : Nat} (hm : tp + 4 * q + 4 ≤ 900) : f_X11_tapeWord n z (fdH h b w tp (4 * q)) b (w q) = some (fdH h b w tp (4 * (q + 1))) := by
  obtain ⟨i, rfl⟩ : ∃ i, n = i + 1 + 1 + 1 + 1 + 1 := ⟨n - 5, by omega⟩
  unfold f_X11_tapeWord
  rw [if_pos (kx_0 HX)]
  have s0 : shM (4 * q) = 24 := by unfold shM; omega
  have s1 : shM (4 * q + 1) = 16 := by unfold shM; omega
  have s2 : shM (4 * q + 1 + 1) = 8 := by unfold shM; omega
  have s3 : shM (4 * q + 1 + 1 + 1) = 0 := by unfold shM; omega
  have t0 := tw_step (n := i + 1 + 1 + 1 + 1 + 1) (z := z) HX (w := w) (tp := tp) (m := 4 * q) (i := i + 1 + 1 + 1 + 1) (q := q) (by omega) (by omega)
  have t1 := tw_step (n := i + 1 + 1 + 1 + 1 + 1) (z := z) HX (w := w) (tp := tp) (m := 4 * q + 1) (i := i + 1 + 1 + 1) (q := q) (by omega) (by omega)
  have t2 := tw_step (n := i + 1 + 1 + 1 + 1 + 1) (z := z) HX (w := w) (tp := tp) (m := 4 * q + 1 + 1) (i := i + 1 + 1) (q := q) (by omega) (by omega)
  have t3 := tw_step (n := i + 1 + 1 + 1 + 1 + 1) (z := z) HX (w := w) (tp := tp) (m := 4 * q + 1 + 1 + 1) (i := i + 1) (q := q) (by omega) (by omega)
  rw [s0] at t0
  rw [s1] at t1
  rw [s2] at t2
  rw [s3] at t3
  rw [show (24 : Int32) = nI 24 from rfl, t0, show nI 24 + -8 = nI 16 by decide, t1, show nI 16 + -8 = nI 8 by decide, t2, show nI 8 + -8 = nI 0 by decide, t3, f_X11_tapeWord_3.eq_2, if_pos (by decide)]
  rfl
theorem Inv.gen {h' : Hp} (I : Inv z0 h0 b c z h) (hR : h'.2.2 = h.2.2) (F : Fr b h h') (h73 : h'.I (b + 73) = h.I (b + 73)) (h74 : h'.I (b + 74) = h.I (b + 74)) (hp : ∀ k, 11 ≤ k → k < 37 → k ≠ 13 → k ≠ 14 → h'.I (b + k) = h.I (b + k)) (hq : ∀ k, 60 ≤ k → k < 64 → h'.I (b + k) = h.I (b + k)) (T : TrayI b h') (TP : TapeI b h') : Inv z0 h0 b c z h' := by
  have RR : ∀ a, h'.R a = h.R a := fun a => by
    show h'.2.2 a = h.2.2 a
    rw [hR]
  obtain ⟨i1, i2, i3, i4, ⟨i5, i5'⟩, -, -, i8, i9⟩ := I
  exact ⟨i1.fr F, by rw [hR]; exact i2, by rw [hR]; exact i3, i4.fr F (by rw [RR]) h73 hp, ⟨i5.fr F (by omega) (by rw [RR]) (by rw [h74]) (fun k _ => by rw [h73]) hq, i5'.fr F (by omega) (by rw [RR]) (by rw [h74]) (fun k _ => by rw [h73]) hq⟩, T, TP, i8.fr F, i9.fr F⟩
def wd5 (x1 x2 x3 x4 x5 : Int32) (q : Nat) : Int32 := if q < 1 then x1 else if q < 2 then x2 else if q < 3 then x3 else if q < 4 then x4 else x5
def fdM (h : Hp) (b : Nat) (w : Nat → Int32) (tp m : Nat) : Hp := (h.rowI (b + 75) (fedM (h.I (b + 75)) w tp m)).rowI (b + 72) (upd (h.I (b + 72)) 5 (nI (tp + m)))
theorem feed_24 (HM : LayR z h.2.2 (b + 72)) {tp : Nat} (ht : tp + 20 ≤ 900) (x1 x2 x3 x4 x5 : Int32) : ∀ (d j i : Nat), j + d = 20 → d < i → f_X12_feed_24 n z i (fdM h b (wd5 x1 x2 x3 x4 x5) tp j) (b + 72) x1 x2 x3 x4 x5 (nI j) = some (nI (tp + 20), fdM h b (wd5 x1 x2 x3 x4 x5) tp 20) := by
  have km := km_0 HM
  have e1 : ∀ m, (fdM h b (wd5 x1 x2 x3 x4 x5) tp m).I (b + 72) 5 = nI (tp + m) := fun m => by
    unfold fdM
    rw [rowI_I, upd, if_pos rfl]
  intro d
  induction d with
  | zero =>
    intro j i hj hi
    obtain ⟨i, rfl⟩ : ∃ k, i = k + 1 := ⟨i - 1, by omega⟩
    obtain rfl : j = 20 := by omega
    rw [f_X12_feed_24.eq_2, show (20 : Int32) = nI 20 from rfl, if_pos ((nI_leI (by omega) (by omega)).mpr (Nat.le_refl _)), gI_ok km, bS, e1]
  | succ d ih =>
    intro j i hj hi
    obtain ⟨i, rfl⟩ : ∃ k, i = k + 1 := ⟨i - 1, by omega⟩
    have ih := ih (j + 1) i (by omega) (by omega)
    have e2 : (fdM h b (wd5 x1 x2 x3 x4 x5) tp j).I (b + 75) = fedM (h.I (b + 75)) (wd5 x1 x2 x3 x4 x5) tp j := by
      unfold fdM
      rw [rowI_ne _ _ (by omega), rowI_I]
    have HM1 : LayR z (fdM h b (wd5 x1 x2 x3 x4 x5) tp j).2.2 (b + 72) := HM
    have step : f_X12_feed_77 n z (f_X12_feed_24 n z i) (fdM h b (wd5 x1 x2 x3 x4 x5) tp j) (b + 72) x1 x2 x3 x4 x5 (nI j) (wd5 x1 x2 x3 x4 x5 (j / 4)) = some (nI (tp + 20), fdM h b (wd5 x1 x2 x3 x4 x5) tp 20) := by
      unfold f_X12_feed_77
      have sh : (24 : Int32) - 8 * nI (j % 4) = nI (shM j) := by
        unfold shM
        rw [show (24 : Int32) = nI 24 from rfl, show (8 : Int32) = nI 8 from rfl, nI_mul, nI_sub (by omega)]
      rw [gR_ok km (rm_3 HM1), bS, gI_ok km, bS, e1, show (4 : Int32) = nI 4 from rfl, rmI_ok (by omega) (by omega) (by omega), bS, sh, bM_ok _ (shM_ok j), sm_3 HM1 (by omega), bS, gI_ok km, bS]
      have e3 : ((fdM h b (wd5 x1 x2 x3 x4 x5) tp j).setI (b + 75) (tp + j) (nI (bV (wd5 x1 x2 x3 x4 x5 (j / 4)) (shM j)))).I (b + 72) = (fdM h b (wd5 x1 x2 x3 x4 x5) tp j).I (b + 72) := rowI_ne _ _ (by omega)
      rw [e3, e1, pI_ok km, bS, bS, show nI j + 1 = nI (j + 1) from nI_add j 1, show nI (tp + j) + 1 = nI (tp + (j + 1)) from nI_add (tp + j) 1]
      rw [setI_row, setI_row, e2, fedM_s]
      have e4 : (((fdM h b (wd5 x1 x2 x3 x4 x5) tp j).rowI (b + 75) (fedM (h.I (b + 75)) (wd5 x1 x2 x3 x4 x5) tp (j + 1))).rowI (b + 72) (upd (((fdM h b (wd5 x1 x2 x3 x4 x5) tp j).rowI (b + 75) (fedM (h.I (b + 75)) (wd5 x1 x2 x3 x4 x5) tp (j + 1))).I (b + 72)) 5 (nI (tp + (j + 1))))) = fdM h b (wd5 x1 x2 x3 x4 x5) tp (j + 1) := by
        unfold fdM
        rw [rowI_ne _ _ (by omega), rowI_I, rowI_comm _ _ _ (by omega), rowI_rowI, rowI_comm _ _ _ (by omega), rowI_rowI]
        congr 1
        funext k
        unfold upd
        split <;> rfl
      rw [e4]
      exact ih
    have L : ∀ k : Nat, k < 100 → ((nI k ≤ nI j) ↔ (k ≤ j)) := fun k hk => nI_leI (by omega) (by omega)
    have l20 : ¬ ((20 : Int32) ≤ nI j) := fun q => by have := (L 20 (by omega)).mp q; omega
    rw [f_X12_feed_24.eq_2, if_neg l20]
    unfold wd5 at step
    by_cases c1 : j < 4
    · rw [if_neg (show ¬ ((4 : Int32) ≤ nI j) from fun q => by have := (L 4 (by omega)).mp q; omega)]
      rw [if_pos (by omega)] at step
      exact step
    · rw [if_pos (show ((4 : Int32) ≤ nI j) from (L 4 (by omega)).mpr (by omega))]
      rw [if_neg (by omega)] at step
      by_cases c2 : j < 8
      · rw [if_neg (show ¬ ((8 : Int32) ≤ nI j) from fun q => by have := (L 8 (by omega)).mp q; omega)]
        rw [if_pos (by omega)] at step
        exact step
      · rw [if_pos (show ((8 : Int32) ≤ nI j) from (L 8 (by omega)).mpr (by omega))]
        rw [if_neg (by omega)] at step
        by_cases c3 : j < 12
        · rw [if_neg (show ¬ ((12 : Int32) ≤ nI j) from fun q => by have := (L 12 (by omega)).mp q; omega)]
          rw [if_pos (by omega)] at step
          exact step
        · rw [if_pos (show ((12 : Int32) ≤ nI j) from (L 12 (by omega)).mpr (by omega))]
          rw [if_neg (by omega)] at step
          by_cases c4 : j < 16
          · rw [if_neg (show ¬ ((16 : Int32) ≤ nI j) from fun q => by have := (L 16 (by omega)).mp q; omega)]
            rw [if_pos (by omega)] at step
            exact step
          · rw [if_pos (show ((16 : Int32) ≤ nI j) from (L 16 (by omega)).mpr (by omega))]
            rw [if_neg (by omega)] at step
            exact step
theorem feed_ok (I : Inv z0 h0 b c z h) (hn : 400000 ≤ n) (x1 x2 x3 x4 x5 : Int32) : ∃ r h1 h2, f_X11_feed n z h b x1 x2 x3 x4 x5 = some (r, h1) ∧ f_X12_feed n z h1 (b + 72) x1 x2 x3 x4 x5 = some (r, h2) ∧ Inv z0 h0 b c z h2 := by
  have HX := I.2.1
  have HM := I.2.2.1
  obtain ⟨⟨tp, t1, t2, t3, t4⟩, t5, t6⟩ := I.2.2.2.2.2.2.1
  have km := km_0 HM
  unfold f_X11_feed
  rw [if_pos (kx_0 HX), gI_ok (kx_0 HX), bS, t2, show (20 : Int32) = nI 20 from rfl, nI_add, show (900 : Int32) = nI 900 from rfl]
  have g5 : ∀ g : Hp, (g.setI (b + 72) 0 0).I (b + 72) 5 = g.I (b + 72) 5 := fun g => by rw [setI_I, if_pos rfl, upd, if_neg (by omega)]
  by_cases cc : tp + 20 ≤ 900
  · rw [if_pos ((nI_leI (by omega) (by omega)).mpr cc)]
    have w : ∀ q, q < 5 → f_X11_tapeWord n z (fdH h b (wd5 x1 x2 x3 x4 x5) tp (4 * q)) b (wd5 x1 x2 x3 x4 x5 q) = some (fdH h b (wd5 x1 x2 x3 x4 x5) tp (4 * (q + 1))) := fun q hq => tw_ok HX hn (by omega)
    have s0 : fdH h b (wd5 x1 x2 x3 x4 x5) tp (4 * 0) = h := by
      unfold fdH
      rw [fed_0, rowI_self]
      have : upd (h.I b) 1 (nI (tp + 4 * 0)) = h.I b := by
        funext k
        unfold upd
        split
        · rename_i e
          rw [e, t2]
          rfl
        · rfl
      rw [this, rowI_self]
    have w0 := w 0 (by omega)
    rw [s0] at w0
    rw [show f_X11_tapeWord n z h b x1 = some (fdH h b (wd5 x1 x2 x3 x4 x5) tp (4 * (0 + 1))) from w0, bS, show f_X11_tapeWord n z (fdH h b (wd5 x1 x2 x3 x4 x5) tp (4 * (0 + 1))) b x2 = some (fdH h b (wd5 x1 x2 x3 x4 x5) tp (4 * (1 + 1))) from w 1 (by omega), bS, show f_X11_tapeWord n z (fdH h b (wd5 x1 x2 x3 x4 x5) tp (4 * (1 + 1))) b x3 = some (fdH h b (wd5 x1 x2 x3 x4 x5) tp (4 * (2 + 1))) from w 2 (by omega), bS, show f_X11_tapeWord n z (fdH h b (wd5 x1 x2 x3 x4 x5) tp (4 * (2 + 1))) b x4 = some (fdH h b (wd5 x1 x2 x3 x4 x5) tp (4 * (3 + 1))) from w 3 (by omega), bS, show f_X11_tapeWord n z (fdH h b (wd5 x1 x2 x3 x4 x5) tp (4 * (3 + 1))) b x5 = some (fdH h b (wd5 x1 x2 x3 x4 x5) tp 20) from w 4 (by omega), bS, gI_ok (kx_0 HX), bS]
    have a1 : (fdH h b (wd5 x1 x2 x3 x4 x5) tp 20).I b 1 = nI (tp + 20) := by
      unfold fdH
      rw [rowI_I, upd, if_pos rfl]
    have a2 : (fdH h b (wd5 x1 x2 x3 x4 x5) tp 20).I (b + 1) = fed (h.I (b + 1)) (wd5 x1 x2 x3 x4 x5) tp 20 := by
      unfold fdH
      rw [rowI_ne _ _ (by omega), rowI_I]
    have a3 : ∀ a, a ≠ b → a ≠ b + 1 → (fdH h b (wd5 x1 x2 x3 x4 x5) tp 20).I a = h.I a := fun a e1 e2 => by
      unfold fdH
      rw [rowI_ne _ _ e1, rowI_ne _ _ e2]
    have a4 : (fdH h b (wd5 x1 x2 x3 x4 x5) tp 20).2.2 = h.2.2 := rfl
    have a5 : ∀ a, (fdH h b (wd5 x1 x2 x3 x4 x5) tp 20).J a = h.J a := fun _ => rfl
    rw [a1]
    generalize fdH h b (wd5 x1 x2 x3 x4 x5) tp 20 = g at *
    have HMg : LayR z (g.setI (b + 72) 0 0).2.2 (b + 72) := by
      show LayR z g.2.2 (b + 72)
      rw [a4]
      exact HM
    have g72 : g.I (b + 72) = h.I (b + 72) := a3 _ (by omega) (by omega)
    have m0 : fdM (g.setI (b + 72) 0 0) b (wd5 x1 x2 x3 x4 x5) tp 0 = g.setI (b + 72) 0 0 := by
      unfold fdM
      rw [fedM_0, rowI_self]
      have : upd ((g.setI (b + 72) 0 0).I (b + 72)) 5 (nI (tp + 0)) = (g.setI (b + 72) 0 0).I (b + 72) := by
        funext k
        unfold upd
        split
        · rename_i e
          rw [e, g5, g72, t3]
          rfl
        · rfl
      rw [this, rowI_self]
    have f1 := feed_24 (n := n) (z := z) HMg (tp := tp) cc x1 x2 x3 x4 x5 20 0 n (by omega) (by omega)
    rw [m0] at f1
    have b1 : ∀ k, k ≠ 0 → k ≠ 5 → (fdM (g.setI (b + 72) 0 0) b (wd5 x1 x2 x3 x4 x5) tp 20).I (b + 72) k = h.I (b + 72) k := fun k k1 k2 => by
      unfold fdM
      rw [rowI_I, upd, if_neg k2, setI_I, if_pos rfl, upd, if_neg k1, g72]
    have b5 : (fdM (g.setI (b + 72) 0 0) b (wd5 x1 x2 x3 x4 x5) tp 20).I (b + 72) 5 = nI (tp + 20) := by
      unfold fdM
      rw [rowI_I, upd, if_pos rfl]
    have b2 : ∀ a, a ≠ b + 72 → a ≠ b + 75 → (fdM (g.setI (b + 72) 0 0) b (wd5 x1 x2 x3 x4 x5) tp 20).I a = g.I a := fun a e1 e2 => by
      unfold fdM
      rw [rowI_ne _ _ e1, rowI_ne _ _ e2]
      exact rowI_ne _ _ e1
    have b3 : (fdM (g.setI (b + 72) 0 0) b (wd5 x1 x2 x3 x4 x5) tp 20).I (b + 75) = fedM (h.I (b + 75)) (wd5 x1 x2 x3 x4 x5) tp 20 := by
      unfold fdM
      rw [rowI_ne _ _ (by omega), rowI_I, show (g.setI (b + 72) 0 0).I (b + 75) = g.I (b + 75) from rowI_ne _ _ (by omega), a3 _ (by omega) (by omega)]
    have b4 : (fdM (g.setI (b + 72) 0 0) b (wd5 x1 x2 x3 x4 x5) tp 20).2.2 = h.2.2 := a4
    have b6 : ∀ a, (fdM (g.setI (b + 72) 0 0) b (wd5 x1 x2 x3 x4 x5) tp 20).J a = h.J a := a5
    refine two_go (y := fun g => f_X12_feed n z g (b + 72) x1 x2 x3 x4 x5) rfl ⟨fdM (g.setI (b + 72) 0 0) b (wd5 x1 x2 x3 x4 x5) tp 20, ?_, ?_⟩
    · unfold f_X12_feed
      rw [if_pos km, pI_ok km, bS, gI_ok km, bS, g5, g72, t3, show (20 : Int32) = nI 20 from rfl, nI_add, show (900 : Int32) = nI 900 from rfl, if_pos ((nI_leI (by omega) (by omega)).mpr cc)]
      exact f1
    · generalize fdM (g.setI (b + 72) 0 0) b (wd5 x1 x2 x3 x4 x5) tp 20 = g2 at *
      have e : ∀ a, a ≠ b → a ≠ b + 1 → a ≠ b + 72 → a ≠ b + 75 → g2.I a = h.I a := fun a k1 k2 k3 k4 => (b2 a k3 k4).trans (a3 a k1 k2)
      refine I.gen b4 (fun a ha => ⟨e a (by unfold kW at ha; omega) (by unfold kW at ha; omega) (by unfold kW at ha; omega) (by unfold kW at ha; omega), b6 a, by show g2.2.2 a = h.2.2 a; rw [b4]⟩) (e _ (by omega) (by omega) (by omega) (by omega)) (e _ (by omega) (by omega) (by omega) (by omega)) (fun k k1 k2 k3 k4 => e _ (by omega) (by omega) (by omega) (by omega)) (fun k k1 k2 => e _ (by omega) (by omega) (by omega) (by omega)) (I.2.2.2.2.2.1.fr (fun k k1 k2 => e _ (by omega) (by omega) (by omega) (by omega)) (fun k k1 k2 => b6 _) (e _ (by omega) (by omega) (by omega) (by omega)) (e _ (by omega) (by omega) (by omega) (by omega)) (b6 _)) ⟨⟨tp + 20, cc, ?_, b5, fun j hj => ?_⟩, ?_, ?_⟩
      · rw [b2 b (by omega) (by omega)]
        exact a1
      · rw [b3, b2 (b + 1) (by omega) (by omega), a2]
        unfold fed fedM
        by_cases cj : tp ≤ j ∧ j < tp + 20
        · rw [if_pos cj, if_pos cj]
          exact ⟨_, bV_lt _ _, rfl, bC_ok _ (shM_ok _)⟩
        · rw [if_neg cj, if_neg cj]
          exact t4 j (by omega)
      · rw [b1 13 (by omega) (by omega), e (b + 2) (by omega) (by omega) (by omega) (by omega)]
        exact t5
      · rw [b1 14 (by omega) (by omega), e (b + 2) (by omega) (by omega) (by omega) (by omega)]
        exact t6
  · rw [if_neg (fun q => cc ((nI_leI (by omega) (by omega)).mp q)), f_X11_refused, bS]
    refine two_go (y := fun g => f_X12_feed n z g (b + 72) x1 x2 x3 x4 x5) rfl ⟨h.setI (b + 72) 0 0, ?_, ref_sc I 0⟩
    unfold f_X12_feed
    rw [if_pos km, pI_ok km, bS, gI_ok km, bS, g5, t3, show (20 : Int32) = nI 20 from rfl, nI_add, show (900 : Int32) = nI 900 from rfl, if_neg (fun q => cc ((nI_leI (by omega) (by omega)).mp q))]
    rfl
end
