/-! ===== stands as the class counts them; memos ===== -/
theorem SV_rng {τ : TT} (hτ : TownOK τ) {s : Nat} (hs : SV τ s) : (sL s = 1 ∧ sO s = 0 ∨ sL s = 2 ∧ sO s ≤ 6) ∧ sY s ≤ tY τ ∧ tY τ ≤ 6 ∧ ((sA s = 9 ∧ sT s = 0) ∨ (sA s < 4 ∧ sA s < tD τ ∧ 1 ≤ sT s ∧ sT s ≤ sY s)) := by
  obtain ⟨h0, h1, h2, h3⟩ := hs
  have hY := hτ.1
  have hD := hτ.2.1
  refine ⟨by omega, h2, hY.2, by omega⟩
def eL (s : Nat) : Nat := if sL s = 2 then 1 + sO s else 0
def eH (s : Nat) : Nat := if sA s = 9 then 0 else sA s * 6 + sT s
theorem enc_eq (s : Nat) : enc s = (eL s * 7 + sY s) * 25 + eH s := rfl
theorem e_bd {τ : TT} (hτ : TownOK τ) {s : Nat} (hs : SV τ s) : eL s ≤ 7 ∧ sY s ≤ 6 ∧ eH s ≤ 24 ∧ enc s < 1400 := by
  obtain ⟨h1, h2, h3, h4⟩ := SV_rng hτ hs
  have a1 : eL s ≤ 7 := by unfold eL; split <;> omega
  have a2 : eH s ≤ 24 := by unfold eH; split <;> omega
  refine ⟨a1, by omega, a2, ?_⟩
  rw [enc_eq]
  omega
theorem sN_self {s : Nat} (hs : s < 3430) (h9 : sA s = 9 ∨ sA s ≤ 3) : sN (sL s) (sO s) (sY s) (sA s) (sT s) = s := by
  unfold sN sL sO sY sT sA
  by_cases c : s / 7 % 5 = 4
  · rw [if_pos c, if_pos rfl]
    omega
  · rw [if_neg c, if_neg (by omega)]
    omega
theorem enc_inj {τ : TT} (hτ : TownOK τ) {s s' : Nat} (hs : SV τ s) (hs' : SV τ s') (h : enc s = enc s') : s = s' := by
  obtain ⟨h1, h2, h3, h4⟩ := SV_rng hτ hs
  obtain ⟨g1, g2, g3, g4⟩ := SV_rng hτ hs'
  obtain ⟨a1, a2, a3, a4⟩ := e_bd hτ hs
  obtain ⟨b1, b2, b3, b4⟩ := e_bd hτ hs'
  rw [enc_eq, enc_eq] at h
  have e1 : eL s = eL s' := by omega
  have e2 : sY s = sY s' := by omega
  have e3 : eH s = eH s' := by omega
  have f1 : sL s = sL s' ∧ sO s = sO s' := by
    unfold eL at e1
    split at e1 <;> split at e1 <;> omega
  have f2 : sA s = sA s' ∧ sT s = sT s' := by
    unfold eH at e3
    split at e3 <;> split at e3 <;> omega
  rw [← sN_self hs.1 (by omega), ← sN_self hs'.1 (by omega), f1.1, f1.2, e2, f2.1, f2.2]
section
variable {z : Sh} {h : Hp} {b : Nat} {τ : TT}
theorem xy_ok (hτ : TownOK τ) {s : Nat} (hs : SV τ s) : f_X10_yearOf z h (nI (enc s)) = some (nI (sY s)) := by
  obtain ⟨a1, a2, a3, a4⟩ := e_bd hτ hs
  have e := enc_eq s
  unfold f_X10_yearOf
  rw [show (25 : Int32) = nI 25 from rfl, dvI_ok (by omega) (by omega) (by omega), bS, show (7 : Int32) = nI 7 from rfl, rmI_ok (by omega) (by omega) (by omega), bS]
  congr 2
  omega
theorem xl_ok (hτ : TownOK τ) {s : Nat} (hs : SV τ s) : f_X10_lifeOf z h (nI (enc s)) = some (nI (eL s)) := by
  obtain ⟨a1, a2, a3, a4⟩ := e_bd hτ hs
  have e := enc_eq s
  unfold f_X10_lifeOf
  rw [show (175 : Int32) = nI 175 from rfl, dvI_ok (by omega) (by omega) (by omega), bS]
  congr 2
  omega
theorem xa_ok (hτ : TownOK τ) {s : Nat} (hs : SV τ s) : f_X10_lastOf z h (nI (enc s)) = some (nI (sA s)) := by
  obtain ⟨a1, a2, a3, a4⟩ := e_bd hτ hs
  obtain ⟨h1, h2, h3, h4⟩ := SV_rng hτ hs
  have e := enc_eq s
  have eh : enc s % 25 = eH s := by omega
  unfold f_X10_lastOf
  rw [show (25 : Int32) = nI 25 from rfl, rmI_ok (by omega) (by omega) (by omega), bS, eh]
  by_cases c : sA s = 9
  · have : eH s = 0 := by unfold eH; rw [if_pos c]
    rw [this, if_pos (show nI 0 = (0 : Int32) from rfl), c]
    rfl
  · have : eH s = sA s * 6 + sT s := by unfold eH; rw [if_neg c]
    rw [if_neg (show ¬ nI (eH s) = 0 from fun q => by have := (nI_inj (j := 0) (by omega) (by omega)).mp q; omega), show (1 : Int32) = nI 1 from rfl, nI_sub (by omega), show (6 : Int32) = nI 6 from rfl, dvI_ok (by omega) (by omega) (by omega), bS]
    congr 2
    omega
theorem xt_ok (hτ : TownOK τ) {s : Nat} (hs : SV τ s) : f_X10_streakOf z h (nI (enc s)) = some (nI (sT s)) := by
  obtain ⟨a1, a2, a3, a4⟩ := e_bd hτ hs
  obtain ⟨h1, h2, h3, h4⟩ := SV_rng hτ hs
  have e := enc_eq s
  have eh : enc s % 25 = eH s := by omega
  unfold f_X10_streakOf
  rw [show (25 : Int32) = nI 25 from rfl, rmI_ok (by omega) (by omega) (by omega), bS, eh]
  by_cases c : sA s = 9
  · have : eH s = 0 := by unfold eH; rw [if_pos c]
    rw [this, if_pos (show nI 0 = (0 : Int32) from rfl), show sT s = 0 by omega]
    rfl
  · have : eH s = sA s * 6 + sT s := by unfold eH; rw [if_neg c]
    rw [if_neg (show ¬ nI (eH s) = 0 from fun q => by have := (nI_inj (j := 0) (by omega) (by omega)).mp q; omega), show (1 : Int32) = nI 1 from rfl, nI_sub (by omega), show (6 : Int32) = nI 6 from rfl, rmI_ok (by omega) (by omega) (by omega), bS, nI_add]
    congr 2
    omega
theorem xlv_ok (hτ : TownOK τ) (hK : z.K (b + 44) = 10) {s t : Nat} (hs : SV τ s) (ht : t < tD τ) (hy : sY s < tY τ) : f_X10_afterYear z h (b + 44) (nI (enc s)) (nI t) = some (nI (enc (lvN s t))) := by
  obtain ⟨a1, a2, a3, a4⟩ := e_bd hτ hs
  obtain ⟨h1, h2, h3, h4⟩ := SV_rng hτ hs
  obtain ⟨l1, l2, l3, l4, l5, l6⟩ := lv_SV hτ hs ht hy
  have hD := hτ.2.1
  have e := enc_eq s
  have e2 := enc_eq (lvN s t)
  have hL : eL (lvN s t) = eL s := by unfold eL; rw [l2, l3]
  have hH : eH (lvN s t) = t * 6 + (if sA s = t then sT s + 1 else 1) := by unfold eH; rw [l5, l6, if_neg (by omega)]
  have fin : ∀ st, st ≤ 6 → st = (if sA s = t then sT s + 1 else 1) → f_X10_afterYear_18 z h (nI (enc s)) (nI t) (nI st) = some (nI (enc (lvN s t))) := fun st h1 h2 => by
    unfold f_X10_afterYear_18
    rw [show (6 : Int32) = nI 6 from rfl, min_ok (by omega) (by omega), bS, bS, nI_mul, nI_add, show (25 : Int32) = nI 25 from rfl, dvI_ok (by omega) (by omega) (by omega), bS, show (1 : Int32) = nI 1 from rfl, nI_add, nI_mul, nI_add, Nat.min_eq_left h1]
    congr 2
    rw [e2, hL, l4, hH, ← h2]
    omega
  unfold f_X10_afterYear
  rw [if_pos hK, xa_ok hτ hs, bS, xt_ok hτ hs, bS]
  by_cases c : sA s = t
  · rw [if_pos (by rw [c]), show nI (sT s) + 1 = nI (sT s + 1) from nI_add _ 1]
    exact fin _ (by omega) (by rw [if_pos c])
  · rw [if_neg (fun q => c ((nI_inj (by omega) (by omega)).mp q))]
    exact fin 1 (by omega) (by rw [if_neg c])
theorem enc_dr {tal s : Nat} (hτ : TownOK τ) (hs : SV τ s) : enc (drN τ tal s) = ((1 + sY s) * 7 + gV τ tal (sY s)) * 25 := by
  obtain ⟨l1, l2, l3, l4, l5, l6⟩ := dr_SV (tal := tal) hτ hs
  rw [enc_eq, eL, eH, l2, l3, l4, l5, if_pos rfl, if_pos rfl]
  rfl
theorem opn_ok (hK : z.K (b + 44) = 10) (hτ : TownOK τ) {wt s : Nat} (hR : h.R (b + 44) 3 = some wt) (hT : TownX b z h wt τ) (hs : SV τ s) : f_X10_openTrades z h (b + 44) (nI (enc s)) = some (nI (opn τ s)) := by
  obtain ⟨a1, a2, a3, a4⟩ := e_bd hτ hs
  have hY := hτ.1
  unfold f_X10_openTrades opn
  rw [if_pos hK, xy_ok hτ hs, bS, gR_ok hK hR, bS, gI_ok hT.2.1, bS, hT.2.2.1, bS, gI_ok hT.2.1, bS, hT.2.2.2.1]
  by_cases c : sY s < tY τ
  · rw [if_neg (fun q => by have := (nI_leI (by omega) (by omega)).mp q; omega), if_pos c]
  · rw [if_pos ((nI_leI (by omega) (by omega)).mpr (by omega)), if_neg c]
    rfl
theorem adr_ok (HX : LayX z h.2.2 b) (hτ : TownOK τ) {tal s : Nat} {md : Bool} (hs : SV τ s) (hm : h.I (b + 44) 6 = (if md = true then nI 1 else nI 0)) (hg : ∀ y, y < 7 → h.I (b + 46) y = nI (gV τ tal y)) : f_X10_afterDrawing z h (b + 44) (nI (enc s)) = some (if md = true ∧ sL s = 1 then nI (enc (drN τ tal s)) else -1) := by
  obtain ⟨a1, a2, a3, a4⟩ := e_bd hτ hs
  obtain ⟨h1, h2, h3, h4⟩ := SV_rng hτ hs
  have hK := kx_44 HX
  unfold f_X10_afterDrawing
  rw [if_pos hK, xl_ok hτ hs, bS]
  by_cases cl : sL s = 1
  · have e0 : eL s = 0 := by unfold eL; rw [if_neg (by omega)]
    rw [e0, if_pos (show nI 0 = (0 : Int32) from rfl), gI_ok hK, bS, hm]
    cases md with
    | true =>
      rw [if_pos rfl, if_neg (show ¬ nI 1 = (0 : Int32) by decide), xy_ok hτ hs, bS, if_pos ⟨rfl, cl⟩]
      unfold f_X10_grownAt
      rw [if_pos hK, if_neg (nI_pos (by omega)), gR_ok hK (rx_44_2 HX), bS, aL_ok (kx_46 HX) rfl (nx_46 HX), bS, if_neg (fun q => by have := (nI_leI (by omega) (by omega)).mp q; omega), bS, ldI_ok (kx_46 HX) (nx_46 HX) rfl (show sY s < 7 by omega) (by omega), bS, hg _ (by omega), bS, show (1 : Int32) = nI 1 from rfl, nI_add, show (7 : Int32) = nI 7 from rfl, nI_mul, nI_add, show (25 : Int32) = nI 25 from rfl, nI_mul, enc_dr hτ hs]
    | false =>
      rw [if_neg (show ¬ false = true by decide), if_pos (show nI 0 = (0 : Int32) from rfl), if_neg (fun q => absurd q.1 (by decide))]
  · have e0 : ¬ eL s = 0 := by unfold eL; rw [if_pos (by omega)]; omega
    rw [if_neg (show ¬ nI (eL s) = 0 from fun q => e0 ((nI_inj (j := 0) (by omega) (by omega)).mp q)), if_neg (fun q => cl q.2)]
/-- a person's stand -/
theorem xst_ok {q r P : Nat} {A : Nat → Int32} (HP : PL z h.2.2 q r) (X : PeopleX (h.I q) (h.I r) A P) (h6 : P ≤ 6) (hτ : TownOK τ) {p : Nat} (hp : p < P) (hper : PerOK τ A p) : f_X10_standOf z h q (nI p) = some (nI (enc (aS A p))) := by
  obtain ⟨s0, s1, s2, s3, s4, s5, s6, e11, e12, e13, e14, e15, -⟩ := Per_st hτ hper
  obtain ⟨h1, h2, h3, h4⟩ := SV_rng hτ s1
  have hX := PX_P X hp
  have pt : ∀ {w : Nat}, w < 9 → f_X5_part z h q (nI p) (nI w) = some (h.I r (9 * p + w)) := fun hw => part_ok HP (by omega) hw
  have p1 : f_X5_part z h q (nI p) 1 = some (nI (sL (aS A p))) := (pt (w := 1) (by omega)).trans (by rw [hX.2.1, e11, s2])
  have p5 : f_X5_part z h q (nI p) 5 = some (nI (sO (aS A p))) := (pt (w := 5) (by omega)).trans (by rw [hX.2.2.2.2.2.1, e12, s3])
  have p3 : f_X5_part z h q (nI p) 3 = some (nI (sA (aS A p))) := (pt (w := 3) (by omega)).trans (by rw [hX.2.2.2.1, e14, s5])
  have p4 : f_X5_part z h q (nI p) 4 = some (nI (sT (aS A p))) := (pt (w := 4) (by omega)).trans (by rw [hX.2.2.2.2.1, e15, s6])
  have p0 : f_X5_part z h q (nI p) 0 = some (nI (sY (aS A p))) := (pt (w := 0) (by omega)).trans (congrArg some (by rw [Nat.add_zero (9 * p), hX.1, e13, s4]))
  generalize aS A p = s at *
  have f51 : ∀ L H, L ≤ 7 → H ≤ 24 → f_X10_standOf_51 z h q (nI p) (nI L) (nI H) = some (nI ((L * 7 + sY s) * 25 + H)) := fun L H hL hH => by
    unfold f_X10_standOf_51
    rw [p0, bS, show (7 : Int32) = nI 7 from rfl, nI_mul, nI_add, show (25 : Int32) = nI 25 from rfl, nI_mul, nI_add]
  have f22 : ∀ L, L ≤ 7 → f_X10_standOf_22 z h q (nI p) (nI L) = some (nI ((L * 7 + sY s) * 25 + eH s)) := fun L hL => by
    unfold f_X10_standOf_22 eH
    rw [p3, bS, p4, bS]
    by_cases c : sA s = 9
    · rw [if_pos (by rw [c]; rfl), if_pos c]
      exact f51 L 0 hL (by omega)
    · rw [if_neg (show ¬ nI (sA s) = 9 from fun q => c ((nI_inj (j := 9) (by omega) (by omega)).mp q)), if_neg c, show (6 : Int32) = nI 6 from rfl, nI_mul, nI_add]
      exact f51 L _ hL (by omega)
  unfold f_X10_standOf
  rw [p1, bS, p5, bS, enc_eq, eL]
  by_cases c : sL s = 2
  · rw [if_pos (by rw [c]; rfl), if_pos c, show (1 : Int32) = nI 1 from rfl, nI_add]
    exact f22 _ (by omega)
  · rw [if_neg (show ¬ nI (sL s) = 2 from fun q => c ((nI_inj (j := 2) (by omega) (by omega)).mp q)), if_neg c]
    exact f22 0 (by omega)
end
/-! memos -/
theorem lI_nn (v : Nat) : lI (v : Int) = Int64.ofNat v := by
  show Int64.ofInt v = Int64.ofNat v
  rw [← Int64.toBitVec_inj]
  simp [Int64.ofInt, Int64.ofNat]
def cel (s v : Nat) : Int64 := lI ((s : Int) * 281474976710656 + v)
theorem cel_nn (s v : Nat) : cel s v = Int64.ofNat (s * 281474976710656 + v) := by
  unfold cel
  rw [← lI_nn]
  congr 1
theorem ofN_bv {v : Nat} (h : v < 18446744073709551616) : (Int64.ofNat v).toBitVec.toNat = v := by
  show (BitVec.ofNat 64 v).toNat = v
  rw [BitVec.toNat_ofNat]
  omega
theorem bv_ofN {x : Int64} {v : Nat} (h : x.toBitVec.toNat = v) : x = Int64.ofNat v := by
  rw [← Int64.toBitVec_inj]
  apply BitVec.eq_of_toNat_eq
  have := x.toBitVec.isLt
  rw [h, ofN_bv (by omega)]
theorem cel_sh {s v : Nat} (hs : s < 32768) (hv : v < 281474976710656) : ((Int64.toUInt64 (cel s v) >>> ((Int32.toInt64 48).toUInt64 &&& Int64.toUInt64 63)).toInt64) = lI (s : Int) := by
  rw [lI_nn]
  apply bv_ofN
  rw [show (Int32.toInt64 48).toUInt64 &&& Int64.toUInt64 63 = 48 by decide]
  show (Int64.toUInt64 (cel s v) >>> (48 : UInt64)).toNat = s
  rw [UInt64.toNat_shiftRight, show (48 : UInt64).toNat % 64 = 48 by decide, Nat.shiftRight_eq_div_pow, cel_nn]
  show (Int64.ofNat (s * 281474976710656 + v)).toBitVec.toNat / 2 ^ 48 = s
  rw [ofN_bv (by omega)]
  omega
theorem and48 (x : Nat) (h : x < 18446744073709551616) : Int64.ofNat x &&& 281474976710655 = Int64.ofNat (x % 281474976710656) := by
  apply bv_ofN
  show ((Int64.ofNat x).toBitVec &&& 281474976710655#64).toNat = _
  rw [BitVec.toNat_and, ofN_bv h, BitVec.toNat_ofNat, show 281474976710655 % 2 ^ 64 = 2 ^ 48 - 1 by decide, Nat.and_two_pow_sub_one_eq_mod]
theorem cel_and {s v : Nat} (hs : s < 32768) (hv : v < 281474976710656) : cel s v &&& 281474976710655 = lI (v : Int) := by
  rw [cel_nn, and48 _ (by omega), lI_nn]
  congr 1
  omega
theorem cel_mk {s v : Nat} (hs : s < 32768) (hv : v < 281474976710656) : (((Int32.toInt64 (nI s)) <<< (Int32.toInt64 48 &&& 63)) ||| (lI (v : Int) &&& 281474976710655)) = cel s v := by
  rw [lI_nn, and48 _ (by omega), cel_nn, nI_iI, iI_64 (by omega) (by omega), lI_nn]
  apply bv_ofN
  rw [show (Int32.toInt64 48 &&& 63 : Int64) = 48 by decide]
  rw [Int64.toBitVec_or, BitVec.toNat_or, ofN_bv (by omega)]
  have e : ((Int64.ofNat s) <<< (48 : Int64)).toBitVec.toNat = s * 281474976710656 := by
    show ((Int64.ofNat s).toBitVec <<< ((48 : Int64).toBitVec.smod 64)).toNat = _
    rw [BitVec.shiftLeft_eq', show ((48 : Int64).toBitVec.smod 64).toNat = 48 by decide, BitVec.toNat_shiftLeft, ofN_bv (by omega), Nat.shiftLeft_eq]
    omega
  rw [e, Nat.mod_eq_of_lt hv]
  have := Nat.shiftLeft_add_eq_or_of_lt (i := 48) (b := v) (by omega) s
  rw [Nat.shiftLeft_eq, show (2 : Nat) ^ 48 = 281474976710656 by decide] at this
  omega
/-- a memo's cells -/
def MX (z : Sh) (h : Hp) (mo ro N : Nat) : Prop := z.K mo = 3 ∧ h.R mo 0 = some ro ∧ z.K ro = 15 ∧ z.N ro = N
theorem find_ok {z : Sh} {h : Hp} {mo ro N at_ st s v : Nat} (H : MX z h mo ro N) (hN : N < 2147483648) (ha : at_ < N) (hs : s ≤ st) (hst : st < 32768) (hv : v < 281474976710656) (hc : h.J ro at_ = lI ((s : Int) * 281474976710656 + v)) : f_X3_find z h mo (nI at_) (nI st) = some (if s = st then lI (v : Int) else -1) := by
  obtain ⟨h1, h2, h3, h4⟩ := H
  unfold f_X3_find
  have hc' : h.J ro at_ = cel s v := hc
  rw [if_pos h1, if_neg (nI_pos (by omega)), gR_ok h1 h2, bS, aL_ok h3 rfl h4, bS, if_pos ((nI_lt2 (by omega) (by omega)).mpr ha), bS, ldJ_ok (Or.inl h3) h4 rfl ha hN, bS, hc', show (65536 : Int32) = nI 65536 from rfl, rmI_ok (by omega) (by omega) (by omega), bS, Nat.mod_eq_of_lt (by omega), cel_sh (by omega) hv, cel_and (by omega) hv]
  have e : lg_cmp (lI (s : Int)) (Int32.toInt64 (nI st)) = 0 ↔ s = st := by
    rw [cmp_eq, lI_to (by omega) (by omega), to64, nI_to (by omega)]
    omega
  by_cases c : s = st
  · rw [if_pos (e.mpr c), if_pos c]
  · rw [if_neg (fun q => c (e.mp q)), if_neg c]
theorem mkeep_ok {z : Sh} {h : Hp} {mo ro N at_ st v : Nat} (H : MX z h mo ro N) (hN : N < 2147483648) (ha : at_ < N) (hst : st < 32768) (hv : v < 281474976710656) : f_X3_keep z h mo (nI at_) (nI st) (lI (v : Int)) = some (h.setJ ro at_ (lI ((st : Int) * 281474976710656 + v))) := by
  obtain ⟨h1, h2, h3, h4⟩ := H
  unfold f_X3_keep
  rw [if_pos h1, if_neg (nI_pos (by omega)), gR_ok h1 h2, bS, aL_ok h3 rfl h4, bS, if_neg (fun q => by have := (nI_leI (by omega) (by omega)).mp q; omega), bS, show (65536 : Int32) = nI 65536 from rfl, rmI_ok (by omega) (by omega) (by omega), bS, Nat.mod_eq_of_lt (by omega), cel_mk hst hv, stJ_ok h3 h4 rfl ha hN, bS]
  rfl
theorem MemoOK.up {cells : Nat → Int64} {N st : Nat} {V : Nat → Nat → Prop} (H : MemoOK cells N st V) {at_ v : Nat} (hst : 0 < st) (hv : v < 281474976710656) (hV : V at_ v) : MemoOK (vp_updL cells at_ (lI ((st : Int) * 281474976710656 + v))) N st V := by
  intro c hc
  unfold vp_updL
  by_cases e : c = at_
  · rw [if_pos e]
    exact ⟨st, v, Nat.le_refl _, hv, rfl, fun _ _ => by rw [e]; exact hV⟩
  · rw [if_neg e]
    exact H c hc
theorem MemoOK.next {cells : Nat → Int64} {N st : Nat} {V V' : Nat → Nat → Prop} (H : MemoOK cells N st V) : MemoOK cells N (st + 1) V' := by
  intro c hc
  obtain ⟨s, v, h1, h2, h3, h4⟩ := H c hc
  exact ⟨s, v, by omega, h2, h3, fun _ q => by omega⟩
theorem cel_inj {s s' v v' : Nat} (h1 : s < 32768) (h2 : s' < 32768) (h3 : v < 281474976710656) (h4 : v' < 281474976710656) (h : lI ((s : Int) * 281474976710656 + v) = lI ((s' : Int) * 281474976710656 + v')) : s = s' ∧ v = v' := by
  rw [lI_eq (by omega) (by omega) (by omega) (by omega)] at h
  omega
