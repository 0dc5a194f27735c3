/-! ===== means in the reference ===== -/
theorem dv10 {x : Int} (h1 : -900000000000000000 ≤ x) (h2 : x ≤ 900000000000000000) : dvJ (lI (10 * x)) 10 = some (lI x) := by
  unfold dvJ
  rw [if_pos (show ¬ (10 : Int64) = 0 by decide), show (10 : Int64) = lI 10 by decide]
  have := Int64.ofInt_tdiv (a := 10 * x) (b := 10) (by show (-9223372036854775808 : Int) ≤ 10 * x; omega) (by show 10 * x ≤ (9223372036854775807 : Int); omega) (by decide) (by decide)
  rw [Int.mul_tdiv_cancel_left x (show (10 : Int) ≠ 0 by decide)] at this
  exact congrArg some this.symm
/-- tens that are wanting to the twelfth -/
def eT (τ : TT) (s : Nat) : Int := 10 ^ (12 - tn τ s)
def Rv (τ : TT) (tal : Nat) (md : Bool) (s : Nat) : Int := Mv τ tal md s * eT τ s
section
variable {τ : TT} {tal : Nat} {md : Bool}
theorem eT_pos (s : Nat) : 0 < eT τ s := E_pos _
theorem eT_mul (hτ : TownOK τ) (s : Nat) : (10 : Int) ^ (tn τ s) * eT τ s = 1000000000000 := by
  unfold eT
  rw [← E_add, show tn τ s + (12 - tn τ s) = 12 by have := tn_le hτ s; omega]
  decide
theorem eT_bd (hτ : TownOK τ) {s : Nat} {x : Int} (h1 : -9 * 10 ^ (tn τ s) ≤ x) (h2 : x ≤ 9 * (tn τ s : Int) * 10 ^ (tn τ s)) : -9000000000000 ≤ x * eT τ s ∧ x * eT τ s ≤ 108000000000000 := by
  have p := eT_pos (τ := τ) s
  have e := eT_mul hτ s
  have h12 := tn_le hτ s
  have a1 := Int.mul_le_mul_of_nonneg_right h1 (show 0 ≤ eT τ s by omega)
  have a2 := Int.mul_le_mul_of_nonneg_right h2 (show 0 ≤ eT τ s by omega)
  rw [Int.mul_assoc, e] at a1 a2
  omega
theorem mY_bd (hτ : TownOK τ) {s t : Nat} (hs : SV τ s) (ht : t < opn τ s) : -9 * 10 ^ (tn τ s) ≤ mY τ tal md (Mv τ tal md) s t ∧ mY τ tal md (Mv τ tal md) s t ≤ 9 * (tn τ s : Int) * 10 ^ (tn τ s) := by
  obtain ⟨q1, q2⟩ := opn_lt ht
  have e1 := tn_lv hτ hs ht
  have hx := hτ.2.2.1
  have m1 := Mv_bd (tal := tal) (md := md) hτ (lv_SV hτ hs q2 q1).1
  have w1 := wV_bd τ tal s t
  have b1 := mD_bd (tal := tal) (md := md) (ten := tn τ s - 1) hτ hs (fun q => (tn_dr hτ hs q.2).2.2 (by omega)) (fun q => Mv_bd hτ (dr_SV hτ hs).1)
  have e2 : tn τ (lvN s t) = tn τ s - 1 := by omega
  rw [e2] at m1
  unfold mY
  generalize hT : tn τ s - 1 = T at *
  have eT : tn τ s = T + 1 := by omega
  rw [eT, Int.pow_succ]
  have p0 := E_pos T
  generalize (10 : Int) ^ T = E at *
  generalize mD τ tal md (Mv τ tal md) s T = d at *
  generalize Mv τ tal md (lvN s t) = a at *
  generalize wV τ tal s t = w at *
  have a1 := Int.mul_le_mul_of_nonneg_right w1.2 (show 0 ≤ E by omega)
  have a0 := Int.mul_le_mul_of_nonneg_right w1.1 (show 0 ≤ E by omega)
  have e9 : 9 * ((T : Int) + 1) * E = 9 * (T : Int) * E + 9 * E := by rw [Int.mul_add, Int.add_mul, Int.mul_one]
  have a2 : w * E + a ≤ 9 * ((T : Int) + 1) * E := by omega
  have a3 : d ≤ 9 * ((T : Int) + 1) * E := by omega
  have a4 := Int.mul_le_mul_of_nonneg_left a2 (show 0 ≤ 10 - (tX τ : Int) by omega)
  have a5 := Int.mul_le_mul_of_nonneg_left a3 (show 0 ≤ (tX τ : Int) by omega)
  have a6 : (10 - (tX τ : Int)) * (9 * ((T : Int) + 1) * E) + (tX τ : Int) * (9 * ((T : Int) + 1) * E) = 10 * (9 * ((T : Int) + 1) * E) := by rw [← Int.add_mul]; congr 1; omega
  have a7 := Int.mul_le_mul_of_nonneg_left (show -9 * E ≤ w * E + a by omega) (show 0 ≤ 10 - (tX τ : Int) by omega)
  have a8 := Int.mul_le_mul_of_nonneg_left b1.1 (show 0 ≤ (tX τ : Int) by omega)
  have a9 : (10 - (tX τ : Int)) * (-9 * E) = -90 * E + 9 * ((tX τ : Int) * E) := by
    rw [Int.sub_mul, show (tX τ : Int) * (-9 * E) = -9 * ((tX τ : Int) * E) by rw [Int.mul_left_comm]]
    omega
  have a10 : 0 ≤ (tX τ : Int) * E := Int.mul_nonneg (by omega) (by omega)
  rw [show ((T + 1 : Nat) : Int) = (T : Int) + 1 by omega, ← Int.mul_assoc, ← Int.mul_assoc]
  refine ⟨by omega, by omega⟩
theorem Rv_b (hτ : TownOK τ) {s : Nat} (hs : SV τ s) : 0 ≤ Rv τ tal md s ∧ Rv τ tal md s ≤ 108000000000000 := by
  have h := Mv_bd (tal := tal) (md := md) hτ hs
  have p := E_pos (tn τ s)
  exact ⟨Int.mul_nonneg h.1 (by have := eT_pos (τ := τ) s; omega), (eT_bd hτ (by omega) h.2).2⟩
theorem Rd_eq (hτ : TownOK τ) {s : Nat} (hs : SV τ s) : mD τ tal md (Mv τ tal md) s (tn τ s) * eT τ s = if md = true ∧ sL s = 1 then Rv τ tal md (drN τ tal s) else 0 := by
  unfold mD
  by_cases c : md = true ∧ sL s = 1
  · rw [if_pos c, if_pos c]
    unfold Rv eT
    have := tn_dr (tal := tal) hτ hs c.2
    have h12 := tn_le hτ s
    rw [Int.mul_assoc, ← E_add]
    congr 2
    omega
  · rw [if_neg c, if_neg c, Int.zero_mul]
theorem Rd_10 (hτ : TownOK τ) {s : Nat} (hs : SV τ s) (ho : 0 < opn τ s) : mD τ tal md (Mv τ tal md) s (tn τ s) * eT τ s = 10 * (mD τ tal md (Mv τ tal md) s (tn τ s - 1) * eT τ s) := by
  unfold mD
  by_cases c : md = true ∧ sL s = 1
  · rw [if_pos c, if_pos c]
    have := (tn_dr (tal := tal) hτ hs c.2).2.2 ho
    have h2 := tn_lv hτ hs ho
    rw [show tn τ s - tn τ (drN τ tal s) = (tn τ s - 1 - tn τ (drN τ tal s)) + 1 by omega, Int.pow_succ]
    simp only [Int.mul_comm, Int.mul_left_comm, Int.mul_assoc]
  · rw [if_neg c, if_neg c, Int.zero_mul]
    rfl
theorem Rl_10 (hτ : TownOK τ) {s t : Nat} (hs : SV τ s) (ht : t < opn τ s) : wV τ tal s t * 1000000000000 + Rv τ tal md (lvN s t) = 10 * ((wV τ tal s t * 10 ^ (tn τ s - 1) + Mv τ tal md (lvN s t)) * eT τ s) := by
  have e1 := tn_lv hτ hs ht
  have h12 := tn_le hτ s
  have e2 := eT_mul hτ s
  have e3 : eT τ (lvN s t) = eT τ s * 10 := by
    unfold eT
    rw [show 12 - tn τ (lvN s t) = (12 - tn τ s) + 1 by omega, Int.pow_succ]
  unfold Rv
  rw [e3, ← e2, show (10 : Int) ^ tn τ s = 10 ^ (tn τ s - 1) * 10 by rw [← Int.pow_succ]; congr 1; omega]
  simp only [Int.add_mul, Int.mul_add, Int.mul_comm, Int.mul_left_comm, Int.mul_assoc]
theorem RY_eq {s t : Nat} : (wV τ tal s t * 10 ^ (tn τ s - 1) + Mv τ tal md (lvN s t)) * eT τ s * (10 - (tX τ : Int)) + mD τ tal md (Mv τ tal md) s (tn τ s - 1) * eT τ s * (tX τ : Int) = mY τ tal md (Mv τ tal md) s t * eT τ s := by
  unfold mY
  generalize wV τ tal s t * 10 ^ (tn τ s - 1) + Mv τ tal md (lvN s t) = a
  generalize mD τ tal md (Mv τ tal md) s (tn τ s - 1) = d
  generalize 10 - (tX τ : Int) = u
  rw [Int.add_mul, Int.mul_right_comm a, Int.mul_comm a u, Int.mul_right_comm d, Int.mul_comm d]
theorem mulE_le {a d e : Int} (he : 0 < e) : a * e ≤ d * e ↔ a ≤ d := ⟨fun h => by
  rcases Int.lt_or_le d a with q | q
  · have := Int.mul_lt_mul_of_pos_right q he
    omega
  · exact q, fun h => Int.mul_le_mul_of_nonneg_right h (by omega)⟩
theorem mulE_eq {a d e : Int} (he : 0 < e) : a * e = d * e ↔ a = d := ⟨fun h => by
  have h1 := (mulE_le he).mp (Int.le_of_eq h)
  have h2 := (mulE_le he).mp (Int.le_of_eq h.symm)
  omega, fun h => by rw [h]⟩
end
section
variable {n : Nat} {z : Sh} {b : Nat} {τ : TT} {P : Nat} {A : Nat → Int32} {tal : Nat} {md : Bool}
/-- rows of a rank and above stay -/
def JL (b r : Nat) (τ : TT) (h h' : Hp) (R : Nat) : Prop := ∀ s', R ≤ rk τ s' → h'.J r s' = h.J r s' ∧ h'.I (b + 83) s' = h.I (b + 83) s'
theorem JL.refl (b r : Nat) (τ : TT) (h : Hp) (R : Nat) : JL b r τ h h R := fun _ _ => ⟨rfl, rfl⟩
theorem JL.trans {r : Nat} {h h' h'' : Hp} {R : Nat} (H : JL b r τ h h' R) (G : JL b r τ h' h'' R) : JL b r τ h h'' R := fun s' k => ⟨(G s' k).1.trans (H s' k).1, (G s' k).2.trans (H s' k).2⟩
/-- a reckoning within a stand -/
def MJ (z : Sh) (b r : Nat) (τ : TT) (P : Nat) (A : Nat → Int32) (tal : Nat) (md : Bool) (V : Nat → Int) (G : Hp → Option (Int64 × Hp)) (R : Nat) (v : Int) : Prop := ∀ h, BR b z h τ P A tal md → KJ b r h τ V R → ∃ h', G h = some (lI v, h') ∧ Dz b h h' ∧ KJ b r h' τ V R ∧ JL b r τ h h' R
theorem RJ.mj {r : Nat} {V : Nat → Int} {G : Hp → Option (Int64 × Hp)} {s1 R : Nat} (H : RJ z b r τ P A tal md V G s1) (hr : rk τ s1 < R) : MJ z b r τ P A tal md V G R (V s1) := by
  intro h B K
  obtain ⟨h', e, D, K', U⟩ := H h B (K.le (by omega))
  exact ⟨h', e, D, K.low U K', fun s' k => U s' (fun q => by rw [q] at k; omega) (by omega)⟩
theorem KJ.two {r R : Nat} {V : Nat → Int} {h : Hp} (K : KJ b r h τ V R) (f g : Nat → Int32) : KJ b r ((h.rowI (b + 78) f).rowI (b + 77) g) τ V R := K.same rfl (by rw [rowI_Ib, if_neg (by omega), rowI_Ib, if_neg (by omega)])
theorem JL.two (b r : Nat) (τ : TT) (h : Hp) (f g : Nat → Int32) (R : Nat) : JL b r τ h ((h.rowI (b + 78) f).rowI (b + 77) g) R := fun s' _ => ⟨rfl, by rw [rowI_Ib, if_neg (by omega), rowI_Ib, if_neg (by omega)]⟩
abbrev RM (z : Sh) (b : Nat) (τ : TT) (P : Nat) (A : Nat → Int32) (tal : Nat) (md : Bool) (G : Sh → Hp → Nat → Int32 → Option (Int64 × Hp)) (s : Nat) : Prop := RJ z b (b + 86) τ P A tal md (Rv τ tal md) (fun h => G z h (b + 72) (nI s)) s
abbrev RMd (z : Sh) (b : Nat) (τ : TT) (P : Nat) (A : Nat → Int32) (tal : Nat) (md : Bool) (G : Sh → Hp → Nat → Int32 → Option (Int64 × Hp)) (s : Nat) : Prop := MJ z b (b + 86) τ P A tal md (Rv τ tal md) (fun h => G z h (b + 72) (nI s)) (rk τ s) (mD τ tal md (Mv τ tal md) s (tn τ s) * eT τ s)
abbrev RMy (z : Sh) (b : Nat) (τ : TT) (P : Nat) (A : Nat → Int32) (tal : Nat) (md : Bool) (G : Sh → Hp → Nat → Int32 → Int32 → Option (Int64 × Hp)) (s t : Nat) : Prop := MJ z b (b + 86) τ P A tal md (Rv τ tal md) (fun h => G z h (b + 72) (nI s) (nI t)) (rk τ s) (mY τ tal md (Mv τ tal md) s t * eT τ s)
theorem rm_D (hn : 400000 ≤ n) {G1 : Sh → Hp → Nat → Int32 → Option (Int64 × Hp)} {G2 : Sh → Hp → Nat → Int32 → Int32 → Option (Int64 × Hp)} {G3 : Sh → Hp → Nat → Int32 → Option (Int64 × Hp)} {s : Nat} (hτ : TownOK τ) (hs : SV τ s) (hG : md = true ∧ sL s = 1 → RM z b τ P A tal md G3 (drN τ tal s)) : RMd z b τ P A tal md (F_X12_drawnMean n G1 G2 G3) s := by
  intro h B K
  have HM := B.1.1
  have hs0 := hs.1
  dsimp only
  unfold F_X12_drawnMean
  rw [if_pos (km_0 HM), can_ok B hs0, bS, Rd_eq hτ hs]
  by_cases hc : md = true ∧ sL s = 1
  · rw [if_pos hc, if_neg (show ¬ (1 : Int32) = 0 by decide), if_pos hc]
    obtain ⟨r1, r2, e1⟩ := mdrawn_ok (n := n) (z := z) (h := h) HM hn hτ (by rw [B.1.2.2.1]; exact B.1.2.2.2.1) B.2.2.2 hs0
    obtain ⟨h1, e2, D1, K1, L1⟩ := (hG hc).mj (rk_dr (tal := tal) hτ hs hc.2) _ (B.dz (Dz.two b h r1 r2)) (K.two r1 r2)
    refine ⟨h1, ?_, (Dz.two b h r1 r2).trans D1, K1, (JL.two b (b + 86) τ h r1 r2 _).trans L1⟩
    dsimp only at e2
    rw [gI_ok (km_0 HM), bS, B.2.1, e1, bS]
    dsimp only
    rw [ckK_ok (km_0 HM), bS, e2, bS]
  · rw [if_neg hc, if_pos rfl, if_neg hc]
    exact ⟨h, rfl, Dz.refl b h, K, JL.refl b (b + 86) τ h (rk τ s)⟩
theorem rm_Y (hn : 400000 ≤ n) {G1 : Sh → Hp → Nat → Int32 → Option (Int64 × Hp)} {G2 : Sh → Hp → Nat → Int32 → Int32 → Option (Int64 × Hp)} {G3 : Sh → Hp → Nat → Int32 → Option (Int64 × Hp)} {s t : Nat} (hτ : TownOK τ) (hs : SV τ s) (ht : t < opn τ s) (hG3 : RM z b τ P A tal md G3 (lvN s t)) (hG1 : RMd z b τ P A tal md G1 s) : RMy z b τ P A tal md (F_X12_livedMean n G1 G2 G3) s t := by
  intro h B K
  have HM := B.1.1
  have hs0 := hs.1
  have hx := hτ.2.2.1
  have o4 := opn4 hτ s
  obtain ⟨q1, q2⟩ := opn_lt ht
  have hlv := (lv_SV hτ hs q2 q1).1
  have r0 := rk_lv hτ hs q2 q1
  obtain ⟨r1, r2, e1⟩ := mworth_ok (n := n) (z := z) (h := h) HM hn hτ (by rw [B.1.2.2.1]; exact B.1.2.2.2.1) B.2.2.2 hs0 (show t ≤ 9 by omega)
  have B1 := B.dz (Dz.two b h r1 r2)
  obtain ⟨h1, e2, D1, K1, L1⟩ := hG3.mj (show rk τ (lvN s t) < rk τ s by omega) _ B1 (K.two r1 r2)
  have B2 := B1.dz D1
  obtain ⟨h2, e3, D2, K2, L2⟩ := hG1 _ B2 K1
  have B3 := B2.dz D2
  refine ⟨h2, ?_, ((Dz.two b h r1 r2).trans D1).trans D2, K2, ((JL.two b (b + 86) τ h r1 r2 _).trans L1).trans L2⟩
  have wb := wV_bd τ tal s t
  have lb := Rv_b (tal := tal) (md := md) hτ hlv
  have el := Rl_10 (tal := tal) (md := md) hτ hs ht
  have ed := Rd_10 (tal := tal) (md := md) hτ hs (by omega)
  have p := E_pos (tn τ s)
  have db := mD_bd (tal := tal) (md := md) (ten := tn τ s) hτ hs (fun q => (tn_dr hτ hs q.2).2.1) (fun q => Mv_bd hτ (dr_SV hτ hs).1)
  have db2 := eT_bd hτ (show -9 * 10 ^ (tn τ s) ≤ mD τ tal md (Mv τ tal md) s (tn τ s) by omega) db.2
  dsimp only at e2 e3 ⊢
  unfold F_X12_livedMean
  rw [if_pos (km_0 HM), gI_ok (km_0 HM), bS, B.2.1, e1, bS]
  dsimp only
  rw [lv_ok hs0 (by omega), bS, ckK_ok (km_0 HM), bS, e2, bS]
  dsimp only
  rw [iI_64 (by omega) (by omega), show (1000000000000 : Int64) = lI 1000000000000 by decide, lI_mul, lI_add, el, dv10 (by omega) (by omega), bS, gR_ok (km_0 HM) (rm_1 B2.1.1), bS, show (4 : Int32) = nI 4 from rfl, lm_1 B2.1.1 (by omega), bS, B2.1.2.2.1, B.1.2.2.2.1.2.2.1, bS, e3, bS]
  dsimp only
  rw [ed, dv10 (by omega) (by omega), bS, gR_ok (km_0 HM) (rm_1 B3.1.1), bS, lm_1 B3.1.1 (by omega), bS, B3.1.2.2.1, B.1.2.2.2.1.2.2.1, show (10 : Int32) = nI 10 from rfl, nI_sub (show tX τ ≤ 10 by omega), nI_iI (10 - tX τ), iI_64 (by omega) (by omega), lI_mul, nI_iI (tX τ), iI_64 (by omega) (by omega), lI_mul, lI_add, show ((10 - tX τ : Nat) : Int) = 10 - (tX τ : Int) by omega, RY_eq]
theorem rm_39 (hn : 400000 ≤ n) {G1 : Sh → Hp → Nat → Int32 → Option (Int64 × Hp)} {G2 : Sh → Hp → Nat → Int32 → Int32 → Option (Int64 × Hp)} {G3 : Sh → Hp → Nat → Int32 → Option (Int64 × Hp)} {s : Nat} (hτ : TownOK τ) (hs : SV τ s) (hG2 : ∀ t, t < opn τ s → RMy z b τ P A tal md G2 s t) {h0 : Hp} (K0 : KJ b (b + 86) h0 τ (Rv τ tal md) (rk τ s + 1)) : ∀ (d t i : Nat) (h : Hp), t + d = opn τ s → d < i → BR b z h τ P A tal md → KJ b (b + 86) h τ (Rv τ tal md) (rk τ s) → JL b (b + 86) τ h0 h (rk τ s) → Dz b h0 h → ∃ h', f_X12_meanFrom_39 n G1 G2 G3 z i h (b + 72) (nI s) (lI (mxT (fun t => mY τ tal md (Mv τ tal md) s t) (mD τ tal md (Mv τ tal md) s (tn τ s)) t * eT τ s)) (nI t) = some (lI (Rv τ tal md s), h') ∧ Dz b h0 h' ∧ KJ b (b + 86) h' τ (Rv τ tal md) (rk τ s + 1) ∧ JU b (b + 86) τ h0 h' s := by
  have hD := hτ.2.1
  have o4 := opn4 hτ s
  have hs0 := hs.1
  have ep := eT_pos (τ := τ) s
  have p := E_pos (tn τ s)
  have db := mD_bd (tal := tal) (md := md) (ten := tn τ s) hτ hs (fun q => (tn_dr hτ hs q.2).2.1) (fun q => Mv_bd hτ (dr_SV hτ hs).1)
  intro d
  induction d with
  | zero =>
    intro t i h hj hi B K L D
    obtain ⟨i, rfl⟩ : ∃ k, i = k + 1 := ⟨i - 1, by omega⟩
    obtain rfl : t = opn τ s := by omega
    have HM := B.1.1
    have hA := B.1.2.2.2.1
    have fin : ∃ h', f_X12_meanFrom_87 n G1 G2 G3 z h (b + 72) (nI s) (lI (Rv τ tal md s)) = some (lI (Rv τ tal md s), h') ∧ Dz b h0 h' ∧ KJ b (b + 86) h' τ (Rv τ tal md) (rk τ s + 1) ∧ JU b (b + 86) τ h0 h' s := by
      have i83 : ((h.setJ (b + 86) s (lI (Rv τ tal md s))).setI (b + 83) s (nI 1)).I (b + 83) = upd (h.I (b + 83)) s (nI 1) := by rw [setI_I, if_pos rfl]; rfl
      have j86 : ((h.setJ (b + 86) s (lI (Rv τ tal md s))).setI (b + 83) s (nI 1)).J (b + 86) = vp_updL (h.J (b + 86)) s (lI (Rv τ tal md s)) := by
        show (h.setJ (b + 86) s (lI (Rv τ tal md s))).J (b + 86) = _
        rw [setJ_J, if_pos rfl]
      refine ⟨(h.setJ (b + 86) s (lI (Rv τ tal md s))).setI (b + 83) s (nI 1), ?_, D.trans ⟨rfl, fun a ha => ?_, fun a ha => ?_⟩, ?_, fun s' e hr => ?_⟩
      · unfold f_X12_meanFrom_87
        rw [gR_ok (km_0 HM) (rm_29 HM), bS, sm_14 HM hs0, bS, gR_ok (km_0 HM) (rm_24 (h := h.setJ (b + 86) s (lI (Rv τ tal md s))) HM), bS, sm_11 HM hs0, bS, show vp_nar .boolean (1 : Int32) = nI 1 by decide]
      · show (h.setJ (b + 86) s (lI (Rv τ tal md s))).J a = _
        rw [setJ_J, if_neg (by omega)]
      · rw [setI_I, if_neg (by omega)]
        rfl
      · unfold KJ
        rw [i83, j86]
        refine ⟨fun s' hs' => ?_, fun s' hs' hr hk => ?_⟩
        · by_cases e' : s' = s
          · exact Or.inr (if_pos e')
          · have := K.1 s' hs'
            rw [← (show upd (h.I (b + 83)) s (nI 1) s' = h.I (b + 83) s' from if_neg e')] at this
            exact this
        · by_cases e' : s' = s
          · rw [e']; exact if_pos rfl
          · rw [show vp_updL (h.J (b + 86)) s (lI (Rv τ tal md s)) s' = h.J (b + 86) s' from if_neg e']
            have hk' : h.I (b + 83) s' = nI 1 := (if_neg e').symm.trans hk
            rcases Nat.lt_or_ge (rk τ s') (rk τ s) with q | q
            · exact K.2 s' hs' q hk'
            · obtain ⟨u1, u2⟩ := L s' q
              rw [u1]
              exact K0.2 s' hs' hr (by rw [← u2]; exact hk')
      · rw [i83, j86]
        obtain ⟨u1, u2⟩ := L s' hr
        exact ⟨(show vp_updL (h.J (b + 86)) s (lI (Rv τ tal md s)) s' = h.J (b + 86) s' from if_neg e).trans u1, (show upd (h.I (b + 83)) s (nI 1) s' = h.I (b + 83) s' from if_neg e).trans u2⟩
    rw [f_X12_meanFrom_39.eq_2, gR_ok (km_0 HM) (rm_1 HM), bS, show (2 : Int32) = nI 2 from rfl, lm_1 HM (by omega), bS, B.1.2.2.1, hA.2.1, ← Mv_eq hτ hs]
    by_cases hy : sY s < tY τ
    · have e : opn τ s = tD τ := by unfold opn; rw [if_pos hy]
      rw [if_pos ((nI_leI (by omega) (by omega)).mpr (by omega))]
      exact fin
    · have e : opn τ s = 0 := by unfold opn; rw [if_neg hy]
      rw [if_neg (fun q => by have := (nI_leI (by omega) (by omega)).mp q; omega), over_ok B.1 hs0, bS, if_neg hy, if_neg (show ¬ (1 : Int32) = 0 by decide)]
      exact fin
  | succ d ih =>
    intro t i h hj hi B K L D
    obtain ⟨i, rfl⟩ : ∃ k, i = k + 1 := ⟨i - 1, by omega⟩
    have HM := B.1.1
    have hA := B.1.2.2.2.1
    have hto : t < opn τ s := by omega
    obtain ⟨q1, q2⟩ := opn_lt hto
    obtain ⟨h1, e1, D1, K1, L1⟩ := hG2 t hto h B K
    have yb := mY_bd (tal := tal) (md := md) hτ hs hto
    have yb2 := eT_bd hτ yb.1 yb.2
    have xb := mxT_bd (g := fun t => mY τ tal md (Mv τ tal md) s t) (v := mD τ tal md (Mv τ tal md) s (tn τ s)) (B := 9 * (tn τ s : Int) * 10 ^ (tn τ s)) db.2 t (fun t' ht' => (mY_bd hτ hs (by omega)).2)
    have xb2 := eT_bd hτ (show -9 * 10 ^ (tn τ s) ≤ mxT (fun t => mY τ tal md (Mv τ tal md) s t) (mD τ tal md (Mv τ tal md) s (tn τ s)) t by omega) xb.2
    have IH := ih (t + 1) i h1 (by omega) (by omega) (B.dz D1) K1 (L.trans L1) (D.trans D1)
    dsimp only at e1
    rw [f_X12_meanFrom_39.eq_2, gR_ok (km_0 HM) (rm_1 HM), bS, show (2 : Int32) = nI 2 from rfl, lm_1 HM (by omega), bS, B.1.2.2.1, hA.2.1, if_neg (fun q => by have := (nI_leI (by omega) (by omega)).mp q; omega), over_ok B.1 hs0, bS, if_pos q1, if_pos rfl, ckK_ok (km_0 HM), bS, e1, bS]
    dsimp only
    unfold f_X12_meanFrom_80
    rw [bS, bS, show nI t + 1 = nI (t + 1) from nI_add t 1]
    unfold mxT at IH
    by_cases cq : mxT (fun t => mY τ tal md (Mv τ tal md) s t) (mD τ tal md (Mv τ tal md) s (tn τ s)) t < mY τ tal md (Mv τ tal md) s t
    · rw [if_pos cq] at IH
      rw [if_neg (fun q => by
        rw [cmp_le, lI_to (by omega) (by omega), lI_to (by omega) (by omega), mulE_le ep] at q
        omega)]
      exact IH
    · rw [if_neg cq] at IH
      rw [if_pos (by
        rw [cmp_le, lI_to (by omega) (by omega), lI_to (by omega) (by omega), mulE_le ep]
        omega)]
      exact IH
theorem rm_F (hn : 400000 ≤ n) {G1 : Sh → Hp → Nat → Int32 → Option (Int64 × Hp)} {G2 : Sh → Hp → Nat → Int32 → Int32 → Option (Int64 × Hp)} {G3 : Sh → Hp → Nat → Int32 → Option (Int64 × Hp)} {s : Nat} (hτ : TownOK τ) (hs : SV τ s) (hG1 : RMd z b τ P A tal md G1 s) (hG2 : ∀ t, t < opn τ s → RMy z b τ P A tal md G2 s t) : RM z b τ P A tal md (F_X12_meanFrom n G1 G2 G3) s := by
  intro h B K
  have HM := B.1.1
  have hs0 := hs.1
  have o4 := opn4 hτ s
  have p := E_pos (tn τ s)
  have db := mD_bd (tal := tal) (md := md) (ten := tn τ s) hτ hs (fun q => (tn_dr hτ hs q.2).2.1) (fun q => Mv_bd hτ (dr_SV hτ hs).1)
  have db2 := eT_bd hτ (show -9 * 10 ^ (tn τ s) ≤ mD τ tal md (Mv τ tal md) s (tn τ s) by omega) db.2
  have dn : 0 ≤ mD τ tal md (Mv τ tal md) s (tn τ s) * eT τ s := Int.mul_nonneg db.1 (by have := eT_pos (τ := τ) s; omega)
  dsimp only
  unfold F_X12_meanFrom f_X12_meanFrom_35
  rw [if_pos (km_0 HM), gR_ok (km_0 HM) (rm_24 HM), bS, lm_11 HM hs0, bS]
  rcases K.1 s hs0 with e | e
  · obtain ⟨h1, e1, D1, K1, L1⟩ := hG1 h B (K.le (by omega))
    have B1 := B.dz D1
    dsimp only at e1
    rw [e, if_pos (show nI 0 = 0 from rfl), ckK_ok (km_0 HM), bS, e1, bS]
    dsimp only
    by_cases c0 : mD τ tal md (Mv τ tal md) s (tn τ s) * eT τ s = 0
    · rw [if_pos (by rw [c0]; decide)]
      have := rm_39 (n := n) (G1 := G1) (G2 := G2) (G3 := G3) hn hτ hs hG2 K (opn τ s) 0 n h1 (by omega) (by omega) B1 K1 L1 D1
      rw [show mxT (fun t => mY τ tal md (Mv τ tal md) s t) (mD τ tal md (Mv τ tal md) s (tn τ s)) 0 * eT τ s = 0 from c0] at this
      exact this
    · obtain ⟨h2, e2, D2, K2, L2⟩ := hG1 h1 B1 K1
      dsimp only at e2
      rw [if_neg (fun q => by
        rw [cmp_le, lI_to (by omega) (by omega), show (0 : Int64).toInt = 0 from rfl] at q
        omega), bS, e2, bS]
      dsimp only
      exact rm_39 (n := n) (G1 := G1) (G2 := G2) (G3 := G3) hn hτ hs hG2 K (opn τ s) 0 n h2 (by omega) (by omega) (B1.dz D2) K2 (L1.trans L2) (D1.trans D2)
  · refine ⟨h, ?_, Dz.refl b h, K, JU.refl b (b + 86) τ h s⟩
    rw [e, if_neg (show ¬ nI 1 = 0 by decide), gR_ok (km_0 HM) (rm_29 HM), bS, lm_14 HM hs0, bS, K.2 s hs (by omega) e]
theorem rm_ok (hn : 400000 ≤ n) (hτ : TownOK τ) : ∀ k, (∀ s, SV τ s → 3 * rk τ s + 1 ≤ k → RMd z b τ P A tal md (rc_X12_drawnMean n k).1 s) ∧ (∀ s t, SV τ s → t < opn τ s → 3 * rk τ s + 2 ≤ k → RMy z b τ P A tal md (rc_X12_drawnMean n k).2.1 s t) ∧ ∀ s, SV τ s → 3 * rk τ s + 3 ≤ k → RM z b τ P A tal md (rc_X12_drawnMean n k).2.2 s := by
  intro k
  induction k with
  | zero => exact ⟨fun _ _ h => by omega, fun _ _ _ _ h => by omega, fun _ _ h => by omega⟩
  | succ k ih =>
    obtain ⟨i1, i2, i3⟩ := ih
    refine ⟨fun s hs hk => ?_, fun s t hs ht hk => ?_, fun s hs hk => ?_⟩
    · exact rm_D (n := n) (G1 := (rc_X12_drawnMean n k).1) (G2 := (rc_X12_drawnMean n k).2.1) (G3 := (rc_X12_drawnMean n k).2.2) hn hτ hs (fun q => i3 _ (dr_SV hτ hs).1 (by have := rk_dr (tal := tal) hτ hs q.2; omega))
    · obtain ⟨q1, q2⟩ := opn_lt ht
      have r1 := rk_lv hτ hs q2 q1
      exact rm_Y (n := n) (G1 := (rc_X12_drawnMean n k).1) (G2 := (rc_X12_drawnMean n k).2.1) (G3 := (rc_X12_drawnMean n k).2.2) hn hτ hs ht (i3 _ (lv_SV hτ hs q2 q1).1 (by omega)) (i1 s hs (by omega))
    · exact rm_F (n := n) (G1 := (rc_X12_drawnMean n k).1) (G2 := (rc_X12_drawnMean n k).2.1) (G3 := (rc_X12_drawnMean n k).2.2) hn hτ hs (i1 s hs (by omega)) (fun t ht => i2 s t hs ht (by omega))
end
/-! ===== common divisors ===== -/
theorem gcd_step (a d : Nat) : Nat.gcd a d = Nat.gcd d (a % d) := by rw [Nat.gcd_comm a d, Nat.gcd_rec d a, Nat.gcd_comm]
theorem mod_half {d r : Nat} (h : r < d) (h0 : 0 < r) : 2 * (d % r) < d := by
  rcases Nat.lt_or_ge (d) (2 * r) with q | q
  · have : d % r = d - r := by
      rw [Nat.mod_eq_sub_mod (by omega), Nat.mod_eq_of_lt (by omega)]
    omega
  · have := Nat.mod_lt d h0
    omega
theorem rmJ_n {a d : Nat} (h1 : a < 9223372036854775808) (h2 : 0 < d) (h3 : d < 9223372036854775808) : rmJ (lI (a : Int)) (lI (d : Int)) = some (lI ((a % d : Nat) : Int)) := by
  rw [rmJ_ok (by omega) (by omega) (by omega) (by omega)]
  rfl
theorem z64 {d : Nat} (h : d < 9223372036854775808) : lg_cmp (lI (d : Int)) 0 = 0 ↔ d = 0 := by
  rw [cmp_eq, lI_to (by omega) (by omega), show (0 : Int64).toInt = 0 from rfl]
  omega
theorem cg_9 {n : Nat} {z : Sh} {h : Hp} : ∀ (m a d j i : Nat), a < 9223372036854775808 → d < 9223372036854775808 → d < 2 ^ m → j + 2 * m ≤ 120 → 2 * m + 2 ≤ i → f_X0_commonDivisor_9 n z h i (lI (a : Int)) (lI (d : Int)) (nI j) = some (lI ((Nat.gcd a d : Nat) : Int)) := by
  intro m
  induction m with
  | zero =>
    intro a d j i ha hd hm hj hi
    obtain ⟨i, rfl⟩ : ∃ k, i = k + 1 := ⟨i - 1, by omega⟩
    obtain rfl : d = 0 := by have : (2 : Nat) ^ 0 = 1 := rfl; omega
    rw [f_X0_commonDivisor_9.eq_2, if_neg (show ¬ (130 : Int32) ≤ nI j from fun q => by have := (nI_leI (a := 130) (by omega) (by omega)).mp q; omega), if_pos ((z64 hd).mpr rfl), Nat.gcd_zero_right]
  | succ m ih =>
    intro a d j i ha hd hm hj hi
    obtain ⟨i, rfl⟩ : ∃ k, i = k + 2 := ⟨i - 2, by omega⟩
    rw [f_X0_commonDivisor_9.eq_2, if_neg (show ¬ (130 : Int32) ≤ nI j from fun q => by have := (nI_leI (a := 130) (by omega) (by omega)).mp q; omega)]
    by_cases h0 : d = 0
    · rw [h0, if_pos (by decide), Nat.gcd_zero_right]
    · have hr := Nat.mod_lt a (show 0 < d by omega)
      rw [if_neg (fun q => h0 ((z64 hd).mp q)), rmJ_n ha (by omega) hd, bS, bS, show nI j + 1 = nI (j + 1) from nI_add j 1, f_X0_commonDivisor_9.eq_2, if_neg (show ¬ (130 : Int32) ≤ nI (j + 1) from fun q => by have := (nI_leI (a := 130) (by omega) (by omega)).mp q; omega), gcd_step a d]
      by_cases h1 : a % d = 0
      · rw [h1, if_pos (by decide), Nat.gcd_zero_right]
      · have hh := mod_half hr (by omega)
        rw [if_neg (fun q => h1 ((z64 (by omega)).mp q)), rmJ_n hd (by omega) (by omega), bS, bS, show nI (j + 1) + 1 = nI (j + 2) from nI_add (j + 1) 1, gcd_step d (a % d)]
        exact ih (a % d) (d % (a % d)) (j + 2) i (by omega) (by omega) (by rw [Nat.pow_succ] at hm; omega) (by omega) (by omega)
theorem rg_ok {z : Sh} {h : Hp} : ∀ (m a d i : Nat), a < 9223372036854775808 → d < 9223372036854775808 → d < 2 ^ m → 2 * m + 2 ≤ i → rc_X12_common i z h (lI (a : Int)) (lI (d : Int)) = some (lI ((Nat.gcd a d : Nat) : Int)) := by
  intro m
  induction m with
  | zero =>
    intro a d i ha hd hm hi
    obtain ⟨i, rfl⟩ : ∃ k, i = k + 1 := ⟨i - 1, by omega⟩
    obtain rfl : d = 0 := by have : (2 : Nat) ^ 0 = 1 := rfl; omega
    show F_X12_common (rc_X12_common i) z h _ _ = _
    unfold F_X12_common
    rw [if_pos ((z64 hd).mpr rfl), Nat.gcd_zero_right]
  | succ m ih =>
    intro a d i ha hd hm hi
    obtain ⟨i, rfl⟩ : ∃ k, i = k + 2 := ⟨i - 2, by omega⟩
    show F_X12_common (F_X12_common (rc_X12_common i)) z h _ _ = _
    by_cases h0 : d = 0
    · unfold F_X12_common
      rw [h0, if_pos (by decide), Nat.gcd_zero_right]
    · have hr := Nat.mod_lt a (show 0 < d by omega)
      rw [F_X12_common.eq_1, if_neg (fun q => h0 ((z64 hd).mp q)), rmJ_n ha (by omega) hd, bS, F_X12_common.eq_1, gcd_step a d]
      by_cases h1 : a % d = 0
      · rw [h1, if_pos (by decide), bS, Nat.gcd_zero_right]
      · have hh := mod_half hr (by omega)
        rw [if_neg (fun q => h1 ((z64 (by omega)).mp q)), rmJ_n hd (by omega) (by omega), bS, ih (a % d) (d % (a % d)) i (by omega) (by omega) (by rw [Nat.pow_succ] at hm; omega) (by omega), bS, bS, gcd_step d (a % d)]
