/-! ===== means: what they are ===== -/
theorem mxT_congr {g g' : Nat → Int} {v : Int} : ∀ n, (∀ t, t < n → g t = g' t) → mxT g v n = mxT g' v n := by
  intro n
  induction n with
  | zero => intro _; rfl
  | succ n ih =>
    intro h
    unfold mxT
    rw [ih (fun t ht => h t (by omega)), h n (by omega)]
theorem mxT_bd {g : Nat → Int} {v B : Int} (hB : v ≤ B) : ∀ n, (∀ t, t < n → g t ≤ B) → v ≤ mxT g v n ∧ mxT g v n ≤ B := by
  intro n
  induction n with
  | zero => intro _; exact ⟨Int.le_refl _, hB⟩
  | succ n ih =>
    intro h
    obtain ⟨i1, i2⟩ := ih (fun t ht => h t (by omega))
    have := h n (by omega)
    unfold mxT
    split <;> omega
theorem tn_le {τ : TT} (hτ : TownOK τ) (s : Nat) : tn τ s ≤ 12 := by
  have := hτ.1
  unfold tn
  split <;> omega
theorem tn_lv {τ : TT} (hτ : TownOK τ) {s t : Nat} (hs : SV τ s) (ht : t < opn τ s) : tn τ (lvN s t) + 1 = tn τ s := by
  obtain ⟨q1, q2⟩ := opn_lt ht
  obtain ⟨l1, l2, l3, l4, -⟩ := lv_SV hτ hs q2 q1
  unfold tn
  rw [l2, l4]
  split <;> omega
theorem tn_dr {τ : TT} (hτ : TownOK τ) {tal s : Nat} (hs : SV τ s) (hl : sL s = 1) : tn τ (drN τ tal s) ≤ 6 ∧ tn τ (drN τ tal s) ≤ tn τ s ∧ (0 < opn τ s → tn τ (drN τ tal s) ≤ tn τ s - 1) := by
  obtain ⟨l1, l2, l3, l4, -⟩ := dr_SV (tal := tal) hτ hs
  have hY := hτ.1
  have hy := hs.2.2.1
  have hg := gV_le τ tal (sY s)
  unfold tn
  rw [l2, l4, hl, if_neg (show ¬ (2 : Nat) = 1 by decide), if_pos rfl]
  refine ⟨by omega, by omega, fun h => ?_⟩
  have := (opn_lt h).1
  omega
theorem E_pos (k : Nat) : (0 : Int) < 10 ^ k := by
  induction k with
  | zero => decide
  | succ k ih => rw [Int.pow_succ]; omega
theorem E_add (i j : Nat) : (10 : Int) ^ (i + j) = 10 ^ i * 10 ^ j := by
  induction j with
  | zero => rw [Nat.add_zero, Int.pow_zero, Int.mul_one]
  | succ j ih => rw [← Nat.add_assoc, Int.pow_succ, Int.pow_succ, ih, Int.mul_assoc]
theorem E_12 {k : Nat} (h : k ≤ 12) : (10 : Int) ^ k ≤ 1000000000000 := by
  have e : (10 : Int) ^ 12 = 10 ^ k * 10 ^ (12 - k) := by rw [← E_add]; congr 1; omega
  have p1 := E_pos k
  have p2 := E_pos (12 - k)
  have : (10 : Int) ^ k * 1 ≤ 10 ^ k * 10 ^ (12 - k) := Int.mul_le_mul_of_nonneg_left (by omega) (by omega)
  rw [← e, Int.mul_one, show (10 : Int) ^ 12 = 1000000000000 by decide] at this
  exact this
section
variable {τ : TT} {tal : Nat} {md : Bool}
theorem MN_s (k s : Nat) : MN τ tal md (k + 1) s = mxT (fun t => mY τ tal md (MN τ tal md k) s t) (mD τ tal md (MN τ tal md k) s (tn τ s)) (opn τ s) := rfl
theorem mD_congr {m m' : Nat → Int} {s ten : Nat} (h : md = true ∧ sL s = 1 → m (drN τ tal s) = m' (drN τ tal s)) : mD τ tal md m s ten = mD τ tal md m' s ten := by
  unfold mD
  by_cases c : md = true ∧ sL s = 1
  · rw [if_pos c, if_pos c, h c]
  · rw [if_neg c, if_neg c]
theorem mY_congr {m m' : Nat → Int} {s t : Nat} (h1 : m (lvN s t) = m' (lvN s t)) (h : md = true ∧ sL s = 1 → m (drN τ tal s) = m' (drN τ tal s)) : mY τ tal md m s t = mY τ tal md m' s t := by
  unfold mY
  rw [h1, mD_congr h]
theorem MN_stab (hτ : TownOK τ) : ∀ k s, SV τ s → rk τ s < k → MN τ tal md (k + 1) s = MN τ tal md k s := by
  intro k
  induction k with
  | zero => intro s _ h; omega
  | succ k ih =>
    intro s hs hr
    have hd : md = true ∧ sL s = 1 → MN τ tal md (k + 1) (drN τ tal s) = MN τ tal md k (drN τ tal s) := fun q => ih _ (dr_SV hτ hs).1 (by have := rk_dr (tal := tal) hτ hs q.2; omega)
    rw [MN_s (k + 1), MN_s k, mD_congr hd]
    exact mxT_congr _ (fun t ht => by
      obtain ⟨q1, q2⟩ := opn_lt ht
      have := rk_lv hτ hs q2 q1
      exact mY_congr (ih _ (lv_SV hτ hs q2 q1).1 (by omega)) hd)
end
def Mv (τ : TT) (tal : Nat) (md : Bool) (s : Nat) : Int := MN τ tal md 14 s
section
variable {τ : TT} {tal : Nat} {md : Bool}
theorem Mv_eq (hτ : TownOK τ) {s : Nat} (hs : SV τ s) : Mv τ tal md s = mxT (fun t => mY τ tal md (Mv τ tal md) s t) (mD τ tal md (Mv τ tal md) s (tn τ s)) (opn τ s) := by
  have h13 := rk_le hτ s
  have hd : md = true ∧ sL s = 1 → MN τ tal md 13 (drN τ tal s) = Mv τ tal md (drN τ tal s) := fun q => (MN_stab hτ 13 _ (dr_SV hτ hs).1 (by have := rk_dr (tal := tal) hτ hs q.2; omega)).symm
  show MN τ tal md (13 + 1) s = _
  rw [MN_s 13, mD_congr hd]
  exact mxT_congr _ (fun t ht => by
    obtain ⟨q1, q2⟩ := opn_lt ht
    have := rk_lv hτ hs q2 q1
    exact mY_congr (MN_stab hτ 13 _ (lv_SV hτ hs q2 q1).1 (by omega)).symm hd)
theorem mD_bd (hτ : TownOK τ) {s ten : Nat} (hs : SV τ s) (ht : md = true ∧ sL s = 1 → tn τ (drN τ tal s) ≤ ten) (hm : md = true ∧ sL s = 1 → 0 ≤ Mv τ tal md (drN τ tal s) ∧ Mv τ tal md (drN τ tal s) ≤ 9 * (tn τ (drN τ tal s) : Int) * 10 ^ (tn τ (drN τ tal s))) : 0 ≤ mD τ tal md (Mv τ tal md) s ten ∧ mD τ tal md (Mv τ tal md) s ten ≤ 9 * (ten : Int) * 10 ^ ten := by
  have p0 := E_pos ten
  unfold mD
  by_cases c : md = true ∧ sL s = 1
  · rw [if_pos c]
    have h1 := ht c
    obtain ⟨m1, m2⟩ := hm c
    have p1 := E_pos (ten - tn τ (drN τ tal s))
    refine ⟨Int.mul_nonneg m1 (by omega), ?_⟩
    have h2 := Int.mul_le_mul_of_nonneg_right m2 (show 0 ≤ (10 : Int) ^ (ten - tn τ (drN τ tal s)) by omega)
    rw [Int.mul_assoc, ← E_add, show tn τ (drN τ tal s) + (ten - tn τ (drN τ tal s)) = ten by omega] at h2
    have h3 := Int.mul_le_mul_of_nonneg_right (show 9 * (tn τ (drN τ tal s) : Int) ≤ 9 * (ten : Int) by omega) (show 0 ≤ (10 : Int) ^ ten by omega)
    omega
  · rw [if_neg c]
    exact ⟨Int.le_refl _, Int.mul_nonneg (by omega) (by omega)⟩
theorem Mv_bd' (hτ : TownOK τ) : ∀ R s, SV τ s → rk τ s < R → 0 ≤ Mv τ tal md s ∧ Mv τ tal md s ≤ 9 * (tn τ s : Int) * 10 ^ (tn τ s) := by
  intro R
  induction R with
  | zero => intro s _ h; omega
  | succ R ih =>
    intro s hs hr
    have hx := hτ.2.2.1
    have hdr : md = true ∧ sL s = 1 → 0 ≤ Mv τ tal md (drN τ tal s) ∧ Mv τ tal md (drN τ tal s) ≤ 9 * (tn τ (drN τ tal s) : Int) * 10 ^ (tn τ (drN τ tal s)) := fun q => ih _ (dr_SV hτ hs).1 (by have := rk_dr (tal := tal) hτ hs q.2; omega)
    have b0 := mD_bd (ten := tn τ s) hτ hs (fun q => (tn_dr hτ hs q.2).2.1) hdr
    rw [Mv_eq hτ hs]
    have key := mxT_bd (g := fun t => mY τ tal md (Mv τ tal md) s t) (v := mD τ tal md (Mv τ tal md) s (tn τ s)) (B := 9 * (tn τ s : Int) * 10 ^ (tn τ s)) b0.2 (opn τ s) (fun t ht => by
      obtain ⟨q1, q2⟩ := opn_lt ht
      have r1 := rk_lv hτ hs q2 q1
      have e1 := tn_lv hτ hs ht
      have m1 := ih _ (lv_SV hτ hs q2 q1).1 (by omega)
      have w1 := wV_bd τ tal s t
      have b1 := mD_bd (ten := tn τ s - 1) hτ hs (fun q => (tn_dr hτ hs q.2).2.2 (by omega)) hdr
      have e2 : tn τ (lvN s t) = tn τ s - 1 := by omega
      rw [e2] at m1
      show mY τ tal md (Mv τ tal md) s t ≤ _
      unfold mY
      generalize hT : tn τ s - 1 = T at *
      have eT : tn τ s = T + 1 := by omega
      rw [eT, Int.pow_succ]
      have p0 := E_pos T
      generalize (10 : Int) ^ T = E at *
      generalize mD τ tal md (Mv τ tal md) s T = d at *
      generalize Mv τ tal md (lvN s t) = a at *
      generalize wV τ tal s t = w at *
      have a1 := Int.mul_le_mul_of_nonneg_right w1.2 (show 0 ≤ E by omega)
      have a2 : w * E + a ≤ 9 * ((T : Int) + 1) * E := by
        have : 9 * ((T : Int) + 1) * E = 9 * (T : Int) * E + 9 * E := by rw [Int.mul_add, Int.add_mul, Int.mul_one]
        omega
      have a3 : d ≤ 9 * ((T : Int) + 1) * E := by
        have : 9 * ((T : Int) + 1) * E = 9 * (T : Int) * E + 9 * E := by rw [Int.mul_add, Int.add_mul, Int.mul_one]
        omega
      have a4 := Int.mul_le_mul_of_nonneg_left a2 (show 0 ≤ 10 - (tX τ : Int) by omega)
      have a5 := Int.mul_le_mul_of_nonneg_left a3 (show 0 ≤ (tX τ : Int) by omega)
      have a6 : (10 - (tX τ : Int)) * (9 * ((T : Int) + 1) * E) + (tX τ : Int) * (9 * ((T : Int) + 1) * E) = 10 * (9 * ((T : Int) + 1) * E) := by rw [← Int.add_mul]; congr 1; omega
      rw [show ((T + 1 : Nat) : Int) = (T : Int) + 1 by omega, ← Int.mul_assoc]
      omega)
    exact ⟨Int.le_trans b0.1 key.1, key.2⟩
theorem Mv_bd (hτ : TownOK τ) {s : Nat} (hs : SV τ s) : 0 ≤ Mv τ tal md s ∧ Mv τ tal md s ≤ 9 * (tn τ s : Int) * 10 ^ (tn τ s) := Mv_bd' hτ (rk τ s + 1) s hs (by omega)
theorem nine_bd {k : Nat} (h : k ≤ 12) : 9 * (k : Int) * 10 ^ k ≤ 108000000000000 := by
  have p := E_pos k
  have e := E_12 h
  have h1 := Int.mul_le_mul_of_nonneg_left e (show (0 : Int) ≤ 9 * (k : Int) by omega)
  omega
theorem Mv_b (hτ : TownOK τ) {s : Nat} (hs : SV τ s) : 0 ≤ Mv τ tal md s ∧ Mv τ tal md s ≤ 108000000000000 := by
  have h1 := Mv_bd (tal := tal) (md := md) hτ hs
  have h2 := nine_bd (tn_le hτ s)
  omega
theorem mD_b (hτ : TownOK τ) {s ten : Nat} (hs : SV τ s) (ht : md = true ∧ sL s = 1 → tn τ (drN τ tal s) ≤ ten) (h12 : ten ≤ 12) : 0 ≤ mD τ tal md (Mv τ tal md) s ten ∧ mD τ tal md (Mv τ tal md) s ten ≤ 108000000000000 := by
  have h1 := mD_bd (ten := ten) hτ hs ht (fun q => Mv_bd hτ (dr_SV hτ hs).1)
  have h2 := nine_bd h12
  omega
theorem mY_b (hτ : TownOK τ) {s t : Nat} (hs : SV τ s) (ht : t < opn τ s) : -2000000000000000 ≤ mY τ tal md (Mv τ tal md) s t ∧ mY τ tal md (Mv τ tal md) s t ≤ 2000000000000000 := by
  obtain ⟨q1, q2⟩ := opn_lt ht
  have e1 := tn_lv hτ hs ht
  have h12 := tn_le hτ s
  have m1 := Mv_b (tal := tal) (md := md) hτ (lv_SV hτ hs q2 q1).1
  have b1 := mD_b (tal := tal) (md := md) (ten := tn τ s - 1) hτ hs (fun q => (tn_dr hτ hs q.2).2.2 (by omega)) (by omega)
  have w1 := wV_bd τ tal s t
  have hx := hτ.2.2.1
  have p0 := E_pos (tn τ s - 1)
  have p1 := E_12 (show tn τ s - 1 ≤ 12 by omega)
  unfold mY
  generalize (10 : Int) ^ (tn τ s - 1) = E at *
  generalize mD τ tal md (Mv τ tal md) s (tn τ s - 1) = d at *
  generalize Mv τ tal md (lvN s t) = a at *
  generalize wV τ tal s t = w at *
  have a1 := Int.mul_le_mul_of_nonneg_right w1.2 (show 0 ≤ E by omega)
  have a2 := Int.mul_le_mul_of_nonneg_right w1.1 (show 0 ≤ E by omega)
  have c1 : -200000000000000 ≤ w * E + a ∧ w * E + a ≤ 200000000000000 := by omega
  generalize w * E + a = y at *
  have a4 := Int.mul_le_mul_of_nonneg_left c1.1 (show 0 ≤ 10 - (tX τ : Int) by omega)
  have a5 := Int.mul_le_mul_of_nonneg_left c1.2 (show 0 ≤ 10 - (tX τ : Int) by omega)
  have a6 := Int.mul_le_mul_of_nonneg_left b1.1 (show 0 ≤ (tX τ : Int) by omega)
  have a7 := Int.mul_le_mul_of_nonneg_left (show d ≤ 200000000000000 by omega) (show 0 ≤ (tX τ : Int) by omega)
  omega
end
/-! ===== means in the class ===== -/
def TN (b : Nat) (z : Sh) (h : Hp) : Prop := z.st 2 < b ∧ (z.K (z.st 2) = 15 ∨ z.K (z.st 2) = 35) ∧ z.N (z.st 2) = 13 ∧ ∀ j, j < 13 → h.J (z.st 2) j = lI (10 ^ j)
theorem TN.ex {b : Nat} {z z' : Sh} {h h' : Hp} (T : TN b z h) (hb : b + 92 ≤ z.sz) (E : Ex b z h z' h') : TN b z' h' := by
  obtain ⟨t1, t2, t3, t4⟩ := T
  obtain ⟨-, e2, e3, -, e5, -⟩ := E
  unfold TN
  rw [e3, (e2 _ (by omega)).1, (e2 _ (by omega)).2, e5 _ (by omega) (by omega) (by omega)]
  exact ⟨t1, t2, t3, t4⟩
theorem tens_ok {b : Nat} {z : Sh} {h : Hp} (T : TN b z h) {k : Nat} (hk : k ≤ 12) : f_X0_tens z h (nI k) = some (lI (10 ^ k)) := by
  obtain ⟨t1, t2, t3, t4⟩ := T
  have eA : aL z (z.st 2) = some (nI 13) := by
    rcases t2 with q | q
    · exact aL_ok q rfl t3
    · exact aL_ok q rfl t3
  unfold f_X0_tens
  rw [if_neg (show ¬ nI k < 0 from fun q => by have := (nI_lt2 (j := 0) (by omega) (by omega)).mp q; omega), eA, bS, if_neg (fun q => by have := (nI_leI (by omega) (by omega)).mp q; omega), ldJ_ok t2 t3 rfl (show k < 13 by omega) (by omega), bS, t4 k (by omega)]
section
variable {n : Nat} {z0 : Sh} {b c : Nat} {wt : Nat} {ω : TT} {tal : Nat} {md : Bool} {st ts : Nat}
theorem tenA_ok {z : Sh} {h : Hp} (W : WayD z0 b c z h wt ω tal md st ts) {s : Nat} (hs : SV ω s) : f_X0_tenthsAt z h (b + 55) (nI (enc s)) = some (nI (tn ω s)) := by
  obtain ⟨⟨HX, -⟩, ⟨w8, w9, w10, -⟩, -⟩ := W
  have hY := w10.1
  have hy := hs.2.2.1
  unfold f_X0_tenthsAt f_X0_tenthsAt_12
  rw [if_pos (kx_55 HX), xl_ok w10 hs, bS, gR_ok (kx_55 HX) (rx_55_0 HX), bS, bS, gR_ok (kx_44 HX) w8, bS, bS, gI_ok w9.2.1, bS, bS, w9.2.2.1, xy_ok w10 hs, bS, bS]
  unfold tn
  by_cases hl : sL s = 1
  · have e0 : eL s = 0 := by unfold eL; rw [if_neg (by omega)]
    rw [e0, if_pos (show nI 0 = 0 from rfl), if_pos hl, show (2 : Int32) = nI 2 from rfl, nI_mul, nI_sub (by omega)]
  · obtain ⟨a1, a2, a3, a4⟩ := e_bd w10 hs
    have hl2 : sL s = 2 := by have := hs.2.1; omega
    have e0 : eL s = 1 + sO s := by unfold eL; rw [if_pos (by omega)]
    rw [if_neg (show ¬ nI (eL s) = 0 from fun q => by have := (nI_inj (j := 0) (by omega) (by omega)).mp q; omega), if_neg hl, show (1 : Int32) = nI 1 from rfl, nI_mul, nI_sub (by omega)]
/-- a mean is laid down -/
theorem WayD.setM {z : Sh} {h : Hp} (W : WayD z0 b c z h wt ω tal md st ts) {s v : Nat} (hs : SV ω s) (hv : (v : Int) = Mv ω tal md s) (hv2 : v < 281474976710656) : WayD z0 b c z (h.setJ (b + 57) (enc s) (lI ((st : Int) * 281474976710656 + v))) wt ω tal md st ts ∧ WE b st z h z (h.setJ (b + 57) (enc s) (lI ((st : Int) * 281474976710656 + v))) := by
  obtain ⟨⟨HX, HR, w3, w4, w5, w6, w7⟩, ⟨w8, w9, w10, w11⟩, ⟨w12, w13, w14, w15⟩, w16, ⟨⟨w17, w17'⟩, w18⟩, w19, w20⟩ := W
  have hb : b + 92 ≤ z.sz := HR.1
  have hJ : ∀ a, a ≠ b + 57 → (h.setJ (b + 57) (enc s) (lI ((st : Int) * 281474976710656 + v))).J a = h.J a := fun a ha => by rw [setJ_J, if_neg ha]
  have E : Ex b z h z (h.setJ (b + 57) (enc s) (lI ((st : Int) * 281474976710656 + v))) := ⟨⟨Nat.le_refl _, Nat.le_refl _⟩, fun _ _ => ⟨rfl, rfl⟩, fun _ => rfl, fun _ _ _ _ _ _ _ _ _ => rfl, fun a ha _ k2 => hJ a k2, fun _ _ _ _ _ => rfl⟩
  refine ⟨⟨⟨HX, HR, w3, w4, w5, w6, w7⟩, ⟨w8, (w9.ex hb E).1, w10, w11⟩, ⟨w12, w13, w14, w15⟩, w16, ⟨by rw [hJ _ (by omega)]; exact ⟨w17, w17'⟩, ?_⟩, ?_, ?_⟩, ⟨E, fun c q => by rw [hJ _ (by omega)]; exact q, rfl, rfl, rfl, fun _ q => q⟩⟩
  · rw [setJ_J, if_pos rfl]
    refine w18.up w3 hv2 (fun s' hs' he => ?_)
    rw [enc_inj w10 hs' hs he]
    exact hv
  · intro k hk mo hm
    obtain ⟨m1, m2, m3, m4, m5, m6, m7, m8, m9⟩ := w19 k hk mo hm
    exact ⟨m1, m2, m3, m4, m5, m6, by rw [hJ _ (by omega)]; exact m7, m8, m9⟩
  · intro mo hm
    obtain ⟨m1, m2, m3, m4, m5, m6, m7, m8⟩ := w20 mo hm
    exact ⟨m1, m2, m3, m4, m5, m6, m7, by rw [hJ _ (by omega)]; exact m8⟩
def MOK (z0 : Sh) (b c wt : Nat) (ω : TT) (tal : Nat) (md : Bool) (st ts : Nat) (G : Sh → Hp → Option (Int64 × Hp × Sh)) (v : Int) : Prop := ∀ z h, WayD z0 b c z h wt ω tal md st ts → TN b z h → ∃ z' h', G z h = some (lI v, h', z') ∧ WayD z0 b c z' h' wt ω tal md st ts ∧ WE b st z h z' h' ∧ TN b z' h'
theorem max64 {z : Sh} {h : Hp} {a d : Int} (h1 : -9000000000000000000 ≤ a) (h2 : a ≤ 9000000000000000000) (h3 : -9000000000000000000 ≤ d) (h4 : d ≤ 9000000000000000000) : f_J9_max_f86c9 z h (lI a) (lI d) = some (lI (if a < d then d else a)) := by
  unfold f_J9_max_f86c9
  have : lg_cmp (lI a) (lI d) < 0 ↔ a < d := by rw [cmp_lt, lI_to (by omega) (by omega), lI_to (by omega) (by omega)]
  by_cases c : a < d
  · rw [if_pos (this.mpr c), if_pos c]
  · rw [if_neg (fun q => c (this.mp q)), if_neg c]
theorem cm_D {G1 : Sh → Hp → Nat → Int32 → Option (Int64 × Hp × Sh)} {G2 G3 : Sh → Hp → Nat → Int32 → Int32 → Option (Int64 × Hp × Sh)} (hω : TownOK ω) {s ten : Nat} (hs : SV ω s) (ht : md = true ∧ sL s = 1 → tn ω (drN ω tal s) ≤ ten) (h12 : ten ≤ 12) (hG : md = true ∧ sL s = 1 → MOK z0 b c wt ω tal md st ts (fun z h => G1 z h (b + 55) (nI (enc (drN ω tal s)))) (Mv ω tal md (drN ω tal s))) : MOK z0 b c wt ω tal md st ts (fun z h => F_X0_meanByDrawing n G1 G2 G3 z h (b + 55) (nI (enc s)) (nI ten)) (mD ω tal md (Mv ω tal md) s ten) := by
  intro z h W T
  have HX := W.1.1
  dsimp only
  unfold F_X0_meanByDrawing mD
  rw [if_pos (kx_55 HX), gR_ok (kx_55 HX) (rx_55_0 HX), bS, adr_ok HX hω hs W.2.2.1.2.2.1 W.2.2.2.1, bS]
  by_cases hc : md = true ∧ sL s = 1
  · have e1400 := (e_bd hω (dr_SV (tal := tal) hω hs).1).2.2.2
    have ne : ¬ nI (enc (drN ω tal s)) = -1 := by
      rw [← Int32.toInt_inj, nI_to (by omega), show (-1 : Int32).toInt = -1 from rfl]
      omega
    obtain ⟨z1, h1, e1, W1, E1, T1⟩ := hG hc z h W T
    refine ⟨z1, h1, ?_, W1, E1, T1⟩
    have ht' := ht hc
    rw [if_pos hc, if_neg ne, if_pos hc, ckK_ok (kx_55 HX), bS]
    dsimp only at e1
    rw [e1, bS]
    refine gd3_ok ?_ E1.1.1
    dsimp only
    refine gd3_ok ?_ ⟨Nat.le_refl _, Nat.le_refl _⟩
    rw [tenA_ok W1 (dr_SV hω hs).1, bS, nI_sub ht', tens_ok T1 (by omega), bS, lI_mul]
  · refine ⟨z, h, ?_, W, WE.refl .., T⟩
    rw [if_neg hc, if_pos rfl, if_neg hc]
    exact gd3_ok rfl ⟨Nat.le_refl _, Nat.le_refl _⟩
theorem cm_Y (hn : 400000 ≤ n) {G1 : Sh → Hp → Nat → Int32 → Option (Int64 × Hp × Sh)} {G2 G3 : Sh → Hp → Nat → Int32 → Int32 → Option (Int64 × Hp × Sh)} (hω : TownOK ω) {s t : Nat} (hs : SV ω s) (ht : t < opn ω s) (hG : MOK z0 b c wt ω tal md st ts (fun z h => G1 z h (b + 55) (nI (enc (lvN s t)))) (Mv ω tal md (lvN s t))) (hG3 : MOK z0 b c wt ω tal md st ts (fun z h => G3 z h (b + 55) (nI (enc s)) (nI (tn ω s - 1))) (mD ω tal md (Mv ω tal md) s (tn ω s - 1))) : MOK z0 b c wt ω tal md st ts (fun z h => F_X0_meanByYear n G1 G2 G3 z h (b + 55) (nI (enc s)) (nI t)) (mY ω tal md (Mv ω tal md) s t) := by
  intro z h W T
  have HX := W.1.1
  obtain ⟨q1, q2⟩ := opn_lt ht
  have etn := tn_lv hω hs ht
  have h12 := tn_le hω s
  have hx := hω.2.2.1
  have wb := wV_bd ω tal s t
  obtain ⟨z1, h1, e1, W1, E1⟩ := cw_ok (n := n) hn W hs q2
  have T1 := T.ex W.1.2.1.1 E1.1
  obtain ⟨z2, h2, e2, W2, E2, T2⟩ := hG z1 h1 W1 T1
  obtain ⟨z3, h3, e3, W3, E3, T3⟩ := hG3 z2 h2 W2 T2
  have HX1 := W1.1.1
  have HX2 := W2.1.1
  refine ⟨z3, h3, ?_, W3, (E1.trans E2).trans E3, T3⟩
  dsimp only at e2 e3 ⊢
  unfold F_X0_meanByYear
  rw [if_pos (kx_55 HX)]
  refine gd3_ok ?_ ((E1.trans E2).trans E3).1.1
  rw [tenA_ok W hs, bS, bS, show nI (tn ω s) - 1 = nI (tn ω s - 1) from nI_sub (b := 1) (by omega), gR_ok (kx_55 HX) (rx_55_0 HX), bS, gR_ok (kx_44 HX) W.2.1.1, bS, gI_ok W.2.1.2.1.2.1, bS, W.2.1.2.1.2.2.2.2.1, bS, e1, bS]
  dsimp only
  refine gd3_ok ?_ (E2.trans E3).1.1
  rw [tens_ok T1 (by omega), bS, gR_ok (kx_55 HX1) (rx_55_0 HX1), bS, xlv_ok hω (kx_44 HX1) hs q2 q1, bS, ckK_ok (kx_55 HX1), bS, e2, bS]
  dsimp only
  refine gd3_ok ?_ E3.1.1
  rw [bS, ckK_ok (kx_55 HX2), bS, e3, bS]
  dsimp only
  refine gd3_ok ?_ ⟨Nat.le_refl _, Nat.le_refl _⟩
  rw [iI_64 (by omega) (by omega), lI_mul, lI_add, show (10 : Int32) = nI 10 from rfl, nI_sub (show tX ω ≤ 10 by omega), nI_iI (10 - tX ω), iI_64 (by omega) (by omega), lI_mul, nI_iI (tX ω), iI_64 (by omega) (by omega), lI_mul, lI_add]
  unfold mY
  rw [show ((10 - tX ω : Nat) : Int) = 10 - (tX ω : Int) by omega]
theorem cm_51 {G1 : Sh → Hp → Nat → Int32 → Option (Int64 × Hp × Sh)} {G2 G3 : Sh → Hp → Nat → Int32 → Int32 → Option (Int64 × Hp × Sh)} (hω : TownOK ω) {s : Nat} (hs : SV ω s) (hG2 : ∀ t, t < opn ω s → MOK z0 b c wt ω tal md st ts (fun z h => G2 z h (b + 55) (nI (enc s)) (nI t)) (mY ω tal md (Mv ω tal md) s t)) : ∀ (d t i : Nat) (z : Sh) (h : Hp), t + d = opn ω s → d < i → WayD z0 b c z h wt ω tal md st ts → TN b z h → ∃ z' h', f_X0_meanFrom_51 n G1 G2 G3 i z h (b + 55) (nI (enc s)) (lI (mxT (fun t => mY ω tal md (Mv ω tal md) s t) (mD ω tal md (Mv ω tal md) s (tn ω s)) t)) (nI (opn ω s)) (nI t) = some (lI (Mv ω tal md s), h', z') ∧ WayD z0 b c z' h' wt ω tal md st ts ∧ WE b st z h z' h' ∧ TN b z' h' := by
  have o4 := opn4 hω s
  have h12 := tn_le hω s
  obtain ⟨a1, a2, a3, a4⟩ := e_bd hω hs
  have db := mD_b (tal := tal) (md := md) (ten := tn ω s) hω hs (fun q => (tn_dr hω hs q.2).2.1) h12
  intro d
  induction d with
  | zero =>
    intro t i z h hj hi W T
    obtain ⟨i, rfl⟩ : ∃ k, i = k + 1 := ⟨i - 1, by omega⟩
    obtain rfl : t = opn ω s := by omega
    have HX := W.1.1
    have mb := Mv_b (tal := tal) (md := md) hω hs
    have MXx : MX z h (b + 56) (b + 57) 1400 := ⟨kx_56 HX, rx_56_0 HX, kx_57 HX, nx_57 HX⟩
    obtain ⟨v, hv⟩ : ∃ v : Nat, (v : Int) = Mv ω tal md s := ⟨(Mv ω tal md s).toNat, by omega⟩
    obtain ⟨W1, E1⟩ := W.setM hs hv (by omega)
    refine ⟨z, _, ?_, W1, E1, T.ex W.1.2.1.1 E1.1⟩
    rw [f_X0_meanFrom_51.eq_2, if_pos ((nI_leI (by omega) (by omega)).mpr (Nat.le_refl _)), gR_ok (kx_55 HX) (rx_55_2 HX), bS, gR_ok (kx_55 HX) (rx_55_0 HX), bS, gI_ok (kx_44 HX), bS, W.2.2.1.2.2.2, ← Mv_eq hω hs, ← hv, mkeep_ok MXx (by omega) a4 (by have := W.1.2.2.2.1; have := W.1.2.2.2.2.2.2; omega) (by omega), bS]
  | succ d ih =>
    intro t i z h hj hi W T
    obtain ⟨i, rfl⟩ : ∃ k, i = k + 1 := ⟨i - 1, by omega⟩
    have HX := W.1.1
    have hto : t < opn ω s := by omega
    have yb := mY_b (tal := tal) (md := md) hω hs hto
    have xb := mxT_bd (g := fun t => mY ω tal md (Mv ω tal md) s t) (v := mD ω tal md (Mv ω tal md) s (tn ω s)) (B := 2000000000000000) (by omega) t (fun t' ht' => (mY_b hω hs (by omega)).2)
    obtain ⟨z1, h1, e1, W1, E1, T1⟩ := hG2 t hto z h W T
    obtain ⟨z2, h2, e2, W2, E2, T2⟩ := ih (t + 1) i z1 h1 (by omega) (by omega) W1 T1
    refine ⟨z2, h2, ?_, W2, E1.trans E2, T2⟩
    dsimp only at e1
    rw [f_X0_meanFrom_51.eq_2, if_neg (fun q => by have := (nI_leI (by omega) (by omega)).mp q; omega), ckK_ok (kx_55 HX), bS, e1, bS]
    dsimp only
    refine gd3_ok ?_ E2.1.1
    rw [max64 (by omega) (by omega) (by omega) (by omega), bS, bS, show nI t + 1 = nI (t + 1) from nI_add t 1]
    unfold mxT at e2
    exact e2
theorem cm_F {G1 : Sh → Hp → Nat → Int32 → Option (Int64 × Hp × Sh)} {G2 G3 : Sh → Hp → Nat → Int32 → Int32 → Option (Int64 × Hp × Sh)} (hn : 400000 ≤ n) (hω : TownOK ω) {s : Nat} (hs : SV ω s) (hG2 : ∀ t, t < opn ω s → MOK z0 b c wt ω tal md st ts (fun z h => G2 z h (b + 55) (nI (enc s)) (nI t)) (mY ω tal md (Mv ω tal md) s t)) (hG3 : MOK z0 b c wt ω tal md st ts (fun z h => G3 z h (b + 55) (nI (enc s)) (nI (tn ω s))) (mD ω tal md (Mv ω tal md) s (tn ω s))) : MOK z0 b c wt ω tal md st ts (fun z h => F_X0_meanFrom n G1 G2 G3 z h (b + 55) (nI (enc s))) (Mv ω tal md s) := by
  intro z h W T
  obtain ⟨⟨HX, HR, w3, w4, w5, w6, w7⟩, ⟨w8, w9, w10, w11⟩, ⟨w12, w13, w14, w15⟩, w16, ⟨w17, w18⟩, w19, w20⟩ := id W
  obtain ⟨a1, a2, a3, a4⟩ := e_bd hω hs
  have MXx : MX z h (b + 56) (b + 57) 1400 := ⟨kx_56 HX, rx_56_0 HX, kx_57 HX, nx_57 HX⟩
  obtain ⟨sc, v, c1, c2, c3, c4⟩ := w18 (enc s) a4
  have o4 := opn4 hω s
  have mb := Mv_b (tal := tal) (md := md) hω hs
  dsimp only
  unfold F_X0_meanFrom
  rw [if_pos (kx_55 HX), gR_ok (kx_55 HX) (rx_55_2 HX), bS, gR_ok (kx_55 HX) (rx_55_0 HX), bS, gI_ok (kx_44 HX), bS, w15, find_ok MXx (by omega) a4 c1 (by omega) c2 c3, bS]
  by_cases hst : sc = st
  · have hv : (v : Int) = Mv ω tal md s := c4 w3 hst s hs rfl
    rw [if_pos hst, if_neg (show ¬ lg_cmp (lI (v : Int)) (-1) = 0 from fun q => by
      rw [cmp_eq, lI_to (by omega) (by omega), show (-1 : Int64).toInt = -1 from rfl] at q
      omega), hv]
    exact ⟨z, h, gd3_ok rfl ⟨Nat.le_refl _, Nat.le_refl _⟩, W, WE.refl .., T⟩
  · obtain ⟨z1, h1, e1, W1, E1, T1⟩ := hG3 z h W T
    obtain ⟨z2, h2, e2, W2, E2, T2⟩ := cm_51 (n := n) (G1 := G1) (G2 := G2) (G3 := G3) hω hs hG2 (opn ω s) 0 n z1 h1 (by omega) (by omega) W1 T1
    refine ⟨z2, h2, gd3_ok ?_ (E1.trans E2).1.1, W2, E1.trans E2, T2⟩
    dsimp only at e1
    rw [if_neg hst, if_pos (show lg_cmp (-1 : Int64) (-1) = 0 by decide), tenA_ok W hs, bS, ckK_ok (kx_55 HX), bS, e1, bS]
    dsimp only
    refine gd3_ok ?_ E2.1.1
    rw [gR_ok (kx_55 W1.1.1) (rx_55_0 W1.1.1), bS, opn_ok (kx_44 W1.1.1) hω W1.2.1.1 W1.2.1.2.1 hs, bS]
    exact e2
theorem cm_ok (hn : 400000 ≤ n) (hω : TownOK ω) : ∀ k, (∀ s, SV ω s → 3 * rk ω s + 3 ≤ k → MOK z0 b c wt ω tal md st ts (fun z h => (rc_X0_meanFrom n k).1 z h (b + 55) (nI (enc s))) (Mv ω tal md s)) ∧ (∀ s t, SV ω s → t < opn ω s → 3 * rk ω s + 2 ≤ k → MOK z0 b c wt ω tal md st ts (fun z h => (rc_X0_meanFrom n k).2.1 z h (b + 55) (nI (enc s)) (nI t)) (mY ω tal md (Mv ω tal md) s t)) ∧ ∀ s ten, SV ω s → (md = true ∧ sL s = 1 → tn ω (drN ω tal s) ≤ ten) → ten ≤ 12 → 3 * rk ω s + 1 ≤ k → MOK z0 b c wt ω tal md st ts (fun z h => (rc_X0_meanFrom n k).2.2 z h (b + 55) (nI (enc s)) (nI ten)) (mD ω tal md (Mv ω tal md) s ten) := by
  intro k
  induction k with
  | zero => exact ⟨fun _ _ h => by omega, fun _ _ _ _ h => by omega, fun _ _ _ _ _ h => by omega⟩
  | succ k ih =>
    obtain ⟨i1, i2, i3⟩ := ih
    refine ⟨fun s hs hk => ?_, fun s t hs ht hk => ?_, fun s ten hs ht h12 hk => ?_⟩
    · exact cm_F (G1 := (rc_X0_meanFrom n k).1) (G2 := (rc_X0_meanFrom n k).2.1) (G3 := (rc_X0_meanFrom n k).2.2) hn hω hs (fun t ht => i2 s t hs ht (by omega)) (i3 s _ hs (fun q => (tn_dr hω hs q.2).2.1) (tn_le hω s) (by omega))
    · obtain ⟨q1, q2⟩ := opn_lt ht
      have r1 := rk_lv hω hs q2 q1
      have h12 := tn_le hω s
      exact cm_Y (G1 := (rc_X0_meanFrom n k).1) (G2 := (rc_X0_meanFrom n k).2.1) (G3 := (rc_X0_meanFrom n k).2.2) hn hω hs ht (i1 _ (lv_SV hω hs q2 q1).1 (by omega)) (i3 s _ hs (fun q => (tn_dr hω hs q.2).2.2 (by omega)) (by omega) (by omega))
    · exact cm_D (n := n) (G1 := (rc_X0_meanFrom n k).1) (G2 := (rc_X0_meanFrom n k).2.1) (G3 := (rc_X0_meanFrom n k).2.2) hω hs ht h12 (fun q => i1 _ (dr_SV hω hs).1 (by have := rk_dr (tal := tal) hω hs q.2; omega))
end
