/-! ===== hopes: what they are ===== -/
section
variable {τ : TT} {tal : Nat} {md : Bool}
theorem hD_congr {m m' : Nat → Int → Int} {s ten : Nat} {need : Int} (h : md = true ∧ sL s = 1 → m (drN τ tal s) need = m' (drN τ tal s) need) : hD τ tal md m s need ten = hD τ tal md m' s need ten := by
  unfold hD
  by_cases c : md = true ∧ sL s = 1
  · rw [if_pos c, if_pos c, h c]
  · rw [if_neg c, if_neg c]
theorem hY_congr {m m' : Nat → Int → Int} {s t : Nat} {need : Int} (h1 : m (lvN s t) (need - wV τ tal s t) = m' (lvN s t) (need - wV τ tal s t)) (h : md = true ∧ sL s = 1 → m (drN τ tal s) need = m' (drN τ tal s) need) : hY τ tal md m s need t = hY τ tal md m' s need t := by
  unfold hY
  rw [h1, hD_congr h]
theorem HP_s (k s : Nat) (need : Int) : HP τ tal md (k + 1) s need = if need ≤ 0 then 10 ^ (tn τ s) else mxT (fun t => hY τ tal md (HP τ tal md k) s need t) (hD τ tal md (HP τ tal md k) s need (tn τ s)) (opn τ s) := rfl
theorem HP_stab (hτ : TownOK τ) : ∀ k s need, SV τ s → rk τ s < k → HP τ tal md (k + 1) s need = HP τ tal md k s need := by
  intro k
  induction k with
  | zero => intro s need _ h; omega
  | succ k ih =>
    intro s need hs hr
    rw [HP_s (k + 1), HP_s k]
    by_cases c : need ≤ 0
    · rw [if_pos c, if_pos c]
    · rw [if_neg c, if_neg c]
      have hd : md = true ∧ sL s = 1 → HP τ tal md (k + 1) (drN τ tal s) need = HP τ tal md k (drN τ tal s) need := fun q => ih _ _ (dr_SV hτ hs).1 (by have := rk_dr (tal := tal) hτ hs q.2; omega)
      rw [hD_congr hd]
      exact mxT_congr _ (fun t ht => by
        obtain ⟨q1, q2⟩ := opn_lt ht
        have := rk_lv hτ hs q2 q1
        exact hY_congr (ih _ _ (lv_SV hτ hs q2 q1).1 (by omega)) hd)
end
def Hv (τ : TT) (tal : Nat) (md : Bool) (s : Nat) (need : Int) : Int := HP τ tal md 14 s need
section
variable {τ : TT} {tal : Nat} {md : Bool}
theorem Hv_eq (hτ : TownOK τ) {s : Nat} (hs : SV τ s) (need : Int) : Hv τ tal md s need = if need ≤ 0 then 10 ^ (tn τ s) else mxT (fun t => hY τ tal md (Hv τ tal md) s need t) (hD τ tal md (Hv τ tal md) s need (tn τ s)) (opn τ s) := by
  have h13 := rk_le hτ s
  show HP τ tal md (13 + 1) s need = _
  rw [HP_s 13]
  by_cases c : need ≤ 0
  · rw [if_pos c, if_pos c]
  · rw [if_neg c, if_neg c]
    have hd : md = true ∧ sL s = 1 → HP τ tal md 13 (drN τ tal s) need = Hv τ tal md (drN τ tal s) need := fun q => (HP_stab hτ 13 _ _ (dr_SV hτ hs).1 (by have := rk_dr (tal := tal) hτ hs q.2; omega)).symm
    rw [hD_congr hd]
    exact mxT_congr _ (fun t ht => by
      obtain ⟨q1, q2⟩ := opn_lt ht
      have := rk_lv hτ hs q2 q1
      exact hY_congr (HP_stab hτ 13 _ _ (lv_SV hτ hs q2 q1).1 (by omega)).symm hd)
theorem hD_bd (hτ : TownOK τ) {s ten : Nat} {need : Int} (hs : SV τ s) (ht : md = true ∧ sL s = 1 → tn τ (drN τ tal s) ≤ ten) (hm : md = true ∧ sL s = 1 → 0 ≤ Hv τ tal md (drN τ tal s) need ∧ Hv τ tal md (drN τ tal s) need ≤ 10 ^ (tn τ (drN τ tal s))) : 0 ≤ hD τ tal md (Hv τ tal md) s need ten ∧ hD τ tal md (Hv τ tal md) s need ten ≤ 10 ^ ten := by
  have p0 := E_pos ten
  unfold hD
  by_cases c : md = true ∧ sL s = 1
  · rw [if_pos c]
    have h1 := ht c
    obtain ⟨m1, m2⟩ := hm c
    have p1 := E_pos (ten - tn τ (drN τ tal s))
    refine ⟨Int.mul_nonneg m1 (by omega), ?_⟩
    have h2 := Int.mul_le_mul_of_nonneg_right m2 (show 0 ≤ (10 : Int) ^ (ten - tn τ (drN τ tal s)) by omega)
    rw [← E_add, show tn τ (drN τ tal s) + (ten - tn τ (drN τ tal s)) = ten by omega] at h2
    exact h2
  · rw [if_neg c]
    exact ⟨Int.le_refl _, by omega⟩
theorem hY_gen (hτ : TownOK τ) {s t : Nat} {need : Int} (hs : SV τ s) (ht : t < opn τ s) (hm : 0 ≤ Hv τ tal md (lvN s t) (need - wV τ tal s t) ∧ Hv τ tal md (lvN s t) (need - wV τ tal s t) ≤ 10 ^ (tn τ (lvN s t))) (hd : 0 ≤ hD τ tal md (Hv τ tal md) s need (tn τ s - 1) ∧ hD τ tal md (Hv τ tal md) s need (tn τ s - 1) ≤ 10 ^ (tn τ s - 1)) : 0 ≤ hY τ tal md (Hv τ tal md) s need t ∧ hY τ tal md (Hv τ tal md) s need t ≤ 10 ^ (tn τ s) := by
  have e1 := tn_lv hτ hs ht
  have hx := hτ.2.2.1
  have e2 : tn τ (lvN s t) = tn τ s - 1 := by omega
  rw [e2] at hm
  unfold hY
  rw [show (10 : Int) ^ (tn τ s) = 10 ^ (tn τ s - 1) * 10 by rw [← Int.pow_succ]; congr 1; omega]
  have p0 := E_pos (tn τ s - 1)
  generalize (10 : Int) ^ (tn τ s - 1) = E at *
  generalize hD τ tal md (Hv τ tal md) s need (tn τ s - 1) = d at *
  generalize Hv τ tal md (lvN s t) (need - wV τ tal s t) = a at *
  have a1 := Int.mul_le_mul_of_nonneg_left hm.2 (show 0 ≤ 10 - (tX τ : Int) by omega)
  have a2 := Int.mul_le_mul_of_nonneg_left hd.2 (show 0 ≤ (tX τ : Int) by omega)
  have a3 := Int.mul_nonneg (show 0 ≤ 10 - (tX τ : Int) by omega) hm.1
  have a4 := Int.mul_nonneg (show 0 ≤ (tX τ : Int) by omega) hd.1
  have a6 : (10 - (tX τ : Int)) * E + (tX τ : Int) * E = 10 * E := by rw [← Int.add_mul]; congr 1; omega
  omega
theorem Hv_bd' (hτ : TownOK τ) : ∀ R s need, SV τ s → rk τ s < R → 0 ≤ Hv τ tal md s need ∧ Hv τ tal md s need ≤ 10 ^ (tn τ s) := by
  intro R
  induction R with
  | zero => intro s need _ h; omega
  | succ R ih =>
    intro s need hs hr
    have p := E_pos (tn τ s)
    rw [Hv_eq hτ hs]
    by_cases c : need ≤ 0
    · rw [if_pos c]
      omega
    · rw [if_neg c]
      have hdr : md = true ∧ sL s = 1 → 0 ≤ Hv τ tal md (drN τ tal s) need ∧ Hv τ tal md (drN τ tal s) need ≤ 10 ^ (tn τ (drN τ tal s)) := fun q => ih _ _ (dr_SV hτ hs).1 (by have := rk_dr (tal := tal) hτ hs q.2; omega)
      have b0 := hD_bd (ten := tn τ s) hτ hs (fun q => (tn_dr hτ hs q.2).2.1) hdr
      have key := mxT_bd (g := fun t => hY τ tal md (Hv τ tal md) s need t) (v := hD τ tal md (Hv τ tal md) s need (tn τ s)) (B := 10 ^ (tn τ s)) b0.2 (opn τ s) (fun t ht => by
        obtain ⟨q1, q2⟩ := opn_lt ht
        have r1 := rk_lv hτ hs q2 q1
        exact (hY_gen hτ hs ht (ih _ _ (lv_SV hτ hs q2 q1).1 (by omega)) (hD_bd hτ hs (fun q => (tn_dr hτ hs q.2).2.2 (by omega)) hdr)).2)
      omega
theorem Hv_bd (hτ : TownOK τ) {s : Nat} (hs : SV τ s) (need : Int) : 0 ≤ Hv τ tal md s need ∧ Hv τ tal md s need ≤ 10 ^ (tn τ s) := Hv_bd' hτ (rk τ s + 1) s need hs (by omega)
theorem hD_b (hτ : TownOK τ) {s ten : Nat} (hs : SV τ s) (ht : md = true ∧ sL s = 1 → tn τ (drN τ tal s) ≤ ten) (need : Int) : 0 ≤ hD τ tal md (Hv τ tal md) s need ten ∧ hD τ tal md (Hv τ tal md) s need ten ≤ 10 ^ ten := hD_bd hτ hs ht (fun q => Hv_bd hτ (dr_SV hτ hs).1 need)
theorem hY_b (hτ : TownOK τ) {s t : Nat} (hs : SV τ s) (ht : t < opn τ s) (need : Int) : 0 ≤ hY τ tal md (Hv τ tal md) s need t ∧ hY τ tal md (Hv τ tal md) s need t ≤ 10 ^ (tn τ s) := by
  obtain ⟨q1, q2⟩ := opn_lt ht
  exact hY_gen hτ hs ht (Hv_bd hτ (lv_SV hτ hs q2 q1).1 _) (hD_b hτ hs (fun q => (tn_dr hτ hs q.2).2.2 (by omega)) need)
theorem mxT_zero {g : Nat → Int} : ∀ n, (∀ t, t < n → g t = 0) → mxT g 0 n = 0 := by
  intro n
  induction n with
  | zero => intro _; rfl
  | succ n ih =>
    intro h
    unfold mxT
    rw [ih (fun t ht => h t (by omega)), h n (by omega)]
    rfl
/-- nothing is to be hoped for where nothing can be had -/
theorem Hv_no (hτ : TownOK τ) (Mx : Nat → Int) (h0 : ∀ s, SV τ s → 0 ≤ Mx s) (h1 : ∀ s t, SV τ s → t < opn τ s → Mx (lvN s t) + wV τ tal s t ≤ Mx s) (h2 : ∀ s, SV τ s → md = true ∧ sL s = 1 → Mx (drN τ tal s) ≤ Mx s) : ∀ R s need, SV τ s → rk τ s < R → Mx s < need → Hv τ tal md s need = 0 := by
  intro R
  induction R with
  | zero => intro s need _ h; omega
  | succ R ih =>
    intro s need hs hr hn
    have g0 := h0 s hs
    have hd : ∀ ten, hD τ tal md (Hv τ tal md) s need ten = 0 := fun ten => by
      unfold hD
      by_cases c : md = true ∧ sL s = 1
      · have := rk_dr (tal := tal) hτ hs c.2
        have := h2 s hs c
        rw [if_pos c, ih _ _ (dr_SV hτ hs).1 (by omega) (by omega), Int.zero_mul]
      · rw [if_neg c]
    rw [Hv_eq hτ hs, if_neg (by omega), hd]
    refine mxT_zero _ (fun t ht => ?_)
    obtain ⟨q1, q2⟩ := opn_lt ht
    have r1 := rk_lv hτ hs q2 q1
    have := h1 s t hs ht
    show hY τ tal md (Hv τ tal md) s need t = 0
    unfold hY
    rw [hd, ih _ _ (lv_SV hτ hs q2 q1).1 (by omega) (by omega), Int.mul_zero, Int.mul_zero]
    rfl
theorem Hv_most (hτ : TownOK τ) {s : Nat} {need : Int} (hs : SV τ s) (hn : bM τ tal md s < need) : Hv τ tal md s need = 0 := by
  refine Hv_no hτ (bM τ tal md) (fun s hs => (b_bd hτ hs).1) (fun s t hs ht => ?_) (fun s hs hc => ?_) (rk τ s + 1) s need hs (by omega) hn
  · obtain ⟨q1, q2⟩ := opn_lt ht
    have r1 := rk_lv hτ hs q2 q1
    have b1 := b_bd (tal := tal) (md := md) hτ hs
    have b2 := b_bd (tal := tal) (md := md) hτ (lv_SV hτ hs q2 q1).1
    have sg : SG τ tal md s t = 16 * (bM τ tal md (lvN s t) + wV τ tal s t) - (bF τ tal md (lvN s t) + 1) := by unfold SG; omega
    have le : SG τ tal md s t ≤ (SC τ tal md 14 s).1 := by
      rw [SC_eq hτ hs]
      have sc : SG τ tal md s t ≤ (scT (SG τ tal md s) (opn τ s)).1 := by
        rcases scT_or (SG τ tal md s) (opn τ s) with ⟨e, q⟩ | ⟨t', h1, e, h2, h3, h4⟩
        · rw [e]; exact q t ht
        · rw [e]; exact h4 t ht
      split
      · rename_i hc
        dsimp only
        omega
      · exact sc
    omega
  · have r1 := rk_dr (tal := tal) hτ hs hc.2
    have b1 := b_bd (tal := tal) (md := md) hτ hs
    have b2 := b_bd (tal := tal) (md := md) hτ (dr_SV (tal := tal) hτ hs).1
    have le : (SC τ tal md 14 (drN τ tal s)).1 - 1 ≤ (SC τ tal md 14 s).1 := by
      rw [SC_eq hτ hs]
      split
      · exact Int.le_refl _
      · rename_i q
        have : ¬ (scT (SG τ tal md s) (opn τ s)).1 < (SC τ tal md 14 (drN τ tal s)).1 - 1 := fun q2 => q ⟨hc, q2⟩
        omega
    omega
/-- years that can still be lived -/
def yL (τ : TT) (md : Bool) (s : Nat) : Nat := (tY τ - sY s) + (if md = true ∧ sL s = 1 then tY τ else 0)
theorem Hv_yl (hτ : TownOK τ) {s : Nat} {need : Int} (hs : SV τ s) (hn : 9 * (yL τ md s : Int) < need) : Hv τ tal md s need = 0 := by
  refine Hv_no hτ (fun s => 9 * (yL τ md s : Int)) (fun s hs => by show (0 : Int) ≤ 9 * (yL τ md s : Int); omega) (fun s t hs ht => ?_) (fun s hs hc => ?_) (rk τ s + 1) s need hs (by omega) hn
  · obtain ⟨q1, q2⟩ := opn_lt ht
    obtain ⟨l1, l2, l3, l4, -⟩ := lv_SV hτ hs q2 q1
    have w1 := wV_bd τ tal s t
    show 9 * (yL τ md (lvN s t) : Int) + wV τ tal s t ≤ 9 * (yL τ md s : Int)
    unfold yL
    rw [l2, l4]
    split <;> omega
  · obtain ⟨l1, l2, l3, l4, -⟩ := dr_SV (tal := tal) hτ hs
    show 9 * (yL τ md (drN τ tal s) : Int) ≤ 9 * (yL τ md s : Int)
    unfold yL
    rw [l2, l4, if_neg (fun q => by omega), if_pos hc]
    omega
end
def Rh (τ : TT) (tal : Nat) (md : Bool) (s : Nat) (need : Int) : Int := Hv τ tal md s need * eT τ s
section
variable {τ : TT} {tal : Nat} {md : Bool}
theorem eT_b1 (hτ : TownOK τ) {s : Nat} {x : Int} (h1 : 0 ≤ x) (h2 : x ≤ 10 ^ (tn τ s)) : 0 ≤ x * eT τ s ∧ x * eT τ s ≤ 1000000000000 := by
  have p := eT_pos (τ := τ) s
  have e := eT_mul hτ s
  have a2 := Int.mul_le_mul_of_nonneg_right h2 (show 0 ≤ eT τ s by omega)
  rw [e] at a2
  exact ⟨Int.mul_nonneg h1 (by omega), a2⟩
theorem Rh_b (hτ : TownOK τ) {s : Nat} (hs : SV τ s) (need : Int) : 0 ≤ Rh τ tal md s need ∧ Rh τ tal md s need ≤ 1000000000000 := eT_b1 hτ (Hv_bd hτ hs need).1 (Hv_bd hτ hs need).2
theorem Rhd_eq (hτ : TownOK τ) {s : Nat} (hs : SV τ s) (need : Int) : hD τ tal md (Hv τ tal md) s need (tn τ s) * eT τ s = if md = true ∧ sL s = 1 then Rh τ tal md (drN τ tal s) need else 0 := by
  unfold hD
  by_cases c : md = true ∧ sL s = 1
  · rw [if_pos c, if_pos c]
    unfold Rh eT
    have := tn_dr (tal := tal) hτ hs c.2
    have h12 := tn_le hτ s
    rw [Int.mul_assoc, ← E_add]
    congr 2
    omega
  · rw [if_neg c, if_neg c, Int.zero_mul]
theorem Rhd_10 (hτ : TownOK τ) {s : Nat} (hs : SV τ s) (ho : 0 < opn τ s) (need : Int) : hD τ tal md (Hv τ tal md) s need (tn τ s) * eT τ s = 10 * (hD τ tal md (Hv τ tal md) s need (tn τ s - 1) * eT τ s) := by
  unfold hD
  by_cases c : md = true ∧ sL s = 1
  · rw [if_pos c, if_pos c]
    have := (tn_dr (tal := tal) hτ hs c.2).2.2 ho
    have h2 := tn_lv hτ hs ho
    rw [show tn τ s - tn τ (drN τ tal s) = (tn τ s - 1 - tn τ (drN τ tal s)) + 1 by omega, Int.pow_succ]
    simp only [Int.mul_comm, Int.mul_left_comm, Int.mul_assoc]
  · rw [if_neg c, if_neg c, Int.zero_mul]
    rfl
theorem Rhl_10 (hτ : TownOK τ) {s t : Nat} (hs : SV τ s) (ht : t < opn τ s) (need : Int) : Rh τ tal md (lvN s t) need = 10 * (Hv τ tal md (lvN s t) need * eT τ s) := by
  have e1 := tn_lv hτ hs ht
  have h12 := tn_le hτ s
  have e3 : eT τ (lvN s t) = eT τ s * 10 := by
    unfold eT
    rw [show 12 - tn τ (lvN s t) = (12 - tn τ s) + 1 by omega, Int.pow_succ]
  unfold Rh
  rw [e3, ← Int.mul_assoc, Int.mul_comm]
theorem RhY_eq {s t : Nat} {need : Int} : Hv τ tal md (lvN s t) (need - wV τ tal s t) * eT τ s * (10 - (tX τ : Int)) + hD τ tal md (Hv τ tal md) s need (tn τ s - 1) * eT τ s * (tX τ : Int) = hY τ tal md (Hv τ tal md) s need t * eT τ s := by
  unfold hY
  generalize Hv τ tal md (lvN s t) (need - wV τ tal s t) = a
  generalize hD τ tal md (Hv τ tal md) s need (tn τ s - 1) = d
  generalize 10 - (tX τ : Int) = u
  rw [Int.add_mul, Int.mul_right_comm a, Int.mul_comm a u, Int.mul_right_comm d, Int.mul_comm d]
end
/-! ===== hopes in the reference ===== -/
section
variable {n : Nat} {z : Sh} {b : Nat} {τ : TT} {P : Nat} {A : Nat → Int32} {tal : Nat} {md : Bool}
def KH (b : Nat) (h : Hp) (τ : TT) (tal : Nat) (md : Bool) : Prop := ∀ s need : Nat, SV τ s → 1 ≤ need → need ≤ 108 → h.J (b + 87) (109 * s + need) = lI (-1) ∨ h.J (b + 87) (109 * s + need) = lI (Rh τ tal md s need)
theorem KH.same {h h' : Hp} (K : KH b h τ tal md) (e : h'.J (b + 87) = h.J (b + 87)) : KH b h' τ tal md := by
  unfold KH
  rw [e]
  exact K
theorem KH.put {h : Hp} (K : KH b h τ tal md) {s need : Nat} (h1 : 1 ≤ need) (h2 : need ≤ 108) : KH b (h.setJ (b + 87) (109 * s + need) (lI (Rh τ tal md s need))) τ tal md := by
  intro s' need' hs' h1' h2'
  rw [setJ_J, if_pos rfl]
  by_cases e : 109 * s' + need' = 109 * s + need
  · obtain rfl : s' = s := by omega
    obtain rfl : need' = need := by omega
    exact Or.inr (if_pos rfl)
  · rw [show vp_updL (h.J (b + 87)) (109 * s + need) (lI (Rh τ tal md s need)) (109 * s' + need') = h.J (b + 87) (109 * s' + need') from if_neg e]
    exact K s' need' hs' h1' h2'
def HJ (z : Sh) (b : Nat) (τ : TT) (P : Nat) (A : Nat → Int32) (tal : Nat) (md : Bool) (G : Hp → Option (Int64 × Hp)) (v : Int) : Prop := ∀ h, BR b z h τ P A tal md → KH b h τ tal md → ∃ h', G h = some (lI v, h') ∧ Dz b h h' ∧ KH b h' τ tal md
theorem yl_ok {h : Hp} (B : BR b z h τ P A tal md) {s : Nat} (hs : SV τ s) : f_X12_yearsLeft z h (b + 72) (nI s) = some (nI (yL τ md s)) := by
  have HM := B.1.1
  have hA := B.1.2.2.2.1
  have hy := hs.2.2.1
  unfold f_X12_yearsLeft yL
  rw [if_pos (km_0 HM), gR_ok (km_0 HM) (rm_1 HM), bS, show (1 : Int32) = nI 1 from rfl, lm_1 HM (by omega), bS, B.1.2.2.1, hA.1, y_ok hs.1, bS, can_ok B hs.1, bS, nI_sub hy]
  by_cases hc : md = true ∧ sL s = 1
  · rw [if_pos hc, if_neg (show ¬ (1 : Int32) = 0 by decide), bS, lm_1 HM (by omega), bS, B.1.2.2.1, hA.1, if_pos hc, nI_add]
  · rw [if_neg hc, if_pos rfl, if_neg hc]
    exact congrArg some (nI_add _ 0)
theorem rh_D (hn : 400000 ≤ n) {G1 : Sh → Hp → Nat → Int32 → Int32 → Option (Int64 × Hp)} {G2 : Sh → Hp → Nat → Int32 → Int32 → Int32 → Option (Int64 × Hp)} {G3 : Sh → Hp → Nat → Int32 → Int32 → Option (Int64 × Hp)} {s : Nat} {need : Int} (hτ : TownOK τ) (hs : SV τ s) (hG : md = true ∧ sL s = 1 → HJ z b τ P A tal md (fun h => G3 z h (b + 72) (nI (drN τ tal s)) (iI need)) (Rh τ tal md (drN τ tal s) need)) : HJ z b τ P A tal md (fun h => F_X12_drawnHope n G1 G2 G3 z h (b + 72) (nI s) (iI need)) (hD τ tal md (Hv τ tal md) s need (tn τ s) * eT τ s) := by
  intro h B K
  have HM := B.1.1
  have hs0 := hs.1
  dsimp only
  unfold F_X12_drawnHope
  rw [if_pos (km_0 HM), can_ok B hs0, bS, Rhd_eq hτ hs]
  by_cases hc : md = true ∧ sL s = 1
  · rw [if_pos hc, if_neg (show ¬ (1 : Int32) = 0 by decide), if_pos hc]
    obtain ⟨r1, r2, e1⟩ := mdrawn_ok (n := n) (z := z) (h := h) HM hn hτ (by rw [B.1.2.2.1]; exact B.1.2.2.2.1) B.2.2.2 hs0
    obtain ⟨h1, e2, D1, K1⟩ := hG hc _ (B.dz (Dz.two b h r1 r2)) (K.same rfl)
    refine ⟨h1, ?_, (Dz.two b h r1 r2).trans D1, K1⟩
    dsimp only at e2
    rw [gI_ok (km_0 HM), bS, B.2.1, e1, bS]
    dsimp only
    rw [ckK_ok (km_0 HM), bS, e2, bS]
  · rw [if_neg hc, if_pos rfl, if_neg hc]
    exact ⟨h, rfl, Dz.refl b h, K⟩
theorem rh_Y (hn : 400000 ≤ n) {G1 : Sh → Hp → Nat → Int32 → Int32 → Option (Int64 × Hp)} {G2 : Sh → Hp → Nat → Int32 → Int32 → Int32 → Option (Int64 × Hp)} {G3 : Sh → Hp → Nat → Int32 → Int32 → Option (Int64 × Hp)} {s t : Nat} {need : Int} (hτ : TownOK τ) (hs : SV τ s) (ht : t < opn τ s) (hG3 : HJ z b τ P A tal md (fun h => G3 z h (b + 72) (nI (lvN s t)) (iI (need - wV τ tal s t))) (Rh τ tal md (lvN s t) (need - wV τ tal s t))) (hG1 : HJ z b τ P A tal md (fun h => G1 z h (b + 72) (nI s) (iI need)) (hD τ tal md (Hv τ tal md) s need (tn τ s) * eT τ s)) : HJ z b τ P A tal md (fun h => F_X12_livedHope n G1 G2 G3 z h (b + 72) (nI s) (nI t) (iI need)) (hY τ tal md (Hv τ tal md) s need t * eT τ s) := by
  intro h B K
  have HM := B.1.1
  have hs0 := hs.1
  have hx := hτ.2.2.1
  have o4 := opn4 hτ s
  obtain ⟨q1, q2⟩ := opn_lt ht
  have hlv := (lv_SV hτ hs q2 q1).1
  obtain ⟨r1, r2, e1⟩ := mworth_ok (n := n) (z := z) (h := h) HM hn hτ (by rw [B.1.2.2.1]; exact B.1.2.2.2.1) B.2.2.2 hs0 (show t ≤ 9 by omega)
  have B1 := B.dz (Dz.two b h r1 r2)
  obtain ⟨h1, e2, D1, K1⟩ := hG3 _ B1 (K.same rfl)
  have B2 := B1.dz D1
  obtain ⟨h2, e3, D2, K2⟩ := hG1 _ B2 K1
  have B3 := B2.dz D2
  refine ⟨h2, ?_, ((Dz.two b h r1 r2).trans D1).trans D2, K2⟩
  have lb := Rh_b (tal := tal) (md := md) hτ hlv (need - wV τ tal s t)
  have el := Rhl_10 (tal := tal) (md := md) hτ hs ht (need - wV τ tal s t)
  have ed := Rhd_10 (tal := tal) (md := md) hτ hs (by omega) need
  have db := hD_b (tal := tal) (md := md) (ten := tn τ s) hτ hs (fun q => (tn_dr hτ hs q.2).2.1) need
  have db2 := eT_b1 hτ db.1 db.2
  dsimp only at e2 e3 ⊢
  unfold F_X12_livedHope
  rw [if_pos (km_0 HM), lv_ok hs0 (by omega), bS, gI_ok (km_0 HM), bS, B.2.1, e1, bS]
  dsimp only
  rw [ckK_ok (km_0 HM), bS, iI_sub, e2, bS]
  dsimp only
  rw [el, dv10 (by omega) (by omega), bS, gR_ok (km_0 HM) (rm_1 B2.1.1), bS, show (4 : Int32) = nI 4 from rfl, lm_1 B2.1.1 (by omega), bS, B2.1.2.2.1, B.1.2.2.2.1.2.2.1, bS, e3, bS]
  dsimp only
  rw [ed, dv10 (by omega) (by omega), bS, gR_ok (km_0 HM) (rm_1 B3.1.1), bS, lm_1 B3.1.1 (by omega), bS, B3.1.2.2.1, B.1.2.2.2.1.2.2.1, show (10 : Int32) = nI 10 from rfl, nI_sub (show tX τ ≤ 10 by omega), nI_iI (10 - tX τ), iI_64 (by omega) (by omega), lI_mul, nI_iI (tX τ), iI_64 (by omega) (by omega), lI_mul, lI_add, show ((10 - tX τ : Nat) : Int) = 10 - (tX τ : Int) by omega, RhY_eq]
theorem rh_58 (hn : 400000 ≤ n) {G1 : Sh → Hp → Nat → Int32 → Int32 → Option (Int64 × Hp)} {G2 : Sh → Hp → Nat → Int32 → Int32 → Int32 → Option (Int64 × Hp)} {G3 : Sh → Hp → Nat → Int32 → Int32 → Option (Int64 × Hp)} {s need : Nat} (hτ : TownOK τ) (hs : SV τ s) (h1 : 1 ≤ need) (h2 : need ≤ 108) (hG2 : ∀ t, t < opn τ s → HJ z b τ P A tal md (fun h => G2 z h (b + 72) (nI s) (nI t) (iI need)) (hY τ tal md (Hv τ tal md) s need t * eT τ s)) : ∀ (d t i : Nat) (h : Hp), t + d = opn τ s → d < i → BR b z h τ P A tal md → KH b h τ tal md → ∃ h', f_X12_hopeFrom_58 n G1 G2 G3 z i h (b + 72) (nI s) (iI need) (nI (109 * s + need)) (lI (mxT (fun t => hY τ tal md (Hv τ tal md) s need t) (hD τ tal md (Hv τ tal md) s need (tn τ s)) t * eT τ s)) (nI t) = some (lI (Rh τ tal md s need), h') ∧ Dz b h h' ∧ KH b h' τ tal md := by
  have hTD := hτ.2.1
  have o4 := opn4 hτ s
  have hs0 := hs.1
  have ep := eT_pos (τ := τ) s
  have db := hD_b (tal := tal) (md := md) (ten := tn τ s) hτ hs (fun q => (tn_dr hτ hs q.2).2.1) need
  intro d
  induction d with
  | zero =>
    intro t i h hj hi B K
    obtain ⟨i, rfl⟩ : ∃ k, i = k + 1 := ⟨i - 1, by omega⟩
    obtain rfl : t = opn τ s := by omega
    have HM := B.1.1
    have hA := B.1.2.2.2.1
    have eq : mxT (fun t => hY τ tal md (Hv τ tal md) s need t) (hD τ tal md (Hv τ tal md) s need (tn τ s)) (opn τ s) = Hv τ tal md s need := by rw [Hv_eq hτ hs need, if_neg (by omega)]
    have fin : ∃ h', f_X12_hopeFrom_110 n G1 G2 G3 z h (b + 72) (nI (109 * s + need)) (lI (Rh τ tal md s need)) = some (lI (Rh τ tal md s need), h') ∧ Dz b h h' ∧ KH b h' τ tal md := by
      refine ⟨h.setJ (b + 87) (109 * s + need) (lI (Rh τ tal md s need)), ?_, ⟨rfl, fun a ha => by rw [setJ_J, if_neg (by omega)], fun a ha => rfl⟩, K.put h1 h2⟩
      unfold f_X12_hopeFrom_110
      rw [gR_ok (km_0 HM) (rm_30 HM), bS, sm_15 HM (by omega), bS]
    rw [f_X12_hopeFrom_58.eq_2, gR_ok (km_0 HM) (rm_1 HM), bS, show (2 : Int32) = nI 2 from rfl, lm_1 HM (by omega), bS, B.1.2.2.1, hA.2.1, eq]
    by_cases hy : sY s < tY τ
    · have e : opn τ s = tD τ := by unfold opn; rw [if_pos hy]
      rw [if_pos ((nI_leI (by omega) (by omega)).mpr (by omega))]
      exact fin
    · have e : opn τ s = 0 := by unfold opn; rw [if_neg hy]
      rw [if_neg (fun q => by have := (nI_leI (by omega) (by omega)).mp q; omega), over_ok B.1 hs0, bS, if_neg hy, if_neg (show ¬ (1 : Int32) = 0 by decide)]
      exact fin
  | succ d ih =>
    intro t i h hj hi B K
    obtain ⟨i, rfl⟩ : ∃ k, i = k + 1 := ⟨i - 1, by omega⟩
    have HM := B.1.1
    have hA := B.1.2.2.2.1
    have hto : t < opn τ s := by omega
    obtain ⟨q1, q2⟩ := opn_lt hto
    obtain ⟨g1, e1, D1, K1⟩ := hG2 t hto h B K
    have yb := hY_b (tal := tal) (md := md) hτ hs hto need
    have yb2 := eT_b1 hτ yb.1 yb.2
    have xb := mxT_bd (g := fun t => hY τ tal md (Hv τ tal md) s need t) (v := hD τ tal md (Hv τ tal md) s need (tn τ s)) (B := 10 ^ (tn τ s)) db.2 t (fun t' ht' => (hY_b hτ hs (by omega) need).2)
    have xb2 := eT_b1 hτ (show 0 ≤ mxT (fun t => hY τ tal md (Hv τ tal md) s need t) (hD τ tal md (Hv τ tal md) s need (tn τ s)) t by omega) xb.2
    obtain ⟨g2, e2, D2, K2⟩ := ih (t + 1) i g1 (by omega) (by omega) (B.dz D1) K1
    refine ⟨g2, ?_, D1.trans D2, K2⟩
    dsimp only at e1
    rw [f_X12_hopeFrom_58.eq_2, gR_ok (km_0 HM) (rm_1 HM), bS, show (2 : Int32) = nI 2 from rfl, lm_1 HM (by omega), bS, B.1.2.2.1, hA.2.1, if_neg (fun q => by have := (nI_leI (by omega) (by omega)).mp q; omega), over_ok B.1 hs0, bS, if_pos q1, if_pos rfl, ckK_ok (km_0 HM), bS, e1, bS]
    dsimp only
    unfold f_X12_hopeFrom_102
    rw [bS, bS, show nI t + 1 = nI (t + 1) from nI_add t 1]
    unfold mxT at e2
    by_cases cq : mxT (fun t => hY τ tal md (Hv τ tal md) s need t) (hD τ tal md (Hv τ tal md) s need (tn τ s)) t < hY τ tal md (Hv τ tal md) s need t
    · rw [if_pos cq] at e2
      rw [if_neg (fun q => by
        rw [cmp_le, lI_to (by omega) (by omega), lI_to (by omega) (by omega), mulE_le ep] at q
        omega)]
      exact e2
    · rw [if_neg cq] at e2
      rw [if_pos (by
        rw [cmp_le, lI_to (by omega) (by omega), lI_to (by omega) (by omega), mulE_le ep]
        omega)]
      exact e2
theorem rh_F (hn : 400000 ≤ n) {G1 : Sh → Hp → Nat → Int32 → Int32 → Option (Int64 × Hp)} {G2 : Sh → Hp → Nat → Int32 → Int32 → Int32 → Option (Int64 × Hp)} {G3 : Sh → Hp → Nat → Int32 → Int32 → Option (Int64 × Hp)} {s : Nat} {need : Int} (hτ : TownOK τ) (hs : SV τ s) (hnb : -1000 ≤ need ∧ need ≤ 1000) (hG1 : HJ z b τ P A tal md (fun h => G1 z h (b + 72) (nI s) (iI need)) (hD τ tal md (Hv τ tal md) s need (tn τ s) * eT τ s)) (hG2 : ∀ t, t < opn τ s → HJ z b τ P A tal md (fun h => G2 z h (b + 72) (nI s) (nI t) (iI need)) (hY τ tal md (Hv τ tal md) s need t * eT τ s)) : HJ z b τ P A tal md (fun h => F_X12_hopeFrom n G1 G2 G3 z h (b + 72) (nI s) (iI need)) (Rh τ tal md s need) := by
  intro h B K
  have HM := B.1.1
  have hs0 := hs.1
  have o4 := opn4 hτ s
  have hTY := hτ.1
  have yb : yL τ md s ≤ 12 := by unfold yL; split <;> omega
  dsimp only
  unfold F_X12_hopeFrom
  rw [if_pos (km_0 HM)]
  by_cases c0 : 0 < need
  · rw [if_pos (show (0 : Int32) < iI need by rw [show (0 : Int32) = iI 0 by decide, iI_lt (by omega) (by omega) (by omega) (by omega)]; exact c0), yl_ok B hs, bS, show (9 : Int32) = nI 9 from rfl, nI_mul, nI_iI (9 * yL τ md s)]
    by_cases c1 : need ≤ 9 * (yL τ md s : Int)
    · obtain ⟨m, rfl⟩ : ∃ m : Nat, need = m := ⟨need.toNat, by omega⟩
      have ix : (109 : Int32) * nI s + iI (m : Int) = nI (109 * s + m) := by rw [← nI_iI m, show (109 : Int32) = nI 109 from rfl, nI_mul, nI_add]
      have rb := Rh_b (tal := tal) (md := md) hτ hs (m : Int)
      rw [if_pos ((iI_le (by omega) (by omega) (by omega) (by omega)).mpr (by omega)), bS, ix, gR_ok (km_0 HM) (rm_30 HM), bS, lm_15 HM (by omega), bS]
      rcases K s m hs (by omega) (by omega) with e | e
      · rw [e, if_pos (show lg_cmp (lI (-1)) 0 < 0 by decide)]
        obtain ⟨g1, e1, D1, K1⟩ := hG1 h B K
        obtain ⟨g2, e2, D2, K2⟩ := rh_58 (n := n) (G1 := G1) (G2 := G2) (G3 := G3) hn hτ hs (by omega) (by omega) hG2 (opn τ s) 0 n g1 (by omega) (by omega) (B.dz D1) K1
        refine ⟨g2, ?_, D1.trans D2, K2⟩
        dsimp only at e1
        rw [ckK_ok (km_0 HM), bS, e1, bS]
        exact e2
      · refine ⟨h, ?_, Dz.refl b h, K⟩
        rw [e, if_neg (fun q => by
          rw [cmp_lt, lI_to (by omega) (by omega), show (0 : Int64).toInt = 0 from rfl] at q
          omega), bS, lm_15 HM (by omega), bS, e]
    · refine ⟨h, ?_, Dz.refl b h, K⟩
      rw [if_neg (fun q => by rw [iI_le (by omega) (by omega) (by omega) (by omega)] at q; omega)]
      unfold Rh
      rw [Hv_yl hτ hs (by omega), Int.zero_mul]
      rfl
  · refine ⟨h, ?_, Dz.refl b h, K⟩
    rw [if_neg (show ¬ (0 : Int32) < iI need from fun q => by rw [show (0 : Int32) = iI 0 by decide, iI_lt (by omega) (by omega) (by omega) (by omega)] at q; exact c0 q)]
    unfold Rh
    rw [Hv_eq hτ hs, if_pos (by omega), eT_mul hτ s]
    rfl
theorem rh_ok (hn : 400000 ≤ n) (hτ : TownOK τ) : ∀ k, (∀ s need, SV τ s → -1000 + 9 * (rk τ s : Int) ≤ need → need ≤ 1000 - 9 * (rk τ s : Int) → 3 * rk τ s + 1 ≤ k → HJ z b τ P A tal md (fun h => (rc_X12_drawnHope n k).1 z h (b + 72) (nI s) (iI need)) (hD τ tal md (Hv τ tal md) s need (tn τ s) * eT τ s)) ∧ (∀ s t need, SV τ s → t < opn τ s → -1000 + 9 * (rk τ s : Int) ≤ need → need ≤ 1000 - 9 * (rk τ s : Int) → 3 * rk τ s + 2 ≤ k → HJ z b τ P A tal md (fun h => (rc_X12_drawnHope n k).2.1 z h (b + 72) (nI s) (nI t) (iI need)) (hY τ tal md (Hv τ tal md) s need t * eT τ s)) ∧ ∀ s need, SV τ s → -1000 + 9 * (rk τ s : Int) ≤ need → need ≤ 1000 - 9 * (rk τ s : Int) → 3 * rk τ s + 3 ≤ k → HJ z b τ P A tal md (fun h => (rc_X12_drawnHope n k).2.2 z h (b + 72) (nI s) (iI need)) (Rh τ tal md s need) := by
  intro k
  induction k with
  | zero => exact ⟨fun _ _ _ _ _ h => by omega, fun _ _ _ _ _ _ _ h => by omega, fun _ _ _ _ _ h => by omega⟩
  | succ k ih =>
    obtain ⟨i1, i2, i3⟩ := ih
    refine ⟨fun s need hs n1 n2 hk => ?_, fun s t need hs ht n1 n2 hk => ?_, fun s need hs n1 n2 hk => ?_⟩
    · exact rh_D (n := n) (G1 := (rc_X12_drawnHope n k).1) (G2 := (rc_X12_drawnHope n k).2.1) (G3 := (rc_X12_drawnHope n k).2.2) hn hτ hs (fun q => by
        have := rk_dr (tal := tal) hτ hs q.2
        exact i3 _ _ (dr_SV hτ hs).1 (by omega) (by omega) (by omega))
    · obtain ⟨q1, q2⟩ := opn_lt ht
      have r1 := rk_lv hτ hs q2 q1
      have wb := wV_bd τ tal s t
      exact rh_Y (n := n) (G1 := (rc_X12_drawnHope n k).1) (G2 := (rc_X12_drawnHope n k).2.1) (G3 := (rc_X12_drawnHope n k).2.2) hn hτ hs ht (i3 _ _ (lv_SV hτ hs q2 q1).1 (by omega) (by omega) (by omega)) (i1 s _ hs n1 n2 (by omega))
    · exact rh_F (n := n) (G1 := (rc_X12_drawnHope n k).1) (G2 := (rc_X12_drawnHope n k).2.1) (G3 := (rc_X12_drawnHope n k).2.2) hn hτ hs (by omega) (i1 s _ hs n1 n2 (by omega)) (fun t ht => i2 s t _ hs ht n1 n2 (by omega))
end
