/-! ===== the best course on the reference's side ===== -/
theorem scT_or (g : Nat → Int) : ∀ n, (scT g n = (0, -1) ∧ ∀ t, t < n → g t ≤ 0) ∨ ∃ t, t < n ∧ scT g n = (g t, (t : Int)) ∧ 0 < g t ∧ (∀ t', t' < t → g t' < g t) ∧ ∀ t', t' < n → g t' ≤ g t := by
  intro n
  induction n with
  | zero => exact Or.inl ⟨rfl, fun t ht => absurd ht (Nat.not_lt_zero t)⟩
  | succ n ih =>
    unfold scT
    rcases ih with ⟨e, h⟩ | ⟨t, h1, e, h2, h3, h4⟩
    · rw [e]
      by_cases c : (0 : Int) < g n
      · rw [if_pos c]
        refine Or.inr ⟨n, by omega, rfl, c, fun t' ht' => by have := h t' ht'; omega, fun t' ht' => ?_⟩
        by_cases q : t' = n
        · rw [q]; exact Int.le_refl _
        · have := h t' (by omega); omega
      · rw [if_neg c]
        refine Or.inl ⟨rfl, fun t ht => ?_⟩
        by_cases q : t = n
        · rw [q]; omega
        · exact h t (by omega)
    · rw [e]
      by_cases c : g t < g n
      · rw [if_pos c]
        refine Or.inr ⟨n, by omega, rfl, by omega, fun t' ht' => by have := h4 t' ht'; omega, fun t' ht' => ?_⟩
        by_cases q : t' = n
        · rw [q]; exact Int.le_refl _
        · have := h4 t' (by omega); omega
      · rw [if_neg c]
        refine Or.inr ⟨t, by omega, rfl, h2, h3, fun t' ht' => ?_⟩
        by_cases q : t' = n
        · rw [q]; omega
        · exact h4 t' (by omega)
def lM (q : Int) : Int := (q + 15) / 16
def lF (q : Int) : Int := 16 * lM q - q
theorem lF_bd (q : Int) : 0 ≤ lF q ∧ lF q ≤ 15 ∧ q = 16 * lM q - lF q := by
  unfold lF lM
  refine ⟨by omega, by omega, by omega⟩
theorem lM_of {q m f : Int} (h : q = 16 * m - f) (h1 : 0 ≤ f) (h2 : f ≤ 15) : lM q = m ∧ lF q = f := by
  unfold lF lM
  refine ⟨by omega, by omega⟩
section
variable {τ : TT} {tal : Nat} {md : Bool}
/-- how a best course begins -/
theorem SC_cs (hτ : TownOK τ) {s : Nat} (hs : SV τ s) : ((SC τ tal md 14 s) = (0, -1) ∧ (∀ t, t < opn τ s → SG τ tal md s t ≤ 0) ∧ (md = true ∧ sL s = 1 → (SC τ tal md 14 (drN τ tal s)).1 ≤ 1)) ∨ (∃ t, t < opn τ s ∧ SC τ tal md 14 s = (SG τ tal md s t, (t : Int)) ∧ (∀ t', t' < t → SG τ tal md s t' < SG τ tal md s t)) ∨ ((md = true ∧ sL s = 1) ∧ SC τ tal md 14 s = ((SC τ tal md 14 (drN τ tal s)).1 - 1, 9) ∧ ∀ t, t < opn τ s → SG τ tal md s t < (SC τ tal md 14 (drN τ tal s)).1 - 1) := by
  rw [SC_eq hτ hs]
  by_cases c : (md = true ∧ sL s = 1) ∧ (scT (SG τ tal md s) (opn τ s)).1 < (SC τ tal md 14 (drN τ tal s)).1 - 1
  · rw [if_pos c]
    refine Or.inr (Or.inr ⟨c.1, rfl, fun t ht => ?_⟩)
    rcases scT_or (SG τ tal md s) (opn τ s) with ⟨e, h⟩ | ⟨t', h1, e, h2, h3, h4⟩
    · have := c.2
      rw [e] at this
      have h5 := h t ht
      dsimp only at this
      omega
    · have := c.2
      rw [e] at this
      have h5 := h4 t ht
      dsimp only at this
      omega
  · rw [if_neg c]
    rcases scT_or (SG τ tal md s) (opn τ s) with ⟨e, h⟩ | ⟨t', h1, e, h2, h3, h4⟩
    · refine Or.inl ⟨e, h, fun q => ?_⟩
      have : ¬ (scT (SG τ tal md s) (opn τ s)).1 < (SC τ tal md 14 (drN τ tal s)).1 - 1 := fun q2 => c ⟨q, q2⟩
      rw [e] at this
      dsimp only at this
      omega
    · exact Or.inr (Or.inl ⟨t', h1, e, h3⟩)
theorem SC_few (hτ : TownOK τ) : ∀ R s, SV τ s → rk τ s < R → lF (SC τ tal md 14 s).1 ≤ rk τ s := by
  intro R
  induction R with
  | zero => intro s _ h; omega
  | succ R ih =>
    intro s hs hr
    have h13 := rk_le hτ s
    rcases SC_cs (tal := tal) (md := md) hτ hs with ⟨e, -, -⟩ | ⟨t, ht, e, -⟩ | ⟨hc, e, -⟩
    · rw [e]
      show lF 0 ≤ _
      rw [show lF 0 = 0 by decide]
      omega
    · obtain ⟨q1, q2⟩ := opn_lt ht
      have r1 := rk_lv hτ hs q2 q1
      have i1 := ih _ (lv_SV hτ hs q2 q1).1 (by omega)
      have b1 := lF_bd (SC τ tal md 14 (lvN s t)).1
      rw [e]
      show lF (SG τ tal md s t) ≤ _
      rw [(lM_of (q := SG τ tal md s t) (m := lM (SC τ tal md 14 (lvN s t)).1 + wV τ tal s t) (f := lF (SC τ tal md 14 (lvN s t)).1 + 1) (by unfold SG; omega) (by omega) (by omega)).2]
      omega
    · have r1 := rk_dr (tal := tal) hτ hs hc.2
      have i1 := ih _ (dr_SV (tal := tal) hτ hs).1 (by omega)
      have b1 := lF_bd (SC τ tal md 14 (drN τ tal s)).1
      rw [e]
      show lF ((SC τ tal md 14 (drN τ tal s)).1 - 1) ≤ _
      rw [(lM_of (q := (SC τ tal md 14 (drN τ tal s)).1 - 1) (m := lM (SC τ tal md 14 (drN τ tal s)).1) (f := lF (SC τ tal md 14 (drN τ tal s)).1 + 1) (by omega) (by omega) (by omega)).2]
      omega
end
def bM (τ : TT) (tal : Nat) (md : Bool) (s : Nat) : Int := lM (SC τ tal md 14 s).1
def bF (τ : TT) (tal : Nat) (md : Bool) (s : Nat) : Int := lF (SC τ tal md 14 s).1
section
variable {τ : TT} {tal : Nat} {md : Bool}
theorem b_bd (hτ : TownOK τ) {s : Nat} (hs : SV τ s) : 0 ≤ bM τ tal md s ∧ bM τ tal md s ≤ 118 ∧ 0 ≤ bF τ tal md s ∧ bF τ tal md s ≤ rk τ s ∧ rk τ s ≤ 13 ∧ (SC τ tal md 14 s).1 = 16 * bM τ tal md s - bF τ tal md s := by
  have h13 := rk_le hτ s
  have h1 := SC_bd (tal := tal) (md := md) hτ 14 s hs
  have h2 := lF_bd (SC τ tal md 14 s).1
  have h3 := SC_few (tal := tal) (md := md) hτ (rk τ s + 1) s hs (by omega)
  unfold bM bF
  refine ⟨by unfold lM; omega, by unfold lM; omega, h2.1, h3, h13, h2.2.2⟩
theorem SG_lm (hτ : TownOK τ) {s t : Nat} (hs : SV τ s) (ht : t < opn τ s) : lM (SG τ tal md s t) = bM τ tal md (lvN s t) + wV τ tal s t ∧ lF (SG τ tal md s t) = bF τ tal md (lvN s t) + 1 := by
  obtain ⟨q1, q2⟩ := opn_lt ht
  have r1 := rk_lv hτ hs q2 q1
  have b1 := b_bd (tal := tal) (md := md) hτ (lv_SV hτ hs q2 q1).1
  have b2 := rk_le hτ s
  exact lM_of (by unfold SG; omega) (by omega) (by omega)
end
def BR (b : Nat) (z : Sh) (h : Hp) (τ : TT) (P : Nat) (A : Nat → Int32) (tal : Nat) (md : Bool) : Prop := RefI b z h τ P A ∧ h.I (b + 72) 25 = nI tal ∧ h.I (b + 72) 26 = (if md = true then nI 1 else nI 0) ∧ tal ≤ 9
/-- rows that a best course changes -/
def Lz (b : Nat) (h h' : Hp) : Prop := h'.2.2 = h.2.2 ∧ (∀ a, h'.J a = h.J a) ∧ ∀ a, a ≠ b + 77 → a ≠ b + 78 → a ≠ b + 80 → a ≠ b + 81 → a ≠ b + 83 → h'.I a = h.I a
theorem Lz.refl (b : Nat) (h : Hp) : Lz b h h := ⟨rfl, fun _ => rfl, fun _ _ _ _ _ _ => rfl⟩
theorem Lz.trans {b : Nat} {h h' h'' : Hp} (H : Lz b h h') (G : Lz b h' h'') : Lz b h h'' := ⟨G.1.trans H.1, fun a => (G.2.1 a).trans (H.2.1 a), fun a k1 k2 k3 k4 k5 => (G.2.2 a k1 k2 k3 k4 k5).trans (H.2.2 a k1 k2 k3 k4 k5)⟩
theorem Lz.two (b : Nat) (h : Hp) (f g : Nat → Int32) : Lz b h ((h.rowI (b + 78) f).rowI (b + 77) g) := ⟨rfl, fun _ => rfl, fun a k1 k2 _ _ _ => by rw [rowI_Ib, if_neg k1, rowI_Ib, if_neg k2]⟩
theorem BR.lz {b : Nat} {z : Sh} {h h' : Hp} {τ : TT} {P : Nat} {A : Nat → Int32} {tal : Nat} {md : Bool} (H : BR b z h τ P A tal md) (L : Lz b h h') : BR b z h' τ P A tal md := by
  obtain ⟨h1, h2, h3, h4⟩ := H
  have e72 := L.2.2 (b + 72) (by omega) (by omega) (by omega) (by omega) (by omega)
  exact ⟨h1.fr L.1 (L.2.2 _ (by omega) (by omega) (by omega) (by omega) (by omega)), by rw [e72]; exact h2, by rw [e72]; exact h3, h4⟩
theorem Lz.sc {b : Nat} {h h' : Hp} (L : Lz b h h') : Sc b h h' := Sc.mk' L.1 L.2.1 (fun a _ _ _ _ _ _ _ _ k => L.2.2 a (by omega) (by omega) (by omega) (by omega) (by omega)) (fun k _ => by rw [L.2.2 (b + 72) (by omega) (by omega) (by omega) (by omega) (by omega)])
def KV (b : Nat) (h : Hp) (τ : TT) (tal : Nat) (md : Bool) (s : Nat) : Prop := h.I (b + 80) s = iI (bM τ tal md s) ∧ h.I (b + 81) s = iI (bF τ tal md s)
def KN (b : Nat) (h : Hp) (τ : TT) (tal : Nat) (md : Bool) (R : Nat) : Prop := (∀ s, s < 3430 → h.I (b + 83) s = nI 0 ∨ h.I (b + 83) s = nI 1) ∧ ∀ s, SV τ s → rk τ s < R → h.I (b + 83) s = nI 1 → KV b h τ tal md s ∧ (∀ t, t < opn τ s → h.I (b + 83) (lvN s t) = nI 1) ∧ (md = true ∧ sL s = 1 → h.I (b + 83) (drN τ tal s) = nI 1)
theorem KN.le {b : Nat} {h : Hp} {τ : TT} {tal : Nat} {md : Bool} {R R' : Nat} (H : KN b h τ tal md R) (hr : R' ≤ R) : KN b h τ tal md R' := ⟨H.1, fun s hs hk => H.2 s hs (by omega)⟩
def LU (b : Nat) (τ : TT) (h h' : Hp) (s : Nat) : Prop := (∀ s', s' ≠ s → rk τ s ≤ rk τ s' → h'.I (b + 80) s' = h.I (b + 80) s' ∧ h'.I (b + 81) s' = h.I (b + 81) s' ∧ h'.I (b + 83) s' = h.I (b + 83) s') ∧ ∀ s', h.I (b + 83) s' = nI 1 → h'.I (b + 83) s' = nI 1
theorem LU.refl (b : Nat) (τ : TT) (h : Hp) (s : Nat) : LU b τ h h s := ⟨fun _ _ _ => ⟨rfl, rfl, rfl⟩, fun _ q => q⟩
theorem LU.trans {b : Nat} {τ : TT} {h h' h'' : Hp} {s : Nat} (H : LU b τ h h' s) (G : LU b τ h' h'' s) : LU b τ h h'' s := ⟨fun s' k1 k2 => ⟨(G.1 s' k1 k2).1.trans (H.1 s' k1 k2).1, (G.1 s' k1 k2).2.1.trans (H.1 s' k1 k2).2.1, (G.1 s' k1 k2).2.2.trans (H.1 s' k1 k2).2.2⟩, fun s' q => G.2 s' (H.2 s' q)⟩
/-- from a stand of lower rank -/
theorem LU.low {b : Nat} {τ : TT} {h h' : Hp} {s s1 : Nat} (H : LU b τ h h' s1) (hr : rk τ s1 < rk τ s) : LU b τ h h' s := ⟨fun s' _ k2 => H.1 s' (fun e => by rw [e] at k2; omega) (by omega), H.2⟩
theorem LU.two (b : Nat) (τ : TT) (h : Hp) (f g : Nat → Int32) (s : Nat) : LU b τ h ((h.rowI (b + 78) f).rowI (b + 77) g) s := by
  refine ⟨fun s' _ _ => ?_, fun s' q => ?_⟩
  · rw [rowI_Ib, if_neg (by omega), rowI_Ib, if_neg (by omega), rowI_Ib, if_neg (by omega), rowI_Ib, if_neg (by omega), rowI_Ib, if_neg (by omega), rowI_Ib, if_neg (by omega)]
    exact ⟨rfl, rfl, rfl⟩
  · rw [rowI_Ib, if_neg (by omega), rowI_Ib, if_neg (by omega)]
    exact q
theorem KN.two {b : Nat} {h : Hp} {τ : TT} {tal : Nat} {md : Bool} {R : Nat} (H : KN b h τ tal md R) (f g : Nat → Int32) : KN b ((h.rowI (b + 78) f).rowI (b + 77) g) τ tal md R := by
  unfold KN KV
  rw [rowI_Ib, if_neg (by omega), rowI_Ib, if_neg (by omega), rowI_Ib, if_neg (by omega), rowI_Ib, if_neg (by omega), rowI_Ib, if_neg (by omega), rowI_Ib, if_neg (by omega)]
  exact H
/-- what is known is kept by a reckoning of lower rank -/
theorem KN.low {b : Nat} {τ : TT} {h h' : Hp} {tal : Nat} {md : Bool} {s1 R : Nat} (H : KN b h τ tal md R) (U : LU b τ h h' s1) (H' : KN b h' τ tal md (rk τ s1 + 1)) : KN b h' τ tal md R := by
  refine ⟨H'.1, fun s hs hr hk => ?_⟩
  rcases Nat.lt_or_ge (rk τ s1) (rk τ s) with q | q
  · obtain ⟨u1, u2, u3⟩ := U.1 s (fun e => by rw [e] at q; omega) (by omega)
    obtain ⟨a1, a2, a3⟩ := H.2 s hs hr (by rw [← u3]; exact hk)
    exact ⟨⟨by rw [u1]; exact a1.1, by rw [u2]; exact a1.2⟩, fun t ht => U.2 _ (a2 t ht), fun q => U.2 _ (a3 q)⟩
  · exact H'.2 s hs (by omega) hk
section
variable {n : Nat} {z : Sh} {b : Nat} {τ : TT} {P : Nat} {A : Nat → Int32} {tal : Nat} {md : Bool}
theorem can_ok {h : Hp} (H : BR b z h τ P A tal md) {s : Nat} (hs : s < 3430) : f_X12_canDraw z h (b + 72) (nI s) = some (if md = true ∧ sL s = 1 then 1 else 0) := by
  obtain ⟨⟨HM, -⟩, -, h26, -⟩ := H
  have := sL_le hs
  unfold f_X12_canDraw
  rw [if_pos (km_0 HM), gI_ok (km_0 HM), bS, h26, l_ok hs, bS]
  cases md with
  | false => rw [if_neg (show ¬ (false = true) by decide), if_pos (show nI 0 = 0 from rfl), if_neg (fun q => absurd q.1 (by decide))]
  | true =>
    rw [if_pos rfl, if_neg (show ¬ nI 1 = 0 by decide)]
    by_cases e : sL s = 1
    · rw [if_pos (show nI (sL s) = 1 by rw [e]; rfl), if_pos ⟨rfl, e⟩]
    · rw [if_neg (show ¬ nI (sL s) = 1 from fun q => e ((nI_inj (j := 1) (by omega) (by omega)).mp q)), if_neg (fun q => e q.2)]
def LOK (z : Sh) (b : Nat) (τ : TT) (P : Nat) (A : Nat → Int32) (tal : Nat) (md : Bool) (G : Sh → Hp → Nat → Int32 → Option Hp) (s : Nat) : Prop := ∀ h, BR b z h τ P A tal md → KN b h τ tal md (rk τ s + 1) → ∃ h', G z h (b + 72) (nI s) = some h' ∧ Lz b h h' ∧ KN b h' τ tal md (rk τ s + 1) ∧ LU b τ h h' s ∧ h'.I (b + 83) s = nI 1
/-- in the midst of a stand -/
def Mid (z : Sh) (b : Nat) (τ : TT) (P : Nat) (A : Nat → Int32) (tal : Nat) (md : Bool) (h0 h : Hp) (s t : Nat) : Prop := BR b z h τ P A tal md ∧ Lz b h0 h ∧ KN b h τ tal md (rk τ s) ∧ LU b τ h0 h s ∧ h.I (b + 83) s = nI 1 ∧ ∀ t', t' < t → h.I (b + 83) (lvN s t') = nI 1
theorem rb_203 {G : Sh → Hp → Nat → Int32 → Option Hp} {h0 h : Hp} {s : Nat} (hτ : TownOK τ) (hs : SV τ s) (M : Mid z b τ P A tal md h0 h s (opn τ s)) (K0 : KN b h0 τ tal md (rk τ s + 1)) (hd : md = true ∧ sL s = 1 → h.I (b + 83) (drN τ tal s) = nI 1) : ∃ h', f_X12_laysBest_203 n G z h (b + 72) (nI s) (iI (bM τ tal md s)) (iI (bF τ tal md s)) = some h' ∧ Lz b h0 h' ∧ KN b h' τ tal md (rk τ s + 1) ∧ LU b τ h0 h' s ∧ h'.I (b + 83) s = nI 1 := by
  obtain ⟨B, L, K, U, k1, k2⟩ := M
  have HM := B.1.1
  have hs0 := hs.1
  refine ⟨(h.setI (b + 80) s (iI (bM τ tal md s))).setI (b + 81) s (iI (bF τ tal md s)), ?_, L.trans ⟨rfl, fun _ => rfl, fun a _ _ q1 q2 _ => by rw [setI_I, if_neg q2, setI_I, if_neg q1]⟩, ?_, ?_, ?_⟩
  · unfold f_X12_laysBest_203
    rw [gR_ok (km_0 HM) (rm_21 HM), bS, sm_8 HM hs0, bS, gR_ok (km_0 HM) (rm_22 (h := h.setI (b + 80) s (iI (bM τ tal md s))) HM), bS, stI_ok (km_9 HM) (nm_9 HM) rfl hs0 (by decide), bS]
  · have i83 : ((h.setI (b + 80) s (iI (bM τ tal md s))).setI (b + 81) s (iI (bF τ tal md s))).I (b + 83) = h.I (b + 83) := by rw [setI_I, if_neg (by omega), setI_I, if_neg (by omega)]
    have i80 : ((h.setI (b + 80) s (iI (bM τ tal md s))).setI (b + 81) s (iI (bF τ tal md s))).I (b + 80) = upd (h.I (b + 80)) s (iI (bM τ tal md s)) := by rw [setI_I, if_neg (by omega), setI_I, if_pos rfl]
    have i81 : ((h.setI (b + 80) s (iI (bM τ tal md s))).setI (b + 81) s (iI (bF τ tal md s))).I (b + 81) = upd (h.I (b + 81)) s (iI (bF τ tal md s)) := by rw [setI_I, if_pos rfl, setI_I, if_neg (by omega)]
    unfold KN KV
    rw [i83, i80, i81]
    refine ⟨K.1, fun s' hs' hr hk => ?_⟩
    by_cases e : s' = s
    · subst e
      exact ⟨⟨if_pos rfl, if_pos rfl⟩, k2, hd⟩
    · have e1 : upd (h.I (b + 80)) s (iI (bM τ tal md s)) s' = h.I (b + 80) s' := if_neg e
      have e2 : upd (h.I (b + 81)) s (iI (bF τ tal md s)) s' = h.I (b + 81) s' := if_neg e
      rw [e1, e2]
      rcases Nat.lt_or_ge (rk τ s') (rk τ s) with q | q
      · exact K.2 s' hs' q hk
      · obtain ⟨u1, u2, u3⟩ := U.1 s' e q
        obtain ⟨a1, a2, a3⟩ := K0.2 s' hs' hr (by rw [← u3]; exact hk)
        exact ⟨⟨by rw [u1]; exact a1.1, by rw [u2]; exact a1.2⟩, fun t ht => U.2 _ (a2 t ht), fun q => U.2 _ (a3 q)⟩
  · refine U.trans ⟨fun s' e _ => ?_, fun s' q => ?_⟩
    · rw [setI_I, if_neg (by omega), setI_I, if_pos rfl, setI_I, if_pos rfl, setI_I, if_neg (by omega), setI_I, if_neg (by omega), setI_I, if_neg (by omega)]
      exact ⟨if_neg e, if_neg e, rfl⟩
    · rw [setI_I, if_neg (by omega), setI_I, if_neg (by omega)]
      exact q
  · rw [setI_I, if_neg (by omega), setI_I, if_neg (by omega)]
    exact k1
theorem rb_125 (hn : 400000 ≤ n) {G : Sh → Hp → Nat → Int32 → Option Hp} {h0 h : Hp} {s : Nat} (hτ : TownOK τ) (hs : SV τ s) (hG2 : md = true ∧ sL s = 1 → LOK z b τ P A tal md G (drN τ tal s)) (M : Mid z b τ P A tal md h0 h s (opn τ s)) (K0 : KN b h0 τ tal md (rk τ s + 1)) : ∃ h', f_X12_laysBest_125 n G z h (b + 72) (nI s) (iI (lM (scT (SG τ tal md s) (opn τ s)).1)) (iI (lF (scT (SG τ tal md s) (opn τ s)).1)) = some h' ∧ Lz b h0 h' ∧ KN b h' τ tal md (rk τ s + 1) ∧ LU b τ h0 h' s ∧ h'.I (b + 83) s = nI 1 := by
  have hs0 := hs.1
  have eq := SC_eq (tal := tal) (md := md) hτ hs
  unfold f_X12_laysBest_125
  rw [can_ok M.1 hs0, bS]
  by_cases hc : md = true ∧ sL s = 1
  · rw [if_pos hc, if_neg (show ¬ (1 : Int32) = 0 by decide)]
    obtain ⟨B, L, K, U, k1, k2⟩ := id M
    have HM := B.1.1
    have hr := rk_dr (tal := tal) hτ hs hc.2
    have hdv := (dr_SV (tal := tal) hτ hs).1
    obtain ⟨r1, r2, e1⟩ := mdrawn_ok (n := n) (z := z) (h := h) HM hn hτ (by rw [B.1.2.2.1]; exact B.1.2.2.2.1) B.2.2.2 hs0
    have B1 := B.lz (Lz.two b h r1 r2)
    obtain ⟨h1, e2, L1, K1, U1, kd⟩ := hG2 hc _ B1 ((K.two r1 r2).le (by omega))
    have B2 := B1.lz L1
    have HM2 := B2.1.1
    have K2 := (K.two r1 r2).low U1 K1
    have M2 : Mid z b τ P A tal md h0 h1 s (opn τ s) := ⟨B2, (L.trans (Lz.two b h r1 r2)).trans L1, K2, (U.trans (LU.two b τ h r1 r2 s)).trans (U1.low hr), (U1.low hr).2 _ ((LU.two b τ h r1 r2 s).2 _ k1), fun t ht => (U1.low hr).2 _ ((LU.two b τ h r1 r2 s).2 _ (k2 t ht))⟩
    obtain ⟨v1, -⟩ := K2.2 _ hdv hr kd
    have bdr := b_bd (tal := tal) (md := md) hτ hdv
    have hrs := rk_le hτ s
    have fl := lF_bd (scT (SG τ tal md s) (opn τ s)).1
    have tb := scT_bd (g := SG τ tal md s) (B := 144 * (rk τ s : Int)) (by omega) (opn τ s) (fun t ht => by
      obtain ⟨q1, q2⟩ := opn_lt ht
      have := rk_lv hτ hs q2 q1
      have h2 := SC_bd (tal := tal) (md := md) hτ 14 _ (lv_SV hτ hs q2 q1).1
      have h3 := wV_bd τ tal s t
      unfold SG
      omega)
    have lb : 0 ≤ lM (scT (SG τ tal md s) (opn τ s)).1 ∧ lM (scT (SG τ tal md s) (opn τ s)).1 ≤ 200 := by unfold lM; omega
    have d1 := hdv.1
    rw [gI_ok (km_0 HM), bS, B.2.1, e1, bS]
    dsimp only
    rw [ckK_ok (km_0 HM), bS, e2, bS, gR_ok (km_0 HM2) (rm_21 HM2), bS, lm_8 HM2 d1, bS, v1.1]
    have hf1 : lF (scT (SG τ tal md s) (opn τ s)).1 ≤ 13 := by
      rcases scT_or (SG τ tal md s) (opn τ s) with ⟨e, -⟩ | ⟨t, ht, e, -⟩
      · rw [e]
        show lF 0 ≤ 13
        decide
      · rw [e]
        show lF (SG τ tal md s t) ≤ 13
        obtain ⟨q1, q2⟩ := opn_lt ht
        have := rk_lv hτ hs q2 q1
        have := b_bd (tal := tal) (md := md) hτ (lv_SV hτ hs q2 q1).1
        rw [(SG_lm hτ hs ht).2]
        omega
    have yes : (scT (SG τ tal md s) (opn τ s)).1 < (SC τ tal md 14 (drN τ tal s)).1 - 1 → ∃ h', f_X12_laysBest_185 n G z h1 (b + 72) (nI s) (nI (drN τ tal s)) = some h' ∧ Lz b h0 h' ∧ KN b h' τ tal md (rk τ s + 1) ∧ LU b τ h0 h' s ∧ h'.I (b + 83) s = nI 1 := fun q => by
      rw [if_pos ⟨hc, q⟩] at eq
      have lm := lM_of (q := (SC τ tal md 14 s).1) (m := bM τ tal md (drN τ tal s)) (f := bF τ tal md (drN τ tal s) + 1) (by rw [eq]; dsimp only; omega) (by omega) (by omega)
      obtain ⟨h', f1, f2⟩ := rb_203 (n := n) (G := G) hτ hs M2 K0 (fun _ => kd)
      refine ⟨h', ?_, f2⟩
      unfold f_X12_laysBest_185
      rw [gR_ok (km_0 HM2) (rm_21 HM2), bS, lm_8 HM2 d1, bS, gR_ok (km_0 HM2) (rm_22 HM2), bS, lm_9 HM2 d1, bS, bS, v1.1, v1.2, show (1 : Int32) = iI 1 by decide, iI_add]
      rw [show bM τ tal md s = bM τ tal md (drN τ tal s) from lm.1, show bF τ tal md s = bF τ tal md (drN τ tal s) + 1 from lm.2] at f1
      exact f1
    have no : ¬ (scT (SG τ tal md s) (opn τ s)).1 < (SC τ tal md 14 (drN τ tal s)).1 - 1 → ∃ h', f_X12_laysBest_203 n G z h1 (b + 72) (nI s) (iI (lM (scT (SG τ tal md s) (opn τ s)).1)) (iI (lF (scT (SG τ tal md s) (opn τ s)).1)) = some h' ∧ Lz b h0 h' ∧ KN b h' τ tal md (rk τ s + 1) ∧ LU b τ h0 h' s ∧ h'.I (b + 83) s = nI 1 := fun q => by
      rw [if_neg (fun q2 => q q2.2)] at eq
      rw [← eq]
      exact rb_203 (n := n) (G := G) hτ hs M2 K0 (fun _ => kd)
    by_cases c1 : lM (scT (SG τ tal md s) (opn τ s)).1 < bM τ tal md (drN τ tal s)
    · rw [if_pos ((iI_lt (by omega) (by omega) (by omega) (by omega)).mpr c1)]
      exact yes (by omega)
    · rw [if_neg (fun q => c1 ((iI_lt (by omega) (by omega) (by omega) (by omega)).mp q)), bS, lm_8 HM2 d1, bS, v1.1]
      by_cases c2 : bM τ tal md (drN τ tal s) = lM (scT (SG τ tal md s) (opn τ s)).1
      · rw [if_pos (by rw [c2]), gR_ok (km_0 HM2) (rm_22 HM2), bS, lm_9 HM2 d1, bS, v1.2, show (1 : Int32) = iI 1 by decide, iI_add]
        by_cases c3 : lF (scT (SG τ tal md s) (opn τ s)).1 ≤ bF τ tal md (drN τ tal s) + 1
        · rw [if_pos ((iI_le (by omega) (by omega) (by omega) (by omega)).mpr c3)]
          exact no (by omega)
        · rw [if_neg (fun q => c3 ((iI_le (by omega) (by omega) (by omega) (by omega)).mp q))]
          exact yes (by omega)
      · rw [if_neg (fun q => c2 ((iI_eq (by omega) (by omega) (by omega) (by omega)).mp q))]
        exact no (by omega)
  · rw [if_neg hc, if_pos rfl]
    rw [if_neg (fun q => hc q.1)] at eq
    rw [← eq]
    exact rb_203 (n := n) (G := G) hτ hs M K0 (fun q => absurd q hc)
theorem rb_24 (hn : 400000 ≤ n) {G : Sh → Hp → Nat → Int32 → Option Hp} {h0 : Hp} {s : Nat} (hτ : TownOK τ) (hs : SV τ s) (hG : ∀ t, t < opn τ s → LOK z b τ P A tal md G (lvN s t)) (hG2 : md = true ∧ sL s = 1 → LOK z b τ P A tal md G (drN τ tal s)) (K0 : KN b h0 τ tal md (rk τ s + 1)) :
    ∀ (d t i : Nat) (h : Hp), t + d = opn τ s → d < i → Mid z b τ P A tal md h0 h s t → ∃ h', f_X12_laysBest_24 n G z i h (b + 72) (nI s) (iI (lM (scT (SG τ tal md s) t).1)) (iI (lF (scT (SG τ tal md s) t).1)) (nI t) = some h' ∧ Lz b h0 h' ∧ KN b h' τ tal md (rk τ s + 1) ∧ LU b τ h0 h' s ∧ h'.I (b + 83) s = nI 1 := by
  have hD := hτ.2.1
  have ho : opn τ s ≤ 4 := by unfold opn; split <;> omega
  have hs0 := hs.1
  have hrs := rk_le hτ s
  intro d
  induction d with
  | zero =>
    intro t i h hj hi M
    obtain ⟨i, rfl⟩ : ∃ k, i = k + 1 := ⟨i - 1, by omega⟩
    obtain rfl : t = opn τ s := by omega
    have HM := M.1.1.1
    have hA := M.1.1.2.2.2.1
    rw [f_X12_laysBest_24.eq_2, gR_ok (km_0 HM) (rm_1 HM), bS, show (2 : Int32) = nI 2 from rfl, lm_1 HM (by omega), bS, M.1.1.2.2.1, hA.2.1]
    by_cases hy : sY s < tY τ
    · have e : opn τ s = tD τ := by unfold opn; rw [if_pos hy]
      rw [if_pos ((nI_leI (by omega) (by omega)).mpr (by omega))]
      exact rb_125 hn hτ hs hG2 M K0
    · have e : opn τ s = 0 := by unfold opn; rw [if_neg hy]
      rw [if_neg (fun q => by have := (nI_leI (by omega) (by omega)).mp q; omega), over_ok M.1.1 hs0, bS, if_neg hy, if_neg (show ¬ (1 : Int32) = 0 by decide)]
      exact rb_125 hn hτ hs hG2 M K0
  | succ d ih =>
    intro t i h hj hi M
    obtain ⟨i, rfl⟩ : ∃ k, i = k + 1 := ⟨i - 1, by omega⟩
    obtain ⟨B, L, K, U, k1, k2⟩ := M
    have HM := B.1.1
    have hA := B.1.2.2.2.1
    have hto : t < opn τ s := by omega
    obtain ⟨q1, q2⟩ := opn_lt hto
    have hlv := (lv_SV hτ hs q2 q1).1
    have hr1 := rk_lv hτ hs q2 q1
    have l0 := hlv.1
    obtain ⟨h1, e1, L1, K1, U1, kd⟩ := hG t hto h B (K.le (by omega))
    have hr : rk τ (lvN s t) < rk τ s := by omega
    have B1 := B.lz L1
    have K2 := K.low U1 K1
    obtain ⟨r1, r2, e2⟩ := mworth_ok (n := n) (z := z) (h := h1) B1.1.1 hn hτ (by rw [B1.1.2.2.1]; exact B1.1.2.2.2.1) B.2.2.2 hs0 (show t ≤ 9 by omega)
    have B2 := B1.lz (Lz.two b h1 r1 r2)
    have HM2 := B2.1.1
    have K3 := K2.two r1 r2
    have U2 := LU.two b τ h1 r1 r2 s
    have M2 : Mid z b τ P A tal md h0 ((h1.rowI (b + 78) r1).rowI (b + 77) r2) s (t + 1) := ⟨B2, (L.trans L1).trans (Lz.two b h1 r1 r2), K3, (U.trans (U1.low hr)).trans U2, U2.2 _ ((U1.low hr).2 _ k1), fun t' ht' => by
      by_cases e : t' = t
      · rw [e]; exact U2.2 _ kd
      · exact U2.2 _ ((U1.low hr).2 _ (k2 t' (by omega)))⟩
    obtain ⟨v1, -⟩ := K3.2 _ hlv hr (U2.2 _ kd)
    have IH := ih (t + 1) i _ (by omega) (by omega) M2
    have blv := b_bd (tal := tal) (md := md) hτ hlv
    have fl := lF_bd (scT (SG τ tal md s) t).1
    have tb := scT_bd (g := SG τ tal md s) (B := 144 * (rk τ s : Int)) (by omega) t (fun t ht => by
      obtain ⟨q1, q2⟩ := opn_lt (show t < opn τ s by omega)
      have := rk_lv hτ hs q2 q1
      have h2 := SC_bd (tal := tal) (md := md) hτ 14 _ (lv_SV hτ hs q2 q1).1
      have h3 := wV_bd τ tal s t
      unfold SG
      omega)
    have wb := wV_bd τ tal s t
    have lb : 0 ≤ lM (scT (SG τ tal md s) t).1 ∧ lM (scT (SG τ tal md s) t).1 ≤ 200 := by unfold lM; omega
    have hf1 : lF (scT (SG τ tal md s) t).1 ≤ 13 := by
      rcases scT_or (SG τ tal md s) t with ⟨e, -⟩ | ⟨t', ht', e, -⟩
      · rw [e]
        show lF 0 ≤ 13
        decide
      · rw [e]
        show lF (SG τ tal md s t') ≤ 13
        obtain ⟨q1, q2⟩ := opn_lt (show t' < opn τ s by omega)
        have := rk_lv hτ hs q2 q1
        have := b_bd (tal := tal) (md := md) hτ (lv_SV hτ hs q2 q1).1
        rw [(SG_lm hτ hs (show t' < opn τ s by omega)).2]
        omega
    have sg := SG_lm (tal := tal) (md := md) hτ hs hto
    have sgb := lF_bd (SG τ tal md s t)
    rw [f_X12_laysBest_24.eq_2, gR_ok (km_0 HM) (rm_1 HM), bS, show (2 : Int32) = nI 2 from rfl, lm_1 HM (by omega), bS, B.1.2.2.1, hA.2.1, if_neg (fun q => by have := (nI_leI (by omega) (by omega)).mp q; omega), over_ok B.1 hs0, bS, if_pos q1, if_pos rfl, lv_ok hs0 (by omega), bS, ckK_ok (km_0 HM), bS, e1, bS, gI_ok (km_0 B1.1.1), bS, B1.2.1, e2, bS]
    dsimp only
    rw [gR_ok (km_0 HM2) (rm_21 HM2), bS, lm_8 HM2 l0, bS, bS, v1.1, iI_add]
    have yes : (scT (SG τ tal md s) t).1 < SG τ tal md s t → ∃ h', f_X12_laysBest_106 n G z (f_X12_laysBest_24 n G z i) ((h1.rowI (b + 78) r1).rowI (b + 77) r2) (b + 72) (nI s) (nI t) (nI (lvN s t)) (iI (wV τ tal s t + bM τ tal md (lvN s t))) = some h' ∧ Lz b h0 h' ∧ KN b h' τ tal md (rk τ s + 1) ∧ LU b τ h0 h' s ∧ h'.I (b + 83) s = nI 1 := fun q => by
      unfold f_X12_laysBest_106 f_X12_laysBest_119
      rw [gR_ok (km_0 HM2) (rm_22 HM2), bS, lm_9 HM2 l0, bS, bS, bS, v1.2, show iI (bF τ tal md (lvN s t)) + 1 = iI (bF τ tal md (lvN s t) + 1) from iI_add _ 1, show nI t + 1 = nI (t + 1) from nI_add t 1]
      unfold scT at IH
      rw [if_pos q] at IH
      dsimp only at IH
      rw [sg.1, sg.2, Int.add_comm (bM τ tal md (lvN s t))] at IH
      exact IH
    have no : ¬ (scT (SG τ tal md s) t).1 < SG τ tal md s t → ∃ h', f_X12_laysBest_119 n G z (f_X12_laysBest_24 n G z i) ((h1.rowI (b + 78) r1).rowI (b + 77) r2) (b + 72) (nI s) (iI (lM (scT (SG τ tal md s) t).1)) (iI (lF (scT (SG τ tal md s) t).1)) (nI t) = some h' ∧ Lz b h0 h' ∧ KN b h' τ tal md (rk τ s + 1) ∧ LU b τ h0 h' s ∧ h'.I (b + 83) s = nI 1 := fun q => by
      unfold f_X12_laysBest_119
      rw [bS, show nI t + 1 = nI (t + 1) from nI_add t 1]
      unfold scT at IH
      rw [if_neg q] at IH
      exact IH
    by_cases c1 : wV τ tal s t + bM τ tal md (lvN s t) < lM (scT (SG τ tal md s) t).1
    · rw [if_pos ((iI_lt (by omega) (by omega) (by omega) (by omega)).mpr c1)]
      exact no (by omega)
    · rw [if_neg (fun q => c1 ((iI_lt (by omega) (by omega) (by omega) (by omega)).mp q))]
      by_cases c2 : wV τ tal s t + bM τ tal md (lvN s t) = lM (scT (SG τ tal md s) t).1
      · rw [if_pos (by rw [c2]), gR_ok (km_0 HM2) (rm_22 HM2), bS, lm_9 HM2 l0, bS, v1.2, show iI (bF τ tal md (lvN s t)) + 1 = iI (bF τ tal md (lvN s t) + 1) from iI_add _ 1]
        by_cases c3 : bF τ tal md (lvN s t) + 1 < lF (scT (SG τ tal md s) t).1
        · rw [if_pos ((iI_lt (by omega) (by omega) (by omega) (by omega)).mpr c3)]
          exact yes (by omega)
        · rw [if_neg (fun q => c3 ((iI_lt (by omega) (by omega) (by omega) (by omega)).mp q))]
          exact no (by omega)
      · rw [if_neg (fun q => c2 ((iI_eq (by omega) (by omega) (by omega) (by omega)).mp q))]
        exact yes (by omega)
theorem rb_F (hn : 400000 ≤ n) {G : Sh → Hp → Nat → Int32 → Option Hp} {s : Nat} (hτ : TownOK τ) (hs : SV τ s) (hG : ∀ t, t < opn τ s → LOK z b τ P A tal md G (lvN s t)) (hG2 : md = true ∧ sL s = 1 → LOK z b τ P A tal md G (drN τ tal s)) : LOK z b τ P A tal md (F_X12_laysBest n G) s := by
  intro h B K
  have HM := B.1.1
  have hs0 := hs.1
  have ho : opn τ s ≤ 4 := by have := hτ.2.1; unfold opn; split <;> omega
  unfold F_X12_laysBest
  rw [if_pos (km_0 HM), gR_ok (km_0 HM) (rm_24 HM), bS, lm_11 HM hs0, bS]
  rcases K.1 s hs0 with e | e
  · rw [e, if_pos (show nI 0 = 0 from rfl), bS, sm_11 HM hs0, bS, show vp_nar .boolean (1 : Int32) = nI 1 by decide]
    have L : Lz b h (h.setI (b + 83) s (nI 1)) := ⟨rfl, fun _ => rfl, fun a _ _ _ _ k => by rw [setI_I, if_neg k]⟩
    have i83 : (h.setI (b + 83) s (nI 1)).I (b + 83) = upd (h.I (b + 83)) s (nI 1) := by rw [setI_I, if_pos rfl]
    have i80 : (h.setI (b + 83) s (nI 1)).I (b + 80) = h.I (b + 80) := by rw [setI_I, if_neg (by omega)]
    have i81 : (h.setI (b + 83) s (nI 1)).I (b + 81) = h.I (b + 81) := by rw [setI_I, if_neg (by omega)]
    have mono : ∀ s', h.I (b + 83) s' = nI 1 → upd (h.I (b + 83)) s (nI 1) s' = nI 1 := fun s' q => by
      by_cases e' : s' = s
      · exact if_pos e'
      · exact (if_neg e').trans q
    have M : Mid z b τ P A tal md h (h.setI (b + 83) s (nI 1)) s 0 := by
      refine ⟨B.lz L, L, ?_, ⟨fun s' e1 _ => ?_, fun s' q => ?_⟩, ?_, fun t' ht' => absurd ht' (Nat.not_lt_zero t')⟩
      · unfold KN KV
        rw [i80, i81, i83]
        refine ⟨fun s' hs' => ?_, fun s' hs' hr hk => ?_⟩
        · by_cases e' : s' = s
          · exact Or.inr (if_pos e')
          · have := K.1 s' hs'
            rw [← (show upd (h.I (b + 83)) s (nI 1) s' = h.I (b + 83) s' from if_neg e')] at this
            exact this
        · have e' : s' ≠ s := fun q => by rw [q] at hr; omega
          obtain ⟨a1, a2, a3⟩ := K.2 s' hs' (by omega) ((if_neg e').symm.trans hk)
          exact ⟨a1, fun t ht => mono _ (a2 t ht), fun q => mono _ (a3 q)⟩
      · rw [i80, i81, i83]
        exact ⟨rfl, rfl, if_neg e1⟩
      · rw [i83]; exact mono _ q
      · rw [i83]; exact if_pos rfl
    exact rb_24 (n := n) (G := G) hn hτ hs hG hG2 K (opn τ s) 0 n _ (by omega) (by omega) M
  · rw [e, if_neg (show ¬ nI 1 = 0 by decide)]
    exact ⟨h, rfl, Lz.refl b h, K, LU.refl b τ h s, e⟩
theorem rb_ok (hn : 400000 ≤ n) (hτ : TownOK τ) : ∀ (k s : Nat), SV τ s → rk τ s < k → LOK z b τ P A tal md (rc_X12_laysBest n k) s := by
  intro k
  induction k with
  | zero => intro s _ h; omega
  | succ k ih =>
    intro s hs hr
    show LOK z b τ P A tal md (F_X12_laysBest n (rc_X12_laysBest n k)) s
    refine rb_F hn hτ hs (fun t ht => ?_) (fun q => ?_)
    · obtain ⟨q1, q2⟩ := opn_lt ht
      have := rk_lv hτ hs q2 q1
      exact ih _ (lv_SV hτ hs q2 q1).1 (by omega)
    · have := rk_dr (tal := tal) hτ hs q.2
      exact ih _ (dr_SV hτ hs).1 (by omega)
end
