/-! ===== rows of told deeds; seasons ===== -/
theorem aTold_lt {τ : TT} {P : Nat} {A : Nat → Int32} {v : Int} : (aTold τ P A v).1 < 10 := by
  unfold aTold aLive aDraw aRedeem aPledge
  repeat' split
  all_goals (dsimp only; omega)
def aRun (τ : TT) (P : Nat) (vs : Nat → Int64) : Nat → Nat → (Nat → Int32) → Nat × Nat × (Nat → Int32)
  | 0, j, A => (j, 0, A)
  | d + 1, j, A => if (aTold τ P A (vs j).toInt).1 = 0 then aRun τ P vs d (j + 1) (aTold τ P A (vs j).toInt).2 else (j, (aTold τ P A (vs j).toInt).1, A)
def Ce (b q r : Nat) (h h' : Hp) : Prop := h'.2.2 = h.2.2 ∧ (∀ a, h'.J a = h.J a) ∧ ∀ a, a ≠ b + 41 → a ≠ b + 42 → a ≠ b + 43 → a ≠ q → a ≠ r → h'.I a = h.I a
theorem Ce.refl (b q r : Nat) (h : Hp) : Ce b q r h h := ⟨rfl, fun _ => rfl, fun _ _ _ _ _ _ => rfl⟩
theorem Ce.trans {b q r : Nat} {h h' h'' : Hp} (H : Ce b q r h h') (G : Ce b q r h' h'') : Ce b q r h h'' := ⟨G.1.trans H.1, fun a => (G.2.1 a).trans (H.2.1 a), fun a h1 h2 h3 h4 h5 => (G.2.2 a h1 h2 h3 h4 h5).trans (H.2.2 a h1 h2 h3 h4 h5)⟩
theorem Cd.e {b q r : Nat} {h h' : Hp} (H : Cd b q r h h') : Ce b q r h h' := ⟨H.1, H.2.1, fun a h1 h2 _ h4 h5 => H.2.2 a h1 h2 h4 h5⟩
theorem Ce.set {b q r : Nat} (h : Hp) (k : Nat) (v : Int32) : Ce b q r h (h.setI (b + 43) k v) := ⟨rfl, fun _ => rfl, fun a h1 h2 h3 h4 h5 => rowI_ne h _ h3⟩
theorem Ce.R {b q r : Nat} {h h' : Hp} (H : Ce b q r h h') (a : Nat) : h'.R a = h.R a := by
  show h'.2.2 a = h.2.2 a
  rw [H.1]
theorem Ce.fr {b q r : Nat} {h h' : Hp} (Q : Qd b q r) (H : Ce b q r h h') : Fr b h h' := by
  intro a ha
  unfold kW at ha
  unfold Qd at Q
  exact ⟨H.2.2 a (by omega) (by omega) (by omega) (by omega) (by omega), H.2.1 a, H.R a⟩
/-- a tray of the class -/
def TC (z : Sh) (h : Hp) (o ro sz : Nat) (vs : Nat → Int64) : Prop := z.K o = 9 ∧ h.R o 0 = some ro ∧ z.K ro = 15 ∧ z.N ro = 40 ∧ h.I o 3 = nI sz ∧ sz ≤ 40 ∧ ∀ j, j < sz → h.J ro j = vs j
theorem TC.fr {z : Sh} {h h' : Hp} {o ro sz : Nat} {vs : Nat → Int64} (H : TC z h o ro sz vs) (h1 : h'.R o = h.R o) (h2 : h'.I o = h.I o) (h3 : h'.J ro = h.J ro) : TC z h' o ro sz vs := by
  obtain ⟨k1, k2, k3, k4, k5, k6, k7⟩ := H
  exact ⟨k1, by rw [h1]; exact k2, k3, k4, by rw [h2]; exact k5, k6, by rw [h3]; exact k7⟩
theorem num_ok {z : Sh} {h : Hp} {o ro sz : Nat} {vs : Nat → Int64} (H : TC z h o ro sz vs) {j : Nat} (hj : j < sz) : f_X9_number z h o (nI j) = some (vs j) := by
  obtain ⟨k1, k2, k3, k4, k5, k6, k7⟩ := H
  have c1 : ¬ (sz ≤ j) := by omega
  have c2 : ¬ (40 ≤ j) := by omega
  have c3 : aL z ro = some (nI 40) := aL_ok k3 rfl k4
  have c4 : ldJ z h ro (nI j) = some (h.J ro j) := ldJ_ok (Or.inl k3) k4 rfl (by omega) (by omega)
  simp (disch := omega) only [f_X9_number, k1, k2, k5, c1, c2, c3, c4, k7 j hj, nI_neg0, nI_leI, nI_lit, gI, gR, bS, if_true, if_false]
def Tq (b o : Nat) : Prop := o = b + 64 ∨ o = b + 66 ∨ o = b + 68 ∨ o = b + 70
theorem doAll_8 {n : Nat} {z : Sh} {b q r t : Nat} (hn : 400000 ≤ n) (Q : Qd b q r) {τ : TT} (hτ : TownOK τ) {P : Nat} (h6 : P ≤ 6) {o ro sz : Nat} {vs : Nat → Int64} (ho : Tq b o) :
    ∀ (d j i : Nat) (h : Hp) (A : Nat → Int32), j + d = sz → d < i → LayX z h.2.2 b → PL z h.2.2 q r → TownX b z h t τ → PplI τ P (h.I q) (h.I r) A → TC z h o ro sz vs → h.I (b + 43) 1 = nI 0 → ∃ h', f_X2_doAll_8 n z i h (b + 43) t q o (nI j) = some (nI (aRun τ P vs d j A).1, h') ∧ Ce b q r h h' ∧ PeopleX (h'.I q) (h'.I r) (aRun τ P vs d j A).2.2 P ∧ h'.I (b + 43) 1 = nI (aRun τ P vs d j A).2.1 := by
  intro d
  induction d with
  | zero =>
    intro j i h A hj hi HX HP hT HA HC h0
    obtain ⟨i, rfl⟩ : ∃ k, i = k + 1 := ⟨i - 1, by omega⟩
    obtain rfl : j = sz := by omega
    have k6 := HC.2.2.2.2.2.1
    rw [f_X2_doAll_8.eq_2]
    refine ⟨h, ?_, Ce.refl .., HA.1, h0⟩
    simp (disch := omega) only [gI, HC.1, HC.2.2.2.2.1, if_true, bS, nI_leI, Nat.le_refl, aRun]
  | succ d ih =>
    intro j i h A hj hi HX HP hT HA HC h0
    obtain ⟨i, rfl⟩ : ∃ k, i = k + 1 := ⟨i - 1, by omega⟩
    have k6 := HC.2.2.2.2.2.1
    have hc : ¬ (sz ≤ j) := by omega
    obtain ⟨h1, e1, c1, p1⟩ := ctold_ok (n := n) HX hn Q HP hτ hT h6 HA (vs j)
    have c2 : Ce b q r h (h1.setI (b + 43) 1 (nI (aTold τ P A (vs j).toInt).1)) := c1.e.trans (Ce.set h1 1 _)
    have kq : q ≠ b + 43 := by unfold Qd at Q; omega
    have kr : r ≠ b + 43 := by unfold Qd at Q; omega
    have o1 : o ≠ b + 41 ∧ o ≠ b + 42 ∧ o ≠ b + 43 ∧ o ≠ q ∧ o ≠ r := by unfold Tq at ho; unfold Qd at Q; omega
    have I1 : (h1.setI (b + 43) 1 (nI (aTold τ P A (vs j).toInt).1)).I q = h1.I q := rowI_ne h1 _ kq
    have I2 : (h1.setI (b + 43) 1 (nI (aTold τ P A (vs j).toInt).1)).I r = h1.I r := rowI_ne h1 _ kr
    have I3 : (h1.setI (b + 43) 1 (nI (aTold τ P A (vs j).toInt).1)).I (b + 43) 1 = nI (aTold τ P A (vs j).toInt).1 := by rw [setI_I, if_pos rfl, upd, if_pos rfl]
    have hpI : ∀ v, pI z h1 2 (b + 43) 1 v = some (h1.setI (b + 43) 1 v) := fun v => pI_ok (kx_43 HX)
    have hgI : ∀ g : Hp, gI z g 2 (b + 43) 1 = some (g.I (b + 43) 1) := fun g => gI_ok (kx_43 HX)
    have hg3 : gI z h 9 o 3 = some (nI sz) := by rw [gI_ok HC.1, HC.2.2.2.2.1]
    rw [f_X2_doAll_8.eq_2, hg3, bS, if_neg (fun q => hc ((nI_leI (by omega) (by omega)).mp q)), num_ok HC (by omega), bS, e1, bS]
    dsimp only
    rw [hpI, bS, hgI, bS, I3]
    unfold aRun
    by_cases hz : (aTold τ P A (vs j).toInt).1 = 0
    · rw [if_pos (by rw [hz]; rfl), if_pos hz, bS, show (1 : Int32) = nI 1 from rfl, nI_add]
      generalize h1.setI (b + 43) 1 (nI (aTold τ P A (vs j).toInt).1) = g at *
      obtain ⟨h', e, c, p, w⟩ := ih (j + 1) i g (aTold τ P A (vs j).toInt).2 (by omega) (by omega) (by rw [c2.1]; exact HX) (by rw [c2.1]; exact HP) (hT.fr (c2.fr Q)) ⟨by rw [I1, I2]; exact p1, aTold_per hτ h6 HA.2 _⟩ (HC.fr (c2.R o) (c2.2.2 o o1.1 o1.2.1 o1.2.2.1 o1.2.2.2.1 o1.2.2.2.2) (c2.2.1 ro)) (by rw [I3, hz])
      exact ⟨h', e, c2.trans c, p, w⟩
    · have hb : (aTold τ P A (vs j).toInt).1 < 10 := aTold_lt
      rw [if_neg (fun (q : nI (aTold τ P A (vs j).toInt).1 = 0) => hz ((nI_inj (by omega) (by omega)).mp q)), if_neg hz]
      refine ⟨_, rfl, c2, ?_, I3⟩
      rw [I1, I2]
      rw [aTold_0 hz] at p1
      exact p1
/-- the reference's -/
def Rd (b : Nat) (h h' : Hp) : Prop := h'.2.2 = h.2.2 ∧ (∀ a, h'.J a = h.J a) ∧ (∀ a, a ≠ b + 72 → a ≠ b + 73 → a ≠ b + 77 → a ≠ b + 78 → h'.I a = h.I a) ∧ ∀ k, k ≠ 19 → k ≠ 20 → h'.I (b + 72) k = h.I (b + 72) k
theorem Rd.refl (b : Nat) (h : Hp) : Rd b h h := ⟨rfl, fun _ => rfl, fun _ _ _ _ _ => rfl, fun _ _ _ => rfl⟩
theorem Rd.trans {b : Nat} {h h' h'' : Hp} (H : Rd b h h') (G : Rd b h' h'') : Rd b h h'' := ⟨G.1.trans H.1, fun a => (G.2.1 a).trans (H.2.1 a), fun a h1 h2 h3 h4 => (G.2.2.1 a h1 h2 h3 h4).trans (H.2.2.1 a h1 h2 h3 h4), fun k h1 h2 => (G.2.2.2 k h1 h2).trans (H.2.2.2 k h1 h2)⟩
theorem Rd.row {b : Nat} (h : Hp) {a : Nat} (f : Nat → Int32) (ha : a = b + 73 ∨ a = b + 77 ∨ a = b + 78) : Rd b h (h.rowI a f) := ⟨rfl, fun _ => rfl, fun c h1 h2 h3 h4 => rowI_ne h _ (by omega), fun k h1 h2 => by rw [rowI_ne h _ (by omega)]⟩
theorem Rd.set {b : Nat} (h : Hp) {k : Nat} (v : Int32) (hk : k = 19 ∨ k = 20) : Rd b h (h.setI (b + 72) k v) := ⟨rfl, fun _ => rfl, fun c h1 h2 h3 h4 => rowI_ne h _ h1, fun j h1 h2 => by rw [setI_I, if_pos rfl, upd, if_neg (by omega)]⟩
theorem Rd.R {b : Nat} {h h' : Hp} (H : Rd b h h') (a : Nat) : h'.R a = h.R a := by
  show h'.2.2 a = h.2.2 a
  rw [H.1]
theorem tells_7 {n : Nat} {z : Sh} {b : Nat} (hn : 400000 ≤ n) {τ : TT} {P : Nat} {tr sz : Nat} (htr : tr < 4) (hsz : sz ≤ 40) {vs : Nat → Int64} :
    ∀ (d j i : Nat) (h : Hp) (A : Nat → Int32), j + d = sz → d < i → RefI b z h τ P A → h.I (b + 90) tr = nI sz → (∀ j, j < sz → h.J (b + 91) (40 * tr + j) = vs j) → h.I (b + 72) 19 = nI 0 → ∃ h', f_X12_tells_7 n z i h (b + 72) (nI tr) (nI j) = some (nI (aRun τ P vs d j A).1, h') ∧ Rd b h h' ∧ h'.I (b + 73) = (aRun τ P vs d j A).2.2 ∧ h'.I (b + 72) 19 = nI (aRun τ P vs d j A).2.1 := by
  intro d
  induction d with
  | zero =>
    intro j i h A hj hi H hm hv h0
    obtain ⟨i, rfl⟩ : ∃ k, i = k + 1 := ⟨i - 1, by omega⟩
    obtain rfl : j = sz := by omega
    have HM := H.1
    rw [f_X12_tells_7.eq_2]
    refine ⟨h, ?_, Rd.refl .., H.2.2.1, h0⟩
    simp (disch := omega) only [hm, nI_leI, Nat.le_refl, aRun, bS, if_true, if_false, nI_lit, nI_add, nI_mul, rowI_R, rowJ_R, setI_R, setJ_R, rowI_J, setI_J, rowJ_I, setJ_I, rowI_setI, rowJ_setJ, rowI_Ib, rowJ_Jb, setI_I, setJ_J, Nat.add_left_cancel_iff, Nat.reduceEqDiff, Nat.left_eq_add, Nat.add_eq_left, Nat.reduceAdd, gR, gI, gN, pI, not_false_eq_true, not_true_eq_false, and_true, true_and, and_false, false_and, or_true, true_or, or_false, false_or, km_0 HM, rm_1 HM, rm_2 HM, rm_3 HM, rm_4 HM, rm_16 HM, rm_17 HM, rm_18 HM, rm_21 HM, rm_22 HM, rm_23 HM, rm_24 HM, rm_27 HM, rm_28 HM, rm_29 HM, rm_30 HM, rm_31 HM, rm_33 HM, rm_34 HM, rm_35 HM, lm_1 HM, lm_2 HM, lm_3 HM, lm_4 HM, lm_5 HM, lm_6 HM, lm_7 HM, lm_8 HM, lm_9 HM, lm_10 HM, lm_11 HM, lm_12 HM, lm_13 HM, lm_14 HM, lm_15 HM, lm_16 HM, lm_17 HM, lm_18 HM, lm_19 HM, sm_1 HM, sm_2 HM, sm_3 HM, sm_4 HM, sm_5 HM, sm_6 HM, sm_7 HM, sm_8 HM, sm_9 HM, sm_10 HM, sm_11 HM, sm_12 HM, sm_13 HM, sm_14 HM, sm_15 HM, sm_16 HM, sm_17 HM, sm_18 HM, sm_19 HM]
  | succ d ih =>
    intro j i h A hj hi H hm hv h0
    obtain ⟨i, rfl⟩ : ∃ k, i = k + 1 := ⟨i - 1, by omega⟩
    have HM := H.1
    have hc : ¬ (sz ≤ j) := by omega
    have hw := wNot_ok H (vs j)
    have I3 : (h.setI (b + 72) 19 (nI (aTold τ P A (vs j).toInt).1)).I (b + 72) 19 = nI (aTold τ P A (vs j).toInt).1 := by rw [setI_I, if_pos rfl, upd, if_pos rfl]
    have c1 : Rd b h (h.setI (b + 72) 19 (nI (aTold τ P A (vs j).toInt).1)) := Rd.set h _ (Or.inl rfl)
    have hvj := hv j (by omega)
    rw [f_X12_tells_7.eq_2, gR, if_pos (km_0 HM), rm_34 HM, bS, lm_18 HM htr, bS, hm, if_neg (fun q => hc ((nI_leI (by omega) (by omega)).mp q)), gR, if_pos (km_0 HM), rm_35 HM, bS, show (40 : Int32) = nI 40 from rfl, nI_mul, nI_add, lm_19 HM (by omega), bS, hvj, hw, bS, pI, if_pos (km_0 HM), bS, gI, if_pos (km_0 HM), bS, I3]
    have H1 : RefI b z (h.setI (b + 72) 19 (nI (aTold τ P A (vs j).toInt).1)) τ P A := H.fr rfl (rowI_ne h _ (by omega))
    have J1 : (h.setI (b + 72) 19 (nI (aTold τ P A (vs j).toInt).1)).J (b + 91) (40 * tr + j) = vs j := hvj
    have m1 : (h.setI (b + 72) 19 (nI (aTold τ P A (vs j).toInt).1)).I (b + 90) = h.I (b + 90) := rowI_ne h _ (by omega)
    have hb : (aTold τ P A (vs j).toInt).1 < 10 := aTold_lt
    unfold aRun
    by_cases hz : (aTold τ P A (vs j).toInt).1 = 0
    · rw [if_pos (show nI (aTold τ P A (vs j).toInt).1 = 0 by rw [hz]; rfl), if_pos hz]
      generalize h.setI (b + 72) 19 (nI (aTold τ P A (vs j).toInt).1) = g at *
      have HM2 := H1.1
      rw [gR, if_pos (km_0 HM2), rm_35 HM2, bS, lm_19 HM2 (by omega), bS, J1]
      obtain ⟨r1, r2, hd⟩ := does_ok (n := n) H1 hn hz
      have e32 : Int64.toInt32 (vs j) = iI (vs j).toInt := by rw [← lI_32, lI_of]
      rw [e32, hd, bS, bS, show (1 : Int32) = nI 1 from rfl, nI_add]
      have c3 : Rd b g (((g.rowI (b + 78) r1).rowI (b + 77) r2).rowI (b + 73) (aTold τ P A (vs j).toInt).2) := ((Rd.row g r1 (Or.inr (Or.inr rfl))).trans (Rd.row _ r2 (Or.inr (Or.inl rfl)))).trans (Rd.row _ _ (Or.inl rfl))
      have g73 : (((g.rowI (b + 78) r1).rowI (b + 77) r2).rowI (b + 73) (aTold τ P A (vs j).toInt).2).I (b + 73) = (aTold τ P A (vs j).toInt).2 := rowI_I _ _ _
      have g72 : (((g.rowI (b + 78) r1).rowI (b + 77) r2).rowI (b + 73) (aTold τ P A (vs j).toInt).2).I (b + 72) = g.I (b + 72) := by rw [rowI_ne _ _ (by omega), rowI_ne _ _ (by omega), rowI_ne _ _ (by omega)]
      generalize ((g.rowI (b + 78) r1).rowI (b + 77) r2).rowI (b + 73) (aTold τ P A (vs j).toInt).2 = g2 at *
      obtain ⟨h', e, c, p, w⟩ := ih (j + 1) i g2 (aTold τ P A (vs j).toInt).2 (by omega) (by omega) (H1.up c3.1 g73 (fun k hk => aTold_k H.2.2.2.2.2.1 hk) (aTold_per H.2.1 H.2.2.2.2.2.1 H.2.2.2.2.2.2 _)) (by rw [c3.2.2.1 _ (by omega) (by omega) (by omega) (by omega), m1]; exact hm) (by rw [c3.2.1, c1.2.1]; exact hv) (by rw [g72, I3, hz])
      exact ⟨h', e, (c1.trans c3).trans c, p, w⟩
    · rw [if_neg (fun (q : nI (aTold τ P A (vs j).toInt).1 = 0) => hz ((nI_inj (by omega) (by omega)).mp q)), if_neg hz]
      exact ⟨_, rfl, c1, H1.2.2.1, I3⟩
/-! draws of a season -/
theorem rnd_ok (x : Int32) : ∃ k : Nat, k < 65536 ∧ ((Int32.toUInt32 x >>> (Int32.toUInt32 16 &&& Int32.toUInt32 31)).toInt32) = nI k := by
  refine ⟨(x.toUInt32 >>> 16).toNat, ?_, ?_⟩
  · rw [UInt32.toNat_shiftRight]
    have h1 : (x.toUInt32).toNat < 4294967296 := UInt32.toNat_lt _
    have h2 : (16 : UInt32).toNat % 32 = 16 := by decide
    rw [h2, Nat.shiftRight_eq_div_pow]
    omega
  · have e : (Int32.toUInt32 16 &&& Int32.toUInt32 31) = 16 := by decide
    have e2 : ∀ u : UInt32, UInt32.ofNat u.toNat = u := fun u => by simp
    rw [e]
    exact congrArg Int32.ofUInt32 (e2 (x.toUInt32 >>> 16)).symm
def rnd (x : Int32) : Nat := ((Int32.toUInt32 x >>> (Int32.toUInt32 16 &&& Int32.toUInt32 31)).toInt32).toInt.toNat
theorem rnd_eq (x : Int32) : ((Int32.toUInt32 x >>> (Int32.toUInt32 16 &&& Int32.toUInt32 31)).toInt32) = nI (rnd x) ∧ rnd x < 65536 := by
  obtain ⟨k, hk, e⟩ := rnd_ok x
  unfold rnd
  rw [e, nI_to (by omega)]
  exact ⟨rfl, by omega⟩
def nx (x : Int32) : Int32 := 1103515245 * x + 12345
def aDrw (x : Int32) : Int × Int32 :=
  if 4 ≤ rnd (nx x) % 6 then (if rnd (nx x) % 6 = 4 then (100 + (rnd (nx (nx x)) % 6 : Nat), nx (nx x)) else (1001 + 100 * (rnd (nx (nx x)) % 6 : Nat) + (rnd (nx (nx (nx x))) % 9 : Nat), nx (nx (nx x)))) else (10 * (rnd (nx (nx x)) % 6 : Nat) + (rnd (nx (nx (nx x))) % 4 : Nat), nx (nx (nx x)))
def aSea (τ : TT) (P : Nat) : Nat → Int32 → Nat → (Nat → Int32) → Nat × (Nat → Int32)
  | 0, _, m, A => (m, A)
  | d + 1, x, m, A => if (aTold τ P A (aDrw x).1).1 = 0 then aSea τ P d (aDrw x).2 (m + 1) (aTold τ P A (aDrw x).1).2 else aSea τ P d (aDrw x).2 m A
