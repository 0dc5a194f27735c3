/-! ===== seasons on both sides; what is kept of the past ===== -/
theorem sv_I (h : Hp) (a k : Nat) (v : Int32) : (h.setI a k v).I a k = v := by rw [setI_I, if_pos rfl, upd, if_pos rfl]
theorem nd_ok {z : Sh} {h : Hp} {b : Nat} (HX : LayX z h.2.2 b) : f_X2_nextDrawn z h (b + 43) = some (nI (rnd (nx (h.I (b + 43) 2))), h.setI (b + 43) 2 (nx (h.I (b + 43) 2))) := by
  unfold f_X2_nextDrawn
  rw [if_pos (kx_43 HX), gI_ok (kx_43 HX), bS, pI_ok (kx_43 HX), bS, gI_ok (kx_43 HX), bS, sv_I, (rnd_eq _).1]
  rfl
theorem lot_ok {z : Sh} {h : Hp} {b : Nat} (HM : LayR z h.2.2 (b + 72)) {m : Nat} (h1 : 0 < m) (h2 : m < 100) : f_X12_lot z h (b + 72) (nI m) = some (nI (rnd (nx (h.I (b + 72) 20)) % m), h.setI (b + 72) 20 (nx (h.I (b + 72) 20))) := by
  unfold f_X12_lot
  rw [if_pos (km_0 HM), gI_ok (km_0 HM), bS, pI_ok (km_0 HM), bS, gI_ok (km_0 HM), bS, sv_I, (rnd_eq _).1]
  have := (rnd_eq (1103515245 * h.I (b + 72) 20 + 12345)).2
  rw [rmI_ok (by omega) (by omega) (by omega), bS]
  rfl
theorem told_l {τ : TT} {P : Nat} {A : Nat → Int32} {p t : Nat} (hp : p < 6) (ht : t < 4) : aTold τ P A (10 * (p : Int) + (t : Int)) = aLive τ P A p t := by
  unfold aTold
  rw [if_pos (by omega), show (10 * (p : Int) + (t : Int)) / 10 = p by omega, show (10 * (p : Int) + (t : Int)) % 10 = t by omega]
theorem told_d {τ : TT} {P : Nat} {A : Nat → Int32} {p : Nat} (hp : p < 6) : aTold τ P A (100 + (p : Int)) = aDraw τ P A p := by
  unfold aTold
  rw [if_neg (by omega), if_pos (by omega), show (100 + (p : Int)) - 100 = p by omega]
theorem told_p {τ : TT} {P : Nat} {A : Nat → Int32} {p k : Nat} (hp : p < 6) (hk : k < 9) : aTold τ P A (1001 + 100 * (p : Int) + (k : Int)) = aPledge P A p ((1 + k : Nat) : Int) := by
  unfold aTold
  rw [if_neg (by omega), if_neg (by omega), if_neg (by omega), if_pos (by omega), show (1001 + 100 * (p : Int) + (k : Int) - 1000) / 100 = p by omega, show (1001 + 100 * (p : Int) + (k : Int)) % 100 = ((1 + k : Nat) : Int) by omega]
theorem tI_n {j : Nat} (h : j < 1000) : (nI j).toInt = j := nI_to (by omega)
theorem tL_n {j : Nat} (h : j < 1000) : (Int32.toInt64 (nI j)).toInt = j := by rw [to64, nI_to (by omega)]
theorem cdrawn_ok {n : Nat} {z : Sh} {h : Hp} {b q r t : Nat} (HX : LayX z h.2.2 b) (hn : 400000 ≤ n) (Q : Qd b q r) (HP : PL z h.2.2 q r) {τ : TT} (hτ : TownOK τ) (hT : TownX b z h t τ) {P : Nat} (h6 : P ≤ 6) {A : Nat → Int32} (HA : PplI τ P (h.I q) (h.I r) A) : ∃ h', f_X2_doDrawn n z h (b + 43) t q = some (nI (aTold τ P A (aDrw (h.I (b + 43) 2)).1).1, h') ∧ Ce b q r h h' ∧ PeopleX (h'.I q) (h'.I r) (aTold τ P A (aDrw (h.I (b + 43) 2)).1).2 P ∧ h'.I (b + 43) 2 = (aDrw (h.I (b + 43) 2)).2 := by
  have kq : q ≠ b + 43 := by unfold Qd at Q; omega
  have kr : r ≠ b + 43 := by unfold Qd at Q; omega
  have k3 : b + 43 ≠ b + 41 ∧ b + 43 ≠ b + 42 ∧ b + 43 ≠ q ∧ b + 43 ≠ r := by omega
  have S : ∀ (g : Hp) (v : Int32), (Ce b q r h g ∧ g.I q = h.I q ∧ g.I r = h.I r) → (Ce b q r h (g.setI (b + 43) 2 v) ∧ (g.setI (b + 43) 2 v).I q = h.I q ∧ (g.setI (b + 43) 2 v).I r = h.I r) := fun g v ⟨c, e1, e2⟩ => ⟨c.trans (Ce.set g 2 v), (rowI_ne g _ kq).trans e1, (rowI_ne g _ kr).trans e2⟩
  have S1 := S h (nx (h.I (b + 43) 2)) ⟨Ce.refl .., rfl, rfl⟩
  have S2 := S _ (nx (nx (h.I (b + 43) 2))) S1
  have S3 := S _ (nx (nx (nx (h.I (b + 43) 2)))) S2
  unfold f_X2_doDrawn
  generalize hx : h.I (b + 43) 2 = x at *
  have r1 := (rnd_eq (nx x)).2
  have r2 := (rnd_eq (nx (nx x))).2
  have r3 := (rnd_eq (nx (nx (nx x)))).2
  rw [if_pos (kx_43 HX), nd_ok HX, bS, hx]
  dsimp only
  rw [show (6 : Int32) = nI 6 from rfl, rmI_ok (by omega) (by omega) (by omega), bS, nd_ok (h := h.setI (b + 43) 2 (nx x)) HX, bS, sv_I]
  dsimp only
  rw [rmI_ok (by omega) (by omega) (by omega), bS]
  have hv2 := sv_I (h.setI (b + 43) 2 (nx x)) (b + 43) 2 (nx (nx x))
  have E2 : (h.setI (b + 43) 2 (nx x)).setI (b + 43) 2 (nx (nx x)) |>.2.2 = h.2.2 := rfl
  generalize (h.setI (b + 43) 2 (nx x)).setI (b + 43) 2 (nx (nx x)) = g at *
  have hv3 := sv_I g (b + 43) 2 (nx (nx (nx x)))
  have E3 : (g.setI (b + 43) 2 (nx (nx (nx x)))).2.2 = h.2.2 := E2
  have HX2 : LayX z g.2.2 b := by rw [E2]; exact HX
  unfold aDrw
  by_cases c1 : 4 ≤ rnd (nx x) % 6
  · rw [if_pos (show (3 : Int32) < nI (rnd (nx x) % 6) by rw [show (3 : Int32) = nI 3 from rfl, nI_lt2 (by omega) (by omega)]; omega), if_pos c1]
    by_cases c2 : rnd (nx x) % 6 = 4
    · rw [if_pos (show nI (rnd (nx x) % 6) = 4 by rw [c2]; rfl), if_pos c2]
      obtain ⟨h', e, c, p⟩ := cdraws_ok (n := n) HX2 hn Q (by rw [E2]; exact HP) hτ (hT.fr (S2.1.fr Q)) h6 (by rw [S2.2.1, S2.2.2]; exact HA) (nI (rnd (nx (nx x)) % 6))
      rw [tI_n (by omega)] at e p
      dsimp only
      rw [told_d (by omega)]
      refine ⟨h', by rw [e]; rfl, S2.1.trans c.e, p, ?_⟩
      rw [c.2.2 _ k3.1 k3.2.1 k3.2.2.1 k3.2.2.2]
      exact hv2
    · rw [if_neg (show ¬ nI (rnd (nx x) % 6) = 4 from fun q => c2 ((nI_inj (by omega) (by omega)).mp q)), if_neg c2, nd_ok HX2, bS, hv2]
      dsimp only
      rw [show (9 : Int32) = nI 9 from rfl, rmI_ok (by omega) (by omega) (by omega), bS, show (1 : Int32) = nI 1 from rfl, nI_add]
      generalize g.setI (b + 43) 2 (nx (nx (nx x))) = g3 at *
      obtain ⟨h', e, c, p⟩ := cpledges_ok (n := n) (by rw [E3]; exact HX) hn Q (by rw [E3]; exact HP) hτ (hT.fr (S3.1.fr Q)) h6 (by rw [S3.2.1, S3.2.2]; exact HA) (nI (rnd (nx (nx x)) % 6)) (nI (1 + rnd (nx (nx (nx x))) % 9))
      rw [tI_n (by omega), tI_n (by omega)] at e p
      rw [told_p (by omega) (by omega)]
      refine ⟨h', by rw [e]; rfl, S3.1.trans c.e, p, ?_⟩
      rw [c.2.2 _ k3.1 k3.2.1 k3.2.2.1 k3.2.2.2]
      exact hv3
  · rw [if_neg (show ¬ (3 : Int32) < nI (rnd (nx x) % 6) by rw [show (3 : Int32) = nI 3 from rfl, nI_lt2 (by omega) (by omega)]; omega), if_neg c1, nd_ok HX2, bS, hv2]
    dsimp only
    rw [show (4 : Int32) = nI 4 from rfl, rmI_ok (by omega) (by omega) (by omega), bS]
    generalize g.setI (b + 43) 2 (nx (nx (nx x))) = g3 at *
    obtain ⟨h', e, c, p⟩ := clives_ok (n := n) (by rw [E3]; exact HX) hn Q (by rw [E3]; exact HP) hτ (hT.fr (S3.1.fr Q)) h6 (by rw [S3.2.1, S3.2.2]; exact HA) (nI (rnd (nx (nx x)) % 6)) (Int32.toInt64 (nI (rnd (nx (nx (nx x))) % 4)))
    rw [tI_n (by omega), tL_n (by omega)] at e p
    rw [told_l (by omega) (by omega)]
    refine ⟨h', by rw [e]; rfl, S3.1.trans c.e, p, ?_⟩
    rw [c.2.2 _ k3.1 k3.2.1 k3.2.2.1 k3.2.2.2]
    exact hv3
theorem aSea_per {τ : TT} (hτ : TownOK τ) {P : Nat} (h6 : P ≤ 6) : ∀ (d : Nat) (x : Int32) (m : Nat) (A : Nat → Int32), (∀ p, p < P → PerOK τ A p) → ∀ p, p < P → PerOK τ (aSea τ P d x m A).2 p := by
  intro d
  induction d with
  | zero => intro x m A H; exact H
  | succ d ih =>
    intro x m A H
    unfold aSea
    split
    · exact ih _ _ _ (aTold_per hτ h6 H _)
    · exact ih _ _ _ H
theorem aSea_k {τ : TT} {P : Nat} (h6 : P ≤ 6) {k : Nat} (hk : k < 17 ∨ 66 ≤ k) : ∀ (d : Nat) (x : Int32) (m : Nat) (A : Nat → Int32), (aSea τ P d x m A).2 k = A k := by
  intro d
  induction d with
  | zero => intro x m A; rfl
  | succ d ih =>
    intro x m A
    unfold aSea
    split
    · rw [ih, aTold_k h6 hk]
    · exact ih _ _ _
theorem aSea_le {τ : TT} {P : Nat} : ∀ (d : Nat) (x : Int32) (m : Nat) (A : Nat → Int32), (aSea τ P d x m A).1 ≤ m + d := by
  intro d
  induction d with
  | zero => intro x m A; exact Nat.le_refl _
  | succ d ih =>
    intro x m A
    unfold aSea
    split
    · have := ih (aDrw x).2 (m + 1) (aTold τ P A (aDrw x).1).2
      omega
    · have := ih (aDrw x).2 m A
      omega
theorem aSea_0 {τ : TT} {P : Nat} : ∀ (d : Nat) (x : Int32) (m : Nat) (A : Nat → Int32), (aSea τ P d x m A).1 = 0 → (aSea τ P d x m A).2 = A := by
  intro d
  induction d with
  | zero => intro x m A _; rfl
  | succ d ih =>
    intro x m A
    unfold aSea
    split
    · intro h0
      exfalso
      have : ∀ (d : Nat) (x : Int32) (m : Nat) (A : Nat → Int32), m ≤ (aSea τ P d x m A).1 := by
        intro d
        induction d with
        | zero => intro x m A; exact Nat.le_refl _
        | succ d ih =>
          intro x m A
          unfold aSea
          split
          · have := ih (aDrw x).2 (m + 1) (aTold τ P A (aDrw x).1).2
            omega
          · exact ih _ _ _
      have := this d (aDrw x).2 (m + 1) (aTold τ P A (aDrw x).1).2
      omega
    · exact ih _ _ _
theorem csea_11 {n : Nat} {z : Sh} {b q r t : Nat} (hn : 400000 ≤ n) (Q : Qd b q r) {τ : TT} (hτ : TownOK τ) {P : Nat} (h6 : P ≤ 6) {N : Nat} (hN : N ≤ 40) :
    ∀ (d j i m : Nat) (h : Hp) (A : Nat → Int32), j + d = N → m ≤ j → d < i → LayX z h.2.2 b → PL z h.2.2 q r → TownX b z h t τ → PplI τ P (h.I q) (h.I r) A → ∃ h', f_X2_doSeason_11 n z i h (b + 43) t q (nI N) (nI m) (nI j) = some (nI (aSea τ P d (h.I (b + 43) 2) m A).1, h') ∧ Ce b q r h h' ∧ PeopleX (h'.I q) (h'.I r) (aSea τ P d (h.I (b + 43) 2) m A).2 P := by
  intro d
  induction d with
  | zero =>
    intro j i m h A hj hm hi HX HP hT HA
    obtain ⟨i, rfl⟩ : ∃ k, i = k + 1 := ⟨i - 1, by omega⟩
    obtain rfl : j = N := by omega
    rw [f_X2_doSeason_11.eq_2, if_pos ((nI_leI (by omega) (by omega)).mpr (Nat.le_refl _))]
    exact ⟨h, rfl, Ce.refl .., HA.1⟩
  | succ d ih =>
    intro j i m h A hj hm hi HX HP hT HA
    obtain ⟨i, rfl⟩ : ∃ k, i = k + 1 := ⟨i - 1, by omega⟩
    rw [f_X2_doSeason_11.eq_2, if_neg (fun q => by have := (nI_leI (by omega) (by omega)).mp q; omega)]
    obtain ⟨h1, e1, c1, p1, w1⟩ := cdrawn_ok (n := n) HX hn Q HP hτ hT h6 HA
    have hb : (aTold τ P A (aDrw (h.I (b + 43) 2)).1).1 < 10 := aTold_lt
    rw [e1, bS]
    dsimp only
    unfold aSea f_X2_doSeason_34
    simp only [show (1 : Int32) = nI 1 from rfl, show (0 : Int32) = nI 0 from rfl, nI_add, bS]
    by_cases hz : (aTold τ P A (aDrw (h.I (b + 43) 2)).1).1 = 0
    · rw [if_pos (by rw [hz]), if_pos hz]
      obtain ⟨h', e, c, p⟩ := ih (j + 1) i (m + 1) h1 (aTold τ P A (aDrw (h.I (b + 43) 2)).1).2 (by omega) (by omega) (by omega) (by rw [c1.1]; exact HX) (by rw [c1.1]; exact HP) (hT.fr (c1.fr Q)) ⟨p1, aTold_per hτ h6 HA.2 _⟩
      rw [w1] at e p
      exact ⟨h', e, c1.trans c, p⟩
    · rw [if_neg (fun q => hz ((nI_inj (by omega) (by omega)).mp q)), if_neg hz]
      rw [aTold_0 hz] at p1
      obtain ⟨h', e, c, p⟩ := ih (j + 1) i m h1 A (by omega) (by omega) (by omega) (by rw [c1.1]; exact HX) (by rw [c1.1]; exact HP) (hT.fr (c1.fr Q)) ⟨p1, HA.2⟩
      rw [w1] at e p
      exact ⟨h', e, c1.trans c, p⟩
/-- the reference's draw -/
theorem mdrawn {z : Sh} {h : Hp} {b : Nat} (HM : LayR z h.2.2 (b + 72)) : ∃ h', f_X12_drawn z h (b + 72) = some (iI (aDrw (h.I (b + 72) 20)).1, h') ∧ Rd b h h' ∧ h'.I (b + 73) = h.I (b + 73) ∧ h'.I (b + 72) 20 = (aDrw (h.I (b + 72) 20)).2 := by
  unfold f_X12_drawn
  have S : ∀ (g : Hp) (v : Int32), (Rd b h g ∧ g.I (b + 73) = h.I (b + 73)) → (Rd b h (g.setI (b + 72) 20 v) ∧ (g.setI (b + 72) 20 v).I (b + 73) = h.I (b + 73)) := fun g v ⟨c, e1⟩ => ⟨c.trans (Rd.set g v (Or.inr rfl)), (rowI_ne g _ (by omega)).trans e1⟩
  have S1 := S h (nx (h.I (b + 72) 20)) ⟨Rd.refl .., rfl⟩
  have S2 := S _ (nx (nx (h.I (b + 72) 20))) S1
  have S3 := S _ (nx (nx (nx (h.I (b + 72) 20)))) S2
  generalize hx : h.I (b + 72) 20 = x at *
  rw [if_pos (km_0 HM), show (6 : Int32) = nI 6 from rfl, lot_ok HM (by omega) (by omega), bS, hx]
  dsimp only
  rw [lot_ok (h := h.setI (b + 72) 20 (nx x)) HM (by omega) (by omega), bS, sv_I]
  dsimp only
  have hv2 := sv_I (h.setI (b + 72) 20 (nx x)) (b + 72) 20 (nx (nx x))
  have E2 : ((h.setI (b + 72) 20 (nx x)).setI (b + 72) 20 (nx (nx x))).2.2 = h.2.2 := rfl
  generalize (h.setI (b + 72) 20 (nx x)).setI (b + 72) 20 (nx (nx x)) = g at *
  have hv3 := sv_I g (b + 72) 20 (nx (nx (nx x)))
  have HM2 : LayR z g.2.2 (b + 72) := by rw [E2]; exact HM
  unfold aDrw
  by_cases c1 : 4 ≤ rnd (nx x) % 6
  · rw [if_pos (show (4 : Int32) ≤ nI (rnd (nx x) % 6) by rw [show (4 : Int32) = nI 4 from rfl, nI_leI (by omega) (by omega)]; omega), if_pos c1]
    by_cases c2 : rnd (nx x) % 6 = 4
    · rw [if_pos (show nI (rnd (nx x) % 6) = 4 by rw [c2]; rfl), if_pos c2]
      refine ⟨g, ?_, S2.1, S2.2, hv2⟩
      rw [show (100 : Int32) = nI 100 from rfl, nI_add, nI_iI]
      rfl
    · rw [if_neg (show ¬ nI (rnd (nx x) % 6) = 4 from fun q => c2 ((nI_inj (by omega) (by omega)).mp q)), if_neg c2, show (9 : Int32) = nI 9 from rfl, lot_ok HM2 (by omega) (by omega), bS, hv2]
      dsimp only
      refine ⟨_, ?_, S3.1, S3.2, hv3⟩
      rw [show (100 : Int32) = nI 100 from rfl, show (1001 : Int32) = nI 1001 from rfl, nI_mul, nI_add, nI_add, nI_iI]
      congr 3
  · rw [if_neg (show ¬ (4 : Int32) ≤ nI (rnd (nx x) % 6) by rw [show (4 : Int32) = nI 4 from rfl, nI_leI (by omega) (by omega)]; omega), if_neg c1, show (4 : Int32) = nI 4 from rfl, lot_ok HM2 (by omega) (by omega), bS, hv2]
    dsimp only
    refine ⟨_, ?_, S3.1, S3.2, hv3⟩
    rw [show (10 : Int32) = nI 10 from rfl, nI_mul, nI_add, nI_iI]
    congr 3
theorem aDrw_bd (x : Int32) : 0 ≤ (aDrw x).1 ∧ (aDrw x).1 < 2000 := by
  unfold aDrw
  split
  · split <;> (dsimp only; omega)
  · dsimp only; omega
/-- the reference's season, up to its end; what is noted then is another matter -/
theorem msea_34 {n : Nat} {z : Sh} {b : Nat} (hn : 400000 ≤ n) {τ : TT} {P : Nat} {N : Nat} (hN : N ≤ 40) :
    ∀ (d j i m : Nat) (h : Hp) (A : Nat → Int32), j + d = N → m ≤ j → d < i → RefI b z h τ P A → ∃ h', f_X12_season_34 n z i h (b + 72) (nI N) (nI m) (nI j) = (if (aSea τ P d (h.I (b + 72) 20) m A).1 = 0 then some (nI 0, h') else (f_X12_notes n z h' (b + 72)).bind fun h3 => some (nI (aSea τ P d (h.I (b + 72) 20) m A).1, h3)) ∧ Rd b h h' ∧ h'.I (b + 73) = (aSea τ P d (h.I (b + 72) 20) m A).2 := by
  intro d
  induction d with
  | zero =>
    intro j i m h A hj hm hi H
    obtain ⟨i, rfl⟩ : ∃ k, i = k + 1 := ⟨i - 1, by omega⟩
    obtain rfl : j = N := by omega
    refine ⟨h, ?_, Rd.refl .., H.2.2.1⟩
    rw [f_X12_season_34.eq_2, if_pos ((nI_leI (by omega) (by omega)).mpr (Nat.le_refl _))]
    unfold aSea
    dsimp only
    by_cases h0 : m = 0
    · subst h0
      rw [if_pos (by decide), if_pos rfl]
    · rw [if_neg (fun q => by have := (nI_leI (a := m) (b := 0) (by omega) (by omega)).mp q; omega), if_neg h0]
  | succ d ih =>
    intro j i m h A hj hm hi H
    obtain ⟨i, rfl⟩ : ∃ k, i = k + 1 := ⟨i - 1, by omega⟩
    have HM := H.1
    obtain ⟨h1, e1, c1, g1, w1⟩ := mdrawn (z := z) (h := h) HM
    have H1 : RefI b z h1 τ P A := H.fr c1.1 g1
    have hb : (aTold τ P A (aDrw (h.I (b + 72) 20)).1).1 < 10 := aTold_lt
    have bd := aDrw_bd (h.I (b + 72) 20)
    rw [f_X12_season_34.eq_2, if_neg (fun q => by have := (nI_leI (by omega) (by omega)).mp q; omega), e1, bS]
    dsimp only
    rw [iI_64 (by omega) (by omega), wNot_ok H1, lI_to (by omega) (by omega), bS]
    unfold aSea f_X12_season_68
    simp only [show (1 : Int32) = nI 1 from rfl, nI_add, bS]
    by_cases hz : (aTold τ P A (aDrw (h.I (b + 72) 20)).1).1 = 0
    · rw [if_pos (by rw [hz]; rfl)]
      simp only [if_pos hz]
      obtain ⟨r1, r2, hd⟩ := does_ok (n := n) H1 hn hz
      rw [hd, bS]
      have c3 : Rd b h1 (((h1.rowI (b + 78) r1).rowI (b + 77) r2).rowI (b + 73) (aTold τ P A (aDrw (h.I (b + 72) 20)).1).2) := ((Rd.row h1 r1 (Or.inr (Or.inr rfl))).trans (Rd.row _ r2 (Or.inr (Or.inl rfl)))).trans (Rd.row _ _ (Or.inl rfl))
      have g73 : (((h1.rowI (b + 78) r1).rowI (b + 77) r2).rowI (b + 73) (aTold τ P A (aDrw (h.I (b + 72) 20)).1).2).I (b + 73) = (aTold τ P A (aDrw (h.I (b + 72) 20)).1).2 := rowI_I _ _ _
      have g72 : (((h1.rowI (b + 78) r1).rowI (b + 77) r2).rowI (b + 73) (aTold τ P A (aDrw (h.I (b + 72) 20)).1).2).I (b + 72) = h1.I (b + 72) := by rw [rowI_ne _ _ (by omega), rowI_ne _ _ (by omega), rowI_ne _ _ (by omega)]
      generalize ((h1.rowI (b + 78) r1).rowI (b + 77) r2).rowI (b + 73) (aTold τ P A (aDrw (h.I (b + 72) 20)).1).2 = g2 at *
      obtain ⟨h', e, c, p⟩ := ih (j + 1) i (m + 1) g2 (aTold τ P A (aDrw (h.I (b + 72) 20)).1).2 (by omega) (by omega) (by omega) (H1.up c3.1 g73 (fun k hk => aTold_k H.2.2.2.2.2.1 hk) (aTold_per H.2.1 H.2.2.2.2.2.1 H.2.2.2.2.2.2 _))
      rw [g72, w1] at e p
      exact ⟨h', e, (c1.trans c3).trans c, p⟩
    · rw [if_neg (fun (q : nI (aTold τ P A (aDrw (h.I (b + 72) 20)).1).1 = 0) => hz ((nI_inj (by omega) (by omega)).mp q))]
      simp only [if_neg hz]
      obtain ⟨h', e, c, p⟩ := ih (j + 1) i m h1 A (by omega) (by omega) (by omega) H1
      rw [w1] at e p
      exact ⟨h', e, c1.trans c, p⟩
