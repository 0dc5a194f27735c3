/-! ===== the fewest doings: the reference ===== -/
theorem iNG : (-268435456 : Int32) = iI (-268435456) := by decide
def SR (X : Int → Prop) (H : Int) (r : Nat) (h : Hp) (s : Nat) : Prop := (h.I r s = iI (-268435456) ∧ ∀ v, ¬ X v) ∨ ∃ v, MXP X v ∧ h.I r s = iI (H + v)
theorem SR.eq {X Y : Int → Prop} {H : Int} {r : Nat} {h : Hp} {s : Nat} (hq : ∀ v, X v ↔ Y v) (S : SR X H r h s) : SR Y H r h s := by
  rcases S with ⟨h1, h2⟩ | ⟨v, h1, h2⟩
  · exact Or.inl ⟨h1, fun v q => h2 v ((hq v).mpr q)⟩
  · exact Or.inr ⟨v, h1.eq hq, h2⟩
theorem SR.fr {X : Int → Prop} {H : Int} {r r' : Nat} {h h' : Hp} {s : Nat} (S : SR X H r h s) (e : h'.I r' s = h.I r s) : SR X H r' h' s := by
  unfold SR
  rw [e]
  exact S
def Qr (e t : Nat) : Nat → Nat → Prop := fun s1 j => s1 < e ∨ (s1 = e ∧ j < t)
section
variable {n : Nat} {z : Sh} {b : Nat} {τ : TT} {P : Nat} {A : Nat → Int32} {tal : Nat} {md : Bool} {s0 : Nat} {H : Int} {k : Nat}
def LR (τ : TT) (tal : Nat) (md : Bool) (s0 : Nat) (H : Int) (b k : Nat) (h : Hp) : Prop := ∀ s, s < 3430 → SR (Pt τ tal md s0 k s) H (b + 84) h s
def LQ (τ : TT) (tal : Nat) (md : Bool) (s0 : Nat) (H : Int) (b k : Nat) (Q : Nat → Nat → Prop) (h : Hp) : Prop := ∀ s, s < 3430 → SR (PS τ tal md s0 Q k s) H (b + 85) h s
def TR (τ : TT) (tal : Nat) (md : Bool) (s0 : Nat) (H : Int) (k : Nat) (r : Int) : Prop := (r = -268435456 ∧ ∀ s v, ¬ Pt τ tal md s0 k s v) ∨ ∃ M, MXP (fun v => ∃ s, Pt τ tal md s0 k s v) M ∧ r = H + M
/-- what a round comes to -/
abbrev GD (b : Nat) (τ : TT) (tal : Nat) (md : Bool) (s0 : Nat) (H : Int) (k : Nat) (h : Hp) (x : Option (Int32 × Hp)) : Prop := ∃ (r : Int) (hh : Hp), x = some (iI r, hh) ∧ TR τ tal md s0 H (k + 1) r ∧ LR τ tal md s0 H b (k + 1) hh ∧ Dz b h hh
theorem bet_ok {h : Hp} (HM : LayR z h.2.2 (b + 72)) (hH : -300 ≤ H ∧ H ≤ 300) {X Y S : Int → Prop} {m w : Int} {s2 : Nat} (h2 : s2 < 3430) (hY : ∀ v, Y v ↔ X v ∨ ∃ v1, S v1 ∧ v = v1 + w) (hS : MXP S m) (hmw : -1000 ≤ m + w ∧ m + w ≤ 1000) (hXb : ∀ v, X v → -1000 ≤ v ∧ v ≤ 1000) (hX : SR X H (b + 85) h s2) : ∃ f, f_X12_better z h (b + 72) (nI s2) (iI (H + (m + w))) = some (h.rowI (b + 85) f) ∧ SR Y H (b + 85) (h.rowI (b + 85) f) s2 ∧ ∀ s, s ≠ s2 → f s = h.I (b + 85) s := by
  unfold f_X12_better
  rw [if_pos (km_0 HM), gR_ok (km_0 HM) (rm_28 HM), bS, lm_13 HM h2, bS]
  have upR : ∀ v, MXP Y (m + w) → SR Y H (b + 85) (h.rowI (b + 85) (upd (h.I (b + 85)) s2 v)) s2 ∨ True := fun _ _ => Or.inr trivial
  have put : MXP Y (m + w) → ∃ f, (Option.bind (some (b + 85)) fun a4 => (stI z h a4 (nI s2) (iI (H + (m + w)))).bind fun h5 => some h5) = some (h.rowI (b + 85) f) ∧ SR Y H (b + 85) (h.rowI (b + 85) f) s2 ∧ ∀ s, s ≠ s2 → f s = h.I (b + 85) s := fun q => by
    refine ⟨upd (h.I (b + 85)) s2 (iI (H + (m + w))), ?_, Or.inr ⟨m + w, q, ?_⟩, fun s hs => if_neg hs⟩
    · rw [bS, sm_13 HM h2, bS]
      rfl
    · rw [rowI_Ib, if_pos rfl]
      exact if_pos rfl
  rcases hX with ⟨x1, x2⟩ | ⟨x, x1, x2⟩
  · rw [x1, if_neg (fun q => by rw [iI_le (by omega) (by omega) (by omega) (by omega)] at q; omega)]
    exact put (mx_new hY hS x2)
  · have xb := hXb x x1.1
    rw [x2]
    obtain ⟨u1, u2⟩ := mx_up hY hS x1
    by_cases cq : H + (m + w) ≤ H + x
    · rw [if_pos ((iI_le (by omega) (by omega) (by omega) (by omega)).mpr cq)]
      refine ⟨h.I (b + 85), by rw [rowI_self], Or.inr ⟨x, u1 (by omega), by rw [rowI_self]; exact x2⟩, fun _ _ => rfl⟩
    · rw [if_neg (fun q => by rw [iI_le (by omega) (by omega) (by omega) (by omega)] at q; omega)]
      exact put (u2 (by omega))
theorem LQ.put {h : Hp} {Q Q' : Nat → Nat → Prop} {f : Nat → Int32} {s2 : Nat} (L : LQ τ tal md s0 H b k Q h) (h1 : SR (PS τ tal md s0 Q' k s2) H (b + 85) (h.rowI (b + 85) f) s2) (h2 : ∀ s, s ≠ s2 → f s = h.I (b + 85) s) (h3 : ∀ s v, s ≠ s2 → (PS τ tal md s0 Q k s v ↔ PS τ tal md s0 Q' k s v)) : LQ τ tal md s0 H b k Q' (h.rowI (b + 85) f) := by
  intro s hs
  by_cases e : s = s2
  · rw [e]; exact h1
  · exact ((L s hs).eq (fun v => h3 s v e)).fr (by rw [rowI_Ib, if_pos rfl]; exact h2 s e)
theorem LR.fr {h h' : Hp} (L : LR τ tal md s0 H b k h) (e : h'.I (b + 84) = h.I (b + 84)) : LR τ tal md s0 H b k h' := fun s hs => (L s hs).fr (by rw [e])
theorem LQ.fr {h h' : Hp} {Q : Nat → Nat → Prop} (L : LQ τ tal md s0 H b k Q h) (e : h'.I (b + 85) = h.I (b + 85)) : LQ τ tal md s0 H b k Q h' := fun s hs => (L s hs).fr (by rw [e])
theorem Dz.r85 (b : Nat) (h : Hp) (f : Nat → Int32) : Dz b h (h.rowI (b + 85) f) := ⟨rfl, fun _ _ => rfl, fun a ha => by rw [rowI_Ib, if_neg (by omega)]⟩
theorem PS_b (hτ : TownOK τ) (h0 : SV τ s0) {Q : Nat → Nat → Prop} {s : Nat} {v : Int} (h : PS τ tal md s0 Q k s v) : -1000 ≤ v ∧ v ≤ 1000 := by
  obtain ⟨-, h2, h3, -⟩ := Pt_ok hτ h0 (PS_pt h)
  have := rk_le hτ s0
  omega
theorem go_100 (hn : 400000 ≤ n) (hτ : TownOK τ) (h0 : SV τ s0) (hH : -300 ≤ H ∧ H ≤ 300) {e : Nat} {m : Int} (he : SV τ e) (hm : MXP (Pt τ tal md s0 k e) m) {K : Hp → Nat → Int32 → Option (Int32 × Hp)} (hK : ∀ h, BR b z h τ P A tal md → LR τ tal md s0 H b k h → LQ τ tal md s0 H b k (Qr (e + 1) 0) h → GD b τ tal md s0 H k h (K h (b + 72) (nI (e + 1)))) {h : Hp} (B : BR b z h τ P A tal md) (L : LR τ tal md s0 H b k h) (R : LQ τ tal md s0 H b k (Qr e (opn τ e)) h) (h84 : h.I (b + 84) e = iI (H + m)) : GD b τ tal md s0 H k h (f_X12_goesOn_100 n z K h (b + 72) (nI e)) := by
  have HM := B.1.1
  have he0 := he.1
  have o4 := opn4 hτ e
  obtain ⟨-, pk, pv, -⟩ := Pt_ok hτ h0 hm.1
  have h13 := rk_le hτ s0
  unfold f_X12_goesOn_100 f_X12_goesOn_127
  rw [can_ok B he0, bS]
  by_cases hc : md = true ∧ sL e = 1
  · rw [if_pos hc, if_neg (show ¬ (1 : Int32) = 0 by decide)]
    obtain ⟨r1, r2, e1⟩ := mdrawn_ok (n := n) (z := z) (h := h) HM hn hτ (by rw [B.1.2.2.1]; exact B.1.2.2.2.1) B.2.2.2 he0
    have D1 := Dz.two b h r1 r2
    have B1 := B.dz D1
    have HM1 := B1.1.1
    have i84 : ((h.rowI (b + 78) r1).rowI (b + 77) r2).I (b + 84) = h.I (b + 84) := by rw [rowI_Ib, if_neg (by omega), rowI_Ib, if_neg (by omega)]
    have i85 : ((h.rowI (b + 78) r1).rowI (b + 77) r2).I (b + 85) = h.I (b + 85) := by rw [rowI_Ib, if_neg (by omega), rowI_Ib, if_neg (by omega)]
    generalize hg : (h.rowI (b + 78) r1).rowI (b + 77) r2 = g at *
    have R1 : LQ τ tal md s0 H b k (Qr e (opn τ e)) g := R.fr i85
    have hst : StP τ tal md e 9 (drN τ tal e) 0 := Or.inr ⟨rfl, hc, rfl, rfl⟩
    have up : ∀ s v, PS τ tal md s0 (Qr (e + 1) 0) k s v ↔ PS τ tal md s0 (Qr e (opn τ e)) k s v ∨ (s = drN τ tal e ∧ ∃ v1, Pt τ tal md s0 k e v1 ∧ v = v1 + 0) := fun s v => PS_up hτ (fun s1 j q => by
      rcases q with a | ⟨a1, a2⟩
      · exact Or.inl (by omega)
      · exact Or.inl (by omega)) (fun s1 j s' w q1 q2 q3 => by
      rcases q3 with a | ⟨a1, a2⟩
      · rcases Nat.lt_or_ge s1 e with q | q
        · exact Or.inl (Or.inl q)
        · obtain rfl : s1 = e := by omega
          rcases q2 with ⟨q, -⟩ | ⟨q, -⟩
          · exact Or.inl (Or.inr ⟨rfl, q⟩)
          · exact Or.inr ⟨rfl, q⟩
      · omega) h0 (Or.inl (by omega)) hst
    have d0 := (dr_SV (tal := tal) hτ he).1.1
    obtain ⟨f, e2, S2, f2⟩ := bet_ok (z := z) (h := g) HM1 hH (Y := PS τ tal md s0 (Qr (e + 1) 0) k (drN τ tal e)) (w := 0) (m := m) d0 (fun v => (up _ v).trans ⟨fun q => by
      rcases q with q | ⟨-, q⟩
      · exact Or.inl q
      · exact Or.inr q, fun q => by
      rcases q with q | q
      · exact Or.inl q
      · exact Or.inr ⟨rfl, q⟩⟩) hm (by omega) (fun v q => PS_b hτ h0 q) (R1 _ d0)
    have R2 := R1.put S2 f2 (fun s v hne => by
      rw [up s v]
      constructor
      · exact Or.inl
      · rintro (q | ⟨q, -⟩)
        · exact q
        · exact absurd q hne)
    have D2 := Dz.r85 b g f
    obtain ⟨r, hh, g1, g2, g3, g4⟩ := hK _ (B1.dz D2) ((L.fr i84).fr (by rw [rowI_Ib, if_neg (by omega)])) R2
    refine ⟨r, hh, ?_, g2, g3, (D1.trans D2).trans g4⟩
    rw [gI_ok (km_0 HM), bS, B.2.1, e1, bS]
    dsimp only
    rw [gR_ok (km_0 HM1) (rm_27 HM1), bS, lm_12 HM1 he0, bS, i84, h84]
    rw [Int.add_zero] at e2
    rw [e2, bS, bS, show nI e + 1 = nI (e + 1) from nI_add e 1]
    exact g1
  · rw [if_neg hc, if_pos rfl]
    have R1 : LQ τ tal md s0 H b k (Qr (e + 1) 0) h := fun s hs => (R s hs).eq (fun v => PS_eq (fun s1 v1 j s' w q2 q3 => by
      unfold Qr
      constructor
      · rintro (a | ⟨a1, a2⟩)
        · exact Or.inl (by omega)
        · exact Or.inl (by omega)
      · rintro (a | ⟨a1, a2⟩)
        · rcases Nat.lt_or_ge s1 e with q | q
          · exact Or.inl q
          · obtain rfl : s1 = e := by omega
            rcases q3 with ⟨q, -⟩ | ⟨q, q', -⟩
            · exact Or.inr ⟨rfl, q⟩
            · exact absurd q' hc
        · omega))
    rw [bS, show nI e + 1 = nI (e + 1) from nI_add e 1]
    exact hK h B L R1
theorem go_50 (hn : 400000 ≤ n) (hτ : TownOK τ) (h0 : SV τ s0) (hH : -300 ≤ H ∧ H ≤ 300) {e : Nat} {m : Int} (he : SV τ e) (hm : MXP (Pt τ tal md s0 k e) m) {K : Hp → Nat → Int32 → Option (Int32 × Hp)} (hK : ∀ h, BR b z h τ P A tal md → LR τ tal md s0 H b k h → LQ τ tal md s0 H b k (Qr (e + 1) 0) h → GD b τ tal md s0 H k h (K h (b + 72) (nI (e + 1)))) : ∀ (d t i : Nat) (h : Hp), t + d = opn τ e → d < i → BR b z h τ P A tal md → LR τ tal md s0 H b k h → LQ τ tal md s0 H b k (Qr e t) h → h.I (b + 84) e = iI (H + m) → GD b τ tal md s0 H k h (f_X12_goesOn_50 n z K i h (b + 72) (nI e) (nI t)) := by
  have o4 := opn4 hτ e
  have hD := hτ.2.1
  have he0 := he.1
  obtain ⟨-, pk, pv, -⟩ := Pt_ok hτ h0 hm.1
  have h13 := rk_le hτ s0
  intro d
  induction d with
  | zero =>
    intro t i h hj hi B L R h84
    obtain ⟨i, rfl⟩ : ∃ k, i = k + 1 := ⟨i - 1, by omega⟩
    obtain rfl : t = opn τ e := by omega
    have HM := B.1.1
    have hA := B.1.2.2.2.1
    rw [f_X12_goesOn_50.eq_2, gR_ok (km_0 HM) (rm_1 HM), bS, show (2 : Int32) = nI 2 from rfl, lm_1 HM (by omega), bS, B.1.2.2.1, hA.2.1]
    by_cases hy : sY e < tY τ
    · have eo : opn τ e = tD τ := by unfold opn; rw [if_pos hy]
      rw [if_pos ((nI_leI (by omega) (by omega)).mpr (by omega))]
      exact go_100 hn hτ h0 hH he hm hK B L R h84
    · have eo : opn τ e = 0 := by unfold opn; rw [if_neg hy]
      rw [if_neg (fun q => by have := (nI_leI (by omega) (by omega)).mp q; omega), over_ok B.1 he0, bS, if_neg hy, if_neg (show ¬ (1 : Int32) = 0 by decide)]
      exact go_100 hn hτ h0 hH he hm hK B L R h84
  | succ d ih =>
    intro t i h hj hi B L R h84
    obtain ⟨i, rfl⟩ : ∃ k, i = k + 1 := ⟨i - 1, by omega⟩
    have HM := B.1.1
    have hA := B.1.2.2.2.1
    have hto : t < opn τ e := by omega
    obtain ⟨q1, q2⟩ := opn_lt hto
    have hlv := (lv_SV hτ he q2 q1).1.1
    have wb := wV_bd τ tal e t
    obtain ⟨r1, r2, e1⟩ := mworth_ok (n := n) (z := z) (h := h) HM hn hτ (by rw [B.1.2.2.1]; exact hA) B.2.2.2 he0 (show t ≤ 9 by omega)
    have D1 := Dz.two b h r1 r2
    have B1 := B.dz D1
    have HM1 := B1.1.1
    have i84 : ((h.rowI (b + 78) r1).rowI (b + 77) r2).I (b + 84) = h.I (b + 84) := by rw [rowI_Ib, if_neg (by omega), rowI_Ib, if_neg (by omega)]
    have i85 : ((h.rowI (b + 78) r1).rowI (b + 77) r2).I (b + 85) = h.I (b + 85) := by rw [rowI_Ib, if_neg (by omega), rowI_Ib, if_neg (by omega)]
    generalize hg : (h.rowI (b + 78) r1).rowI (b + 77) r2 = g at *
    have R1 : LQ τ tal md s0 H b k (Qr e t) g := R.fr i85
    have hst : StP τ tal md e t (lvN e t) (wV τ tal e t) := Or.inl ⟨hto, rfl, rfl⟩
    have up : ∀ s v, PS τ tal md s0 (Qr e (t + 1)) k s v ↔ PS τ tal md s0 (Qr e t) k s v ∨ (s = lvN e t ∧ ∃ v1, Pt τ tal md s0 k e v1 ∧ v = v1 + wV τ tal e t) := fun s v => PS_up hτ (fun s1 j q => by
      rcases q with a | ⟨a1, a2⟩
      · exact Or.inl a
      · exact Or.inr ⟨a1, by omega⟩) (fun s1 j s' w q1 q2 q3 => by
      rcases q3 with a | ⟨a1, a2⟩
      · exact Or.inl (Or.inl a)
      · by_cases ej : j = t
        · exact Or.inr ⟨a1, ej⟩
        · exact Or.inl (Or.inr ⟨a1, by omega⟩)) h0 (Or.inr ⟨rfl, by omega⟩) hst
    obtain ⟨f, e2, S2, f2⟩ := bet_ok (z := z) (h := g) HM1 hH (Y := PS τ tal md s0 (Qr e (t + 1)) k (lvN e t)) (w := wV τ tal e t) (m := m) hlv (fun v => (up _ v).trans ⟨fun q => by
      rcases q with q | ⟨-, q⟩
      · exact Or.inl q
      · exact Or.inr q, fun q => by
      rcases q with q | q
      · exact Or.inl q
      · exact Or.inr ⟨rfl, q⟩⟩) hm (by omega) (fun v q => PS_b hτ h0 q) (R1 _ hlv)
    have R2 := R1.put S2 f2 (fun s v hne => by
      rw [up s v]
      constructor
      · exact Or.inl
      · rintro (q | ⟨q, -⟩)
        · exact q
        · exact absurd q hne)
    have D2 := Dz.r85 b g f
    have j84 : (g.rowI (b + 85) f).I (b + 84) = g.I (b + 84) := by rw [rowI_Ib, if_neg (by omega)]
    obtain ⟨r, hh, g1, g2, g3, g4⟩ := ih (t + 1) i _ (by omega) (by omega) (B1.dz D2) ((L.fr i84).fr j84) R2 (by rw [j84, i84]; exact h84)
    refine ⟨r, hh, ?_, g2, g3, (D1.trans D2).trans g4⟩
    rw [f_X12_goesOn_50.eq_2, gR_ok (km_0 HM) (rm_1 HM), bS, show (2 : Int32) = nI 2 from rfl, lm_1 HM (by omega), bS, B.1.2.2.1, hA.2.1, if_neg (fun q => by have := (nI_leI (by omega) (by omega)).mp q; omega), over_ok B.1 he0, bS, if_pos q1, if_pos rfl, lv_ok he0 (by omega), bS, gR_ok (km_0 HM) (rm_27 HM), bS, lm_12 HM he0, bS, h84, gI_ok (km_0 HM), bS, B.2.1, e1, bS]
    dsimp only
    rw [iI_add, Int.add_assoc, e2, bS, bS, show nI t + 1 = nI (t + 1) from nI_add t 1]
    exact g1
theorem go_139 (hτ : TownOK τ) (h0 : SV τ s0) (hH : -300 ≤ H ∧ H ≤ 300) : ∀ (d j i : Nat) (h : Hp) (r : Int), j + d = 3430 → d < i → LayR z h.2.2 (b + 72) → LQ τ tal md s0 H b k (fun _ _ => True) h → (∀ s, s < j → SR (Pt τ tal md s0 (k + 1) s) H (b + 84) h s) → ((r = -268435456 ∧ ∀ s v, s < j → ¬ Pt τ tal md s0 (k + 1) s v) ∨ ∃ M, MXP (fun v => ∃ s, s < j ∧ Pt τ tal md s0 (k + 1) s v) M ∧ r = H + M) → GD b τ tal md s0 H k h (f_X12_goesOn_139 n z i h (b + 72) (iI r) (nI j)) := by
  have ptq : ∀ s v, PS τ tal md s0 (fun _ _ => True) k s v ↔ Pt τ tal md s0 (k + 1) s v := fun s v => ⟨PS_pt, fun ⟨s1, v1, j, w, q1, q2, q3⟩ => ⟨s1, v1, j, w, q1, trivial, q2, q3⟩⟩
  have h13 := rk_le hτ s0
  intro d
  induction d with
  | zero =>
    intro j i h r hj hi HM R L T
    obtain ⟨i, rfl⟩ : ∃ k, i = k + 1 := ⟨i - 1, by omega⟩
    obtain rfl : j = 3430 := by omega
    have hlt : ∀ s v, Pt τ tal md s0 (k + 1) s v → s < 3430 := fun s v q => (Pt_ok hτ h0 q).1.1
    refine ⟨r, h, ?_, ?_, L, Dz.refl b h⟩
    · rw [f_X12_goesOn_139.eq_2, if_pos (show (3430 : Int32) ≤ nI 3430 by decide)]
    · rcases T with ⟨t1, t2⟩ | ⟨M, t1, t2⟩
      · exact Or.inl ⟨t1, fun s v q => t2 s v (hlt s v q) q⟩
      · exact Or.inr ⟨M, t1.eq (fun v => ⟨fun ⟨s, _, q⟩ => ⟨s, q⟩, fun ⟨s, q⟩ => ⟨s, hlt s v q, q⟩⟩), t2⟩
  | succ d ih =>
    intro j i h r hj hi HM R L T
    obtain ⟨i, rfl⟩ : ∃ k, i = k + 1 := ⟨i - 1, by omega⟩
    have hj0 : j < 3430 := by omega
    have Rj : SR (Pt τ tal md s0 (k + 1) j) H (b + 85) h j := (R j hj0).eq (ptq j)
    generalize hg : h.setI (b + 84) j (h.I (b + 85) j) = g
    have i84 : g.I (b + 84) = upd (h.I (b + 84)) j (h.I (b + 85) j) := by rw [← hg, setI_I, if_pos rfl]
    have i85 : g.I (b + 85) = h.I (b + 85) := by rw [← hg, setI_I, if_neg (by omega)]
    have HMg : LayR z g.2.2 (b + 72) := by rw [← hg]; exact HM
    have D1 : Dz b h g := ⟨by rw [← hg]; rfl, fun a _ => by rw [← hg]; rfl, fun a ha => by rw [← hg, setI_I, if_neg (by omega)]⟩
    have e84 : g.I (b + 84) j = h.I (b + 85) j := by rw [i84]; exact if_pos rfl
    have L' : ∀ s, s < j + 1 → SR (Pt τ tal md s0 (k + 1) s) H (b + 84) g s := fun s hs => by
      by_cases e : s = j
      · rw [e]
        exact Rj.fr e84
      · exact (L s (by omega)).fr (by rw [i84]; exact if_neg e)
    have next : ∀ r', ((r' = -268435456 ∧ ∀ s v, s < j + 1 → ¬ Pt τ tal md s0 (k + 1) s v) ∨ ∃ M, MXP (fun v => ∃ s, s < j + 1 ∧ Pt τ tal md s0 (k + 1) s v) M ∧ r' = H + M) → GD b τ tal md s0 H k h (f_X12_goesOn_178 n z (f_X12_goesOn_139 n z i) g (b + 72) (nI j) (iI r')) := fun r' T' => by
      obtain ⟨x, hh, g1, g2, g3, g4⟩ := ih (j + 1) i g r' (by omega) (by omega) HMg (R.fr i85) L' T'
      refine ⟨x, hh, ?_, g2, g3, D1.trans g4⟩
      unfold f_X12_goesOn_178
      rw [bS, show nI j + 1 = nI (j + 1) from nI_add j 1]
      exact g1
    rw [f_X12_goesOn_139.eq_2, if_neg (show ¬ (3430 : Int32) ≤ nI j from fun q => by have := (nI_leI (a := 3430) (by omega) (by omega)).mp q; omega), gR_ok (km_0 HM) (rm_27 HM), bS, gR_ok (km_0 HM) (rm_28 HM), bS, lm_13 HM hj0, bS, sm_12 HM hj0, bS, hg, gR_ok (km_0 HMg) (rm_27 HMg), bS, lm_12 HMg hj0, bS, e84]
    have rb : r = -268435456 ∨ (-2000 ≤ r ∧ r ≤ 2000) := by
      rcases T with ⟨t1, -⟩ | ⟨M, t1, t2⟩
      · exact Or.inl t1
      · obtain ⟨⟨s, -, q⟩, -⟩ := t1
        obtain ⟨-, q2, q3, -⟩ := Pt_ok hτ h0 q
        exact Or.inr (by omega)
    rcases Rj with ⟨x1, x2⟩ | ⟨x, x1, x2⟩
    · rw [x1, if_pos ((iI_le (by omega) (by omega) (by omega) (by omega)).mpr (by omega))]
      refine next r ?_
      rcases T with ⟨t1, t2⟩ | ⟨M, t1, t2⟩
      · refine Or.inl ⟨t1, fun s v hs q => ?_⟩
        by_cases e : s = j
        · rw [e] at q; exact x2 v q
        · exact t2 s v (by omega) q
      · refine Or.inr ⟨M, t1.eq (fun v => ⟨fun ⟨s, q1, q⟩ => ⟨s, by omega, q⟩, fun ⟨s, q1, q⟩ => ?_⟩), t2⟩
        by_cases e : s = j
        · rw [e] at q; exact absurd q (x2 v)
        · exact ⟨s, by omega, q⟩
    · obtain ⟨-, q2, q3, -⟩ := Pt_ok hτ h0 x1.1
      rw [x2]
      by_cases cq : H + x ≤ r
      · rw [if_pos ((iI_le (by omega) (by omega) (by omega) (by omega)).mpr cq)]
        refine next r ?_
        rcases T with ⟨t1, t2⟩ | ⟨M, t1, t2⟩
        · omega
        · refine Or.inr ⟨M, ⟨?_, fun v' q => ?_⟩, t2⟩
          · obtain ⟨s, q1, q⟩ := t1.1
            exact ⟨s, by omega, q⟩
          · obtain ⟨s, q1, q⟩ := q
            by_cases e : s = j
            · rw [e] at q
              have := x1.2 v' q
              omega
            · exact t1.2 v' ⟨s, by omega, q⟩
      · rw [if_neg (fun q => by rw [iI_le (by omega) (by omega) (by omega) (by omega)] at q; omega), bS, lm_12 HMg hj0, bS, e84, x2]
        refine next (H + x) (Or.inr ⟨x, ⟨⟨j, by omega, x1.1⟩, fun v' q => ?_⟩, rfl⟩)
        obtain ⟨s, q1, q⟩ := q
        by_cases e : s = j
        · rw [e] at q
          exact x1.2 v' q
        · rcases T with ⟨t1, t2⟩ | ⟨M, t1, t2⟩
          · exact absurd q (t2 s v' (by omega))
          · have := t1.2 v' ⟨s, by omega, q⟩
            omega
theorem go_26 (hn : 400000 ≤ n) (hτ : TownOK τ) (h0 : SV τ s0) (hH : -300 ≤ H ∧ H ≤ 300) : ∀ (d e i : Nat) (h : Hp), e + d = 3430 → d < i → BR b z h τ P A tal md → LR τ tal md s0 H b k h → LQ τ tal md s0 H b k (Qr e 0) h → GD b τ tal md s0 H k h (f_X12_goesOn_26 n z i h (b + 72) (nI e)) := by
  have h13 := rk_le hτ s0
  intro d
  induction d with
  | zero =>
    intro e i h hj hi B L R
    obtain ⟨i, rfl⟩ : ∃ k, i = k + 1 := ⟨i - 1, by omega⟩
    obtain rfl : e = 3430 := by omega
    rw [f_X12_goesOn_26.eq_2, if_pos (show (3430 : Int32) ≤ nI 3430 by decide), iNG]
    refine go_139 hτ h0 hH 3430 0 n h _ (by omega) (by omega) B.1.1 (fun s hs => (R s hs).eq (fun v => PS_eq (fun s1 v1 j s' w q2 q3 => ⟨fun _ => trivial, fun _ => Or.inl (Pt_ok hτ h0 q2).1.1⟩))) (fun s hs => absurd hs (Nat.not_lt_zero s)) (Or.inl ⟨rfl, fun s v hs => absurd hs (Nat.not_lt_zero s)⟩)
  | succ d ih =>
    intro e i h hj hi B L R
    obtain ⟨i, rfl⟩ : ∃ k, i = k + 1 := ⟨i - 1, by omega⟩
    have HM := B.1.1
    have he : e < 3430 := by omega
    have o4 := opn4 hτ e
    rw [f_X12_goesOn_26.eq_2, if_neg (show ¬ (3430 : Int32) ≤ nI e from fun q => by have := (nI_leI (a := 3430) (by omega) (by omega)).mp q; omega), gR_ok (km_0 HM) (rm_27 HM), bS, lm_12 HM he, bS]
    rcases L e he with ⟨x1, x2⟩ | ⟨x, x1, x2⟩
    · rw [x1, if_pos (show iI (-268435456) = -268435456 by decide)]
      unfold f_X12_goesOn_127
      rw [bS, show nI e + 1 = nI (e + 1) from nI_add e 1]
      refine ih (e + 1) i h (by omega) (by omega) B L (fun s hs => (R s hs).eq (fun v => PS_eq (fun s1 v1 j s' w q2 q3 => ?_)))
      unfold Qr
      constructor
      · rintro (a | ⟨a1, a2⟩)
        · exact Or.inl (by omega)
        · omega
      · rintro (a | ⟨a1, a2⟩)
        · rcases Nat.lt_or_ge s1 e with q | q
          · exact Or.inl q
          · obtain rfl : s1 = e := by omega
            exact absurd q2 (x2 v1)
        · omega
    · obtain ⟨hs, q2, q3, -⟩ := Pt_ok hτ h0 x1.1
      rw [x2, if_neg (show ¬ iI (H + x) = -268435456 from fun q => by rw [iNG, iI_eq (by omega) (by omega) (by omega) (by omega)] at q; omega)]
      exact go_50 hn hτ h0 hH hs x1 (fun h' B' L' R' => ih (e + 1) i h' (by omega) (by omega) B' L' R') (opn τ e) 0 n h (by omega) (by omega) B L R x2
theorem go_2 (hn : 400000 ≤ n) (hτ : TownOK τ) (h0 : SV τ s0) (hH : -300 ≤ H ∧ H ≤ 300) : ∀ (d e i : Nat) (h : Hp), e + d = 3430 → d < i → BR b z h τ P A tal md → LR τ tal md s0 H b k h → (∀ s, s < e → h.I (b + 85) s = iI (-268435456)) → GD b τ tal md s0 H k h (f_X12_goesOn_2 n z i h (b + 72) (nI e)) := by
  intro d
  induction d with
  | zero =>
    intro e i h hj hi B L R
    obtain ⟨i, rfl⟩ : ∃ k, i = k + 1 := ⟨i - 1, by omega⟩
    obtain rfl : e = 3430 := by omega
    rw [f_X12_goesOn_2.eq_2, if_pos (show (3430 : Int32) ≤ nI 3430 by decide)]
    refine go_26 hn hτ h0 hH 3430 0 n h (by omega) (by omega) B L (fun s hs => Or.inl ⟨R s hs, ?_⟩)
    rintro v ⟨s1, v1, j, w, q1, q2, q3, q4⟩
    rcases q2 with a | ⟨a1, a2⟩ <;> omega
  | succ d ih =>
    intro e i h hj hi B L R
    obtain ⟨i, rfl⟩ : ∃ k, i = k + 1 := ⟨i - 1, by omega⟩
    have HM := B.1.1
    have he : e < 3430 := by omega
    have D1 : Dz b h (h.setI (b + 85) e (iI (-268435456))) := ⟨rfl, fun a _ => rfl, fun a ha => by rw [setI_I, if_neg (by omega)]⟩
    obtain ⟨r, hh, g1, g2, g3, g4⟩ := ih (e + 1) i (h.setI (b + 85) e (iI (-268435456))) (by omega) (by omega) (B.dz D1) (L.fr (by rw [setI_I, if_neg (by omega)])) (fun s hs => by
      rw [setI_I, if_pos rfl]
      by_cases q : s = e
      · exact if_pos q
      · exact (if_neg q).trans (R s (by omega)))
    refine ⟨r, hh, ?_, g2, g3, D1.trans g4⟩
    rw [f_X12_goesOn_2.eq_2, if_neg (show ¬ (3430 : Int32) ≤ nI e from fun q => by have := (nI_leI (a := 3430) (by omega) (by omega)).mp q; omega), gR_ok (km_0 HM) (rm_28 HM), bS, iNG, sm_13 HM he, bS, bS, show nI e + 1 = nI (e + 1) from nI_add e 1]
    exact g1
theorem Pt_stop {τ : TT} (hno : ∀ s v, ¬ Pt τ tal md s0 k s v) : ∀ (d : Nat) s v, ¬ Pt τ tal md s0 (k + d) s v := by
  intro d
  induction d with
  | zero => exact hno
  | succ d ih =>
    rintro s v ⟨s1, v1, j, w, q1, -⟩
    exact ih s1 v1 q1
theorem so_80 (hn : 400000 ≤ n) (hτ : TownOK τ) (h0 : SV τ s0) (hH : -300 ≤ H ∧ H ≤ 300) {v2 : Int32} : ∀ (d k i : Nat) (h : Hp) (r : Int), k + d = 14 → d < i → BR b z h τ P A tal md → LR τ tal md s0 H b k h → TR τ tal md s0 H k r → (∀ k' s v, k' < k → Pt τ tal md s0 k' s v → v < v2.toInt - H) → ∃ a hh, f_X12_soonest_80 n z i h (b + 72) v2 (iI r) (nI k) = some (iI a, hh) ∧ Sn τ tal md s0 (v2.toInt - H) a ∧ Dz b h hh := by
  have h13 := rk_le hτ s0
  intro d
  induction d with
  | zero =>
    intro k i h r hj hi B L T hk
    obtain ⟨i, rfl⟩ : ∃ k, i = k + 1 := ⟨i - 1, by omega⟩
    rcases T with ⟨rfl, t2⟩ | ⟨M, t1, t2⟩
    · refine ⟨-1, h, ?_, Or.inl ⟨rfl, fun k' s v q => ?_⟩, Dz.refl b h⟩
      · rw [f_X12_soonest_80.eq_2, if_pos (show iI (-268435456) = -268435456 by decide)]
        rfl
      · rcases Nat.lt_or_ge k' k with q1 | q1
        · exact hk k' s v q1 q
        · have := Pt_stop t2 (k' - k) s v
          rw [show k + (k' - k) = k' by omega] at this
          exact absurd q this
    · obtain ⟨⟨s, q⟩, -⟩ := t1
      have := (Pt_ok hτ h0 q).2.1
      omega
  | succ d ih =>
    intro k i h r hj hi B L T hk
    obtain ⟨i, rfl⟩ : ∃ k, i = k + 1 := ⟨i - 1, by omega⟩
    rcases T with ⟨rfl, t2⟩ | ⟨M, t1, rfl⟩
    · refine ⟨-1, h, ?_, Or.inl ⟨rfl, fun k' s v q => ?_⟩, Dz.refl b h⟩
      · rw [f_X12_soonest_80.eq_2, if_pos (show iI (-268435456) = -268435456 by decide)]
        rfl
      · rcases Nat.lt_or_ge k' k with q1 | q1
        · exact hk k' s v q1 q
        · have := Pt_stop t2 (k' - k) s v
          rw [show k + (k' - k) = k' by omega] at this
          exact absurd q this
    · obtain ⟨⟨s, q⟩, t3⟩ := id t1
      obtain ⟨-, q2, q3, -⟩ := Pt_ok hτ h0 q
      rw [f_X12_soonest_80.eq_2, if_neg (show ¬ iI (H + M) = -268435456 from fun q => by rw [iNG, iI_eq (by omega) (by omega) (by omega) (by omega)] at q; omega)]
      by_cases cq : H + M < v2.toInt
      · obtain ⟨r', h1, g1, g2, g3, g4⟩ := go_2 (n := n) (z := z) (P := P) (A := A) hn hτ h0 hH 3430 0 n h (by omega) (by omega) B L (fun s hs => absurd hs (Nat.not_lt_zero s))
        obtain ⟨a, hh, f1, f2, f3⟩ := ih (k + 1) i h1 r' (by omega) (by omega) (B.dz g4) g3 g2 (fun k' s' v' hk' q' => by
          rcases Nat.lt_or_ge k' k with q1 | q1
          · exact hk k' s' v' q1 q'
          · obtain rfl : k' = k := by omega
            have := t3 v' ⟨s', q'⟩
            omega)
        refine ⟨a, hh, ?_, f2, g4.trans f3⟩
        have eg : f_X12_goesOn n z h (b + 72) = some (iI r', h1) := by
          unfold f_X12_goesOn
          rw [if_pos (km_0 B.1.1)]
          exact g1
        rw [if_pos (show iI (H + M) < v2 by rw [Int32.lt_iff_toInt_lt, iI_to (by omega) (by omega)]; exact cq), eg, bS]
        dsimp only
        rw [bS, show nI k + 1 = nI (k + 1) from nI_add k 1]
        exact f1
      · refine ⟨k, h, ?_, Or.inr ⟨k, rfl, ⟨s, M, q, by omega⟩, hk⟩, Dz.refl b h⟩
        rw [if_neg (show ¬ iI (H + M) < v2 from fun q => by rw [Int32.lt_iff_toInt_lt, iI_to (by omega) (by omega)] at q; exact cq q), nI_iI]
theorem so_24 (hn : 400000 ≤ n) (hτ : TownOK τ) {p : Nat} (hp : p < P) (h0 : SV τ (aS A p)) (hH : -300 ≤ H ∧ H ≤ 300) (hA30 : A (30 + p) = iI H) {v2 : Int32} : ∀ (d e i : Nat) (h : Hp), e + d = 3430 → d < i → BR b z h τ P A tal md → (∀ s, s < e → h.I (b + 84) s = if s = aS A p then iI H else iI (-268435456)) → ∃ a hh, f_X12_soonest_24 n z i h (b + 72) (nI p) v2 (nI e) = some (iI a, hh) ∧ Sn τ tal md (aS A p) (v2.toInt - H) a ∧ Dz b h hh := by
  intro d
  induction d with
  | zero =>
    intro e i h hj hi B R
    obtain ⟨i, rfl⟩ : ∃ k, i = k + 1 := ⟨i - 1, by omega⟩
    obtain rfl : e = 3430 := by omega
    have HM := B.1.1
    have hP := B.1.2.2.2.2.2.1
    rw [f_X12_soonest_24.eq_2, if_pos (show (3430 : Int32) ≤ nI 3430 by decide), gR_ok (km_0 HM) (rm_1 HM), bS, show (30 : Int32) + nI p = nI (30 + p) from nI_add 30 p, lm_1 HM (by omega), bS, B.1.2.2.1, hA30]
    refine so_80 hn hτ h0 hH 14 0 n h H (by omega) (by omega) B (fun s hs => ?_) (Or.inr ⟨0, ⟨⟨aS A p, rfl, rfl⟩, fun v' q => ?_⟩, by omega⟩) (fun k' s v hk' => absurd hk' (Nat.not_lt_zero k'))
    · have := R s hs
      by_cases q : s = aS A p
      · rw [if_pos q] at this
        refine Or.inr ⟨0, ⟨⟨q, rfl⟩, fun v' q' => by have := q'.2; omega⟩, by rw [Int.add_zero]; exact this⟩
      · rw [if_neg q] at this
        exact Or.inl ⟨this, fun v' q' => q q'.1⟩
    · obtain ⟨s, q1, q2⟩ := q
      omega
  | succ d ih =>
    intro e i h hj hi B R
    obtain ⟨i, rfl⟩ : ∃ k, i = k + 1 := ⟨i - 1, by omega⟩
    have HM := B.1.1
    have hP := B.1.2.2.2.2.2.1
    have he : e < 3430 := by omega
    have ha := h0.1
    have next : ∀ x : Int32, x = (if e = aS A p then iI H else iI (-268435456)) → ∃ a hh, f_X12_soonest_60 n z (f_X12_soonest_24 n z i) h (b + 72) (nI p) v2 (nI e) x (nI e) (b + 84) = some (iI a, hh) ∧ Sn τ tal md (aS A p) (v2.toInt - H) a ∧ Dz b h hh := fun x hx => by
      have D1 : Dz b h (h.setI (b + 84) e x) := ⟨rfl, fun a _ => rfl, fun a ha => by rw [setI_I, if_neg (by omega)]⟩
      obtain ⟨a, hh, f1, f2, f3⟩ := ih (e + 1) i (h.setI (b + 84) e x) (by omega) (by omega) (B.dz D1) (fun s hs => by
        rw [setI_I, if_pos rfl]
        by_cases q : s = e
        · rw [q, ← hx]; exact if_pos rfl
        · exact (if_neg q).trans (R s (by omega)))
      refine ⟨a, hh, ?_, f2, D1.trans f3⟩
      unfold f_X12_soonest_60
      rw [sm_12 HM he, bS, bS, show nI e + 1 = nI (e + 1) from nI_add e 1]
      exact f1
    rw [f_X12_soonest_24.eq_2, if_neg (show ¬ (3430 : Int32) ≤ nI e from fun q => by have := (nI_leI (a := 3430) (by omega) (by omega)).mp q; omega), gR_ok (km_0 HM) (rm_27 HM), bS, now_ok B.1 hp, bS]
    by_cases q : e = aS A p
    · rw [if_pos (by rw [q]), gR_ok (km_0 HM) (rm_1 HM), bS, show (30 : Int32) + nI p = nI (30 + p) from nI_add 30 p, lm_1 HM (by omega), bS, B.1.2.2.1, hA30]
      exact next _ (by rw [if_pos q])
    · rw [if_neg (fun q2 => q ((nI_inj (by omega) (by omega)).mp q2)), iNG]
      exact next _ (by rw [if_neg q])
end
section
variable {n : Nat} {z0 : Sh} {h0 : Hp} {b c : Nat} {z : Sh} {h : Hp}
theorem sub64 (a d : Int32) : (Int32.toInt64 a - Int32.toInt64 d).toInt = a.toInt - d.toInt := by
  have h1 := a.toInt_lt
  have h2 := a.le_toInt
  have h3 := d.toInt_lt
  have h4 := d.le_toInt
  have e : ∀ x : Int32, Int32.toInt64 x = lI x.toInt := fun x => by
    rw [← Int64.toInt_inj, to64]
    have h1 := x.toInt_lt
    have h2 := x.le_toInt
    rw [lI_to (by omega) (by omega)]
  rw [e a, e d, lI_sub, lI_to (by omega) (by omega)]
theorem soonest_ok (I : Inv z0 h0 b c z h) (hn : 400000 ≤ n) (hc : c < 600) (p v : Int32) : ∃ r h1 z1 h2, f_X11_soonest n z h b p v = some (r, h1, z1) ∧ f_X12_soonest n z1 h1 (b + 72) p v = some (r, h2) ∧ Inv z0 h0 b (c + 1) z1 h2 := by
  obtain ⟨t, τ, P, nx, sz, D⟩ := I.now
  obtain ⟨HX, HRef, hR3, hT, hT5, HA, -, -⟩ := id D
  obtain ⟨HM, hτ, -, hA, h3, h6, hp6⟩ := id HRef
  have km := km_0 HM
  have H0 := s72_r (b := b) HRef 0
  by_cases cp : 0 ≤ p.toInt ∧ p.toInt < P
  · obtain ⟨j, hj, rfl⟩ := nI_ex (P := P) cp
    obtain ⟨g, st, ts, e1, W, E, es⟩ := wab_ok (n := n) hn I hc D hj
    obtain ⟨-, hs, -⟩ := Per_st hτ (hp6 j hj)
    have HXg := W.1.1
    generalize hA73 : h.I (b + 73) = A at *
    obtain ⟨-, hs, -, -, -, -, -, -, -, -, -, -, -, -, -, -, -, -, -, hb30⟩ := Per_st hτ (hp6 j hj)
    generalize hH : (A (30 + j)).toInt = H at *
    have eH : A (30 + j) = iI H := by rw [← Int32.toInt_inj, iI_to (by omega) (by omega)]; exact hH
    obtain ⟨r, z1, h1, e2, S1, W1, E1⟩ := ff_ok (n := n) (s0 := aS A j) (W := v.toInt - H) (v1 := Int32.toInt64 v - Int32.toInt64 (A (30 + j))) hn W hs es (by rw [sub64, hH])
    obtain ⟨I1, H1⟩ := ways_end I D W1 (E.trans E1)
    rw [hA73] at H1
    have H2 := s72_r (b := b) H1 0
    obtain ⟨k1, r1, C, B, k0, -⟩ := bg_ok (n := n) hn H2 hj
    obtain ⟨a, k2, r2, S2, L⟩ := so_24 (n := n) (z := z1) (b := b) (P := P) (A := A) (v2 := v) hn hτ hj hs hb30 eH 3430 0 n k1 (by omega) (by omega) B (fun s hs => absurd hs (Nat.not_lt_zero s))
    obtain rfl := Sn_uniq S1 S2
    refine ⟨iI a, h1, z1, k2, ?_, ?_, ((ref_sc I1 0).sc C.sc).sc L.sc⟩
    · unfold f_X11_soonest
      rw [if_pos (kx_0 HX)]
      refine gd3_ok ?_ E1.1
      have e11 : g.I (b + 12) = h.I (b + 12) := E.2.2.2.1 _ (by have := I.2.2.2.2.2.2.2.2.1; omega) (by omega) (by omega) (by omega) (by omega) (by omega) (by omega) (by omega)
      have ep : f_X5_part z g (b + 11) (nI j) 2 = some (A (30 + j)) := (part_ok (now_PL HXg) (show j < 6 by omega) (show 2 < 9 by omega)).trans (by rw [e11, (PX_P HA.1 hj).2.2.1])
      rw [gR_ok (kx_0 HX) (rx_0_4 HX), bS, has_ok (now_PL HX) HA.1.1 h6, bS, if_pos cp, if_neg (show ¬ (1 : Int32) = 0 by decide), gR_ok (kx_0 HX) (rx_0_12 HX), bS, gR_ok (kx_0 HX) hR3, bS, bS, e1, bS, gR_ok (kx_0 HX) (rx_0_13 HXg), bS, gR_ok (kx_0 HX) (rx_0_4 HXg), bS, ep, bS, e2, bS]
      exact gd3_ok rfl ⟨Nat.le_refl _, Nat.le_refl _⟩
    · unfold f_X12_soonest
      rw [if_pos (km_0 H1.1), pI_ok (km_0 H1.1), bS, w_isp H2 hj, bS, if_neg (show ¬ (1 : Int32) = 0 by decide), r1, bS]
      exact r2
  · refine ⟨-99000002, h, z, h.setI (b + 72) 0 0, ?_, ?_, (ref_sc I 0).up⟩
    · unfold f_X11_soonest
      rw [if_pos (kx_0 HX)]
      refine gd3_ok ?_ ⟨Nat.le_refl _, Nat.le_refl _⟩
      rw [gR_ok (kx_0 HX) (rx_0_4 HX), bS, has_ok (now_PL HX) HA.1.1 h6, bS, if_neg cp, if_pos rfl]
      rfl
    · unfold f_X12_soonest
      rw [if_pos km, pI_ok km, bS, isP_ok H0, bS, to64, if_neg cp, if_pos rfl]
end
