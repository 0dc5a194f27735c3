/-! ===== town, 19: people settle; the reference takes the row over ===== -/
def spP (tal fe : Nat → Nat) (p w : Nat) : Int32 := if w = 1 then 1 else if w = 3 then 9 else if w = 6 then nI (tal p) else if w = 7 then nI (fe p) else 0
section
variable {n b : Nat} {z : Sh} {h : Hp}
theorem talO {t p : Nat} (k0 : z.K t = 8) (k1 : z.K (t + 1) = 14) (n1 : z.N (t + 1) = 6) (r1 : h.R t 6 = some (t + 1)) (hp : p < 6) : f_X8_talentOf z h t (nI p) = some (h.I (t + 1) p) := by
  unfold f_X8_talentOf
  rw [if_pos k0, if_neg (nI_pos (by omega)), gR_ok k0 r1, bS, aL_ok k1 rfl n1, bS, if_neg (fun q => by
    have := (nI_leI (by decide) (by omega)).mp q
    omega), bS, ldI_ok k1 n1 rfl hp (by decide), bS]
theorem feO {t p : Nat} (k0 : z.K t = 8) (k1 : z.K (t + 2) = 14) (n1 : z.N (t + 2) = 6) (r1 : h.R t 7 = some (t + 2)) (hp : p < 6) : f_X8_fearOf z h t (nI p) = some (h.I (t + 2) p) := by
  unfold f_X8_fearOf
  rw [if_pos k0, if_neg (nI_pos (by omega)), gR_ok k0 r1, bS, aL_ok k1 rfl n1, bS, if_neg (fun q => by
    have := (nI_leI (by decide) (by omega)).mp q
    omega), bS, ldI_ok k1 n1 rfl hp (by decide), bS]
theorem set_lp {q r t P : Nat} {tal fe : Nat → Nat} (H : PL z h.2.2 q r) (hP6 : P ≤ 6) (k0 : z.K t = 8) (k1 : z.K (t + 1) = 14) (n1 : z.N (t + 1) = 6) (k2 : z.K (t + 2) = 14) (n2 : z.N (t + 2) = 6) (r1 : h.R t 6 = some (t + 1)) (r2 : h.R t 7 = some (t + 2)) (hq : h.I q 1 = nI P) (d1 : t + 1 ≠ r) (d2 : t + 2 ≠ r) (hv : ∀ p, p < P → h.I (t + 1) p = nI (tal p) ∧ h.I (t + 2) p = nI (fe p)) : ∀ d j i (f : Nat → Int32), j + d = P → d < i → (∀ p, p < j → ∀ w, w < 9 → f (9 * p + w) = spP tal fe p w) → (∀ k, 9 * j ≤ k → k < 54 → f k = 0) → ∃ f', f_X5_settle_26 n z i (h.rowI r f) q t (nI j) = some (h.rowI r f') ∧ ∀ p, p < P → ∀ w, w < 9 → f' (9 * p + w) = spP tal fe p w := by
  have Hf : ∀ f, PL z (h.rowI r f).2.2 q r := fun f => H
  have eq : ∀ f, (h.rowI r f).I q = h.I q := fun f => rowI_ne h f H.2.2.2.2
  have e1 : ∀ f, (h.rowI r f).I (t + 1) = h.I (t + 1) := fun f => rowI_ne h f d1
  have e2 : ∀ f, (h.rowI r f).I (t + 2) = h.I (t + 2) := fun f => rowI_ne h f d2
  intro d
  induction d with
  | zero =>
    intro j i f hj hi h1 h2
    obtain ⟨i, rfl⟩ : ∃ k, i = k + 1 := ⟨i - 1, by omega⟩
    obtain rfl : j = P := by omega
    refine ⟨f, ?_, h1⟩
    rw [f_X5_settle_26.eq_2, gI_ok H.1, bS, eq, hq, if_pos ((nI_leI (by omega) (by omega)).mpr (Nat.le_refl _))]
  | succ d ih =>
    intro j i f hj hi h1 h2
    obtain ⟨i, rfl⟩ : ∃ k, i = k + 1 := ⟨i - 1, by omega⟩
    have vj := hv j (by omega)
    have hj6 : j < 6 := by omega
    have A1 : ∀ p, p < j + 1 → ∀ w, w < 9 → (upd (upd (upd (upd f (9 * j + 1) 1) (9 * j + 3) 9) (9 * j + 6) (nI (tal j))) (9 * j + 7) (nI (fe j))) (9 * p + w) = spP tal fe p w := by
      intro p hp w hw
      unfold upd
      by_cases pj : p = j
      · subst pj
        unfold spP
        by_cases w7 : w = 7
        · subst w7
          rw [if_pos rfl, if_neg (by decide), if_neg (by decide), if_neg (by decide), if_pos rfl]
        · rw [if_neg (by omega)]
          by_cases w6 : w = 6
          · subst w6
            rw [if_pos rfl, if_neg (by decide), if_neg (by decide), if_pos rfl]
          · rw [if_neg (by omega)]
            by_cases w3 : w = 3
            · subst w3
              rw [if_pos rfl, if_neg (by decide), if_pos rfl]
            · rw [if_neg (by omega)]
              by_cases w1 : w = 1
              · subst w1
                rw [if_pos rfl, if_pos rfl]
              · rw [if_neg (by omega), if_neg w1, if_neg w3, if_neg w6, if_neg w7]
                exact h2 _ (by omega) (by omega)
      · rw [if_neg (by omega), if_neg (by omega), if_neg (by omega), if_neg (by omega)]
        exact h1 p (by omega) w hw
    have A2 : ∀ k, 9 * (j + 1) ≤ k → k < 54 → (upd (upd (upd (upd f (9 * j + 1) 1) (9 * j + 3) 9) (9 * j + 6) (nI (tal j))) (9 * j + 7) (nI (fe j))) k = 0 := by
      intro k g1 g2
      unfold upd
      rw [if_neg (by omega), if_neg (by omega), if_neg (by omega), if_neg (by omega)]
      exact h2 k (by omega) g2
    obtain ⟨f', a1, a2⟩ := ih (j + 1) i (upd (upd (upd (upd f (9 * j + 1) 1) (9 * j + 3) 9) (9 * j + 6) (nI (tal j))) (9 * j + 7) (nI (fe j))) (by omega) (by omega) A1 A2
    refine ⟨f', ?_, a2⟩
    have pu : ∀ {w : Nat} {g : Nat → Int32} {x : Int32}, w < 9 → f_X5_put z (h.rowI r g) q (nI j) (nI w) x = some (h.rowI r (upd g (9 * j + w) x)) := fun {w g x} hw => by rw [put_ok (Hf g) hj6 hw, rowI_setI]
    rw [f_X5_settle_26.eq_2, gI_ok H.1, bS, eq, hq, if_neg (fun q => by
      have := (nI_leI (by omega) (by omega)).mp q
      omega)]
    rw [show f_X5_put z (h.rowI r f) q (nI j) 1 1 = _ from pu (w := 1) (by decide), bS]
    rw [show f_X5_put z (h.rowI r (upd f (9 * j + 1) 1)) q (nI j) 3 9 = _ from pu (w := 3) (by decide), bS]
    rw [talO k0 k1 n1 (by rw [rowI_R]; exact r1) hj6, bS, e1, vj.1]
    rw [show f_X5_put z (h.rowI r (upd (upd f (9 * j + 1) 1) (9 * j + 3) 9)) q (nI j) 6 (nI (tal j)) = _ from pu (w := 6) (by decide), bS]
    rw [feO k0 k2 n2 (by rw [rowI_R]; exact r2) hj6, bS, e2, vj.2]
    rw [show f_X5_put z (h.rowI r (upd (upd (upd f (9 * j + 1) 1) (9 * j + 3) 9) (9 * j + 6) (nI (tal j)))) q (nI j) 7 (nI (fe j)) = _ from pu (w := 7) (by decide), bS, bS, nI_1]
    exact a1
theorem set_ok {q r t P ca : Nat} {tal fe : Nat → Nat} (hn : 400000 ≤ n) (H : PL z h.2.2 q r) (hP6 : P ≤ 6) (k0 : z.K t = 8) (k1 : z.K (t + 1) = 14) (n1 : z.N (t + 1) = 6) (k2 : z.K (t + 2) = 14) (n2 : z.N (t + 2) = 6) (r1 : h.R t 6 = some (t + 1)) (r2 : h.R t 7 = some (t + 2)) (i2 : h.I t 2 = nI P) (i3 : h.I t 3 = nI ca) (d0 : t ≠ r ∧ t ≠ q) (d1 : t + 1 ≠ r ∧ t + 1 ≠ q) (d2 : t + 2 ≠ r ∧ t + 2 ≠ q) (hv : ∀ p, p < P → h.I (t + 1) p = nI (tal p) ∧ h.I (t + 2) p = nI (fe p)) : ∃ h', f_X5_settle n z h q t = some h' ∧ (∀ a, h'.R a = h.R a) ∧ (∀ a, h'.J a = h.J a) ∧ (∀ a, a ≠ q → a ≠ r → h'.I a = h.I a) ∧ h'.I q 1 = nI P ∧ h'.I q 2 = nI ca ∧ ∀ p, p < P → ∀ w, w < 9 → h'.I r (9 * p + w) = spP tal fe p w := by
  obtain ⟨q1, q2, q3, q4, q5⟩ := H
  have q2 : h.R q 0 = some r := q2
  obtain ⟨g, hg⟩ : ∃ g : Hp, g = ((h.rowI r (flI (h.I r) 0 54)).setI q 1 (nI P)).setI q 2 (nI ca) := ⟨_, rfl⟩
  have gI : ∀ a, a ≠ q → a ≠ r → g.I a = h.I a := fun a a1 a2 => by rw [hg, sI_o a1, sI_o a1, rowI_ne _ _ a2]
  have gr : g.I r = flI (h.I r) 0 54 := by rw [hg, sI_o q5.symm, sI_o q5.symm, rowI_I]
  have gR : ∀ a, g.R a = h.R a := fun a => by rw [hg]; rfl
  obtain ⟨f', a1, a2⟩ := set_lp (n := n) (z := z) (h := g) (q := q) (r := r) (t := t) (P := P) (tal := tal) (fe := fe) ⟨q1, by show g.R q 0 = some r; rw [gR]; exact q2, q3, q4, q5⟩ hP6 k0 k1 n1 k2 n2 (by rw [gR]; exact r1) (by rw [gR]; exact r2) (by rw [hg, sI_ne (by decide), sI_eq]) d1.1 d2.1 (fun p hp => by rw [gI _ d1.2 d1.1, gI _ d2.2 d2.1]; exact hv p hp) P 0 n (g.I r) (by omega) (by omega) (fun p hp => absurd hp (Nat.not_lt_zero p)) (fun k _ hk => by rw [gr]; exact if_pos hk)
  rw [rowI_self] at a1
  refine ⟨g.rowI r f', ?_, fun a => (rowI_R _ _ _ _).trans (gR a), fun a => by rw [rowI_J, hg]; rfl, fun a b1 b2 => (rowI_ne _ _ b2).trans (gI a b1 b2), by rw [rowI_ne _ _ q5, hg, sI_ne (by decide), sI_eq], by rw [rowI_ne _ _ q5, hg, sI_eq], fun p hp w hw => by rw [rowI_I]; exact a2 p hp w hw⟩
  unfold f_X5_settle
  rw [if_pos q1, gR_ok q1 q2, bS, fillI_ok q3 q4 (by omega) (by decide), bS, gI_ok k0, bS, rowI_ne _ _ d0.1, i2, pI_ok q1, bS, gI_ok k0, bS, sI_o d0.2, rowI_ne _ _ d0.1, i3, pI_ok q1, bS, ← hg]
  exact a1
theorem t187 (HM : LayR z h.2.2 (b + 72)) : ∀ d j i, j + d = 1458 → d < i → f_X12_town_187 n z i (h.rowI (b + 73) (fun k => if k < j then h.I (b + 76) k else h.I (b + 73) k)) (b + 72) (nI j) = some (h.I (b + 76) 0, h.rowI (b + 73) (fun k => if k < 1458 then h.I (b + 76) k else h.I (b + 73) k)) := by
  have HM1 : ∀ f, LayR z (h.rowI (b + 73) f).2.2 (b + 72) := fun f => HM
  intro d
  induction d with
  | zero =>
    intro j i hj hi
    obtain ⟨i, rfl⟩ : ∃ k, i = k + 1 := ⟨i - 1, by omega⟩
    obtain rfl : j = 1458 := by omega
    rw [f_X12_town_187.eq_2, if_pos (show (1458 : Int32) ≤ nI 1458 by decide), gR_ok (km_0 HM) (rm_1 (HM1 (fun k => if k < 1458 then h.I (b + 76) k else h.I (b + 73) k))), bS, show ldI z (h.rowI (b + 73) (fun k => if k < 1458 then h.I (b + 76) k else h.I (b + 73) k)) (b + 73) 0 = _ from lm_1 (j := 0) (HM1 (fun k => if k < 1458 then h.I (b + 76) k else h.I (b + 73) k)) (by decide), bS, rowI_I]
    rfl
  | succ d ih =>
    intro j i hj hi
    obtain ⟨i, rfl⟩ : ∃ k, i = k + 1 := ⟨i - 1, by omega⟩
    rw [f_X12_town_187.eq_2, if_neg (show ¬ ((1458 : Int32) ≤ nI j) from fun q => by
      have := (nI_leI (a := 1458) (by decide) (by omega)).mp q
      omega), gR_ok (km_0 HM) (rm_1 (HM1 (fun k => if k < j then h.I (b + 76) k else h.I (b + 73) k))), bS, gR_ok (km_0 HM) (rm_4 (HM1 (fun k => if k < j then h.I (b + 76) k else h.I (b + 73) k))), bS, lm_4 (HM1 (fun k => if k < j then h.I (b + 76) k else h.I (b + 73) k)) (by omega), bS, rowI_ne _ _ (show b + 76 ≠ b + 73 by omega), sm_1 (HM1 (fun k => if k < j then h.I (b + 76) k else h.I (b + 73) k)) (by omega), bS, bS, nI_1, rowI_setI]
    rw [show upd (fun k => if k < j then h.I (b + 76) k else h.I (b + 73) k) j (h.I (b + 76) j) = (fun k => if k < j + 1 then h.I (b + 76) k else h.I (b + 73) k) from by
      funext k
      unfold upd
      by_cases q : k = j
      · rw [if_pos q, if_pos (by omega), q]
      · rw [if_neg q]
        dsimp only
        by_cases q2 : k < j
        · rw [if_pos q2, if_pos (by omega)]
        · rw [if_neg q2, if_neg (by omega)]]
    exact ih (j + 1) i (by omega) (by omega)
theorem t143_t (hn : 400000 ≤ n) (HM : LayR z h.2.2 (b + 72)) (h0 : h.I (b + 72) 11 = nI 0) : ∃ g', f_X12_town_143 n z h (b + 72) = some (h.I (b + 76) 0, g') ∧ (∀ a, g'.R a = h.R a) ∧ (∀ a, g'.J a = h.J a) ∧ (∀ a, a ≠ b + 72 → a ≠ b + 73 → g'.I a = h.I a) ∧ (∀ k, k ≠ 13 → k ≠ 14 → g'.I (b + 72) k = h.I (b + 72) k) ∧ g'.I (b + 72) 13 = nI 0 ∧ g'.I (b + 72) 14 = -1 ∧ ∀ k, g'.I (b + 73) k = if k < 1458 then h.I (b + 76) k else h.I (b + 73) k := by
  obtain ⟨g, hg⟩ : ∃ g : Hp, g = (h.setI (b + 72) 13 (nI 0)).setI (b + 72) 14 (-1) := ⟨_, rfl⟩
  have K := km_0 HM
  have gI : ∀ a, a ≠ b + 72 → g.I a = h.I a := fun a q => by rw [hg, sI_o q, sI_o q]
  have g11 : (h.setI (b + 72) 13 (nI 0)).I (b + 72) 11 = nI 0 := (sI_ne (by decide)).trans h0
  have g11' : g.I (b + 72) 11 = nI 0 := by rw [hg]; exact (sI_ne (by decide)).trans g11
  have HG : LayR z g.2.2 (b + 72) := by rw [hg]; exact HM
  have q := t187 (n := n) HG 1458 0 n rfl (by omega)
  have e0 : (fun k => if k < 0 then g.I (b + 76) k else g.I (b + 73) k) = g.I (b + 73) := by
    funext k
    exact if_neg (Nat.not_lt_zero k)
  rw [e0, rowI_self, gI _ (by omega), gI _ (by omega)] at q
  refine ⟨g.rowI (b + 73) (fun k => if k < 1458 then h.I (b + 76) k else h.I (b + 73) k), ?_, fun a => ?_, fun a => ?_, fun a b1 b2 => ?_, fun k b1 b2 => ?_, ?_, ?_, fun k => ?_⟩
  · unfold f_X12_town_143 f_X12_town_167
    rw [gI_ok K, bS, h0, pI_ok K, bS, gI_ok K, bS, g11, if_pos (show nI 0 = 0 from rfl), pI_ok K, bS, ← hg, gI_ok K, bS, g11', if_pos (show nI 0 = 0 from rfl)]
    exact q
  · rw [rowI_R, hg]
    rfl
  · rw [rowI_J, hg]
    rfl
  · rw [rowI_ne _ _ b2, gI a b1]
  · rw [rowI_ne _ _ (show b + 72 ≠ b + 73 by omega), hg, sI_ne b2, sI_ne b1]
  · rw [rowI_ne _ _ (show b + 72 ≠ b + 73 by omega), hg, sI_ne (by decide), sI_eq]
  · rw [rowI_ne _ _ (show b + 72 ≠ b + 73 by omega), hg, sI_eq]
  · rw [rowI_I]
/-- what plain leaves, place by place -/
theorem plR_ok (f : Nat → Int32) {k : Nat} (hk : k < 1458) : plainRow f k = plR k := by
  unfold plainRow pl plR plV
  by_cases q1 : 24 ≤ k ∧ k < 30
  · rw [if_pos (by omega), if_neg (by omega), if_pos q1]
  · rw [if_neg (by omega)]
    by_cases q2 : 36 ≤ k ∧ k < 42
    · rw [if_pos (by omega), if_neg (by omega), if_neg q1, if_pos q2]
    · rw [if_neg (by omega)]
      unfold upd zr
      by_cases q3 : k = 2
      · rw [if_pos q3, if_pos (Or.inr q3)]
      · rw [if_neg q3]
        by_cases q4 : k = 1
        · rw [if_pos q4, if_pos (Or.inl q4)]
        · rw [if_neg q4, if_pos hk, if_neg (by omega), if_neg q1, if_neg q2]
end
