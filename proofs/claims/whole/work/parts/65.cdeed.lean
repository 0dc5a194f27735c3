/-! ===== deeds on the class's side ===== -/
def Qd (b q r : Nat) : Prop := (q = b + 11 ∧ r = b + 12) ∨ (q = b + 13 ∧ r = b + 14)
def Cd (b q r : Nat) (h h' : Hp) : Prop := h'.2.2 = h.2.2 ∧ (∀ a, h'.J a = h.J a) ∧ ∀ a, a ≠ b + 41 → a ≠ b + 42 → a ≠ q → a ≠ r → h'.I a = h.I a
theorem Cd.refl (b q r : Nat) (h : Hp) : Cd b q r h h := ⟨rfl, fun _ => rfl, fun _ _ _ _ _ => rfl⟩
theorem Cd.trans {b q r : Nat} {h h' h'' : Hp} (H : Cd b q r h h') (G : Cd b q r h' h'') : Cd b q r h h'' := ⟨G.1.trans H.1, fun a => (G.2.1 a).trans (H.2.1 a), fun a h1 h2 h3 h4 => (G.2.2 a h1 h2 h3 h4).trans (H.2.2 a h1 h2 h3 h4)⟩
theorem Cd.R {b q r : Nat} {h h' : Hp} (H : Cd b q r h h') (a : Nat) : h'.R a = h.R a := by
  show h'.2.2 a = h.2.2 a
  rw [H.1]
theorem Cd.row {b q r : Nat} (h : Hp) {a : Nat} (f : Nat → Int32) (ha : a = b + 41 ∨ a = b + 42 ∨ a = q ∨ a = r) : Cd b q r h (h.rowI a f) := ⟨rfl, fun _ => rfl, fun c h1 h2 h3 h4 => rowI_ne h _ (by omega)⟩
theorem Cd.fr {b q r : Nat} {h h' : Hp} (Q : Qd b q r) (H : Cd b q r h h') : Fr b h h' := by
  intro a ha
  unfold kW at ha
  unfold Qd at Q
  exact ⟨H.2.2 a (by omega) (by omega) (by omega) (by omega), H.2.1 a, H.R a⟩
theorem trade_ok {z : Sh} {h : Hp} {t D : Nat} (hK : z.K t = 8) (hD : h.I t 1 = nI D) (h4 : D ≤ 4) (v : Int64) : f_X8_hasTrade z h t v = some (if 0 ≤ v.toInt ∧ v.toInt < D then 1 else 0) := by
  unfold f_X8_hasTrade
  have e0 : (0 : Int64).toInt = 0 := rfl
  have eP : (nI D).toInt64.toInt = D := by rw [to64, nI_to (by omega)]
  simp only [hK, if_true, gI, hD, bS, cmp_lt, cmp_ge, e0, eP]
  by_cases h1 : v.toInt < 0
  · rw [if_pos h1, if_neg (by omega)]
  · rw [if_neg h1]
    by_cases h2 : (D : Int) ≤ v.toInt
    · rw [if_pos h2, if_neg (by omega)]
    · rw [if_neg h2, if_pos (by omega)]
theorem l_ex {v : Int64} {P : Nat} (h : 0 ≤ v.toInt ∧ v.toInt < P) : ∃ j : Nat, j < P ∧ v = lI j ∧ v.toInt = j := ⟨v.toInt.toNat, by omega, by rw [show ((v.toInt.toNat : Nat) : Int) = v.toInt by omega, lI_of], by omega⟩
theorem PX_P {o r A : Nat → Int32} {P p : Nat} (H : PeopleX o r A P) (hp : p < P) : r (9 * p) = A (18 + p) ∧ r (9 * p + 1) = A (24 + p) ∧ r (9 * p + 2) = A (30 + p) ∧ r (9 * p + 3) = A (36 + p) ∧ r (9 * p + 4) = A (42 + p) ∧ r (9 * p + 5) = A (48 + p) ∧ r (9 * p + 6) = A (54 + p) ∧ r (9 * p + 7) = A (11 + p) ∧ r (9 * p + 8) = A (60 + p) := ⟨H.2.2 p hp 0 (by omega), H.2.2 p hp 1 (by omega), H.2.2 p hp 2 (by omega), H.2.2 p hp 3 (by omega), H.2.2 p hp 4 (by omega), H.2.2 p hp 5 (by omega), H.2.2 p hp 6 (by omega), H.2.2 p hp 7 (by omega), H.2.2 p hp 8 (by omega)⟩
/-- the facts of a person -/
theorem abt_f {τ : TT} (hτ : TownOK τ) {A F r : Nat → Int32} {p tr : Nat} (H : PerOK τ A p) (X : r (9 * p) = A (18 + p) ∧ r (9 * p + 1) = A (24 + p) ∧ r (9 * p + 2) = A (30 + p) ∧ r (9 * p + 3) = A (36 + p) ∧ r (9 * p + 4) = A (42 + p) ∧ r (9 * p + 5) = A (48 + p) ∧ r (9 * p + 6) = A (54 + p) ∧ r (9 * p + 7) = A (11 + p) ∧ r (9 * p + 8) = A (60 + p)) : ∀ k, k < 7 → k ≠ 2 → (upd (upd (upd (upd (upd (upd F 0 (r (9 * p + 6))) 1 (r (9 * p))) 3 (r (9 * p + 3))) 4 (r (9 * p + 4))) 5 (r (9 * p + 1))) 6 (r (9 * p + 5))) k = iI (fcW (nv A (54 + p)) (aS A p) tr k) := by
  obtain ⟨s0, s1, s2, s3, s4, s5, s6, e1, e2, e3, e4, e5, e6, -⟩ := Per_st hτ H
  obtain ⟨x0, x1, x2, x3, x4, x5, x6, x7, x8⟩ := X
  intro k hk h2
  rw [x0, x1, x3, x4, x5, x6]
  match k, hk, h2 with
  | 0, _, _ => exact e6.trans (nI_iI _)
  | 1, _, _ => exact (e3.trans (nI_iI _)).trans (by rw [← s4]; rfl)
  | 3, _, _ => exact (e4.trans (nI_iI _)).trans (by rw [← s5]; rfl)
  | 4, _, _ => exact (e5.trans (nI_iI _)).trans (by rw [← s6]; rfl)
  | 5, _, _ => exact (e1.trans (nI_iI _)).trans (by rw [← s2]; rfl)
  | 6, _, _ => exact (e2.trans (nI_iI _)).trans (by rw [← s3]; rfl)
  | 2, _, h2 => exact absurd rfl h2
  | k + 7, hk, _ => omega
set_option maxHeartbeats 2000000 in
theorem clives_ok {n : Nat} {z : Sh} {h : Hp} {b q r t : Nat} (HX : LayX z h.2.2 b) (hn : 400000 ≤ n) (Q : Qd b q r) (HP : PL z h.2.2 q r) {τ : TT} (hτ : TownOK τ) (hT : TownX b z h t τ) {P : Nat} (h6 : P ≤ 6) {A : Nat → Int32} (HA : PplI τ P (h.I q) (h.I r) A) (p : Int32) (tr : Int64) : ∃ h', f_X2_lives n z h (b + 43) t q p tr = some (nI (aLive τ P A p.toInt tr.toInt).1, h') ∧ Cd b q r h h' ∧ PeopleX (h'.I q) (h'.I r) (aLive τ P A p.toInt tr.toInt).2 P := by
  have hD4 : tD τ ≤ 4 := hτ.2.1.2
  have H1 := has_ok HP HA.1.1 h6 p
  have H2 := trade_ok hT.2.1 hT.2.2.2.1 hD4 tr
  unfold f_X2_lives aLive
  rw [if_pos (kx_43 HX), H1, bS, H2]
  by_cases hp : 0 ≤ p.toInt ∧ p.toInt < P
  · by_cases ht : 0 ≤ tr.toInt ∧ tr.toInt < tD τ
    · obtain ⟨j, hj, rfl⟩ := nI_ex hp
      obtain ⟨k, hk, e2, e3⟩ := l_ex ht
      have hj' : (nI j).toInt = j := nI_to (by omega)
      have hX := PX_P HA.1 hj
      obtain ⟨s0, s1, s2, s3, s4, s5, s6, e11, e12, e13, e14, e15, e16, e17, -⟩ := Per_st hτ (HA.2 j hj)
      rw [if_pos hp, if_neg (by decide), bS, if_pos ht, if_neg (by decide), if_pos ⟨hp, ht⟩]
      rw [show (0 : Int32) = nI 0 from rfl, part_ok HP (by omega) (by omega), bS, gI, if_pos hT.2.1, bS, hT.2.2.1, Nat.add_zero, hX.1, e13]
      rw [hj', e3]
      simp only [Int.toNat_natCast]
      have hY := hτ.1
      have hs0 := s0.2.1
      by_cases hy : nv A (18 + j) < tY τ
      · rw [if_pos ((nI_lt2 (by omega) (by omega)).mpr hy), if_pos hy, bS, e2, lI_32, ← nI_iI k, gR, if_pos (kx_43 HX), rx_43_0 HX, bS]
        have ne1 : r ≠ b + 41 := by unfold Qd at Q; omega
        have ne2 : r ≠ b + 42 := by unfold Qd at Q; omega
        have ne3 : q ≠ b + 41 := by unfold Qd at Q; omega
        have ne4 : q ≠ b + 42 := by unfold Qd at Q; omega
        have ne5 : q ≠ r := HP.2.2.2.2
        rw [about_ok HX HP ne1 (by omega), bS]
        generalize hF : (upd (upd (upd (upd (upd (upd (h.I (b + 41)) 0 (h.I r (9 * j + 6))) 1 (h.I r (9 * j))) 3 (h.I r (9 * j + 3))) 4 (h.I r (9 * j + 4))) 5 (h.I r (9 * j + 1))) 6 (h.I r (9 * j + 5))) = F
        have c1 : Cd b q r h (h.rowI (b + 41) F) := Cd.row h F (Or.inl rfl)
        have hw := cworth_ok (n := n) (z := z) (h := h.rowI (b + 41) F) (b := b) HX hn hτ (hT.fr (c1.fr Q)) (tal := nv A (54 + j)) (s := aS A j) (tr := k) e17 s1.1 (by omega) (by
          rw [rowI_I, ← hF]
          exact abt_f hτ (HA.2 j hj) hX)
        obtain ⟨r1, r2, hw⟩ := hw
        have eR : (h.rowI (b + 41) F).R (b + 43) 0 = some (b + 40) := rx_43_0 HX
        rw [gR, if_pos (kx_43 HX), eR, bS, hw, bS, rowI_rowI]
        dsimp only
        have HP2 : PL z ((h.rowI (b + 41) r1).rowI (b + 42) r2).2.2 q r := HP
        have er : ((h.rowI (b + 41) r1).rowI (b + 42) r2).I r = h.I r := by rw [rowI_ne _ _ ne2, rowI_ne _ _ ne1]
        have eq' : ((h.rowI (b + 41) r1).rowI (b + 42) r2).I q = h.I q := by rw [rowI_ne _ _ ne4, rowI_ne _ _ ne3]
        have c2 : Cd b q r h ((h.rowI (b + 41) r1).rowI (b + 42) r2) := (Cd.row h r1 (Or.inl rfl)).trans (Cd.row _ r2 (Or.inr (Or.inl rfl)))
        generalize (h.rowI (b + 41) r1).rowI (b + 42) r2 = g at *
        have pt : ∀ {w : Nat} {f : Nat → Int32}, w < 9 → f_X5_part z (g.rowI r f) q (nI j) (nI w) = some (f (9 * j + w)) := fun {w f} hw => by
          rw [part_ok (h := g.rowI r f) HP2 (by omega) hw, rowI_I]
        have pu : ∀ {w : Nat} {f : Nat → Int32} {v : Int32}, w < 9 → f_X5_put z (g.rowI r f) q (nI j) (nI w) v = some (g.rowI r (upd f (9 * j + w) v)) := fun {w f v} hw => by
          rw [put_ok (h := g.rowI r f) HP2 (by omega) hw, rowI_setI]
        have eg : g = g.rowI r (h.I r) := by rw [← er, rowI_self]
        have p3 : f_X5_part z g q (nI j) 3 = some (A (36 + j)) := by
          rw [eg, show (3 : Int32) = nI 3 from rfl, pt (by omega), hX.2.2.2.1]
        have p2 : f_X5_part z g q (nI j) 2 = some (A (30 + j)) := by
          rw [eg, show (2 : Int32) = nI 2 from rfl, pt (by omega), hX.2.2.1]
        have u2 : ∀ v, f_X5_put z g q (nI j) 2 v = some (g.rowI r (upd (h.I r) (9 * j + 2) v)) := fun v => by
          rw [show f_X5_put z g q (nI j) 2 v = f_X5_put z (g.rowI r (h.I r)) q (nI j) (nI 2) v from by rw [← eg]; rfl, pu (by omega)]
        rw [p3, bS, e14]
        have fin : ∀ (st : Nat), PeopleX (g.I q) (upd (upd (upd (upd (h.I r) (9 * j + 2) (A (30 + j) + iI (wV τ (nv A (54 + j)) (aS A j) k))) (9 * j + 4) (nI st)) (9 * j + 3) (nI k)) (9 * j + 0) (nI (nv A (18 + j) + 1))) (dl A j (nI (nv A (18 + j) + 1)) (nI k) (nI st) (A (30 + j) + iI (wV τ (nv A (54 + j)) (aS A j) k))) P := by
          intro st
          rw [eq']
          refine PX_up HA.1 (by unfold dl; rw [if_neg (by omega), if_neg (by omega), if_neg (by omega), if_neg (by omega)]) (fun p' hp' w hw9 => ?_)
          by_cases e : p' = j
          · subst e
            rcases pos_cases hw9 with ⟨rfl, e⟩ | ⟨rfl, e⟩ | ⟨rfl, e⟩ | ⟨rfl, e⟩ | ⟨rfl, e⟩ | ⟨rfl, e⟩ | ⟨rfl, e⟩ | ⟨rfl, e⟩ | ⟨rfl, e⟩ <;> rw [e] <;> unfold upd dl
            · right; rw [if_pos rfl, if_pos rfl]
            · left; exact ⟨by rw [if_neg (by omega), if_neg (by omega), if_neg (by omega), if_neg (by omega)], by rw [if_neg (by omega), if_neg (by omega), if_neg (by omega), if_neg (by omega)]⟩
            · right; rw [if_neg (by omega), if_neg (by omega), if_neg (by omega), if_pos rfl, if_neg (by omega), if_pos rfl]
            · right; rw [if_neg (by omega), if_pos rfl, if_neg (by omega), if_neg (by omega), if_pos rfl]
            · right; rw [if_neg (by omega), if_neg (by omega), if_pos rfl, if_neg (by omega), if_neg (by omega), if_neg (by omega), if_pos rfl]
            · left; exact ⟨by rw [if_neg (by omega), if_neg (by omega), if_neg (by omega), if_neg (by omega)], by rw [if_neg (by omega), if_neg (by omega), if_neg (by omega), if_neg (by omega)]⟩
            · left; exact ⟨by rw [if_neg (by omega), if_neg (by omega), if_neg (by omega), if_neg (by omega)], by rw [if_neg (by omega), if_neg (by omega), if_neg (by omega), if_neg (by omega)]⟩
            · left; exact ⟨by rw [if_neg (by omega), if_neg (by omega), if_neg (by omega), if_neg (by omega)], by rw [if_neg (by omega), if_neg (by omega), if_neg (by omega), if_neg (by omega)]⟩
            · left; exact ⟨by rw [if_neg (by omega), if_neg (by omega), if_neg (by omega), if_neg (by omega)], by rw [if_neg (by omega), if_neg (by omega), if_neg (by omega), if_neg (by omega)]⟩
          · left
            refine ⟨?_, dl_ot (by omega) (by omega) e hw9⟩
            unfold upd
            rw [if_neg (by omega), if_neg (by omega), if_neg (by omega), if_neg (by omega)]
        have c3 : ∀ f, Cd b q r h (g.rowI r f) := fun f => c2.trans (Cd.row g f (Or.inr (Or.inr (Or.inr rfl))))
        have er2 : ∀ f, (g.rowI r f).I q = g.I q := fun f => rowI_ne g f ne5
        have hk100 : nv A (36 + j) < 2147483648 := by
          have := s0.2.2
          omega
        by_cases hl : nv A (36 + j) = k
        · rw [if_pos hl, hl, if_pos rfl]
          refine ⟨g.rowI r (upd (upd (upd (upd (h.I r) (9 * j + 2) (A (30 + j) + iI (wV τ (nv A (54 + j)) (aS A j) k))) (9 * j + 4) (nI (nv A (42 + j) + 1))) (9 * j + 3) (nI k)) (9 * j + 0) (nI (nv A (18 + j) + 1))), ?_, c3 _, ?_⟩
          rotate_left
          · rw [er2, rowI_I]
            exact fin (nv A (42 + j) + 1)
          · unfold f_X2_lives_80 f_X2_lives_117
            rw [p2, bS, u2, bS, if_neg (by decide), show (4 : Int32) = nI 4 from rfl, pt (by omega), bS, upd, if_neg (by omega), hX.2.2.2.2.1, e15, pu (by omega), bS, show (3 : Int32) = nI 3 from rfl, pu (by omega), bS, show (0 : Int32) = nI 0 from rfl, pu (by omega), bS, show (1 : Int32) = nI 1 from rfl, nI_add, nI_add]
        · rw [if_neg hl, if_neg (fun q => hl ((nI_inj (by omega) (by omega)).mp q))]
          refine ⟨g.rowI r (upd (upd (upd (upd (h.I r) (9 * j + 2) (A (30 + j) + iI (wV τ (nv A (54 + j)) (aS A j) k))) (9 * j + 4) (nI 1)) (9 * j + 3) (nI k)) (9 * j + 0) (nI (nv A (18 + j) + 1))), ?_, c3 _, ?_⟩
          rotate_left
          · rw [er2, rowI_I]
            exact fin 1
          · unfold f_X2_lives_80 f_X2_lives_117
            rw [p2, bS, u2, bS, if_pos (show (nI 0 : Int32) = 0 from rfl), show (4 : Int32) = nI 4 from rfl, pu (by omega), bS, show (3 : Int32) = nI 3 from rfl, pu (by omega), bS, show (0 : Int32) = nI 0 from rfl, pu (by omega), bS, show (1 : Int32) = nI 1 from rfl, nI_add]
      · rw [if_neg (fun q => hy ((nI_lt2 (by omega) (by omega)).mp q)), if_neg hy]
        exact ⟨h, rfl, Cd.refl .., HA.1⟩
    · rw [if_pos hp, if_neg (by decide), bS, if_neg ht, if_pos rfl, if_neg (fun q => ht q.2)]
      exact ⟨h, rfl, Cd.refl .., HA.1⟩
  · rw [if_neg hp, if_pos rfl, if_neg (fun q => hp q.1)]
    exact ⟨h, rfl, Cd.refl .., HA.1⟩
theorem PX_pos {A A' o r r' : Nat → Int32} {P j : Nat} (H : PeopleX o r A P) (h17 : A' 17 = A 17) (hot : ∀ p', p' < P → p' ≠ j → ∀ w, w < 9 → r' (9 * p' + w) = r (9 * p' + w) ∧ A' (pos w + p') = A (pos w + p')) (hj : ∀ w, w < 9 → (r' (9 * j + w) = r (9 * j + w) ∧ A' (pos w + j) = A (pos w + j)) ∨ r' (9 * j + w) = A' (pos w + j)) : PeopleX o r' A' P := by
  refine PX_up H h17 (fun p' hp' w hw => ?_)
  by_cases e : p' = j
  · subst e
    exact hj w hw
  · exact Or.inl (hot p' hp' e w hw)
set_option maxHeartbeats 2000000 in
theorem cdraws_ok {n : Nat} {z : Sh} {h : Hp} {b q r t : Nat} (HX : LayX z h.2.2 b) (hn : 400000 ≤ n) (Q : Qd b q r) (HP : PL z h.2.2 q r) {τ : TT} (hτ : TownOK τ) (hT : TownX b z h t τ) {P : Nat} (h6 : P ≤ 6) {A : Nat → Int32} (HA : PplI τ P (h.I q) (h.I r) A) (p : Int32) : ∃ h', f_X2_draws n z h (b + 43) t q p = some (nI (aDraw τ P A p.toInt).1, h') ∧ Cd b q r h h' ∧ PeopleX (h'.I q) (h'.I r) (aDraw τ P A p.toInt).2 P := by
  have H1 := has_ok HP HA.1.1 h6 p
  unfold f_X2_draws aDraw
  rw [if_pos (kx_43 HX), H1, bS]
  by_cases hp : 0 ≤ p.toInt ∧ p.toInt < P
  · obtain ⟨j, hj, rfl⟩ := nI_ex hp
    have hj' : (nI j).toInt = j := nI_to (by omega)
    have hX := PX_P HA.1 hj
    obtain ⟨s0, s1, s2, s3, s4, s5, s6, e11, e12, e13, e14, e15, e16, e17, e18, e19, -⟩ := Per_st hτ (HA.2 j hj)
    rw [if_pos hp, if_neg (by decide), if_pos hp, hj']
    simp only [Int.toNat_natCast]
    rw [show (1 : Int32) = nI 1 from rfl, part_ok HP (by omega) (by omega), bS, hX.2.1, e11]
    have hl2 : nv A (24 + j) ≤ 2 := by
      have := s0.1
      omega
    by_cases hl : nv A (24 + j) = 1
    · rw [if_pos (by rw [hl]), if_pos hl, show (8 : Int32) = nI 8 from rfl, part_ok HP (by omega) (by omega), bS, hX.2.2.2.2.2.2.2.2, e18]
      by_cases hpl : nv A (60 + j) = 0
      · rw [if_pos (by rw [hpl]; decide), if_pos hpl, gR, if_pos (kx_43 HX), rx_43_0 HX, bS]
        have hY := hτ.1
        have hs0 := s0.2.1
        have ne1 : r ≠ b + 41 := by unfold Qd at Q; omega
        have ne2 : r ≠ b + 42 := by unfold Qd at Q; omega
        have ne3 : q ≠ b + 41 := by unfold Qd at Q; omega
        have ne4 : q ≠ b + 42 := by unfold Qd at Q; omega
        have ne5 : q ≠ r := HP.2.2.2.2
        rw [about_ok HX HP ne1 (by omega), bS]
        generalize hF : (upd (upd (upd (upd (upd (upd (h.I (b + 41)) 0 (h.I r (9 * j + 6))) 1 (h.I r (9 * j))) 3 (h.I r (9 * j + 3))) 4 (h.I r (9 * j + 4))) 5 (h.I r (9 * j + 1))) 6 (h.I r (9 * j + 5))) = F
        have c1 : Cd b q r h (h.rowI (b + 41) F) := Cd.row h F (Or.inl rfl)
        have hw := cgrown_ok (n := n) (z := z) (h := h.rowI (b + 41) F) (b := b) HX hn hτ (hT.fr (c1.fr Q)) (tal := nv A (54 + j)) (y := nv A (18 + j)) e17 (by omega) (by
          rw [rowI_I, ← hF]
          show h.I r (9 * j + 6) = _
          rw [hX.2.2.2.2.2.2.1]
          exact e16) (by
          rw [rowI_I, ← hF]
          show h.I r (9 * j) = _
          rw [hX.1]
          exact e13)
        obtain ⟨r2, hw⟩ := hw
        have eR : (h.rowI (b + 41) F).R (b + 43) 0 = some (b + 40) := rx_43_0 HX
        rw [gR, if_pos (kx_43 HX), eR, bS, hw, bS]
        dsimp only
        have HP2 : PL z ((h.rowI (b + 41) F).rowI (b + 42) r2).2.2 q r := HP
        have er : ((h.rowI (b + 41) F).rowI (b + 42) r2).I r = h.I r := by rw [rowI_ne _ _ ne2, rowI_ne _ _ ne1]
        have eq' : ((h.rowI (b + 41) F).rowI (b + 42) r2).I q = h.I q := by rw [rowI_ne _ _ ne4, rowI_ne _ _ ne3]
        have c2 : Cd b q r h ((h.rowI (b + 41) F).rowI (b + 42) r2) := (Cd.row h F (Or.inl rfl)).trans (Cd.row _ r2 (Or.inr (Or.inl rfl)))
        generalize (h.rowI (b + 41) F).rowI (b + 42) r2 = g at *
        have pu : ∀ {w : Nat} {f : Nat → Int32} {v : Int32}, w < 9 → f_X5_put z (g.rowI r f) q (nI j) (nI w) v = some (g.rowI r (upd f (9 * j + w) v)) := fun {w f v} hw => by
          rw [put_ok (h := g.rowI r f) HP2 (by omega) hw, rowI_setI]
        have eg : g = g.rowI r (h.I r) := by rw [← er, rowI_self]
        have p0 : f_X5_part z g q (nI j) 0 = some (nI (nv A (18 + j))) := by
          rw [show (0 : Int32) = nI 0 from rfl, part_ok (h := g) HP2 (by omega) (by omega), er, Nat.add_zero, hX.1, e13]
        have u5 : ∀ v, f_X5_put z g q (nI j) 5 v = some (g.rowI r (upd (h.I r) (9 * j + 5) v)) := fun v => by
          rw [show f_X5_put z g q (nI j) 5 v = f_X5_put z (g.rowI r (h.I r)) q (nI j) (nI 5) v from by rw [← eg]; rfl, pu (by omega)]
        have c3 : ∀ f, Cd b q r h (g.rowI r f) := fun f => c2.trans (Cd.row g f (Or.inr (Or.inr (Or.inr rfl))))
        refine ⟨g.rowI r (upd (upd (upd (upd (upd (h.I r) (9 * j + 5) (nI (nv A (18 + j)))) (9 * j + 0) (nI (gV τ (nv A (54 + j)) (nv A (18 + j))))) (9 * j + 1) (nI 2)) (9 * j + 3) (nI 9)) (9 * j + 4) (nI 0)), ?_, c3 _, ?_⟩
        · rw [p0, bS, u5, bS, show (0 : Int32) = nI 0 from rfl, pu (by omega), bS, pu (by omega), bS, show (3 : Int32) = nI 3 from rfl, pu (by omega), bS, show (4 : Int32) = nI 4 from rfl, pu (by omega), bS]
          rfl
        · rw [rowI_ne g _ ne5, rowI_I, eq']
          refine PX_pos (j := j) HA.1 (by unfold dr; rw [if_neg (by omega), if_neg (by omega), if_neg (by omega), if_neg (by omega), if_neg (by omega)]) (fun p' hp' e w hw9 => ⟨by unfold upd; rw [if_neg (by omega), if_neg (by omega), if_neg (by omega), if_neg (by omega), if_neg (by omega)], dr_ot (by omega) (by omega) e hw9⟩) (fun w hw9 => ?_)
          rcases pos_cases hw9 with ⟨rfl, e⟩ | ⟨rfl, e⟩ | ⟨rfl, e⟩ | ⟨rfl, e⟩ | ⟨rfl, e⟩ | ⟨rfl, e⟩ | ⟨rfl, e⟩ | ⟨rfl, e⟩ | ⟨rfl, e⟩ <;> rw [e] <;> unfold upd dr
          · right; rw [if_neg (by omega), if_neg (by omega), if_neg (by omega), if_pos rfl, if_pos rfl]
          · right; rw [if_neg (by omega), if_neg (by omega), if_pos rfl, if_neg (by omega), if_pos rfl]
          · left; exact ⟨by rw [if_neg (by omega), if_neg (by omega), if_neg (by omega), if_neg (by omega), if_neg (by omega)], by rw [if_neg (by omega), if_neg (by omega), if_neg (by omega), if_neg (by omega), if_neg (by omega)]⟩
          · right; rw [if_neg (by omega), if_pos rfl, if_neg (by omega), if_neg (by omega), if_pos rfl]
          · right; rw [if_pos rfl, if_neg (by omega), if_neg (by omega), if_neg (by omega), if_pos rfl]
          · right; rw [if_neg (by omega), if_neg (by omega), if_neg (by omega), if_neg (by omega), if_pos rfl, if_neg (by omega), if_neg (by omega), if_neg (by omega), if_neg (by omega), if_pos rfl]
          · left; exact ⟨by rw [if_neg (by omega), if_neg (by omega), if_neg (by omega), if_neg (by omega), if_neg (by omega)], by rw [if_neg (by omega), if_neg (by omega), if_neg (by omega), if_neg (by omega), if_neg (by omega)]⟩
          · left; exact ⟨by rw [if_neg (by omega), if_neg (by omega), if_neg (by omega), if_neg (by omega), if_neg (by omega)], by rw [if_neg (by omega), if_neg (by omega), if_neg (by omega), if_neg (by omega), if_neg (by omega)]⟩
          · left; exact ⟨by rw [if_neg (by omega), if_neg (by omega), if_neg (by omega), if_neg (by omega), if_neg (by omega)], by rw [if_neg (by omega), if_neg (by omega), if_neg (by omega), if_neg (by omega), if_neg (by omega)]⟩
      · rw [if_neg (fun q => hpl (by rw [show (0 : Int32) = nI 0 from rfl, nI_leI (by omega) (by omega)] at q; omega)), if_neg hpl]
        exact ⟨h, rfl, Cd.refl .., HA.1⟩
    · rw [if_neg (fun q => hl ((nI_inj (by omega) (by omega)).mp q)), if_neg hl]
      exact ⟨h, rfl, Cd.refl .., HA.1⟩
  · rw [if_neg hp, if_pos rfl, if_neg hp]
    exact ⟨h, rfl, Cd.refl .., HA.1⟩
/-- pledging and redeeming leave people in order -/
theorem PX_go {A o r : Nat → Int32} {P j : Nat} {n v8 v2 : Int32} (h6 : P ≤ 6) (hj : j < P) (H : PeopleX o r A P) (h8 : v8 = A (60 + j) + n) (h2 : v2 = A (30 + j) + n) : PeopleX (upd o 2 (A 17 - n)) (upd (upd r (9 * j + 8) v8) (9 * j + 2) v2) (go A j n) P := by
  have H1 : PeopleX o (upd (upd r (9 * j + 8) v8) (9 * j + 2) v2) (fun k => if k = 60 + j then A k + n else if k = 30 + j then A k + n else A k) P := by
    refine PX_pos (j := j) H (by rw [if_neg (by omega), if_neg (by omega)]) (fun p' hp' e w hw9 => ?_) (fun w hw9 => ?_)
    · have := pos_cases hw9
      exact ⟨by unfold upd; rw [if_neg (by omega), if_neg (by omega)], by rw [if_neg (by omega), if_neg (by omega)]⟩
    · rcases pos_cases hw9 with ⟨rfl, e⟩ | ⟨rfl, e⟩ | ⟨rfl, e⟩ | ⟨rfl, e⟩ | ⟨rfl, e⟩ | ⟨rfl, e⟩ | ⟨rfl, e⟩ | ⟨rfl, e⟩ | ⟨rfl, e⟩ <;> rw [e] <;> unfold upd
      · left; exact ⟨by rw [if_neg (by omega), if_neg (by omega)], by rw [if_neg (by omega), if_neg (by omega)]⟩
      · left; exact ⟨by rw [if_neg (by omega), if_neg (by omega)], by rw [if_neg (by omega), if_neg (by omega)]⟩
      · right; rw [if_pos rfl, if_neg (by omega), if_pos rfl, h2]
      · left; exact ⟨by rw [if_neg (by omega), if_neg (by omega)], by rw [if_neg (by omega), if_neg (by omega)]⟩
      · left; exact ⟨by rw [if_neg (by omega), if_neg (by omega)], by rw [if_neg (by omega), if_neg (by omega)]⟩
      · left; exact ⟨by rw [if_neg (by omega), if_neg (by omega)], by rw [if_neg (by omega), if_neg (by omega)]⟩
      · left; exact ⟨by rw [if_neg (by omega), if_neg (by omega)], by rw [if_neg (by omega), if_neg (by omega)]⟩
      · left; exact ⟨by rw [if_neg (by omega), if_neg (by omega)], by rw [if_neg (by omega), if_neg (by omega)]⟩
      · right; rw [if_neg (by omega), if_pos rfl, if_pos rfl, h8]
  refine ⟨?_, ?_, fun p hp w hw => ?_⟩
  · unfold upd
    rw [if_neg (by omega)]
    exact H.1
  · unfold upd go
    rw [if_pos rfl, if_neg (by omega), if_neg (by omega), if_pos rfl]
  · have e1 := H1.2.2 p hp w hw
    rw [e1]
    have := pos_cases hw
    dsimp only
    unfold go
    rw [if_neg (show ¬ (pos w + p = 17) by omega)]
theorem z32 (n : Int32) : nI 0 + n = n := by
  rw [← iI_of n, nI_iI, iI_add]
  congr 1
  omega
theorem cpledges_ok {n : Nat} {z : Sh} {h : Hp} {b q r t : Nat} (HX : LayX z h.2.2 b) (hn : 400000 ≤ n) (Q : Qd b q r) (HP : PL z h.2.2 q r) {τ : TT} (hτ : TownOK τ) (hT : TownX b z h t τ) {P : Nat} (h6 : P ≤ 6) {A : Nat → Int32} (HA : PplI τ P (h.I q) (h.I r) A) (p n' : Int32) : ∃ h', f_X2_pledges z h (b + 43) q p n' = some (nI (aPledge P A p.toInt n'.toInt).1, h') ∧ Cd b q r h h' ∧ PeopleX (h'.I q) (h'.I r) (aPledge P A p.toInt n'.toInt).2 P := by
  have H1 := has_ok HP HA.1.1 h6 p
  unfold f_X2_pledges aPledge
  rw [if_pos (kx_43 HX), H1, bS]
  by_cases hp : 0 ≤ p.toInt ∧ p.toInt < P
  · rw [if_pos hp, if_neg (by decide)]
    by_cases hn1 : n' < 1
    · have : n'.toInt < 1 := Int32.lt_iff_toInt_lt.mp hn1
      rw [if_pos hn1, if_neg (by omega)]
      exact ⟨h, rfl, Cd.refl .., HA.1⟩
    · have hn2 : ¬ n'.toInt < 1 := fun q => hn1 (Int32.lt_iff_toInt_lt.mpr q)
      rw [if_neg hn1]
      by_cases hn3 : n' ≤ 99
      · have hn4 : n'.toInt ≤ 99 := Int32.le_iff_toInt_le.mp hn3
        rw [if_pos hn3, if_pos ⟨hp, by omega, by omega⟩]
        obtain ⟨j, hj, rfl⟩ := nI_ex hp
        have hj' : (nI j).toInt = j := nI_to (by omega)
        have hX := PX_P HA.1 hj
        obtain ⟨s0, s1, s2, s3, s4, s5, s6, e11, e12, e13, e14, e15, e16, e17, e18, e19, -⟩ := Per_st hτ (HA.2 j hj)
        rw [hj']
        simp only [Int.toNat_natCast]
        rw [show (1 : Int32) = nI 1 from rfl, part_ok HP (by omega) (by omega), bS, hX.2.1, e11]
        have hl2 : nv A (24 + j) ≤ 2 := by
          have := s0.1
          omega
        by_cases hl : nv A (24 + j) = 1
        · rw [if_pos (by rw [hl]), if_pos hl, show (8 : Int32) = nI 8 from rfl, part_ok HP (by omega) (by omega), bS, hX.2.2.2.2.2.2.2.2, e18]
          by_cases hpl : nv A (60 + j) = 0
          · rw [if_pos (by rw [hpl]; decide), if_pos hpl, gI, if_pos HP.1, bS, HA.1.2.1]
            by_cases hcash : n'.toInt ≤ (A 17).toInt
            · rw [if_pos (Int32.le_iff_toInt_le.mpr hcash), if_pos hcash]
              have ne5 : q ≠ r := HP.2.2.2.2
              rw [put_ok HP (by omega) (by omega), bS, setI_row]
              have pt : ∀ f, f_X5_part z (h.rowI r f) q (nI j) 2 = some (f (9 * j + 2)) := fun f => by
                rw [show (2 : Int32) = nI 2 from rfl, part_ok (h := h.rowI r f) HP (by omega) (by omega), rowI_I]
              have pu : ∀ f v, f_X5_put z (h.rowI r f) q (nI j) 2 v = some (h.rowI r (upd f (9 * j + 2) v)) := fun f v => by
                rw [show (2 : Int32) = nI 2 from rfl, put_ok (h := h.rowI r f) HP (by omega) (by omega), rowI_setI]
              rw [pt, bS, pu, bS, gI, if_pos HP.1, bS, pI, if_pos HP.1, bS, upd, if_neg (by omega), hX.2.2.1]
              rw [rowI_ne h _ ne5, HA.1.2.1, setI_row, rowI_ne h _ ne5, iI_of]
              refine ⟨_, rfl, (Cd.row h _ (Or.inr (Or.inr (Or.inr rfl)))).trans (Cd.row _ _ (Or.inr (Or.inr (Or.inl rfl)))), ?_⟩
              rw [rowI_I, rowI_ne _ _ (Ne.symm ne5), rowI_I]
              exact PX_go h6 hj HA.1 (by rw [e18, hpl, z32]) rfl
            · rw [if_neg (fun q => hcash (Int32.le_iff_toInt_le.mp q)), if_neg hcash]
              exact ⟨h, rfl, Cd.refl .., HA.1⟩
          · rw [if_neg (fun q => hpl (by rw [show (0 : Int32) = nI 0 from rfl, nI_leI (by omega) (by omega)] at q; omega)), if_neg hpl]
            exact ⟨h, rfl, Cd.refl .., HA.1⟩
        · rw [if_neg (fun q => hl ((nI_inj (by omega) (by omega)).mp q)), if_neg hl]
          exact ⟨h, rfl, Cd.refl .., HA.1⟩
      · have hn4 : ¬ n'.toInt ≤ 99 := fun q => hn3 (Int32.le_iff_toInt_le.mpr q)
        rw [if_neg hn3, if_neg (by omega)]
        exact ⟨h, rfl, Cd.refl .., HA.1⟩
  · rw [if_neg hp, if_pos rfl, if_neg (fun q => hp q.1)]
    exact ⟨h, rfl, Cd.refl .., HA.1⟩
theorem sub_ng (a n : Int32) : a - n = a + -n := by
  rw [← iI_of a, ← iI_of n, iI_sub, iI_neg, iI_add]
  congr 1
theorem ng_ng (n : Int32) : - -n = n := by
  rw [← iI_of n, iI_neg, iI_neg]
  congr 1
  omega
theorem add_ng (n : Int32) : n + -n = nI 0 := by
  rw [← iI_of n, iI_neg, iI_add, nI_iI]
  congr 1
  omega
theorem credeems_ok {n : Nat} {z : Sh} {h : Hp} {b q r t : Nat} (HX : LayX z h.2.2 b) (hn : 400000 ≤ n) (Q : Qd b q r) (HP : PL z h.2.2 q r) {τ : TT} (hτ : TownOK τ) (hT : TownX b z h t τ) {P : Nat} (h6 : P ≤ 6) {A : Nat → Int32} (HA : PplI τ P (h.I q) (h.I r) A) (p : Int32) : ∃ h', f_X2_redeems z h (b + 43) q p = some (nI (aRedeem P A p.toInt).1, h') ∧ Cd b q r h h' ∧ PeopleX (h'.I q) (h'.I r) (aRedeem P A p.toInt).2 P := by
  have H1 := has_ok HP HA.1.1 h6 p
  unfold f_X2_redeems aRedeem
  rw [if_pos (kx_43 HX), H1, bS]
  by_cases hp : 0 ≤ p.toInt ∧ p.toInt < P
  · obtain ⟨j, hj, rfl⟩ := nI_ex hp
    have hj' : (nI j).toInt = j := nI_to (by omega)
    have hX := PX_P HA.1 hj
    obtain ⟨s0, s1, s2, s3, s4, s5, s6, e11, e12, e13, e14, e15, e16, e17, e18, e19, -⟩ := Per_st hτ (HA.2 j hj)
    rw [if_pos hp, if_neg (by decide), if_pos hp, hj']
    simp only [Int.toNat_natCast]
    rw [show (8 : Int32) = nI 8 from rfl, part_ok HP (by omega) (by omega), bS, hX.2.2.2.2.2.2.2.2]
    by_cases hpl : nv A (60 + j) = 0
    · rw [if_pos (by rw [e18, hpl]; rfl), if_pos hpl]
      exact ⟨h, rfl, Cd.refl .., HA.1⟩
    · rw [if_neg (fun (q : A (60 + j) = 0) => hpl ((nI_inj (by omega) (by omega)).mp (e18.symm.trans (q : A (60 + j) = 0)))), if_neg hpl]
      have ne5 : q ≠ r := HP.2.2.2.2
      rw [put_ok HP (by omega) (by omega), bS, setI_row]
      have pt : ∀ f, f_X5_part z (h.rowI r f) q (nI j) 2 = some (f (9 * j + 2)) := fun f => by
        rw [show (2 : Int32) = nI 2 from rfl, part_ok (h := h.rowI r f) HP (by omega) (by omega), rowI_I]
      have pu : ∀ f v, f_X5_put z (h.rowI r f) q (nI j) 2 v = some (h.rowI r (upd f (9 * j + 2) v)) := fun f v => by
        rw [show (2 : Int32) = nI 2 from rfl, put_ok (h := h.rowI r f) HP (by omega) (by omega), rowI_setI]
      rw [pt, bS, pu, bS, gI, if_pos HP.1, bS, pI, if_pos HP.1, bS, upd, if_neg (by omega), hX.2.2.1]
      rw [rowI_ne h _ ne5, HA.1.2.1, setI_row, rowI_ne h _ ne5]
      refine ⟨_, rfl, (Cd.row h _ (Or.inr (Or.inr (Or.inr rfl)))).trans (Cd.row _ _ (Or.inr (Or.inr (Or.inl rfl)))), ?_⟩
      rw [rowI_I, rowI_ne _ _ (Ne.symm ne5), rowI_I]
      have e : A 17 + A (60 + j) = A 17 - -A (60 + j) := by rw [sub_ng, ng_ng]
      rw [e]
      exact PX_go h6 hj HA.1 (by rw [add_ng]; rfl) (sub_ng _ _)
  · rw [if_neg hp, if_pos rfl, if_neg hp]
    exact ⟨h, rfl, Cd.refl .., HA.1⟩
