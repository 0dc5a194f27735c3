/-! ===== talents ===== -/
theorem per_tal {τ : TT} {A : Nat → Int32} {P j tal : Nat} (ht : tal ≤ 9) (h6 : P ≤ 6) (hj : j < P) (H : ∀ p, p < P → PerOK τ A p) : ∀ p, p < P → PerOK τ (upd A (54 + j) (nI tal)) p := by
  intro p' hp'
  by_cases e : p' = j
  · subst e
    obtain ⟨y, l, la, st, o, ta, pl, fe, hs, h1, h2, h3, h4, h5, h6', h7, h8, h9, h10, h11, h12, h13, h14, h15⟩ := H _ hp'
    refine ⟨y, l, la, st, o, tal, pl, fe, hs, ?_, ?_, ?_, ?_, ?_, ?_, ?_, ?_, ?_, h10, ht, h12, h13, h14, h15⟩
    · unfold upd; rw [if_neg (by omega)]; exact h1
    · unfold upd; rw [if_neg (by omega)]; exact h2
    · unfold upd; rw [if_neg (by omega)]; exact h3
    · unfold upd; rw [if_neg (by omega)]; exact h4
    · unfold upd; rw [if_neg (by omega)]; exact h5
    · unfold upd; rw [if_neg (by omega)]; exact h6'
    · unfold upd; rw [if_pos rfl]
    · unfold upd; rw [if_neg (by omega)]; exact h8
    · unfold upd; rw [if_neg (by omega)]; exact h9
  · exact Per_up (H p' hp') (fun w hw9 => by have := pos_cases hw9; unfold upd; rw [if_neg (by omega)])
theorem PX_tal {o r A : Nat → Int32} {P j : Nat} {v : Int32} (h6 : P ≤ 6) (hj : j < P) (H : PeopleX o r A P) : PeopleX o (upd r (9 * j + 6) v) (upd A (54 + j) v) P := by
  refine PX_pos (j := j) H (by unfold upd; rw [if_neg (by omega)]) (fun p' hp' e w hw9 => ⟨by unfold upd; rw [if_neg (by omega)], by have := pos_cases hw9; unfold upd; rw [if_neg (by omega)]⟩) (fun w hw9 => ?_)
  by_cases h : w = 6
  · subst h
    right
    unfold upd
    rw [if_pos rfl, if_pos (show pos 6 + j = 54 + j from rfl)]
  · left
    have := pos_cases hw9
    exact ⟨by unfold upd; rw [if_neg (by omega)], by unfold upd; rw [if_neg (by omega)]⟩
theorem aS_tal {A : Nat → Int32} {j : Nat} {v : Int32} (hj : j < 6) : aS (upd A (54 + j) v) j = aS A j ∧ (∀ k, k ≠ 54 + j → nv (upd A (54 + j) v) k = nv A k) := by
  have e : ∀ k, k ≠ 54 + j → nv (upd A (54 + j) v) k = nv A k := fun k hk => by
    unfold nv upd
    rw [if_neg hk]
  refine ⟨?_, e⟩
  unfold aS
  rw [e _ (by omega), e _ (by omega), e _ (by omega), e _ (by omega), e _ (by omega)]
/-- a year lived, by its numbers -/
theorem aLive_step {τ : TT} (hτ : TownOK τ) {P : Nat} (h6 : P ≤ 6) {A : Nat → Int32} {j t : Nat} (hj : j < P) (ht : t < tD τ) (hp : PerOK τ A j) (hy : nv A (18 + j) < tY τ) : (aLive τ P A j t).1 = 0 ∧ aS (aLive τ P A j t).2 j = lvN (aS A j) t ∧ nv (aLive τ P A j t).2 (54 + j) = nv A (54 + j) ∧ (aLive τ P A j t).2 (30 + j) = A (30 + j) + iI (wV τ (nv A (54 + j)) (aS A j) t) ∧ nv (aLive τ P A j t).2 (18 + j) = nv A (18 + j) + 1 := by
  obtain ⟨s0, s1, s2, s3, s4, s5, s6, -⟩ := Per_st hτ hp
  obtain ⟨k1, k2, k3⟩ := s0
  have hY := hτ.1
  have hD := hτ.2.1
  have e : aLive τ P A j t = (0, dl A j (nI (nv A (18 + j) + 1)) (nI t) (nI (if nv A (36 + j) = t then nv A (42 + j) + 1 else 1)) (A (30 + j) + iI (wV τ (nv A (54 + j)) (aS A j) t))) := by
    unfold aLive
    rw [if_pos (show (0 ≤ (j : Int) ∧ (j : Int) < P) ∧ (0 ≤ (t : Int) ∧ (t : Int) < tD τ) by omega)]
    simp only [Int.toNat_natCast]
    rw [if_pos hy]
  rw [e]
  have n1 : ∀ k, k ≠ 18 + j → k ≠ 30 + j → k ≠ 36 + j → k ≠ 42 + j → nv (dl A j (nI (nv A (18 + j) + 1)) (nI t) (nI (if nv A (36 + j) = t then nv A (42 + j) + 1 else 1)) (A (30 + j) + iI (wV τ (nv A (54 + j)) (aS A j) t))) k = nv A k := fun k h1 h2 h3 h4 => by
    unfold nv dl
    rw [if_neg h1, if_neg h2, if_neg h3, if_neg h4]
  have n18 : nv (dl A j (nI (nv A (18 + j) + 1)) (nI t) (nI (if nv A (36 + j) = t then nv A (42 + j) + 1 else 1)) (A (30 + j) + iI (wV τ (nv A (54 + j)) (aS A j) t))) (18 + j) = nv A (18 + j) + 1 := by
    unfold nv dl
    rw [if_pos rfl]
    have := nI_to (j := (A (18 + j)).toInt.toNat + 1) (by have := k2; unfold nv at this; omega)
    rw [this]
    omega
  have n36 : nv (dl A j (nI (nv A (18 + j) + 1)) (nI t) (nI (if nv A (36 + j) = t then nv A (42 + j) + 1 else 1)) (A (30 + j) + iI (wV τ (nv A (54 + j)) (aS A j) t))) (36 + j) = t := by
    refine nv_of ?_ (by omega)
    unfold dl
    rw [if_neg (by omega), if_neg (by omega), if_pos rfl]
  have n42 : nv (dl A j (nI (nv A (18 + j) + 1)) (nI t) (nI (if nv A (36 + j) = t then nv A (42 + j) + 1 else 1)) (A (30 + j) + iI (wV τ (nv A (54 + j)) (aS A j) t))) (42 + j) = (if nv A (36 + j) = t then nv A (42 + j) + 1 else 1) := by
    refine nv_of ?_ (by split <;> omega)
    unfold dl
    rw [if_neg (by omega), if_neg (by omega), if_neg (by omega), if_pos rfl]
  refine ⟨rfl, ?_, n1 _ (by omega) (by omega) (by omega) (by omega), ?_, n18⟩
  · dsimp only
    rw [aS, n1 _ (by omega) (by omega) (by omega) (by omega), n1 (48 + j) (by omega) (by omega) (by omega) (by omega), n18, n36, n42]
    unfold lvN
    rw [s2, s3, s4, s5, s6]
  · dsimp only
    unfold dl
    rw [if_neg (by omega), if_pos rfl]
def tSum (τ : TT) (tal : Nat) (tv : Nat → Nat) : Nat → Nat → Nat → Int → Int
  | 0, _, _, a => a
  | d + 1, j, s, a => tSum τ tal tv d (j + 1) (lvN s (tv j)) (a + wV τ tal s (tv j))
def tSet (τ : TT) (s0 : Nat) (tv : Nat → Nat) (m : Nat) (sum : Int32) : Nat → Nat → Nat → Nat
  | 0, _, a => a
  | d + 1, tal, a => tSet τ s0 tv m sum d (tal + 1) (if iI (tSum τ tal tv m 0 s0 0) = sum then a ||| 2 ^ tal else a)
theorem or10 : ∀ a, a < 1024 → ∀ j, j < 10 → nI a ||| ((1 : Int32) <<< (nI j &&& 31)) = nI (a ||| 2 ^ j) := by decide +kernel
theorem or10_lt {a j : Nat} (ha : a < 1024) (hj : j < 10) : a ||| 2 ^ j < 1024 := Nat.or_lt_two_pow (n := 10) ha (Nat.pow_lt_pow_right (by decide) hj)
theorem tSet_lt {τ : TT} {s0 m : Nat} {tv : Nat → Nat} {sum : Int32} : ∀ (d tal a : Nat), tal + d = 10 → a < 1024 → tSet τ s0 tv m sum d tal a < 1024 := by
  intro d
  induction d with
  | zero => intro tal a _ ha; exact ha
  | succ d ih =>
    intro tal a ht ha
    unfold tSet
    refine ih (tal + 1) _ (by omega) ?_
    split
    · exact or10_lt ha (by omega)
    · exact ha
section
variable {n : Nat} {z : Sh} {b : Nat} {τ : TT} {P t o ro m : Nat} {vs : Nat → Int64} {tv : Nat → Nat}
theorem fit_43 (hn : 400000 ≤ n) (hτ : TownOK τ) (h6 : P ≤ 6) (ho : Tq b o) {p : Nat} (hp : p < P) (hv : ∀ j, j < m → vs j = lI (tv j) ∧ tv j < tD τ) {H : Int32} {rn : Nat → Int32} (hH : rn (9 * p + 2) = H) {k6 : Hp → Nat → Nat → Int32 → Int32 → Int32 → Int32 → Option (Int32 × Hp)} {sum v4 : Int32} {tal : Nat} :
    ∀ (d j i s : Nat) (a : Int) (g : Hp) (A : Nat → Int32), j + d = m → d < i → LayX z g.2.2 b → g.R b 3 = some t → TownX b z g t τ → PplI τ P (g.I (b + 13)) (g.I (b + 14)) A → TC z g o ro m vs → g.I (b + 12) = rn → nv A (54 + p) = tal → aS A p = s → A (30 + p) = H + iI a → nv A (18 + p) + d ≤ tY τ → ∃ g', f_X11_fittingTalents_43 n z k6 i g b o (nI p) sum v4 (nI tal) (nI j) = (if iI (tSum τ tal tv d j s a) = sum then f_X11_fittingTalents_113 n z k6 g' b o (nI p) sum (v4 ||| ((1 : Int32) <<< (nI tal &&& 31))) (nI tal) else f_X11_fittingTalents_113 n z k6 g' b o (nI p) sum v4 (nI tal)) ∧ Cd b (b + 13) (b + 14) g g' := by
  intro d
  induction d with
  | zero =>
    intro j i s a g A hj hi HX hR3 hT HA HC hr e1 e2 e3 hy
    obtain ⟨i, rfl⟩ : ∃ k, i = k + 1 := ⟨i - 1, by omega⟩
    obtain rfl : j = m := by omega
    have k6' := HC.2.2.2.2.2.1
    have q1 : f_X5_part z g (b + 13) (nI p) 2 = some (H + iI a) := by
      rw [show (2 : Int32) = nI 2 from rfl, part_ok (trial_PL HX) (by omega) (by omega), (PX_P HA.1 hp).2.2.1, e3]
    have q2 : f_X5_part z g (b + 11) (nI p) 2 = some H := by
      rw [show (2 : Int32) = nI 2 from rfl, part_ok (now_PL HX) (by omega) (by omega), hr, hH]
    refine ⟨g, ?_, Cd.refl ..⟩
    rw [f_X11_fittingTalents_43.eq_2, gI_ok HC.1, bS, HC.2.2.2.2.1, if_pos ((nI_leI (by omega) (by omega)).mpr (Nat.le_refl _)), gR_ok (kx_0 HX) (rx_0_5 HX), bS, q1, bS, gR_ok (kx_0 HX) (rx_0_4 HX), bS, q2, bS, bS, Int32.add_comm, Int32.add_sub_cancel]
    rfl
  | succ d ih =>
    intro j i s a g A hj hi HX hR3 hT HA HC hr e1 e2 e3 hy
    obtain ⟨i, rfl⟩ : ∃ k, i = k + 1 := ⟨i - 1, by omega⟩
    have k6' := HC.2.2.2.2.2.1
    obtain ⟨v1, v2⟩ := hv j (by omega)
    have hD := hτ.2.1
    have l0 : (lI ((tv j : Nat) : Int)).toInt = tv j := lI_to (by omega) (by omega)
    have p0 : (nI p).toInt = p := nI_to (by omega)
    obtain ⟨g1, f1, c1, x1⟩ := clives_ok (n := n) HX hn (Or.inr ⟨rfl, rfl⟩) (trial_PL HX) hτ hT h6 HA (nI p) (lI (tv j))
    rw [l0, p0] at f1 x1
    obtain ⟨w0, w1, w2, w3, w4⟩ := aLive_step hτ h6 hp v2 (HA.2 p hp) (by omega)
    rw [e1, e2] at w3
    obtain ⟨g', f2, c2⟩ := ih (j + 1) i (lvN s (tv j)) (a + wV τ tal s (tv j)) g1 (aLive τ P A p (tv j)).2 (by omega) (by omega) (by rw [c1.1]; exact HX) (by rw [c1.R]; exact hR3) (hT.fr (c1.fr (Or.inr ⟨rfl, rfl⟩))) ⟨x1, aLive_per hτ h6 HA.2 _ _⟩ (HC.fr (c1.R _) (c1.2.2 _ (by unfold Tq at ho; omega) (by unfold Tq at ho; omega) (by unfold Tq at ho; omega) (by unfold Tq at ho; omega)) (c1.2.1 _)) (by rw [c1.2.2 _ (by omega) (by omega) (by omega) (by omega)]; exact hr) (w2.trans e1) (by rw [w1, e2]) (by rw [w3, e3, ← iI_add, Int32.add_assoc]) (by omega)
    refine ⟨g', ?_, c1.trans c2⟩
    rw [f_X11_fittingTalents_43.eq_2, gI_ok HC.1, bS, HC.2.2.2.2.1, if_neg (fun q => by have := (nI_leI (by omega) (by omega)).mp q; omega), gR_ok (kx_0 HX) (rx_0_11 HX), bS, gR_ok (kx_0 HX) hR3, bS, gR_ok (kx_0 HX) (rx_0_5 HX), bS, num_ok HC (by omega), bS, v1, f1, bS]
    dsimp only
    rw [bS, show nI j + 1 = nI (j + 1) from nI_add j 1]
    exact f2
theorem fit_6 (hn : 400000 ≤ n) (hτ : TownOK τ) (h6 : P ≤ 6) (ho : Tq b o) {p : Nat} (hp : p < P) (hv : ∀ j, j < m → vs j = lI (tv j) ∧ tv j < tD τ) {A : Nat → Int32} {sum : Int32} (hm : nv A (18 + p) + m ≤ tY τ) :
    ∀ (d tal i a : Nat) (g : Hp), tal + d = 10 → d < i → a < 1024 → LayX z g.2.2 b → g.R b 3 = some t → TownX b z g t τ → PplI τ P (g.I (b + 11)) (g.I (b + 12)) A → TC z g o ro m vs → ∃ g', f_X11_fittingTalents_6 n z i g b o (nI p) sum (nI a) (nI tal) = some (nI (tSet τ (aS A p) tv m sum d tal a), g') ∧ Cd b (b + 13) (b + 14) g g' := by
  intro d
  induction d with
  | zero =>
    intro tal i a g hj hi ha HX hR3 hT HA HC
    obtain ⟨i, rfl⟩ : ∃ k, i = k + 1 := ⟨i - 1, by omega⟩
    obtain rfl : tal = 10 := by omega
    refine ⟨g, ?_, Cd.refl ..⟩
    rw [f_X11_fittingTalents_6.eq_2, if_pos (by decide)]
    rfl
  | succ d ih =>
    intro tal i a g hj hi ha HX hR3 hT HA HC
    obtain ⟨i, rfl⟩ : ∃ k, i = k + 1 := ⟨i - 1, by omega⟩
    have cp := copy_ok (h := g) (trial_PL HX) (now_PL HX) (by omega) (by omega)
    have c1 : Cd b (b + 13) (b + 14) g ((g.rowI (b + 14) (va_cpy (g.I (b + 12)) (g.I (b + 14)) 0 0 54)).rowI (b + 13) (upd (upd (g.I (b + 13)) 1 (g.I (b + 11) 1)) 2 (g.I (b + 11) 2))) := (Cd.row g _ (by omega)).trans (Cd.row _ _ (by omega))
    have x1 : PeopleX (((g.rowI (b + 14) (va_cpy (g.I (b + 12)) (g.I (b + 14)) 0 0 54)).rowI (b + 13) (upd (upd (g.I (b + 13)) 1 (g.I (b + 11) 1)) 2 (g.I (b + 11) 2))).I (b + 13)) (((g.rowI (b + 14) (va_cpy (g.I (b + 12)) (g.I (b + 14)) 0 0 54)).rowI (b + 13) (upd (upd (g.I (b + 13)) 1 (g.I (b + 11) 1)) 2 (g.I (b + 11) 2))).I (b + 14)) A P := by
      rw [rowI_I, rowI_ne _ _ (by omega), rowI_I]
      exact HA.1.cp h6 (by rw [upd, if_neg (by omega), upd, if_pos rfl]) (by rw [upd, if_pos rfl]) (fun k hk => cp54 hk)
    rw [f_X11_fittingTalents_6.eq_2, if_neg (fun q => by have := (nI_leI (a := 10) (by omega) (by omega)).mp q; omega), gR_ok (kx_0 HX) (rx_0_5 HX), bS, gR_ok (kx_0 HX) (rx_0_4 HX), bS, cp, bS]
    generalize (g.rowI (b + 14) (va_cpy (g.I (b + 12)) (g.I (b + 14)) 0 0 54)).rowI (b + 13) (upd (upd (g.I (b + 13)) 1 (g.I (b + 11) 1)) 2 (g.I (b + 11) 2)) = g1 at *
    have HX1 : LayX z g1.2.2 b := by rw [c1.1]; exact HX
    rw [gR_ok (kx_0 HX) (rx_0_5 HX1), bS, show (6 : Int32) = nI 6 from rfl, put_ok (trial_PL HX1) (by omega) (by omega), bS]
    have c2 : Cd b (b + 13) (b + 14) g (g1.setI (b + 14) (9 * p + 6) (nI tal)) := c1.trans (Cd.row g1 _ (by omega))
    have x2 : PeopleX ((g1.setI (b + 14) (9 * p + 6) (nI tal)).I (b + 13)) ((g1.setI (b + 14) (9 * p + 6) (nI tal)).I (b + 14)) (upd A (54 + p) (nI tal)) P := by
      rw [setI_I, if_neg (by omega), setI_I, if_pos rfl]
      exact PX_tal h6 hp x1
    generalize g1.setI (b + 14) (9 * p + 6) (nI tal) = g2 at *
    obtain ⟨as1, as2⟩ := aS_tal (A := A) (j := p) (v := nI tal) (by omega)
    have i11 : g2.I (b + 11) = g.I (b + 11) := c2.2.2 _ (by omega) (by omega) (by omega) (by omega)
    have i12 : g2.I (b + 12) = g.I (b + 12) := c2.2.2 _ (by omega) (by omega) (by omega) (by omega)
    have TC2 : TC z g2 o ro m vs := HC.fr (c2.R _) (c2.2.2 _ (by unfold Tq at ho; omega) (by unfold Tq at ho; omega) (by unfold Tq at ho; omega) (by unfold Tq at ho; omega)) (c2.2.1 _)
    have T2 : TownX b z g2 t τ := hT.fr (c2.fr (Or.inr ⟨rfl, rfl⟩))
    obtain ⟨g3, f1, c3⟩ := fit_43 (n := n) (z := z) (b := b) (τ := τ) (P := P) (t := t) (o := o) (ro := ro) (m := m) (vs := vs) (tv := tv) hn hτ h6 ho hp hv (H := A (30 + p)) (rn := g.I (b + 12)) (PX_P HA.1 hp).2.2.1 (k6 := f_X11_fittingTalents_6 n z i) (sum := sum) (v4 := nI a) (tal := tal) m 0 n (aS A p) 0 g2 (upd A (54 + p) (nI tal)) (by omega) (by have := HC.2.2.2.2.2.1; omega) (by rw [c2.1]; exact HX) (by rw [c2.R]; exact hR3) T2 ⟨x2, per_tal (by omega) h6 hp HA.2⟩ TC2 i12 (nv_of (by unfold upd; rw [if_pos rfl]) (by omega)) as1 (by unfold upd; rw [if_neg (by omega), show iI 0 = (0 : Int32) by decide, Int32.add_zero]) (by rw [as2 _ (by omega)]; exact hm)
    have c4 := c2.trans c3
    have HX3 : LayX z g3.2.2 b := by rw [c4.1]; exact HX
    have T3 : TownX b z g3 t τ := hT.fr (c4.fr (Or.inr ⟨rfl, rfl⟩))
    have TC3 : TC z g3 o ro m vs := HC.fr (c4.R _) (c4.2.2 _ (by unfold Tq at ho; omega) (by unfold Tq at ho; omega) (by unfold Tq at ho; omega) (by unfold Tq at ho; omega)) (c4.2.1 _)
    have HA3 : PplI τ P (g3.I (b + 11)) (g3.I (b + 12)) A := by
      rw [c4.2.2 (b + 11) (by omega) (by omega) (by omega) (by omega), c4.2.2 (b + 12) (by omega) (by omega) (by omega) (by omega)]
      exact HA
    have go : ∀ a', a' < 1024 → ∃ g', f_X11_fittingTalents_6 n z i g3 b o (nI p) sum (nI a') (nI (tal + 1)) = some (nI (tSet τ (aS A p) tv m sum d (tal + 1) a'), g') ∧ Cd b (b + 13) (b + 14) g g' := fun a' ha' => by
      obtain ⟨g', e, c⟩ := ih (tal + 1) i a' g3 (by omega) (by omega) ha' HX3 (by rw [c4.R]; exact hR3) T3 HA3 TC3
      exact ⟨g', e, c4.trans c⟩
    rw [show (0 : Int32) = nI 0 from rfl, f1]
    unfold f_X11_fittingTalents_113 tSet
    rw [bS, bS, show nI tal + 1 = nI (tal + 1) from nI_add tal 1]
    by_cases hs : iI (tSum τ tal tv m 0 (aS A p) 0) = sum
    · rw [if_pos hs, if_pos hs, or10 a ha tal (by omega)]
      exact go _ (or10_lt ha (by omega))
    · rw [if_neg hs, if_neg hs]
      exact go a ha
/-- the reference's -/
theorem tal_26 (hn : 400000 ≤ n) {A : Nat → Int32} {tr : Nat} (htr : tr < 4) (hm : m ≤ 40) (hv : ∀ j, j < m → vs j = lI (tv j) ∧ tv j < tD τ) {k6 : Hp → Nat → Int32 → Int32 → Int32 → Int32 → Int32 → Option (Int32 × Hp)} {p sum v4 : Int32} {tal : Nat} (ht : tal ≤ 9) :
    ∀ (d j i s : Nat) (a : Int) (g : Hp), j + d = m → d < i → RefI b z g τ P A → g.I (b + 90) tr = nI m → (∀ j, j < m → g.J (b + 91) (40 * tr + j) = vs j) → SV τ s → sY s + d ≤ tY τ → ∃ g', f_X12_talentsOf_26 n z k6 i g (b + 72) (nI tr) p sum v4 (nI tal) (nI s) (iI a) (nI j) = (if iI (tSum τ tal tv d j s a) = sum then f_X12_talentsOf_98 n z k6 g' (b + 72) (nI tr) p sum (nI tal) ((1 : Int32) <<< (nI tal &&& 31)) v4 else f_X12_talentsOf_98 n z k6 g' (b + 72) (nI tr) p sum (nI tal) 0 v4) ∧ Rd b g g' ∧ g'.I (b + 73) = g.I (b + 73) ∧ g'.I (b + 72) = g.I (b + 72) := by
  intro d
  induction d with
  | zero =>
    intro j i s a g hj hi H hM hJ hs hy
    obtain ⟨i, rfl⟩ : ∃ k, i = k + 1 := ⟨i - 1, by omega⟩
    obtain rfl : j = m := by omega
    have HM := H.1
    refine ⟨g, ?_, Rd.refl .., rfl, rfl⟩
    rw [f_X12_talentsOf_26.eq_2, gR_ok (km_0 HM) (rm_34 HM), bS, lm_18 HM htr, bS, hM, if_pos ((nI_leI (by omega) (by omega)).mpr (Nat.le_refl _))]
    rfl
  | succ d ih =>
    intro j i s a g hj hi H hM hJ hs hy
    obtain ⟨i, rfl⟩ : ∃ k, i = k + 1 := ⟨i - 1, by omega⟩
    have HM := H.1
    obtain ⟨v1, v2⟩ := hv j (by omega)
    have hτ := H.2.1
    have hD := hτ.2.1
    have hJj := hJ j (by omega)
    obtain ⟨r1, r2, hw⟩ := mworth_ok (n := n) (z := z) (h := g) HM hn hτ (by rw [H.2.2.1]; exact H.2.2.2.1) (tal := tal) (s := s) (t := tv j) ht hs.1 (by omega)
    have c1 : Rd b g ((g.rowI (b + 78) r1).rowI (b + 77) r2) := (Rd.row g r1 (by omega)).trans (Rd.row _ r2 (by omega))
    have g73 : ((g.rowI (b + 78) r1).rowI (b + 77) r2).I (b + 73) = g.I (b + 73) := by rw [rowI_ne _ _ (by omega), rowI_ne _ _ (by omega)]
    have g72 : ((g.rowI (b + 78) r1).rowI (b + 77) r2).I (b + 72) = g.I (b + 72) := by rw [rowI_ne _ _ (by omega), rowI_ne _ _ (by omega)]
    have g90 : ((g.rowI (b + 78) r1).rowI (b + 77) r2).I (b + 90) = g.I (b + 90) := by rw [rowI_ne _ _ (by omega), rowI_ne _ _ (by omega)]
    have hl := lv_SV hτ hs v2 (by omega)
    rw [f_X12_talentsOf_26.eq_2, gR_ok (km_0 HM) (rm_34 HM), bS, lm_18 HM htr, bS, hM, if_neg (fun q => by have := (nI_leI (by omega) (by omega)).mp q; omega), gR_ok (km_0 HM) (rm_35 HM), bS, show (40 : Int32) = nI 40 from rfl, nI_mul, nI_add, lm_19 HM (by omega), bS, bS, hJj, v1, lI_32, ← nI_iI, hw, bS]
    dsimp only
    rw [bS, iI_add, lv_ok hs.1 (by omega), bS, bS, show nI j + 1 = nI (j + 1) from nI_add j 1]
    generalize (g.rowI (b + 78) r1).rowI (b + 77) r2 = g1 at *
    obtain ⟨g', f2, c2, e1, e2⟩ := ih (j + 1) i (lvN s (tv j)) (a + wV τ tal s (tv j)) g1 (by omega) (by omega) (H.fr c1.1 g73) (by rw [g90]; exact hM) (by rw [c1.2.1]; exact hJ) hl.1 (by rw [hl.2.2.2.1]; omega)
    exact ⟨g', f2, c1.trans c2, e1.trans g73, e2.trans g72⟩
theorem tal_6 (hn : 400000 ≤ n) {A : Nat → Int32} {tr : Nat} (htr : tr < 4) (hm : m ≤ 40) (hv : ∀ j, j < m → vs j = lI (tv j) ∧ tv j < tD τ) {p : Nat} (hp : p < P) {sum : Int32} (hy : nv A (18 + p) + m ≤ tY τ) :
    ∀ (d tal i a : Nat) (g : Hp), tal + d = 10 → d < i → a < 1024 → RefI b z g τ P A → g.I (b + 90) tr = nI m → (∀ j, j < m → g.J (b + 91) (40 * tr + j) = vs j) → ∃ g', f_X12_talentsOf_6 n z i g (b + 72) (nI tr) (nI p) sum (nI a) (nI tal) = some (nI (tSet τ (aS A p) tv m sum d tal a), g') ∧ Rd b g g' ∧ g'.I (b + 73) = g.I (b + 73) ∧ g'.I (b + 72) = g.I (b + 72) := by
  intro d
  induction d with
  | zero =>
    intro tal i a g hj hi ha H hM hJ
    obtain ⟨i, rfl⟩ : ∃ k, i = k + 1 := ⟨i - 1, by omega⟩
    obtain rfl : tal = 10 := by omega
    refine ⟨g, ?_, Rd.refl .., rfl, rfl⟩
    rw [f_X12_talentsOf_6.eq_2, if_pos (by decide)]
    rfl
  | succ d ih =>
    intro tal i a g hj hi ha H hM hJ
    obtain ⟨i, rfl⟩ : ∃ k, i = k + 1 := ⟨i - 1, by omega⟩
    obtain ⟨s0, s1, s2, s3, s4, -⟩ := Per_st H.2.1 (H.2.2.2.2.2.2 p hp)
    obtain ⟨g1, f1, c1, e1, e2⟩ := tal_26 (n := n) (z := z) (b := b) (τ := τ) (P := P) (m := m) (vs := vs) (tv := tv) hn (A := A) htr hm hv (k6 := f_X12_talentsOf_6 n z i) (p := nI p) (sum := sum) (v4 := nI a) (tal := tal) (by omega) m 0 n (aS A p) 0 g (by omega) (by omega) H hM hJ s1 (by rw [s4]; exact hy)
    have go : ∀ a', a' < 1024 → ∃ g', f_X12_talentsOf_6 n z i g1 (b + 72) (nI tr) (nI p) sum (nI a') (nI (tal + 1)) = some (nI (tSet τ (aS A p) tv m sum d (tal + 1) a'), g') ∧ Rd b g g' ∧ g'.I (b + 73) = g.I (b + 73) ∧ g'.I (b + 72) = g.I (b + 72) := fun a' ha' => by
      obtain ⟨g', e, c, q1, q2⟩ := ih (tal + 1) i a' g1 (by omega) (by omega) ha' (H.fr c1.1 e1) (by rw [c1.2.2.1 _ (by omega) (by omega) (by omega) (by omega)]; exact hM) (by rw [c1.2.1]; exact hJ)
      exact ⟨g', e, c1.trans c, q1.trans e1, q2.trans e2⟩
    rw [f_X12_talentsOf_6.eq_2, if_neg (fun q => by have := (nI_leI (a := 10) (by omega) (by omega)).mp q; omega), now_ok H hp, bS, show f_X12_talentsOf_26 n z (f_X12_talentsOf_6 n z i) n g (b + 72) (nI tr) (nI p) sum (nI a) (nI tal) (nI (aS A p)) 0 0 = _ from f1]
    unfold f_X12_talentsOf_98 tSet
    rw [bS, bS, bS, show nI tal + 1 = nI (tal + 1) from nI_add tal 1]
    by_cases hs : iI (tSum τ tal tv m 0 (aS A p) 0) = sum
    · rw [if_pos hs, if_pos hs, or10 a ha tal (by omega)]
      exact go _ (or10_lt ha (by omega))
    · rw [if_neg hs, if_neg hs, bS, show nI a ||| (0 : Int32) = nI a from Int32.or_zero]
      exact go a ha
end
