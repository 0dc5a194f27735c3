/-! ===== town, 11: lines with a number ===== -/
def CLS (b : Nat) (sv : Nat → Nat) (z : Sh) (tx : Nat → Nat) (N t : Nat) (T : Tk) (D : Dt) (h : Hp) : Prop := (∃ w L, CS b sv z tx N w T L h) ∧ CT b z t D h ∧ DOK D
def RLS (b : Nat) (sv : Nat → Nat) (z : Sh) (tx : Nat → Nat) (N : Nat) (T : Tk) (M : List Nat) (D : Dt) (g : Hp) : Prop := (∃ w, RS b sv z tx N w T M g) ∧ RT b M D g ∧ M.length ≤ T.1
def Jl (n b : Nat) (sv : Nat → Nat) (tx : Nat → Nat) (N zs t : Nat) (z : Sh) (h : Hp) (T : Tk) (D : Dt) (cl : Option (Int32 × Hp × Sh)) : Prop :=
  (∃ h' z' fl pl, cl = some (0, h', z') ∧ Gz b zs z h z' h' ∧ (z'.sz ≤ z.sz + (N - T.1) ∧ z'.sl ≤ z.sl + (N - T.1)) ∧ CF b 2 fl pl h' ∧ ∀ zr g M, RLS b sv zr tx N T M D g → ∃ g', (f_X12_readLine n zr g (b + 72)).bind (fun g1 => f_X12_ends n zr g1 (b + 72)) = some g' ∧ FrT b g g' ∧ RF b zr fl pl g') ∨
  (∃ h' z' T' D', cl = some (1, h', z') ∧ Gz b zs z h z' h' ∧ (z'.sz + T.1 ≤ z.sz + T'.1 ∧ z'.sl + T.1 ≤ z.sl + T'.1) ∧ T.1 + 1 ≤ T'.1 ∧ CLS b sv z' tx N t T' D' h' ∧ ∀ zr g M, RLS b sv zr tx N T M D g → ∃ g' M', (f_X12_readLine n zr g (b + 72)).bind (fun g1 => f_X12_ends n zr g1 (b + 72)) = some g' ∧ FrT b g g' ∧ RLS b sv zr tx N T' M' D' g')
section
variable {n b N zs t : Nat} {sv : Nat → Nat} {z : Sh} {tx : Nat → Nat} {T : Tk} {h : Hp} {D : Dt}
theorem Jl.bad {cl : Option (Int32 × Hp × Sh)} {h1 : Hp} {z1 : Sh} {fl pl : Nat} (hcl : cl = some (0, h1, z1)) (G : Gz b zs z h z1 h1) (gr : z1.sz ≤ z.sz + (N - T.1) ∧ z1.sl ≤ z.sl + (N - T.1)) (F : CF b 2 fl pl h1)
    (hrf : ∀ zr g M, RLS b sv zr tx N T M D g → ∃ g1, f_X12_readLine n zr g (b + 72) = some g1 ∧ FrT b g g1 ∧ RF b zr fl pl g1) : Jl n b sv tx N zs t z h T D cl := by
  refine Or.inl ⟨h1, z1, fl, pl, hcl, G, gr, F, fun zr g M R => ?_⟩
  obtain ⟨g1, r1, r2, r3⟩ := hrf zr g M R
  obtain ⟨g2, t1, t2, t3⟩ := endr_F (n := n) r3
  exact ⟨g2, by rw [r1, bS, t1], r2.tr t2, t3⟩
theorem Jl.fin {cl : Option (Int32 × Hp × Sh)} {h1 : Hp} {z1 : Sh} {T1 : Tk} {D1 : Dt} {w : Nat} {L : List Nat} (C1 : CS b sv z1 tx N w T1 L h1) (H1 : CT b z1 t D1 h1) (O1 : DOK D1) (hz : zs ≤ t) (G : Gz b zs z h z1 h1) (gr : z1.sz + T.1 ≤ z.sz + T1.1 ∧ z1.sl + T.1 ≤ z.sl + T1.1) (hT : T.1 + 1 ≤ T1.1) (Z1 : ZC b z1) (hN : N ≤ 900) (hx : ∀ j, tx j < 256) (hn : 400000 ≤ n)
    (hc0 : ∀ h2, f_X6_endLine n z1 h1 (b + 2) = some (0, h2) → cl = some (0, h2, z1)) (hc1 : ∀ h2, f_X6_endLine n z1 h1 (b + 2) = some (1, h2) → cl = some (1, h2, z1))
    (hrf : ∀ zr g M, RLS b sv zr tx N T M D g → ∃ g1 M1, f_X12_readLine n zr g (b + 72) = some g1 ∧ FrT b g g1 ∧ RLS b sv zr tx N T1 M1 D1 g1) : Jl n b sv tx N zs t z h T D cl := by
  obtain ⟨yr, tr, P, ca, di, li, tal, fe, LW, LG⟩ := D1
  have hP : P ≤ 6 := O1.2.2.1
  have hT1 := tkT C1.tk
  by_cases k30 : T1.2.2.1 = 30
  · obtain ⟨h2, e1, e2, e3, e4⟩ := endc_t (zs := zs) C1 H1 hz Z1 hN hx hn k30
    have tg := tkG C1.tk (by omega)
    refine Or.inr ⟨h2, z1, _, _, hc1 _ e1, G.tr e2, ⟨by omega, by omega⟩, by omega, ⟨⟨_, _, e3⟩, e4, O1⟩, fun zr g M R => ?_⟩
    obtain ⟨g1, M1, r1, r2, ⟨wr, r3⟩, r4, r5⟩ := hrf zr g M R
    obtain ⟨g2, t1, t2, t3, t4⟩ := endr_t (n := n) r3 r4 hP hN hx hn k30
    exact ⟨g2, M1, by rw [r1, bS, t1], r2.tr t2, ⟨_, t3⟩, t4, by omega⟩
  · obtain ⟨h2, e1, e2, e3⟩ := endc_f (zs := zs) C1 H1 hz Z1 hN hx hn k30
    refine Or.inl ⟨h2, z1, _, _, hc0 _ e1, G.tr e2, ⟨by omega, by omega⟩, e3, fun zr g M R => ?_⟩
    obtain ⟨g1, M1, r1, r2, ⟨wr, r3⟩, r4, r5⟩ := hrf zr g M R
    obtain ⟨g2, t1, t2, t3⟩ := endr_f (n := n) r3 k30
    exact ⟨g2, by rw [r1, bS, t1], r2.tr t2, t3⟩
end
section
variable {n b N w zs t : Nat} {sv : Nat → Nat} {z : Sh} {tx : Nat → Nat} {T : Tk} {L : List Nat} {h : Hp} {yr tr P ca di li : Nat} {tal fe : Nat → Nat} {LW LG : List Nat}
theorem ln_ca (C : CS b sv z tx N w T L h) (H : CT b z t (yr, tr, P, ca, di, li, tal, fe, LW, LG) h) (O : DOK (yr, tr, P, ca, di, li, tal, fe, LW, LG)) (hz : zs ≤ t) (Z : ZC b z) (hN : N ≤ 900) (hx : ∀ j, tx j < 256) (hn : 400000 ≤ n) (hk : T.2.2.1 = 6) : Jl n b sv tx N zs t z h T (yr, tr, P, ca, di, li, tal, fe, LW, LG) (f_X6_readLine n z h (b + 2)) := by
  have n10 : ¬ ((1 : Int32) = 0) := by decide
  have hT := tkT C.tk
  have tg := tkG C.tk (by omega)
  obtain ⟨h1, e1, e2, C1⟩ := next_C C Z hN hx hn
  have H1 := H.fc e2
  obtain ⟨⟨r1, r2, r3⟩, r4, -⟩ := id H1
  have hT1 := tkT C1.tk
  by_cases q : (tkN tx N T.2.1).2.2.1 = 24 ∧ 0 ≤ (tkN tx N T.2.1).2.2.2 ∧ (tkN tx N T.2.1).2.2.2 ≤ 999
  · obtain ⟨h2, f1, f2, C2⟩ := takeN_t C1 Z hN hx hn (lo := 0) (hi := 999) (by decide) (by decide) q.1 q.2.1 q.2.2
    have f1 : f_X6_takeNumber n z h1 (b + 2) 0 999 = some (nI (tkN tx N T.2.1).2.2.2, h2) := f1
    have tg2 := tkG C1.tk (by omega)
    have C3 : CS b sv z tx N w _ L (h2.setI t 3 (nI (tkN tx N T.2.1).2.2.2)) := C2.mv (by omega) (fun _ _ => ⟨rfl, rfl⟩) (fun _ => rfl) (fun a ha => sI_o (by omega)) (fun _ _ => rfl)
    have H3 := (H1.fc f2).s_ca (x := (tkN tx N T.2.1).2.2.2)
    have c0 := C3.2.2.1
    have U : ∀ x h4, f_X6_endLine n z (h2.setI t 3 (nI (tkN tx N T.2.1).2.2.2)) (b + 2) = some (x, h4) → f_X6_readLine n z h (b + 2) = gd3 z (if x = 0 then some (0, h4, z) else some (1, h4, z)) := by
      intro x h4 e
      unfold f_X6_readLine
      rw [if_pos Z.2.2.1, is_n C Z hN hx hn (s := 15) (by decide) (by decide) (by rw [hk]; decide), bS, if_pos rfl, is_y C Z hN hx hn (s := 18) (by decide) (by decide) hk, bS, if_neg n10, e1, bS, gR_ok Z.2.2.1 r1, bS, f1, bS]
      show gd3 z ((pI z h2 8 t 3 (nI (tkN tx N T.2.1).2.2.2)).bind _) = _
      rw [pI_ok r4.1, bS, gI_ok Z.2.2.1, bS, c0, if_pos (show nI 0 = 0 from rfl), e, bS]
    refine Jl.fin C3 H3 ⟨O.1, O.2.1, O.2.2.1, q.2.2, O.2.2.2.2⟩ hz ((Gz.fc e2).tr ((Gz.fc f2).tr (Gz.st hz))) ⟨by omega, by omega⟩ (by omega) Z hN hx hn (fun h4 e => ?_) (fun h4 e => ?_) (fun zr g M R => ?_)
    · rw [U _ _ e]
      exact gd3_go ⟨Nat.le_refl _, Nat.le_refl _⟩ (if_pos rfl)
    · rw [U _ _ e]
      exact gd3_go ⟨Nat.le_refl _, Nat.le_refl _⟩ (if_neg n10)
    · obtain ⟨⟨wr, R⟩, R2, R3⟩ := R
      obtain ⟨g1, a1, a2, a3⟩ := eats_t R hN hx hn (k := 6) (by decide) hk
      obtain ⟨g2, b1, b2, b3⟩ := takes_t (n := n) a3 hN hx hn (lo := 0) (hi := 999) (by decide) (by decide) q.1 q.2.1 q.2.2
      have b1 : f_X12_takes n zr g1 (b + 72) 0 999 = some (nI (tkN tx N T.2.1).2.2.2, g2) := b1
      have R4 := ((R2.fr O.2.2.1 a2).fr O.2.2.1 b2).s_ca (by have := O.2.2.1; exact this) (x := (tkN tx N T.2.1).2.2.2)
      refine ⟨g2.setI (b + 76) 17 (nI (tkN tx N T.2.1).2.2.2), M, ?_, (a2.t.tr b2.t).tr FrT.s76, ⟨wr, b3.s76 (by decide)⟩, R4, by omega⟩
      unfold f_X12_readLine
      rw [if_pos R.K, gI_ok R.K, bS, R.2.2.1, if_pos (show nI 0 = 0 from rfl), show f_X12_is zr g (b + 72) 3 = _ from is_rn R (k := 3) (by decide) (by omega), bS, if_pos rfl, show f_X12_eats n zr g (b + 72) 6 = _ from a1, bS]
      show (if (1 : Int32) = 0 then _ else _) = _
      rw [if_neg n10, gR_ok a3.K (rm_4 a3.1.1), bS, b1, bS]
      show (stI zr g2 (b + 76) 17 (nI (tkN tx N T.2.1).2.2.2)).bind _ = _
      rw [show stI zr g2 (b + 76) 17 _ = _ from sm_4 (j := 17) b3.1.1 (by decide), bS]
  · obtain ⟨h2, f1, f2, F2⟩ := takeN_f (n := n) C1 Z hN (lo := 0) (hi := 999) (by decide) (by decide) q
    have f1 : f_X6_takeNumber n z h1 (b + 2) 0 999 = some (nI 0, h2) := f1
    have F3 : CF b 2 _ _ (h2.setI t 3 (nI 0)) := F2.wk.mv (sI_o (by omega)) rfl
    have nf : ¬ ((h2.setI t 3 (nI 0)).I (b + 2) 0 = 0) := fun w => by
      have h1 := F3.1
      rw [h1] at w
      have := (nI_inj (j := 0) (by have := F3.2.2.2.1; omega) (by decide)).mp w
      have := F3.2.2.1
      omega
    refine Jl.bad (h1 := h2.setI t 3 (nI 0)) (z1 := z) ?_ ((Gz.fc e2).tr ((Gz.fc f2).tr (Gz.st hz))) ⟨by omega, by omega⟩ F3 (fun zr g M R => ?_)
    · unfold f_X6_readLine
      rw [if_pos Z.2.2.1]
      refine gd3_go ⟨Nat.le_refl _, Nat.le_refl _⟩ ?_
      rw [is_n C Z hN hx hn (s := 15) (by decide) (by decide) (by rw [hk]; decide), bS, if_pos rfl, is_y C Z hN hx hn (s := 18) (by decide) (by decide) hk, bS, if_neg n10, e1, bS, gR_ok Z.2.2.1 r1, bS, f1, bS]
      show (pI z h2 8 t 3 (nI 0)).bind _ = _
      rw [pI_ok r4.1, bS, gI_ok Z.2.2.1, bS, if_neg nf]
    · obtain ⟨⟨wr, R⟩, R2, R3⟩ := R
      obtain ⟨g1, a1, a2, a3⟩ := eats_t R hN hx hn (k := 6) (by decide) hk
      obtain ⟨g2, x, b1, b2, b3⟩ := takes_f (n := n) a3 (lo := 0) (hi := 999) (by decide) (by decide) q
      have b1 : f_X12_takes n zr g1 (b + 72) 0 999 = some (x, g2) := b1
      refine ⟨g2.setI (b + 76) 17 x, ?_, (a2.t.tr b2.t).tr FrT.s76, b3.s76⟩
      unfold f_X12_readLine
      rw [if_pos R.K, gI_ok R.K, bS, R.2.2.1, if_pos (show nI 0 = 0 from rfl), show f_X12_is zr g (b + 72) 3 = _ from is_rn R (k := 3) (by decide) (by omega), bS, if_pos rfl, show f_X12_eats n zr g (b + 72) 6 = _ from a1, bS]
      show (if (1 : Int32) = 0 then _ else _) = _
      rw [if_neg n10, gR_ok a3.K (rm_4 a3.1.1), bS, b1, bS]
      show (stI zr g2 (b + 76) 17 x).bind _ = _
      rw [show stI zr g2 (b + 76) 17 _ = _ from sm_4 (j := 17) b3.1 (by decide), bS]
theorem ln_di (C : CS b sv z tx N w T L h) (H : CT b z t (yr, tr, P, ca, di, li, tal, fe, LW, LG) h) (O : DOK (yr, tr, P, ca, di, li, tal, fe, LW, LG)) (hz : zs ≤ t) (Z : ZC b z) (hN : N ≤ 900) (hx : ∀ j, tx j < 256) (hn : 400000 ≤ n) (hk : T.2.2.1 = 7) : Jl n b sv tx N zs t z h T (yr, tr, P, ca, di, li, tal, fe, LW, LG) (f_X6_readLine n z h (b + 2)) := by
  have n10 : ¬ ((1 : Int32) = 0) := by decide
  have hT := tkT C.tk
  have tg := tkG C.tk (by omega)
  obtain ⟨h1, e1, e2, C1⟩ := next_C C Z hN hx hn
  have H1 := H.fc e2
  obtain ⟨⟨r1, r2, r3⟩, r4, -⟩ := id H1
  have hT1 := tkT C1.tk
  by_cases q : (tkN tx N T.2.1).2.2.1 = 24 ∧ 0 ≤ (tkN tx N T.2.1).2.2.2 ∧ (tkN tx N T.2.1).2.2.2 ≤ 10
  · obtain ⟨h2, f1, f2, C2⟩ := takeN_t C1 Z hN hx hn (lo := 0) (hi := 10) (by decide) (by decide) q.1 q.2.1 q.2.2
    have f1 : f_X6_takeNumber n z h1 (b + 2) 0 10 = some (nI (tkN tx N T.2.1).2.2.2, h2) := f1
    have tg2 := tkG C1.tk (by omega)
    have C3 : CS b sv z tx N w _ L (h2.setI t 4 (nI (tkN tx N T.2.1).2.2.2)) := C2.mv (by omega) (fun _ _ => ⟨rfl, rfl⟩) (fun _ => rfl) (fun a ha => sI_o (by omega)) (fun _ _ => rfl)
    have H3 := (H1.fc f2).s_di (x := (tkN tx N T.2.1).2.2.2)
    have c0 := C3.2.2.1
    have U : ∀ x h4, f_X6_endLine n z (h2.setI t 4 (nI (tkN tx N T.2.1).2.2.2)) (b + 2) = some (x, h4) → f_X6_readLine n z h (b + 2) = gd3 z (if x = 0 then some (0, h4, z) else some (1, h4, z)) := by
      intro x h4 e
      unfold f_X6_readLine
      rw [if_pos Z.2.2.1, is_n C Z hN hx hn (s := 15) (by decide) (by decide) (by rw [hk]; decide), bS, if_pos rfl, is_n C Z hN hx hn (s := 18) (by decide) (by decide) (by rw [hk]; decide), bS, if_pos rfl, is_y C Z hN hx hn (s := 19) (by decide) (by decide) hk, bS, if_neg n10, e1, bS, gR_ok Z.2.2.1 r1, bS, f1, bS]
      show gd3 z ((pI z h2 8 t 4 (nI (tkN tx N T.2.1).2.2.2)).bind _) = _
      rw [pI_ok r4.1, bS, gI_ok Z.2.2.1, bS, c0, if_pos (show nI 0 = 0 from rfl), e, bS]
    refine Jl.fin C3 H3 ⟨O.1, O.2.1, O.2.2.1, O.2.2.2.1, q.2.2, O.2.2.2.2.2⟩ hz ((Gz.fc e2).tr ((Gz.fc f2).tr (Gz.st hz))) ⟨by omega, by omega⟩ (by omega) Z hN hx hn (fun h4 e => ?_) (fun h4 e => ?_) (fun zr g M R => ?_)
    · rw [U _ _ e]
      exact gd3_go ⟨Nat.le_refl _, Nat.le_refl _⟩ (if_pos rfl)
    · rw [U _ _ e]
      exact gd3_go ⟨Nat.le_refl _, Nat.le_refl _⟩ (if_neg n10)
    · obtain ⟨⟨wr, R⟩, R2, R3⟩ := R
      obtain ⟨g1, a1, a2, a3⟩ := eats_t R hN hx hn (k := 7) (by decide) hk
      obtain ⟨g2, b1, b2, b3⟩ := takes_t (n := n) a3 hN hx hn (lo := 0) (hi := 10) (by decide) (by decide) q.1 q.2.1 q.2.2
      have b1 : f_X12_takes n zr g1 (b + 72) 0 10 = some (nI (tkN tx N T.2.1).2.2.2, g2) := b1
      have R4 := ((R2.fr O.2.2.1 a2).fr O.2.2.1 b2).s_di (x := (tkN tx N T.2.1).2.2.2)
      refine ⟨g2.setI (b + 76) 4 (nI (tkN tx N T.2.1).2.2.2), M, ?_, (a2.t.tr b2.t).tr FrT.s76, ⟨wr, b3.s76 (by decide)⟩, R4, by omega⟩
      unfold f_X12_readLine
      rw [if_pos R.K, gI_ok R.K, bS, R.2.2.1, if_pos (show nI 0 = 0 from rfl), show f_X12_is zr g (b + 72) 3 = _ from is_rn R (k := 3) (by decide) (by omega), bS, if_pos rfl, show f_X12_eats n zr g (b + 72) 6 = some (0, g) from eats_f R (k := 6) (by decide) (by omega), bS]
      show (if (0 : Int32) = 0 then _ else _) = _
      rw [if_pos rfl, show f_X12_eats n zr g (b + 72) 7 = _ from a1, bS]
      show (if (1 : Int32) = 0 then _ else _) = _
      rw [if_neg n10, gR_ok a3.K (rm_4 a3.1.1), bS, b1, bS]
      show (stI zr g2 (b + 76) 4 (nI (tkN tx N T.2.1).2.2.2)).bind _ = _
      rw [show stI zr g2 (b + 76) 4 _ = _ from sm_4 (j := 4) b3.1.1 (by decide), bS]
  · obtain ⟨h2, f1, f2, F2⟩ := takeN_f (n := n) C1 Z hN (lo := 0) (hi := 10) (by decide) (by decide) q
    have f1 : f_X6_takeNumber n z h1 (b + 2) 0 10 = some (nI 0, h2) := f1
    have F3 : CF b 2 _ _ (h2.setI t 4 (nI 0)) := F2.wk.mv (sI_o (by omega)) rfl
    have nf : ¬ ((h2.setI t 4 (nI 0)).I (b + 2) 0 = 0) := fun w => by
      have h1 := F3.1
      rw [h1] at w
      have := (nI_inj (j := 0) (by have := F3.2.2.2.1; omega) (by decide)).mp w
      have := F3.2.2.1
      omega
    refine Jl.bad (h1 := h2.setI t 4 (nI 0)) (z1 := z) ?_ ((Gz.fc e2).tr ((Gz.fc f2).tr (Gz.st hz))) ⟨by omega, by omega⟩ F3 (fun zr g M R => ?_)
    · unfold f_X6_readLine
      rw [if_pos Z.2.2.1]
      refine gd3_go ⟨Nat.le_refl _, Nat.le_refl _⟩ ?_
      rw [is_n C Z hN hx hn (s := 15) (by decide) (by decide) (by rw [hk]; decide), bS, if_pos rfl, is_n C Z hN hx hn (s := 18) (by decide) (by decide) (by rw [hk]; decide), bS, if_pos rfl, is_y C Z hN hx hn (s := 19) (by decide) (by decide) hk, bS, if_neg n10, e1, bS, gR_ok Z.2.2.1 r1, bS, f1, bS]
      show (pI z h2 8 t 4 (nI 0)).bind _ = _
      rw [pI_ok r4.1, bS, gI_ok Z.2.2.1, bS, if_neg nf]
    · obtain ⟨⟨wr, R⟩, R2, R3⟩ := R
      obtain ⟨g1, a1, a2, a3⟩ := eats_t R hN hx hn (k := 7) (by decide) hk
      obtain ⟨g2, x, b1, b2, b3⟩ := takes_f (n := n) a3 (lo := 0) (hi := 10) (by decide) (by decide) q
      have b1 : f_X12_takes n zr g1 (b + 72) 0 10 = some (x, g2) := b1
      refine ⟨g2.setI (b + 76) 4 x, ?_, (a2.t.tr b2.t).tr FrT.s76, b3.s76⟩
      unfold f_X12_readLine
      rw [if_pos R.K, gI_ok R.K, bS, R.2.2.1, if_pos (show nI 0 = 0 from rfl), show f_X12_is zr g (b + 72) 3 = _ from is_rn R (k := 3) (by decide) (by omega), bS, if_pos rfl, show f_X12_eats n zr g (b + 72) 6 = some (0, g) from eats_f R (k := 6) (by decide) (by omega), bS]
      show (if (0 : Int32) = 0 then _ else _) = _
      rw [if_pos rfl, show f_X12_eats n zr g (b + 72) 7 = _ from a1, bS]
      show (if (1 : Int32) = 0 then _ else _) = _
      rw [if_neg n10, gR_ok a3.K (rm_4 a3.1.1), bS, b1, bS]
      show (stI zr g2 (b + 76) 4 x).bind _ = _
      rw [show stI zr g2 (b + 76) 4 _ = _ from sm_4 (j := 4) b3.1 (by decide), bS]
theorem ln_wr {D : Dt} (C : CS b sv z tx N w T L h) (Z : ZC b z) (hN : N ≤ 900) (hx : ∀ j, tx j < 256) (hn : 400000 ≤ n) (k3 : T.2.2.1 ≠ 3) (k6 : T.2.2.1 ≠ 6) (k7 : T.2.2.1 ≠ 7) (k8 : T.2.2.1 ≠ 8) (k9 : T.2.2.1 ≠ 9) : Jl n b sv tx N zs t z h T D (f_X6_readLine n z h (b + 2)) := by
  obtain ⟨h2, e1, e2, e3⟩ := wrong_c C Z hN (v := 2) (by decide) (by decide)
  have e1 : f_X6_wrong z h (b + 2) 2 = some (0, h2) := e1
  refine Jl.bad (h1 := h2) (z1 := z) ?_ (Gz.fc e2) ⟨by omega, by omega⟩ e3.wk (fun zr g M R => ?_)
  · unfold f_X6_readLine
    rw [if_pos Z.2.2.1]
    refine gd3_go ⟨Nat.le_refl _, Nat.le_refl _⟩ ?_
    rw [is_n C Z hN hx hn (s := 15) (by decide) (by decide) k3, bS, if_pos rfl, is_n C Z hN hx hn (s := 18) (by decide) (by decide) k6, bS, if_pos rfl, is_n C Z hN hx hn (s := 19) (by decide) (by decide) k7, bS, if_pos rfl, is_n C Z hN hx hn (s := 20) (by decide) (by decide) k8, bS, if_pos rfl, is_n C Z hN hx hn (s := 21) (by decide) (by decide) k9, bS, if_pos rfl, e1, bS]
    show (bz 0).bind _ = _
    rw [bz_ok (x := 0) (Or.inl rfl), bS]
  · obtain ⟨⟨wr, R⟩, R2, R3⟩ := R
    obtain ⟨g1, r1, r2, r3⟩ := fails_r R (v := 2) (by decide) (by decide)
    have r1 : f_X12_fails zr g (b + 72) 2 = some g1 := r1
    refine ⟨g1, ?_, r2.t, r3⟩
    unfold f_X12_readLine
    rw [if_pos R.K, gI_ok R.K, bS, R.2.2.1, if_pos (show nI 0 = 0 from rfl), show f_X12_is zr g (b + 72) 3 = _ from is_rn R (k := 3) (by decide) k3, bS, if_pos rfl, show f_X12_eats n zr g (b + 72) 6 = some (0, g) from eats_f R (k := 6) (by decide) k6, bS]
    show (if (0 : Int32) = 0 then _ else _) = _
    rw [if_pos rfl, show f_X12_eats n zr g (b + 72) 7 = some (0, g) from eats_f R (k := 7) (by decide) k7, bS]
    show (if (0 : Int32) = 0 then _ else _) = _
    rw [if_pos rfl, show f_X12_is zr g (b + 72) 8 = _ from is_rn R (k := 8) (by decide) k8, bS, if_pos rfl, show f_X12_is zr g (b + 72) 9 = _ from is_rn R (k := 9) (by decide) k9, bS, if_pos rfl, r1, bS]
end
