/-! ===== town, 14: a law's line ===== -/
section
variable {n b N w zs t : Nat} {sv : Nat → Nat} {z : Sh} {tx : Nat → Nat} {T : Tk} {L M : List Nat} {h g : Hp} {yr tr P ca di li : Nat} {tal fe : Nat → Nat} {LW LG : List Nat}
theorem CS.law (C : CS b sv z tx N w T L h) (w' : Nat) : CS b sv z tx N w' T [] ((h.setI (b + 2) 9 (nI w')).setI (b + 2) 11 0) := by
  obtain ⟨⟨c1, c2, c3, c4, c5⟩, d2, d3, d4, d5, d6, d7, d8, d9, d10, d11⟩ := C
  have E : ∀ k, k ≠ 9 → k ≠ 11 → ((h.setI (b + 2) 9 (nI w')).setI (b + 2) 11 0).I (b + 2) k = h.I (b + 2) k := fun k q1 q2 => (sI_ne q2).trans (sI_ne q1)
  refine ⟨⟨⟨c1.1, (E 1 (by decide) (by decide)).trans c1.2⟩, c2, (E 3 (by decide) (by decide)).trans c3, fun j hj => ?_, c5.mv (fun a ha => ?_) (fun _ _ => rfl)⟩, d2, (E 0 (by decide) (by decide)).trans d3, (E 4 (by decide) (by decide)).trans d4, (E 5 (by decide) (by decide)).trans d5, (E 6 (by decide) (by decide)).trans d6, fun q => (E 7 (by decide) (by decide)).trans (d7 q), (sI_ne (by decide)).trans sI_eq, fun _ => sI_eq, fun _ => Nat.zero_le _, fun _ j hj => absurd hj (Nat.not_lt_zero j)⟩
  · rw [sI_o (show b + 1 ≠ b + 2 by omega), sI_o (show b + 1 ≠ b + 2 by omega)]
    exact c4 j hj
  · rw [sI_o (show a ≠ b + 2 by omega), sI_o (show a ≠ b + 2 by omega)]
theorem RS.law (C : RS b sv z tx N w T M g) (w' : Nat) : RS b sv z tx N w' T M (g.setI (b + 72) 15 (nI (1 - w'))) := by
  obtain ⟨⟨c1, c2, c3, c4⟩, d2, d3, d4, d5, d6, d7, d8, d9, d10, d11⟩ := C
  refine ⟨⟨c1, (sI_ne (by decide)).trans c2, fun j hj => by rw [sI_o (show b + 75 ≠ b + 72 by omega)]; exact c3 j hj, c4.mv (fun a ha => sI_o (by omega)) (fun _ _ => rfl)⟩, d2, (sI_ne (by decide)).trans d3, (sI_ne (by decide)).trans d4, (sI_ne (by decide)).trans d5, (sI_ne (by decide)).trans d6, fun q => (sI_ne (by decide)).trans (d7 q), fun _ => sI_eq, by rw [sI_o (show b + 76 ≠ b + 72 by omega)]; exact d9, d10, fun j hj => by rw [sI_o (show b + 76 ≠ b + 72 by omega)]; exact d11 j hj⟩
theorem RF.law {fl pl : Nat} {v : Int32} (F : RF b z fl pl g) : RF b z fl pl (g.setI (b + 72) 15 v) := ⟨F.1, (sI_ne (by decide)).trans F.2.1, (sI_ne (by decide)).trans F.2.2.1, F.2.2.2⟩
theorem law_ok {C : List Nat} (hw : w < 2) (hl : C.length ≤ 900) (G : gdN w 33 C) : LawOK (if w = 1 then 7 else 2) C := by
  refine ⟨hl, G.1, fun f hf => ?_⟩
  exact G.2 f [] hf (by decide)
/-- a law's row is copied into the town -/
theorem CT.law {C : List Nat} {k : Nat} {LL : List Nat} (H : CT b z t (yr, tr, P, ca, di, li, tal, fe, LW, LG) h) (hk : k = 8 ∨ k = 9) (hc : C.length < 900) (hI : ∀ j, j < C.length → h.I (b + 7) j = iI (cC (C.getD j 0))) (hzs : zs ≤ t) : ∃ h', h' = ((h.nw z.sz).rowI z.sz (va_cpy ((h.nw z.sz).I (b + 7)) ((h.nw z.sz).I z.sz) 0 0 C.length)).setR t k (some z.sz) ∧ Gz b zs z h (z.al 14 C.length C.length) h' ∧ (∀ a, a < b + 92 → h'.I a = h.I a) ∧ (∀ a, a < b + 92 → h'.R a = h.R a) ∧ CT b (z.al 14 C.length C.length) t (yr, tr, P, ca, di, li, tal, fe, if k = 8 then C else LW, if k = 8 then LG else C) h' := by
  obtain ⟨⟨r1, r2, r3⟩, ⟨k0, ⟨k1, n1⟩, k2, n2⟩, ⟨r5, r6⟩, i0, i1, i2, i3, i4, i5, ip, l1, l2⟩ := H
  refine ⟨_, rfl, ?_⟩
  generalize hh : ((h.nw z.sz).rowI z.sz (va_cpy ((h.nw z.sz).I (b + 7)) ((h.nw z.sz).I z.sz) 0 0 C.length)).setR t k (some z.sz) = h'
  have EI : ∀ a, a ≠ z.sz → h'.I a = h.I a := fun a q => by
    rw [← hh, setR_I, rowI_Ib, if_neg q, nw_Ib, if_neg q]
  have EJ : ∀ a, a ≠ z.sz → h'.J a = h.J a := fun a q => by
    rw [← hh, setR_J, rowI_J, nw_Jb, if_neg q]
  have ER : ∀ a, a ≠ z.sz → a ≠ t → h'.R a = h.R a := fun a q1 q2 => by
    rw [← hh, setR_R, if_neg q2, rowI_R, nw_Rb, if_neg q1]
  have Et : ∀ j, j ≠ k → h'.R t j = h.R t j := fun j q => by
    rw [← hh, setR_R, if_pos rfl, va_up_ne _ _ q, rowI_R, nw_Rb, if_neg (by omega)]
  have Ek : h'.R t k = some z.sz := by
    rw [← hh, setR_R, if_pos rfl, va_up_self]
  have En : ∀ j, j < C.length → h'.I z.sz j = iI (cC (C.getD j 0)) := fun j hj => by
    rw [← hh, setR_I, rowI_Ib, if_pos rfl]
    unfold va_cpy
    rw [if_pos ⟨Nat.zero_le _, by omega⟩, nw_Ib, if_neg (by omega), Nat.zero_add, Nat.sub_zero]
    exact hI j hj
  have EK : ∀ a, a < z.sz → (z.al 14 C.length C.length).K a = z.K a ∧ (z.al 14 C.length C.length).N a = z.N a := fun a q => ⟨by rw [al_Kb, if_neg (by omega)], by rw [al_Nb, if_neg (by omega)]⟩
  have new : LwC b (z.al 14 C.length C.length) h' t k C := ⟨z.sz, Ek, by omega, Or.inr ⟨by omega, by rw [al_sz]; omega⟩, Or.inl (by rw [al_Kb, if_pos rfl]), by rw [al_Nb, if_pos rfl], En⟩
  have old : ∀ {j : Nat} {LL : List Nat}, j ≠ k → LwC b z h t j LL → LwC b (z.al 14 C.length C.length) h' t j LL := fun {j LL} q H => H.mv (Et j q) (by rw [al_sz]; omega) EK (by omega) (fun a ha _ _ _ => EI a (by omega))
  refine ⟨⟨⟨by rw [al_sz]; omega, by rw [al_sl]; omega⟩, EK, fun _ => rfl, fun a q _ _ => EI a (by omega), fun a q => EJ a (by omega), fun a q => ER a (by omega) (by omega)⟩, fun a q => EI a (by omega), fun a q => ER a (by omega) (by omega), ⟨?_, r2, by rw [al_sz]; omega⟩, ⟨(EK t (by omega)).1.trans k0, ⟨(EK _ (by omega)).1.trans k1, (EK _ (by omega)).2.trans n1⟩, (EK _ r3).1.trans k2, (EK _ r3).2.trans n2⟩, ⟨(Et 6 (by omega)).trans r5, (Et 7 (by omega)).trans r6⟩, ?_⟩
  · rw [ER _ (by omega) (by omega)]
    exact r1
  · rw [EI t (by omega)]
    refine ⟨i0, i1, i2, i3, i4, i5, fun p hp => ?_, ?_, ?_⟩
    · rw [EI _ (by omega), EI _ (by omega)]
      exact ip p hp
    · by_cases q : k = 8
      · subst q
        rw [if_pos rfl]
        exact new
      · rw [if_neg q]
        exact old (by omega) l1
    · by_cases q : k = 8
      · rw [if_pos q]
        exact old (by omega) l2
      · rw [if_neg q]
        have : k = 9 := by omega
        subst this
        exact new
theorem RT.l_w {C : List Nat} (H : RT b M (yr, tr, P, ca, di, li, tal, fe, LW, LG) g) (hP : P ≤ 6) : RT b (M ++ C) (yr, tr, P, ca, di, li, tal, fe, (C), LG) (((g.setI (b + 76) 5 (nI 1)).setI (b + 76) 7 (nI M.length)).setI (b + 76) 9 (nI C.length)) := by
  obtain ⟨r1, r2, r3, r4, r5, r6, r7, r8, r9, r10, r11, r12⟩ := H
  have E : ∀ k, k ≠ 5 → k ≠ 7 → k ≠ 9 → (((g.setI (b + 76) 5 (nI 1)).setI (b + 76) 7 (nI M.length)).setI (b + 76) 9 (nI C.length)).I (b + 76) k = g.I (b + 76) k := fun k q1 q2 q3 => (sI_ne q3).trans ((sI_ne q2).trans (sI_ne q1))
  have own : LawM ((((g.setI (b + 76) 5 (nI 1)).setI (b + 76) 7 (nI M.length)).setI (b + 76) 9 (nI C.length)).I (b + 76)) (M ++ C) 0 C 1 := by
    refine Or.inr ⟨(sI_ne (by decide)).trans ((sI_ne (by decide)).trans sI_eq), M.length, (sI_ne (by decide)).trans sI_eq, sI_eq, by rw [List.length_append]; omega, fun k hk => ?_⟩
    rw [List.getD_eq_getElem?_getD, List.getD_eq_getElem?_getD, List.getElem?_append_right (by omega), show M.length + k - M.length = k by omega]
  have oth := r12.mv (F' := (((g.setI (b + 76) 5 (nI 1)).setI (b + 76) 7 (nI M.length)).setI (b + 76) 9 (nI C.length)).I (b + 76)) C (E _ (by decide) (by decide) (by decide)) (E _ (by decide) (by decide) (by decide)) (E _ (by decide) (by decide) (by decide))
  exact ⟨(E 0 (by decide) (by decide) (by decide)).trans r1, (E 1 (by decide) (by decide) (by decide)).trans r2, (E 2 (by decide) (by decide) (by decide)).trans r3, (E 3 (by decide) (by decide) (by decide)).trans r4, (E 4 (by decide) (by decide) (by decide)).trans r5, (E 17 (by decide) (by decide) (by decide)).trans r6, fun p hp => ⟨(E _ (by omega) (by omega) (by omega)).trans (r7 p hp).1, (E _ (by omega) (by omega) (by omega)).trans (r7 p hp).2⟩, fun p h1 h2 => (E _ (by omega) (by omega) (by omega)).trans (r8 p h1 h2), fun k h1 h2 => (E _ (by omega) (by omega) (by omega)).trans (r9 k h1 h2), fun k h1 h2 => (E _ (by omega) (by omega) (by omega)).trans (r10 k h1 h2), own, oth⟩
theorem RT.l_g {C : List Nat} (H : RT b M (yr, tr, P, ca, di, li, tal, fe, LW, LG) g) (hP : P ≤ 6) : RT b (M ++ C) (yr, tr, P, ca, di, li, tal, fe, LW, (C)) (((g.setI (b + 76) 6 (nI 1)).setI (b + 76) 8 (nI M.length)).setI (b + 76) 10 (nI C.length)) := by
  obtain ⟨r1, r2, r3, r4, r5, r6, r7, r8, r9, r10, r11, r12⟩ := H
  have E : ∀ k, k ≠ 6 → k ≠ 8 → k ≠ 10 → (((g.setI (b + 76) 6 (nI 1)).setI (b + 76) 8 (nI M.length)).setI (b + 76) 10 (nI C.length)).I (b + 76) k = g.I (b + 76) k := fun k q1 q2 q3 => (sI_ne q3).trans ((sI_ne q2).trans (sI_ne q1))
  have own : LawM ((((g.setI (b + 76) 6 (nI 1)).setI (b + 76) 8 (nI M.length)).setI (b + 76) 10 (nI C.length)).I (b + 76)) (M ++ C) 1 C 0 := by
    refine Or.inr ⟨(sI_ne (by decide)).trans ((sI_ne (by decide)).trans sI_eq), M.length, (sI_ne (by decide)).trans sI_eq, sI_eq, by rw [List.length_append]; omega, fun k hk => ?_⟩
    rw [List.getD_eq_getElem?_getD, List.getD_eq_getElem?_getD, List.getElem?_append_right (by omega), show M.length + k - M.length = k by omega]
  have oth := r11.mv (F' := (((g.setI (b + 76) 6 (nI 1)).setI (b + 76) 8 (nI M.length)).setI (b + 76) 10 (nI C.length)).I (b + 76)) C (E _ (by decide) (by decide) (by decide)) (E _ (by decide) (by decide) (by decide)) (E _ (by decide) (by decide) (by decide))
  exact ⟨(E 0 (by decide) (by decide) (by decide)).trans r1, (E 1 (by decide) (by decide) (by decide)).trans r2, (E 2 (by decide) (by decide) (by decide)).trans r3, (E 3 (by decide) (by decide) (by decide)).trans r4, (E 4 (by decide) (by decide) (by decide)).trans r5, (E 17 (by decide) (by decide) (by decide)).trans r6, fun p hp => ⟨(E _ (by omega) (by omega) (by omega)).trans (r7 p hp).1, (E _ (by omega) (by omega) (by omega)).trans (r7 p hp).2⟩, fun p h1 h2 => (E _ (by omega) (by omega) (by omega)).trans (r8 p h1 h2), fun k h1 h2 => (E _ (by omega) (by omega) (by omega)).trans (r9 k h1 h2), fun k h1 h2 => (E _ (by omega) (by omega) (by omega)).trans (r10 k h1 h2), oth, own⟩
set_option maxHeartbeats 1000000 in
theorem ln_lw (C : CS b sv z tx N w T L h) (H : CT b z t (yr, tr, P, ca, di, li, tal, fe, LW, LG) h) (O : DOK (yr, tr, P, ca, di, li, tal, fe, LW, LG)) (hz : zs ≤ t) (Z : ZC b z) (hN : N ≤ 900) (hx : ∀ j, tx j < 256) (hn : 400000 ≤ n) (hk : T.2.2.1 = 8) : Jl n b sv tx N zs t z h T (yr, tr, P, ca, di, li, tal, fe, LW, LG) (f_X6_readLine n z h (b + 2)) := by
  have n10 : ¬ ((1 : Int32) = 0) := by decide
  have hT := tkT C.tk
  have tg := tkG C.tk (by omega)
  obtain ⟨h1, e1, e2, C1⟩ := next_C C Z hN hx hn
  have hT1 := tkT C1.tk
  have C2 := C1.law 1
  have F2 : Fc b h ((h1.setI (b + 2) 9 (nI 1)).setI (b + 2) 11 0) := e2.tr (Fc.st.tr Fc.st)
  have U : f_X6_readLine n z h (b + 2) = gd3 z ((f_X6_readLaw n z h (b + 2) 1).bind fun q => gd3 q.2.2 (if q.1 = 0 then some (0, q.2.1, q.2.2) else (f_X6_endLine n q.2.2 q.2.1 (b + 2)).bind fun r => if r.1 = 0 then some (0, r.2, q.2.2) else some (1, r.2, q.2.2))) := by
    unfold f_X6_readLine
    rw [if_pos Z.2.2.1, is_n C Z hN hx hn (s := 15) (by decide) (by decide) (by rw [hk]; decide), bS, if_pos rfl, is_n C Z hN hx hn (s := 18) (by decide) (by decide) (by rw [hk]; decide), bS, if_pos rfl, is_n C Z hN hx hn (s := 19) (by decide) (by decide) (by rw [hk]; decide), bS, if_pos rfl, is_y C Z hN hx hn (s := 20) (by decide) (by decide) hk, bS, if_neg n10]
    unfold f_X6_readLine_142
    rw [is_y C Z hN hx hn (s := 20) (by decide) (by decide) hk, bS]
    try rfl
  have V : ∀ {h3 : Hp}, f_X6_readLaw n z h (b + 2) 1 = some (0, h3, z) → f_X6_readLine n z h (b + 2) = some (0, h3, z) := by
    intro h3 e
    rw [U]
    refine gd3_go ⟨Nat.le_refl _, Nat.le_refl _⟩ ?_
    rw [e, bS]
    exact gd3_go ⟨Nat.le_refl _, Nat.le_refl _⟩ (if_pos rfl)
  have X : ∀ zr g M wr, RS b sv zr tx N wr T M g → ∃ g1, f_X12_readLine n zr g (b + 72) = ((f_X12_eats n zr g1 (b + 72) 31).bind fun q => if q.1 = 0 then (f_X12_fails zr q.2 (b + 72) 2).bind fun h5 => f_X12_readLaw_18 n zr h5 (b + 72) (nI (1 - 1)) else f_X12_readLaw_18 n zr q.2 (b + 72) (nI (1 - 1))).bind (fun h2 => some h2) ∧ FrR b g g1 ∧ RS b sv zr tx N wr (tkN tx N T.2.1) M g1 := by
    intro zr g M wr R
    obtain ⟨g1, a1, a2, a3⟩ := next_R R hN hx hn
    refine ⟨g1, ?_, a2, a3⟩
    unfold f_X12_readLine
    rw [if_pos R.K, gI_ok R.K, bS, R.2.2.1, if_pos (show nI 0 = 0 from rfl), show f_X12_is zr g (b + 72) 3 = some 0 from is_rn R (k := 3) (by decide) (by omega), bS, if_pos rfl, show f_X12_eats n zr g (b + 72) 6 = some (0, g) from eats_f R (k := 6) (by decide) (by omega), bS]
    show (if (0 : Int32) = 0 then _ else _) = _
    rw [if_pos rfl, show f_X12_eats n zr g (b + 72) 7 = some (0, g) from eats_f R (k := 7) (by decide) (by omega), bS]
    show (if (0 : Int32) = 0 then _ else _) = _
    rw [if_pos rfl, show f_X12_is zr g (b + 72) 8 = some 1 from is_ry R (k := 8) (by decide) hk, bS, if_neg n10]
    unfold f_X12_readLine_93 f_X12_readLaw
    rw [gI_ok R.K, bS, R.2.2.2.2.2.1, hk, show nI 8 - 8 = nI (1 - 1) by decide, if_pos R.K, a1, bS]
    try rfl
  by_cases k31 : (tkN tx N T.2.1).2.2.1 = 31
  · obtain ⟨h3, f1, f2, C3⟩ := take_t C2 Z hN hx hn (s := 22) (by decide) (by decide) k31
    have tg2 := tkG C1.tk (by omega)
    have hT2 := tkT C3.tk
    have W : ∀ {x : Int32} {h4 : Hp}, f_X6_readSum n z h3 (b + 2) 0 = some (x, h4) → f_X6_readLaw n z h (b + 2) 1 = gd3 z (if x = 0 then some ((0 : Int32), h4, z) else (gR z h4 6 (b + 2) 10).bind fun a10 => (gI z h4 6 (b + 2) 11).bind fun x11 => (f_J7_copyOf_59c91 z h4 a10 x11).bind fun q => gd3 q.2.2 (match q.1 with | none => none | some a15 => (gR q.2.2 q.2.1 6 (b + 2) 8).bind fun a17 => (pR q.2.2 q.2.1 8 a17 8 (some a15)).bind fun h18 => some ((1 : Int32), h18, q.2.2))) := by
      intro x h4 e
      unfold f_X6_readLaw
      rw [if_pos Z.2.2.1, e1, bS, show pZ z h1 6 (b + 2) 9 1 = some (h1.setI (b + 2) 9 (nI 1)) from pZ_ok Z.2.2.1 (by decide), bS, pI_ok Z.2.2.1, bS, f1, bS]
      show gd3 z (if (1 : Int32) = 0 then _ else _) = _
      rw [if_neg n10, e, bS]
      congr 1
    have Y : ∀ zr g M wr, RS b sv zr tx N wr T M g → ∃ g2, f_X12_readLine n zr g (b + 72) = (f_X12_readLaw_18 n zr g2 (b + 72) (nI (1 - 1))).bind (fun h2 => some h2) ∧ FrR b g g2 ∧ RS b sv zr tx N wr (tkN tx N (tkN tx N T.2.1).2.1) M g2 := by
      intro zr g M wr R
      obtain ⟨g1, a1, a2, a3⟩ := X zr g M wr R
      obtain ⟨g2, b1, b2, b3⟩ := eats_t (n := n) a3 hN hx hn (k := 31) (by decide) k31
      refine ⟨g2, ?_, a2.tr b2, b3⟩
      rw [a1, show f_X12_eats n zr g1 (b + 72) 31 = _ from b1, bS]
      show ((if (1 : Int32) = 0 then _ else _ : Option Hp)).bind _ = _
      rw [if_neg n10]
    rcases sum_ok (n := n) Z hN hx hn (w := 1) (by decide) C3 (P := (tkN tx N (tkN tx N T.2.1).2.1).1) (Nat.zero_le _) (Nat.le_refl _) with ⟨h4, fl, pl, s1, s2, s3, s4⟩ | ⟨h4, T4, C4, s1, s2, s3, ok3, s5, s6⟩
    · refine Jl.bad (h1 := h4) (z1 := z) (V ?_) (Gz.fc (F2.tr (f2.tr s2))) ⟨by omega, by omega⟩ s3.wk (fun zr g M R => ?_)
      · rw [W s1]
        exact gd3_go ⟨Nat.le_refl _, Nat.le_refl _⟩ (if_pos rfl)
      · obtain ⟨⟨wr, R⟩, R2, R3⟩ := R
        obtain ⟨g2, a1, a2, a3⟩ := Y zr g M wr R
        obtain ⟨g4, b1, b2, b3⟩ := s4 zr (g2.setI (b + 72) 15 (nI (1 - 1))) M (a3.law 1) (by omega)
        have b1 : f_X12_readSum n zr (g2.setI (b + 72) 15 (nI (1 - 1))) (b + 72) 0 = some g4 := b1
        refine ⟨g4, ?_, (a2.t.tr (FrT.s72 (by decide))).tr b2.t, b3⟩
        rw [a1]
        unfold f_X12_readLaw_18
        rw [gR_ok a3.K (rm_4 a3.1.1), bS, show ldI zr g2 (b + 76) 557 = _ from lm_4 (j := 557) a3.1.1 (by decide), bS, pI_ok a3.K, bS, b1, bS, gI_ok b3.K, bS, if_neg b3.ne, bS]
    · rw [List.nil_append] at s3
      have hT4 := tkT s3.tk
      obtain ⟨h5, q1, q2, q3, q4, q5⟩ := (H.fc (F2.tr (f2.tr s2))).law (k := 8) (C := C4) (LL := []) (by decide) (by omega) (s3.2.2.2.2.2.2.2.2.2.2 (by decide)) hz
      obtain ⟨⟨p1, p2, p3⟩, ⟨p4, -⟩, -⟩ := id (H.fc (F2.tr (f2.tr s2)))
      have hb : b + 92 ≤ z.sz := by omega
      have Z5 := Z.gz q2 hb
      have hR8 : ((h4.nw z.sz).rowI z.sz (va_cpy ((h4.nw z.sz).I (b + 7)) ((h4.nw z.sz).I z.sz) 0 0 C4.length)).R (b + 2) 8 = some t := by
        rw [rowI_R, nw_Rb, if_neg (by omega)]
        exact p1
      have C5 : CS b sv (z.al 14 C4.length C4.length) tx N 1 T4 C4 h5 := s3.mv (by omega) q2.2.1 q2.2.2.1 q3 q4
      have Kt : (z.al 14 C4.length C4.length).K t = 8 := (q2.2.1 t (by omega)).1.trans p4
      have hsz : z.sz ≤ (z.al 14 C4.length C4.length).sz ∧ z.sl ≤ (z.al 14 C4.length C4.length).sl := ⟨by rw [al_sz]; omega, by rw [al_sl]; omega⟩
      have W2 : f_X6_readLaw n z h (b + 2) 1 = some (1, h5, z.al 14 C4.length C4.length) := by
        rw [W s1]
        refine gd3_go hsz ?_
        rw [if_neg n10, gR_ok Z.2.2.1 s3.1.2.1, bS, gI_ok Z.2.2.1, bS, s3.2.2.2.2.2.2.2.2.1 (by decide), cpL_ok Z hb (by omega), bS]
        refine gd3_go ⟨Nat.le_refl _, Nat.le_refl _⟩ ?_
        show (gR (z.al 14 C4.length C4.length) ((h4.nw z.sz).rowI z.sz (va_cpy ((h4.nw z.sz).I (b + 7)) ((h4.nw z.sz).I z.sz) 0 0 C4.length)) 6 (b + 2) 8).bind _ = _
        rw [gR_ok Z5.2.2.1 hR8, bS, pR_ok Kt, bS, ← q1]
      have W3 : ∀ x h6, f_X6_endLine n (z.al 14 C4.length C4.length) h5 (b + 2) = some (x, h6) → f_X6_readLine n z h (b + 2) = gd3 z (gd3 (z.al 14 C4.length C4.length) (if x = 0 then some (0, h6, z.al 14 C4.length C4.length) else some (1, h6, z.al 14 C4.length C4.length))) := by
        intro x h6 e
        rw [U, W2, bS]
        show gd3 z (gd3 (z.al 14 C4.length C4.length) (if (1 : Int32) = 0 then _ else _)) = _
        rw [if_neg n10, e, bS]
      have q5 : CT b (z.al 14 C4.length C4.length) t (yr, tr, P, ca, di, li, tal, fe, (C4), LG) h5 := q5
      refine Jl.fin C5 q5 ⟨O.1, O.2.1, O.2.2.1, O.2.2.2.1, O.2.2.2.2.1, O.2.2.2.2.2.1, law_ok (w := 1) (by decide) (by omega) ok3, O.2.2.2.2.2.2.2⟩ hz ((Gz.fc (F2.tr (f2.tr s2))).tr q2) ⟨by rw [al_sz]; omega, by rw [al_sl]; omega⟩ (by omega) Z5 hN hx hn (fun h6 e => ?_) (fun h6 e => ?_) (fun zr g M R => ?_)
      · rw [W3 _ _ e]
        exact gd3_go hsz (gd3_go ⟨Nat.le_refl _, Nat.le_refl _⟩ (if_pos rfl))
      · rw [W3 _ _ e]
        exact gd3_go hsz (gd3_go ⟨Nat.le_refl _, Nat.le_refl _⟩ (if_neg n10))
      · obtain ⟨⟨wr, R⟩, R2, R3⟩ := R
        obtain ⟨g2, a1, a2, a3⟩ := Y zr g M wr R
        obtain ⟨g4, b1, b2, b3⟩ := s6 zr (g2.setI (b + 72) 15 (nI (1 - 1))) M (a3.law 1) (by omega)
        have b1 : f_X12_readSum n zr (g2.setI (b + 72) 15 (nI (1 - 1))) (b + 72) 0 = some g4 := b1
        have hM := a3.2.2.2.2.2.2.2.2.1
        have R4 : RT b M (yr, tr, P, ca, di, li, tal, fe, LW, LG) g4 := by
          have := R2.mv (g' := g4) O.2.2.1 [] (fun k hk => (b2.2.2.2.2 k hk).trans ((by rw [sI_o (show b + 76 ≠ b + 72 by omega)] : (g2.setI (b + 72) 15 (nI (1 - 1))).I (b + 76) k = g2.I (b + 76) k).trans (a2.2.2.2.2 k hk)))
          rw [List.append_nil] at this
          exact this
        have R5 := R4.l_w (C := C4) O.2.2.1
        refine ⟨_, M ++ C4, ?_, (((a2.t.tr (FrT.s72 (by decide))).tr b2.t).tr ((FrT.s76.tr FrT.s76).tr FrT.s76)), ⟨1, ((b3.s76 (by decide)).s76 (by decide)).s76 (by decide)⟩, R5, by rw [List.length_append]; omega⟩
        have bM := b3.2.2.2.2.2.2.2.2.1
        have LR := b3.1.1
        rw [a1]
        unfold f_X12_readLaw_18
        rw [gR_ok a3.K (rm_4 a3.1.1), bS, show ldI zr g2 (b + 76) 557 = some (nI M.length) from (lm_4 (j := 557) a3.1.1 (by decide)).trans (by rw [hM]), bS, pI_ok a3.K, bS, b1, bS, gI_ok b3.K, bS, b3.2.2.1, if_pos (show nI 0 = 0 from rfl), gR_ok b3.K (rm_4 LR), bS, show (5 : Int32) + nI (1 - 1) = nI 5 by decide, show (7 : Int32) + nI (1 - 1) = nI 7 by decide, show (9 : Int32) + nI (1 - 1) = nI 9 by decide]
        rw [show stI zr g4 (b + 76) (nI 5) 1 = some (g4.setI (b + 76) 5 (nI 1)) from sm_4 LR (by decide), bS, show gR zr (g4.setI (b + 76) 5 (nI 1)) 12 (b + 72) 4 = some (b + 76) from gR_ok b3.K (rm_4 LR), bS, show stI zr (g4.setI (b + 76) 5 (nI 1)) (b + 76) (nI 7) (nI M.length) = some ((g4.setI (b + 76) 5 (nI 1)).setI (b + 76) 7 (nI M.length)) from sm_4 (R := g4.2.2) LR (by decide), bS, show gR zr ((g4.setI (b + 76) 5 (nI 1)).setI (b + 76) 7 (nI M.length)) 12 (b + 72) 4 = some (b + 76) from gR_ok b3.K (rm_4 LR), bS, bS, show ldI zr ((g4.setI (b + 76) 5 (nI 1)).setI (b + 76) 7 (nI M.length)) (b + 76) 557 = some (nI (M ++ C4).length) from (lm_4 (R := g4.2.2) (j := 557) LR (by decide)).trans (by rw [sI_ne (by decide), sI_ne (by decide), bM]), bS, List.length_append, nI_sub (by omega), show M.length + C4.length - M.length = C4.length by omega, show stI zr ((g4.setI (b + 76) 5 (nI 1)).setI (b + 76) 7 (nI M.length)) (b + 76) (nI 9) (nI C4.length) = some (((g4.setI (b + 76) 5 (nI 1)).setI (b + 76) 7 (nI M.length)).setI (b + 76) 9 (nI C4.length)) from sm_4 (R := g4.2.2) LR (by decide), bS, bS]
  · obtain ⟨h3, f1, f2, F3⟩ := take_f C2 Z hN hx hn (s := 22) (by decide) (by decide) k31
    refine Jl.bad (h1 := h3) (z1 := z) (V ?_) (Gz.fc (F2.tr f2)) ⟨by omega, by omega⟩ F3.wk (fun zr g M R => ?_)
    · unfold f_X6_readLaw
      rw [if_pos Z.2.2.1]
      refine gd3_go ⟨Nat.le_refl _, Nat.le_refl _⟩ ?_
      rw [e1, bS, show pZ z h1 6 (b + 2) 9 1 = some (h1.setI (b + 2) 9 (nI 1)) from pZ_ok Z.2.2.1 (by decide), bS, pI_ok Z.2.2.1, bS, f1, bS]
      exact if_pos rfl
    · obtain ⟨⟨wr, R⟩, R2, R3⟩ := R
      obtain ⟨g1, a1, a2, a3⟩ := X zr g M wr R
      obtain ⟨g2, b1, b2, b3⟩ := fails_r a3 (v := 2) (by decide) (by decide)
      have b1 : f_X12_fails zr g1 (b + 72) 2 = some g2 := b1
      have F4 := b3.law (v := nI (1 - 1))
      have sF : f_X12_readSum n zr (g2.setI (b + 72) 15 (nI (1 - 1))) (b + 72) 0 = some (g2.setI (b + 72) 15 (nI (1 - 1))) := sum_F F4 hn 57 0
      refine ⟨g2.setI (b + 72) 15 (nI (1 - 1)), ?_, (a2.t.tr b2.t).tr (FrT.s72 (by decide)), F4⟩
      rw [a1, show f_X12_eats n zr g1 (b + 72) 31 = some (0, g1) from eats_f a3 (k := 31) (by decide) k31, bS]
      show ((if (0 : Int32) = 0 then _ else _ : Option Hp)).bind _ = _
      rw [if_pos rfl, b1, bS]
      unfold f_X12_readLaw_18
      rw [gR_ok b3.K (rm_4 b3.1), bS, show ldI zr g2 (b + 76) 557 = _ from lm_4 (j := 557) b3.1 (by decide), bS, pI_ok b3.K, bS, sF, bS, gI_ok b3.K, bS, if_neg F4.ne, bS]
set_option maxHeartbeats 1000000 in
theorem ln_lg (C : CS b sv z tx N w T L h) (H : CT b z t (yr, tr, P, ca, di, li, tal, fe, LW, LG) h) (O : DOK (yr, tr, P, ca, di, li, tal, fe, LW, LG)) (hz : zs ≤ t) (Z : ZC b z) (hN : N ≤ 900) (hx : ∀ j, tx j < 256) (hn : 400000 ≤ n) (hk : T.2.2.1 = 9) : Jl n b sv tx N zs t z h T (yr, tr, P, ca, di, li, tal, fe, LW, LG) (f_X6_readLine n z h (b + 2)) := by
  have n10 : ¬ ((1 : Int32) = 0) := by decide
  have hT := tkT C.tk
  have tg := tkG C.tk (by omega)
  obtain ⟨h1, e1, e2, C1⟩ := next_C C Z hN hx hn
  have hT1 := tkT C1.tk
  have C2 := C1.law 0
  have F2 : Fc b h ((h1.setI (b + 2) 9 (nI 0)).setI (b + 2) 11 0) := e2.tr (Fc.st.tr Fc.st)
  have U : f_X6_readLine n z h (b + 2) = gd3 z ((f_X6_readLaw n z h (b + 2) 0).bind fun q => gd3 q.2.2 (if q.1 = 0 then some (0, q.2.1, q.2.2) else (f_X6_endLine n q.2.2 q.2.1 (b + 2)).bind fun r => if r.1 = 0 then some (0, r.2, q.2.2) else some (1, r.2, q.2.2))) := by
    unfold f_X6_readLine
    rw [if_pos Z.2.2.1, is_n C Z hN hx hn (s := 15) (by decide) (by decide) (by rw [hk]; decide), bS, if_pos rfl, is_n C Z hN hx hn (s := 18) (by decide) (by decide) (by rw [hk]; decide), bS, if_pos rfl, is_n C Z hN hx hn (s := 19) (by decide) (by decide) (by rw [hk]; decide), bS, if_pos rfl, is_n C Z hN hx hn (s := 20) (by decide) (by decide) (by rw [hk]; decide), bS, if_pos rfl, is_y C Z hN hx hn (s := 21) (by decide) (by decide) hk, bS, if_neg n10]
    unfold f_X6_readLine_142
    rw [is_n C Z hN hx hn (s := 20) (by decide) (by decide) (by rw [hk]; decide), bS]
    try rfl
  have V : ∀ {h3 : Hp}, f_X6_readLaw n z h (b + 2) 0 = some (0, h3, z) → f_X6_readLine n z h (b + 2) = some (0, h3, z) := by
    intro h3 e
    rw [U]
    refine gd3_go ⟨Nat.le_refl _, Nat.le_refl _⟩ ?_
    rw [e, bS]
    exact gd3_go ⟨Nat.le_refl _, Nat.le_refl _⟩ (if_pos rfl)
  have X : ∀ zr g M wr, RS b sv zr tx N wr T M g → ∃ g1, f_X12_readLine n zr g (b + 72) = ((f_X12_eats n zr g1 (b + 72) 31).bind fun q => if q.1 = 0 then (f_X12_fails zr q.2 (b + 72) 2).bind fun h5 => f_X12_readLaw_18 n zr h5 (b + 72) (nI (1 - 0)) else f_X12_readLaw_18 n zr q.2 (b + 72) (nI (1 - 0))).bind (fun h2 => some h2) ∧ FrR b g g1 ∧ RS b sv zr tx N wr (tkN tx N T.2.1) M g1 := by
    intro zr g M wr R
    obtain ⟨g1, a1, a2, a3⟩ := next_R R hN hx hn
    refine ⟨g1, ?_, a2, a3⟩
    unfold f_X12_readLine
    rw [if_pos R.K, gI_ok R.K, bS, R.2.2.1, if_pos (show nI 0 = 0 from rfl), show f_X12_is zr g (b + 72) 3 = some 0 from is_rn R (k := 3) (by decide) (by omega), bS, if_pos rfl, show f_X12_eats n zr g (b + 72) 6 = some (0, g) from eats_f R (k := 6) (by decide) (by omega), bS]
    show (if (0 : Int32) = 0 then _ else _) = _
    rw [if_pos rfl, show f_X12_eats n zr g (b + 72) 7 = some (0, g) from eats_f R (k := 7) (by decide) (by omega), bS]
    show (if (0 : Int32) = 0 then _ else _) = _
    rw [if_pos rfl, show f_X12_is zr g (b + 72) 8 = some 0 from is_rn R (k := 8) (by decide) (by omega), bS, if_pos rfl, show f_X12_is zr g (b + 72) 9 = some 1 from is_ry R (k := 9) (by decide) hk, bS, if_neg n10]
    unfold f_X12_readLine_93 f_X12_readLaw
    rw [gI_ok R.K, bS, R.2.2.2.2.2.1, hk, show nI 9 - 8 = nI (1 - 0) by decide, if_pos R.K, a1, bS]
    try rfl
  by_cases k31 : (tkN tx N T.2.1).2.2.1 = 31
  · obtain ⟨h3, f1, f2, C3⟩ := take_t C2 Z hN hx hn (s := 22) (by decide) (by decide) k31
    have tg2 := tkG C1.tk (by omega)
    have hT2 := tkT C3.tk
    have W : ∀ {x : Int32} {h4 : Hp}, f_X6_readSum n z h3 (b + 2) 0 = some (x, h4) → f_X6_readLaw n z h (b + 2) 0 = gd3 z (if x = 0 then some ((0 : Int32), h4, z) else (gR z h4 6 (b + 2) 10).bind fun a10 => (gI z h4 6 (b + 2) 11).bind fun x11 => (f_J7_copyOf_59c91 z h4 a10 x11).bind fun q => gd3 q.2.2 (match q.1 with | none => none | some a15 => (gR q.2.2 q.2.1 6 (b + 2) 8).bind fun a17 => (pR q.2.2 q.2.1 8 a17 9 (some a15)).bind fun h18 => some ((1 : Int32), h18, q.2.2))) := by
      intro x h4 e
      unfold f_X6_readLaw
      rw [if_pos Z.2.2.1, e1, bS, show pZ z h1 6 (b + 2) 9 0 = some (h1.setI (b + 2) 9 (nI 0)) from pZ_ok Z.2.2.1 (by decide), bS, pI_ok Z.2.2.1, bS, f1, bS]
      show gd3 z (if (1 : Int32) = 0 then _ else _) = _
      rw [if_neg n10, e, bS]
      congr 1
    have Y : ∀ zr g M wr, RS b sv zr tx N wr T M g → ∃ g2, f_X12_readLine n zr g (b + 72) = (f_X12_readLaw_18 n zr g2 (b + 72) (nI (1 - 0))).bind (fun h2 => some h2) ∧ FrR b g g2 ∧ RS b sv zr tx N wr (tkN tx N (tkN tx N T.2.1).2.1) M g2 := by
      intro zr g M wr R
      obtain ⟨g1, a1, a2, a3⟩ := X zr g M wr R
      obtain ⟨g2, b1, b2, b3⟩ := eats_t (n := n) a3 hN hx hn (k := 31) (by decide) k31
      refine ⟨g2, ?_, a2.tr b2, b3⟩
      rw [a1, show f_X12_eats n zr g1 (b + 72) 31 = _ from b1, bS]
      show ((if (1 : Int32) = 0 then _ else _ : Option Hp)).bind _ = _
      rw [if_neg n10]
    rcases sum_ok (n := n) Z hN hx hn (w := 0) (by decide) C3 (P := (tkN tx N (tkN tx N T.2.1).2.1).1) (Nat.zero_le _) (Nat.le_refl _) with ⟨h4, fl, pl, s1, s2, s3, s4⟩ | ⟨h4, T4, C4, s1, s2, s3, ok3, s5, s6⟩
    · refine Jl.bad (h1 := h4) (z1 := z) (V ?_) (Gz.fc (F2.tr (f2.tr s2))) ⟨by omega, by omega⟩ s3.wk (fun zr g M R => ?_)
      · rw [W s1]
        exact gd3_go ⟨Nat.le_refl _, Nat.le_refl _⟩ (if_pos rfl)
      · obtain ⟨⟨wr, R⟩, R2, R3⟩ := R
        obtain ⟨g2, a1, a2, a3⟩ := Y zr g M wr R
        obtain ⟨g4, b1, b2, b3⟩ := s4 zr (g2.setI (b + 72) 15 (nI (1 - 0))) M (a3.law 0) (by omega)
        have b1 : f_X12_readSum n zr (g2.setI (b + 72) 15 (nI (1 - 0))) (b + 72) 0 = some g4 := b1
        refine ⟨g4, ?_, (a2.t.tr (FrT.s72 (by decide))).tr b2.t, b3⟩
        rw [a1]
        unfold f_X12_readLaw_18
        rw [gR_ok a3.K (rm_4 a3.1.1), bS, show ldI zr g2 (b + 76) 557 = _ from lm_4 (j := 557) a3.1.1 (by decide), bS, pI_ok a3.K, bS, b1, bS, gI_ok b3.K, bS, if_neg b3.ne, bS]
    · rw [List.nil_append] at s3
      have hT4 := tkT s3.tk
      obtain ⟨h5, q1, q2, q3, q4, q5⟩ := (H.fc (F2.tr (f2.tr s2))).law (k := 9) (C := C4) (LL := []) (by decide) (by omega) (s3.2.2.2.2.2.2.2.2.2.2 (by decide)) hz
      obtain ⟨⟨p1, p2, p3⟩, ⟨p4, -⟩, -⟩ := id (H.fc (F2.tr (f2.tr s2)))
      have hb : b + 92 ≤ z.sz := by omega
      have Z5 := Z.gz q2 hb
      have hR8 : ((h4.nw z.sz).rowI z.sz (va_cpy ((h4.nw z.sz).I (b + 7)) ((h4.nw z.sz).I z.sz) 0 0 C4.length)).R (b + 2) 8 = some t := by
        rw [rowI_R, nw_Rb, if_neg (by omega)]
        exact p1
      have C5 : CS b sv (z.al 14 C4.length C4.length) tx N 0 T4 C4 h5 := s3.mv (by omega) q2.2.1 q2.2.2.1 q3 q4
      have Kt : (z.al 14 C4.length C4.length).K t = 8 := (q2.2.1 t (by omega)).1.trans p4
      have hsz : z.sz ≤ (z.al 14 C4.length C4.length).sz ∧ z.sl ≤ (z.al 14 C4.length C4.length).sl := ⟨by rw [al_sz]; omega, by rw [al_sl]; omega⟩
      have W2 : f_X6_readLaw n z h (b + 2) 0 = some (1, h5, z.al 14 C4.length C4.length) := by
        rw [W s1]
        refine gd3_go hsz ?_
        rw [if_neg n10, gR_ok Z.2.2.1 s3.1.2.1, bS, gI_ok Z.2.2.1, bS, s3.2.2.2.2.2.2.2.2.1 (by decide), cpL_ok Z hb (by omega), bS]
        refine gd3_go ⟨Nat.le_refl _, Nat.le_refl _⟩ ?_
        show (gR (z.al 14 C4.length C4.length) ((h4.nw z.sz).rowI z.sz (va_cpy ((h4.nw z.sz).I (b + 7)) ((h4.nw z.sz).I z.sz) 0 0 C4.length)) 6 (b + 2) 8).bind _ = _
        rw [gR_ok Z5.2.2.1 hR8, bS, pR_ok Kt, bS, ← q1]
      have W3 : ∀ x h6, f_X6_endLine n (z.al 14 C4.length C4.length) h5 (b + 2) = some (x, h6) → f_X6_readLine n z h (b + 2) = gd3 z (gd3 (z.al 14 C4.length C4.length) (if x = 0 then some (0, h6, z.al 14 C4.length C4.length) else some (1, h6, z.al 14 C4.length C4.length))) := by
        intro x h6 e
        rw [U, W2, bS]
        show gd3 z (gd3 (z.al 14 C4.length C4.length) (if (1 : Int32) = 0 then _ else _)) = _
        rw [if_neg n10, e, bS]
      have q5 : CT b (z.al 14 C4.length C4.length) t (yr, tr, P, ca, di, li, tal, fe, LW, (C4)) h5 := q5
      refine Jl.fin C5 q5 ⟨O.1, O.2.1, O.2.2.1, O.2.2.2.1, O.2.2.2.2.1, O.2.2.2.2.2.1, O.2.2.2.2.2.2.1, law_ok (w := 0) (by decide) (by omega) ok3⟩ hz ((Gz.fc (F2.tr (f2.tr s2))).tr q2) ⟨by rw [al_sz]; omega, by rw [al_sl]; omega⟩ (by omega) Z5 hN hx hn (fun h6 e => ?_) (fun h6 e => ?_) (fun zr g M R => ?_)
      · rw [W3 _ _ e]
        exact gd3_go hsz (gd3_go ⟨Nat.le_refl _, Nat.le_refl _⟩ (if_pos rfl))
      · rw [W3 _ _ e]
        exact gd3_go hsz (gd3_go ⟨Nat.le_refl _, Nat.le_refl _⟩ (if_neg n10))
      · obtain ⟨⟨wr, R⟩, R2, R3⟩ := R
        obtain ⟨g2, a1, a2, a3⟩ := Y zr g M wr R
        obtain ⟨g4, b1, b2, b3⟩ := s6 zr (g2.setI (b + 72) 15 (nI (1 - 0))) M (a3.law 0) (by omega)
        have b1 : f_X12_readSum n zr (g2.setI (b + 72) 15 (nI (1 - 0))) (b + 72) 0 = some g4 := b1
        have hM := a3.2.2.2.2.2.2.2.2.1
        have R4 : RT b M (yr, tr, P, ca, di, li, tal, fe, LW, LG) g4 := by
          have := R2.mv (g' := g4) O.2.2.1 [] (fun k hk => (b2.2.2.2.2 k hk).trans ((by rw [sI_o (show b + 76 ≠ b + 72 by omega)] : (g2.setI (b + 72) 15 (nI (1 - 0))).I (b + 76) k = g2.I (b + 76) k).trans (a2.2.2.2.2 k hk)))
          rw [List.append_nil] at this
          exact this
        have R5 := R4.l_g (C := C4) O.2.2.1
        refine ⟨_, M ++ C4, ?_, (((a2.t.tr (FrT.s72 (by decide))).tr b2.t).tr ((FrT.s76.tr FrT.s76).tr FrT.s76)), ⟨0, ((b3.s76 (by decide)).s76 (by decide)).s76 (by decide)⟩, R5, by rw [List.length_append]; omega⟩
        have bM := b3.2.2.2.2.2.2.2.2.1
        have LR := b3.1.1
        rw [a1]
        unfold f_X12_readLaw_18
        rw [gR_ok a3.K (rm_4 a3.1.1), bS, show ldI zr g2 (b + 76) 557 = some (nI M.length) from (lm_4 (j := 557) a3.1.1 (by decide)).trans (by rw [hM]), bS, pI_ok a3.K, bS, b1, bS, gI_ok b3.K, bS, b3.2.2.1, if_pos (show nI 0 = 0 from rfl), gR_ok b3.K (rm_4 LR), bS, show (5 : Int32) + nI (1 - 0) = nI 6 by decide, show (7 : Int32) + nI (1 - 0) = nI 8 by decide, show (9 : Int32) + nI (1 - 0) = nI 10 by decide]
        rw [show stI zr g4 (b + 76) (nI 6) 1 = some (g4.setI (b + 76) 6 (nI 1)) from sm_4 LR (by decide), bS, show gR zr (g4.setI (b + 76) 6 (nI 1)) 12 (b + 72) 4 = some (b + 76) from gR_ok b3.K (rm_4 LR), bS, show stI zr (g4.setI (b + 76) 6 (nI 1)) (b + 76) (nI 8) (nI M.length) = some ((g4.setI (b + 76) 6 (nI 1)).setI (b + 76) 8 (nI M.length)) from sm_4 (R := g4.2.2) LR (by decide), bS, show gR zr ((g4.setI (b + 76) 6 (nI 1)).setI (b + 76) 8 (nI M.length)) 12 (b + 72) 4 = some (b + 76) from gR_ok b3.K (rm_4 LR), bS, bS, show ldI zr ((g4.setI (b + 76) 6 (nI 1)).setI (b + 76) 8 (nI M.length)) (b + 76) 557 = some (nI (M ++ C4).length) from (lm_4 (R := g4.2.2) (j := 557) LR (by decide)).trans (by rw [sI_ne (by decide), sI_ne (by decide), bM]), bS, List.length_append, nI_sub (by omega), show M.length + C4.length - M.length = C4.length by omega, show stI zr ((g4.setI (b + 76) 6 (nI 1)).setI (b + 76) 8 (nI M.length)) (b + 76) (nI 10) (nI C4.length) = some (((g4.setI (b + 76) 6 (nI 1)).setI (b + 76) 8 (nI M.length)).setI (b + 76) 10 (nI C4.length)) from sm_4 (R := g4.2.2) LR (by decide), bS, bS]
  · obtain ⟨h3, f1, f2, F3⟩ := take_f C2 Z hN hx hn (s := 22) (by decide) (by decide) k31
    refine Jl.bad (h1 := h3) (z1 := z) (V ?_) (Gz.fc (F2.tr f2)) ⟨by omega, by omega⟩ F3.wk (fun zr g M R => ?_)
    · unfold f_X6_readLaw
      rw [if_pos Z.2.2.1]
      refine gd3_go ⟨Nat.le_refl _, Nat.le_refl _⟩ ?_
      rw [e1, bS, show pZ z h1 6 (b + 2) 9 0 = some (h1.setI (b + 2) 9 (nI 0)) from pZ_ok Z.2.2.1 (by decide), bS, pI_ok Z.2.2.1, bS, f1, bS]
      exact if_pos rfl
    · obtain ⟨⟨wr, R⟩, R2, R3⟩ := R
      obtain ⟨g1, a1, a2, a3⟩ := X zr g M wr R
      obtain ⟨g2, b1, b2, b3⟩ := fails_r a3 (v := 2) (by decide) (by decide)
      have b1 : f_X12_fails zr g1 (b + 72) 2 = some g2 := b1
      have F4 := b3.law (v := nI (1 - 0))
      have sF : f_X12_readSum n zr (g2.setI (b + 72) 15 (nI (1 - 0))) (b + 72) 0 = some (g2.setI (b + 72) 15 (nI (1 - 0))) := sum_F F4 hn 57 0
      refine ⟨g2.setI (b + 72) 15 (nI (1 - 0)), ?_, (a2.t.tr b2.t).tr (FrT.s72 (by decide)), F4⟩
      rw [a1, show f_X12_eats n zr g1 (b + 72) 31 = some (0, g1) from eats_f a3 (k := 31) (by decide) k31, bS]
      show ((if (0 : Int32) = 0 then _ else _ : Option Hp)).bind _ = _
      rw [if_pos rfl, b1, bS]
      unfold f_X12_readLaw_18
      rw [gR_ok b3.K (rm_4 b3.1), bS, show ldI zr g2 (b + 76) 557 = _ from lm_4 (j := 557) b3.1 (by decide), bS, pI_ok b3.K, bS, sF, bS, gI_ok b3.K, bS, if_neg F4.ne, bS]
end
