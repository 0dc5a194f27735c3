/-! ===== town, 16: the head, the whole text ===== -/
def hdR (n b : Nat) (zr : Sh) (g : Hp) : Option (Int32 × Hp) := (f_X12_eats n zr g (b + 72) 0).bind fun q => if q.1 = 0 then f_X12_town_69 n zr q.2 (b + 72) else (f_X12_eats n zr q.2 (b + 72) 1).bind fun r => if r.1 = 0 then f_X12_town_69 n zr r.2 (b + 72) else f_X12_town_74 n zr r.2 (b + 72)
section
variable {n b N w zs t : Nat} {sv : Nat → Nat} {z : Sh} {tx : Nat → Nat} {L M : List Nat} {h g : Hp} {yr tr P ca di li : Nat} {tal fe : Nat → Nat} {LW LG : List Nat}
theorem CF.ne {w fl pl : Nat} (F : CF b w fl pl h) : ¬ (h.I (b + 2) 0 = 0) := fun q => by
  have h1 := F.1
  rw [h1] at q
  have h4 := F.2.2.2.1
  have := (nI_inj (j := 0) (by omega) (by decide)).mp q
  have := F.2.2.1
  omega
theorem hd_ok {T : Tk} (C : CS b sv z tx N w T L h) (H : CT b z t (yr, tr, P, ca, di, li, tal, fe, LW, LG) h) (hP : P ≤ 6) (hz : zs ≤ t) (Z : ZC b z) (hN : N ≤ 900) (hx : ∀ j, tx j < 256) (hn : 400000 ≤ n) :
    (∃ h' fl pl, f_X6_readHead n z h (b + 2) = some (0, h') ∧ Gz b zs z h z h' ∧ CF b 2 fl pl h' ∧ ∀ zr g M wr, RS b sv zr tx N wr T M g → ∃ g', hdR n b zr g = some ((-99000030) - nI fl, g') ∧ FrT b g g' ∧ g'.I (b + 72) 13 = nI fl ∧ g'.I (b + 72) 14 = nI pl) ∨
    (∃ h' T' yr' tr', f_X6_readHead n z h (b + 2) = some (1, h') ∧ Gz b zs z h z h' ∧ T.1 ≤ T'.1 ∧ CS b sv z tx N w T' L h' ∧ CT b z t (yr', tr', P, ca, di, li + 1, tal, fe, LW, LG) h' ∧ (1 ≤ yr' ∧ yr' ≤ 6) ∧ (1 ≤ tr' ∧ tr' ≤ 4) ∧ ∀ zr g M wr, RS b sv zr tx N wr T M g → RT b M (yr, tr, P, ca, di, li, tal, fe, LW, LG) g → ∃ g', hdR n b zr g = f_X12_town_116 n zr n g' (b + 72) ∧ FrT b g g' ∧ RS b sv zr tx N wr T' M g' ∧ RT b M (yr', tr', P, ca, di, li + 1, tal, fe, LW, LG) g') := by
  have n10 : ¬ ((1 : Int32) = 0) := by decide
  have hT := tkT C.tk
  obtain ⟨⟨r1, r2, r3⟩, ⟨r4, -⟩, -⟩ := id H
  have f69 : ∀ {T' : Tk} {zr g M wr}, RS b sv zr tx N wr T' M g → ∃ g', f_X12_town_69 n zr g (b + 72) = some ((-99000030) - nI (flt T'.2.2.1 2), g') ∧ FrT b g g' ∧ g'.I (b + 72) 13 = nI (flt T'.2.2.1 2) ∧ g'.I (b + 72) 14 = nI T'.1 := by
    intro T' zr g M wr R
    obtain ⟨g1, a1, a2, a3⟩ := fails_r R (v := 2) (by decide) (by decide)
    have a1 : f_X12_fails zr g (b + 72) 2 = some g1 := a1
    obtain ⟨g2, b1, b2, b3⟩ := t74_F (n := n) a3 hn
    refine ⟨g2, ?_, a2.t.tr b2, b3⟩
    unfold f_X12_town_69
    rw [a1, bS]
    exact b1
  by_cases k0 : T.2.2.1 = 0
  · obtain ⟨h1, e1, e1f, C1⟩ := take_t C Z hN hx hn (s := 11) (by decide) (by decide) k0
    have t1 := tkG C.tk (by omega)
    have x1 : ∀ zr g M wr, RS b sv zr tx N wr T M g → ∃ g1, hdR n b zr g = ((f_X12_eats n zr g1 (b + 72) 1).bind fun r => if r.1 = 0 then f_X12_town_69 n zr r.2 (b + 72) else f_X12_town_74 n zr r.2 (b + 72)) ∧ FrR b g g1 ∧ RS b sv zr tx N wr (tkN tx N T.2.1) M g1 := by
      intro zr g M wr R
      obtain ⟨g1, a1, a2, a3⟩ := eats_t R hN hx hn (k := 0) (by decide) k0
      refine ⟨g1, ?_, a2, a3⟩
      unfold hdR
      rw [show f_X12_eats n zr g (b + 72) 0 = _ from a1, bS]
      exact if_neg n10
    by_cases k1 : (tkN tx N T.2.1).2.2.1 = 1
    · obtain ⟨h2, e2, e2f, C2⟩ := take_t C1 Z hN hx hn (s := 12) (by decide) (by decide) k1
      have t2 := tkG C1.tk (by omega)
      have H2 := (H.fc e1f).fc e2f
      obtain ⟨⟨p1, -, -⟩, -⟩ := id H2
      have x2 : ∀ zr g M wr, RS b sv zr tx N wr T M g → ∃ g2, hdR n b zr g = f_X12_town_74 n zr g2 (b + 72) ∧ FrR b g g2 ∧ RS b sv zr tx N wr (tkN tx N (tkN tx N T.2.1).2.1) M g2 := by
        intro zr g M wr R
        obtain ⟨g1, y1, y2, y3⟩ := x1 zr g M wr R
        obtain ⟨g2, a1, a2, a3⟩ := eats_t (n := n) y3 hN hx hn (k := 1) (by decide) k1
        refine ⟨g2, ?_, y2.tr a2, a3⟩
        rw [y1, show f_X12_eats n zr g1 (b + 72) 1 = _ from a1, bS]
        exact if_neg n10
      have u2 : f_X6_readHead n z h (b + 2) = (f_X6_takeNumber n z h2 (b + 2) 1 6).bind fun q => (pI z q.2 8 t 0 q.1).bind fun h10 => (gI z h10 6 (b + 2) 0).bind fun x11 => if x11 = 0 then (f_X6_take n z h10 (b + 2) (z.st 13)).bind fun q2 => if q2.1 = 0 then some (0, q2.2) else (gR z q2.2 6 (b + 2) 8).bind fun a16 => (f_X6_takeNumber n z q2.2 (b + 2) 1 4).bind fun q3 => (pI z q3.2 8 a16 1 q3.1).bind fun h19 => (gI z h19 6 (b + 2) 0).bind fun x20 => if x20 = 0 then (f_X6_endLine n z h19 (b + 2)).bind fun q4 => if q4.1 = 0 then some (0, q4.2) else some (1, q4.2) else some (0, h19) else some (0, h10) := by
        unfold f_X6_readHead
        rw [if_pos Z.2.2.1, e1, bS]
        show (if (1 : Int32) = 0 then _ else _) = _
        rw [if_neg n10, e2, bS]
        show (if (1 : Int32) = 0 then _ else _) = _
        rw [if_neg n10, gR_ok Z.2.2.1 p1, bS]
      generalize hT2 : tkN tx N (tkN tx N T.2.1).2.1 = T2 at *
      by_cases q : T2.2.2.1 = 24 ∧ 1 ≤ T2.2.2.2 ∧ T2.2.2.2 ≤ 6
      · obtain ⟨h3, e3, e3f, C3⟩ := takeN_t C2 Z hN hx hn (lo := 1) (hi := 6) (by decide) (by decide) q.1 q.2.1 q.2.2
        have e3 : f_X6_takeNumber n z h2 (b + 2) 1 6 = some (nI T2.2.2.2, h3) := e3
        have t3 := tkG C2.tk (by omega)
        have C3' : CS b sv z tx N w (tkN tx N T2.2.1) L (h3.setI t 0 (nI T2.2.2.2)) := C3.mv (by omega) (fun _ _ => ⟨rfl, rfl⟩) (fun _ => rfl) (fun a ha => sI_o (by omega)) (fun _ _ => rfl)
        have H3 := (H2.fc e3f).s_yr (x := T2.2.2.2)
        have x3 : ∀ zr g M wr, RS b sv zr tx N wr T M g → ∃ g3, hdR n b zr g = ((f_X12_eats n zr (g3.setI (b + 76) 1 (nI T2.2.2.2)) (b + 72) 2).bind fun q => if q.1 = 0 then (f_X12_fails zr q.2 (b + 72) 2).bind fun h8 => f_X12_town_100 n zr h8 (b + 72) else f_X12_town_100 n zr q.2 (b + 72)) ∧ FrR b g g3 ∧ RS b sv zr tx N wr (tkN tx N T2.2.1) M g3 := by
          intro zr g M wr R
          obtain ⟨g2, y1, y2, y3⟩ := x2 zr g M wr R
          obtain ⟨g3, a1, a2, a3⟩ := takes_t (n := n) y3 hN hx hn (lo := 1) (hi := 6) (by decide) (by decide) q.1 q.2.1 q.2.2
          have a1 : f_X12_takes n zr g2 (b + 72) 1 6 = some (nI T2.2.2.2, g3) := a1
          refine ⟨g3, ?_, y2.tr a2, a3⟩
          rw [y1]
          unfold f_X12_town_74
          rw [gR_ok y3.K (rm_4 y3.1.1), bS, a1, bS]
          show (stI zr g3 (b + 76) 1 (nI T2.2.2.2)).bind _ = _
          rw [show stI zr g3 (b + 76) 1 _ = _ from sm_4 (j := 1) a3.1.1 (by decide), bS]
        have u3 : f_X6_readHead n z h (b + 2) = (f_X6_take n z (h3.setI t 0 (nI T2.2.2.2)) (b + 2) (z.st 13)).bind fun q2 => if q2.1 = 0 then some (0, q2.2) else (gR z q2.2 6 (b + 2) 8).bind fun a16 => (f_X6_takeNumber n z q2.2 (b + 2) 1 4).bind fun q3 => (pI z q3.2 8 a16 1 q3.1).bind fun h19 => (gI z h19 6 (b + 2) 0).bind fun x20 => if x20 = 0 then (f_X6_endLine n z h19 (b + 2)).bind fun q4 => if q4.1 = 0 then some (0, q4.2) else some (1, q4.2) else some (0, h19) := by
          rw [u2, e3, bS, pI_ok r4, bS, gI_ok Z.2.2.1, bS, C3'.2.2.1, if_pos (show nI 0 = 0 from rfl)]
        have G3 : Gz b zs z h z (h3.setI t 0 (nI T2.2.2.2)) := (Gz.fc (e1f.tr (e2f.tr e3f))).tr (Gz.st hz)
        by_cases k2 : (tkN tx N T2.2.1).2.2.1 = 2
        · obtain ⟨h4, e4, e4f, C4⟩ := take_t C3' Z hN hx hn (s := 13) (by decide) (by decide) k2
          have t4 := tkG C3.tk (by omega)
          have H4 := H3.fc e4f
          obtain ⟨⟨p4, -, -⟩, -⟩ := id H4
          have x4 : ∀ zr g M wr, RS b sv zr tx N wr T M g → ∃ g3 g4, hdR n b zr g = f_X12_town_100 n zr g4 (b + 72) ∧ FrR b g g3 ∧ FrR b (g3.setI (b + 76) 1 (nI T2.2.2.2)) g4 ∧ RS b sv zr tx N wr (tkN tx N (tkN tx N T2.2.1).2.1) M g4 := by
            intro zr g M wr R
            obtain ⟨g3, y1, y2, y3⟩ := x3 zr g M wr R
            obtain ⟨g4, a1, a2, a3⟩ := eats_t (n := n) (y3.s76 (k := 1) (v := nI T2.2.2.2) (by decide)) hN hx hn (k := 2) (by decide) k2
            refine ⟨g3, g4, ?_, y2, a2, a3⟩
            rw [y1, show f_X12_eats n zr (g3.setI (b + 76) 1 (nI T2.2.2.2)) (b + 72) 2 = _ from a1, bS]
            exact if_neg n10
          have u4 : f_X6_readHead n z h (b + 2) = (f_X6_takeNumber n z h4 (b + 2) 1 4).bind fun q3 => (pI z q3.2 8 t 1 q3.1).bind fun h19 => (gI z h19 6 (b + 2) 0).bind fun x20 => if x20 = 0 then (f_X6_endLine n z h19 (b + 2)).bind fun q4 => if q4.1 = 0 then some (0, q4.2) else some (1, q4.2) else some (0, h19) := by
            rw [u3, e4, bS]
            show (if (1 : Int32) = 0 then _ else _) = _
            rw [if_neg n10, gR_ok Z.2.2.1 p4, bS]
          generalize hT4 : tkN tx N (tkN tx N T2.2.1).2.1 = T4 at *
          by_cases q' : T4.2.2.1 = 24 ∧ 1 ≤ T4.2.2.2 ∧ T4.2.2.2 ≤ 4
          · obtain ⟨h5, e5, e5f, C5⟩ := takeN_t C4 Z hN hx hn (lo := 1) (hi := 4) (by decide) (by decide) q'.1 q'.2.1 q'.2.2
            have e5 : f_X6_takeNumber n z h4 (b + 2) 1 4 = some (nI T4.2.2.2, h5) := e5
            have t5 := tkG C4.tk (by omega)
            have C5' : CS b sv z tx N w (tkN tx N T4.2.1) L (h5.setI t 1 (nI T4.2.2.2)) := C5.mv (by omega) (fun _ _ => ⟨rfl, rfl⟩) (fun _ => rfl) (fun a ha => sI_o (by omega)) (fun _ _ => rfl)
            have H5 := (H4.fc e5f).s_tr (x := T4.2.2.2)
            have G5 : Gz b zs z h z (h5.setI t 1 (nI T4.2.2.2)) := (G3.tr (Gz.fc (e4f.tr e5f))).tr (Gz.st hz)
            have u5 : f_X6_readHead n z h (b + 2) = (f_X6_endLine n z (h5.setI t 1 (nI T4.2.2.2)) (b + 2)).bind fun q4 => if q4.1 = 0 then some (0, q4.2) else some (1, q4.2) := by
              rw [u4, e5, bS, pI_ok r4, bS, gI_ok Z.2.2.1, bS, C5'.2.2.1, if_pos (show nI 0 = 0 from rfl)]
            have x5 : ∀ zr g M wr, RS b sv zr tx N wr T M g → ∃ g3 g4 g5, hdR n b zr g = ((f_X12_ends n zr (g5.setI (b + 76) 2 (nI T4.2.2.2)) (b + 72)).bind fun h5 => f_X12_town_116 n zr n h5 (b + 72)) ∧ FrR b g g3 ∧ FrR b (g3.setI (b + 76) 1 (nI T2.2.2.2)) g4 ∧ FrR b g4 g5 ∧ RS b sv zr tx N wr (tkN tx N T4.2.1) M g5 := by
              intro zr g M wr R
              obtain ⟨g3, g4, y1, y2, y3, y4⟩ := x4 zr g M wr R
              obtain ⟨g5, a1, a2, a3⟩ := takes_t (n := n) y4 hN hx hn (lo := 1) (hi := 4) (by decide) (by decide) q'.1 q'.2.1 q'.2.2
              have a1 : f_X12_takes n zr g4 (b + 72) 1 4 = some (nI T4.2.2.2, g5) := a1
              refine ⟨g3, g4, g5, ?_, y2, y3, a2, a3⟩
              rw [y1]
              unfold f_X12_town_100
              rw [gR_ok y4.K (rm_4 y4.1.1), bS, a1, bS]
              show (stI zr g5 (b + 76) 2 (nI T4.2.2.2)).bind _ = _
              rw [show stI zr g5 (b + 76) 2 _ = _ from sm_4 (j := 2) a3.1.1 (by decide), bS]
            by_cases k30 : (tkN tx N T4.2.1).2.2.1 = 30
            · obtain ⟨h6, e6, e6g, C6, H6⟩ := endc_t (zs := zs) C5' H5 hz Z hN hx hn k30
              have t6 := tkG C5.tk (by omega)
              refine Or.inr ⟨h6, _, T2.2.2.2, T4.2.2.2, ?_, G5.tr e6g, by omega, C6, H6, q.2, q'.2, fun zr g M wr R R2 => ?_⟩
              · rw [u5, e6, bS]
                exact if_neg n10
              · obtain ⟨g3, g4, g5, y1, y2, y3, y4, y5⟩ := x5 zr g M wr R
                have R3 := ((R2.fr hP y2).s_yr (x := T2.2.2.2)).fr hP y3
                have R5 := (R3.fr hP y4).s_tr (x := T4.2.2.2)
                obtain ⟨g6, a1, a2, a3, a4⟩ := endr_t (n := n) (y5.s76 (k := 2) (v := nI T4.2.2.2) (by decide)) R5 hP hN hx hn k30
                refine ⟨g6, ?_, (((y2.t.tr FrT.s76).tr (y3.t.tr y4.t)).tr FrT.s76).tr a2, a3, a4⟩
                rw [y1, a1, bS]
            · obtain ⟨h6, e6, e6g, F6⟩ := endc_f (zs := zs) C5' H5 hz Z hN hx hn k30
              refine Or.inl ⟨h6, _, _, ?_, G5.tr e6g, F6, fun zr g M wr R => ?_⟩
              · rw [u5, e6, bS]
                exact if_pos rfl
              · obtain ⟨g3, g4, g5, y1, y2, y3, y4, y5⟩ := x5 zr g M wr R
                obtain ⟨g6, a1, a2, a3⟩ := endr_f (n := n) (y5.s76 (k := 2) (v := nI T4.2.2.2) (by decide)) k30
                obtain ⟨g7, b1, b2, b3⟩ := t116_F (n := n) a3 (f := n) (by omega)
                refine ⟨g7, ?_, ((((y2.t.tr FrT.s76).tr (y3.t.tr y4.t)).tr FrT.s76).tr a2).tr b2, b3⟩
                rw [y1, a1, bS]
                exact b1
          · obtain ⟨h5, e5, e5f, F5⟩ := takeN_f (n := n) C4 Z hN (lo := 1) (hi := 4) (by decide) (by decide) q'
            have e5 : f_X6_takeNumber n z h4 (b + 2) 1 4 = some (nI 0, h5) := e5
            have F5' : CF b 2 _ _ (h5.setI t 1 (nI 0)) := F5.wk.mv (sI_o (by omega)) rfl
            refine Or.inl ⟨h5.setI t 1 (nI 0), _, _, ?_, (G3.tr (Gz.fc (e4f.tr e5f))).tr (Gz.st hz), F5', fun zr g M wr R => ?_⟩
            · rw [u4, e5, bS, pI_ok r4, bS, gI_ok Z.2.2.1, bS, if_neg F5'.ne]
            · obtain ⟨g3, g4, y1, y2, y3, y4⟩ := x4 zr g M wr R
              obtain ⟨g5, x, a1, a2, a3⟩ := takes_f (n := n) y4 (lo := 1) (hi := 4) (by decide) (by decide) q'
              have a1 : f_X12_takes n zr g4 (b + 72) 1 4 = some (x, g5) := a1
              obtain ⟨g6, c1, c2, c3⟩ := endr_F (n := n) (a3.s76 (k := 2) (v := x))
              obtain ⟨g7, b1, b2, b3⟩ := t116_F (n := n) c3 (f := n) (by omega)
              refine ⟨g7, ?_, ((((y2.t.tr FrT.s76).tr (y3.t.tr a2.t)).tr FrT.s76).tr c2).tr b2, b3⟩
              rw [y1]
              unfold f_X12_town_100
              rw [gR_ok y4.K (rm_4 y4.1.1), bS, a1, bS]
              show (stI zr g5 (b + 76) 2 x).bind _ = _
              rw [show stI zr g5 (b + 76) 2 _ = _ from sm_4 (j := 2) a3.1 (by decide), bS, c1, bS]
              exact b1
        · obtain ⟨h4, e4, e4f, F4⟩ := take_f C3' Z hN hx hn (s := 13) (by decide) (by decide) k2
          refine Or.inl ⟨h4, _, _, ?_, G3.tr (Gz.fc e4f), F4.wk, fun zr g M wr R => ?_⟩
          · rw [u3, e4, bS]
            exact if_pos rfl
          · obtain ⟨g3, y1, y2, y3⟩ := x3 zr g M wr R
            have y4 := y3.s76 (k := 1) (v := nI T2.2.2.2) (by decide)
            obtain ⟨g4, a1, a2, a3⟩ := fails_r y4 (v := 2) (by decide) (by decide)
            have a1 : f_X12_fails zr (g3.setI (b + 76) 1 (nI T2.2.2.2)) (b + 72) 2 = some g4 := a1
            obtain ⟨g5, b1, b2, b3⟩ := t100_F (n := n) a3 hn
            refine ⟨g5, ?_, ((y2.t.tr FrT.s76).tr a2.t).tr b2, b3⟩
            rw [y1, show f_X12_eats n zr (g3.setI (b + 76) 1 (nI T2.2.2.2)) (b + 72) 2 = some (0, g3.setI (b + 76) 1 (nI T2.2.2.2)) from eats_f y4 (k := 2) (by decide) k2, bS]
            show (if (0 : Int32) = 0 then _ else _) = _
            rw [if_pos rfl, a1, bS]
            exact b1
      · obtain ⟨h3, e3, e3f, F3⟩ := takeN_f (n := n) C2 Z hN (lo := 1) (hi := 6) (by decide) (by decide) q
        have e3 : f_X6_takeNumber n z h2 (b + 2) 1 6 = some (nI 0, h3) := e3
        have F3' : CF b 2 _ _ (h3.setI t 0 (nI 0)) := F3.wk.mv (sI_o (by omega)) rfl
        refine Or.inl ⟨h3.setI t 0 (nI 0), _, _, ?_, (Gz.fc (e1f.tr (e2f.tr e3f))).tr (Gz.st hz), F3', fun zr g M wr R => ?_⟩
        · rw [u2, e3, bS, pI_ok r4, bS, gI_ok Z.2.2.1, bS, if_neg F3'.ne]
        · obtain ⟨g2, y1, y2, y3⟩ := x2 zr g M wr R
          obtain ⟨g3, x, a1, a2, a3⟩ := takes_f (n := n) y3 (lo := 1) (hi := 6) (by decide) (by decide) q
          have a1 : f_X12_takes n zr g2 (b + 72) 1 6 = some (x, g3) := a1
          have a4 := a3.s76 (k := 1) (v := x)
          obtain ⟨g4, b1, b2, b3⟩ := t100_F (n := n) a4 hn
          refine ⟨g4, ?_, ((y2.t.tr a2.t).tr FrT.s76).tr b2, b3⟩
          rw [y1]
          unfold f_X12_town_74
          rw [gR_ok y3.K (rm_4 y3.1.1), bS, a1, bS]
          show (stI zr g3 (b + 76) 1 x).bind _ = _
          rw [show stI zr g3 (b + 76) 1 _ = _ from sm_4 (j := 1) a3.1 (by decide), bS, eats_F a4, bS]
          show (if (0 : Int32) = 0 then _ else _) = _
          rw [if_pos rfl, fails_F a4, bS]
          exact b1
    · obtain ⟨h2, e2, e2f, F2⟩ := take_f C1 Z hN hx hn (s := 12) (by decide) (by decide) k1
      refine Or.inl ⟨h2, _, _, ?_, Gz.fc (e1f.tr e2f), F2.wk, fun zr g M wr R => ?_⟩
      · unfold f_X6_readHead
        rw [if_pos Z.2.2.1, e1, bS]
        show (if (1 : Int32) = 0 then _ else _) = _
        rw [if_neg n10, e2, bS]
        exact if_pos rfl
      · obtain ⟨g1, y1, y2, y3⟩ := x1 zr g M wr R
        obtain ⟨g2, b1, b2, b3⟩ := f69 y3
        refine ⟨g2, ?_, y2.t.tr b2, b3⟩
        rw [y1, show f_X12_eats n zr g1 (b + 72) 1 = some (0, g1) from eats_f y3 (k := 1) (by decide) k1, bS]
        exact (if_pos rfl).trans b1
  · obtain ⟨h1, e1, e1f, F1⟩ := take_f C Z hN hx hn (s := 11) (by decide) (by decide) k0
    refine Or.inl ⟨h1, _, _, ?_, Gz.fc e1f, F1.wk, fun zr g M wr R => ?_⟩
    · unfold f_X6_readHead
      rw [if_pos Z.2.2.1, e1, bS]
      exact if_pos rfl
    · obtain ⟨g2, b1, b2, b3⟩ := f69 R
      refine ⟨g2, ?_, b2, b3⟩
      unfold hdR
      rw [show f_X12_eats n zr g (b + 72) 0 = some (0, g) from eats_f R (k := 0) (by decide) k0, bS]
      exact (if_pos rfl).trans b1
end
