/-! ===== calls that do deeds ===== -/
theorem tcopy {b : Nat} {z : Sh} {h : Hp} {t : Nat} {τ : TT} {P nx sz : Nat} (D : NowD b z h t τ P nx sz) : ∃ h1, f_X5_copy z h (b + 13) (b + 11) = some h1 ∧ Cc b h h1 ∧ (∀ k, k ≠ 13 → k ≠ 14 → h1.I (b + k) = h.I (b + k)) ∧ PeopleX (h1.I (b + 13)) (h1.I (b + 14)) (h.I (b + 73)) P := by
  obtain ⟨HX, d1, -, -, -, d2, -⟩ := D
  rw [copy_ok (trial_PL HX) (now_PL HX) (by omega) (by omega)]
  refine ⟨_, rfl, (Cc.row h _ (by omega)).trans (Cc.row _ _ (by omega)), fun k h1 h2 => by rw [rowI_ne _ _ (by omega), rowI_ne _ _ (by omega)], ?_⟩
  rw [rowI_I, rowI_ne _ _ (by omega), rowI_I]
  exact d2.1.cp d1.2.2.2.2.2.1 (by rw [upd, if_neg (by omega), upd, if_pos rfl]) (by rw [upd, if_pos rfl]) (fun k hk => cp54 hk)
theorem keepH_I {h : Hp} {b q r nx sz a : Nat} (h1 : a ≠ b + 18 + 2 * nx) (h2 : a ≠ b + 17 + 2 * nx) (h3 : a ≠ b + 15) : (keepH h b q r nx sz).I a = h.I a := by
  unfold keepH
  rw [rowI_ne _ _ h3, rowI_ne _ _ h2, rowI_ne _ _ h1]
theorem ckeep {b : Nat} {z : Sh} {h h1 h2 : Hp} {t : Nat} {τ : TT} {P nx sz q r : Nat} (D : NowD b z h t τ P nx sz) (C1 : Cc b h h1) (s1 : ∀ k, k ≠ 13 → k ≠ 14 → h1.I (b + k) = h.I (b + k)) (Q : Qd b q r) (C : ∀ k, 15 ≤ k → k < 37 → h2.I (b + k) = h1.I (b + k)) (C2 : Cc b h1 h2) (T : PeopleX (h2.I q) (h2.I r) (h.I (b + 73)) P) : f_X4_keep z h2 (b + 15) q = some (keepH h2 b q r nx sz) ∧ Cc b h (keepH h2 b q r nx sz) ∧ (∀ k, 11 ≤ k → k < 15 → (keepH h2 b q r nx sz).I (b + k) = h2.I (b + k)) ∧ (keepH h2 b q r nx sz).I (b + 15) 1 = nI ((nx + 1) % 10) ∧ (keepH h2 b q r nx sz).I (b + 15) 2 = nI (min (sz + 1) 10) ∧ PeopleX ((keepH h2 b q r nx sz).I (b + 17 + 2 * nx)) ((keepH h2 b q r nx sz).I (b + 17 + (2 * nx + 1))) (h.I (b + 73)) P ∧ ∀ k, k < 20 → k ≠ 2 * nx → k ≠ 2 * nx + 1 → (keepH h2 b q r nx sz).I (b + 17 + k) = h.I (b + 17 + k) := by
  obtain ⟨HX, d1, -, -, -, d2, ⟨p1, p2, p3, p4, p5⟩, p6⟩ := id D
  have HX2 : LayX z h2.2.2 b := by rw [C2.1, C1.1]; exact HX
  have e15 : h2.I (b + 15) = h.I (b + 15) := (C 15 (by omega) (by omega)).trans (s1 15 (by omega) (by omega))
  have HP : PL z h2.2.2 q r := by
    rcases id Q with ⟨rfl, rfl⟩ | ⟨rfl, rfl⟩
    · exact now_PL HX2
    · exact trial_PL HX2
  have e17 : ∀ k, k < 20 → h2.I (b + 17 + k) = h.I (b + 17 + k) := fun k hk => by
    rw [Nat.add_assoc b]
    exact (C (17 + k) (by omega) (by omega)).trans (s1 (17 + k) (by omega) (by omega))
  refine ⟨keep_ok HX2 Q HP p1 p2 (by rw [e15]; exact p3) (by rw [e15]; exact p4), ?_, fun k k1 k2 => keepH_I (by omega) (by omega) (by omega), ?_, ?_, ?_, fun k k1 k2 k3 => ?_⟩
  · exact (C1.trans C2).trans (((Cc.row h2 _ (by omega)).trans (Cc.row _ _ (by omega))).trans (Cc.row _ _ (by omega)))
  · unfold keepH
    rw [rowI_I, upd, if_neg (by omega), upd, if_pos rfl]
  · unfold keepH
    rw [rowI_I, upd, if_pos rfl]
  · have e1 : (keepH h2 b q r nx sz).I (b + 17 + 2 * nx) = upd (upd (h2.I (b + 17 + 2 * nx)) 1 (h2.I q 1)) 2 (h2.I q 2) := by
      unfold keepH
      rw [rowI_ne _ _ (by omega), rowI_I]
    have e2 : (keepH h2 b q r nx sz).I (b + 17 + (2 * nx + 1)) = va_cpy (h2.I r) (h2.I (b + 18 + 2 * nx)) 0 0 54 := by
      rw [show b + 17 + (2 * nx + 1) = b + 18 + 2 * nx by omega]
      unfold keepH
      rw [rowI_ne _ _ (by omega), rowI_ne _ _ (by omega), rowI_I]
    rw [e1, e2]
    exact T.cp d1.2.2.2.2.2.1 (by rw [upd, if_neg (by omega), upd, if_pos rfl]) (by rw [upd, if_pos rfl]) (fun k hk => cp54 hk)
  · rw [keepH_I (by omega) (by omega) (by omega)]
    exact e17 k k1
theorem set72 {b : Nat} {z : Sh} {h h3 : Hp} {t : Nat} {τ : TT} {P nx sz : Nat} (D : NowD b z h t τ P nx sz) (C : Cc b h h3) {k : Nat} (v : Int32) : RefI b z (h3.setI (b + 72) k v) τ P (h.I (b + 73)) := D.2.1.fr C.1 ((rowI_ne h3 _ (by omega)).trans (C.i (k := 73) (by omega) (by omega) (by omega) (by omega)))
theorem mkeep {n : Nat} {z : Sh} {g : Hp} {b : Nat} {τ : TT} {P : Nat} {A : Nat → Int32} (H : RefI b z g τ P A) (hn : 400000 ≤ n) : f_X12_keeps n z g (b + 72) = some (g.rowI (b + 79) (cpy A (g.I (b + 79)) 17 0 49)) ∧ RefI b z (g.rowI (b + 79) (cpy A (g.I (b + 79)) 17 0 49)) τ P A := by
  have h1 := keeps_ok (n := n) H.1 hn
  rw [H.2.2.1] at h1
  exact ⟨h1, H.fr rfl (rowI_ne g _ (by omega))⟩
theorem mnote {n : Nat} {z : Sh} {g : Hp} {b : Nat} {A' : Nat → Int32} (HM : LayR z g.2.2 (b + 72)) (hn : 400000 ≤ n) (h73 : g.I (b + 73) = A') {sz : Nat} (hsz : sz ≤ 10) (h66 : A' 66 = nI sz) : f_X12_notes n z g (b + 72) = some (g.rowI (b + 73) (notesRow A' (g.I (b + 79)) sz)) := by
  have := notes_ok (n := n) HM hn hsz (by rw [h73]; exact h66)
  rw [h73] at this
  exact this
theorem cpyw {A f : Nat → Int32} {k : Nat} (hk : k < 49) : cpy A f 17 0 49 k = A (17 + k) := by
  rw [cpy_in (by omega)]
  rfl
theorem ref_code {x : Nat} : (-99000000 : Int32) - (10 + nI x) = -99000010 - nI x := by
  rw [show (10 : Int32) = iI 10 by decide, show (-99000000 : Int32) = iI (-99000000) by decide, show (-99000010 : Int32) = iI (-99000010) by decide, nI_iI, iI_add, iI_sub, iI_sub]
  congr 1
  omega
theorem aLive_lt {τ : TT} {P : Nat} {A : Nat → Int32} {p t : Int} : (aLive τ P A p t).1 < 10 := by
  unfold aLive
  repeat' split
  all_goals (dsimp only; omega)
theorem aDraw_lt {τ : TT} {P : Nat} {A : Nat → Int32} {p : Int} : (aDraw τ P A p).1 < 10 := by
  unfold aDraw
  repeat' split
  all_goals (dsimp only; omega)
theorem aPledge_lt {P : Nat} {A : Nat → Int32} {p t : Int} : (aPledge P A p t).1 < 10 := by
  unfold aPledge
  repeat' split
  all_goals (dsimp only; omega)
theorem aRedeem_lt {P : Nat} {A : Nat → Int32} {p : Int} : (aRedeem P A p).1 < 10 := by
  unfold aRedeem
  repeat' split
  all_goals (dsimp only; omega)
theorem nz {x : Nat} (hx : x < 10) (h : ¬ x = 0) : ¬ nI x = 0 := fun q => h ((nI_inj (by omega) (by omega)).mp (q.trans (show (0 : Int32) = nI 0 from rfl)))
section
variable {n : Nat} {z0 : Sh} {h0 : Hp} {b c : Nat} {z : Sh} {h : Hp}
/-- the class's end of a call that was kept -/
def CK (b : Nat) (h g : Hp) (P nx sz : Nat) (A' : Nat → Int32) : Prop := Cc b h g ∧ PeopleX (g.I (b + 11)) (g.I (b + 12)) A' P ∧ (g.I (b + 15) 1 = nI ((nx + 1) % 10) ∧ g.I (b + 15) 2 = nI (min (sz + 1) 10)) ∧ PeopleX (g.I (b + 17 + 2 * nx)) (g.I (b + 17 + (2 * nx + 1))) (h.I (b + 73)) P ∧ ∀ k, k < 20 → k ≠ 2 * nx → k ≠ 2 * nx + 1 → g.I (b + 17 + k) = h.I (b + 17 + k)
/-- trial copied, deeds done on now, trial kept -/
theorem ck_now {t : Nat} {τ : TT} {P nx sz : Nat} {g1 g2 : Hp} {A' : Nat → Int32} (D : NowD b z h t τ P nx sz) (C1 : Cc b h g1) (s1 : ∀ k, k ≠ 13 → k ≠ 14 → g1.I (b + k) = h.I (b + k)) (T : PeopleX (g1.I (b + 13)) (g1.I (b + 14)) (h.I (b + 73)) P) (C2 : Ce b (b + 11) (b + 12) g1 g2) (X2 : PeopleX (g2.I (b + 11)) (g2.I (b + 12)) A' P) : ∃ g3, f_X4_keep z g2 (b + 15) (b + 13) = some g3 ∧ CK b h g3 P nx sz A' ∧ PeopleX (g3.I (b + 13)) (g3.I (b + 14)) (h.I (b + 73)) P := by
  have CC2 : Cc b g1 g2 := Ce.c (Or.inl ⟨rfl, rfl⟩) C2
  have s2 : ∀ k, 13 ≤ k → k < 37 → g2.I (b + k) = g1.I (b + k) := fun k k1 k2 => C2.2.2 _ (by omega) (by omega) (by omega) (by omega) (by omega)
  obtain ⟨k1, k2, k3, k4, k5, k6, k7⟩ := ckeep D C1 s1 (q := b + 13) (r := b + 14) (Or.inr ⟨rfl, rfl⟩) (fun k k1 k2 => s2 k (by omega) k2) CC2 (by rw [s2 13 (by omega) (by omega), s2 14 (by omega) (by omega)]; exact T)
  refine ⟨_, k1, ⟨k2, ?_, ⟨k4, k5⟩, k6, k7⟩, ?_⟩
  · rw [k3 11 (by omega) (by omega), k3 12 (by omega) (by omega)]
    exact X2
  · rw [k3 13 (by omega) (by omega), k3 14 (by omega) (by omega), s2 13 (by omega) (by omega), s2 14 (by omega) (by omega)]
    exact T
/-- the reference's end of a call that was kept -/
theorem fin_kept (I : Inv z0 h0 b c z h) {t : Nat} {τ : TT} {P nx sz : Nat} {g3 g5 : Hp} {A' : Nat → Int32} (D : NowD b z h t τ P nx sz) (hn : 400000 ≤ n) (K : CK b h g3 P nx sz A') (R : Re b g3 g5) (h73 : g5.I (b + 73) = A') (h79 : ∀ k, k < 49 → g5.I (b + 79) k = h.I (b + 73) (17 + k)) (hA' : ∀ k, k < 17 ∨ 66 ≤ k → A' k = h.I (b + 73) k) (hp : ∀ p, p < P → PerOK τ A' p) : ∃ h4, f_X12_notes n z g5 (b + 72) = some h4 ∧ Inv z0 h0 b c z h4 ∧ h4.2.2 = h.2.2 ∧ (∀ k, k < 66 → h4.I (b + 73) k = A' k) ∧ h4.I (b + 79) = g5.I (b + 79) := by
  obtain ⟨k1, k2, ⟨k3, k4⟩, k5, k6⟩ := K
  obtain ⟨HX, ⟨HM, hτ, -, hA, h3, h6, hp6⟩, hR3, hT, -, HA, ⟨p1, p2, p3, p4, p5⟩, -⟩ := id D
  have HM5 : LayR z g5.2.2 (b + 72) := by
    rw [R.1, k1.1]
    exact HM
  refine ⟨_, mnote HM5 hn h73 p2 (by rw [hA' 66 (by omega)]; exact p5), I.kept D k1 k2 k3 k4 k5 k6 (R.trans (Re.row _ _ (by omega))) hA' hp h79 (rowI_I _ _ _), ?_, fun k hk => ?_, rowI_ne _ _ (by omega)⟩
  · show g5.2.2 = h.2.2
    rw [R.1, k1.1]
  · rw [rowI_I, notesRow_k p2 (by omega)]
/-- the reference's beginning: thrown, keeps -/
theorem beg_kept {t : Nat} {τ : TT} {P nx sz : Nat} {g3 : Hp} (D : NowD b z h t τ P nx sz) (hn : 400000 ≤ n) (C : Cc b h g3) : RefI b z (g3.setI (b + 72) 0 0) τ P (h.I (b + 73)) ∧ ∃ g4, f_X12_keeps n z (g3.setI (b + 72) 0 0) (b + 72) = some g4 ∧ RefI b z g4 τ P (h.I (b + 73)) ∧ Re b g3 g4 ∧ ∀ k, k < 49 → g4.I (b + 79) k = h.I (b + 73) (17 + k) := by
  have H1 := set72 D C (k := 0) 0
  obtain ⟨m1, H2⟩ := mkeep (n := n) H1 hn
  refine ⟨H1, _, m1, H2, (Re.set g3 0 (by omega)).trans (Re.row _ _ (by omega)), fun k hk => ?_⟩
  rw [rowI_I, cpyw hk]
theorem two_go {α : Type} {x : Option (α × Hp)} {y : Hp → Option (α × Hp)} {Q : Hp → Prop} {r : α} {h1 : Hp} (hx : x = some (r, h1)) (hy : ∃ h2, y h1 = some (r, h2) ∧ Q h2) : ∃ r h1 h2, x = some (r, h1) ∧ y h1 = some (r, h2) ∧ Q h2 := by
  obtain ⟨h2, e, q⟩ := hy
  exact ⟨r, h1, h2, hx, e, q⟩
theorem live_ok (I : Inv z0 h0 b c z h) (hn : 400000 ≤ n) (p u : Int32) : ∃ r h1 h2, f_X11_live n z h b p u = some (r, h1) ∧ f_X12_live n z h1 (b + 72) p u = some (r, h2) ∧ Inv z0 h0 b c z h2 := by
  obtain ⟨t, τ, P, nx, sz, D⟩ := I.now
  obtain ⟨HX, ⟨HM, hτ, -, hA, h3, h6, hp6⟩, hR3, hT, -, HA, ⟨p1, p2, p3, p4, p5⟩, -⟩ := id D
  obtain ⟨g1, e1, C1, s1, T⟩ := tcopy D
  have HX1 : LayX z g1.2.2 b := by rw [C1.1]; exact HX
  obtain ⟨g2, e2, C2, X2⟩ := clives_ok (n := n) HX1 hn (Or.inl ⟨rfl, rfl⟩) (now_PL HX1) hτ (hT.fr C1.fr) h6 (by rw [s1 11 (by omega) (by omega), s1 12 (by omega) (by omega)]; exact HA) p (Int32.toInt64 u)
  rw [to64] at e2 X2
  have HX2 : LayX z g2.2.2 b := by rw [C2.1]; exact HX1
  have km := km_0 HM
  have hlt : (aLive τ P (h.I (b + 73)) p.toInt u.toInt).1 < 10 := aLive_lt
  have hx : f_X11_live n z h b p u = (if nI (aLive τ P (h.I (b + 73)) p.toInt u.toInt).1 = 0 then (f_X4_keep z g2 (b + 15) (b + 13)).bind fun h12 => (gR z h12 11 b 4).bind fun a13 => (f_X5_part z h12 a13 p 2).bind fun x14 => (gR z h12 11 b 5).bind fun a15 => (f_X5_part z h12 a15 p 2).bind fun x16 => some ((x14 - x16), h12) else (f_X11_refused z g2 (10 + nI (aLive τ P (h.I (b + 73)) p.toInt u.toInt).1)).bind fun x17 => some (x17, g2)) := by
    unfold f_X11_live
    rw [if_pos (kx_0 HX), gR_ok (kx_0 HX) (rx_0_5 HX), bS, gR_ok (kx_0 HX) (rx_0_4 HX), bS, e1, bS, gR_ok (kx_0 HX) (rx_0_11 HX1), bS, gR_ok (kx_0 HX) (show g1.R b 3 = some t by rw [C1.R]; exact hR3), bS, gR_ok (kx_0 HX) (rx_0_4 HX1), bS, e2, bS]
    dsimp only
    rw [gR_ok (kx_0 HX) (rx_0_6 HX2), bS, gR_ok (kx_0 HX) (rx_0_5 HX2), bS]
  by_cases hz : (aLive τ P (h.I (b + 73)) p.toInt u.toInt).1 = 0
  · rw [if_pos (by rw [hz]; rfl)] at hx
    obtain ⟨⟨y1, y2⟩, y3, y4⟩ := aLive_yes hz
    obtain ⟨j, hj, rfl⟩ := nI_ex (P := P) ⟨y1, y2⟩
    obtain ⟨k, hk, rfl⟩ := nI_ex (P := tD τ) y3
    have hD4 := hτ.2.1
    have ej : (nI j).toInt = j := nI_to (by omega)
    have ek : (nI k).toInt = k := nI_to (by omega)
    rw [ej, ek] at hz X2
    rw [ej, Int.toNat_natCast] at y4
    obtain ⟨g3, k1, K, T3⟩ := ck_now D C1 s1 T C2.e X2
    have HX3 : LayX z g3.2.2 b := by rw [K.1.1]; exact HX
    have q1 : f_X5_part z g3 (b + 11) (nI j) 2 = some (h.I (b + 73) (30 + j) + iI (wV τ (nv (h.I (b + 73)) (54 + j)) (aS (h.I (b + 73)) j) k)) := by
      rw [show (2 : Int32) = nI 2 from rfl, part_ok (now_PL HX3) (by omega) (by omega), (PX_P K.2.1 hj).2.2.1]
      unfold aLive
      rw [if_pos (show (0 ≤ (j : Int) ∧ (j : Int) < P) ∧ (0 ≤ (k : Int) ∧ (k : Int) < tD τ) by omega)]
      simp only [Int.toNat_natCast]
      rw [if_pos y4]
      dsimp only
      unfold dl
      rw [if_neg (by omega), if_pos rfl]
    have q2 : f_X5_part z g3 (b + 13) (nI j) 2 = some (h.I (b + 73) (30 + j)) := by
      rw [show (2 : Int32) = nI 2 from rfl, part_ok (trial_PL HX3) (by omega) (by omega), (PX_P T3 hj).2.2.1]
    rw [k1, bS, gR_ok (kx_0 HX) (rx_0_4 HX3), bS, q1, bS, gR_ok (kx_0 HX) (rx_0_5 HX3), bS, q2, bS] at hx
    refine two_go (y := fun g => f_X12_live n z g (b + 72) (nI j) (nI k)) hx ?_
    obtain ⟨H1, g4, m1, H4, R4, w4⟩ := beg_kept (n := n) D hn K.1
    obtain ⟨r1, r2, m2⟩ := mlives_ok (n := n) H4 hn hj hk y4
    have R5 : Re b g4 (((g4.rowI (b + 78) r1).rowI (b + 77) r2).rowI (b + 73) (aLive τ P (h.I (b + 73)) j k).2) := ((Re.row _ _ (by omega)).trans (Re.row _ _ (by omega))).trans (Re.row _ _ (by omega))
    have e73 : (((g4.rowI (b + 78) r1).rowI (b + 77) r2).rowI (b + 73) (aLive τ P (h.I (b + 73)) j k).2).I (b + 73) = (aLive τ P (h.I (b + 73)) j k).2 := rowI_I _ _ _
    have e79 : (((g4.rowI (b + 78) r1).rowI (b + 77) r2).rowI (b + 73) (aLive τ P (h.I (b + 73)) j k).2).I (b + 79) = g4.I (b + 79) := by rw [rowI_ne _ _ (by omega), rowI_ne _ _ (by omega), rowI_ne _ _ (by omega)]
    generalize ((g4.rowI (b + 78) r1).rowI (b + 77) r2).rowI (b + 73) (aLive τ P (h.I (b + 73)) j k).2 = g5 at *
    obtain ⟨h4, n1, n2, -⟩ := fin_kept (n := n) I D hn K (R4.trans R5) e73 (by rw [e79]; exact w4) (fun k' hk' => aLive_k h6 hk') (aLive_per hτ h6 hp6 _ _)
    refine ⟨h4, ?_, n2⟩
    try dsimp only
    unfold f_X12_live
    rw [if_pos km, pI_ok km, bS, wLive_ok H1, to64, to64, ej, ek, bS, if_pos (by rw [hz]; rfl), m1, bS, m2, bS]
    dsimp only
    rw [n1, bS, Int32.add_comm, Int32.add_sub_cancel]
  · rw [if_neg (nz hlt hz)] at hx
    unfold f_X11_refused at hx
    rw [aLive_0 hz] at X2
    rw [bS] at hx
    have CC : Cc b h g2 := C1.trans (Ce.c (Or.inl ⟨rfl, rfl⟩) C2.e)
    have H1 := set72 D CC (k := 0) 0
    refine two_go (y := fun g => f_X12_live n z g (b + 72) p u) hx ⟨g2.setI (b + 72) 0 0, ?_, I.same D CC (fun k k1 k2 => (C2.2.2 _ (by omega) (by omega) (by omega) (by omega)).trans (s1 k (by omega) (by omega))) X2 (Re.set g2 0 (by omega)) (fun k => congrFun ((rowI_ne g2 _ (by omega)).trans (CC.i (k := 73) (by omega) (by omega) (by omega) (by omega))) k)⟩
    try dsimp only
    unfold f_X12_live
    rw [if_pos km, pI_ok km, bS, wLive_ok H1, to64, to64, bS, if_neg (nz hlt hz), ref_code]
theorem draw_ok (I : Inv z0 h0 b c z h) (hn : 400000 ≤ n) (p : Int32) : ∃ r h1 h2, f_X11_draw n z h b p = some (r, h1) ∧ f_X12_draw n z h1 (b + 72) p = some (r, h2) ∧ Inv z0 h0 b c z h2 := by
  obtain ⟨t, τ, P, nx, sz, D⟩ := I.now
  obtain ⟨HX, ⟨HM, hτ, -, hA, h3, h6, hp6⟩, hR3, hT, -, HA, ⟨p1, p2, p3, p4, p5⟩, -⟩ := id D
  obtain ⟨g1, e1, C1, s1, T⟩ := tcopy D
  have HX1 : LayX z g1.2.2 b := by rw [C1.1]; exact HX
  obtain ⟨g2, e2, C2, X2⟩ := cdraws_ok (n := n) HX1 hn (Or.inl ⟨rfl, rfl⟩) (now_PL HX1) hτ (hT.fr C1.fr) h6 (by rw [s1 11 (by omega) (by omega), s1 12 (by omega) (by omega)]; exact HA) p
  have HX2 : LayX z g2.2.2 b := by rw [C2.1]; exact HX1
  have km := km_0 HM
  have hlt : (aDraw τ P (h.I (b + 73)) p.toInt).1 < 10 := aDraw_lt
  have hx : f_X11_draw n z h b p = (if nI (aDraw τ P (h.I (b + 73)) p.toInt).1 = 0 then (f_X4_keep z g2 (b + 15) (b + 13)).bind fun h12 => (gR z h12 11 b 4).bind fun a13 => (f_X5_part z h12 a13 p 0).bind fun x14 => some (x14, h12) else (f_X11_refused z g2 (10 + nI (aDraw τ P (h.I (b + 73)) p.toInt).1)).bind fun x17 => some (x17, g2)) := by
    unfold f_X11_draw
    rw [if_pos (kx_0 HX), gR_ok (kx_0 HX) (rx_0_5 HX), bS, gR_ok (kx_0 HX) (rx_0_4 HX), bS, e1, bS, gR_ok (kx_0 HX) (rx_0_11 HX1), bS, gR_ok (kx_0 HX) (show g1.R b 3 = some t by rw [C1.R]; exact hR3), bS, gR_ok (kx_0 HX) (rx_0_4 HX1), bS, e2, bS]
    dsimp only
    rw [gR_ok (kx_0 HX) (rx_0_6 HX2), bS, gR_ok (kx_0 HX) (rx_0_5 HX2), bS]
  by_cases hz : (aDraw τ P (h.I (b + 73)) p.toInt).1 = 0
  · rw [if_pos (by rw [hz]; rfl)] at hx
    obtain ⟨⟨y1, y2⟩, y3, y4⟩ := aDraw_yes hz
    obtain ⟨j, hj, rfl⟩ := nI_ex (P := P) ⟨y1, y2⟩
    have ej : (nI j).toInt = j := nI_to (by omega)
    rw [ej] at hz X2
    rw [ej, Int.toNat_natCast] at y3 y4
    obtain ⟨g3, k1, K, T3⟩ := ck_now D C1 s1 T C2.e X2
    have HX3 : LayX z g3.2.2 b := by rw [K.1.1]; exact HX
    have q1 : f_X5_part z g3 (b + 11) (nI j) 0 = some ((aDraw τ P (h.I (b + 73)) j).2 (18 + j)) := by
      rw [show (0 : Int32) = nI 0 from rfl, part_ok (now_PL HX3) (by omega) (by omega)]
      exact congrArg some (PX_P K.2.1 hj).1
    rw [k1, bS, gR_ok (kx_0 HX) (rx_0_4 HX3), bS, q1, bS] at hx
    refine two_go (y := fun g => f_X12_draw n z g (b + 72) (nI j)) hx ?_
    obtain ⟨H1, g4, m1, H4, R4, w4⟩ := beg_kept (n := n) D hn K.1
    obtain ⟨r1, r2, m2⟩ := mdraws_ok (n := n) H4 hn hj y3 y4
    have R5 : Re b g4 (((g4.rowI (b + 78) r1).rowI (b + 77) r2).rowI (b + 73) (aDraw τ P (h.I (b + 73)) j).2) := ((Re.row _ _ (by omega)).trans (Re.row _ _ (by omega))).trans (Re.row _ _ (by omega))
    have e73 : (((g4.rowI (b + 78) r1).rowI (b + 77) r2).rowI (b + 73) (aDraw τ P (h.I (b + 73)) j).2).I (b + 73) = (aDraw τ P (h.I (b + 73)) j).2 := rowI_I _ _ _
    have e79 : (((g4.rowI (b + 78) r1).rowI (b + 77) r2).rowI (b + 73) (aDraw τ P (h.I (b + 73)) j).2).I (b + 79) = g4.I (b + 79) := by rw [rowI_ne _ _ (by omega), rowI_ne _ _ (by omega), rowI_ne _ _ (by omega)]
    generalize ((g4.rowI (b + 78) r1).rowI (b + 77) r2).rowI (b + 73) (aDraw τ P (h.I (b + 73)) j).2 = g5 at *
    obtain ⟨h4, n1, n2, n3, n4, -⟩ := fin_kept (n := n) I D hn K (R4.trans R5) e73 (by rw [e79]; exact w4) (fun k' hk' => aDraw_k h6 hk') (aDraw_per hτ h6 hp6 _)
    refine ⟨h4, ?_, n2⟩
    have HM4 : LayR z h4.2.2 (b + 72) := by rw [n3]; exact HM
    try dsimp only
    unfold f_X12_draw
    rw [if_pos km, pI_ok km, bS, wDraw_ok H1, to64, ej, bS, if_pos (by rw [hz]; rfl), m1, bS, m2, bS, n1, bS, gR_ok km (rm_1 HM4), bS, show (18 : Int32) = nI 18 from rfl, nI_add, lm_1 HM4 (by omega), bS, n4 _ (by omega)]
  · rw [if_neg (nz hlt hz)] at hx
    unfold f_X11_refused at hx
    rw [aDraw_0 hz] at X2
    rw [bS] at hx
    have CC : Cc b h g2 := C1.trans (Ce.c (Or.inl ⟨rfl, rfl⟩) C2.e)
    have H1 := set72 D CC (k := 0) 0
    refine two_go (y := fun g => f_X12_draw n z g (b + 72) p) hx ⟨g2.setI (b + 72) 0 0, ?_, I.same D CC (fun k k1 k2 => (C2.2.2 _ (by omega) (by omega) (by omega) (by omega)).trans (s1 k (by omega) (by omega))) X2 (Re.set g2 0 (by omega)) (fun k => congrFun ((rowI_ne g2 _ (by omega)).trans (CC.i (k := 73) (by omega) (by omega) (by omega) (by omega))) k)⟩
    try dsimp only
    unfold f_X12_draw
    rw [if_pos km, pI_ok km, bS, wDraw_ok H1, to64, bS, if_neg (nz hlt hz), ref_code]
theorem pledge_ok (I : Inv z0 h0 b c z h) (hn : 400000 ≤ n) (p u : Int32) : ∃ r h1 h2, f_X11_pledge z h b p u = some (r, h1) ∧ f_X12_pledge n z h1 (b + 72) p u = some (r, h2) ∧ Inv z0 h0 b c z h2 := by
  obtain ⟨t, τ, P, nx, sz, D⟩ := I.now
  obtain ⟨HX, ⟨HM, hτ, -, hA, h3, h6, hp6⟩, hR3, hT, -, HA, ⟨p1, p2, p3, p4, p5⟩, -⟩ := id D
  obtain ⟨g1, e1, C1, s1, T⟩ := tcopy D
  have HX1 : LayX z g1.2.2 b := by rw [C1.1]; exact HX
  obtain ⟨g2, e2, C2, X2⟩ := cpledges_ok (n := n) HX1 hn (Or.inl ⟨rfl, rfl⟩) (now_PL HX1) hτ (hT.fr C1.fr) h6 (by rw [s1 11 (by omega) (by omega), s1 12 (by omega) (by omega)]; exact HA) p u
  have HX2 : LayX z g2.2.2 b := by rw [C2.1]; exact HX1
  have km := km_0 HM
  have hlt : (aPledge P (h.I (b + 73)) p.toInt u.toInt).1 < 10 := aPledge_lt
  have hx : f_X11_pledge z h b p u = (if nI (aPledge P (h.I (b + 73)) p.toInt u.toInt).1 = 0 then (f_X4_keep z g2 (b + 15) (b + 13)).bind fun h12 => (gR z h12 11 b 4).bind fun a13 => (gI z h12 5 a13 2).bind fun x14 => some (x14, h12) else (f_X11_refused z g2 (10 + nI (aPledge P (h.I (b + 73)) p.toInt u.toInt).1)).bind fun x17 => some (x17, g2)) := by
    unfold f_X11_pledge
    rw [if_pos (kx_0 HX), gR_ok (kx_0 HX) (rx_0_5 HX), bS, gR_ok (kx_0 HX) (rx_0_4 HX), bS, e1, bS, gR_ok (kx_0 HX) (rx_0_11 HX1), bS, gR_ok (kx_0 HX) (rx_0_4 HX1), bS, e2, bS]
    dsimp only
    rw [gR_ok (kx_0 HX) (rx_0_6 HX2), bS, gR_ok (kx_0 HX) (rx_0_5 HX2), bS]
  by_cases hz : (aPledge P (h.I (b + 73)) p.toInt u.toInt).1 = 0
  · rw [if_pos (by rw [hz]; rfl)] at hx
    obtain ⟨⟨y1, y2⟩, y3, y4⟩ := aPledge_yes hz
    obtain ⟨j, hj, rfl⟩ := nI_ex (P := P) ⟨y1, y2⟩
    have ej : (nI j).toInt = j := nI_to (by omega)
    obtain ⟨g3, k1, K, T3⟩ := ck_now D C1 s1 T C2.e X2
    have HX3 : LayX z g3.2.2 b := by rw [K.1.1]; exact HX
    have q1 : gI z g3 5 (b + 11) 2 = some ((aPledge P (h.I (b + 73)) (nI j).toInt u.toInt).2 17) := by
      rw [gI_ok (kx_11 HX3), K.2.1.2.1]
    rw [k1, bS, gR_ok (kx_0 HX) (rx_0_4 HX3), bS, q1, bS] at hx
    refine two_go (y := fun g => f_X12_pledge n z g (b + 72) (nI j) u) hx ?_
    obtain ⟨H1, g4, m1, H4, R4, w4⟩ := beg_kept (n := n) D hn K.1
    have m2 := mgoes_ok H4 hj u
    have eu : go (h.I (b + 73)) j u = (aPledge P (h.I (b + 73)) (nI j).toInt u.toInt).2 := by
      rw [y4, ej, Int.toNat_natCast, iI_of]
    rw [eu] at m2
    have R5 : Re b g4 (g4.rowI (b + 73) (aPledge P (h.I (b + 73)) (nI j).toInt u.toInt).2) := Re.row _ _ (by omega)
    have e73 : (g4.rowI (b + 73) (aPledge P (h.I (b + 73)) (nI j).toInt u.toInt).2).I (b + 73) = (aPledge P (h.I (b + 73)) (nI j).toInt u.toInt).2 := rowI_I _ _ _
    have e79 : (g4.rowI (b + 73) (aPledge P (h.I (b + 73)) (nI j).toInt u.toInt).2).I (b + 79) = g4.I (b + 79) := by rw [rowI_ne _ _ (by omega)]
    generalize g4.rowI (b + 73) (aPledge P (h.I (b + 73)) (nI j).toInt u.toInt).2 = g5 at *
    obtain ⟨h4, n1, n2, n3, n4, -⟩ := fin_kept (n := n) I D hn K (R4.trans R5) e73 (by rw [e79]; exact w4) (fun k' hk' => aPledge_k h6 hk') (aPledge_per h6 hp6 _ _)
    refine ⟨h4, ?_, n2⟩
    have HM4 : LayR z h4.2.2 (b + 72) := by rw [n3]; exact HM
    try dsimp only
    unfold f_X12_pledge
    rw [if_pos km, pI_ok km, bS, wPledge_ok H1, to64, to64, bS, if_pos (by rw [hz]; rfl), m1, bS, m2, bS, n1, bS, gR_ok km (rm_1 HM4), bS, show (17 : Int32) = nI 17 from rfl, lm_1 HM4 (by omega), bS, n4 _ (by omega)]
  · rw [if_neg (nz hlt hz)] at hx
    unfold f_X11_refused at hx
    rw [aPledge_0 hz] at X2
    rw [bS] at hx
    have CC : Cc b h g2 := C1.trans (Ce.c (Or.inl ⟨rfl, rfl⟩) C2.e)
    have H1 := set72 D CC (k := 0) 0
    refine two_go (y := fun g => f_X12_pledge n z g (b + 72) p u) hx ⟨g2.setI (b + 72) 0 0, ?_, I.same D CC (fun k k1 k2 => (C2.2.2 _ (by omega) (by omega) (by omega) (by omega)).trans (s1 k (by omega) (by omega))) X2 (Re.set g2 0 (by omega)) (fun k => congrFun ((rowI_ne g2 _ (by omega)).trans (CC.i (k := 73) (by omega) (by omega) (by omega) (by omega))) k)⟩
    try dsimp only
    unfold f_X12_pledge
    rw [if_pos km, pI_ok km, bS, wPledge_ok H1, to64, to64, bS, if_neg (nz hlt hz), ref_code]
theorem redeem_ok (I : Inv z0 h0 b c z h) (hn : 400000 ≤ n) (p : Int32) : ∃ r h1 h2, f_X11_redeem z h b p = some (r, h1) ∧ f_X12_redeem n z h1 (b + 72) p = some (r, h2) ∧ Inv z0 h0 b c z h2 := by
  obtain ⟨t, τ, P, nx, sz, D⟩ := I.now
  obtain ⟨HX, ⟨HM, hτ, -, hA, h3, h6, hp6⟩, hR3, hT, -, HA, ⟨p1, p2, p3, p4, p5⟩, -⟩ := id D
  obtain ⟨g1, e1, C1, s1, T⟩ := tcopy D
  have HX1 : LayX z g1.2.2 b := by rw [C1.1]; exact HX
  obtain ⟨g2, e2, C2, X2⟩ := credeems_ok (n := n) HX1 hn (Or.inl ⟨rfl, rfl⟩) (now_PL HX1) hτ (hT.fr C1.fr) h6 (by rw [s1 11 (by omega) (by omega), s1 12 (by omega) (by omega)]; exact HA) p
  have HX2 : LayX z g2.2.2 b := by rw [C2.1]; exact HX1
  have km := km_0 HM
  have hlt : (aRedeem P (h.I (b + 73)) p.toInt).1 < 10 := aRedeem_lt
  have hx : f_X11_redeem z h b p = (if nI (aRedeem P (h.I (b + 73)) p.toInt).1 = 0 then (f_X4_keep z g2 (b + 15) (b + 13)).bind fun h12 => (gR z h12 11 b 4).bind fun a13 => (gI z h12 5 a13 2).bind fun x14 => some (x14, h12) else (f_X11_refused z g2 (10 + nI (aRedeem P (h.I (b + 73)) p.toInt).1)).bind fun x17 => some (x17, g2)) := by
    unfold f_X11_redeem
    rw [if_pos (kx_0 HX), gR_ok (kx_0 HX) (rx_0_5 HX), bS, gR_ok (kx_0 HX) (rx_0_4 HX), bS, e1, bS, gR_ok (kx_0 HX) (rx_0_11 HX1), bS, gR_ok (kx_0 HX) (rx_0_4 HX1), bS, e2, bS]
    dsimp only
    rw [gR_ok (kx_0 HX) (rx_0_6 HX2), bS, gR_ok (kx_0 HX) (rx_0_5 HX2), bS]
  by_cases hz : (aRedeem P (h.I (b + 73)) p.toInt).1 = 0
  · rw [if_pos (by rw [hz]; rfl)] at hx
    obtain ⟨⟨y1, y2⟩, y4⟩ := aRedeem_yes hz
    obtain ⟨j, hj, rfl⟩ := nI_ex (P := P) ⟨y1, y2⟩
    have ej : (nI j).toInt = j := nI_to (by omega)
    obtain ⟨g3, k1, K, T3⟩ := ck_now D C1 s1 T C2.e X2
    have HX3 : LayX z g3.2.2 b := by rw [K.1.1]; exact HX
    have q1 : gI z g3 5 (b + 11) 2 = some ((aRedeem P (h.I (b + 73)) (nI j).toInt).2 17) := by
      rw [gI_ok (kx_11 HX3), K.2.1.2.1]
    rw [k1, bS, gR_ok (kx_0 HX) (rx_0_4 HX3), bS, q1, bS] at hx
    refine two_go (y := fun g => f_X12_redeem n z g (b + 72) (nI j)) hx ?_
    obtain ⟨H1, g4, m1, H4, R4, w4⟩ := beg_kept (n := n) D hn K.1
    have m2 := mgoes_ok H4 hj (- h.I (b + 73) (60 + j))
    have eu : go (h.I (b + 73)) j (- h.I (b + 73) (60 + j)) = (aRedeem P (h.I (b + 73)) (nI j).toInt).2 := by
      rw [y4, ej, Int.toNat_natCast]
    rw [eu] at m2
    have g73 := H4.2.2.1
    have R5 : Re b g4 (g4.rowI (b + 73) (aRedeem P (h.I (b + 73)) (nI j).toInt).2) := Re.row _ _ (by omega)
    have e73 : (g4.rowI (b + 73) (aRedeem P (h.I (b + 73)) (nI j).toInt).2).I (b + 73) = (aRedeem P (h.I (b + 73)) (nI j).toInt).2 := rowI_I _ _ _
    have e79 : (g4.rowI (b + 73) (aRedeem P (h.I (b + 73)) (nI j).toInt).2).I (b + 79) = g4.I (b + 79) := by rw [rowI_ne _ _ (by omega)]
    generalize g4.rowI (b + 73) (aRedeem P (h.I (b + 73)) (nI j).toInt).2 = g5 at *
    obtain ⟨h4, n1, n2, n3, n4, -⟩ := fin_kept (n := n) I D hn K (R4.trans R5) e73 (by rw [e79]; exact w4) (fun k' hk' => aRedeem_k h6 hk') (aRedeem_per h6 hp6 _)
    refine ⟨h4, ?_, n2⟩
    have HM4 : LayR z h4.2.2 (b + 72) := by rw [n3]; exact HM
    have HMg : LayR z g4.2.2 (b + 72) := H4.1
    try dsimp only
    unfold f_X12_redeem
    rw [if_pos km, pI_ok km, bS, wRedeem_ok H1, to64, bS, if_pos (by rw [hz]; rfl), m1, bS, gR_ok km (rm_1 HMg), bS, show (60 : Int32) = nI 60 from rfl, nI_add, lm_1 HMg (by omega), bS, g73, m2, bS, n1, bS, gR_ok km (rm_1 HM4), bS, show (17 : Int32) = nI 17 from rfl, lm_1 HM4 (by omega), bS, n4 _ (by omega)]
  · rw [if_neg (nz hlt hz)] at hx
    unfold f_X11_refused at hx
    rw [aRedeem_0 hz] at X2
    rw [bS] at hx
    have CC : Cc b h g2 := C1.trans (Ce.c (Or.inl ⟨rfl, rfl⟩) C2.e)
    have H1 := set72 D CC (k := 0) 0
    refine two_go (y := fun g => f_X12_redeem n z g (b + 72) p) hx ⟨g2.setI (b + 72) 0 0, ?_, I.same D CC (fun k k1 k2 => (C2.2.2 _ (by omega) (by omega) (by omega) (by omega)).trans (s1 k (by omega) (by omega))) X2 (Re.set g2 0 (by omega)) (fun k => congrFun ((rowI_ne g2 _ (by omega)).trans (CC.i (k := 73) (by omega) (by omega) (by omega) (by omega))) k)⟩
    try dsimp only
    unfold f_X12_redeem
    rw [if_pos km, pI_ok km, bS, wRedeem_ok H1, to64, bS, if_neg (nz hlt hz), ref_code]
end
