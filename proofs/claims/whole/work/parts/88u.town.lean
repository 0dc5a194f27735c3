/-! ===== town, 20: the call ===== -/
theorem neg30 : ∀ f, f < 5 → ((-99000000) - (30 + nI f) : Int32) = (-99000030) - nI f := by decide +kernel
theorem getD_map {L : List Nat} {j : Nat} (hj : j < L.length) : (L.map nI).getD j 0 = nI (L.getD j 0) := by
  rw [List.getD_eq_getElem?_getD, List.getD_eq_getElem?_getD, List.getElem?_map, List.getElem?_eq_getElem hj]
  rfl
section
variable {n : Nat} {z0 : Sh} {h0 : Hp} {b c : Nat} {z : Sh} {h : Hp}
theorem ini_str (hI : Ini z0 h0) (hb : b = z0.sz) (B : BaseI z0 h0 b z h) : StrH b (fun s => (h0.R (z0.st s) 0).getD 0) z h := by
  intro s h1 h2
  obtain ⟨q, hq, rfl⟩ := txL_st s h2 h1
  obtain ⟨a1, v, a2, a3, a4, a5⟩ := hI.2.2.2.2.2.2 q hq
  have ht := txL_ok q hq
  have hv : v < b := by
    rcases Nat.lt_or_ge v z0.sz with w | w
    · omega
    · have := hI.2.1 v w
      omega
  have e : (h0.R (z0.st q.2.2.2) 0).getD 0 = v := by
    rw [a2]
    rfl
  have es := B.2 q.2.2.2
  obtain ⟨k1, k2, k3, k4, k5⟩ := B.1 v hv
  obtain ⟨m1, m2, m3, m4, m5⟩ := B.1 (z0.st q.2.2.2) (by omega)
  have hl : (sby q.2.2.1).length = (txL q.2.2.2).length := by rw [ht, List.length_map]
  show z.st q.2.2.2 < b ∧ (h0.R (z0.st q.2.2.2) 0).getD 0 < b ∧ h.R (z.st q.2.2.2) 0 = some ((h0.R (z0.st q.2.2.2) 0).getD 0) ∧ z.K ((h0.R (z0.st q.2.2.2) 0).getD 0) = 33 ∧ z.N ((h0.R (z0.st q.2.2.2) 0).getD 0) = (txL q.2.2.2).length ∧ ∀ j, j < (txL q.2.2.2).length → h.I ((h0.R (z0.st q.2.2.2) 0).getD 0) j = nI ((txL q.2.2.2).getD j 0)
  rw [e, es]
  refine ⟨by omega, hv, by rw [m5]; exact a2, by rw [k1]; exact a3, by rw [k2, a4]; exact hl, fun j hj => ?_⟩
  rw [k3, a5 j (by omega), ht]
  exact getD_map hj
theorem ini_law (hI : Ini z0 h0) (hb : b = z0.sz) (B : BaseI z0 h0 b z h) : (z.st 0 < b ∧ LawX b z h (z.st 0) [1]) ∧ z.st 1 < b ∧ LawX b z h (z.st 1) [0] := by
  have key : ∀ {a v : Nat} {x : Int32}, z0.K a = 34 → z0.N a = 1 → h0.I a 0 = x → x = iI (cC v) → a < b ∧ LawX b z h a [v] := by
    intro a v x q1 q2 q3 q4
    have ha : a < b := by
      rcases Nat.lt_or_ge a z0.sz with w | w
      · omega
      · have := hI.2.1 a w
        omega
    obtain ⟨k1, k2, k3, k4, k5⟩ := B.1 a ha
    refine ⟨ha, Or.inl ha, Or.inr (k1.trans q1), k2.trans q2, fun j hj => ?_⟩
    have hj : j < 1 := hj
    have : j = 0 := by omega
    subst this
    rw [k3, q3]
    exact q4
  rw [B.2 0, B.2 1]
  exact ⟨key hI.2.2.2.1.1 hI.2.2.2.1.2.1 hI.2.2.2.1.2.2 (by decide), key hI.2.2.2.2.1.1 hI.2.2.2.2.1.2.1 hI.2.2.2.2.1.2.2 (by decide)⟩
set_option maxHeartbeats 1000000 in
theorem town_ok (hI : Ini z0 h0) (hb0 : b = z0.sz) (hn : 400000 ≤ n) : TownC n z0 h0 b := by
  intro c z h v I hc
  obtain ⟨B, LX, LR, NW, -, -, ⟨⟨tp, t1, t2, t3, t4⟩, t5, t6⟩, -, RM⟩ := id I
  have hb : b + 92 ≤ z.sz := RM.1
  have S := ini_str hI hb0 B
  obtain ⟨l0, l1⟩ := ini_law hI hb0 B
  have n10 : ¬ ((1 : Int32) = 0) := by decide
  have K11 := kx_0 LX
  have K12 := km_0 LR
  have wi : ∀ (zr : Sh) (g : Hp), f_X12_within zr g (Int32.toInt64 v) 0 (Int32.toInt64 (nI tp)) = some (if 0 ≤ v.toInt ∧ v.toInt ≤ tp then 1 else 0) := by
    intro zr g
    rw [within_ok, to64, to64, nI_to (by omega)]
    rfl
  by_cases hv : 0 ≤ v.toInt ∧ v.toInt ≤ tp
  · -- a number of bytes that are there
    obtain ⟨N, hNv⟩ : ∃ N : Nat, N = v.toInt.toNat := ⟨_, rfl⟩
    have hN9 : N ≤ 900 := by omega
    obtain rfl : v = nI N := by rw [hNv]; exact nI_of0 hv.1
    have hNt : N ≤ tp := by omega
    obtain ⟨tx, x1, x2⟩ : ∃ tx : Nat → Nat, (∀ j, tx j < 256) ∧ ∀ j, j < tp → h.I (b + 75) j = nI (tx j) ∧ h.I (b + 1) j &&& 255 = nI (tx j) := by
      refine ⟨fun j => (h.I (b + 75) j).toNatClampNeg % 256, fun j => Nat.mod_lt _ (by decide), fun j hj => ?_⟩
      obtain ⟨u, u1, u2, u3⟩ := t4 j hj
      show h.I (b + 75) j = nI ((h.I (b + 75) j).toNatClampNeg % 256) ∧ h.I (b + 1) j &&& 255 = nI ((h.I (b + 75) j).toNatClampNeg % 256)
      rw [u2, nI_clamp (by omega), Nat.mod_eq_of_lt u1]
      exact ⟨rfl, u3⟩
    have I4 : ∀ a, a ≠ b → (h.setI b 1 0).I a = h.I a := fun a q => sI_o q
    have S4 : StrH b (fun s => (h0.R (z0.st s) 0).getD 0) z (h.setI b 1 0) := S.mv (fun a ha => I4 a (by omega)) (fun _ _ => rfl)
    have lw4 : ∀ {a : Nat} {L : List Nat}, a < b ∧ LawX b z h a L → a < b ∧ LawX b z (h.setI b 1 0) a L := by
      intro a L ⟨q1, q2, q3, q4, q5⟩
      exact ⟨q1, q2, q3, q4, fun j hj => by rw [I4 a (by omega)]; exact q5 j hj⟩
    have cU : ∀ {o : Option Nat} {h8 : Hp} {z9 : Sh}, z.sz ≤ z9.sz ∧ z.sl ≤ z9.sl → f_X6_read n z (h.setI b 1 0) (b + 2) (b + 1) (nI N) = some (o, h8, z9) → ∀ {r : Int32} {h1 : Hp}, (match o with | none => (gR z9 h8 11 b 2).bind fun a11 => (gI z9 h8 6 a11 0).bind fun x12 => (f_X11_refused z9 h8 (30 + x12)).bind fun x13 => some (x13, h8, z9) | some a10 => (pR z9 h8 11 b 3 (some a10)).bind fun h14 => (gR z9 h14 11 b 4).bind fun a15 => (f_X5_settle n z9 h14 a15 a10).bind fun h16 => (gR z9 h16 11 b 6).bind fun a17 => (f_X4_forget z9 h16 a17).bind fun h18 => (gI z9 h18 8 a10 5).bind fun x19 => some (x19, h18, z9)) = some (r, h1, z9) → f_X11_town n z h b (nI N) = some (r, h1, z9) := by
      intro o h8 z9 gz e r h1 e2
      unfold f_X11_town
      rw [if_pos K11]
      refine gd3_go gz ?_
      rw [if_neg (nI_pos (by omega)), gI_ok K11, bS, t2, if_pos ((nI_leI (by omega) (by omega)).mpr hNt), pI_ok K11, bS, gR_ok K11 (show (h.setI b 1 0).R b 2 = some (b + 2) from rx_0_2 LX), bS, gR_ok K11 (show (h.setI b 1 0).R b 0 = some (b + 1) from rx_0_0 LX), bS, e, bS]
      refine gd3_go ⟨Nat.le_refl _, Nat.le_refl _⟩ ?_
      rw [← e2]
      cases o <;> rfl
    -- where the reference begins
    have rU : ∀ {z9 : Sh} {g : Hp}, (∀ a, a < z.sz → z9.K a = z.K a ∧ z9.N a = z.N a) → (∀ k, z9.st k = z.st k) → LayR z9 g.2.2 (b + 72) → g.I (b + 72) 5 = nI tp → (∀ a, a < b → g.I a = h.I a) → (∀ a, a < b → g.R a = h.R a) → g.I (b + 75) = h.I (b + 75) → ∃ g0, f_X12_town n z9 g (b + 72) (nI N) = (f_X12_next n z9 g0 (b + 72)).bind (fun g1 => hdR n b z9 g1) ∧ R0 b (fun s => (h0.R (z0.st s) 0).getD 0) z9 tx N g0 ∧ (∀ a, g0.R a = g.R a) ∧ (∀ a, g0.J a = g.J a) ∧ (∀ a, a ≠ b + 72 → a ≠ b + 76 → g0.I a = g.I a) ∧ g0.I (b + 72) 5 = nI 0 := by
      intro z9 g kk ks LR9 g5 gi gr g75
      have K9 := km_0 LR9
      obtain ⟨g8, hg8⟩ : ∃ g8 : Hp, g8 = ((((g.setI (b + 72) 0 0).setI (b + 72) 8 (nI N)).setI (b + 72) 5 0).setI (b + 72) 7 0).setI (b + 72) 11 0 := ⟨_, rfl⟩
      have i8 : ∀ a, a ≠ b + 72 → g8.I a = g.I a := fun a q => by rw [hg8, sI_o q, sI_o q, sI_o q, sI_o q, sI_o q]
      have f8 : g8.I (b + 72) 8 = nI N := by rw [hg8, sI_ne (by decide), sI_ne (by decide), sI_ne (by decide), sI_eq]
      have f5 : g8.I (b + 72) 5 = nI 0 := by rw [hg8, sI_ne (by decide), sI_ne (by decide), sI_eq]; rfl
      have f7 : g8.I (b + 72) 7 = nI 0 := by rw [hg8, sI_ne (by decide), sI_eq]; rfl
      have f11 : g8.I (b + 72) 11 = nI 0 := by rw [hg8, sI_eq]; rfl
      have LR8 : LayR z9 g8.2.2 (b + 72) := by rw [hg8]; exact LR9
      have pl := plain_ok (n := n) (z := z9) (h := g8) (a := b + 76) (N := 1458) (by omega) (km_4 LR9) (nm_4 LR9) (by decide) (by decide)
      refine ⟨g8.rowI (b + 76) (plainRow (g8.I (b + 76))), ?_, ⟨⟨LR8, by rw [rowI_ne _ _ (show b + 72 ≠ b + 76 by omega)]; exact f8, fun j hj => ?_, fun s h1 h2 => ?_⟩, by rw [rowI_ne _ _ (show b + 72 ≠ b + 76 by omega)]; exact f7, by rw [rowI_ne _ _ (show b + 72 ≠ b + 76 by omega)]; exact f11, fun k hk => by rw [rowI_I]; exact plR_ok _ hk⟩, fun a => by rw [rowI_R, hg8]; rfl, fun a => by rw [rowI_J, hg8]; rfl, fun a q1 q2 => by rw [rowI_ne _ _ q2, i8 a q1], by rw [rowI_ne _ _ (show b + 72 ≠ b + 76 by omega)]; exact f5⟩
      · have w1 : (g.setI (b + 72) 0 0).I (b + 72) 5 = nI tp := (sI_ne (by decide)).trans g5
        unfold f_X12_town hdR
        rw [if_pos K9, pI_ok K9, bS, gI_ok K9, bS, w1, wi, bS, if_pos hv, if_neg n10, pI_ok K9, bS, pI_ok K9, bS, pI_ok K9, bS, pI_ok K9, bS, ← hg8, gR_ok K9 (rm_4 LR8), bS, pl, bS]
        try rfl
      · rw [rowI_ne _ _ (show b + 75 ≠ b + 76 by omega), i8 _ (by omega), g75]
        exact (x2 j (by omega)).1
      · obtain ⟨a1, a2, a3, a4, a5, a6⟩ := S s h1 h2
        have er : ∀ a, a < b → (g8.rowI (b + 76) (plainRow (g8.I (b + 76)))).R a = h.R a := fun a ha => by rw [rowI_R, hg8]; exact gr a ha
        have ei : ∀ a, a < b → (g8.rowI (b + 76) (plainRow (g8.I (b + 76)))).I a = h.I a := fun a ha => by rw [rowI_ne _ _ (by omega), i8 a (by omega)]; exact gi a ha
        rw [ks s, er _ a1, (kk _ (by omega)).1, (kk _ (by omega)).2, ei _ a2]
        exact ⟨a1, a2, a3, a4, a5, a6⟩
    rcases read_ok (n := n) (z := z) (h := h.setI b 1 0) (b := b) (tx := tx) LX S4 hb (lw4 l0) (lw4 l1) (fun j hj => by rw [I4 _ (by omega)]; exact (x2 j (by omega)).2) hN9 x1 hn with ⟨h8, z9, fl, pl, r1, G, F, R⟩ | ⟨h8, z9, T9, D9, r1, G, C9, R⟩
    · -- something is wrong with the text
      obtain ⟨⟨g1, g2, g3, g4⟩, g5, g6, g7, g8, g9, g10⟩ := id G
      have LR9 : LayR z9 h8.2.2 (b + 72) := by
        refine ⟨fun o ho => ?_, fun q hq => ?_⟩
        · rw [(g5 _ (by omega)).1, (g5 _ (by omega)).2]
          exact LR.1 o ho
        · have r := rM_20 q hq
          refine Eq.trans ?_ (LR.2 q hq)
          show h8.R (b + 72 + q.1) q.2.1 = h.R (b + 72 + q.1) q.2.1
          rw [g9 _ (by omega) (by omega)]
          rfl
      have i72 : h8.I (b + 72) = h.I (b + 72) := (g7 _ (by omega) (by omega) (by omega)).trans (I4 _ (by omega))
      obtain ⟨g0, a1, a2, a3, a4, a5, a6⟩ := rU (z9 := z9) (g := h8) g5 g6 LR9 (by rw [i72]; exact t3) (fun a ha => (g7 a (by omega) (by omega) (by omega)).trans (I4 a (by omega))) (fun a ha => g9 a (by omega) (by omega)) ((g7 _ (by omega) (by omega) (by omega)).trans (I4 _ (by omega)))
      obtain ⟨g', b1, b2, b3, b4⟩ := R z9 g0 a2
      have hRb : h8.R b = h.R b := g9 b (by omega) (by omega)
      have eI : ∀ a, a ≠ b + 72 → a ≠ b + 76 → g'.I a = h8.I a := fun a q1 q2 => (b2.2.2.1 a q1 q2).trans (a5 a q1 q2)
      have eR : ∀ a, g'.R a = h8.R a := fun a => (b2.1 a).trans (a3 a)
      have eJ : ∀ a, g'.J a = h8.J a := fun a => (b2.2.1 a).trans (a4 a)
      have E : Et b z h z9 g' := ⟨⟨g1, g2, g3, g4⟩, g5, g6, fun a q0 q1 q2 q3 q4 q5 q6 q7 q8 q9 => (eI a q7 q9).trans ((g7 a q0 q2 q3).trans (I4 a q1)), fun a q => (eJ a).trans (g8 a q), fun a q1 q2 q3 => (eR a).trans (g9 a q1 q3), fun k _ => by rw [eR, hRb], fun k q1 q2 => by rw [eR]; exact g10 k q1 q2, fun k _ => by rw [eI _ (by omega) (by omega), g7 _ (by omega) (by omega) (by omega), I4 _ (by omega)]⟩
      refine ⟨(-99000030) - nI fl, h8, z9, g', ?_, a1.trans b1, I.town E ⟨⟨0, by decide, ?_, ?_, fun j hj => absurd hj (Nat.not_lt_zero j)⟩, ?_, ?_⟩ (NW.et hb E (by rw [eR, hRb]) (by rw [eI _ (by omega) (by omega), g7 _ (by omega) (by omega) (by omega), I4 _ (by omega)]) (by rw [eI _ (by omega) (by omega), g7 _ (by omega) (by omega) (by omega), I4 _ (by omega)]) (by rw [eI _ (by omega) (by omega), g7 _ (by omega) (by omega) (by omega), I4 _ (by omega)]) (by rw [eI _ (by omega) (by omega), g7 _ (by omega) (by omega) (by omega), I4 _ (by omega)]))⟩
      · refine cU ⟨g1, g3⟩ r1 ?_
        have K11' : z9.K b = 11 := (g5 b (by omega)).1.trans K11
        have K6' : z9.K (b + 2) = 6 := (g5 _ (by omega)).1.trans (kx_2 LX)
        show (gR z9 h8 11 b 2).bind _ = _
        rw [gR_ok K11' (by rw [hRb]; exact rx_0_2 LX), bS, gI_ok K6', bS, F.1]
        unfold f_X11_refused
        rw [bS, neg30 fl F.2.2.2.1]
      · rw [eI _ (by omega) (by omega), g7 _ (by omega) (by omega) (by omega), sI_eq]
        rfl
      · exact (b2.2.2.2 5 (by decide)).trans a6
      · rw [eI _ (by omega) (by omega), b3]
        exact F.1
      · rw [eI _ (by omega) (by omega), b4]
        exact F.2.1
    · -- a town
      obtain ⟨⟨g1, g2, g3, g4⟩, g5, g6, g7, g8, g9, g10⟩ := id G
      obtain ⟨⟨w9, L9, CS9⟩, CT9, O9⟩ := C9
      obtain ⟨yr, tr, P, ca, di, li, tal, fe, LW, LG⟩ := D9
      obtain ⟨⟨c1, c2, c3⟩, ⟨k0, ⟨k1, n1⟩, k2, n2⟩, ⟨c5, c6⟩, i0, i1, i2, i3, i4, i5, ip, lw, lg⟩ := id CT9
      obtain ⟨o1, o2, o3, o4, o5, o6, o7, o8⟩ := O9
      have K11' : z9.K b = 11 := (g5 b (by omega)).1.trans K11
      have hRb : h8.R b = h.R b := g9 b (by omega) (by omega)
      -- the class
      obtain ⟨h14, hh14⟩ : ∃ h14 : Hp, h14 = h8.setR b 3 (some z.sz) := ⟨_, rfl⟩
      have I14 : ∀ a, h14.I a = h8.I a := fun a => by rw [hh14]; rfl
      have J14 : ∀ a, h14.J a = h8.J a := fun a => by rw [hh14]; rfl
      have R14 : ∀ a, a ≠ b → h14.R a = h8.R a := fun a q => by rw [hh14, setR_R, if_neg q]
      have R14b : ∀ k, k ≠ 3 → h14.R b k = h.R b k := fun k q => by rw [hh14, setR_R, if_pos rfl, va_up_ne _ _ q, hRb]
      have R143 : h14.R b 3 = some z.sz := by rw [hh14, setR_R, if_pos rfl, va_up_self]
      have PLn : PL z9 h14.2.2 (b + 11) (b + 12) := by
        refine ⟨(g5 _ (by omega)).1.trans (kx_11 LX), ?_, (g5 _ (by omega)).1.trans (kx_12 LX), (g5 _ (by omega)).2.trans (nx_12 LX), by omega⟩
        show h14.R (b + 11) 0 = _
        rw [R14 _ (by omega), g9 _ (by omega) (by omega)]
        exact rx_11_0 LX
      obtain ⟨h16, s1, s2, s3, s4, s5, s6, s7⟩ := set_ok (n := n) (z := z9) (h := h14) (q := b + 11) (r := b + 12) (t := z.sz) (P := P) (ca := ca) (tal := tal) (fe := fe) hn PLn o3 k0 k1 n1 k2 n2 (by rw [R14 _ (by omega)]; exact c5) (by rw [R14 _ (by omega)]; exact c6) (by rw [I14]; exact i2) (by rw [I14]; exact i3) (by omega) (by omega) (by omega) (fun p hp => by rw [I14, I14]; exact ip p hp)
      obtain ⟨h18, hh18⟩ : ∃ h18 : Hp, h18 = h16.setI (b + 15) 2 0 := ⟨_, rfl⟩
      have I18 : ∀ a, a ≠ b + 11 → a ≠ b + 12 → a ≠ b + 15 → h18.I a = h8.I a := fun a q1 q2 q3 => by rw [hh18, sI_o q3, s4 a q1 q2, I14]
      have R18 : ∀ a, h18.R a = h14.R a := fun a => by rw [hh18]; exact s2 a
      have J18 : ∀ a, h18.J a = h8.J a := fun a => by rw [hh18]; exact (s3 a).trans (J14 a)
      have cT : f_X11_town n z h b (nI N) = some (nI li, h18, z9) := by
        refine cU ⟨g1, g3⟩ r1 ?_
        show (pR z9 h8 11 b 3 (some z.sz)).bind _ = _
        rw [pR_ok K11', bS, ← hh14, gR_ok K11' (by rw [R14b 4 (by decide)]; exact rx_0_4 LX), bS, s1, bS, gR_ok K11' (show h16.R b 6 = some (b + 15) by rw [s2, R14b 6 (by decide)]; exact rx_0_6 LX), bS]
        unfold f_X4_forget
        rw [if_pos ((g5 _ (by omega)).1.trans (kx_15 LX)), pI_ok ((g5 _ (by omega)).1.trans (kx_15 LX)), bS, bS, ← hh18, gI_ok k0, bS, I18 _ (by omega) (by omega) (by omega), i5]
      -- the reference
      have LR9 : LayR z9 h18.2.2 (b + 72) := by
        refine ⟨fun o ho => ?_, fun q hq => ?_⟩
        · rw [(g5 _ (by omega)).1, (g5 _ (by omega)).2]
          exact LR.1 o ho
        · have r := rM_20 q hq
          refine Eq.trans ?_ (LR.2 q hq)
          show h18.R (b + 72 + q.1) q.2.1 = h.R (b + 72 + q.1) q.2.1
          rw [R18, R14 _ (by omega), g9 _ (by omega) (by omega)]
          rfl
      have i72 : h18.I (b + 72) = h.I (b + 72) := (I18 _ (by omega) (by omega) (by omega)).trans ((g7 _ (by omega) (by omega) (by omega)).trans (I4 _ (by omega)))
      obtain ⟨g0, a1, a2, a3, a4, a5, a6⟩ := rU (z9 := z9) (g := h18) g5 g6 LR9 (by rw [i72]; exact t3) (fun a ha => (I18 _ (by omega) (by omega) (by omega)).trans ((g7 a (by omega) (by omega) (by omega)).trans (I4 a (by omega)))) (fun a ha => by rw [R18, R14 _ (by omega), g9 a (by omega) (by omega)]; rfl) ((I18 _ (by omega) (by omega) (by omega)).trans ((g7 _ (by omega) (by omega) (by omega)).trans (I4 _ (by omega))))
      obtain ⟨gm, M, b1, b2, ⟨⟨wr, b3⟩, b4, b5⟩⟩ := R z9 g0 a2
      obtain ⟨g', d1, d2, d3, d4, d5, d6, d7, d8⟩ := t143_t (n := n) hn b3.1.1 b3.2.2.1
      obtain ⟨m0, m1, m2, m3, m4, m5, m6, m7, m8, m9, m10, m11⟩ := id b4
      have eI : ∀ a, a ≠ b + 72 → a ≠ b + 76 → a ≠ b + 73 → g'.I a = h18.I a := fun a q1 q2 q3 => (d4 a q1 q3).trans ((b2.2.2.1 a q1 q2).trans (a5 a q1 q2))
      have e73 : gm.I (b + 73) = h.I (b + 73) := (b2.2.2.1 _ (by omega) (by omega)).trans ((a5 _ (by omega) (by omega)).trans ((I18 _ (by omega) (by omega) (by omega)).trans ((g7 _ (by omega) (by omega) (by omega)).trans (I4 _ (by omega)))))
      have A : ∀ k, k < 1458 → g'.I (b + 73) k = gm.I (b + 76) k := fun k hk => (d8 k).trans (if_pos hk)
      have eR : ∀ a, g'.R a = h18.R a := fun a => (d2 a).trans ((b2.1 a).trans (a3 a))
      have eJ : ∀ a, g'.J a = h18.J a := fun a => (d3 a).trans ((b2.2.1 a).trans (a4 a))
      have E : Et b z h z9 g' := ⟨⟨g1, g2, g3, g4⟩, g5, g6, fun a q0 q1 q2 q3 q4 q5 q6 q7 q8 q9 => (eI a q7 q9 q8).trans ((I18 a q4 q5 q6).trans ((g7 a q0 q2 q3).trans (I4 a q1))), fun a q => (eJ a).trans ((J18 a).trans (g8 a q)), fun a q1 q2 q3 => (eR a).trans ((R18 a).trans ((R14 a q2).trans (g9 a q1 q3))), fun k q => by rw [eR, R18]; exact R14b k q, fun k q1 q2 => by rw [eR, R18, R14 _ (by omega)]; exact g10 k q1 q2, fun k hk => by rw [d8 k, if_neg (by omega), e73]⟩
      -- a law in the row
      have lawA : ∀ {i d : Nat} {LL : List Nat}, i < 2 → LawM (gm.I (b + 76)) M i LL d → LawA (g'.I (b + 73)) i LL d := by
        intro i d LL hi H
        have hM := b3.2.2.2.2.2.2.2.2.2.1
        rcases H with ⟨q1, q2⟩ | ⟨q1, fr, q2, q3, q4, q5⟩
        · exact Or.inl ⟨(A _ (by omega)).trans q1, q2⟩
        · refine Or.inr ⟨(A _ (by omega)).trans q1, fr, (A _ (by omega)).trans q2, (A _ (by omega)).trans q3, by omega, fun k hk => ?_⟩
          rw [A _ (by omega), Nat.add_assoc, b3.2.2.2.2.2.2.2.2.2.2 (fr + k) (by omega), q5 k hk]
      have lawX : ∀ {k : Nat} {LL : List Nat}, LwC b z9 h8 z.sz k LL → ∃ a, g'.R z.sz k = some a ∧ LawX b z9 g' a LL := by
        intro k LL ⟨a, q1, q2, q3, q4, q5, q6⟩
        refine ⟨a, by rw [eR, R18, R14 _ (by omega)]; exact q1, q3, q4, q5, fun j hj => ?_⟩
        rw [eI _ (by omega) (by omega) (by omega), I18 _ (by omega) (by omega) (by omega)]
        exact q6 j hj
      have it : g'.I z.sz = h8.I z.sz := (eI _ (by omega) (by omega) (by omega)).trans (I18 _ (by omega) (by omega) (by omega))
      have NN : NowI b z9 g' := by
        obtain ⟨t0, τ0, P0, -, -, -, -, -, -, -, -, nx, sz, p1, p2, p3, p4, p5, p6⟩ := NW
        have f11 : g'.I (b + 11) = h16.I (b + 11) := by rw [eI _ (by omega) (by omega) (by omega), hh18, sI_o (by omega)]
        have f12 : g'.I (b + 12) = h16.I (b + 12) := by rw [eI _ (by omega) (by omega) (by omega), hh18, sI_o (by omega)]
        have f15 : g'.I (b + 15) = (h16.setI (b + 15) 2 0).I (b + 15) := by rw [eI _ (by omega) (by omega) (by omega), hh18]
        have pv : ∀ k, 18 ≤ k → k < 54 → g'.I (b + 73) k = plV k := fun k q1 q2 => (A k (by omega)).trans (m8 k q1 q2)
        refine ⟨z.sz, (yr, tr, di, LW, LG), P, by rw [eR, R18]; exact R143, ⟨Or.inr (Or.inr ⟨hb, by omega⟩), k0, by rw [it]; exact i0, by rw [it]; exact i1, by rw [it]; exact i4, lawX lw, lawX lg⟩, ⟨o1, o2, o5, o7, o8⟩, ⟨(A 1 (by decide)).trans m1, (A 2 (by decide)).trans m2, (A 4 (by decide)).trans m4, lawA (by decide) m10, lawA (by decide) m11⟩, ?_, (A 3 (by decide)).trans m3, o3, ⟨⟨?_, ?_, fun p hp w hw => ?_⟩, fun p hp => ?_⟩, nx, 0, p1, by decide, ?_, ?_, ?_, fun i hi => absurd hi (Nat.not_lt_zero i)⟩
        · rw [it, i5, A 0 (by decide), m0]
        · rw [f11]
          exact s5
        · rw [f11, s6, A 17 (by decide), m5]
        · rw [f12, s7 p hp w hw]
          have p6' : p < 6 := by omega
          have tm := m6 p hp
          match w, hw with
          | 0, _ => exact (show (0 : Int32) = _ from ((pv (18 + p) (by omega) (by omega)).trans (by unfold plV; rw [if_neg (by omega), if_neg (by omega)])).symm)
          | 1, _ => exact (show (1 : Int32) = _ from ((pv (24 + p) (by omega) (by omega)).trans (by unfold plV; rw [if_pos (by omega)])).symm)
          | 2, _ => exact (show (0 : Int32) = _ from ((pv (30 + p) (by omega) (by omega)).trans (by unfold plV; rw [if_neg (by omega), if_neg (by omega)])).symm)
          | 3, _ => exact (show (9 : Int32) = _ from ((pv (36 + p) (by omega) (by omega)).trans (by unfold plV; rw [if_neg (by omega), if_pos (by omega)])).symm)
          | 4, _ => exact (show (0 : Int32) = _ from ((pv (42 + p) (by omega) (by omega)).trans (by unfold plV; rw [if_neg (by omega), if_neg (by omega)])).symm)
          | 5, _ => exact (show (0 : Int32) = _ from ((pv (48 + p) (by omega) (by omega)).trans (by unfold plV; rw [if_neg (by omega), if_neg (by omega)])).symm)
          | 6, _ => exact (show nI (tal p) = _ from ((A (54 + p) (by omega)).trans tm.1).symm)
          | 7, _ => exact (show nI (fe p) = _ from ((A (11 + p) (by omega)).trans tm.2).symm)
          | 8, _ => exact (show (0 : Int32) = _ from ((A (60 + p) (by omega)).trans (m9 (60 + p) (by omega) (by omega))).symm)
          | w + 9, hw => omega
        · have p6' : p < 6 := by omega
          have tm := m6 p hp
          have ob := o6 p hp
          have z0' : ∀ k, 18 ≤ k → k < 54 → ¬ (24 ≤ k ∧ k < 30) → ¬ (36 ≤ k ∧ k < 42) → g'.I (b + 73) k = nI 0 := fun k q1 q2 q3 q4 => (pv k q1 q2).trans (by unfold plV; rw [if_neg q3, if_neg q4]; rfl)
          refine ⟨0, 1, 9, 0, 0, tal p, 0, fe p, 0, z0' _ (by omega) (by omega) (by omega) (by omega), (pv (24 + p) (by omega) (by omega)).trans (by unfold plV; rw [if_pos (by omega)]; rfl), z0' _ (by omega) (by omega) (by omega) (by omega), (pv (36 + p) (by omega) (by omega)).trans (by unfold plV; rw [if_neg (by omega), if_pos (by omega)]; rfl), z0' _ (by omega) (by omega) (by omega) (by omega), z0' _ (by omega) (by omega) (by omega) (by omega), (A _ (by omega)).trans tm.1, (A _ (by omega)).trans (m9 _ (by omega) (by omega)), (A _ (by omega)).trans tm.2, ⟨Or.inl ⟨rfl, rfl⟩, Nat.zero_le _, Or.inl ⟨rfl, rfl⟩⟩, ob.1, by decide, fun q => absurd q (by decide), ob.2, by decide, by decide⟩
        · rw [f15, sI_ne (by decide), s4 _ (by omega) (by omega), I14, g7 _ (by omega) (by omega) (by omega), I4 _ (by omega)]
          exact p3
        · rw [f15, sI_eq]
          rfl
        · rw [A 66 (by decide)]
          exact m9 66 (by decide) (by decide)
      refine ⟨nI li, h18, z9, g', cT, ?_, I.town E ⟨⟨0, by decide, ?_, ?_, fun j hj => absurd hj (Nat.not_lt_zero j)⟩, ?_, ?_⟩ NN⟩
      · rw [a1, b1, d1, m0]
      · rw [eI _ (by omega) (by omega) (by omega), I18 _ (by omega) (by omega) (by omega), g7 _ (by omega) (by omega) (by omega), sI_eq]
        rfl
      · rw [d5 5 (by decide) (by decide), b2.2.2.2 5 (by decide)]
        exact a6
      · rw [eI _ (by omega) (by omega) (by omega), I18 _ (by omega) (by omega) (by omega), d6]
        exact CS9.2.2.1
      · rw [eI _ (by omega) (by omega) (by omega), I18 _ (by omega) (by omega) (by omega), d7]
        exact CS9.1.1.2
  · -- a number that is none
    have cT : f_X11_town n z h b v = some (-99000003, h, z) := by
      have t12 : f_X11_town_12 n z h = some (-99000003, h, z) := rfl
      unfold f_X11_town
      rw [if_pos K11]
      refine gd3_go ⟨Nat.le_refl _, Nat.le_refl _⟩ ?_
      by_cases q1 : v < 0
      · rw [if_pos q1]
        exact t12
      · rw [if_neg q1, gI_ok K11, bS, t2, if_neg (fun q2 => hv ⟨?_, ?_⟩)]
        · exact t12
        · rw [lt_iff] at q1
          have : (0 : Int32).toInt = 0 := rfl
          omega
        · rw [le_iff, nI_to (by omega)] at q2
          exact q2
    have eI : ∀ a, a ≠ b + 72 → (h.setI (b + 72) 0 0).I a = h.I a := fun a q => sI_o q
    have E : Et b z h z (h.setI (b + 72) 0 0) := ⟨⟨Nat.le_refl _, by omega, Nat.le_refl _, by omega⟩, fun _ _ => ⟨rfl, rfl⟩, fun _ => rfl, fun a _ _ _ _ _ _ _ q7 _ _ => eI a q7, fun _ _ => rfl, fun _ _ _ _ => rfl, fun _ _ => rfl, fun _ _ _ => rfl, fun k _ => by rw [eI _ (by omega)]⟩
    refine ⟨-99000003, h, z, h.setI (b + 72) 0 0, cT, ?_, I.town E ⟨⟨tp, t1, by rw [eI _ (by omega)]; exact t2, by rw [sI_ne (by decide)]; exact t3, fun j hj => by rw [eI _ (by omega), eI _ (by omega)]; exact t4 j hj⟩, by rw [eI _ (by omega), sI_ne (by decide)]; exact t5, by rw [eI _ (by omega), sI_ne (by decide)]; exact t6⟩ (NW.et hb E rfl (eI _ (by omega)) (eI _ (by omega)) (eI _ (by omega)) (eI _ (by omega)))⟩
    have w1 : (h.setI (b + 72) 0 0).I (b + 72) 5 = nI tp := (sI_ne (by decide)).trans t3
    unfold f_X12_town
    rw [if_pos K12, pI_ok K12, bS, gI_ok K12, bS, w1, wi, bS, if_neg hv, if_pos rfl]
end
