/-! ===== the start: both objects are new ===== -/
theorem ten_ok : ∀ j, j < 13 → tenJ j = lI (10 ^ j) := by decide +kernel
theorem ini_TN {z : Sh} {h : Hp} (hI : Ini z h) : TN z.sz z h := by
  obtain ⟨i1, i2, i3⟩ := hI.2.2.2.2.2.1
  refine ⟨?_, Or.inr i1, i2, fun j hj => (i3 j hj).trans (ten_ok j hj)⟩
  rcases Nat.lt_or_ge (z.st 2) z.sz with w | w
  · exact w
  · have := hI.2.1 _ w
    omega
theorem memo0 {N : Nat} {V : Nat → Nat → Prop} : MemoOK (fun _ => 0) N 0 V := fun c hc => ⟨0, 0, Nat.le_refl _, by decide, (by decide : (0 : Int64) = lI (((0 : Nat) : Int) * 281474976710656 + ((0 : Nat) : Int))), fun q => absurd q (by decide)⟩
theorem cnt0 : ∀ k, cnt (fun _ => none) k = 0 := by
  intro k
  induction k with
  | zero => rfl
  | succ k ih =>
    show cnt (fun _ => none) k + (if (none : Option Nat).isSome then 1 else 0) = 0
    rw [ih]
    rfl
theorem pure_n {n : Nat} {z0 : Sh} {h0 : Hp} (hI : Ini z0 h0) (hn : 400000 ≤ n) {L : Nat} (hL : L ≤ 3072) (xs : Nat → Int32) : f_law n z0 h0 L xs = some () := by
  obtain ⟨b, hb⟩ : ∃ b, b = z0.sz := ⟨_, rfl⟩
  have sl0 : z0.sl = 0 := hI.2.2.1
  have nf11 : nf 11 ≤ 100 := by decide
  have nf12 : nf 12 ≤ 100 := by decide
  -- the class's object
  have kA : (z0.al 11 0 (nf 11)).K b = 11 := by rw [al_Kb, if_pos hb]
  have nA : (z0.al 11 0 (nf 11)).N b = 0 := by rw [al_Nb, if_pos hb]
  obtain ⟨⟨h4, z5⟩, e1, e2, e3, kf, nl, rI, rR, ⟨B1, B2, B3, B4, B5⟩, hk, hr, R0_3, R2_2, R2_8, R44_3, R55_4, R8_8, R8_9, R37, R45, I0_1, I2_0, I2_1, I2_3, I2_4, I2_5, I2_6, I2_7, I2_9, I2_11, I8_0, I8_1, I8_2, I8_3, I8_4, I8_5, I11_1, I11_2, I15_1, I15_2, I44_4, I44_5, I44_6, I44_7, I44_8, I64_1, I64_2, I64_3, I66_1, I66_2, I66_3, I68_1, I68_2, I68_3, I70_1, I70_2, I70_3, I47_0, I47_1, I47_4, R47_8, R47_9⟩ := x_init (n := n) (z := z0.al 11 0 (nf 11)) (h := h0.nw z0.sz) (b := b) (by omega) (by rw [al_sz, hb]) kA nA (by rw [hb, nw_I]) (by rw [hb, nw_J]) (by rw [hb, nw_R])
  have B1 : z5.sz = b + 72 := B1
  have B2 : z5.sl = z0.sl + nf 11 + 10005 := B2
  have B3 : ∀ i, i < 72 → z5.K (b + i) = kf i ∧ z5.N (b + i) = nl i ∧ h4.I (b + i) = rI i ∧ h4.J (b + i) = (fun _ => 0) ∧ h4.R (b + i) = rR i := B3
  have B5 : ∀ k, z5.st k = z0.st k := B5
  have B4 : ∀ a, a < b → z5.K a = z0.K a ∧ z5.N a = z0.N a ∧ h4.I a = h0.I a ∧ h4.J a = h0.J a ∧ h4.R a = h0.R a := fun a ha => by
    obtain ⟨q1, q2, q3, q4, q5⟩ := B4 a ha
    have q1 : z5.K a = _ := q1
    have q2 : z5.N a = _ := q2
    have q3 : h4.I a = _ := q3
    have q4 : h4.J a = _ := q4
    have q5 : h4.R a = _ := q5
    have ne : a ≠ z0.sz := by omega
    rw [al_Kb, if_neg ne] at q1
    rw [al_Nb, if_neg ne] at q2
    rw [nw_Ib, if_neg ne] at q3
    rw [nw_Jb, if_neg ne] at q4
    rw [nw_Rb, if_neg ne] at q5
    exact ⟨q1, q2, q3, q4, q5⟩
  -- the reference's object
  have kB : (z5.al 12 0 (nf 12)).K (b + 72) = 12 := by rw [al_Kb, if_pos B1.symm]
  have nB : (z5.al 12 0 (nf 12)).N (b + 72) = 0 := by rw [al_Nb, if_pos B1.symm]
  obtain ⟨⟨h9, z10⟩, f1, f2, f3, kg, nm, rJ, rS, ⟨C1, C2, C3, C4, C5⟩, hk2, hr2, m0, m1, m17, m2, -⟩ := m_init (n := n) (z := z5.al 12 0 (nf 12)) (h := h4.nw z5.sz) (b := b + 72) (by omega) (by rw [al_sz, B1]) kB nB (by rw [B1, nw_I]) (by rw [B1, nw_J]) (by rw [B1, nw_R])
  have C1 : z10.sz = b + 72 + 20 := C1
  have C2 : z10.sl = z5.sl + nf 12 + 405757 := C2
  have C3 : ∀ i, i < 20 → z10.K (b + 72 + i) = kg i ∧ z10.N (b + 72 + i) = nm i ∧ h9.I (b + 72 + i) = rJ i ∧ h9.J (b + 72 + i) = (fun _ => 0) ∧ h9.R (b + 72 + i) = rS i := C3
  have C5 : ∀ k, z10.st k = z5.st k := C5
  have C4 : ∀ a, a < b + 72 → z10.K a = z5.K a ∧ z10.N a = z5.N a ∧ h9.I a = h4.I a ∧ h9.J a = h4.J a ∧ h9.R a = h4.R a := fun a ha => by
    obtain ⟨q1, q2, q3, q4, q5⟩ := C4 a ha
    have q1 : z10.K a = _ := q1
    have q2 : z10.N a = _ := q2
    have q3 : h9.I a = _ := q3
    have q4 : h9.J a = _ := q4
    have q5 : h9.R a = _ := q5
    have ne : a ≠ z5.sz := by omega
    rw [al_Kb, if_neg ne] at q1
    rw [al_Nb, if_neg ne] at q2
    rw [nw_Ib, if_neg ne] at q3
    rw [nw_Jb, if_neg ne] at q4
    rw [nw_Rb, if_neg ne] at q5
    exact ⟨q1, q2, q3, q4, q5⟩
  have X : ∀ i, i < 72 → z10.K (b + i) = kX i ∧ z10.N (b + i) = nX i ∧ h9.I (b + i) = rI i ∧ h9.J (b + i) = (fun _ => 0) ∧ h9.R (b + i) = rR i := fun i hi => by
    obtain ⟨p1, p2, p3, p4, p5⟩ := C4 (b + i) (by omega)
    obtain ⟨q1, q2, q3, q4, q5⟩ := B3 i hi
    obtain ⟨k1, k2⟩ := hk i hi
    exact ⟨p1.trans (q1.trans k1), p2.trans (q2.trans k2), p3.trans q3, p4.trans q4, p5.trans q5⟩
  have st : ∀ k, z10.st k = z0.st k := fun k => (C5 k).trans (B5 k)
  have BS : BaseI z0 h0 b z10 h9 := ⟨fun a ha => by
    obtain ⟨p1, p2, p3, p4, p5⟩ := C4 a (by omega)
    obtain ⟨q1, q2, q3, q4, q5⟩ := B4 a ha
    exact ⟨p1.trans q1, p2.trans q2, p3.trans q3, p4.trans q4, p5.trans q5⟩, st⟩
  obtain ⟨⟨l0, l0'⟩, l1, l1'⟩ := ini_law hI hb BS
  have tow : ∀ t, t = 8 ∨ t = 47 → rI t 0 = 1 → rI t 1 = 1 → rI t 4 = 0 → rR t 8 = some (z0.st 0) → rR t 9 = some (z0.st 1) → TownX b z10 h9 (b + t) (1, 1, 0, [1], [0]) := by
    intro t ht q1 q2 q3 q4 q5
    obtain ⟨p1, p2, p3, p4, p5⟩ := X t (by omega)
    refine ⟨by omega, by rw [p1]; rcases ht with rfl | rfl <;> rfl, by rw [p3, q1]; rfl, by rw [p3, q2]; rfl, by rw [p3, q3]; rfl, ⟨z10.st 0, by rw [p5, q4, st], l0'⟩, z10.st 1, by rw [p5, q5, st], l1'⟩
  have OKτ : TownOK (1, 1, 0, [1], [0]) := ⟨by decide, by decide, by decide, law1.1, law1.2⟩
  have M : ∀ i, i < 20 → h9.I (b + 72 + i) = rJ i := fun i hi => (C3 i hi).2.2.1
  have A : ∀ k, k < 1458 → h9.I (b + 73) k = plR k := fun k hk => by
    rw [show b + 73 = b + 72 + 1 by omega, M 1 (by decide), m1]
    exact plR_ok _ hk
  have h72 : h9.I (b + 72) = upd (fun _ => 0) 14 (-1) := (M 0 (by decide)).trans m0
  have I0 : Inv z0 h0 b 0 z10 h9 := by
    refine ⟨BS, ⟨fun o ho => ⟨(X o ho).1, (X o ho).2.1⟩, fun q hq => ?_⟩, ⟨fun o ho => ?_, fun q hq => ?_⟩, ⟨b + 8, (1, 1, 0, [1], [0]), 0, ?_, tow 8 (Or.inl rfl) I8_0 I8_1 I8_4 R8_8 R8_9, OKτ, ⟨A 1 (by decide), A 2 (by decide), A 4 (by decide), Or.inl ⟨A 5 (by decide), rfl⟩, Or.inl ⟨A 6 (by decide), rfl⟩⟩, ?_, A 3 (by decide), by decide, ⟨⟨?_, ?_, fun p hp => absurd hp (Nat.not_lt_zero p)⟩, fun p hp => absurd hp (Nat.not_lt_zero p)⟩, 0, 0, by decide, by decide, ?_, ?_, A 66 (by decide), fun i hi => absurd hi (Nat.not_lt_zero i)⟩, ⟨Or.inl ⟨?_, ?_⟩, Or.inl ⟨?_, ?_⟩⟩, ?_, ⟨⟨0, by decide, ?_, ?_, fun j hj => absurd hj (Nat.not_lt_zero j)⟩, ?_, ?_⟩, ⟨b + 47, (1, 1, 0, [1], [0]), 0, true, 0, 1, ?_, tow 47 (Or.inr rfl) I47_0 I47_1 I47_4 R47_8 R47_9, OKτ, by decide, ?_, ?_, ?_, ?_, by decide, by decide, by decide, fun q => absurd q (by decide), ⟨?_, fun q => absurd q (by decide)⟩, ?_, fun k _ mo hm => ?_, fun mo hm => ?_⟩, ?_⟩
    · have r := rX_t q hq
      show h9.R (b + q.1) q.2.1 = _
      rw [(X q.1 r.1).2.2.2.2]
      exact hr q hq
    · exact ⟨(C3 o ho).1.trans (hk2 o ho).1, (C3 o ho).2.1.trans (hk2 o ho).2⟩
    · have r := rM_20 q hq
      show h9.R (b + 72 + q.1) q.2.1 = _
      rw [(C3 q.1 r).2.2.2.2]
      exact hr2 q hq
    · rw [show h9.R b = rR 0 from (X 0 (by decide)).2.2.2.2]
      exact R0_3
    · rw [(X 8 (by decide)).2.2.1, I8_5, A 0 (by decide)]
      rfl
    · rw [(X 11 (by decide)).2.2.1, I11_1]
      rfl
    · rw [(X 11 (by decide)).2.2.1, I11_2, A 17 (by decide)]
      rfl
    · rw [(X 15 (by decide)).2.2.1, I15_1]
      rfl
    · rw [(X 15 (by decide)).2.2.1, I15_2]
      rfl
    · rw [show b + 74 = b + 72 + 2 by omega, M 2 (by decide), m2]
      rfl
    · rw [(X 37 (by decide)).2.2.2.2, R37]
    · rw [show b + 74 = b + 72 + 2 by omega, M 2 (by decide), m2]
      rfl
    · rw [(X 37 (by decide)).2.2.2.2, R37]
    · intro i hi
      refine Or.inl ⟨?_, ?_⟩
      · rw [show b + 64 + 2 * i = b + (64 + 2 * i) by omega, (X (64 + 2 * i) (by omega)).2.2.1]
        match i, hi with
        | 0, _ => exact I64_1
        | 1, _ => exact I66_1
        | 2, _ => exact I68_1
        | 3, _ => exact I70_1
      · rw [show b + 89 = b + 72 + 17 by omega, M 17 (by decide), m17]
        match i, hi with
        | 0, _ => rfl
        | 1, _ => rfl
        | 2, _ => rfl
        | 3, _ => rfl
    · rw [show h9.I b = rI 0 from (X 0 (by decide)).2.2.1]
      exact I0_1
    · rw [h72]
      rfl
    · rw [(X 2 (by decide)).2.2.1, I2_0, h72]
      rfl
    · rw [(X 2 (by decide)).2.2.1, I2_1, h72]
      rfl
    · rw [(X 44 (by decide)).2.2.2.2]
      exact R44_3
    · rw [(X 44 (by decide)).2.2.1]
      exact I44_4
    · rw [(X 44 (by decide)).2.2.1]
      exact I44_5
    · rw [(X 44 (by decide)).2.2.1, if_pos rfl]
      exact I44_6
    · rw [(X 44 (by decide)).2.2.1]
      exact I44_7
    · rw [(X 52 (by decide)).2.2.2.1]
      exact memo0
    · rw [(X 57 (by decide)).2.2.2.1]
      exact memo0
    · rw [(X 45 (by decide)).2.2.2.2, R45] at hm
      cases hm
    · rw [(X 55 (by decide)).2.2.2.2, R55_4] at hm
      cases hm
    · unfold RoomI
      rw [(X 45 (by decide)).2.2.2.2, R45, (X 55 (by decide)).2.2.2.2, R55_4, cnt0]
      show b + 92 ≤ z10.sz ∧ z10.sz ≤ b + 100 + 1000 * 0 + 2 * 0 + 0 ∧ z0.sl ≤ z10.sl ∧ z10.sl ≤ z0.sl + 420000 + 2000 * 0 + 5601 * 0 + 0
      refine ⟨by omega, by omega, by omega, by omega⟩
  have lp := lp_ok (xs := xs) hn hL hb (hb ▸ ini_TN hI) (town_ok hI hb hn) 513 0 n z10 h9 rfl (by omega) (by decide) (by decide) I0
  unfold f_law nwO
  rw [bS]
  show gdL z0 (z0.al 11 0 (nf 11)) ((f_X11_init n (z0.al 11 0 (nf 11)) (h0.nw z0.sz) z0.sz).bind _) = _
  unfold gdL
  rw [if_pos ⟨by rw [al_sz]; omega, by rw [al_sl]; omega⟩, ← hb, show f_X11_init n (z0.al 11 0 (nf 11)) (h0.nw b) b = some (h4, z5) by rw [← e1, hb], bS]
  show (if z5.sz ≤ b + 600000 ∧ z5.sl ≤ z0.sl + 7302249 then _ else none) = _
  rw [if_pos ⟨by omega, by omega⟩, bS]
  show (if (z5.al 12 0 (nf 12)).sz ≤ b + 600000 ∧ (z5.al 12 0 (nf 12)).sl ≤ z0.sl + 7302249 then (f_X12_init n (z5.al 12 0 (nf 12)) (h4.nw z5.sz) z5.sz).bind _ else none) = _
  rw [if_pos ⟨by rw [al_sz]; omega, by rw [al_sl]; omega⟩, show f_X12_init n (z5.al 12 0 (nf 12)) (h4.nw z5.sz) z5.sz = some (h9, z10) by rw [← f1, B1], bS]
  show (if z10.sz ≤ b + 600000 ∧ z10.sl ≤ z0.sl + 7302249 then _ else none) = _
  rw [if_pos ⟨by omega, by omega⟩, B1]
  exact lp
