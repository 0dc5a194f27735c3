/-! ===== town, 17: a text is read ===== -/
theorem nI_any (x : Int32) : ∃ w, 2 ≤ w ∧ x = nI w := by
  have h1 := x_lo x
  refine ⟨(x.toInt + 8589934592).toNat, by omega, ?_⟩
  rw [nI_iI, show (((x.toInt + 8589934592).toNat : Nat) : Int) = x.toInt + 8589934592 by omega, ← iI_add, iI_of, show iI 8589934592 = 0 by decide, Int32.add_zero]
theorem init8 {z : Sh} {h : Hp} : ∃ h', f_X8_init (z.al 8 0 (nf 8)) (h.nw z.sz) z.sz = some (h', ((z.al 8 0 (nf 8)).al 14 6 6).al 14 6 6) ∧ (∀ a, a < z.sz → h'.I a = h.I a ∧ h'.J a = h.J a ∧ h'.R a = h.R a) ∧ (h'.I z.sz 0 = 1 ∧ h'.I z.sz 1 = 1 ∧ h'.I z.sz 2 = 0 ∧ h'.I z.sz 3 = 0 ∧ h'.I z.sz 4 = 0 ∧ h'.I z.sz 5 = 0) ∧ h'.R z.sz 6 = some (z.sz + 1) ∧ h'.R z.sz 7 = some (z.sz + 2) ∧ h'.R z.sz 8 = some (z.st 0) ∧ h'.R z.sz 9 = some (z.st 1) := by
  have K1 : (z.al 8 0 (nf 8)).K z.sz = 8 := by rw [al_Kb, if_pos rfl]
  have s1 : (z.al 8 0 (nf 8)).sz = z.sz + 1 := rfl
  have K2 : ((z.al 8 0 (nf 8)).al 14 6 6).K z.sz = 8 := by rw [al_Kb, if_neg (by rw [s1]; omega)]; exact K1
  have s2 : ((z.al 8 0 (nf 8)).al 14 6 6).sz = z.sz + 2 := rfl
  have K3 : (((z.al 8 0 (nf 8)).al 14 6 6).al 14 6 6).K z.sz = 8 := by rw [al_Kb, if_neg (by rw [s2]; omega)]; exact K2
  have nw6 : ∀ (z : Sh) (h : Hp), nwA z h 14 6 = some (z.sz, h.nw z.sz, z.al 14 6 6) := fun z h => nwA_ok (N := 6) rfl (by decide) (by decide)
  refine ⟨((((((((((((h.nw z.sz).setI z.sz 0 1).setI z.sz 1 1).setI z.sz 2 0).setI z.sz 3 0).setI z.sz 4 0).setI z.sz 5 0).nw (z.sz + 1)).setR z.sz 6 (some (z.sz + 1))).nw (z.sz + 2)).setR z.sz 7 (some (z.sz + 2))).setR z.sz 8 (some (z.st 0))).setR z.sz 9 (some (z.st 1)), ?_, fun a ha => ⟨?_, ?_, ?_⟩, ?_⟩
  · unfold f_X8_init
    rw [if_pos K1]
    refine gd2_ok ?_ ⟨by show z.sz + 1 ≤ z.sz + 1 + 1 + 1; omega, by show z.sl + nf 8 ≤ z.sl + nf 8 + 6 + 6; omega⟩
    rw [pI_ok K1, bS, pI_ok K1, bS, pI_ok K1, bS, pI_ok K1, bS, pI_ok K1, bS, pI_ok K1, bS, nw6, bS]
    refine gd2_ok ?_ ⟨by show z.sz + 1 + 1 ≤ z.sz + 1 + 1 + 1; omega, by show z.sl + nf 8 + 6 ≤ z.sl + nf 8 + 6 + 6; omega⟩
    rw [pR_ok K2, bS, nw6, bS]
    refine gd2_ok ?_ ⟨Nat.le_refl _, Nat.le_refl _⟩
    rw [pR_ok K3, bS, pR_ok K3, bS, pR_ok K3, bS]
    rfl
  · rw [setR_I, setR_I, setR_I, nw_Ib, if_neg (by omega), setR_I, nw_Ib, if_neg (by omega), sI_o (by omega), sI_o (by omega), sI_o (by omega), sI_o (by omega), sI_o (by omega), sI_o (by omega), nw_Ib, if_neg (by omega)]
  · rw [setR_J, setR_J, setR_J, nw_Jb, if_neg (by omega), setR_J, nw_Jb, if_neg (by omega), setI_J, setI_J, setI_J, setI_J, setI_J, setI_J, nw_Jb, if_neg (by omega)]
  · rw [setR_R, if_neg (by omega), setR_R, if_neg (by omega), setR_R, if_neg (by omega), nw_Rb, if_neg (by omega), setR_R, if_neg (by omega), nw_Rb, if_neg (by omega), setI_R, setI_R, setI_R, setI_R, setI_R, setI_R, nw_Rb, if_neg (by omega)]
  · have e : (((((((((((((h.nw z.sz).setI z.sz 0 1).setI z.sz 1 1).setI z.sz 2 0).setI z.sz 3 0).setI z.sz 4 0).setI z.sz 5 0).nw (z.sz + 1)).setR z.sz 6 (some (z.sz + 1))).nw (z.sz + 2)).setR z.sz 7 (some (z.sz + 2))).setR z.sz 8 (some (z.st 0))).setR z.sz 9 (some (z.st 1))).I z.sz = (((((((h.nw z.sz).setI z.sz 0 1).setI z.sz 1 1).setI z.sz 2 0).setI z.sz 3 0).setI z.sz 4 0).setI z.sz 5 0).I z.sz := by
      rw [setR_I, setR_I, setR_I, nw_Ib, if_neg (by omega), setR_I, nw_Ib, if_neg (by omega)]
    rw [e]
    refine ⟨⟨?_, ?_, ?_, ?_, ?_, ?_⟩, ?_, ?_, ?_, ?_⟩
    · rw [sI_ne (by decide), sI_ne (by decide), sI_ne (by decide), sI_ne (by decide), sI_ne (by decide), sI_eq]
    · rw [sI_ne (by decide), sI_ne (by decide), sI_ne (by decide), sI_ne (by decide), sI_eq]
    · rw [sI_ne (by decide), sI_ne (by decide), sI_ne (by decide), sI_eq]
    · rw [sI_ne (by decide), sI_ne (by decide), sI_eq]
    · rw [sI_ne (by decide), sI_eq]
    · rw [sI_eq]
    · rw [setR_R, if_pos rfl, va_up_ne _ _ (by decide), setR_R, if_pos rfl, va_up_ne _ _ (by decide), setR_R, if_pos rfl, va_up_ne _ _ (by decide), nw_Rb, if_neg (by omega), setR_R, if_pos rfl, va_up_self]
    · rw [setR_R, if_pos rfl, va_up_ne _ _ (by decide), setR_R, if_pos rfl, va_up_ne _ _ (by decide), setR_R, if_pos rfl, va_up_self]
    · rw [setR_R, if_pos rfl, va_up_ne _ _ (by decide), setR_R, if_pos rfl, va_up_self]
    · rw [setR_R, if_pos rfl, va_up_self]
/-- the reference's row as plain leaves it -/
def plR (k : Nat) : Int32 := if k = 1 ∨ k = 2 then 1 else plV k
/-- where the reference begins to read -/
def R0 (b : Nat) (sv : Nat → Nat) (zr : Sh) (tx : Nat → Nat) (N : Nat) (g : Hp) : Prop := Rx b sv zr tx N g ∧ g.I (b + 72) 7 = nI 0 ∧ g.I (b + 72) 11 = nI 0 ∧ ∀ k, k < 1458 → g.I (b + 76) k = plR k
def Gq (b : Nat) (z : Sh) (h : Hp) (z' : Sh) (h' : Hp) : Prop := (z.sz ≤ z'.sz ∧ z'.sz ≤ z.sz + 1000 ∧ z.sl ≤ z'.sl ∧ z'.sl ≤ z.sl + 2000) ∧ (∀ a, a < z.sz → z'.K a = z.K a ∧ z'.N a = z.N a) ∧ (∀ k, z'.st k = z.st k) ∧ (∀ a, a < z.sz → a ≠ b + 2 → a ≠ b + 7 → h'.I a = h.I a) ∧ (∀ a, a < z.sz → h'.J a = h.J a) ∧ (∀ a, a < z.sz → a ≠ b + 2 → h'.R a = h.R a) ∧ ∀ k, k ≠ 2 → k ≠ 8 → h'.R (b + 2) k = h.R (b + 2) k
section
variable {n b N : Nat} {sv : Nat → Nat} {z : Sh} {tx : Nat → Nat} {h : Hp}
theorem RT.new {b : Nat} {g : Hp} (H : ∀ k, k < 1458 → g.I (b + 76) k = plR k) : RT b [] (1, 1, 0, 0, 0, 0, fun _ => 0, fun _ => 0, [1], [0]) g := by
  have E : ∀ k, k < 557 → ¬ (k = 1 ∨ k = 2) → g.I (b + 76) k = plV k := fun k q1 q2 => (H k (by omega)).trans (if_neg q2)
  have E0 : ∀ k, k < 557 → ¬ (k = 1 ∨ k = 2) → ¬ (24 ≤ k ∧ k < 30) → ¬ (36 ≤ k ∧ k < 42) → g.I (b + 76) k = nI 0 := fun k q1 q2 q3 q4 => by
    rw [E k q1 q2]
    unfold plV
    rw [if_neg q3, if_neg q4]
    rfl
  refine ⟨E0 0 (by decide) (by decide) (by decide) (by decide), (H 1 (by decide)).trans rfl, (H 2 (by decide)).trans rfl, E0 3 (by decide) (by decide) (by decide) (by decide), E0 4 (by decide) (by decide) (by decide) (by decide), E0 17 (by decide) (by decide) (by decide) (by decide), fun p hp => absurd hp (Nat.not_lt_zero p), fun p _ h2 => E0 _ (by omega) (by omega) (by omega) (by omega), fun k h1 h2 => E k (by omega) (by omega), fun k h1 h2 => E0 k (by omega) (by omega) (by omega) (by omega), Or.inl ⟨E0 5 (by decide) (by decide) (by decide) (by decide), rfl⟩, Or.inl ⟨E0 6 (by decide) (by decide) (by decide) (by decide), rfl⟩⟩
theorem law1 : LawOK 7 [1] ∧ LawOK 2 [0] := by
  refine ⟨⟨by decide, fun c hc h1 h2 => ?_, fun f _ => ⟨1, rfl, by decide, by decide⟩⟩, by decide, fun c hc h1 h2 => ?_, fun f _ => ⟨0, rfl, by decide, by decide⟩⟩
  · have : c = 1 := by simpa using hc
    omega
  · have : c = 0 := by simpa using hc
    omega
theorem read_ok (LX : LayX z h.2.2 b) (S : StrH b sv z h) (hb : b + 92 ≤ z.sz) (l0 : z.st 0 < b ∧ LawX b z h (z.st 0) [1]) (l1 : z.st 1 < b ∧ LawX b z h (z.st 1) [0]) (hy : ∀ j, j < N → h.I (b + 1) j &&& 255 = nI (tx j)) (hN : N ≤ 900) (hx : ∀ j, tx j < 256) (hn : 400000 ≤ n) :
    (∃ h' z' fl pl, f_X6_read n z h (b + 2) (b + 1) (nI N) = some (none, h', z') ∧ Gq b z h z' h' ∧ CF b 2 fl pl h' ∧ ∀ zr g, R0 b sv zr tx N g → ∃ g', (f_X12_next n zr g (b + 72)).bind (fun g1 => hdR n b zr g1) = some ((-99000030) - nI fl, g') ∧ FrT b g g' ∧ g'.I (b + 72) 13 = nI fl ∧ g'.I (b + 72) 14 = nI pl) ∨
    (∃ h' z' T' D', f_X6_read n z h (b + 2) (b + 1) (nI N) = some (some z.sz, h', z') ∧ Gq b z h z' h' ∧ CLS b sv z' tx N z.sz T' D' h' ∧ ∀ zr g, R0 b sv zr tx N g → ∃ g' M', (f_X12_next n zr g (b + 72)).bind (fun g1 => hdR n b zr g1) = f_X12_town_143 n zr g' (b + 72) ∧ FrT b g g' ∧ RLS b sv zr tx N T' M' D' g') := by
  have Z : ZC b z := ⟨kx_1 LX, nx_1 LX, kx_2 LX, kx_7 LX, nx_7 LX⟩
  -- the reader's own fields
  obtain ⟨h5, hh5⟩ : ∃ h5 : Hp, h5 = (((((h.setR (b + 2) 2 (some (b + 1))).setI (b + 2) 3 (nI N)).setI (b + 2) 5 0).setI (b + 2) 0 0).setI (b + 2) 1 (-1)) := ⟨_, rfl⟩
  have I5 : ∀ a, a ≠ b + 2 → h5.I a = h.I a := fun a q => by rw [hh5, sI_o q, sI_o q, sI_o q, sI_o q, setR_I]
  have J5 : ∀ a, h5.J a = h.J a := fun a => by rw [hh5]; rfl
  have R5 : ∀ a, a ≠ b + 2 → h5.R a = h.R a := fun a q => by rw [hh5, setI_R, setI_R, setI_R, setI_R, setR_R, if_neg q]
  have R52 : ∀ k, k ≠ 2 → h5.R (b + 2) k = h.R (b + 2) k := fun k q => by rw [hh5, setI_R, setI_R, setI_R, setI_R, setR_R, if_pos rfl, va_up_ne _ _ q]
  have R522 : h5.R (b + 2) 2 = some (b + 1) := by rw [hh5, setI_R, setI_R, setI_R, setI_R, setR_R, if_pos rfl, va_up_self]
  have i0 : h5.I (b + 2) 0 = nI 0 := by rw [hh5, sI_ne (by decide), sI_eq]; rfl
  have i1 : h5.I (b + 2) 1 = -1 := by rw [hh5, sI_eq]
  have i3 : h5.I (b + 2) 3 = nI N := by rw [hh5, sI_ne (by decide), sI_ne (by decide), sI_ne (by decide), sI_eq]
  have i5 : h5.I (b + 2) 5 = nI 0 := by rw [hh5, sI_ne (by decide), sI_ne (by decide), sI_eq]; rfl
  obtain ⟨h9, n1, n2, n3, n4, n5, n6, n7⟩ := init8 (z := z) (h := h5)
  have EK : ∀ a, a < z.sz → (((z.al 8 0 (nf 8)).al 14 6 6).al 14 6 6).K a = z.K a ∧ (((z.al 8 0 (nf 8)).al 14 6 6).al 14 6 6).N a = z.N a := fun a q => ⟨by rw [al_Kb, if_neg (by rw [al_sz, al_sz]; omega), al_Kb, if_neg (by rw [al_sz]; omega), al_Kb, if_neg (by omega)], by rw [al_Nb, if_neg (by rw [al_sz, al_sz]; omega), al_Nb, if_neg (by rw [al_sz]; omega), al_Nb, if_neg (by omega)]⟩
  have hs2 : (((z.al 8 0 (nf 8)).al 14 6 6).al 14 6 6).sz = z.sz + 3 := rfl
  have hl2 : (((z.al 8 0 (nf 8)).al 14 6 6).al 14 6 6).sl = z.sl + nf 8 + 6 + 6 := rfl
  have nf8 : nf 8 = 10 := rfl
  have Kt : (((z.al 8 0 (nf 8)).al 14 6 6).al 14 6 6).K z.sz = 8 := by rw [al_Kb, if_neg (by rw [al_sz, al_sz]; omega), al_Kb, if_neg (by rw [al_sz]; omega), al_Kb, if_pos rfl]
  have Kt1 : (((z.al 8 0 (nf 8)).al 14 6 6).al 14 6 6).K (z.sz + 1) = 14 ∧ (((z.al 8 0 (nf 8)).al 14 6 6).al 14 6 6).N (z.sz + 1) = 6 := ⟨by rw [al_Kb, if_neg (by rw [al_sz, al_sz]; omega), al_Kb, if_pos (show z.sz + 1 = (z.al 8 0 (nf 8)).sz from rfl)], by rw [al_Nb, if_neg (by rw [al_sz, al_sz]; omega), al_Nb, if_pos (show z.sz + 1 = (z.al 8 0 (nf 8)).sz from rfl)]⟩
  have Kt2 : (((z.al 8 0 (nf 8)).al 14 6 6).al 14 6 6).K (z.sz + 2) = 14 ∧ (((z.al 8 0 (nf 8)).al 14 6 6).al 14 6 6).N (z.sz + 2) = 6 := ⟨by rw [al_Kb, if_pos (show z.sz + 2 = ((z.al 8 0 (nf 8)).al 14 6 6).sz from rfl)], by rw [al_Nb, if_pos (show z.sz + 2 = ((z.al 8 0 (nf 8)).al 14 6 6).sz from rfl)]⟩
  generalize hz2 : ((z.al 8 0 (nf 8)).al 14 6 6).al 14 6 6 = z2 at *
  have st2 : ∀ k, z2.st k = z.st k := fun k => by rw [← hz2]; rfl
  have Z2 : ZC b z2 := ⟨(EK _ (by omega)).1.trans Z.1, (EK _ (by omega)).2.trans Z.2.1, (EK _ (by omega)).1.trans Z.2.2.1, (EK _ (by omega)).1.trans Z.2.2.2.1, (EK _ (by omega)).2.trans Z.2.2.2.2⟩
  obtain ⟨h11, hh11⟩ : ∃ h11 : Hp, h11 = h9.setR (b + 2) 8 (some z.sz) := ⟨_, rfl⟩
  have I11 : ∀ a, h11.I a = h9.I a := fun a => by rw [hh11]; rfl
  have J11 : ∀ a, h11.J a = h9.J a := fun a => by rw [hh11]; rfl
  have R11 : ∀ a, a ≠ b + 2 → h11.R a = h9.R a := fun a q => by rw [hh11, setR_R, if_neg q]
  have R112 : ∀ k, k ≠ 8 → h11.R (b + 2) k = h9.R (b + 2) k := fun k q => by rw [hh11, setR_R, if_pos rfl, va_up_ne _ _ q]
  have R118 : h11.R (b + 2) 8 = some z.sz := by rw [hh11, setR_R, if_pos rfl, va_up_self]
  have IB : ∀ a, a < z.sz → h11.I a = h5.I a := fun a q => (I11 a).trans (n2 a q).1
  have RB : ∀ k, k ≠ 8 → h11.R (b + 2) k = h5.R (b + 2) k := fun k q => (R112 k q).trans (congrFun (n2 (b + 2) (by omega)).2.2 k)
  have G0 : Gq b z h z2 h11 := ⟨⟨by omega, by omega, by omega, by omega⟩, EK, st2, fun a q1 q2 q3 => (IB a q1).trans (I5 a q2), fun a q => (J11 a).trans ((n2 a q).2.1.trans (J5 a)), fun a q1 q2 => (R11 a q2).trans ((n2 a q1).2.2.trans (R5 a q2)), fun k q1 q2 => (RB k q2).trans (R52 k q1)⟩
  have CX : Cx b sv z2 tx N h11 := by
    refine ⟨⟨(RB 2 (by decide)).trans R522, by rw [IB _ (by omega)]; exact i1⟩, (RB 10 (by decide)).trans ((R52 10 (by decide)).trans (rx_2_10 LX)), by rw [IB _ (by omega)]; exact i3, fun j hj => ?_, fun s h1 h2 => ?_⟩
    · rw [IB _ (by omega), I5 _ (by omega)]
      exact hy j hj
    · obtain ⟨a1, a2, a3, a4, a5, a6⟩ := S s h1 h2
      rw [st2 s, R11 _ (by omega), (n2 _ (by omega)).2.2, R5 _ (by omega), (EK _ (by omega)).1, (EK _ (by omega)).2, IB _ (by omega), I5 _ (by omega)]
      exact ⟨a1, a2, a3, a4, a5, a6⟩
  obtain ⟨h12, e1, e2, e3, e4, e5, e6⟩ := next_c (n := n) Z2 hN hx hn CX (Nat.zero_le N) (by rw [IB _ (by omega)]; exact i5)
  obtain ⟨w, hw2, hw⟩ := nI_any (h12.I (b + 2) 9)
  have C12 : CS b sv z2 tx N w (tkN tx N 0) [] h12 := ⟨CX.sb e2, ⟨0, Nat.zero_le _, rfl⟩, by rw [e2.2.2.2 0 (by decide) (by decide) (by decide) (by decide), IB _ (by omega)]; exact i0, e3, e4, e5, e6, hw, fun q => by omega, fun q => by omega, fun q => by omega⟩
  have lw : ∀ {k a : Nat} {L : List Nat}, h9.R z.sz k = some a → a < b ∧ LawX b z h a L → LwC b z2 h11 z.sz k L := by
    intro k a L q1 q2
    obtain ⟨q2, q3, q4, q5, q6⟩ := q2
    refine ⟨a, by rw [R11 _ (by omega)]; exact q1, by omega, Or.inl q2, by rw [(EK a (by omega)).1]; exact q4, by rw [(EK a (by omega)).2]; exact q5, fun j hj => ?_⟩
    rw [IB _ (by omega), I5 _ (by omega)]
    exact q6 j hj
  have H11 : CT b z2 z.sz (1, 1, 0, 0, 0, 0, fun _ => 0, fun _ => 0, [1], [0]) h11 := by
    refine ⟨⟨R118, hb, by omega⟩, ⟨Kt, Kt1, Kt2⟩, ⟨by rw [R11 _ (by omega)]; exact n4, by rw [R11 _ (by omega)]; exact n5⟩, ?_⟩
    rw [I11]
    exact ⟨n3.1, n3.2.1, n3.2.2.1, n3.2.2.2.1, n3.2.2.2.2.1, n3.2.2.2.2.2, fun p hp => absurd hp (Nat.not_lt_zero p), lw n6 l0, lw n7 l1⟩
  have H12 := H11.fc e2.fc
  have hU : ∀ {o : Option Nat} {h' : Hp} {z' : Sh}, z2.sz ≤ z'.sz ∧ z2.sl ≤ z'.sl → ((f_X6_readHead n z2 h12 (b + 2)).bind fun q => f_X6_read_48 n n z2 q.2 (b + 2) (nI N) q.1 0) = some (o, h', z') → f_X6_read n z h (b + 2) (b + 1) (nI N) = some (o, h', z') := by
    intro o h' z' gz e
    unfold f_X6_read
    rw [if_pos Z.2.2.1]
    refine gd3_go ⟨by omega, by omega⟩ ?_
    rw [pR_ok Z.2.2.1, bS, pI_ok Z.2.2.1, bS, pI_ok Z.2.2.1, bS, pI_ok Z.2.2.1, bS, pI_ok Z.2.2.1, bS, ← hh5]
    show gd3 (z.al 8 0 (nf 8)) ((f_X8_init (z.al 8 0 (nf 8)) (h5.nw z.sz) z.sz).bind _) = _
    refine gd3_go ⟨by rw [al_sz]; omega, by rw [al_sl]; omega⟩ ?_
    rw [n1, bS]
    refine gd3_go gz ?_
    rw [pR_ok Z2.2.2.1, bS, ← hh11, e1, bS]
    exact e
  have rN : ∀ zr g, R0 b sv zr tx N g → ∃ g1, f_X12_next n zr g (b + 72) = some g1 ∧ FrR b g g1 ∧ RS b sv zr tx N 2 (tkN tx N 0) [] g1 ∧ RT b [] (1, 1, 0, 0, 0, 0, fun _ => 0, fun _ => 0, [1], [0]) g1 := by
    intro zr g ⟨c1, c2, c3, c4⟩
    obtain ⟨g1, a1, a2, a3, a4, a5, a6⟩ := next_r (n := n) hN hx hn c1 (Nat.zero_le N) c2
    have e76 : g1.I (b + 76) = g.I (b + 76) := a2.2.2.1 _ (by omega)
    refine ⟨g1, a1, a2.fr, ⟨c1.sm a2, ⟨0, Nat.zero_le _, rfl⟩, by rw [a2.2.2.2 11 (by decide) (by decide) (by decide) (by decide)]; exact c3, a3, a4, a5, a6, fun q => absurd q (by decide), ?_, Nat.zero_le _, fun j hj => absurd hj (Nat.not_lt_zero j)⟩, RT.new (fun k hk => by rw [e76]; exact c4 k hk)⟩
    rw [e76, c4 557 (by decide)]
    rfl
  have gq : ∀ {z' : Sh} {h' : Hp}, Gz b z.sz z2 h11 z' h' → z'.sz ≤ z2.sz + 900 ∧ z'.sl ≤ z2.sl + 900 → Gq b z h z' h' := by
    intro z' h' G gr
    obtain ⟨⟨q1, q2⟩, q3, q4, q5, q6, q7⟩ := G
    obtain ⟨p1, p2, p3, p4, p5, p6, p7⟩ := G0
    exact ⟨⟨by omega, by omega, by omega, by omega⟩, fun a q => ⟨(q3 a (by omega)).1.trans (p2 a q).1, (q3 a (by omega)).2.trans (p2 a q).2⟩, fun k => (q4 k).trans (p3 k), fun a a1 a2 a3 => (q5 a a1 a2 a3).trans (p4 a a1 a2 a3), fun a a1 => (q6 a a1).trans (p5 a a1), fun a a1 a2 => (q7 a a1).trans (p6 a a1 a2), fun k a1 a2 => (congrFun (q7 (b + 2) (by omega)) k).trans (p7 k a1 a2)⟩
  rcases hd_ok (n := n) (zs := z.sz) C12 H12 (by decide) (Nat.le_refl _) Z2 hN hx hn with ⟨h14, fl, pl, s1, s2, s3, s4⟩ | ⟨h14, T4, yr, tr, s1, s2, s3, s4, s5, s6, s7, s8⟩
  · refine Or.inl ⟨h14, z2, fl, pl, hU ⟨Nat.le_refl _, Nat.le_refl _⟩ (by rw [s1, bS]; exact rd48_F (by omega)), gq ((Gz.fc e2.fc).tr s2) ⟨by omega, by omega⟩, s3, fun zr g R => ?_⟩
    obtain ⟨g1, a1, a2, a3, a4⟩ := rN zr g R
    obtain ⟨g2, b1, b2, b3⟩ := s4 zr g1 [] 2 a3
    exact ⟨g2, by rw [a1, bS]; exact b1, a2.t.tr b2, b3⟩
  · have O4 : DOK (yr, tr, 0, 0, 0, 0 + 1, fun _ => 0, fun _ => 0, [1], [0]) := ⟨s6, s7, by decide, by decide, by decide, fun p hp => absurd hp (Nat.not_lt_zero p), law1.1, law1.2⟩
    rcases rd_lp (n := n) (zs := z.sz) (Nat.le_refl _) hN hx hn 901 n n z2 h14 T4 (yr, tr, 0, 0, 0, 0 + 1, fun _ => 0, fun _ => 0, [1], [0]) 0 (by omega) (by omega) (by omega) ⟨⟨w, [], s4⟩, s5, O4⟩ Z2 (Nat.zero_le _) with ⟨h8, z8, fl, pl, u1, u2, u3, u4, u5⟩ | ⟨h8, z8, T8, D8, u1, u2, u3, u4, u5⟩
    · refine Or.inl ⟨h8, z8, fl, pl, hU u2.1 (by rw [s1, bS]; exact u1), gq (((Gz.fc e2.fc).tr s2).tr u2) ⟨by omega, by omega⟩, u4, fun zr g R => ?_⟩
      obtain ⟨g1, a1, a2, a3, a4⟩ := rN zr g R
      obtain ⟨g2, b1, b2, b3, b4⟩ := s8 zr g1 [] 2 a3 a4
      obtain ⟨g3, d1, d2, d3⟩ := u5 zr g2 [] ⟨⟨2, b3⟩, b4, Nat.zero_le _⟩
      exact ⟨g3, by rw [a1, bS]; exact b1.trans d1, (a2.t.tr b2).tr d2, d3⟩
    · refine Or.inr ⟨h8, z8, T8, D8, hU u2.1 (by rw [s1, bS]; exact u1), gq (((Gz.fc e2.fc).tr s2).tr u2) ⟨by omega, by omega⟩, u4, fun zr g R => ?_⟩
      obtain ⟨g1, a1, a2, a3, a4⟩ := rN zr g R
      obtain ⟨g2, b1, b2, b3, b4⟩ := s8 zr g1 [] 2 a3 a4
      obtain ⟨g3, M3, d1, d2, d3⟩ := u5 zr g2 [] ⟨⟨2, b3⟩, b4, Nat.zero_le _⟩
      exact ⟨g3, M3, by rw [a1, bS]; exact b1.trans d1, (a2.t.tr b2).tr d2, d3⟩
end
