/-! ===== what ways change, and what stays ===== -/
def Ex (b : Nat) (z : Sh) (h : Hp) (z' : Sh) (h' : Hp) : Prop :=
  (z.sz ≤ z'.sz ∧ z.sl ≤ z'.sl) ∧ (∀ a, a < z.sz → z'.K a = z.K a ∧ z'.N a = z.N a) ∧ (∀ k, z'.st k = z.st k) ∧ (∀ a, a < z.sz → a ≠ b + 41 → a ≠ b + 42 → a ≠ b + 44 → a ≠ b + 46 → a ≠ b + 53 → a ≠ b + 54 → a ≠ b + 58 → h'.I a = h.I a) ∧ (∀ a, a < b + 92 → a ≠ b + 52 → a ≠ b + 57 → h'.J a = h.J a) ∧ (∀ a, a < z.sz → a ≠ b + 44 → a ≠ b + 45 → a ≠ b + 55 → h'.R a = h.R a)
theorem Ex.refl (b : Nat) (z : Sh) (h : Hp) : Ex b z h z h := ⟨⟨Nat.le_refl _, Nat.le_refl _⟩, fun _ _ => ⟨rfl, rfl⟩, fun _ => rfl, fun _ _ _ _ _ _ _ _ _ => rfl, fun _ _ _ _ => rfl, fun _ _ _ _ _ => rfl⟩
theorem Ex.trans {b : Nat} {z z' z'' : Sh} {h h' h'' : Hp} (H : Ex b z h z' h') (G : Ex b z' h' z'' h'') : Ex b z h z'' h'' := by
  obtain ⟨⟨h1, h1'⟩, h2, h3, h4, h5, h6⟩ := H
  obtain ⟨⟨g1, g1'⟩, g2, g3, g4, g5, g6⟩ := G
  exact ⟨⟨by omega, by omega⟩, fun a ha => ⟨(g2 a (by omega)).1.trans (h2 a ha).1, (g2 a (by omega)).2.trans (h2 a ha).2⟩, fun k => (g3 k).trans (h3 k), fun a ha k1 k2 k3 k4 k5 k6 k7 => (g4 a (by omega) k1 k2 k3 k4 k5 k6 k7).trans (h4 a ha k1 k2 k3 k4 k5 k6 k7), fun a ha k1 k2 => (g5 a ha k1 k2).trans (h5 a ha k1 k2), fun a ha k1 k2 k3 => (g6 a (by omega) k1 k2 k3).trans (h6 a ha k1 k2 k3)⟩
theorem LawX.ex {b : Nat} {z z' : Sh} {h h' : Hp} {a : Nat} {L : List Nat} (hb : b + 92 ≤ z.sz) (E : Ex b z h z' h') (H : LawX b z h a L) : LawX b z' h' a L := by
  obtain ⟨h1, h2, h3, h4⟩ := H
  obtain ⟨⟨e1, -⟩, e2, -, e4, -⟩ := E
  have ha : a < z.sz := by omega
  refine ⟨by omega, by rw [(e2 a ha).1]; exact h2, by rw [(e2 a ha).2]; exact h3, fun j hj => ?_⟩
  rw [e4 a ha (by omega) (by omega) (by omega) (by omega) (by omega) (by omega) (by omega)]
  exact h4 j hj
theorem TownX.ex {b : Nat} {z z' : Sh} {h h' : Hp} {t : Nat} {τ : TT} (hb : b + 92 ≤ z.sz) (E : Ex b z h z' h') (H : TownX b z h t τ) : TownX b z' h' t τ ∧ h'.I t = h.I t := by
  obtain ⟨h1, h2, h3, h4, h5, ⟨a, h6, h7⟩, a', h8, h9⟩ := H
  have ht : t < z.sz := by omega
  have eI : h'.I t = h.I t := E.2.2.2.1 t ht (by omega) (by omega) (by omega) (by omega) (by omega) (by omega) (by omega)
  have eR : h'.R t = h.R t := E.2.2.2.2.2 t ht (by omega) (by omega) (by omega)
  have e1 := E.1.1
  refine ⟨⟨by omega, by rw [(E.2.1 t ht).1]; exact h2, by rw [eI]; exact h3, by rw [eI]; exact h4, by rw [eI]; exact h5, ⟨a, by rw [eR]; exact h6, h7.ex hb E⟩, a', by rw [eR]; exact h8, h9.ex hb E⟩, eI⟩
theorem Inv.ways {z0 : Sh} {h0 : Hp} {b c c' : Nat} {z z' : Sh} {h h' : Hp} (I : Inv z0 h0 b c z h) (E : Ex b z h z' h') (L : LayX z' h'.2.2 b) (W : WaysI b c' z' h') (R : RoomI z0 b c' z' h') : Inv z0 h0 b c' z' h' := by
  obtain ⟨i1, i2, i3, ⟨t, τ, P, n1, n2, n3, n4, n5, n6, n7, n8, n9⟩, ⟨i5, i5'⟩, i6, i7, i8, i9⟩ := I
  have hb : b + 92 ≤ z.sz := i9.1
  obtain ⟨e1, e2, e3, e4, e5, e6⟩ := id E
  have hI : ∀ k, k < 92 → k ≠ 41 → k ≠ 42 → k ≠ 44 → k ≠ 46 → k ≠ 53 → k ≠ 54 → k ≠ 58 → h'.I (b + k) = h.I (b + k) := fun k k0 k1 k2 k3 k4 k5 k6 k7 => e4 _ (by omega) (by omega) (by omega) (by omega) (by omega) (by omega) (by omega) (by omega)
  have hJ : ∀ k, k < 92 → k ≠ 52 → k ≠ 57 → h'.J (b + k) = h.J (b + k) := fun k k0 k1 k2 => e5 _ (by omega) (by omega) (by omega)
  have hR : ∀ k, k < 92 → k ≠ 44 → k ≠ 45 → k ≠ 55 → h'.R (b + k) = h.R (b + k) := fun k k0 k1 k2 k3 => e6 _ (by omega) (by omega) (by omega) (by omega)
  have i73 : h'.I (b + 73) = h.I (b + 73) := hI 73 (by omega) (by omega) (by omega) (by omega) (by omega) (by omega) (by omega) (by omega)
  have hTn := n2.ex hb E
  have image : ∀ i, i < 2 → ImgI b z h i → ImgI b z' h' i := fun i hi H => by
    rcases H with ⟨q1, q2⟩ | ⟨q1, t', τ', P', q2, q3, q4, q5, q6, q7, q8, q9⟩
    · exact Or.inl ⟨by rw [hI 74 (by omega) (by omega) (by omega) (by omega) (by omega) (by omega) (by omega) (by omega)]; exact q1, by rw [hR 37 (by omega) (by omega) (by omega) (by omega)]; exact q2⟩
    · have q3' := q3.ex hb E
      refine Or.inr ⟨by rw [hI 74 (by omega) (by omega) (by omega) (by omega) (by omega) (by omega) (by omega) (by omega)]; exact q1, t', τ', P', by rw [hR 37 (by omega) (by omega) (by omega) (by omega)]; exact q2, q3'.1, q4, by rw [i73]; exact q5, by rw [i73, q3'.2]; exact q6, by rw [i73]; exact q7, q8, ?_⟩
      rw [i73, show b + 60 + 2 * i = b + (60 + 2 * i) by omega, show b + 61 + 2 * i = b + (61 + 2 * i) by omega, hI (60 + 2 * i) (by omega) (by omega) (by omega) (by omega) (by omega) (by omega) (by omega) (by omega), hI (61 + 2 * i) (by omega) (by omega) (by omega) (by omega) (by omega) (by omega) (by omega) (by omega)]
      rw [show b + 60 + 2 * i = b + (60 + 2 * i) by omega, show b + 61 + 2 * i = b + (61 + 2 * i) by omega] at q9
      exact q9
  refine ⟨⟨fun a ha => ?_, fun k => (e3 k).trans (i1.2 k)⟩, L, ?_, ?_, ⟨image 0 (by omega) i5, image 1 (by omega) i5'⟩, ?_, ?_, W, R⟩
  · obtain ⟨b1, b2, b3, b4, b5⟩ := i1.1 a ha
    refine ⟨((e2 a (by omega)).1).trans b1, ((e2 a (by omega)).2).trans b2, (e4 a (by omega) (by omega) (by omega) (by omega) (by omega) (by omega) (by omega) (by omega)).trans b3, (e5 a (by omega) (by omega) (by omega)).trans b4, (e6 a (by omega) (by omega) (by omega) (by omega)).trans b5⟩
  · refine ⟨fun o ho => ?_, fun q hq => ?_⟩
    · rw [(e2 _ (by omega)).1, (e2 _ (by omega)).2]
      exact i3.1 o ho
    · have := rM_20 q hq
      rw [show h'.2.2 (b + 72 + q.1) = h.2.2 (b + 72 + q.1) from e6 _ (by omega) (by omega) (by omega) (by omega)]
      exact i3.2 q hq
  · refine ⟨t, τ, P, by rw [show h'.R b = h.R b from e6 b (by omega) (by omega) (by omega) (by omega)]; exact n1, hTn.1, n3, by rw [i73]; exact n4, by rw [i73, hTn.2]; exact n5, by rw [i73]; exact n6, n7, ?_, ?_⟩
    · rw [i73, hI 11 (by omega) (by omega) (by omega) (by omega) (by omega) (by omega) (by omega) (by omega), hI 12 (by omega) (by omega) (by omega) (by omega) (by omega) (by omega) (by omega) (by omega)]
      exact n8
    · obtain ⟨nx, sz, p1, p2, p3, p4, p5, p6⟩ := n9
      rw [i73, hI 15 (by omega) (by omega) (by omega) (by omega) (by omega) (by omega) (by omega) (by omega)]
      refine ⟨nx, sz, p1, p2, p3, p4, p5, fun i hi => ?_⟩
      have := p6 i hi
      dsimp only at this ⊢
      rw [Nat.add_assoc b, Nat.add_assoc b] at this ⊢
      rw [hI _ (by omega) (by omega) (by omega) (by omega) (by omega) (by omega) (by omega) (by omega), hI _ (by omega) (by omega) (by omega) (by omega) (by omega) (by omega) (by omega) (by omega)]
      exact this
  · exact i6.fr (fun k k1 k2 => hI k (by omega) (by omega) (by omega) (by omega) (by omega) (by omega) (by omega) (by omega)) (fun k k1 k2 => hJ k (by omega) (by omega) (by omega)) (hI 89 (by omega) (by omega) (by omega) (by omega) (by omega) (by omega) (by omega) (by omega)) (hI 90 (by omega) (by omega) (by omega) (by omega) (by omega) (by omega) (by omega) (by omega)) (hJ 91 (by omega) (by omega) (by omega))
  · have i0 : h'.I b = h.I b := e4 b (by omega) (by omega) (by omega) (by omega) (by omega) (by omega) (by omega) (by omega)
    have i72 : h'.I (b + 72) = h.I (b + 72) := hI 72 (by omega) (by omega) (by omega) (by omega) (by omega) (by omega) (by omega) (by omega)
    have i2' : h'.I (b + 2) = h.I (b + 2) := hI 2 (by omega) (by omega) (by omega) (by omega) (by omega) (by omega) (by omega) (by omega)
    exact i7.fr (by rw [i0]) (hI 1 (by omega) (by omega) (by omega) (by omega) (by omega) (by omega) (by omega) (by omega)) (by rw [i2']) (by rw [i2']) (by rw [i72]) (by rw [i72]) (by rw [i72]) (hI 75 (by omega) (by omega) (by omega) (by omega) (by omega) (by omega) (by omega) (by omega))
/-! ===== ways that stand still ===== -/
def WMem (b : Nat) (z : Sh) (h : Hp) (ts : Nat) (ω : TT) : Prop := ∀ k, k < 10 → ∀ mo, h.R (b + 45) k = some mo → b + 92 ≤ mo ∧ mo + 1 < z.sz ∧ z.K mo = 3 ∧ h.R mo 0 = some (mo + 1) ∧ z.K (mo + 1) = 15 ∧ z.N (mo + 1) = 5600 ∧ MemoOK (h.J (mo + 1)) 5600 ts (worthP ω k) ∧ (∀ k', k' < 10 → h.R (b + 45) k' = some mo → k' = k) ∧ h.R (b + 55) 4 ≠ some mo
def HMem (b : Nat) (z : Sh) (h : Hp) (st : Nat) (ω : TT) (tal : Nat) (md : Bool) : Prop := ∀ mo, h.R (b + 55) 4 = some mo → b + 92 ≤ mo ∧ mo + 1 < z.sz ∧ z.K mo = 3 ∧ h.R mo 0 = some (mo + 1) ∧ z.K (mo + 1) = 15 ∧ z.N (mo + 1) = hpA 1400 ∧ (∀ j, j < 1400 → h.I (b + 58) j = nI (hpA j)) ∧ MemoOK (h.J (mo + 1)) (hpA 1400) st (hopeP ω tal md)
def WayD (z0 : Sh) (b c : Nat) (z : Sh) (h : Hp) (wt : Nat) (ω : TT) (tal : Nat) (md : Bool) (st ts : Nat) : Prop :=
  (LayX z h.2.2 b ∧ RoomI z0 b c z h ∧ 0 < st ∧ st ≤ c ∧ 1 ≤ ts ∧ ts ≤ c + 1 ∧ c ≤ 600) ∧ (h.R (b + 44) 3 = some wt ∧ TownX b z h wt ω ∧ TownOK ω ∧ tal ≤ 9) ∧ (h.I (b + 44) 4 = nI ts ∧ h.I (b + 44) 5 = nI tal ∧ h.I (b + 44) 6 = (if md = true then nI 1 else nI 0) ∧ h.I (b + 44) 7 = nI st) ∧ (∀ y, y < 7 → h.I (b + 46) y = nI (gV ω tal y)) ∧ ((MemoOK (h.J (b + 52)) 1400 st (bestP ω tal md) ∧ BCl (h.J (b + 52)) st ω tal md) ∧ MemoOK (h.J (b + 57)) 1400 st (meanP ω tal md)) ∧ WMem b z h ts ω ∧ HMem b z h st ω tal md
theorem WayD.wI {z0 : Sh} {b c : Nat} {z : Sh} {h : Hp} {wt : Nat} {ω : TT} {tal : Nat} {md : Bool} {st ts : Nat} (W : WayD z0 b c z h wt ω tal md st ts) : WaysI b c z h := by
  obtain ⟨⟨w1, w2, w3, w4, w5, w6, w7⟩, ⟨w8, w9, w10, w11⟩, ⟨w12, w13, w14, w15⟩, w16, ⟨w17, w18⟩, w19, w20⟩ := W
  exact ⟨wt, ω, tal, md, st, ts, w8, w9, w10, w11, w12, w13, w14, w15, w4, w5, w6, fun _ => w16, w17, w18, w19, w20⟩
/-- between two states of a reckoning -/
def WE (b st : Nat) (z : Sh) (h : Hp) (z' : Sh) (h' : Hp) : Prop := Ex b z h z' h' ∧ (∀ c, Stm (h.J (b + 52)) st c → Stm (h'.J (b + 52)) st c) ∧ h'.I (b + 44) = h.I (b + 44) ∧ h'.I (b + 53) = h.I (b + 53) ∧ h'.I (b + 54) = h.I (b + 54) ∧ ∀ mo, h.R (b + 55) 4 = some mo → h'.R (b + 55) 4 = some mo
theorem WE.refl (b st : Nat) (z : Sh) (h : Hp) : WE b st z h z h := ⟨Ex.refl .., fun _ q => q, rfl, rfl, rfl, fun _ q => q⟩
theorem WE.trans {b st : Nat} {z z' z'' : Sh} {h h' h'' : Hp} (H : WE b st z h z' h') (G : WE b st z' h' z'' h'') : WE b st z h z'' h'' := ⟨H.1.trans G.1, fun c q => G.2.1 c (H.2.1 c q), G.2.2.1.trans H.2.2.1, G.2.2.2.1.trans H.2.2.2.1, G.2.2.2.2.1.trans H.2.2.2.2.1, fun mo q => G.2.2.2.2.2 mo (H.2.2.2.2.2 mo q)⟩
theorem cnt_up {R : Nat → Option Nat} {k v : Nat} (h : R k = none) : ∀ N, cnt (va_up R k (some v)) N = cnt R N + (if k < N then 1 else 0) := by
  intro N
  induction N with
  | zero => rfl
  | succ N ih =>
    unfold cnt
    rw [ih]
    by_cases e : N = k
    · subst e
      rw [va_up_self, h, if_neg (show ¬ N < N by omega), if_pos (show N < N + 1 by omega)]
      rfl
    · rw [va_up_ne _ _ e]
      by_cases e2 : k < N
      · rw [if_pos e2, if_pos (show k < N + 1 by omega)]
        omega
      · rw [if_neg e2, if_neg (show ¬ k < N + 1 by omega)]
        rfl
section
variable {n : Nat} {z0 : Sh} {b c : Nat} {z : Sh} {h : Hp} {wt : Nat} {ω : TT} {tal : Nat} {md : Bool} {st ts : Nat}
/-- a memo for a talent is made -/
theorem cw_new (W : WayD z0 b c z h wt ω tal md st ts) (hN : h.R (b + 45) tal = none) (hb0 : b ≤ z.sz) : ∃ z' h', f_X3_init (z.al 3 0 (nf 3)) (h.nw z.sz) z.sz 5600 = some (h', z') ∧ ((z.al 3 0 (nf 3)).sz ≤ z'.sz ∧ (z.al 3 0 (nf 3)).sl ≤ z'.sl) ∧ z'.K (b + 44) = 10 ∧ h'.R (b + 44) 1 = some (b + 45) ∧ h'.I (b + 44) 5 = nI tal ∧ stR z' h' 17 3 (b + 45) (nI tal) z.sz = some (h'.setR (b + 45) tal (some z.sz)) ∧ WayD z0 b c z' (h'.setR (b + 45) tal (some z.sz)) wt ω tal md st ts ∧ WE b st z h z' (h'.setR (b + 45) tal (some z.sz)) ∧ (h'.setR (b + 45) tal (some z.sz)).R (b + 45) tal = some z.sz := by
  obtain ⟨⟨HX, HR, w3, w4, w5, w6, w7⟩, ⟨w8, w9, w10, w11⟩, ⟨w12, w13, w14, w15⟩, w16, ⟨w17, w18⟩, w19, w20⟩ := id W
  have hb : b + 92 ≤ z.sz := HR.1
  have e1 : (z.al 3 0 (nf 3)).sz = z.sz + 1 := rfl
  have i1 : f_X3_init (z.al 3 0 (nf 3)) (h.nw z.sz) z.sz 5600 = some (((h.nw z.sz).nw (z.sz + 1)).setR z.sz 0 (some (z.sz + 1)), (z.al 3 0 (nf 3)).al 15 5600 5600) := by
    unfold f_X3_init
    have kk : (z.al 3 0 (nf 3)).K z.sz = 3 := by rw [al_Kb, if_pos rfl]
    have k2 : ((z.al 3 0 (nf 3)).al 15 5600 5600).K z.sz = 3 := by rw [al_Kb, if_neg (by rw [e1]; omega), al_Kb, if_pos rfl]
    rw [if_pos kk]
    refine gd2_ok (z2 := (z.al 3 0 (nf 3)).al 15 5600 5600) ?_ ⟨Nat.le_succ _, Nat.le_add_right _ _⟩
    rw [show f_J9_max_7cf53 (z.al 3 0 (nf 3)) (h.nw z.sz) 0 5600 = some (nI 5600) from max_ok (a := 0) (c := 5600) (by omega) (by omega), bS, nwA_ok rfl (by omega) (by decide), bS]
    dsimp only
    refine gd2_ok ?_ ⟨Nat.le_refl _, Nat.le_refl _⟩
    rw [pR_ok k2, bS]
    rfl
  have zK : ∀ a, a < z.sz → ((z.al 3 0 (nf 3)).al 15 5600 5600).K a = z.K a ∧ ((z.al 3 0 (nf 3)).al 15 5600 5600).N a = z.N a := fun a ha => by
    rw [al_Kb, al_Nb, if_neg (by rw [e1]; omega), if_neg (by rw [e1]; omega), al_Kb, al_Nb, if_neg (by omega), if_neg (by omega)]
    exact ⟨rfl, rfl⟩
  have hI : ∀ a, a < z.sz → ((((h.nw z.sz).nw (z.sz + 1)).setR z.sz 0 (some (z.sz + 1))).setR (b + 45) tal (some z.sz)).I a = h.I a := fun a ha => by
    show ((h.nw z.sz).nw (z.sz + 1)).I a = h.I a
    rw [nw_Ib, if_neg (by omega), nw_Ib, if_neg (by omega)]
  have hJ : ∀ a, a < z.sz → ((((h.nw z.sz).nw (z.sz + 1)).setR z.sz 0 (some (z.sz + 1))).setR (b + 45) tal (some z.sz)).J a = h.J a := fun a ha => by
    show ((h.nw z.sz).nw (z.sz + 1)).J a = h.J a
    rw [nw_Jb, if_neg (by omega), nw_Jb, if_neg (by omega)]
  have hJ1 : ((((h.nw z.sz).nw (z.sz + 1)).setR z.sz 0 (some (z.sz + 1))).setR (b + 45) tal (some z.sz)).J (z.sz + 1) = fun _ => 0 := by
    show ((h.nw z.sz).nw (z.sz + 1)).J (z.sz + 1) = _
    rw [nw_Jb, if_pos rfl]
  have hRn : ∀ a, a < z.sz → a ≠ b + 45 → ((((h.nw z.sz).nw (z.sz + 1)).setR z.sz 0 (some (z.sz + 1))).setR (b + 45) tal (some z.sz)).R a = h.R a := fun a ha hne => by
    rw [setR_R, if_neg hne, setR_R, if_neg (by omega), nw_Rb, if_neg (by omega), nw_Rb, if_neg (by omega)]
  have hR45 : ((((h.nw z.sz).nw (z.sz + 1)).setR z.sz 0 (some (z.sz + 1))).setR (b + 45) tal (some z.sz)).R (b + 45) = va_up (h.R (b + 45)) tal (some z.sz) := by
    rw [setR_R, if_pos rfl, setR_R, if_neg (by omega), nw_Rb, if_neg (by omega), nw_Rb, if_neg (by omega)]
  have hRz : ((((h.nw z.sz).nw (z.sz + 1)).setR z.sz 0 (some (z.sz + 1))).setR (b + 45) tal (some z.sz)).R z.sz 0 = some (z.sz + 1) := by
    rw [setR_R, if_neg (by omega), setR_R, if_pos rfl, va_up_self]
  have zN : ((z.al 3 0 (nf 3)).al 15 5600 5600).K z.sz = 3 ∧ ((z.al 3 0 (nf 3)).al 15 5600 5600).K (z.sz + 1) = 15 ∧ ((z.al 3 0 (nf 3)).al 15 5600 5600).N (z.sz + 1) = 5600 ∧ ((z.al 3 0 (nf 3)).al 15 5600 5600).sz = z.sz + 2 ∧ ((z.al 3 0 (nf 3)).al 15 5600 5600).sl = z.sl + 5601 := by
    refine ⟨?_, ?_, ?_, rfl, ?_⟩
    · rw [al_Kb, if_neg (by rw [e1]; omega), al_Kb, if_pos rfl]
    · rw [al_Kb, if_pos (show z.sz + 1 = (z.al 3 0 (nf 3)).sz from rfl)]
    · rw [al_Nb, if_pos (show z.sz + 1 = (z.al 3 0 (nf 3)).sz from rfl)]
    · rw [al_sl, al_sl]
      rfl
  have zst : ∀ k, ((z.al 3 0 (nf 3)).al 15 5600 5600).st k = z.st k := fun _ => rfl
  have r44 : (((h.nw z.sz).nw (z.sz + 1)).setR z.sz 0 (some (z.sz + 1))).R (b + 44) = h.R (b + 44) := by
    rw [setR_R, if_neg (by omega), nw_Rb, if_neg (by omega), nw_Rb, if_neg (by omega)]
  have i44 : (((h.nw z.sz).nw (z.sz + 1)).setR z.sz 0 (some (z.sz + 1))).I (b + 44) = h.I (b + 44) := by
    show ((h.nw z.sz).nw (z.sz + 1)).I (b + 44) = _
    rw [nw_Ib, if_neg (by omega), nw_Ib, if_neg (by omega)]
  refine ⟨_, _, i1, ⟨by rw [zN.2.2.2.1, e1]; omega, Nat.le_add_right _ _⟩, ?_, ?_, ?_, ?_, ?_, ?_, ?_⟩
  · rw [(zK _ (by omega)).1]; exact kx_44 HX
  · rw [r44]; exact rx_44_1 HX
  · rw [i44]; exact w13
  · exact stR_ok (by rw [(zK _ (by omega)).1]; exact kx_45 HX) zN.1 (by rw [(zK _ (by omega)).2]; exact nx_45 HX) rfl (show tal < 10 by omega) (by omega)
  · generalize (((h.nw z.sz).nw (z.sz + 1)).setR z.sz 0 (some (z.sz + 1))).setR (b + 45) tal (some z.sz) = g at *
    generalize (z.al 3 0 (nf 3)).al 15 5600 5600 = z2 at *
    obtain ⟨zn1, zn2, zn3, zn4, zn5⟩ := zN
    have E : Ex b z h z2 g := ⟨⟨by omega, by omega⟩, zK, zst, fun a ha _ _ _ _ _ _ _ => hI a ha, fun a ha _ _ => hJ a (by omega), fun a ha k1 k2 k3 => hRn a ha k2⟩
    have r55 : g.R (b + 55) = h.R (b + 55) := hRn _ (by omega) (by omega)
    have rr44 : g.R (b + 44) = h.R (b + 44) := hRn _ (by omega) (by omega)
    refine ⟨⟨⟨fun o ho => ?_, fun q hq => ?_⟩, ?_, w3, w4, w5, w6, w7⟩, ⟨by rw [rr44]; exact w8, (w9.ex hb E).1, w10, w11⟩, ⟨by rw [hI _ (by omega)]; exact w12, by rw [hI _ (by omega)]; exact w13, by rw [hI _ (by omega)]; exact w14, by rw [hI _ (by omega)]; exact w15⟩, by rw [hI _ (by omega)]; exact w16, ⟨by rw [hJ _ (by omega)]; exact w17, by rw [hJ _ (by omega)]; exact w18⟩, ?_, ?_⟩
    · rw [(zK _ (by omega)).1, (zK _ (by omega)).2]
      exact HX.1 o ho
    · have h72 : q.1 < 72 ∧ q.1 ≠ 45 := (show ∀ q ∈ rX, q.1 < 72 ∧ q.1 ≠ 45 by decide +kernel) q hq
      rw [show g.2.2 (b + q.1) = h.2.2 (b + q.1) from hRn _ (by omega) (by omega)]
      exact HX.2 q hq
    · obtain ⟨r1, r2, r3, r4⟩ := HR
      unfold RoomI
      rw [hR45, cnt_up hN 10, if_pos (show tal < 10 by omega), r55, zn4, zn5]
      refine ⟨by omega, by omega, by omega, by omega⟩
    · intro k hk mo hm
      rw [hR45] at hm
      by_cases e : k = tal
      · subst e
        rw [va_up_self] at hm
        have hm : z.sz = mo := Option.some.inj hm
        subst hm
        refine ⟨hb, by omega, zn1, hRz, zn2, zn3, ?_, fun k' hk' q => ?_, ?_⟩
        · intro c hc
          rw [hJ1]
          exact ⟨0, 0, by omega, by omega, rfl, fun _ q => by omega⟩
        · by_cases e2 : k' = k
          · exact e2
          · rw [hR45, va_up_ne _ _ e2] at q
            have := (w19 k' hk' _ q).2.1
            omega
        · rw [r55]
          intro q
          have := (w20 _ q).2.1
          omega
      · rw [va_up_ne _ _ e] at hm
        obtain ⟨m1, m2, m3, m4, m5, m6, m7, m8, m9⟩ := w19 k hk mo hm
        refine ⟨m1, by omega, by rw [(zK _ (by omega)).1]; exact m3, by rw [hRn _ (by omega) (by omega)]; exact m4, by rw [(zK _ (by omega)).1]; exact m5, by rw [(zK _ (by omega)).2]; exact m6, by rw [hJ _ (by omega)]; exact m7, fun k' hk' q => ?_, by rw [r55]; exact m9⟩
        rw [hR45] at q
        by_cases e2 : k' = tal
        · rw [e2, va_up_self] at q
          have := Option.some.inj q
          omega
        · rw [va_up_ne _ _ e2] at q
          exact m8 k' hk' q
    · intro mo hm
      rw [r55] at hm
      obtain ⟨m1, m2, m3, m4, m5, m6, m7, m8⟩ := w20 mo hm
      refine ⟨m1, by omega, by rw [(zK _ (by omega)).1]; exact m3, by rw [hRn _ (by omega) (by omega)]; exact m4, by rw [(zK _ (by omega)).1]; exact m5, by rw [(zK _ (by omega)).2]; exact m6, by rw [hI _ (by omega)]; exact m7, by rw [hJ _ (by omega)]; exact m8⟩
  · refine ⟨⟨⟨by rw [zN.2.2.2.1]; omega, by rw [zN.2.2.2.2]; omega⟩, zK, zst, fun a ha _ _ _ _ _ _ _ => hI a ha, fun a ha _ _ => hJ a (by omega), fun a ha k1 k2 k3 => hRn a ha k2⟩, fun c q => ?_, hI _ (by omega), hI _ (by omega), hI _ (by omega), fun mo q => by rw [hRn _ (by omega) (by omega)]; exact q⟩
    rw [hJ _ (by omega)]
    exact q
  · rw [hR45, va_up_self]
end
