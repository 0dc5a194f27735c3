/-! ===== fills; trays; images ===== -/
def flJ (f : Nat → Int64) (v : Int64) (j : Nat) : Nat → Int64 := fun k => if k < j then v else f k
def flI (f : Nat → Int32) (v : Int32) (j : Nat) : Nat → Int32 := fun k => if k < j then v else f k
theorem flJ_0 (f : Nat → Int64) (v : Int64) : flJ f v 0 = f := by
  funext k
  unfold flJ
  rw [if_neg (by omega)]
theorem flI_0 (f : Nat → Int32) (v : Int32) : flI f v 0 = f := by
  funext k
  unfold flI
  rw [if_neg (by omega)]
theorem flJ_s (f : Nat → Int64) (v : Int64) (j : Nat) : vp_updL (flJ f v j) j v = flJ f v (j + 1) := by
  funext k
  unfold vp_updL flJ
  by_cases h : k = j
  · rw [if_pos h, if_pos (by omega)]
  · rw [if_neg h]
    by_cases h2 : k < j
    · rw [if_pos h2, if_pos (by omega)]
    · rw [if_neg h2, if_neg (by omega)]
theorem flI_s (f : Nat → Int32) (v : Int32) (j : Nat) : upd (flI f v j) j v = flI f v (j + 1) := by
  funext k
  unfold upd flI
  by_cases h : k = j
  · rw [if_pos h, if_pos (by omega)]
  · rw [if_neg h]
    by_cases h2 : k < j
    · rw [if_pos h2, if_pos (by omega)]
    · rw [if_neg h2, if_neg (by omega)]
theorem fillJ_6 {n : Nat} {z : Sh} {h : Hp} {a N : Nat} {v : Int64} (hK : z.K a = 15) (hN : z.N a = N) (hb : N < 2147483648) (f : Nat → Int64) : ∀ (d j i : Nat), j + d = N → d < i → f_J7_fill_d0a16_6 n z i (h.rowJ a (flJ f v j)) a v (nI j) (nI N) = some (h.rowJ a (flJ f v N)) := by
  intro d
  induction d with
  | zero =>
    intro j i hj hi
    obtain ⟨i, rfl⟩ : ∃ k, i = k + 1 := ⟨i - 1, by omega⟩
    obtain rfl : j = N := by omega
    rw [f_J7_fill_d0a16_6.eq_2, if_pos ((nI_leI (by omega) (by omega)).mpr (Nat.le_refl _))]
  | succ d ih =>
    intro j i hj hi
    obtain ⟨i, rfl⟩ : ∃ k, i = k + 1 := ⟨i - 1, by omega⟩
    have ih := ih (j + 1) i (by omega) (by omega)
    rw [f_J7_fill_d0a16_6.eq_2, if_neg (fun q => by have := (nI_leI (by omega) (by omega)).mp q; omega), stJ_ok hK hN rfl (show j < N by omega) hb, bS, bS, rowJ_setJ, flJ_s, show nI j + 1 = nI (j + 1) from nI_add j 1]
    exact ih
theorem fillJ_ok {n : Nat} {z : Sh} {h : Hp} {a N : Nat} {v : Int64} (hK : z.K a = 15) (hN : z.N a = N) (hb : N < n) (hn : N < 2147483648) : f_J7_fill_d0a16 n z h a v = some (h.rowJ a (flJ (h.J a) v N)) := by
  have := fillJ_6 (n := n) (z := z) (h := h) (v := v) hK hN hn (h.J a) N 0 n (by omega) (by omega)
  rw [flJ_0, rowJ_self] at this
  unfold f_J7_fill_d0a16
  rw [aL_ok hK rfl hN, bS]
  exact this
theorem fillI_5 {n : Nat} {z : Sh} {h : Hp} {a N : Nat} {v : Int32} (hK : z.K a = 14) (hN : z.N a = N) (hb : N < 2147483648) (f : Nat → Int32) : ∀ (d j i : Nat), j + d = N → d < i → f_J7_fill_53178_5 n z i (h.rowI a (flI f v j)) a v (nI j) (nI N) = some (h.rowI a (flI f v N)) := by
  intro d
  induction d with
  | zero =>
    intro j i hj hi
    obtain ⟨i, rfl⟩ : ∃ k, i = k + 1 := ⟨i - 1, by omega⟩
    obtain rfl : j = N := by omega
    rw [f_J7_fill_53178_5.eq_2, if_pos ((nI_leI (by omega) (by omega)).mpr (Nat.le_refl _))]
  | succ d ih =>
    intro j i hj hi
    obtain ⟨i, rfl⟩ : ∃ k, i = k + 1 := ⟨i - 1, by omega⟩
    have ih := ih (j + 1) i (by omega) (by omega)
    rw [f_J7_fill_53178_5.eq_2, if_neg (fun q => by have := (nI_leI (by omega) (by omega)).mp q; omega), stI_ok hK hN rfl (show j < N by omega) hb, bS, bS, rowI_setI, flI_s, show nI j + 1 = nI (j + 1) from nI_add j 1]
    exact ih
theorem fillI_ok {n : Nat} {z : Sh} {h : Hp} {a N : Nat} {v : Int32} (hK : z.K a = 14) (hN : z.N a = N) (hb : N < n) (hn : N < 2147483648) : f_J7_fill_53178 n z h a v = some (h.rowI a (flI (h.I a) v N)) := by
  have := fillI_5 (n := n) (z := z) (h := h) (v := v) hK hN hn (h.I a) N 0 n (by omega) (by omega)
  rw [flI_0, rowI_self] at this
  unfold f_J7_fill_53178
  rw [aL_ok hK rfl hN, bS]
  exact this
section
variable {n : Nat} {z0 : Sh} {h0 : Hp} {b c : Nat} {z : Sh} {h : Hp}
/-- a call that changed trays -/
theorem Inv.trayed {h' : Hp} (I : Inv z0 h0 b c z h) (hR : h'.2.2 = h.2.2) (hI : ∀ a, ¬ (b + 64 ≤ a ∧ a < b + 72) → a ≠ b + 72 → a ≠ b + 89 → a ≠ b + 90 → h'.I a = h.I a) (hJ : ∀ a, ¬ (b + 64 ≤ a ∧ a < b + 72) → a ≠ b + 91 → h'.J a = h.J a) (h72 : ∀ k, k = 5 ∨ k = 13 ∨ k = 14 → h'.I (b + 72) k = h.I (b + 72) k) (T : TrayI b h') : Inv z0 h0 b c z h' :=
  I.gen hR (fun a ha => ⟨hI a (by unfold kW at ha; omega) (by unfold kW at ha; omega) (by unfold kW at ha; omega) (by unfold kW at ha; omega), hJ a (by unfold kW at ha; omega) (by unfold kW at ha; omega), by show h'.2.2 a = h.2.2 a; rw [hR]⟩) (hI _ (by omega) (by omega) (by omega) (by omega)) (hI _ (by omega) (by omega) (by omega) (by omega)) (fun k k1 k2 k3 k4 => hI _ (by omega) (by omega) (by omega) (by omega)) (fun k k1 k2 => hI _ (by omega) (by omega) (by omega) (by omega)) T (I.2.2.2.2.2.2.1.fr (congrFun (hI b (by omega) (by omega) (by omega) (by omega)) 1) (hI _ (by omega) (by omega) (by omega) (by omega)) (by rw [hI (b + 2) (by omega) (by omega) (by omega) (by omega)]) (by rw [hI (b + 2) (by omega) (by omega) (by omega) (by omega)]) (h72 5 (by omega)) (h72 13 (by omega)) (h72 14 (by omega)) (hI _ (by omega) (by omega) (by omega) (by omega)))
theorem numbers_64 (HM : LayR z h.2.2 (b + 72)) {t N : Nat} (ht : t < 4) (hN : N ≤ 40) (f : Nat → Int64) : ∀ (d j i : Nat), j + d = N → d < i → f_X12_numbers_64 n z i (h.rowJ (b + 91) (fun k => if 40 * t ≤ k ∧ k < 40 * t + j then 0 else f k)) (b + 72) (nI t) (nI N) (nI j) = some (0, h.rowJ (b + 91) (fun k => if 40 * t ≤ k ∧ k < 40 * t + N then 0 else f k)) := by
  intro d
  induction d with
  | zero =>
    intro j i hj hi
    obtain ⟨i, rfl⟩ : ∃ k, i = k + 1 := ⟨i - 1, by omega⟩
    obtain rfl : j = N := by omega
    rw [f_X12_numbers_64.eq_2, if_pos ((nI_leI (by omega) (by omega)).mpr (Nat.le_refl _))]
  | succ d ih =>
    intro j i hj hi
    obtain ⟨i, rfl⟩ : ∃ k, i = k + 1 := ⟨i - 1, by omega⟩
    have ih := ih (j + 1) i (by omega) (by omega)
    have HM1 : LayR z (h.rowJ (b + 91) (fun k => if 40 * t ≤ k ∧ k < 40 * t + j then 0 else f k)).2.2 (b + 72) := HM
    have e : vp_updL (fun k => if 40 * t ≤ k ∧ k < 40 * t + j then 0 else f k) (40 * t + j) 0 = (fun k => if 40 * t ≤ k ∧ k < 40 * t + (j + 1) then 0 else f k) := by
      funext k
      unfold vp_updL
      by_cases h1 : k = 40 * t + j
      · rw [if_pos h1, if_pos (by omega)]
      · rw [if_neg h1]
        dsimp only
        by_cases h2 : 40 * t ≤ k ∧ k < 40 * t + j
        · rw [if_pos h2, if_pos (by omega)]
        · rw [if_neg h2, if_neg (by omega)]
    rw [f_X12_numbers_64.eq_2, if_neg (fun q => by have := (nI_leI (by omega) (by omega)).mp q; omega), gR_ok (km_0 HM) (rm_35 HM1), bS, show (40 : Int32) = nI 40 from rfl, nI_mul, nI_add, sm_19 HM1 (by omega), bS, bS, rowJ_setJ, e, show nI j + 1 = nI (j + 1) from nI_add j 1]
    exact ih
theorem numbers_ok (I : Inv z0 h0 b c z h) (hn : 400000 ≤ n) (v s m : Int32) : ∃ r h1 h2, f_X11_numbers n z h b v s m = some (r, h1) ∧ f_X12_numbers n z h1 (b + 72) v s m = some (r, h2) ∧ Inv z0 h0 b c z h2 := by
  have HX := I.2.1
  have HM := I.2.2.1
  have HTr : TrayI b h := I.2.2.2.2.2.1
  have km := km_0 HM
  have i0 : ∀ x : Int32, (x < 0) ↔ (x.toInt < 0) := fun x => by rw [lt_iff]; rfl
  have is3 : (s ≤ 3) ↔ (s.toInt ≤ 3) := by rw [le_iff]; rfl
  have im : (m ≤ 40) ↔ (m.toInt ≤ 40) := by rw [le_iff]; rfl
  have W3 : ∀ (g : Hp) (x : Int32), f_X12_within z g (Int32.toInt64 x) 0 3 = some (if 0 ≤ x.toInt ∧ x.toInt ≤ 3 then 1 else 0) := fun g x => by
    rw [within_ok, to64]
    rfl
  have W40 : ∀ (g : Hp) (x : Int32), f_X12_within z g (Int32.toInt64 x) 0 40 = some (if 0 ≤ x.toInt ∧ x.toInt ≤ 40 then 1 else 0) := fun g x => by
    rw [within_ok, to64]
    rfl
  unfold f_X11_numbers f_X11_numbers_21 f_X11_numbers_36
  rw [if_pos (kx_0 HX), trayAt_ok HX, bS]
  by_cases c1 : 0 ≤ v.toInt ∧ v.toInt < 4
  · rw [if_pos c1]
    obtain ⟨t, ht, rfl⟩ := nI_ex (P := 4) c1
    have et : (nI t).toInt = t := nI_to (by omega)
    rw [et, Int.toNat_natCast]
    dsimp only
    by_cases cs : 0 ≤ s.toInt ∧ s.toInt ≤ 3
    · rw [if_neg (fun q => by have := (i0 s).mp q; omega), if_pos (is3.mpr cs.2)]
      by_cases cm : 0 ≤ m.toInt ∧ m.toInt ≤ 40
      · rw [if_neg (fun q => by have := (i0 m).mp q; omega), if_pos (im.mpr cm.2)]
        obtain ⟨so, hso, rfl⟩ := nI_ex (x := s) (P := 4) (by omega)
        obtain ⟨N, hN, rfl⟩ := nI_ex (x := m) (P := 41) (by omega)
        obtain ⟨k1, k2, k3, k4⟩ := tray_K HX ht
        have mk : f_X9_make n z h (b + 64 + 2 * t) (nI so) (nI N) = some (((h.rowJ (b + 65 + 2 * t) (flJ (h.J (b + 65 + 2 * t)) 0 40))).rowI (b + 64 + 2 * t) (upd (upd (upd (h.I (b + 64 + 2 * t)) 1 1) 2 (nI so)) 3 (nI N))) := by
          unfold f_X9_make
          rw [if_pos k1, gR_ok k1 k2, bS, fillJ_ok k3 k4 (by omega) (by omega), bS, pZ_ok k1 (Or.inr rfl), bS, pI_ok k1, bS, pI_ok k1, bS, setI_row, setI_row, rowI_I, rowI_rowI, setI_row, rowI_I, rowI_rowI]
          rfl
        rw [mk, bS]
        have a1 : ∀ a, a ≠ b + 64 + 2 * t → ((h.rowJ (b + 65 + 2 * t) (flJ (h.J (b + 65 + 2 * t)) 0 40)).rowI (b + 64 + 2 * t) (upd (upd (upd (h.I (b + 64 + 2 * t)) 1 1) 2 (nI so)) 3 (nI N))).I a = h.I a := fun a ha => rowI_ne _ _ ha
        have a2 : ((h.rowJ (b + 65 + 2 * t) (flJ (h.J (b + 65 + 2 * t)) 0 40)).rowI (b + 64 + 2 * t) (upd (upd (upd (h.I (b + 64 + 2 * t)) 1 1) 2 (nI so)) 3 (nI N))).I (b + 64 + 2 * t) = upd (upd (upd (h.I (b + 64 + 2 * t)) 1 1) 2 (nI so)) 3 (nI N) := rowI_I _ _ _
        have a3 : ∀ a, a ≠ b + 65 + 2 * t → ((h.rowJ (b + 65 + 2 * t) (flJ (h.J (b + 65 + 2 * t)) 0 40)).rowI (b + 64 + 2 * t) (upd (upd (upd (h.I (b + 64 + 2 * t)) 1 1) 2 (nI so)) 3 (nI N))).J a = h.J a := fun a ha => rowJ_ne _ _ ha
        have a4 : ((h.rowJ (b + 65 + 2 * t) (flJ (h.J (b + 65 + 2 * t)) 0 40)).rowI (b + 64 + 2 * t) (upd (upd (upd (h.I (b + 64 + 2 * t)) 1 1) 2 (nI so)) 3 (nI N))).J (b + 65 + 2 * t) = flJ (h.J (b + 65 + 2 * t)) 0 40 := rowJ_J _ _ _
        have a5 : ((h.rowJ (b + 65 + 2 * t) (flJ (h.J (b + 65 + 2 * t)) 0 40)).rowI (b + 64 + 2 * t) (upd (upd (upd (h.I (b + 64 + 2 * t)) 1 1) 2 (nI so)) 3 (nI N))).2.2 = h.2.2 := rfl
        generalize (h.rowJ (b + 65 + 2 * t) (flJ (h.J (b + 65 + 2 * t)) 0 40)).rowI (b + 64 + 2 * t) (upd (upd (upd (h.I (b + 64 + 2 * t)) 1 1) 2 (nI so)) 3 (nI N)) = g at *
        have HM1 : LayR z g.2.2 (b + 72) := by rw [a5]; exact HM
        have HM2 : LayR z (g.setI (b + 72) 0 0).2.2 (b + 72) := HM1
        have HM3 : LayR z ((g.setI (b + 72) 0 0).setI (b + 89) t (nI so)).2.2 (b + 72) := HM1
        have HM4 : LayR z (((g.setI (b + 72) 0 0).setI (b + 89) t (nI so)).setI (b + 90) t (nI N)).2.2 (b + 72) := HM1
        have nl := numbers_64 (n := n) (z := z) (h := ((g.setI (b + 72) 0 0).setI (b + 89) t (nI so)).setI (b + 90) t (nI N)) HM4 ht (show N ≤ 40 by omega) (g.J (b + 91)) N 0 n (by omega) (by omega)
        rw [show (fun k => if 40 * t ≤ k ∧ k < 40 * t + 0 then 0 else g.J (b + 91) k) = (((g.setI (b + 72) 0 0).setI (b + 89) t (nI so)).setI (b + 90) t (nI N)).J (b + 91) from by
          funext k
          rw [if_neg (by omega)]
          rfl, rowJ_self] at nl
        refine two_go (y := fun g => f_X12_numbers n z g (b + 72) (nI t) (nI so) (nI N)) rfl ⟨(((g.setI (b + 72) 0 0).setI (b + 89) t (nI so)).setI (b + 90) t (nI N)).rowJ (b + 91) (fun k => if 40 * t ≤ k ∧ k < 40 * t + N then 0 else g.J (b + 91) k), ?_, ?_⟩
        · unfold f_X12_numbers
          rw [if_pos km, pI_ok km, bS, W3, bS, if_pos (show 0 ≤ (nI t).toInt ∧ (nI t).toInt ≤ 3 by omega), if_neg (by decide), W3, bS, if_pos cs, if_neg (by decide), W40, bS, if_pos cm, if_neg (by decide), gR_ok km (rm_33 HM2), bS, sm_17 HM2 ht, bS, gR_ok km (rm_34 HM3), bS, sm_18 HM3 ht, bS]
          exact nl
        · have b1 : ∀ a, a ≠ b + 72 → a ≠ b + 89 → a ≠ b + 90 → ((((g.setI (b + 72) 0 0).setI (b + 89) t (nI so)).setI (b + 90) t (nI N)).rowJ (b + 91) (fun k => if 40 * t ≤ k ∧ k < 40 * t + N then 0 else g.J (b + 91) k)).I a = g.I a := fun a e1 e2 e3 => by
            show (((g.setI (b + 72) 0 0).setI (b + 89) t (nI so)).setI (b + 90) t (nI N)).I a = g.I a
            rw [setI_row, rowI_ne _ _ e3, setI_row, rowI_ne _ _ e2, setI_row, rowI_ne _ _ e1]
          have b2 : ∀ a, a ≠ b + 91 → ((((g.setI (b + 72) 0 0).setI (b + 89) t (nI so)).setI (b + 90) t (nI N)).rowJ (b + 91) (fun k => if 40 * t ≤ k ∧ k < 40 * t + N then 0 else g.J (b + 91) k)).J a = g.J a := fun a e1 => rowJ_ne _ _ e1
          have b3 : ((((g.setI (b + 72) 0 0).setI (b + 89) t (nI so)).setI (b + 90) t (nI N)).rowJ (b + 91) (fun k => if 40 * t ≤ k ∧ k < 40 * t + N then 0 else g.J (b + 91) k)).J (b + 91) = (fun k => if 40 * t ≤ k ∧ k < 40 * t + N then 0 else g.J (b + 91) k) := rowJ_J _ _ _
          have b4 : ((((g.setI (b + 72) 0 0).setI (b + 89) t (nI so)).setI (b + 90) t (nI N)).rowJ (b + 91) (fun k => if 40 * t ≤ k ∧ k < 40 * t + N then 0 else g.J (b + 91) k)).I (b + 89) = upd (h.I (b + 89)) t (nI so) := by
            show (((g.setI (b + 72) 0 0).setI (b + 89) t (nI so)).setI (b + 90) t (nI N)).I (b + 89) = _
            rw [setI_row, rowI_ne _ _ (by omega), setI_row, rowI_I, setI_row, rowI_ne _ _ (by omega), a1 _ (by omega)]
          have b5 : ((((g.setI (b + 72) 0 0).setI (b + 89) t (nI so)).setI (b + 90) t (nI N)).rowJ (b + 91) (fun k => if 40 * t ≤ k ∧ k < 40 * t + N then 0 else g.J (b + 91) k)).I (b + 90) = upd (h.I (b + 90)) t (nI N) := by
            show (((g.setI (b + 72) 0 0).setI (b + 89) t (nI so)).setI (b + 90) t (nI N)).I (b + 90) = _
            rw [setI_row, rowI_I, setI_row, rowI_ne _ _ (by omega), setI_row, rowI_ne _ _ (by omega), a1 _ (by omega)]
          have b6 : ∀ k, k ≠ 0 → ((((g.setI (b + 72) 0 0).setI (b + 89) t (nI so)).setI (b + 90) t (nI N)).rowJ (b + 91) (fun k => if 40 * t ≤ k ∧ k < 40 * t + N then 0 else g.J (b + 91) k)).I (b + 72) k = h.I (b + 72) k := fun k hk => by
            show (((g.setI (b + 72) 0 0).setI (b + 89) t (nI so)).setI (b + 90) t (nI N)).I (b + 72) k = _
            rw [setI_row, rowI_ne _ _ (by omega), setI_row, rowI_ne _ _ (by omega), setI_row, rowI_I, upd, if_neg hk, a1 _ (by omega)]
          have b7 : ((((g.setI (b + 72) 0 0).setI (b + 89) t (nI so)).setI (b + 90) t (nI N)).rowJ (b + 91) (fun k => if 40 * t ≤ k ∧ k < 40 * t + N then 0 else g.J (b + 91) k)).2.2 = h.2.2 := a5
          generalize (((g.setI (b + 72) 0 0).setI (b + 89) t (nI so)).setI (b + 90) t (nI N)).rowJ (b + 91) (fun k => if 40 * t ≤ k ∧ k < 40 * t + N then 0 else g.J (b + 91) k) = g2 at *
          refine I.trayed b7 (fun a k1 k2 k3 k4 => (b1 a k2 k3 k4).trans (a1 a (by omega))) (fun a k1 k2 => (b2 a k2).trans (a3 a (by omega))) (fun k hk => b6 k (by omega)) (fun i hi => ?_)
          rw [b4, b5, b3]
          by_cases e : i = t
          · subst e
            rw [b1 _ (by omega) (by omega) (by omega), b2 _ (by omega), a2, a4]
            refine Or.inr ⟨?_, so, N, by omega, by omega, ?_, ?_, ?_, ?_, fun j hj => ?_⟩
            · rw [upd, if_neg (by omega), upd, if_neg (by omega), upd, if_pos rfl]
              rfl
            · rw [upd, if_pos rfl]
            · rw [upd, if_neg (by omega), upd, if_pos rfl]
            · rw [upd, if_pos rfl]
            · rw [upd, if_pos rfl]
            · rw [flJ, if_pos (by omega)]
              dsimp only
              rw [if_pos (by omega)]
          · rw [b1 _ (by omega) (by omega) (by omega), b2 _ (by omega), a1 _ (by omega), a3 _ (by omega)]
            rcases HTr i hi with ⟨q1, q2⟩ | ⟨q1, so', sz', q2, q3, q4, q5, q6, q7, q8⟩
            · exact Or.inl ⟨q1, by rw [upd, if_neg e]; exact q2⟩
            · refine Or.inr ⟨q1, so', sz', q2, q3, by rw [upd, if_neg e]; exact q4, q5, by rw [upd, if_neg e]; exact q6, q7, fun j hj => ?_⟩
              dsimp only
              rw [if_neg (by omega), a3 _ (by omega)]
              exact q8 j hj
      · have key : ∀ {α : Type} (x y : α), (if m < 0 then x else if m ≤ 40 then y else x) = x := fun x y => by
          by_cases d : m < 0
          · rw [if_pos d]
          · rw [if_neg d, if_neg (fun q => cm ⟨by have d' : ¬ m.toInt < 0 := fun q => d ((i0 m).mpr q); omega, im.mp q⟩)]
        rw [key, f_X11_refused, bS]
        refine two_go (y := fun g => f_X12_numbers n z g (b + 72) (nI t) s m) rfl ⟨h.setI (b + 72) 0 0, ?_, ref_sc I 0⟩
        unfold f_X12_numbers
        rw [if_pos km, pI_ok km, bS, W3, bS, if_pos (show 0 ≤ (nI t).toInt ∧ (nI t).toInt ≤ 3 by omega), if_neg (by decide), W3, bS, if_pos cs, if_neg (by decide), W40, bS, if_neg cm, if_pos rfl]
        rfl
    · have key : ∀ {α : Type} (x y : α), (if s < 0 then x else if s ≤ 3 then y else x) = x := fun x y => by
        by_cases d : s < 0
        · rw [if_pos d]
        · rw [if_neg d, if_neg (fun q => cs ⟨by have d' : ¬ s.toInt < 0 := fun q => d ((i0 s).mpr q); omega, is3.mp q⟩)]
      rw [key, f_X11_refused, bS]
      refine two_go (y := fun g => f_X12_numbers n z g (b + 72) (nI t) s m) rfl ⟨h.setI (b + 72) 0 0, ?_, ref_sc I 0⟩
      unfold f_X12_numbers
      rw [if_pos km, pI_ok km, bS, W3, bS, if_pos (show 0 ≤ (nI t).toInt ∧ (nI t).toInt ≤ 3 by omega), if_neg (by decide), W3, bS, if_neg cs, if_pos rfl]
      rfl
  · rw [if_neg c1]
    dsimp only
    rw [f_X11_refused, bS]
    refine two_go (y := fun g => f_X12_numbers n z g (b + 72) v s m) rfl ⟨h.setI (b + 72) 0 0, ?_, ref_sc I 0⟩
    unfold f_X12_numbers
    rw [if_pos km, pI_ok km, bS, W3, bS, if_neg (show ¬ (0 ≤ v.toInt ∧ v.toInt ≤ 3) by omega), if_pos rfl]
    rfl
/-- a number cut to its sort -/
def cutV (so : Nat) (v : Int64) : Int64 := if so = 0 then Int32.toInt64 ((Int32.toInt8 (Int64.toInt32 v)).toInt32) else if so = 1 then Int32.toInt64 ((Int32.toInt16 (Int64.toInt32 v)).toInt32) else if so = 2 then Int32.toInt64 (Int64.toInt32 v) else v
theorem cut_c {o so : Nat} (hK : z.K o = 9) (h2 : h.I o 2 = nI so) (hs : so ≤ 3) (v : Int64) : f_X9_cut z h o v = some (cutV so v) := by
  unfold f_X9_cut cutV
  rw [if_pos hK, gI_ok hK, bS, h2, bS, bS]
  have e : ∀ k : Nat, k < 4 → (nI so = nI k ↔ so = k) := fun k hk => nI_inj (by omega) (by omega)
  by_cases c0 : so = 0
  · rw [if_pos (show nI so = (0 : Int32) from (e 0 (by omega)).mpr c0), if_pos c0]
  · rw [if_neg (show ¬ nI so = (0 : Int32) from fun q => c0 ((e 0 (by omega)).mp q)), if_neg c0]
    by_cases c1 : so = 1
    · rw [if_pos (show nI so = (1 : Int32) from (e 1 (by omega)).mpr c1), if_pos c1]
    · rw [if_neg (show ¬ nI so = (1 : Int32) from fun q => c1 ((e 1 (by omega)).mp q)), if_neg c1]
      by_cases c2 : so = 2
      · rw [if_pos (show nI so = (2 : Int32) from (e 2 (by omega)).mpr c2), if_pos c2]
      · rw [if_neg (show ¬ nI so = (2 : Int32) from fun q => c2 ((e 2 (by omega)).mp q)), if_neg c2]
theorem cut_m {so : Nat} (hs : so ≤ 3) (v : Int64) : f_X12_cut z h v (nI so) = some (cutV so v) := by
  unfold f_X12_cut cutV
  have e : ∀ k : Nat, k < 4 → (nI so = nI k ↔ so = k) := fun k hk => nI_inj (by omega) (by omega)
  by_cases c0 : so = 0
  · rw [if_pos (show nI so = (0 : Int32) from (e 0 (by omega)).mpr c0), if_pos c0]
  · rw [if_neg (show ¬ nI so = (0 : Int32) from fun q => c0 ((e 0 (by omega)).mp q)), if_neg c0]
    by_cases c1 : so = 1
    · rw [if_pos (show nI so = (1 : Int32) from (e 1 (by omega)).mpr c1), if_pos c1]
    · rw [if_neg (show ¬ nI so = (1 : Int32) from fun q => c1 ((e 1 (by omega)).mp q)), if_neg c1]
      by_cases c2 : so = 2
      · rw [if_pos (show nI so = (2 : Int32) from (e 2 (by omega)).mpr c2), if_pos c2]
      · rw [if_neg (show ¬ nI so = (2 : Int32) from fun q => c2 ((e 2 (by omega)).mp q)), if_neg c2]
theorem tput_ok {o ro sz so : Nat} {vs : Nat → Int64} (H : TC z h o ro sz vs) (h2 : h.I o 2 = nI so) (hs : so ≤ 3) {j : Nat} (hj : j < sz) (v : Int64) : f_X9_put z h o (nI j) v = some (h.setJ ro j (cutV so v)) := by
  obtain ⟨k1, k2, k3, k4, k5, k6, k7⟩ := H
  unfold f_X9_put
  rw [if_pos k1, if_neg (nI_pos (by omega)), gI_ok k1, bS, k5, if_neg (fun q => by have := (nI_leI (by omega) (by omega)).mp q; omega), gR_ok k1 k2, bS, aL_ok k3 rfl k4, bS, if_neg (fun q => by have := (nI_leI (by omega) (by omega)).mp q; omega), bS, cut_c k1 h2 hs, bS, stJ_ok k3 k4 rfl (show j < 40 by omega) (by omega), bS]
/-- one number on both sides -/
theorem TrayI.put {h' : Hp} (HT : TrayI b h) {i so sz j : Nat} (hi : i < 4) (h1 : h.I (b + 64 + 2 * i) 1 = nI 1) (hso : so ≤ 3) (hsz : sz ≤ 40) (h2 : h.I (b + 89) i = nI so) (h3 : h.I (b + 64 + 2 * i) 2 = nI so) (h4 : h.I (b + 90) i = nI sz) (h5 : h.I (b + 64 + 2 * i) 3 = nI sz) (hv : ∀ j, j < sz → h.J (b + 65 + 2 * i) j = h.J (b + 91) (40 * i + j)) (hj : j < sz) {v : Int64} (eI : ∀ a, b + 64 ≤ a → a < b + 72 → h'.I a = h.I a) (e89 : h'.I (b + 89) = h.I (b + 89)) (e90 : h'.I (b + 90) = h.I (b + 90)) (eJ : ∀ a, b + 64 ≤ a → a < b + 72 → a ≠ b + 65 + 2 * i → h'.J a = h.J a) (eJ1 : h'.J (b + 65 + 2 * i) = vp_updL (h.J (b + 65 + 2 * i)) j v) (eJ2 : h'.J (b + 91) = vp_updL (h.J (b + 91)) (40 * i + j) v) : TrayI b h' := by
  intro i' hi'
  rw [e89, e90, eJ2, eI _ (by omega) (by omega)]
  by_cases e : i' = i
  · subst e
    rw [eJ1]
    refine Or.inr ⟨h1, so, sz, hso, hsz, h2, h3, h4, h5, fun j' hj' => ?_⟩
    unfold vp_updL
    by_cases ej : j' = j
    · rw [if_pos ej, if_pos (by omega)]
    · rw [if_neg ej, if_neg (by omega)]
      exact hv j' hj'
  · rw [eJ _ (by omega) (by omega) (by omega)]
    rcases HT i' hi' with ⟨q1, q2⟩ | ⟨q1, so', sz', q2, q3, q4, q5, q6, q7, q8⟩
    · exact Or.inl ⟨q1, q2⟩
    · refine Or.inr ⟨q1, so', sz', q2, q3, q4, q5, q6, q7, fun j' hj' => ?_⟩
      unfold vp_updL
      rw [if_neg (by omega)]
      exact q8 j' hj'
theorem write_ok (I : Inv z0 h0 b c z h) (v k : Int32) (x : Int64) : ∃ r h1 h2, f_X11_write z h b v k x = some (r, h1) ∧ f_X12_write z h1 (b + 72) v k x = some (r, h2) ∧ Inv z0 h0 b c z h2 := by
  have HX := I.2.1
  have HM := I.2.2.1
  have HTr : TrayI b h := I.2.2.2.2.2.1
  have km := km_0 HM
  have HM1 : LayR z (h.setI (b + 72) 0 0).2.2 (b + 72) := HM
  have e89 : ∀ g : Hp, (g.setI (b + 72) 0 0).I (b + 89) = g.I (b + 89) := fun g => rowI_ne g _ (by omega)
  have e90 : ∀ g : Hp, (g.setI (b + 72) 0 0).I (b + 90) = g.I (b + 90) := fun g => rowI_ne g _ (by omega)
  unfold f_X11_write f_X11_write_46
  rw [if_pos (kx_0 HX), trayAt_ok HX, bS]
  by_cases c1 : 0 ≤ v.toInt ∧ v.toInt < 4
  · rw [if_pos c1]
    obtain ⟨i, hi, rfl⟩ := nI_ex (P := 4) c1
    have ei : (nI i).toInt = i := nI_to (by omega)
    rw [ei, Int.toNat_natCast]
    dsimp only
    rw [gI_ok (tray_K HX hi).1, bS]
    rcases tray_in HX HTr hi with ⟨t1, t2⟩ | ⟨t1, so, m, t2, t3, t4, t5, t6, t7⟩
    · rw [t1, if_pos (show nI 0 = (0 : Int32) from rfl), f_X11_refused, bS]
      refine two_go (y := fun g => f_X12_write z g (b + 72) (nI i) k x) rfl ⟨h.setI (b + 72) 0 0, ?_, ref_sc I 0⟩
      unfold f_X12_write
      rw [if_pos km, pI_ok km, bS, noTray_ok HM1, bS, if_pos c1, ei, Int.toNat_natCast, e89, t2, if_pos rfl, if_neg (by decide)]
      rfl
    · have hm1 : (Int32.toInt64 (nI m - 1)).toInt = (m : Int) - 1 := by
        rw [to64]
        exact nIm1 (by omega)
      have nT : ∀ g : Hp, LayR z g.2.2 (b + 72) → g.I (b + 89) i = nI so → f_X12_noTray z g (b + 72) (nI i) = some 0 := fun g HG hg => by
        rw [noTray_ok HG, if_pos c1, ei, Int.toNat_natCast, hg, if_neg (nI_m1' t2)]
      rw [t1, if_neg (by decide), gI_ok (tray_K HX hi).1, bS, t7.2.2.2.2.1]
      by_cases ck : 0 ≤ k.toInt ∧ k.toInt < m
      · obtain ⟨j, hj, rfl⟩ := nI_ex (x := k) (P := m) ck
        have ej : (nI j).toInt = j := nI_to (by omega)
        rw [if_neg (nI_pos (by omega)), if_pos ((nI_lt2 (by omega) (by omega)).mpr hj), tput_ok t7 t6 t2 hj, bS]
        have TC2 : TC z (h.setJ (b + 65 + 2 * i) j (cutV so x)) (b + 64 + 2 * i) (b + 65 + 2 * i) m (fun a => vp_updL (h.J (b + 65 + 2 * i)) j (cutV so x) a) := by
          obtain ⟨q1, q2, q3, q4, q5, q6, q7⟩ := t7
          exact ⟨q1, q2, q3, q4, q5, q6, fun a ha => by rw [setJ_J, if_pos rfl]⟩
        rw [num_ok TC2 hj, bS, vp_updL, if_pos rfl]
        have HM2 : LayR z ((h.setJ (b + 65 + 2 * i) j (cutV so x)).setI (b + 72) 0 0).2.2 (b + 72) := HM
        have HM3 : LayR z (((h.setJ (b + 65 + 2 * i) j (cutV so x)).setI (b + 72) 0 0).setJ (b + 91) (40 * i + j) (cutV so x)).2.2 (b + 72) := HM
        have d90 : ((h.setJ (b + 65 + 2 * i) j (cutV so x)).setI (b + 72) 0 0).I (b + 90) i = nI m := by
          rw [e90]
          exact t5
        have d89 : ((h.setJ (b + 65 + 2 * i) j (cutV so x)).setI (b + 72) 0 0).I (b + 89) i = nI so := by
          rw [e89]
          exact t4
        refine two_go (y := fun g => f_X12_write z g (b + 72) (nI i) (nI j) x) rfl ⟨((h.setJ (b + 65 + 2 * i) j (cutV so x)).setI (b + 72) 0 0).setJ (b + 91) (40 * i + j) (cutV so x), ?_, ?_⟩
        · unfold f_X12_write
          rw [if_pos km, pI_ok km, bS, nT _ HM2 d89, bS, if_pos rfl, gR_ok km (rm_34 HM2), bS, lm_18 HM2 hi, bS, d90, within_ok, hm1, to64, show (0 : Int64).toInt = 0 from rfl, if_pos (show 0 ≤ (nI j).toInt ∧ (nI j).toInt ≤ (m : Int) - 1 by omega), bS, if_neg (by decide), gR_ok km (rm_35 HM2), bS, gR_ok km (rm_33 HM2), bS, lm_17 HM2 hi, bS, d89, cut_m t2, bS, show (40 : Int32) = nI 40 from rfl, nI_mul, nI_add, sm_19 HM2 (by omega), bS, gR_ok km (rm_35 HM3), bS, lm_19 HM3 (by omega), bS, setJ_J, if_pos rfl, vp_updL, if_pos rfl]
        · have jj : ∀ a, a ≠ b + 91 → (((h.setJ (b + 65 + 2 * i) j (cutV so x)).setI (b + 72) 0 0).setJ (b + 91) (40 * i + j) (cutV so x)).J a = (h.setJ (b + 65 + 2 * i) j (cutV so x)).J a := fun a ha => by
            rw [setJ_J, if_neg ha]
            rfl
          have ii : ∀ a, a ≠ b + 72 → (((h.setJ (b + 65 + 2 * i) j (cutV so x)).setI (b + 72) 0 0).setJ (b + 91) (40 * i + j) (cutV so x)).I a = h.I a := fun a ha => rowI_ne (h.setJ (b + 65 + 2 * i) j (cutV so x)) _ ha
          refine I.trayed rfl (fun a k1 k2 k3 k4 => ii a k2) (fun a k1 k2 => by rw [jj a k2, setJ_J, if_neg (by omega)]) (fun k hk => ?_) ?_
          · show ((h.setJ (b + 65 + 2 * i) j (cutV so x)).setI (b + 72) 0 0).I (b + 72) k = _
            rw [setI_I, if_pos rfl, upd, if_neg (by omega)]
            rfl
          · refine HTr.put (i := i) (so := so) (sz := m) (j := j) (v := cutV so x) hi t1 t2 t3 t4 t6 t5 t7.2.2.2.2.1 t7.2.2.2.2.2.2 hj (fun a k1 k2 => ii a (by omega)) (ii _ (by omega)) (ii _ (by omega)) (fun a k1 k2 k3 => by rw [jj a (by omega), setJ_J, if_neg k3]) ?_ ?_
            · rw [jj _ (by omega), setJ_J, if_pos rfl]
            · rw [setJ_J, if_pos rfl]
              show vp_updL ((h.setJ (b + 65 + 2 * i) j (cutV so x)).J (b + 91)) _ _ = _
              rw [setJ_J, if_neg (by omega)]
      · have key : ∀ {α : Type} (x y : α), (if k < 0 then x else if k < nI m then y else x) = x := fun x y => by
          by_cases d : k < 0
          · rw [if_pos d]
          · rw [if_neg d, if_neg (fun q => ck ⟨by have d' : ¬ k.toInt < 0 := fun q => d (by rw [lt_iff]; exact q); omega, by have := (lt_iff _ _).mp q; rw [nI_to (by omega)] at this; exact this⟩)]
        rw [key, f_X11_refused, bS]
        refine two_go (y := fun g => f_X12_write z g (b + 72) (nI i) k x) rfl ⟨h.setI (b + 72) 0 0, ?_, ref_sc I 0⟩
        unfold f_X12_write
        rw [if_pos km, pI_ok km, bS, nT _ HM1 (by rw [e89]; exact t4), bS, if_pos rfl, gR_ok km (rm_34 HM1), bS, lm_18 HM1 hi, bS, e90, t5, within_ok, hm1, to64, show (0 : Int64).toInt = 0 from rfl, if_neg (show ¬ (0 ≤ k.toInt ∧ k.toInt ≤ (m : Int) - 1) by omega), bS, if_pos rfl]
        rfl
  · rw [if_neg c1]
    dsimp only
    rw [f_X11_refused, bS]
    refine two_go (y := fun g => f_X12_write z g (b + 72) v k x) rfl ⟨h.setI (b + 72) 0 0, ?_, ref_sc I 0⟩
    unfold f_X12_write
    rw [if_pos km, pI_ok km, bS, noTray_ok HM1, bS, if_neg c1, if_neg (by decide)]
    rfl
end
