/-! ===== worths, remembered ===== -/
section
variable {n : Nat} {z0 : Sh} {b c : Nat} {z : Sh} {h : Hp} {wt : Nat} {ω : TT} {tal : Nat} {md : Bool} {st ts : Nat}
/-- rows of no consequence to ways -/
theorem WayD.scr (W : WayD z0 b c z h wt ω tal md st ts) {h' : Hp} (hR : h'.2.2 = h.2.2) (hJ : ∀ a, h'.J a = h.J a) (hI : ∀ a, a ≠ b + 41 → a ≠ b + 42 → h'.I a = h.I a) : WayD z0 b c z h' wt ω tal md st ts ∧ WE b st z h z h' := by
  have RR : ∀ a, h'.R a = h.R a := fun a => by
    show h'.2.2 a = h.2.2 a
    rw [hR]
  obtain ⟨⟨HX, HR, w3, w4, w5, w6, w7⟩, ⟨w8, w9, w10, w11⟩, ⟨w12, w13, w14, w15⟩, w16, ⟨w17, w18⟩, w19, w20⟩ := W
  have hb : b + 92 ≤ z.sz := HR.1
  have E : Ex b z h z h' := ⟨⟨Nat.le_refl _, Nat.le_refl _⟩, fun _ _ => ⟨rfl, rfl⟩, fun _ => rfl, fun a _ k1 k2 _ _ _ _ _ => hI a k1 k2, fun a _ _ _ => hJ a, fun a _ _ _ _ => RR a⟩
  have i44 : h'.I (b + 44) = h.I (b + 44) := hI _ (by omega) (by omega)
  refine ⟨⟨⟨by rw [hR]; exact HX, ?_, w3, w4, w5, w6, w7⟩, ⟨by rw [RR]; exact w8, (w9.ex hb E).1, w10, w11⟩, ⟨by rw [i44]; exact w12, by rw [i44]; exact w13, by rw [i44]; exact w14, by rw [i44]; exact w15⟩, by rw [hI _ (by omega) (by omega)]; exact w16, ⟨by rw [hJ]; exact w17, by rw [hJ]; exact w18⟩, ?_, ?_⟩, E, fun c q => by rw [hJ]; exact q, i44, hI _ (by omega) (by omega), hI _ (by omega) (by omega), fun mo q => by rw [RR]; exact q⟩
  · unfold RoomI at HR ⊢
    rw [RR, RR]
    exact HR
  · intro k hk mo hm
    rw [RR] at hm
    obtain ⟨m1, m2, m3, m4, m5, m6, m7, m8, m9⟩ := w19 k hk mo hm
    exact ⟨m1, m2, m3, by rw [RR]; exact m4, m5, m6, by rw [hJ]; exact m7, fun k' hk' q => by rw [RR] at q; exact m8 k' hk' q, by rw [RR]; exact m9⟩
  · intro mo hm
    rw [RR] at hm
    obtain ⟨m1, m2, m3, m4, m5, m6, m7, m8⟩ := w20 mo hm
    exact ⟨m1, m2, m3, by rw [RR]; exact m4, m5, m6, by rw [hI _ (by omega) (by omega)]; exact m7, by rw [hJ]; exact m8⟩
/-- a number is laid down in a talent's memo -/
theorem WayD.setW (W : WayD z0 b c z h wt ω tal md st ts) {mo at_ v : Nat} (hm : h.R (b + 45) tal = some mo) (hv : v < 281474976710656) (hV : worthP ω tal at_ v) : WayD z0 b c z (h.setJ (mo + 1) at_ (lI ((ts : Int) * 281474976710656 + v))) wt ω tal md st ts ∧ WE b st z h z (h.setJ (mo + 1) at_ (lI ((ts : Int) * 281474976710656 + v))) := by
  obtain ⟨⟨HX, HR, w3, w4, w5, w6, w7⟩, ⟨w8, w9, w10, w11⟩, ⟨w12, w13, w14, w15⟩, w16, ⟨w17, w18⟩, w19, w20⟩ := W
  have hb : b + 92 ≤ z.sz := HR.1
  obtain ⟨q1, q2, q3, q4, q5, q6, q7, q8, q9⟩ := w19 tal (by omega) mo hm
  have hJ : ∀ a, a ≠ mo + 1 → (h.setJ (mo + 1) at_ (lI ((ts : Int) * 281474976710656 + v))).J a = h.J a := fun a ha => by rw [setJ_J, if_neg ha]
  have E : Ex b z h z (h.setJ (mo + 1) at_ (lI ((ts : Int) * 281474976710656 + v))) := ⟨⟨Nat.le_refl _, Nat.le_refl _⟩, fun _ _ => ⟨rfl, rfl⟩, fun _ => rfl, fun _ _ _ _ _ _ _ _ _ => rfl, fun a ha _ _ => hJ a (by omega), fun _ _ _ _ _ => rfl⟩
  refine ⟨⟨⟨HX, HR, w3, w4, w5, w6, w7⟩, ⟨w8, (w9.ex hb E).1, w10, w11⟩, ⟨w12, w13, w14, w15⟩, w16, ⟨by rw [hJ _ (by omega)]; exact w17, by rw [hJ _ (by omega)]; exact w18⟩, ?_, ?_⟩, E, fun c q => by rw [hJ _ (by omega)]; exact q, rfl, rfl, rfl, fun _ q => q⟩
  · intro k hk mo' hm'
    obtain ⟨m1, m2, m3, m4, m5, m6, m7, m8, m9⟩ := w19 k hk mo' hm'
    refine ⟨m1, m2, m3, m4, m5, m6, ?_, m8, m9⟩
    by_cases e : mo' = mo
    · subst e
      have : k = tal := q8 k hk hm'
      subst this
      rw [setJ_J, if_pos rfl]
      exact m7.up (by omega) hv hV
    · rw [hJ _ (by omega)]
      exact m7
  · intro mo' hm'
    obtain ⟨m1, m2, m3, m4, m5, m6, m7, m8⟩ := w20 mo' hm'
    have e : mo' ≠ mo := fun q => by
      rw [q] at hm'
      exact q9 hm'
    exact ⟨m1, m2, m3, m4, m5, m6, m7, by rw [hJ _ (by omega)]; exact m8⟩
theorem turn_ok (HX : LayX z h.2.2 b) (hω : TownOK ω) {s : Nat} (hs : SV ω s) (h5 : h.I (b + 44) 5 = nI tal) : ∃ F, f_X10_turnTo z h (b + 44) (nI (enc s)) = some (h.rowI (b + 41) F) ∧ ∀ t k, k < 7 → k ≠ 2 → F k = iI (fcW tal s t k) := by
  obtain ⟨a1, a2, a3, a4⟩ := e_bd hω hs
  obtain ⟨h1, h2, h3, h4⟩ := SV_rng hω hs
  have hK := kx_44 HX
  have ld : ∀ {f : Nat → Int32} {j : Nat} {x : Int32}, j < 7 → stI z (h.rowI (b + 41) f) (b + 41) (nI j) x = some (h.rowI (b + 41) (upd f j x)) := fun {f j x} hj => by
    rw [stI_ok (kx_41 HX) (nx_41 HX) rfl hj (by omega), rowI_setI]
  have fa : ∀ t k, k < 7 → k ≠ 2 → (upd (upd (upd (upd (upd (upd (h.I (b + 41)) 0 (nI tal)) 1 (nI (sY s))) 3 (nI (sA s))) 4 (nI (sT s))) 5 (nI (sL s))) 6 (nI (sO s))) k = iI (fcW tal s t k) := by
    intro t k hk hk2
    match k, hk, hk2 with
    | 0, _, _ => exact nI_iI _
    | 1, _, _ => exact nI_iI _
    | 3, _, _ => exact nI_iI _
    | 4, _, _ => exact nI_iI _
    | 5, _, _ => exact nI_iI _
    | 6, _, _ => exact nI_iI _
    | 2, _, h2 => exact absurd rfl h2
    | k + 7, hk, _ => omega
  refine ⟨_, ?_, fa⟩
  unfold f_X10_turnTo
  have s0 : stI z h (b + 41) 0 (nI tal) = some (h.rowI (b + 41) (upd (h.I (b + 41)) 0 (nI tal))) := by
    rw [show stI z h (b + 41) 0 (nI tal) = stI z (h.rowI (b + 41) (h.I (b + 41))) (b + 41) (nI 0) (nI tal) from by rw [rowI_self]; rfl, ld (by omega)]
  rw [if_pos hK, xl_ok hω hs, bS, gR_ok hK (rx_44_0 HX), bS, gR_ok (kx_40 HX) (rx_40_0 HX), bS, gI_ok hK, bS, h5, s0, bS, xy_ok hω hs, bS, show (1 : Int32) = nI 1 from rfl, ld (by omega), bS, xa_ok hω hs, bS, show (3 : Int32) = nI 3 from rfl, ld (by omega), bS, xt_ok hω hs, bS, show (4 : Int32) = nI 4 from rfl, ld (by omega), bS]
  unfold f_X10_turnTo_52
  rw [show (5 : Int32) = nI 5 from rfl, show (6 : Int32) = nI 6 from rfl, show (2 : Int32) = nI 2 from rfl]
  by_cases cl : sL s = 1
  · have e0 : eL s = 0 := by unfold eL; rw [if_neg (by omega)]
    rw [e0, if_pos (show nI 0 = (0 : Int32) from rfl), ld (by omega), bS, if_pos (show nI 0 = (0 : Int32) from rfl), show (0 : Int32) = nI 0 from rfl, ld (by omega), bS, cl, show sO s = 0 by omega]
  · have e0 : eL s = 1 + sO s := by unfold eL; rw [if_pos (by omega)]
    have ne : ¬ nI (eL s) = 0 := fun q => by have := (nI_inj (j := 0) (by omega) (by omega)).mp q; omega
    rw [if_neg ne, ld (by omega), bS, if_neg ne, show (1 : Int32) = nI 1 from rfl, nI_sub (by omega), ld (by omega), bS, show eL s - 1 = sO s by omega, show sL s = 2 by omega]
/-- the worth of a year, as the class remembers it -/
theorem cw_56 (hn : 400000 ≤ n) (W : WayD z0 b c z h wt ω tal md st ts) {mo : Nat} (hm : h.R (b + 45) tal = some mo) {s t : Nat} (hs : SV ω s) (ht : t < tD ω) : ∃ h', f_X10_worthOf_56 n z h (b + 44) (nI (enc s)) (nI t) mo = some (iI (wV ω tal s t), h', z) ∧ WayD z0 b c z h' wt ω tal md st ts ∧ WE b st z h z h' := by
  obtain ⟨⟨HX, HR, w3, w4, w5, w6, w7⟩, ⟨w8, w9, w10, w11⟩, ⟨w12, w13, w14, w15⟩, w16, ⟨w17, w18⟩, w19, w20⟩ := id W
  obtain ⟨q1, q2, q3, q4, q5, q6, q7, q8, q9⟩ := w19 tal (by omega) mo hm
  have hK := kx_44 HX
  obtain ⟨a1, a2, a3, a4⟩ := e_bd w10 hs
  have hD := w10.2.1
  have hwb := wV_bd ω tal s t
  have MXx : MX z h mo (mo + 1) 5600 := ⟨q3, q4, q5, q6⟩
  obtain ⟨sc, v, c1, c2, c3, c4⟩ := q7 (enc s * 4 + t) (by omega)
  have key : worthP ω tal (enc s * 4 + t) (wV ω tal s t + 9).toNat := fun s' t' hs' ht' he => by
    have e1 : enc s' = enc s := by omega
    have e2 : t' = t := by omega
    have := enc_inj w10 hs' hs e1
    rw [this, e2]
    omega
  unfold f_X10_worthOf_56
  rw [show (4 : Int32) = nI 4 from rfl, nI_mul, nI_add, bS, gI_ok hK, bS, w12, find_ok MXx (by omega) (by omega) c1 (by omega) c2 c3, bS]
  by_cases hst : sc = ts
  · have hv := c4 (by omega) hst s t hs ht rfl
    rw [if_pos hst, if_neg (show ¬ lg_cmp (lI (v : Int)) (-1) = 0 from fun q => by
      rw [cmp_eq, lI_to (by omega) (by omega), show (-1 : Int64).toInt = -1 from rfl] at q
      omega), lI_32]
    refine ⟨h, ?_, W, WE.refl ..⟩
    rw [lit_m9, iI_add]
    congr 2
    congr 1
    omega
  · obtain ⟨F, t1, t2⟩ := turn_ok HX w10 hs w13
    obtain ⟨W1, E1⟩ := W.scr (h' := h.rowI (b + 41) F) rfl (fun _ => rfl) (fun a k1 k2 => rowI_ne h _ k1)
    have HX1 := W1.1.1
    obtain ⟨r1, r2, hw⟩ := cworth_ok (n := n) (z := z) (h := h.rowI (b + 41) F) (b := b) HX1 hn w10 W1.2.1.2.1 (tal := tal) (s := s) (tr := t) w11 hs.1 (by omega) (by rw [rowI_I]; exact t2 t)
    obtain ⟨W2, E2⟩ := W1.scr (h' := ((h.rowI (b + 41) F).rowI (b + 41) r1).rowI (b + 42) r2) rfl (fun _ => rfl) (fun a k1 k2 => by rw [rowI_ne _ _ k2, rowI_ne _ _ k1])
    rw [if_neg hst, if_pos (show lg_cmp (-1 : Int64) (-1) = 0 by decide), t1, bS, gR_ok hK (rx_44_0 HX1), bS, gR_ok hK W1.2.1.1, bS, hw, bS]
    dsimp only
    have hm2 : (((h.rowI (b + 41) F).rowI (b + 41) r1).rowI (b + 42) r2).R (b + 45) tal = some mo := hm
    have MX2 : MX z (((h.rowI (b + 41) F).rowI (b + 41) r1).rowI (b + 42) r2) mo (mo + 1) 5600 := ⟨q3, q4, q5, q6⟩
    generalize ((h.rowI (b + 41) F).rowI (b + 41) r1).rowI (b + 42) r2 = g at *
    obtain ⟨W3, E3⟩ := W2.setW hm2 (v := (wV ω tal s t + 9).toNat) (by omega) key
    have e10 : Int32.toInt64 (iI (wV ω tal s t) - (-9)) = lI (((wV ω tal s t + 9).toNat : Nat) : Int) := by
      rw [lit_m9, iI_sub, iI_64 (by omega) (by omega)]
      congr 1
      omega
    rw [bS, e10, gI_ok hK, bS, W2.2.2.1.1, mkeep_ok MX2 (by omega) (by omega) (by omega) (by omega), bS, lI_32, lit_m9, iI_add]
    refine ⟨_, ?_, W3, (E1.trans E2).trans E3⟩
    congr 2
    congr 1
    omega
theorem cw_ok (hn : 400000 ≤ n) (W : WayD z0 b c z h wt ω tal md st ts) {s t : Nat} (hs : SV ω s) (ht : t < tD ω) : ∃ z' h', f_X10_worthOf n z h (b + 44) (nI (enc s)) (nI t) = some (iI (wV ω tal s t), h', z') ∧ WayD z0 b c z' h' wt ω tal md st ts ∧ WE b st z h z' h' := by
  obtain ⟨⟨HX, HR, w3, w4, w5, w6, w7⟩, ⟨w8, w9, w10, w11⟩, ⟨w12, w13, w14, w15⟩, w16, ⟨w17, w18⟩, w19, w20⟩ := id W
  have hK := kx_44 HX
  unfold f_X10_worthOf
  rw [if_pos hK, gI_ok hK, bS, w13, if_neg (nI_pos (by omega)), bS, gR_ok hK (rx_44_1 HX), bS, aL_ok (kx_45 HX) rfl (nx_45 HX), bS, if_pos ((nI_lt2 (by omega) (by omega)).mpr (show tal < 10 by omega)), bS, bS, ldN_ok (kx_45 HX) (nx_45 HX) rfl (show tal < 10 by omega) (by omega), bS]
  cases hm : h.R (b + 45) tal with
  | some mo =>
    dsimp only
    obtain ⟨h', e1, W', E'⟩ := cw_56 (n := n) hn W hm hs ht
    exact ⟨z, h', gd3_ok e1 ⟨Nat.le_refl _, Nat.le_refl _⟩, W', E'⟩
  | none =>
    dsimp only
    obtain ⟨z1, h1, i1, i2, i3, i4, i5, i6, W1, E1, R1⟩ := cw_new W hm (by have := HR.1; omega)
    obtain ⟨h', e1, W', E'⟩ := cw_56 (n := n) hn W1 R1 hs ht
    have EE := E1.trans E'
    refine ⟨z1, h', gd3_ok ?_ EE.1.1, W', EE⟩
    show (gd3 (z.al 3 0 (nf 3)) _) = _
    refine gd3_ok ?_ i2
    rw [i1, bS]
    dsimp only
    refine gd3_ok ?_ ⟨Nat.le_refl _, Nat.le_refl _⟩
    rw [gR_ok i3 i4, bS, gI_ok i3, bS, i5, i6, bS]
    exact e1
end
