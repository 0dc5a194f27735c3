/-! ===== where the class keeps hopes ===== -/
theorem hpA_1400 : hpA 1400 = 16506 := by decide +kernel
theorem hpA_mono {i : Nat} : ∀ d, hpA i ≤ hpA (i + d) := by
  intro d
  induction d with
  | zero => exact Nat.le_refl _
  | succ d ih =>
    show hpA i ≤ hpA (i + d) + hpS (i + d)
    omega
theorem hpA_le {i j : Nat} (h : i ≤ j) : hpA i ≤ hpA j := by
  have := hpA_mono (i := i) (j - i)
  rw [show i + (j - i) = j by omega] at this
  exact this
theorem hpS_enc {τ : TT} (hτ : TownOK τ) {s : Nat} (hs : SV τ s) : hpS (enc s) = ((if sL s = 1 then 2 else 1) * 6 - sY s) * 9 := by
  obtain ⟨a1, a2, a3, a4⟩ := e_bd hτ hs
  obtain ⟨h1, h2, h3, h4⟩ := SV_rng hτ hs
  have e := enc_eq s
  have e1 : enc s % 25 = eH s := by omega
  have e2 : enc s / 25 % 7 = sY s := by omega
  have e3 : enc s / 175 = eL s := by omega
  unfold hpS
  rw [e1, e2, e3]
  have st : (if eH s = 0 then 0 else (eH s - 1) % 6 + 1) ≤ sY s := by
    unfold eH
    rcases h4 with ⟨q1, q2⟩ | ⟨q1, q2, q3, q4⟩
    · rw [if_pos q1]
      exact Nat.zero_le _
    · rw [if_neg (show ¬ sA s = 9 by omega), if_neg (by omega)]
      omega
  rw [if_pos st]
  have : (if eL s = 0 then 2 else 1) = (if sL s = 1 then 2 else 1) := by
    unfold eL
    rcases h1 with ⟨q1, q2⟩ | ⟨q1, q2⟩
    · rw [if_neg (show ¬ sL s = 2 by omega), if_pos rfl, if_pos q1]
    · rw [if_pos q1, if_neg (by omega), if_neg (by omega)]
  rw [this]
section
variable {τ : TT} {tal : Nat} {md : Bool}
theorem SC_bd2 (hτ : TownOK τ) : ∀ k s, SV τ s → (SC τ tal md k s).1 ≤ 144 * (tn τ s : Int) := by
  intro k
  induction k with
  | zero =>
    intro s hs
    show (0 : Int) ≤ _
    omega
  | succ k ih =>
    intro s hs
    have hb := scT_bd (g := fun t => (SC τ tal md k (lvN s t)).1 + 16 * wV τ tal s t - 1) (B := 144 * (tn τ s : Int)) (by omega) (opn τ s) (fun t ht => by
      obtain ⟨q1, q2⟩ := opn_lt ht
      have e1 := tn_lv hτ hs ht
      have h2 := ih _ (lv_SV hτ hs q2 q1).1
      have h3 := wV_bd τ tal s t
      try dsimp only
      omega)
    rw [SC_s]
    split
    · rename_i hc
      have h2 := ih _ (dr_SV (tal := tal) hτ hs).1
      have h3 := (tn_dr (tal := tal) hτ hs hc.1.2).2.1
      dsimp only
      omega
    · exact hb.2.1
theorem bM_hp (hτ : TownOK τ) {s : Nat} (hs : SV τ s) : bM τ tal md s ≤ (hpS (enc s) : Int) ∧ hpS (enc s) ≤ 108 := by
  have h1 := SC_bd2 (tal := tal) (md := md) hτ 14 s hs
  have hY := hτ.1
  have hy := hs.2.2.1
  rw [hpS_enc hτ hs]
  unfold bM lM
  unfold tn at h1
  split
  · rename_i q
    rw [if_pos q] at h1
    omega
  · rename_i q
    rw [if_neg q] at h1
    omega
end
section
variable {z : Sh} {h : Hp}
theorem yc_ok {c : Nat} (hc : c < 1400) : f_X10_yearOf z h (nI c) = some (nI (c / 25 % 7)) := by
  unfold f_X10_yearOf
  rw [show (25 : Int32) = nI 25 from rfl, dvI_ok (by omega) (by omega) (by omega), bS, show (7 : Int32) = nI 7 from rfl, rmI_ok (by omega) (by omega) (by omega), bS]
theorem lc_ok {c : Nat} (hc : c < 1400) : f_X10_lifeOf z h (nI c) = some (nI (c / 175)) := by
  unfold f_X10_lifeOf
  rw [show (175 : Int32) = nI 175 from rfl, dvI_ok (by omega) (by omega) (by omega), bS]
theorem tc_ok {c : Nat} (hc : c < 1400) : f_X10_streakOf z h (nI c) = some (nI (if c % 25 = 0 then 0 else (c % 25 - 1) % 6 + 1)) := by
  unfold f_X10_streakOf
  rw [show (25 : Int32) = nI 25 from rfl, rmI_ok (by omega) (by omega) (by omega), bS]
  by_cases e : c % 25 = 0
  · rw [e, if_pos (show nI 0 = (0 : Int32) from rfl), if_pos rfl]
    rfl
  · rw [if_neg (show ¬ nI (c % 25) = 0 from fun q => by have := (nI_inj (j := 0) (by omega) (by omega)).mp q; omega), show (1 : Int32) = nI 1 from rfl, nI_sub (by omega), show (6 : Int32) = nI 6 from rfl, rmI_ok (by omega) (by omega) (by omega), bS, nI_add, if_neg e]
end
theorem lay_4 {n : Nat} {z : Sh} {b : Nat} : ∀ (d c i : Nat) (h : Hp), c + d = 1400 → d < i → LayX z h.2.2 b → (∀ k, k < c → h.I (b + 58) k = nI (hpA k)) → ∃ f, f_X0_layOutHopes_4 n z i h (b + 55) (nI (hpA c)) (nI c) = some (nI (hpA 1400), h.rowI (b + 58) f) ∧ ∀ k, k < 1400 → f k = nI (hpA k) := by
  intro d
  induction d with
  | zero =>
    intro c i h hj hi HX hk
    obtain ⟨i, rfl⟩ : ∃ k, i = k + 1 := ⟨i - 1, by omega⟩
    obtain rfl : c = 1400 := by omega
    refine ⟨h.I (b + 58), ?_, hk⟩
    rw [f_X0_layOutHopes_4.eq_2, gR_ok (kx_55 HX) (rx_55_3 HX), bS, aL_ok (kx_58 HX) rfl (nx_58 HX), bS, if_pos (show nI 1400 ≤ nI 1400 by decide), rowI_self]
  | succ d ih =>
    intro c i h hj hi HX hk
    obtain ⟨i, rfl⟩ : ∃ k, i = k + 1 := ⟨i - 1, by omega⟩
    have hc : c < 1400 := by omega
    have hb := hpA_le (show c + 1 ≤ 1400 by omega)
    rw [hpA_1400] at hb
    have hb2 : hpA c ≤ 16506 := by have := hpA_le (show c ≤ 1400 by omega); rw [hpA_1400] at this; exact this
    obtain ⟨f, f1, f2⟩ := ih (c + 1) i (h.setI (b + 58) c (nI (hpA c))) (by omega) (by omega) HX (fun k hk' => by
      rw [setI_I, if_pos rfl]
      by_cases e : k = c
      · rw [e]; exact if_pos rfl
      · exact (if_neg e).trans (hk k (by omega)))
    refine ⟨f, ?_, f2⟩
    have rr : (h.setI (b + 58) c (nI (hpA c))).rowI (b + 58) f = h.rowI (b + 58) f := rowI_rowI h (b + 58) (upd (h.I (b + 58)) c (nI (hpA c))) f
    rw [rr] at f1
    rw [f_X0_layOutHopes_4.eq_2, gR_ok (kx_55 HX) (rx_55_3 HX), bS, aL_ok (kx_58 HX) rfl (nx_58 HX), bS, if_neg (fun q => by have := (nI_leI (by omega) (by omega)).mp q; omega), bS, sx_58 HX hc, bS, tc_ok hc, bS, yc_ok hc, bS]
    have st6 : (if c % 25 = 0 then 0 else (c % 25 - 1) % 6 + 1) ≤ 6 := by split <;> omega
    have e1 : hpA (c + 1) = hpA c + hpS c := rfl
    rw [e1] at f1
    unfold hpS at f1
    unfold f_X0_layOutHopes_43 f_X0_layOutHopes_59
    by_cases c1 : (if c % 25 = 0 then 0 else (c % 25 - 1) % 6 + 1) ≤ c / 25 % 7
    · rw [if_pos c1] at f1
      rw [if_neg (fun q => by have := (nI_lt2 (by omega) (by omega)).mp q; omega), lc_ok hc, bS]
      have y6 : c / 25 % 7 ≤ 6 := by omega
      by_cases c2 : c / 175 = 0
      · rw [if_pos c2] at f1
        rw [c2, if_pos (show nI 0 = 0 from rfl), yc_ok hc, bS, bS, bS, show (2 : Int32) * 6 = nI 12 by decide, nI_sub (by omega), show (9 : Int32) = nI 9 from rfl, nI_mul, nI_add, show nI c + 1 = nI (c + 1) from nI_add c 1]
        exact f1
      · rw [if_neg c2] at f1
        rw [if_neg (show ¬ nI (c / 175) = 0 from fun q => by have := (nI_inj (j := 0) (by omega) (by omega)).mp q; omega), yc_ok hc, bS, bS, bS, show (1 : Int32) * 6 = nI 6 by decide, nI_sub (by omega), show (9 : Int32) = nI 9 from rfl, nI_mul, nI_add, show nI c + 1 = nI (c + 1) from nI_add c 1]
        exact f1
    · rw [if_neg c1, Nat.add_zero] at f1
      rw [if_pos ((nI_lt2 (by omega) (by omega)).mpr (by omega)), bS, show nI c + 1 = nI (c + 1) from nI_add c 1]
      exact f1
section
variable {n : Nat} {z0 : Sh} {b c : Nat} {wt : Nat} {ω : TT} {tal : Nat} {md : Bool} {st ts : Nat}
theorem kh_ok (hn : 400000 ≤ n) {z : Sh} {h : Hp} (W : WayD z0 b c z h wt ω tal md st ts) : ∃ mo z' h', f_X0_keptHopes n z h (b + 55) = some (some mo, h', z') ∧ WayD z0 b c z' h' wt ω tal md st ts ∧ WE b st z h z' h' ∧ h'.R (b + 55) 4 = some mo := by
  obtain ⟨⟨HX, HR, w3, w4, w5, w6, w7⟩, ⟨w8, w9, w10, w11⟩, ⟨w12, w13, w14, w15⟩, w16, ⟨w17, w18⟩, w19, w20⟩ := id W
  have hb : b + 92 ≤ z.sz := HR.1
  unfold f_X0_keptHopes
  rw [if_pos (kx_55 HX), gN_ok (kx_55 HX), bS]
  cases hN : h.R (b + 55) 4 with
  | some mo =>
    refine ⟨mo, z, h, ?_, W, WE.refl .., hN⟩
    dsimp only
    rw [bS]
    exact gd3_ok rfl ⟨Nat.le_refl _, Nat.le_refl _⟩
  | none =>
    dsimp only
    have e1 : (z.al 3 0 (nf 3)).sz = z.sz + 1 := rfl
    have zK1 : ∀ a, a < z.sz → (z.al 3 0 (nf 3)).K a = z.K a ∧ (z.al 3 0 (nf 3)).N a = z.N a := fun a ha => by
      rw [al_Kb, al_Nb, if_neg (by omega), if_neg (by omega)]
      exact ⟨rfl, rfl⟩
    have hR1 : ∀ a, a < z.sz → (h.nw z.sz).R a = h.R a := fun a ha => by rw [nw_Rb, if_neg (by omega)]
    have HX1 : LayX (z.al 3 0 (nf 3)) (h.nw z.sz).2.2 b := by
      refine ⟨fun o ho => ?_, fun q hq => ?_⟩
      · rw [(zK1 _ (by omega)).1, (zK1 _ (by omega)).2]
        exact HX.1 o ho
      · have h72 : q.1 < 72 := (show ∀ q ∈ rX, q.1 < 72 by decide +kernel) q hq
        rw [show (h.nw z.sz).2.2 (b + q.1) = h.2.2 (b + q.1) from hR1 _ (by omega)]
        exact HX.2 q hq
    obtain ⟨f, l1, l2⟩ := lay_4 (n := n) (z := z.al 3 0 (nf 3)) (b := b) 1400 0 n (h.nw z.sz) (by omega) (by omega) HX1 (fun k hk => absurd hk (Nat.not_lt_zero k))
    rw [hpA_1400] at l1
    have i1 : f_X3_init (z.al 3 0 (nf 3)) ((h.nw z.sz).rowI (b + 58) f) z.sz (nI 16506) = some ((((h.nw z.sz).rowI (b + 58) f).nw (z.sz + 1)).setR z.sz 0 (some (z.sz + 1)), (z.al 3 0 (nf 3)).al 15 16506 16506) := by
      unfold f_X3_init
      have kk : (z.al 3 0 (nf 3)).K z.sz = 3 := by rw [al_Kb, if_pos rfl]
      have k2 : ((z.al 3 0 (nf 3)).al 15 16506 16506).K z.sz = 3 := by rw [al_Kb, if_neg (by rw [e1]; omega), al_Kb, if_pos rfl]
      rw [if_pos kk]
      refine gd2_ok (z2 := (z.al 3 0 (nf 3)).al 15 16506 16506) ?_ ⟨Nat.le_succ _, Nat.le_add_right _ _⟩
      rw [show f_J9_max_7cf53 (z.al 3 0 (nf 3)) ((h.nw z.sz).rowI (b + 58) f) 0 (nI 16506) = some (nI 16506) from max_ok (a := 0) (c := 16506) (by omega) (by omega), bS, nwA_ok rfl (by omega) (by decide), bS]
      dsimp only
      refine gd2_ok ?_ ⟨Nat.le_refl _, Nat.le_refl _⟩
      rw [pR_ok k2, bS]
      rfl
    generalize hg : ((((h.nw z.sz).rowI (b + 58) f).nw (z.sz + 1)).setR z.sz 0 (some (z.sz + 1))).setR (b + 55) 4 (some z.sz) = g
    have zK : ∀ a, a < z.sz → ((z.al 3 0 (nf 3)).al 15 16506 16506).K a = z.K a ∧ ((z.al 3 0 (nf 3)).al 15 16506 16506).N a = z.N a := fun a ha => by
      rw [al_Kb, al_Nb, if_neg (by rw [e1]; omega), if_neg (by rw [e1]; omega)]
      exact zK1 a ha
    have hI : ∀ a, a < z.sz → a ≠ b + 58 → g.I a = h.I a := fun a ha hne => by
      rw [← hg]
      show (((h.nw z.sz).rowI (b + 58) f).nw (z.sz + 1)).I a = h.I a
      rw [nw_Ib, if_neg (by omega), rowI_Ib, if_neg hne, nw_Ib, if_neg (by omega)]
    have hI58 : g.I (b + 58) = f := by
      rw [← hg]
      show (((h.nw z.sz).rowI (b + 58) f).nw (z.sz + 1)).I (b + 58) = f
      rw [nw_Ib, if_neg (by omega), rowI_Ib, if_pos rfl]
    have hJ : ∀ a, a < z.sz → g.J a = h.J a := fun a ha => by
      rw [← hg]
      show (((h.nw z.sz).rowI (b + 58) f).nw (z.sz + 1)).J a = h.J a
      rw [nw_Jb, if_neg (by omega)]
      show (h.nw z.sz).J a = h.J a
      rw [nw_Jb, if_neg (by omega)]
    have hJ1 : g.J (z.sz + 1) = fun _ => 0 := by
      rw [← hg]
      show (((h.nw z.sz).rowI (b + 58) f).nw (z.sz + 1)).J (z.sz + 1) = _
      rw [nw_Jb, if_pos rfl]
    have hRn : ∀ a, a < z.sz → a ≠ b + 55 → g.R a = h.R a := fun a ha hne => by
      rw [← hg, setR_R, if_neg hne, setR_R, if_neg (by omega), nw_Rb, if_neg (by omega)]
      exact hR1 a ha
    have hR55 : g.R (b + 55) = va_up (h.R (b + 55)) 4 (some z.sz) := by
      rw [← hg, setR_R, if_pos rfl, setR_R, if_neg (by omega), nw_Rb, if_neg (by omega)]
      rw [show ((h.nw z.sz).rowI (b + 58) f).R (b + 55) = h.R (b + 55) from hR1 _ (by omega)]
    have hRz : g.R z.sz 0 = some (z.sz + 1) := by
      rw [← hg, setR_R, if_neg (by omega), setR_R, if_pos rfl, va_up_self]
    have zn1 : ((z.al 3 0 (nf 3)).al 15 16506 16506).K z.sz = 3 := by rw [al_Kb, if_neg (by rw [e1]; omega), al_Kb, if_pos rfl]
    have zn2 : ((z.al 3 0 (nf 3)).al 15 16506 16506).K (z.sz + 1) = 15 := by rw [al_Kb, if_pos (show z.sz + 1 = (z.al 3 0 (nf 3)).sz from rfl)]
    have zn3 : ((z.al 3 0 (nf 3)).al 15 16506 16506).N (z.sz + 1) = 16506 := by rw [al_Nb, if_pos (show z.sz + 1 = (z.al 3 0 (nf 3)).sz from rfl)]
    have zn4 : ((z.al 3 0 (nf 3)).al 15 16506 16506).sz = z.sz + 2 := rfl
    have zn5 : ((z.al 3 0 (nf 3)).al 15 16506 16506).sl = z.sl + 16507 := by
      have q1 : ((z.al 3 0 (nf 3)).al 15 16506 16506).sl = (z.al 3 0 (nf 3)).sl + 16506 := al_sl ..
      have q2 : (z.al 3 0 (nf 3)).sl = z.sl + nf 3 := al_sl ..
      have q3 : nf 3 = 1 := rfl
      omega
    have zst : ∀ k, ((z.al 3 0 (nf 3)).al 15 16506 16506).st k = z.st k := fun _ => rfl
    have fx : gd3 z ((nwO z h 3).bind fun (a3, h4, z5) => gd3 z5 <| (f_X0_layOutHopes n z5 h4 (b + 55)).bind fun (x6, h7) => (f_X3_init z5 h7 a3 x6).bind fun (h8, z9) => gd3 z9 <| (pR z9 h8 0 (b + 55) 4 (some a3)).bind fun h10 => (gN z9 h10 0 (b + 55) 4).bind fun o11 => (match o11 with | none => some ((none : Option Nat), h10, z9) | some a12 => some ((some a12), h10, z9))) = some (some z.sz, g, (z.al 3 0 (nf 3)).al 15 16506 16506) := by
      refine gd3_ok ?_ ⟨by rw [zn4]; omega, by rw [zn5]; omega⟩
      show gd3 (z.al 3 0 (nf 3)) _ = _
      refine gd3_ok ?_ ⟨Nat.le_succ _, Nat.le_add_right _ _⟩
      have lx : f_X0_layOutHopes n (z.al 3 0 (nf 3)) (h.nw z.sz) (b + 55) = some (nI 16506, (h.nw z.sz).rowI (b + 58) f) := by
        unfold f_X0_layOutHopes
        rw [if_pos (kx_55 HX1)]
        exact l1
      dsimp only
      rw [lx, bS]
      dsimp only
      rw [i1, bS]
      dsimp only
      refine gd3_ok ?_ ⟨Nat.le_refl _, Nat.le_refl _⟩
      have k55 : ((z.al 3 0 (nf 3)).al 15 16506 16506).K (b + 55) = 0 := by rw [(zK _ (by omega)).1]; exact kx_55 HX
      rw [pR_ok k55, bS, hg, gN_ok k55, bS, hR55, va_up_self]
    refine ⟨z.sz, _, g, fx, ?_, ?_, by rw [hR55, va_up_self]⟩
    · generalize (z.al 3 0 (nf 3)).al 15 16506 16506 = z2 at *
      have E : Ex b z h z2 g := ⟨⟨by omega, by omega⟩, zK, zst, fun a ha _ _ _ _ _ _ k7 => hI a ha k7, fun a ha _ _ => hJ a (by omega), fun a ha k1 k2 k3 => hRn a ha k3⟩
      refine ⟨⟨⟨fun o ho => ?_, fun q hq => ?_⟩, ?_, w3, w4, w5, w6, w7⟩, ⟨by rw [hRn _ (by omega) (by omega)]; exact w8, (w9.ex hb E).1, w10, w11⟩, ⟨by rw [hI _ (by omega) (by omega)]; exact w12, by rw [hI _ (by omega) (by omega)]; exact w13, by rw [hI _ (by omega) (by omega)]; exact w14, by rw [hI _ (by omega) (by omega)]; exact w15⟩, by rw [hI _ (by omega) (by omega)]; exact w16, ⟨by rw [hJ _ (by omega)]; exact w17, by rw [hJ _ (by omega)]; exact w18⟩, ?_, ?_⟩
      · rw [(zK _ (by omega)).1, (zK _ (by omega)).2]
        exact HX.1 o ho
      · have h72 : q.1 < 72 ∧ (q.1 = 55 → q.2.1 ≠ 4) := (show ∀ q ∈ rX, q.1 < 72 ∧ (q.1 = 55 → q.2.1 ≠ 4) by decide +kernel) q hq
        have := HX.2 q hq
        by_cases e55 : q.1 = 55
        · rw [e55] at this ⊢
          rw [show g.2.2 (b + 55) = _ from hR55, va_up_ne _ _ (h72.2 e55)]
          exact this
        · rw [show g.2.2 (b + q.1) = h.2.2 (b + q.1) from hRn _ (by omega) (by omega)]
          exact this
      · obtain ⟨r1, r2, r3, r4⟩ := HR
        unfold RoomI
        rw [hR55, va_up_self, hRn _ (by omega) (by omega), zn4, zn5]
        rw [hN] at r2 r4
        simp only [Option.isSome_some, Option.isSome_none, if_true, Bool.false_eq_true, if_false] at r2 r4 ⊢
        refine ⟨by omega, by omega, by omega, by omega⟩
      · intro k hk mo hm
        rw [hRn _ (by omega) (by omega)] at hm
        obtain ⟨m1, m2, m3, m4, m5, m6, m7, m8, m9⟩ := w19 k hk mo hm
        refine ⟨m1, by omega, by rw [(zK _ (by omega)).1]; exact m3, by rw [hRn _ (by omega) (by omega)]; exact m4, by rw [(zK _ (by omega)).1]; exact m5, by rw [(zK _ (by omega)).2]; exact m6, by rw [hJ _ (by omega)]; exact m7, by rw [hRn _ (by omega) (by omega)]; exact m8, ?_⟩
        rw [hR55, va_up_self]
        intro q
        have := Option.some.inj q
        omega
      · intro mo hm
        rw [hR55, va_up_self] at hm
        have hm : z.sz = mo := Option.some.inj hm
        subst hm
        refine ⟨hb, by omega, zn1, hRz, zn2, by rw [zn3, hpA_1400], fun j hj => by rw [hI58]; exact l2 j hj, ?_⟩
        intro cc hcc
        rw [hJ1]
        exact ⟨0, 0, by omega, by omega, rfl, fun _ q => by omega⟩
    · refine ⟨⟨⟨by rw [zn4]; omega, by rw [zn5]; omega⟩, zK, zst, fun a ha _ _ _ _ _ _ k7 => hI a ha k7, fun a ha _ _ => hJ a (by omega), fun a ha k1 k2 k3 => hRn a ha k3⟩, fun c q => ?_, hI _ (by omega) (by omega), hI _ (by omega) (by omega), hI _ (by omega) (by omega), fun mo q => by rw [hN] at q; cases q⟩
      rw [hJ _ (by omega)]
      exact q
/-- a hope is laid down -/
theorem WayD.setH {z : Sh} {h : Hp} (W : WayD z0 b c z h wt ω tal md st ts) {mo s need v : Nat} (hm0 : h.R (b + 55) 4 = some mo) (hs : SV ω s) (h1 : 1 ≤ need) (h2 : need ≤ hpS (enc s)) (hv : (v : Int) = Hv ω tal md s need) (hv2 : v < 281474976710656) : WayD z0 b c z (h.setJ (mo + 1) (hpA (enc s) + need - 1) (lI ((st : Int) * 281474976710656 + v))) wt ω tal md st ts ∧ WE b st z h z (h.setJ (mo + 1) (hpA (enc s) + need - 1) (lI ((st : Int) * 281474976710656 + v))) := by
  obtain ⟨⟨HX, HR, w3, w4, w5, w6, w7⟩, ⟨w8, w9, w10, w11⟩, ⟨w12, w13, w14, w15⟩, w16, ⟨w17, w18⟩, w19, w20⟩ := W
  have hb : b + 92 ≤ z.sz := HR.1
  obtain ⟨m1, m2, m3, m4, m5, m6, m7, m8⟩ := w20 mo hm0
  have hJ : ∀ a, a ≠ mo + 1 → (h.setJ (mo + 1) (hpA (enc s) + need - 1) (lI ((st : Int) * 281474976710656 + v))).J a = h.J a := fun a ha => by rw [setJ_J, if_neg ha]
  have E : Ex b z h z (h.setJ (mo + 1) (hpA (enc s) + need - 1) (lI ((st : Int) * 281474976710656 + v))) := ⟨⟨Nat.le_refl _, Nat.le_refl _⟩, fun _ _ => ⟨rfl, rfl⟩, fun _ => rfl, fun _ _ _ _ _ _ _ _ _ => rfl, fun a ha _ _ => hJ a (by omega), fun _ _ _ _ _ => rfl⟩
  refine ⟨⟨⟨HX, HR, w3, w4, w5, w6, w7⟩, ⟨w8, (w9.ex hb E).1, w10, w11⟩, ⟨w12, w13, w14, w15⟩, w16, ⟨by rw [hJ _ (by omega)]; exact w17, by rw [hJ _ (by omega)]; exact w18⟩, ?_, ?_⟩, ⟨E, fun c q => by rw [hJ _ (by omega)]; exact q, rfl, rfl, rfl, fun _ q => q⟩⟩
  · intro k hk mo' hm
    obtain ⟨n1, n2, n3, n4, n5, n6, n7, n8, n9⟩ := w19 k hk mo' hm
    refine ⟨n1, n2, n3, n4, n5, n6, ?_, n8, n9⟩
    have : mo' ≠ mo := fun q => n9 (by rw [q]; exact hm0)
    rw [hJ _ (by omega)]
    exact n7
  · intro mo' hm
    have hm : h.R (b + 55) 4 = some mo' := hm
    rw [hm0] at hm
    obtain rfl := Option.some.inj hm
    refine ⟨m1, m2, m3, m4, m5, m6, m7, ?_⟩
    rw [setJ_J, if_pos rfl]
    refine m8.up w3 hv2 (fun s' need' hs' h1' h2' he => ?_)
    have ee : enc s' = enc s := by
      rcases Nat.lt_trichotomy (enc s') (enc s) with q | q | q
      · have := hpA_le (show enc s' + 1 ≤ enc s by omega)
        have e1 : hpA (enc s' + 1) = hpA (enc s') + hpS (enc s') := rfl
        omega
      · exact q
      · have := hpA_le (show enc s + 1 ≤ enc s' by omega)
        have e1 : hpA (enc s + 1) = hpA (enc s) + hpS (enc s) := rfl
        omega
    have es := enc_inj w10 hs' hs ee
    subst es
    obtain rfl : need' = need := by omega
    exact hv
end
