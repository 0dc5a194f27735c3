/-! ===== the class turns to a person ===== -/
def vC (c : Nat) : Prop := c < 1007 ∨ (3000 ≤ c ∧ c ≤ 3009)
theorem rn_vC {f : Nat → Int} : ∀ (L : List Nat) (st st' : List Int), rn f L st = some st' → ∀ c ∈ L, vC c := by
  intro L
  induction L with
  | nil => intro _ _ _ c hc; cases hc
  | cons a L ih =>
    intro st st' h c hc
    unfold rn at h
    cases h1 : rn1 f a st with
    | none => rw [h1] at h; cases h
    | some s1 =>
      rw [h1] at h
      rcases List.mem_cons.mp hc with e | e
      · subst e
        unfold vC
        rcases rn1_inv h1 with ⟨q, -⟩ | ⟨q, q2, -⟩ | ⟨q, -⟩ | ⟨q, -⟩ | ⟨⟨q, q2, -⟩, -⟩ <;> omega
      · exact ih s1 st' h c e
theorem LawOK.vC {nf : Nat} {L : List Nat} (H : LawOK nf L) : ∀ c ∈ L, vC c := by
  obtain ⟨v, h1, -⟩ := H.2.2 (fun _ => 0) (fun _ _ => by omega)
  exact rn_vC L [] _ h1
def dC (v : Int) : Nat := if 0 ≤ v then v.toNat else if v ≤ -11 then (989 - v).toNat else if v = -1 then 3000 else if v = -2 then 3001 else if v = -3 then 3002 else if v = -4 then 3003 else if v = -5 then 3004 else if v = -6 then 3005 else if v = -9 then 3006 else if v = -7 then 3007 else if v = -8 then 3008 else 3009
theorem cC_inv {c : Nat} (h : vC c) : dC (cC c) = c := by
  unfold vC at h
  rcases Nat.lt_or_ge c 1000 with a | a
  · unfold cC dC
    rw [if_pos a, if_pos (by omega)]
    omega
  · rcases Nat.lt_or_ge c 1007 with a' | a'
    · unfold cC dC
      rw [if_neg (show ¬ c < 1000 by omega), if_pos (show c < 3000 by omega), if_neg (by omega), if_pos (by omega)]
      omega
    · have : c = 3000 ∨ c = 3001 ∨ c = 3002 ∨ c = 3003 ∨ c = 3004 ∨ c = 3005 ∨ c = 3006 ∨ c = 3007 ∨ c = 3008 ∨ c = 3009 := by omega
      rcases this with e | e | e | e | e | e | e | e | e | e <;> subst e <;> decide
theorem cC_inj {c c' : Nat} (h : vC c) (h' : vC c') (e : cC c = cC c') : c = c' := by rw [← cC_inv h, ← cC_inv h', e]
theorem cC_bd {c : Nat} (h : vC c) : -100 ≤ cC c ∧ cC c ≤ 1000 := by
  unfold vC at h
  unfold cC
  repeat' split
  all_goals omega
theorem LawX_inj {b : Nat} {z : Sh} {h : Hp} {a : Nat} {L L' : List Nat} {nf nf' : Nat} (H : LawX b z h a L) (H' : LawX b z h a L') (K : LawOK nf L) (K' : LawOK nf' L') : L = L' := by
  obtain ⟨-, -, h3, h4⟩ := H
  obtain ⟨-, -, g3, g4⟩ := H'
  have el : L.length = L'.length := h3.symm.trans g3
  refine List.ext_getElem el (fun j hj hj' => ?_)
  have e1 := h4 j hj
  have e2 := g4 j hj'
  rw [e1] at e2
  rw [List.getD_eq_getElem?_getD, List.getD_eq_getElem?_getD, List.getElem?_eq_getElem hj, List.getElem?_eq_getElem hj', Option.getD_some, Option.getD_some] at e2
  have v1 := K.vC _ (List.getElem_mem hj)
  have v2 := K'.vC _ (List.getElem_mem hj')
  have b1 := cC_bd v1
  have b2 := cC_bd v2
  refine cC_inj v1 v2 ?_
  have := congrArg Int32.toInt e2
  rw [iI_to (by omega) (by omega), iI_to (by omega) (by omega)] at this
  exact this
theorem TownX_inj {b : Nat} {z : Sh} {h : Hp} {t : Nat} {τ τ' : TT} (H : TownX b z h t τ) (H' : TownX b z h t τ') (K : TownOK τ) (K' : TownOK τ') : τ = τ' := by
  obtain ⟨-, -, h3, h4, h5, ⟨a, h6, h7⟩, a', h8, h9⟩ := H
  obtain ⟨-, -, g3, g4, g5, ⟨c, g6, g7⟩, c', g8, g9⟩ := H'
  obtain ⟨k1, k2, k3, k4, k5⟩ := K
  obtain ⟨l1, l2, l3, l4, l5⟩ := K'
  rw [h3] at g3
  rw [h4] at g4
  rw [h5] at g5
  rw [h6] at g6
  rw [h8] at g8
  obtain rfl := Option.some.inj g6
  obtain rfl := Option.some.inj g8
  have e1 := (nI_inj (by omega) (by omega)).mp g3
  have e2 := (nI_inj (by omega) (by omega)).mp g4
  have e3 := (nI_inj (by omega) (by omega)).mp g5
  have e4 := LawX_inj h7 g7 k4 l4
  have e5 := LawX_inj h9 g9 k5 l5
  obtain ⟨x1, x2, x3, x4, x5⟩ := τ
  obtain ⟨y1, y2, y3, y4, y5⟩ := τ'
  unfold tY at e1
  unfold tD at e2
  unfold tX at e3
  unfold tW at e4
  unfold tG at e5
  dsimp only at e1 e2 e3 e4 e5
  rw [e1, e2, e3, e4, e5]
section
variable {n : Nat} {z0 : Sh} {h0 : Hp} {b c : Nat} {z : Sh}
theorem ab_lp (hn : 400000 ≤ n) (hb : b + 92 ≤ z.sz) {t tal : Nat} {τ : TT} (hτ : TownOK τ) (ht : tal ≤ 9) : ∀ (d y i : Nat) (h : Hp), y + d = 7 → d < i → LayX z h.2.2 b → TownX b z h t τ → h.R (b + 44) 3 = some t → h.I (b + 41) 0 = nI tal → (∀ k, k < y → h.I (b + 46) k = nI (gV τ tal k)) → ∃ h', f_X10_about_134 n z i h (b + 44) (nI y) = some h' ∧ h'.2.2 = h.2.2 ∧ (∀ a, h'.J a = h.J a) ∧ (∀ a, a ≠ b + 41 → a ≠ b + 42 → a ≠ b + 46 → h'.I a = h.I a) ∧ ∀ k, k < 7 → h'.I (b + 46) k = nI (gV τ tal k) := by
  intro d
  induction d with
  | zero =>
    intro y i h hj hi HX hT hR hf hg
    obtain ⟨i, rfl⟩ : ∃ k, i = k + 1 := ⟨i - 1, by omega⟩
    obtain rfl : y = 7 := by omega
    refine ⟨h, ?_, rfl, fun _ => rfl, fun _ _ _ _ => rfl, hg⟩
    rw [f_X10_about_134.eq_2, if_pos (show (7 : Int32) ≤ nI 7 by decide)]
  | succ d ih =>
    intro y i h hj hi HX hT hR hf hg
    obtain ⟨i, rfl⟩ : ∃ k, i = k + 1 := ⟨i - 1, by omega⟩
    have ex1 : ∀ v, Ex b z h z (h.setI (b + 41) 1 v) := fun v => ⟨⟨Nat.le_refl _, Nat.le_refl _⟩, fun _ _ => ⟨rfl, rfl⟩, fun _ => rfl, fun a _ k1 _ _ _ _ _ _ => by rw [setI_I, if_neg k1], fun _ _ _ _ => rfl, fun _ _ _ _ _ => rfl⟩
    obtain ⟨r2, hw⟩ := cgrown_ok (n := n) (z := z) (h := h.setI (b + 41) 1 (nI y)) (b := b) HX hn hτ (hT.ex hb (ex1 _)).1 (tal := tal) (y := y) ht (by omega) (by
      rw [setI_I, if_pos rfl]
      exact (if_neg (by omega)).trans hf) (by
      rw [setI_I, if_pos rfl]
      exact if_pos rfl)
    generalize hG : ((h.setI (b + 41) 1 (nI y)).rowI (b + 42) r2).setI (b + 46) y (nI (gV τ tal y)) = g
    have gR' : g.2.2 = h.2.2 := by rw [← hG]; rfl
    have gI' : ∀ a, a ≠ b + 41 → a ≠ b + 42 → a ≠ b + 46 → g.I a = h.I a := fun a k1 k2 k3 => by
      rw [← hG, setI_I, if_neg k3, rowI_Ib, if_neg k2, setI_I, if_neg k1]
    have gJ' : ∀ a, g.J a = h.J a := fun a => by rw [← hG]; rfl
    have g46 : g.I (b + 46) = upd (h.I (b + 46)) y (nI (gV τ tal y)) := by
      rw [← hG, setI_I, if_pos rfl, rowI_Ib, if_neg (by omega), setI_I, if_neg (by omega)]
    have E : Ex b z h z g := ⟨⟨Nat.le_refl _, Nat.le_refl _⟩, fun _ _ => ⟨rfl, rfl⟩, fun _ => rfl, fun a _ k1 k2 k3 k4 _ _ _ => gI' a k1 k2 k4, fun a _ _ _ => gJ' a, fun a _ _ _ _ => by show g.2.2 a = h.2.2 a; rw [gR']⟩
    obtain ⟨h', f1, f2, f3, f4, f5⟩ := ih (y + 1) i g (by omega) (by omega) (by rw [gR']; exact HX) (hT.ex hb E).1 (by show g.2.2 (b + 44) 3 = some t; rw [gR']; exact hR) (by
      rw [← hG, setI_I, if_neg (by omega), rowI_Ib, if_neg (by omega), setI_I, if_pos rfl]
      exact (if_neg (by omega)).trans hf) (fun k hk => by
      rw [g46]
      by_cases e : k = y
      · rw [e]; exact if_pos rfl
      · exact (if_neg e).trans (hg k (by omega)))
    refine ⟨h', ?_, f2.trans gR', fun a => (f3 a).trans (gJ' a), fun a k1 k2 k3 => (f4 a k1 k2 k3).trans (gI' a k1 k2 k3), f5⟩
    rw [f_X10_about_134.eq_2, if_neg (show ¬ (7 : Int32) ≤ nI y from fun q => by have := (nI_leI (a := 7) (by omega) (by omega)).mp q; omega), gR_ok (kx_44 HX) (rx_44_0 HX), bS, gR_ok (kx_40 HX) (rx_40_0 HX), bS, show (1 : Int32) = nI 1 from rfl, sx_41 HX (by omega), bS, gR_ok (kx_44 HX) (show (h.setI (b + 41) 1 (nI y)).R (b + 44) 2 = some (b + 46) from rx_44_2 HX), bS, gR_ok (kx_44 HX) (show (h.setI (b + 41) 1 (nI y)).R (b + 44) 0 = some (b + 40) from rx_44_0 HX), bS, gR_ok (kx_44 HX) (show (h.setI (b + 41) 1 (nI y)).R (b + 44) 3 = some t from hR), bS, hw, bS]
    dsimp only
    rw [sx_46 HX (show y < 7 by omega), bS, hG, bS, nI_add y 1]
    exact f1
theorem MemoOK.nxt {cells : Nat → Int64} {N st st' : Nat} {V V' : Nat → Nat → Prop} (H : MemoOK cells N st V) (h : st' = st + 1) : MemoOK cells N st' V' := by rw [h]; exact H.next
theorem wab_new (hn : 400000 ≤ n) {h : Hp} (I : Inv z0 h0 b c z h) (hc : c < 600) {t : Nat} {τ : TT} (hT : TownX b z h t τ) (hτ : TownOK τ) {tal e : Nat} {md : Bool} (ht : tal ≤ 9) : ∃ h' st ts, f_X10_about_69 n z (h.setI (b + 44) 8 (nI e)) (b + 44) t (nI tal) (if md = true then 1 else 0) = some h' ∧ WayD z0 b (c + 1) z h' t τ tal md st ts ∧ Ex b z h z h' ∧ h'.I (b + 44) 8 = nI e := by
  obtain ⟨i1, HX, i3, i4, i5, i6, i7, ⟨wt, ω, wl, wm, st, ts, w1, w2, w3, w4, w5, w6, w7, w8, w9, w10, w11, w12, w13, w14, w15, w16⟩, HR⟩ := I
  have hb : b + 92 ≤ z.sz := HR.1
  have K := kx_44 HX
  generalize ht' : (if t = wt then ts else ts + 1) = ts'
  have hts : 1 ≤ ts' ∧ ts' ≤ c + 2 := by rw [← ht']; split <;> omega
  generalize hG0 : (((((h.setI (b + 44) 8 (nI e)).setI (b + 44) 4 (nI ts')).setI (b + 44) 7 (nI (st + 1))).setR (b + 44) 3 (some t)).setI (b + 44) 5 (nI tal)).setI (b + 44) 6 (if md = true then 1 else 0) = g0
  have r44 : g0.R (b + 44) = va_up (h.R (b + 44)) 3 (some t) := by rw [← hG0]; show ((h.setR (b + 44) 3 (some t)).R (b + 44)) = _; rw [setR_R, if_pos rfl]
  have rne : ∀ a, a ≠ b + 44 → g0.R a = h.R a := fun a ha => by rw [← hG0]; show ((h.setR (b + 44) 3 (some t)).R a) = _; rw [setR_R, if_neg ha]
  have i44 : g0.I (b + 44) = upd (upd (upd (upd (upd (h.I (b + 44)) 8 (nI e)) 4 (nI ts')) 7 (nI (st + 1))) 5 (nI tal)) 6 (if md = true then 1 else 0) := by
    rw [← hG0, setI_I, if_pos rfl, setI_I, if_pos rfl]
    show upd (upd ((((h.setI (b + 44) 8 (nI e)).setI (b + 44) 4 (nI ts')).setI (b + 44) 7 (nI (st + 1))).I (b + 44)) 5 (nI tal)) 6 _ = _
    rw [setI_I, if_pos rfl, setI_I, if_pos rfl, setI_I, if_pos rfl]
  have ine : ∀ a, a ≠ b + 44 → g0.I a = h.I a := fun a ha => by
    rw [← hG0, setI_I, if_neg ha, setI_I, if_neg ha]
    show ((((h.setI (b + 44) 8 (nI e)).setI (b + 44) 4 (nI ts')).setI (b + 44) 7 (nI (st + 1))).I a) = _
    rw [setI_I, if_neg ha, setI_I, if_neg ha, setI_I, if_neg ha]
  have j0 : ∀ a, g0.J a = h.J a := fun a => by rw [← hG0]; rfl
  have HX0 : LayX z g0.2.2 b := ⟨HX.1, fun q hq => by
    by_cases e44 : q.1 = 44
    · have h72 : q.2.1 ≠ 3 := (show ∀ q ∈ rX, q.1 = 44 → q.2.1 ≠ 3 by decide +kernel) q hq e44
      have := HX.2 q hq
      rw [e44] at this ⊢
      rw [show g0.2.2 (b + 44) = _ from r44, va_up_ne _ _ h72]
      exact this
    · rw [show g0.2.2 (b + q.1) = h.2.2 (b + q.1) from rne _ (by omega)]
      exact HX.2 q hq⟩
  have E0 : Ex b z h z (g0.setI (b + 41) 0 (nI tal)) := ⟨⟨Nat.le_refl _, Nat.le_refl _⟩, fun _ _ => ⟨rfl, rfl⟩, fun _ => rfl, fun a _ k1 _ k3 _ _ _ _ => by rw [setI_I, if_neg k1]; exact ine a k3, fun a _ _ _ => j0 a, fun a _ k1 _ _ => rne a k1⟩
  obtain ⟨h', f1, f2, f3, f4, f5⟩ := ab_lp (n := n) (z := z) hn hb hτ ht 7 0 n (g0.setI (b + 41) 0 (nI tal)) (by omega) (by omega) HX0 (hT.ex hb E0).1 (by show g0.R (b + 44) 3 = some t; rw [r44, va_up_self]) (by rw [setI_I, if_pos rfl]; exact if_pos rfl) (fun k hk => absurd hk (Nat.not_lt_zero k))
  have hR' : ∀ a, a ≠ b + 44 → h'.R a = h.R a := fun a ha => (show h'.R a = g0.R a by show h'.2.2 a = _; rw [f2]; rfl).trans (rne a ha)
  have hR44 : h'.R (b + 44) = va_up (h.R (b + 44)) 3 (some t) := (show h'.R (b + 44) = g0.R (b + 44) by show h'.2.2 (b + 44) = _; rw [f2]; rfl).trans r44
  have hJ' : ∀ a, h'.J a = h.J a := fun a => (f3 a).trans (j0 a)
  have hI' : ∀ a, a ≠ b + 41 → a ≠ b + 42 → a ≠ b + 44 → a ≠ b + 46 → h'.I a = h.I a := fun a k1 k2 k3 k4 => by rw [f4 a k1 k2 k4, setI_I, if_neg k1]; exact ine a k3
  have hI44 : h'.I (b + 44) = g0.I (b + 44) := by rw [f4 _ (by omega) (by omega) (by omega), setI_I, if_neg (by omega)]
  have E : Ex b z h z h' := ⟨⟨Nat.le_refl _, Nat.le_refl _⟩, fun _ _ => ⟨rfl, rfl⟩, fun _ => rfl, fun a _ k1 k2 k3 k4 _ _ _ => hI' a k1 k2 k3 k4, fun a _ _ _ => hJ' a, fun a _ k1 _ _ => hR' a k1⟩
  refine ⟨h', st + 1, ts', ?_, ⟨⟨by rw [f2]; exact HX0, ?_, by omega, by omega, hts.1, by omega, by omega⟩, ⟨by rw [hR44, va_up_self], (hT.ex hb E).1, hτ, ht⟩, ?_, f5, ⟨⟨?_, ?_⟩, ?_⟩, ?_, ?_⟩, E, ?_⟩
  · unfold f_X10_about_69
    have e87 : ∀ u : Int32, nI ts + u = nI ts' → f_X10_about_87 n z (h.setI (b + 44) 8 (nI e)) (b + 44) t (nI tal) (if md = true then 1 else 0) u (nI ts) (b + 44) = some h' := fun u hu => by
      unfold f_X10_about_87
      have hm : (if md = true then (1 : Int32) else 0) = 0 ∨ (if md = true then (1 : Int32) else 0) = 1 := by cases md <;> simp
      rw [pI_ok K, bS, hu, gI_ok K, bS, show ((h.setI (b + 44) 8 (nI e)).setI (b + 44) 4 (nI ts')).I (b + 44) 7 = nI st by
        rw [setI_I, if_pos rfl, setI_I, if_pos rfl]
        exact (if_neg (by omega)).trans ((if_neg (by omega)).trans w8), show nI st + 1 = nI (st + 1) from nI_add st 1, pI_ok K, bS, pR_ok K, bS, pI_ok K, bS, pZ_ok K hm, bS, hG0, gR_ok K (rx_44_0 HX0), bS, gR_ok (kx_40 HX) (rx_40_0 HX0), bS, gI_ok K, bS, show g0.I (b + 44) 5 = nI tal by rw [i44]; rfl, show (0 : Int32) = nI 0 from rfl, sx_41 HX (by omega), bS]
      exact f1
    rw [gI_ok K, bS, show (h.setI (b + 44) 8 (nI e)).I (b + 44) 4 = nI ts by rw [setI_I, if_pos rfl]; exact (if_neg (by omega)).trans w5, gR_ok K (show (h.setI (b + 44) 8 (nI e)).R (b + 44) 3 = some wt from w1), bS]
    by_cases e : t = wt
    · rw [if_pos e]
      rw [if_pos e] at ht'
      exact e87 0 (by rw [← ht']; exact nI_add ts 0)
    · rw [if_neg e]
      rw [if_neg e] at ht'
      exact e87 1 (by rw [← ht']; exact nI_add ts 1)
  · unfold RoomI
    rw [hR' _ (by omega), hR' _ (by omega)]
    obtain ⟨r1, r2, r3, r4⟩ := HR
    refine ⟨r1, by omega, r3, by omega⟩
  · rw [hI44, i44]
    refine ⟨rfl, rfl, ?_, rfl⟩
    cases md <;> rfl
  · rw [hJ']; exact w13.1.next
  · rw [hJ']
    intro _ s hs ⟨v, v1, v2⟩
    obtain ⟨sc, v', x1, x2, x3, -⟩ := w13.1 (enc s) (e_bd hτ hs).2.2.2
    rw [x3] at v2
    have := cel_inj (by omega) (by omega) x2 v1 v2
    omega
  · rw [hJ']; exact w14.next
  · intro k hk mo hm
    rw [hR' _ (by omega)] at hm
    obtain ⟨m1, m2, m3, m4, m5, m6, m7, m8, m9⟩ := w15 k hk mo hm
    refine ⟨m1, m2, m3, by rw [hR' _ (by omega)]; exact m4, m5, m6, ?_, by rw [hR' _ (by omega)]; exact m8, by rw [hR' _ (by omega)]; exact m9⟩
    rw [hJ']
    by_cases e : t = wt
    · rw [if_pos e] at ht'
      subst e
      rw [← ht', TownX_inj hT w2 hτ w3]
      exact m7
    · rw [if_neg e] at ht'
      exact m7.nxt ht'.symm
  · intro mo hm
    rw [hR' _ (by omega)] at hm
    obtain ⟨m1, m2, m3, m4, m5, m6, m7, m8⟩ := w16 mo hm
    exact ⟨m1, m2, m3, by rw [hR' _ (by omega)]; exact m4, m5, m6, by rw [hI' _ (by omega) (by omega) (by omega) (by omega)]; exact m7, by rw [hJ']; exact m8.next⟩
  · rw [hI44, i44]
    rfl
/-- ways.about -/
theorem wab_ok (hn : 400000 ≤ n) {h : Hp} (I : Inv z0 h0 b c z h) (hc : c < 600) {t P nx sz : Nat} {τ : TT} (N : NowD b z h t τ P nx sz) {p : Nat} (hp : p < P) : ∃ h' st ts, f_X10_about n z h (b + 44) t (b + 11) (nI p) = some h' ∧ WayD z0 b (c + 1) z h' t τ (nv (h.I (b + 73)) (54 + p)) (decide (nv (h.I (b + 73)) (60 + p) = 0)) st ts ∧ Ex b z h z h' ∧ h'.I (b + 44) 8 = nI (enc (aS (h.I (b + 73)) p)) := by
  obtain ⟨HX, HRef, hR3, hT, hT5, HA, -, -⟩ := N
  obtain ⟨hm, hτ, -, hA, h3, h6, hp6⟩ := id HRef
  obtain ⟨s0, s1, s2, s3, s4, s5, s6, e11, e12, e13, e14, e15, e16, e17, e18, e19, -⟩ := Per_st hτ (hp6 p hp)
  have q6 : f_X5_part z h (b + 11) (nI p) 6 = some (nI (nv (h.I (b + 73)) (54 + p))) := (part_ok (now_PL HX) (show p < 6 by omega) (show 6 < 9 by omega)).trans (by rw [(PX_P HA.1 hp).2.2.2.2.2.2.1, e16])
  have q8 : f_X5_part z h (b + 11) (nI p) 8 = some (nI (nv (h.I (b + 73)) (60 + p))) := (part_ok (now_PL HX) (show p < 6 by omega) (show 8 < 9 by omega)).trans (by rw [(PX_P HA.1 hp).2.2.2.2.2.2.2.2, e18])
  have hb : b + 92 ≤ z.sz := I.2.2.2.2.2.2.2.2.1
  have K := kx_44 HX
  generalize nv (h.I (b + 73)) (54 + p) = tal at *
  generalize nv (h.I (b + 73)) (60 + p) = pl at *
  obtain ⟨h', st', ts', n1, n2, n3, n4⟩ := wab_new (n := n) hn I hc hT hτ (tal := tal) (e := enc (aS (h.I (b + 73)) p)) (md := decide (pl = 0)) e17
  have e24 : f_X10_about n z h (b + 44) t (b + 11) (nI p) = f_X10_about_24 n z h (b + 44) t (b + 11) (nI p) (nI tal) (if decide (pl = 0) = true then 1 else 0) := by
    unfold f_X10_about
    rw [if_pos K, q6, bS, q8, bS]
    by_cases e0 : pl = 0
    · rw [if_pos (show nI pl = 0 by rw [e0]; rfl), if_pos (decide_eq_true e0)]
    · rw [if_neg (show ¬ nI pl = 0 from fun q => e0 ((nI_inj (j := 0) (by omega) (by omega)).mp q)), if_neg (show ¬ decide (pl = 0) = true from fun q => e0 (of_decide_eq_true q))]
  have new : f_X10_about_69 n z (h.setI (b + 44) 8 (nI (enc (aS (h.I (b + 73)) p)))) (b + 44) t (nI tal) (if decide (pl = 0) = true then 1 else 0) = some h' := n1
  obtain ⟨i1, -, i3, i4, i5, i6, i7, ⟨wt, ω, wl, wm, st, ts, w1, w2, w3, w4, w5, w6, w7, w8, w9, w10, w11, w12, w13, w14, w15, w16⟩, HR⟩ := id I
  have f : ∀ k, k ≠ 8 → (h.setI (b + 44) 8 (nI (enc (aS (h.I (b + 73)) p)))).I (b + 44) k = h.I (b + 44) k := fun k hk => by rw [setI_I, if_pos rfl]; exact if_neg hk
  rw [e24]
  unfold f_X10_about_24
  rw [xst_ok (now_PL HX) HA.1 h6 hτ hp (hp6 p hp), bS, pI_ok K, bS, gI_ok K, bS, f 7 (by omega), w8, gR_ok K (show (h.setI (b + 44) 8 (nI (enc (aS (h.I (b + 73)) p)))).R (b + 44) 3 = some wt from w1), bS, gI_ok K, bS, f 5 (by omega), w6, gI_ok K, bS, f 6 (by omega), w7]
  by_cases c1 : nI st ≤ 0
  · rw [if_pos c1]
    exact ⟨h', st', ts', new, n2, n3, n4⟩
  have c1' : 0 < st := by
    rcases Nat.eq_zero_or_pos st with q | q
    · exact absurd (by rw [q]; decide) c1
    · exact q
  rw [if_neg c1]
  by_cases c2 : t = wt
  · rw [if_pos c2]
    by_cases c3 : nI tal = nI wl
    · rw [if_pos c3]
      by_cases c4 : (if decide (pl = 0) = true then (1 : Int32) else 0) = (if wm = true then nI 1 else nI 0)
      · rw [if_pos c4]
        subst c2
        obtain rfl := TownX_inj hT w2 hτ w3
        obtain rfl := (nI_inj (by omega) (by omega)).mp c3
        have e4 : decide (pl = 0) = wm := by
          cases hq : decide (pl = 0) <;> cases wm <;> rw [hq] at c4 <;> first | rfl | exact absurd c4 (by decide)
        have E : Ex b z h z (h.setI (b + 44) 8 (nI (enc (aS (h.I (b + 73)) p)))) := ⟨⟨Nat.le_refl _, Nat.le_refl _⟩, fun _ _ => ⟨rfl, rfl⟩, fun _ => rfl, fun a _ _ _ k3 _ _ _ _ => by rw [setI_I, if_neg k3], fun _ _ _ _ => rfl, fun _ _ _ _ _ => rfl⟩
        rw [e4]
        refine ⟨_, st, ts, rfl, ⟨⟨HX, ?_, c1', by omega, w10, by omega, by omega⟩, ⟨w1, (hT.ex hb E).1, hτ, w4⟩, ⟨by rw [f 4 (by omega)]; exact w5, by rw [f 5 (by omega)]; exact w6, by rw [f 6 (by omega)]; exact w7, by rw [f 7 (by omega)]; exact w8⟩, ?_, ⟨w13, w14⟩, w15, ?_⟩, E, by rw [setI_I, if_pos rfl]; exact if_pos rfl⟩
        · obtain ⟨r1, r2, r3, r4⟩ := HR
          exact ⟨r1, by show z.sz ≤ b + 100 + 1000 * (c + 1) + 2 * cnt (h.R (b + 45)) 10 + (if (h.R (b + 55) 4).isSome then 2 else 0); omega, r3, by show z.sl ≤ z0.sl + 420000 + 2000 * (c + 1) + 5601 * cnt (h.R (b + 45)) 10 + (if (h.R (b + 55) 4).isSome then 200000 else 0); omega⟩
        · rw [setI_I, if_neg (by omega)]; exact w12 c1'
        · intro mo hm
          obtain ⟨m1, m2, m3, m4, m5, m6, m7, m8⟩ := w16 mo hm
          exact ⟨m1, m2, m3, m4, m5, m6, by rw [setI_I, if_neg (by omega)]; exact m7, m8⟩
      · rw [if_neg c4]
        exact ⟨h', st', ts', new, n2, n3, n4⟩
    · rw [if_neg c3]
      exact ⟨h', st', ts', new, n2, n3, n4⟩
  · rw [if_neg c2]
    exact ⟨h', st', ts', new, n2, n3, n4⟩
end
