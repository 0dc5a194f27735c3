/-! ===== how many courses ===== -/
def Hc (τ : TT) (tal : Nat) : Nat → Nat
  | 0 => 0
  | j + 1 => Hc τ tal j * tD τ + tD τ ^ (tY τ - gV τ tal (tY τ - j))
def cV (τ : TT) (tal : Nat) (md : Bool) (s : Nat) : Nat := if md = true ∧ sL s = 1 then Hc τ tal (tY τ - sY s + 1) else tD τ ^ (tY τ - sY s)
section
variable {τ : TT} {tal : Nat} {md : Bool}
theorem cV_lv (hτ : TownOK τ) {s t : Nat} (hs : SV τ s) (ht : t < opn τ s) : cV τ tal md (lvN s t) = cV τ tal md (lvN s 0) := by
  obtain ⟨q1, q2⟩ := opn_lt ht
  obtain ⟨-, l2, l3, l4, -⟩ := lv_SV hτ hs q2 q1
  obtain ⟨-, k2, k3, k4, -⟩ := lv_SV hτ hs (show 0 < tD τ by omega) q1
  unfold cV
  rw [l2, l4, k2, k4]
theorem cV_dr (hτ : TownOK τ) {s : Nat} (hs : SV τ s) : cV τ tal md (drN τ tal s) = tD τ ^ (tY τ - gV τ tal (sY s)) := by
  obtain ⟨-, l2, l3, l4, -⟩ := dr_SV (tal := tal) hτ hs
  unfold cV
  rw [l2, l4, if_neg (by omega)]
theorem cV_eq (hτ : TownOK τ) {s : Nat} (hs : SV τ s) : cV τ tal md s = (if opn τ s = 0 ∧ ¬ (md = true ∧ sL s = 1) then 1 else 0) + opn τ s * cV τ tal md (lvN s 0) + (if md = true ∧ sL s = 1 then cV τ tal md (drN τ tal s) else 0) := by
  have hD := hτ.2.1
  have hy := hs.2.2.1
  rw [cV_dr hτ hs]
  by_cases hlt : sY s < tY τ
  · have eo : opn τ s = tD τ := by unfold opn; rw [if_pos hlt]
    obtain ⟨-, k2, k3, k4, -⟩ := lv_SV hτ hs (show 0 < tD τ by omega) hlt
    rw [if_neg (fun q => by omega), eo]
    unfold cV
    rw [k2, k4]
    by_cases hc : md = true ∧ sL s = 1
    · rw [if_pos hc, if_pos hc, if_pos hc, show tY τ - sY s + 1 = (tY τ - (sY s + 1) + 1) + 1 by omega]
      show Hc τ tal (tY τ - (sY s + 1) + 1) * tD τ + tD τ ^ (tY τ - gV τ tal (tY τ - (tY τ - (sY s + 1) + 1))) = _
      rw [show tY τ - (tY τ - (sY s + 1) + 1) = sY s by omega, Nat.mul_comm]
      omega
    · rw [if_neg hc, if_neg hc, if_neg hc, show tY τ - sY s = (tY τ - (sY s + 1)) + 1 by omega, Nat.pow_succ, Nat.mul_comm]
      omega
  · have eo : opn τ s = 0 := by unfold opn; rw [if_neg hlt]
    have ey : sY s = tY τ := by omega
    rw [eo]
    unfold cV
    by_cases hc : md = true ∧ sL s = 1
    · rw [if_pos hc, if_neg (fun q => q.2 hc), if_pos hc, ey, Nat.sub_self]
      show 0 * tD τ + tD τ ^ (tY τ - gV τ tal (tY τ - 0)) = _
      rw [Nat.sub_zero]
      omega
    · rw [if_neg hc, if_pos ⟨rfl, hc⟩, if_neg hc, ey, Nat.sub_self, Nat.pow_zero]
      omega
end
section
variable {n : Nat} {z0 : Sh} {b c : Nat} {wt : Nat} {ω : TT} {tal : Nat} {md : Bool} {st ts : Nat} {z : Sh} {h : Hp}
theorem ch_5 (W : WayD z0 b c z h wt ω tal md st ts) {y : Nat} (hy : y ≤ 100) : ∀ (d j i : Nat), j + d = y → d < i → f_X1_choicesIn_5 n z h i (b + 50) (nI y) (lI ((tD ω ^ j : Nat) : Int)) (nI j) = some (lI ((tD ω ^ y : Nat) : Int)) := by
  obtain ⟨⟨HX, -⟩, ⟨w8, w9, w10, -⟩, -⟩ := W
  have hD := w10.2.1
  intro d
  induction d with
  | zero =>
    intro j i hj hi
    obtain ⟨i, rfl⟩ : ∃ k, i = k + 1 := ⟨i - 1, by omega⟩
    obtain rfl : j = y := by omega
    rw [f_X1_choicesIn_5.eq_2, if_pos ((nI_leI (by omega) (by omega)).mpr (Nat.le_refl _))]
  | succ d ih =>
    intro j i hj hi
    obtain ⟨i, rfl⟩ : ∃ k, i = k + 1 := ⟨i - 1, by omega⟩
    rw [f_X1_choicesIn_5.eq_2, if_neg (fun q => by have := (nI_leI (by omega) (by omega)).mp q; omega), gR_ok (kx_50 HX) (rx_50_0 HX), bS, gR_ok (kx_44 HX) w8, bS, gI_ok w9.2.1, bS, w9.2.2.2.1, bS, bS, nI_iI (tD ω), iI_64 (by omega) (by omega), lI_mul, show nI j + 1 = nI (j + 1) from nI_add j 1]
    have := ih (j + 1) i (by omega) (by omega)
    rw [Nat.pow_succ, Int.natCast_mul] at this
    exact this
theorem ch_ok (hn : 400000 ≤ n) (W : WayD z0 b c z h wt ω tal md st ts) {y : Nat} (hy : y ≤ 100) : f_X1_choicesIn n z h (b + 50) (nI y) = some (lI ((tD ω ^ y : Nat) : Int)) := by
  unfold f_X1_choicesIn
  rw [if_pos (kx_50 W.1.1)]
  exact ch_5 W hy y 0 n (by omega) (by omega)
theorem hm_58 (hn : 400000 ≤ n) (W : WayD z0 b c z h wt ω tal md st ts) {y0 : Nat} (hy0 : y0 ≤ tY ω) : ∀ (d j i : Nat), j + d = tY ω - y0 + 1 → d < i → f_X1_howMany_58 n z h i (b + 50) (nI y0) (nI (tY ω)) (lI (Hc ω tal j : Int)) (iI ((tY ω : Int) - j)) = some (lI (Hc ω tal (tY ω - y0 + 1) : Int)) := by
  obtain ⟨⟨HX, -⟩, ⟨w8, w9, w10, -⟩, -, w16, -⟩ := id W
  have hD := w10.2.1
  have hY := w10.1
  intro d
  induction d with
  | zero =>
    intro j i hj hi
    obtain ⟨i, rfl⟩ : ∃ k, i = k + 1 := ⟨i - 1, by omega⟩
    obtain rfl : j = tY ω - y0 + 1 := by omega
    rw [f_X1_howMany_58.eq_2, nI_iI y0, if_pos ((iI_lt (by omega) (by omega) (by omega) (by omega)).mpr (by omega))]
  | succ d ih =>
    intro j i hj hi
    obtain ⟨i, rfl⟩ : ∃ k, i = k + 1 := ⟨i - 1, by omega⟩
    have hg := gV_le ω tal (tY ω - j)
    have eg : f_X10_grownAt z h (b + 44) (iI ((tY ω : Int) - j)) = some (nI (gV ω tal (tY ω - j))) := by
      rw [show iI ((tY ω : Int) - j) = nI (tY ω - j) by rw [nI_iI]; congr 1; omega]
      unfold f_X10_grownAt
      rw [if_pos (kx_44 HX), if_neg (show ¬ nI (tY ω - j) < 0 from fun q => by have := (nI_lt2 (j := 0) (by omega) (by omega)).mp q; omega), gR_ok (kx_44 HX) (rx_44_2 HX), bS, aL_ok (kx_46 HX) rfl (nx_46 HX), bS, if_neg (show ¬ (nI 7) ≤ nI (tY ω - j) from fun q => by have := (nI_leI (a := 7) (by omega) (by omega)).mp q; omega), bS, lx_46 HX (by omega), bS, w16 _ (by omega)]
    rw [f_X1_howMany_58.eq_2, nI_iI y0, if_neg (fun q => by rw [iI_lt (by omega) (by omega) (by omega) (by omega)] at q; omega), gR_ok (kx_50 HX) (rx_50_0 HX), bS, gR_ok (kx_44 HX) w8, bS, gI_ok w9.2.1, bS, w9.2.2.2.1, bS, eg, bS, nI_sub (show gV ω tal (tY ω - j) ≤ tY ω by omega), ch_ok hn W (by omega), bS, bS, bS, nI_iI (tD ω), iI_64 (by omega) (by omega), lI_mul, lI_add, show (-1 : Int32) = iI (-1) by decide, iI_add]
    have := ih (j + 1) i (by omega) (by omega)
    rw [show (tY ω : Int) - (j + 1 : Nat) = (tY ω : Int) - j + -1 by omega, nI_iI y0, show (Hc ω tal (j + 1) : Int) = (Hc ω tal j : Int) * (tD ω : Int) + ((tD ω ^ (tY ω - gV ω tal (tY ω - j)) : Nat) : Int) from by rw [← Int.natCast_mul, ← Int.natCast_add]; rfl] at this
    exact this
theorem hm_ok (hn : 400000 ≤ n) (W : WayD z0 b c z h wt ω tal md st ts) {s : Nat} (hs : SV ω s) (es : h.I (b + 44) 8 = nI (enc s)) : f_X1_howMany n z h (b + 50) = some (lI (cV ω tal md s : Int)) := by
  obtain ⟨⟨HX, -⟩, ⟨w8, w9, w10, -⟩, ⟨-, -, w14, -⟩, w16, -⟩ := id W
  have hy := hs.2.2.1
  have hY := w10.1
  obtain ⟨a1, a2, a3, a4⟩ := e_bd w10 hs
  have h45 : ¬ (md = true ∧ sL s = 1) → f_X1_howMany_45 n z h (b + 50) (nI (sY s)) (nI (tY ω)) = some (lI (cV ω tal md s : Int)) := fun hc => by
    unfold f_X1_howMany_45 cV
    rw [if_neg hc, nI_sub hy, ch_ok hn W (by omega), bS]
  unfold f_X1_howMany
  rw [if_pos (kx_50 HX), gR_ok (kx_50 HX) (rx_50_0 HX), bS, gI_ok (kx_44 HX), bS, es, xy_ok w10 hs, bS, bS, gR_ok (kx_44 HX) w8, bS, gI_ok w9.2.1, bS, w9.2.2.1, bS, gI_ok (kx_44 HX), bS, es, xl_ok w10 hs, bS, bS, gI_ok (kx_44 HX), bS, w14]
  by_cases hl : sL s = 1
  · have e0 : eL s = 0 := by unfold eL; rw [if_neg (by omega)]
    rw [e0, if_pos (show nI 0 = 0 from rfl)]
    cases hm : md with
    | false =>
      rw [hm] at h45
      rw [if_neg (show ¬ (false = true) by decide), if_pos (show nI 0 = 0 from rfl)]
      exact h45 (fun q => absurd q.1 (by decide))
    | true =>
      rw [if_pos rfl, if_neg (show ¬ nI 1 = 0 by decide)]
      have := hm_58 (n := n) hn W hy (tY ω - sY s + 1) 0 n (by omega) (by omega)
      unfold cV
      rw [if_pos ⟨rfl, hl⟩]
      rw [show (Hc ω tal 0 : Int) = 0 from rfl, show (tY ω : Int) - (0 : Nat) = tY ω by omega, ← nI_iI] at this
      exact this
  · have hl2 : sL s = 2 := by have := hs.2.1; omega
    have e0 : eL s = 1 + sO s := by unfold eL; rw [if_pos (by omega)]
    rw [if_neg (show ¬ nI (eL s) = 0 from fun q => by have := (nI_inj (j := 0) (by omega) (by omega)).mp q; omega)]
    exact h45 (fun q => hl q.2)
end
/-! the reference -/
theorem Sc.mkJ {b : Nat} {h h' : Hp} (hR : h'.2.2 = h.2.2) (hJ : ∀ a, ¬ (b + 76 ≤ a ∧ a ≤ b + 88) → h'.J a = h.J a) (hI : ∀ a, a ≠ b + 72 → ¬ (b + 76 ≤ a ∧ a ≤ b + 88) → h'.I a = h.I a) (h72 : ∀ k, k = 5 ∨ k = 13 ∨ k = 14 → h'.I (b + 72) k = h.I (b + 72) k) : Sc b h h' := by
  have key : ∀ a, (∀ k, scrA k = true → a ≠ b + k) → ¬ (b + 76 ≤ a ∧ a ≤ b + 88) := fun a ha q => by
    have h1 : scrA (a - b) = true := by
      unfold scrA
      have h1 : Nat.ble 76 (a - b) = true := Nat.ble_eq.mpr (by omega)
      have h2 : Nat.ble (a - b) 88 = true := Nat.ble_eq.mpr (by omega)
      rw [h1, h2]
      simp
    exact ha (a - b) h1 (by omega)
  exact ⟨hR, fun a ha => ⟨hI a (ha 72 rfl) (key a ha), hJ a (key a ha)⟩, h72 5 (by omega), h72 13 (by omega), h72 14 (by omega)⟩
/-- rows that reckonings of the reference change, but its own fields -/
def Dz (b : Nat) (h h' : Hp) : Prop := h'.2.2 = h.2.2 ∧ (∀ a, ¬ (b + 76 ≤ a ∧ a ≤ b + 88) → h'.J a = h.J a) ∧ ∀ a, ¬ (b + 76 ≤ a ∧ a ≤ b + 88) → h'.I a = h.I a
theorem Dz.refl (b : Nat) (h : Hp) : Dz b h h := ⟨rfl, fun _ _ => rfl, fun _ _ => rfl⟩
theorem Dz.trans {b : Nat} {h h' h'' : Hp} (H : Dz b h h') (G : Dz b h' h'') : Dz b h h'' := ⟨G.1.trans H.1, fun a k => (G.2.1 a k).trans (H.2.1 a k), fun a k => (G.2.2 a k).trans (H.2.2 a k)⟩
theorem Dz.sc {b : Nat} {h h' : Hp} (L : Dz b h h') : Sc b h h' := Sc.mkJ L.1 L.2.1 (fun a _ k => L.2.2 a k) (fun k _ => by rw [L.2.2 (b + 72) (by omega)])
theorem Dz.two (b : Nat) (h : Hp) (f g : Nat → Int32) : Dz b h ((h.rowI (b + 78) f).rowI (b + 77) g) := ⟨rfl, fun _ _ => rfl, fun a k => by rw [rowI_Ib, if_neg (by omega), rowI_Ib, if_neg (by omega)]⟩
theorem Lz.dz {b : Nat} {h h' : Hp} (L : Lz b h h') : Dz b h h' := ⟨L.1, fun a _ => L.2.1 a, fun a k => L.2.2 a (by omega) (by omega) (by omega) (by omega) (by omega)⟩
theorem BR.dz {b : Nat} {z : Sh} {h h' : Hp} {τ : TT} {P : Nat} {A : Nat → Int32} {tal : Nat} {md : Bool} (H : BR b z h τ P A tal md) (L : Dz b h h') : BR b z h' τ P A tal md := by
  obtain ⟨h1, h2, h3, h4⟩ := H
  have e72 := L.2.2 (b + 72) (by omega)
  exact ⟨h1.fr L.1 (L.2.2 _ (by omega)), by rw [e72]; exact h2, by rw [e72]; exact h3, h4⟩
/-- values that are kept by rank: row of flags, row of longs -/
def KJ (b r : Nat) (h : Hp) (τ : TT) (V : Nat → Int) (R : Nat) : Prop := (∀ s, s < 3430 → h.I (b + 83) s = nI 0 ∨ h.I (b + 83) s = nI 1) ∧ ∀ s, SV τ s → rk τ s < R → h.I (b + 83) s = nI 1 → h.J r s = lI (V s)
def JU (b r : Nat) (τ : TT) (h h' : Hp) (s : Nat) : Prop := ∀ s', s' ≠ s → rk τ s ≤ rk τ s' → h'.J r s' = h.J r s' ∧ h'.I (b + 83) s' = h.I (b + 83) s'
theorem KJ.le {b r : Nat} {h : Hp} {τ : TT} {V : Nat → Int} {R R' : Nat} (H : KJ b r h τ V R) (hr : R' ≤ R) : KJ b r h τ V R' := ⟨H.1, fun s hs hk => H.2 s hs (by omega)⟩
theorem JU.refl (b r : Nat) (τ : TT) (h : Hp) (s : Nat) : JU b r τ h h s := fun _ _ _ => ⟨rfl, rfl⟩
theorem JU.trans {b r : Nat} {τ : TT} {h h' h'' : Hp} {s : Nat} (H : JU b r τ h h' s) (G : JU b r τ h' h'' s) : JU b r τ h h'' s := fun s' k1 k2 => ⟨(G s' k1 k2).1.trans (H s' k1 k2).1, (G s' k1 k2).2.trans (H s' k1 k2).2⟩
theorem JU.low {b r : Nat} {τ : TT} {h h' : Hp} {s s1 : Nat} (H : JU b r τ h h' s1) (hr : rk τ s1 < rk τ s) : JU b r τ h h' s := fun s' _ k2 => H s' (fun e => by rw [e] at k2; omega) (by omega)
theorem KJ.low {b r : Nat} {τ : TT} {h h' : Hp} {V : Nat → Int} {s1 R : Nat} (H : KJ b r h τ V R) (U : JU b r τ h h' s1) (H' : KJ b r h' τ V (rk τ s1 + 1)) : KJ b r h' τ V R := by
  refine ⟨H'.1, fun s hs hr hk => ?_⟩
  rcases Nat.lt_or_ge (rk τ s1) (rk τ s) with q | q
  · obtain ⟨u1, u2⟩ := U s (fun e => by rw [e] at q; omega) (by omega)
    rw [u1]
    exact H.2 s hs hr (by rw [← u2]; exact hk)
  · exact H'.2 s hs (by omega) hk
theorem KJ.same {b r : Nat} {τ : TT} {h h' : Hp} {V : Nat → Int} {R : Nat} (H : KJ b r h τ V R) (e1 : h'.J r = h.J r) (e2 : h'.I (b + 83) = h.I (b + 83)) : KJ b r h' τ V R := by
  unfold KJ
  rw [e1, e2]
  exact H
theorem JU.same {b r : Nat} {τ : TT} {h h' : Hp} {s : Nat} (e1 : h'.J r = h.J r) (e2 : h'.I (b + 83) = h.I (b + 83)) : JU b r τ h h' s := fun s' _ _ => by
  rw [e1, e2]
  exact ⟨rfl, rfl⟩
/-- in the midst of a stand -/
def MidJ (z : Sh) (b r : Nat) (τ : TT) (P : Nat) (A : Nat → Int32) (tal : Nat) (md : Bool) (V : Nat → Int) (h0 h : Hp) (s : Nat) : Prop := BR b z h τ P A tal md ∧ Dz b h0 h ∧ KJ b r h τ V (rk τ s) ∧ JU b r τ h0 h s ∧ h.I (b + 83) s = nI 1
/-- what is asked of a reckoning -/
def RJ (z : Sh) (b r : Nat) (τ : TT) (P : Nat) (A : Nat → Int32) (tal : Nat) (md : Bool) (V : Nat → Int) (G : Hp → Option (Int64 × Hp)) (s : Nat) : Prop := ∀ h, BR b z h τ P A tal md → KJ b r h τ V (rk τ s + 1) → ∃ h', G h = some (lI (V s), h') ∧ Dz b h h' ∧ KJ b r h' τ V (rk τ s + 1) ∧ JU b r τ h h' s
section
variable {z : Sh} {b r : Nat} {τ : TT} {P : Nat} {A : Nat → Int32} {tal : Nat} {md : Bool} {V : Nat → Int}
theorem MidJ.two {h0 h : Hp} {s : Nat} (M : MidJ z b r τ P A tal md V h0 h s) (f g : Nat → Int32) : MidJ z b r τ P A tal md V h0 ((h.rowI (b + 78) f).rowI (b + 77) g) s := by
  obtain ⟨B, L, K, U, k1⟩ := M
  have e2 : ((h.rowI (b + 78) f).rowI (b + 77) g).I (b + 83) = h.I (b + 83) := by rw [rowI_Ib, if_neg (by omega), rowI_Ib, if_neg (by omega)]
  exact ⟨B.dz (Dz.two b h f g), L.trans (Dz.two b h f g), K.same rfl e2, U.trans (JU.same rfl e2), by rw [e2]; exact k1⟩
/-- a reckoning of lower rank within -/
theorem MidJ.call {h0 h : Hp} {s s1 : Nat} (M : MidJ z b r τ P A tal md V h0 h s) {G : Hp → Option (Int64 × Hp)} (hr : rk τ s1 < rk τ s) (hG : RJ z b r τ P A tal md V G s1) : ∃ h', G h = some (lI (V s1), h') ∧ MidJ z b r τ P A tal md V h0 h' s ∧ Dz b h h' := by
  obtain ⟨B, L, K, U, k1⟩ := M
  obtain ⟨h', e1, L1, K1, U1⟩ := hG h B (K.le (by omega))
  have U2 := U1.low hr
  refine ⟨h', e1, ⟨B.dz L1, L.trans L1, K.low U1 K1, U.trans U2, ?_⟩, L1⟩
  rw [(U1 s (fun e => by rw [e] at hr; omega) (by omega)).2]
  exact k1
/-- the flag is set, and a value may be laid down -/
theorem MidJ.start {h : Hp} {s : Nat} (B : BR b z h τ P A tal md) (K : KJ b r h τ V (rk τ s + 1)) (v : Int64) (hr : b + 76 ≤ r ∧ r ≤ b + 88) : MidJ z b r τ P A tal md V h ((h.setI (b + 83) s (nI 1)).setJ r s v) s ∧ MidJ z b r τ P A tal md V h (h.setI (b + 83) s (nI 1)) s := by
  have gen : ∀ h' : Hp, h'.2.2 = h.2.2 → (∀ a, a ≠ b + 83 → h'.I a = h.I a) → h'.I (b + 83) = upd (h.I (b + 83)) s (nI 1) → (∀ a, a ≠ r → h'.J a = h.J a) → (∀ s', s' ≠ s → h'.J r s' = h.J r s') → MidJ z b r τ P A tal md V h h' s := fun h' g1 g2 g3 g4 g5 => by
    have L : Dz b h h' := ⟨g1, fun a ha => g4 a (by omega), fun a ha => g2 a (by omega)⟩
    refine ⟨B.dz L, L, ⟨fun s' hs' => ?_, fun s' hs' hr' hk => ?_⟩, fun s' e _ => ⟨g5 s' e, by rw [g3]; exact if_neg e⟩, by rw [g3]; exact if_pos rfl⟩
    · rw [g3]
      by_cases e' : s' = s
      · exact Or.inr (if_pos e')
      · have := K.1 s' hs'
        rw [← (show upd (h.I (b + 83)) s (nI 1) s' = h.I (b + 83) s' from if_neg e')] at this
        exact this
    · have e' : s' ≠ s := fun q => by rw [q] at hr'; omega
      rw [g5 s' e']
      rw [g3] at hk
      exact K.2 s' hs' (by omega) ((if_neg e').symm.trans hk)
  refine ⟨gen _ rfl (fun a ha => ?_) ?_ (fun a ha => ?_) (fun s' hs' => ?_), gen _ rfl (fun a ha => ?_) ?_ (fun a ha => rfl) (fun s' hs' => rfl)⟩
  · show (h.setI (b + 83) s (nI 1)).I a = _
    rw [setI_I, if_neg ha]
  · show (h.setI (b + 83) s (nI 1)).I (b + 83) = _
    rw [setI_I, if_pos rfl]
  · rw [setJ_J, if_neg ha]
    rfl
  · rw [setJ_J, if_pos rfl]
    exact if_neg hs'
  · rw [setI_I, if_neg ha]
  · rw [setI_I, if_pos rfl]
/-- the value is laid down -/
theorem MidJ.fin {h0 h : Hp} {s : Nat} (M : MidJ z b r τ P A tal md V h0 h s) (K0 : KJ b r h0 τ V (rk τ s + 1)) (hr : b + 76 ≤ r ∧ r ≤ b + 88) : Dz b h0 (h.setJ r s (lI (V s))) ∧ KJ b r (h.setJ r s (lI (V s))) τ V (rk τ s + 1) ∧ JU b r τ h0 (h.setJ r s (lI (V s))) s := by
  obtain ⟨B, L, K, U, k1⟩ := M
  have eJ : (h.setJ r s (lI (V s))).J r = vp_updL (h.J r) s (lI (V s)) := by rw [setJ_J, if_pos rfl]
  have eI : (h.setJ r s (lI (V s))).I (b + 83) = h.I (b + 83) := rfl
  refine ⟨L.trans ⟨rfl, fun a ha => by rw [setJ_J, if_neg (by omega)], fun a _ => rfl⟩, ?_, fun s' e hr' => ?_⟩
  · unfold KJ
    rw [eJ, eI]
    refine ⟨K.1, fun s' hs' hr' hk => ?_⟩
    by_cases e : s' = s
    · rw [e]; exact if_pos rfl
    · rw [show vp_updL (h.J r) s (lI (V s)) s' = h.J r s' from if_neg e]
      rcases Nat.lt_or_ge (rk τ s') (rk τ s) with q | q
      · exact K.2 s' hs' q hk
      · obtain ⟨u1, u2⟩ := U s' e q
        rw [u1]
        exact K0.2 s' hs' hr' (by rw [← u2]; exact hk)
  · rw [eJ, eI]
    obtain ⟨u1, u2⟩ := U s' e hr'
    exact ⟨(show vp_updL (h.J r) s (lI (V s)) s' = h.J r s' from if_neg e).trans u1, u2⟩
end
section
variable {n : Nat} {z : Sh} {b : Nat} {τ : TT} {P : Nat} {A : Nat → Int32} {tal : Nat} {md : Bool}
abbrev CJ (z : Sh) (b : Nat) (τ : TT) (P : Nat) (A : Nat → Int32) (tal : Nat) (md : Bool) (G : Sh → Hp → Nat → Int32 → Option (Int64 × Hp)) (s : Nat) : Prop := RJ z b (b + 82) τ P A tal md (fun s => (cV τ tal md s : Int)) (fun h => G z h (b + 72) (nI s)) s
theorem rv_122 {G : Sh → Hp → Nat → Int32 → Option (Int64 × Hp)} {h0 h : Hp} {s : Nat} (hs : SV τ s) (M : MidJ z b (b + 82) τ P A tal md (fun s => (cV τ tal md s : Int)) h0 h s) (K0 : KJ b (b + 82) h0 τ (fun s => (cV τ tal md s : Int)) (rk τ s + 1)) : ∃ h', f_X12_coursesFrom_122 n G z h (b + 72) (nI s) (lI (cV τ tal md s : Int)) = some (lI (cV τ tal md s : Int), h') ∧ Dz b h0 h' ∧ KJ b (b + 82) h' τ (fun s => (cV τ tal md s : Int)) (rk τ s + 1) ∧ JU b (b + 82) τ h0 h' s := by
  have HM := M.1.1.1
  refine ⟨_, ?_, M.fin K0 (by omega)⟩
  unfold f_X12_coursesFrom_122
  rw [gR_ok (km_0 HM) (rm_23 HM), bS, sm_10 HM hs.1, bS]
theorem rv_98 (hn : 400000 ≤ n) {G : Sh → Hp → Nat → Int32 → Option (Int64 × Hp)} {h0 h : Hp} {s : Nat} (hτ : TownOK τ) (hs : SV τ s) (hG2 : md = true ∧ sL s = 1 → CJ z b τ P A tal md G (drN τ tal s)) (M : MidJ z b (b + 82) τ P A tal md (fun s => (cV τ tal md s : Int)) h0 h s) (K0 : KJ b (b + 82) h0 τ (fun s => (cV τ tal md s : Int)) (rk τ s + 1)) : ∃ h', f_X12_coursesFrom_98 n G z h (b + 72) (nI s) (lI (((if opn τ s = 0 ∧ ¬ (md = true ∧ sL s = 1) then 1 else 0) + opn τ s * cV τ tal md (lvN s 0) : Nat) : Int)) = some (lI (cV τ tal md s : Int), h') ∧ Dz b h0 h' ∧ KJ b (b + 82) h' τ (fun s => (cV τ tal md s : Int)) (rk τ s + 1) ∧ JU b (b + 82) τ h0 h' s := by
  have hs0 := hs.1
  have HM := M.1.1.1
  have eq := cV_eq (tal := tal) (md := md) hτ hs
  unfold f_X12_coursesFrom_98
  rw [can_ok M.1 hs0, bS]
  by_cases hc : md = true ∧ sL s = 1
  · rw [if_pos hc, if_neg (show ¬ (1 : Int32) = 0 by decide)]
    obtain ⟨r1, r2, e1⟩ := mdrawn_ok (n := n) (z := z) (h := h) HM hn hτ (by rw [M.1.1.2.2.1]; exact M.1.1.2.2.2.1) M.1.2.2.2 hs0
    obtain ⟨h1, e2, M1, -⟩ := (M.two r1 r2).call (rk_dr (tal := tal) hτ hs hc.2) (hG2 hc)
    obtain ⟨h', e3, e4⟩ := rv_122 (n := n) (G := G) hs M1 K0
    refine ⟨h', ?_, e4⟩
    rw [gI_ok (km_0 HM), bS, M.1.2.1, e1, bS]
    dsimp only at e2 ⊢
    rw [ckK_ok (km_0 HM), bS, e2, bS]
    dsimp only
    rw [bS, lI_add, ← Int.natCast_add]
    rw [if_pos hc] at eq
    rw [← eq]
    exact e3
  · rw [if_neg hc, if_pos rfl]
    rw [if_neg hc, Nat.add_zero] at eq
    rw [← eq]
    exact rv_122 hs M K0
theorem rv_60 (hn : 400000 ≤ n) {G : Sh → Hp → Nat → Int32 → Option (Int64 × Hp)} {h0 : Hp} {s : Nat} (hτ : TownOK τ) (hs : SV τ s) (hG : ∀ t, t < opn τ s → CJ z b τ P A tal md G (lvN s t)) (hG2 : md = true ∧ sL s = 1 → CJ z b τ P A tal md G (drN τ tal s)) (K0 : KJ b (b + 82) h0 τ (fun s => (cV τ tal md s : Int)) (rk τ s + 1)) : ∀ (d t i : Nat) (h : Hp), t + d = opn τ s → d < i → MidJ z b (b + 82) τ P A tal md (fun s => (cV τ tal md s : Int)) h0 h s → ∃ h', f_X12_coursesFrom_60 n G z i h (b + 72) (nI s) (lI (((if opn τ s = 0 ∧ ¬ (md = true ∧ sL s = 1) then 1 else 0) + t * cV τ tal md (lvN s 0) : Nat) : Int)) (nI t) = some (lI (cV τ tal md s : Int), h') ∧ Dz b h0 h' ∧ KJ b (b + 82) h' τ (fun s => (cV τ tal md s : Int)) (rk τ s + 1) ∧ JU b (b + 82) τ h0 h' s := by
  have hD := hτ.2.1
  have ho : opn τ s ≤ 4 := by unfold opn; split <;> omega
  have hs0 := hs.1
  intro d
  induction d with
  | zero =>
    intro t i h hj hi M
    obtain ⟨i, rfl⟩ : ∃ k, i = k + 1 := ⟨i - 1, by omega⟩
    obtain rfl : t = opn τ s := by omega
    have HM := M.1.1.1
    have hA := M.1.1.2.2.2.1
    rw [f_X12_coursesFrom_60.eq_2, gR_ok (km_0 HM) (rm_1 HM), bS, show (2 : Int32) = nI 2 from rfl, lm_1 HM (by omega), bS, M.1.1.2.2.1, hA.2.1]
    by_cases hy : sY s < tY τ
    · have e : opn τ s = tD τ := by unfold opn; rw [if_pos hy]
      rw [if_pos ((nI_leI (by omega) (by omega)).mpr (by omega))]
      exact rv_98 hn hτ hs hG2 M K0
    · have e : opn τ s = 0 := by unfold opn; rw [if_neg hy]
      rw [if_neg (fun q => by have := (nI_leI (by omega) (by omega)).mp q; omega), over_ok M.1.1 hs0, bS, if_neg hy, if_neg (show ¬ (1 : Int32) = 0 by decide)]
      exact rv_98 hn hτ hs hG2 M K0
  | succ d ih =>
    intro t i h hj hi M
    obtain ⟨i, rfl⟩ : ∃ k, i = k + 1 := ⟨i - 1, by omega⟩
    have HM := M.1.1.1
    have hA := M.1.1.2.2.2.1
    have hto : t < opn τ s := by omega
    obtain ⟨q1, q2⟩ := opn_lt hto
    have hr1 := rk_lv hτ hs q2 q1
    obtain ⟨h1, e1, M1, -⟩ := M.call (show rk τ (lvN s t) < rk τ s by omega) (hG t hto)
    obtain ⟨h', e2, e3⟩ := ih (t + 1) i h1 (by omega) (by omega) M1
    refine ⟨h', ?_, e3⟩
    rw [f_X12_coursesFrom_60.eq_2, gR_ok (km_0 HM) (rm_1 HM), bS, show (2 : Int32) = nI 2 from rfl, lm_1 HM (by omega), bS, M.1.1.2.2.1, hA.2.1, if_neg (fun q => by have := (nI_leI (by omega) (by omega)).mp q; omega), over_ok M.1.1 hs0, bS, if_pos q1, if_pos rfl, lv_ok hs0 (by omega), bS, ckK_ok (km_0 HM), bS, e1, bS]
    dsimp only
    rw [bS, bS, cV_lv hτ hs hto, lI_add, ← Int.natCast_add, show nI t + 1 = nI (t + 1) from nI_add t 1]
    rw [Nat.add_mul, Nat.one_mul, ← Nat.add_assoc] at e2
    exact e2
theorem rv_F (hn : 400000 ≤ n) {G : Sh → Hp → Nat → Int32 → Option (Int64 × Hp)} {s : Nat} (hτ : TownOK τ) (hs : SV τ s) (hG : ∀ t, t < opn τ s → CJ z b τ P A tal md G (lvN s t)) (hG2 : md = true ∧ sL s = 1 → CJ z b τ P A tal md G (drN τ tal s)) : CJ z b τ P A tal md (F_X12_coursesFrom n G) s := by
  intro h B K
  have HM := B.1.1
  have hs0 := hs.1
  have hD := hτ.2.1
  have ho : opn τ s ≤ 4 := by unfold opn; split <;> omega
  dsimp only
  unfold F_X12_coursesFrom
  rw [if_pos (km_0 HM), gR_ok (km_0 HM) (rm_24 HM), bS, lm_11 HM hs0, bS]
  rcases K.1 s hs0 with e | e
  · have B1 := (MidJ.start (s := s) B K 0 (by omega)).2.1
    have HM1 := B1.1.1
    have fin : ∀ u : Nat, u = (if opn τ s = 0 ∧ ¬ (md = true ∧ sL s = 1) then 1 else 0) → ∃ h', f_X12_coursesFrom_49 n G z (h.setI (b + 83) s (nI 1)) (b + 72) (nI s) (lI (u : Int)) (nI s) (b + 82) = some (lI (cV τ tal md s : Int), h') ∧ Dz b h h' ∧ KJ b (b + 82) h' τ (fun s => (cV τ tal md s : Int)) (rk τ s + 1) ∧ JU b (b + 82) τ h h' s := fun u hu => by
      have M := (MidJ.start (s := s) B K (lI (u : Int)) (by omega)).1
      unfold f_X12_coursesFrom_49
      rw [sm_10 HM1 hs0, bS, gR_ok (km_0 HM1) (rm_23 M.1.1.1), bS, lm_10 HM1 hs0, bS, setJ_J, if_pos rfl, show vp_updL ((h.setI (b + 83) s (nI 1)).J (b + 82)) s (lI (u : Int)) s = lI (u : Int) from if_pos rfl]
      have := rv_60 (n := n) (G := G) hn hτ hs hG hG2 K (opn τ s) 0 n _ (by omega) (by omega) M
      rw [Nat.zero_mul, Nat.add_zero, ← hu] at this
      exact this
    rw [e, if_pos (show nI 0 = 0 from rfl), bS, sm_11 HM hs0, bS, show vp_nar .boolean (1 : Int32) = nI 1 by decide, gR_ok (km_0 HM1) (rm_23 HM1), bS, over_ok B1.1 hs0, bS]
    unfold f_X12_coursesFrom_48
    by_cases hy : sY s < tY τ
    · have eo : opn τ s = tD τ := by unfold opn; rw [if_pos hy]
      rw [if_pos hy, if_pos rfl]
      exact fin 0 (by rw [if_neg (fun q => by omega)])
    · have eo : opn τ s = 0 := by unfold opn; rw [if_neg hy]
      rw [if_neg hy, if_neg (show ¬ (1 : Int32) = 0 by decide), can_ok B1 hs0, bS]
      by_cases hc : md = true ∧ sL s = 1
      · rw [if_pos hc, if_neg (show ¬ (1 : Int32) = 0 by decide)]
        exact fin 0 (by rw [if_neg (fun q => q.2 hc)])
      · rw [if_neg hc, if_pos rfl]
        exact fin 1 (by rw [if_pos ⟨eo, hc⟩])
  · refine ⟨h, ?_, Dz.refl b h, K, JU.refl b (b + 82) τ h s⟩
    rw [e, if_neg (show ¬ nI 1 = 0 by decide), gR_ok (km_0 HM) (rm_23 HM), bS, lm_10 HM hs0, bS, K.2 s hs (by omega) e]
theorem rv_ok (hn : 400000 ≤ n) (hτ : TownOK τ) : ∀ (k s : Nat), SV τ s → rk τ s < k → CJ z b τ P A tal md (rc_X12_coursesFrom n k) s := by
  intro k
  induction k with
  | zero => intro s _ h; omega
  | succ k ih =>
    intro s hs hr
    show CJ z b τ P A tal md (F_X12_coursesFrom n (rc_X12_coursesFrom n k)) s
    refine rv_F hn hτ hs (fun t ht => ?_) (fun q => ?_)
    · obtain ⟨q1, q2⟩ := opn_lt ht
      have := rk_lv hτ hs q2 q1
      exact ih _ (lv_SV hτ hs q2 q1).1 (by omega)
    · have := rk_dr (tal := tal) hτ hs q.2
      exact ih _ (dr_SV hτ hs).1 (by omega)
theorem KJ.none {r : Nat} {h : Hp} {V : Nat → Int} (H : ∀ s, s < 3430 → h.I (b + 83) s = nI 0) (R : Nat) : KJ b r h τ V R := ⟨fun s hs => Or.inl (H s hs), fun s hs _ hk => by
  rw [H s hs.1] at hk
  exact absurd hk (by decide)⟩
end
section
variable {n : Nat} {z0 : Sh} {h0 : Hp} {b c : Nat} {z : Sh} {h : Hp}
theorem courses_ok (I : Inv z0 h0 b c z h) (hn : 400000 ≤ n) (hc : c < 600) (p : Int32) : ∃ r h1 h2, f_X11_courses n z h b p = some (r, h1) ∧ f_X12_courses n z h1 (b + 72) p = some (r, h2) ∧ Inv z0 h0 b (c + 1) z h2 := by
  obtain ⟨t, τ, P, nx, sz, D⟩ := I.now
  obtain ⟨HX, HRef, hR3, hT, hT5, HA, -, -⟩ := id D
  obtain ⟨HM, hτ, -, hA, h3, h6, hp6⟩ := id HRef
  have km := km_0 HM
  have H0 := s72_r (b := b) HRef 0
  by_cases cp : 0 ≤ p.toInt ∧ p.toInt < P
  · obtain ⟨j, hj, rfl⟩ := nI_ex (P := P) cp
    obtain ⟨g, st, ts, e1, W, E, es⟩ := wab_ok (n := n) hn I hc D hj
    obtain ⟨-, hs, -⟩ := Per_st hτ (hp6 j hj)
    have HXg := W.1.1
    generalize hA73 : h.I (b + 73) = A at *
    obtain ⟨I1, H1⟩ := ways_end I D W E
    rw [hA73] at H1
    have H2 := s72_r (b := b) H1 0
    have h13 := rk_le hτ (aS A j)
    obtain ⟨k1, r1, C, B, k0, -⟩ := bg_ok (n := n) hn H2 hj
    obtain ⟨k2, r2, L, -⟩ := rv_ok (n := n) (z := z) (b := b) (P := P) (A := A) hn hτ 20 (aS A j) hs (by omega) k1 B (KJ.none k0 _)
    refine ⟨lI (cV τ (nv A (54 + j)) (decide (nv A (60 + j) = 0)) (aS A j) : Int), g, k2, ?_, ?_, ((ref_sc I1 0).sc C.sc).sc L.sc⟩
    · unfold f_X11_courses
      rw [if_pos (kx_0 HX), gR_ok (kx_0 HX) (rx_0_4 HX), bS, has_ok (now_PL HX) HA.1.1 h6, bS, if_pos cp, if_neg (show ¬ (1 : Int32) = 0 by decide), gR_ok (kx_0 HX) (rx_0_12 HX), bS, gR_ok (kx_0 HX) hR3, bS, bS, e1, bS, gR_ok (kx_0 HX) (rx_0_13 HXg), bS, hm_ok hn W hs es, bS]
    · unfold f_X12_courses
      have r3 : f_X12_coursesFrom n z k1 (b + 72) (nI (aS A j)) = some (lI (cV τ (nv A (54 + j)) (decide (nv A (60 + j) = 0)) (aS A j) : Int), k2) := r2
      rw [if_pos (km_0 H1.1), pI_ok (km_0 H1.1), bS, w_isp H2 hj, bS, if_neg (show ¬ (1 : Int32) = 0 by decide), r1, bS, now_ok B.1 hj, bS, r3, bS]
  · refine ⟨-99000002, h, h.setI (b + 72) 0 0, ?_, ?_, (ref_sc I 0).up⟩
    · unfold f_X11_courses
      rw [if_pos (kx_0 HX), gR_ok (kx_0 HX) (rx_0_4 HX), bS, has_ok (now_PL HX) HA.1.1 h6, bS, if_neg cp, if_pos rfl]
      rfl
    · unfold f_X12_courses
      rw [if_pos km, pI_ok km, bS, isP_ok H0, bS, to64, if_neg cp, if_pos rfl]
end
