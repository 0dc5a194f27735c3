/-! ===== what to try ===== -/
def upN (f : Nat → Nat) (k v : Nat) : Nat → Nat := fun j => if j = k then v else f j
def gr (τ : TT) (tal s t : Nat) : Nat := (wV τ tal s t + 9).toNat
def mA (τ : TT) (s t k : Nat) : Nat → Nat → (Nat → Nat) → Nat → Nat
  | 0, _, _, m => m
  | d + 1, tal, cn, m => if k / 2 ^ tal % 2 = 1 then mA τ s t k d (tal + 1) (upN cn (gr τ tal s t) (cn (gr τ tal s t) + 1)) (max m (cn (gr τ tal s t) + 1)) else mA τ s t k d (tal + 1) cn m
theorem bit10 : ∀ k, k < 1024 → ∀ j, j < 10 → (((nI k >>> (nI j &&& 31)) &&& 1) = 0 ↔ ¬ k / 2 ^ j % 2 = 1) := by decide +kernel
theorem isIn10 {z : Sh} {h : Hp} : ∀ s, s < 1024 → ∀ j, j < 10 → f_X12_isIn z h (Int32.toInt64 (nI s)) (nI j) = some (if s / 2 ^ j % 2 = 1 then 1 else 0) := by
  unfold f_X12_isIn
  decide +kernel
theorem gri_ok (τ : TT) (tal s t : Nat) : gr τ tal s t < 19 ∧ (iI (wV τ tal s t) - (-9) = nI (gr τ tal s t)) ∧ (9 + iI (wV τ tal s t) = nI (gr τ tal s t)) := by
  have := wV_bd τ tal s t
  unfold gr
  refine ⟨by omega, ?_, ?_⟩
  · rw [lit_m9, iI_sub, nI_iI]
    congr 1
    omega
  · rw [lit_9, iI_add, nI_iI]
    congr 1
    omega
theorem max_ok {z : Sh} {h : Hp} {a c : Nat} (h1 : a < 2147483648) (h2 : c < 2147483648) : f_J9_max_7cf53 z h (nI a) (nI c) = some (nI (max a c)) := by
  unfold f_J9_max_7cf53
  by_cases hc : a < c
  · rw [if_pos ((nI_lt2 h1 h2).mpr hc), Nat.max_eq_right (by omega)]
  · rw [if_neg (fun q => hc ((nI_lt2 h1 h2).mp q)), Nat.max_eq_left (by omega)]
/-- a row of counts -/
def RowN (r : Nat → Int32) (cn : Nat → Nat) (B : Nat) : Prop := ∀ k, k < 19 → r k = nI (cn k) ∧ cn k ≤ B
theorem RowN.up {r : Nat → Int32} {cn : Nat → Nat} {B g : Nat} (H : RowN r cn B) (hg : g < 19) : RowN (upd r g (nI (cn g + 1))) (upN cn g (cn g + 1)) (B + 1) := fun k hk => by
  unfold upd upN
  by_cases e : k = g
  · rw [if_pos e, if_pos e]
    exact ⟨rfl, by have := (H g hg).2; omega⟩
  · rw [if_neg e, if_neg e]
    exact ⟨(H k hk).1, by have := (H k hk).2; omega⟩
section
variable {n : Nat} {z : Sh} {b : Nat} {τ : TT} {P t : Nat}
theorem alk_25 (hn : 400000 ≤ n) (hτ : TownOK τ) (h6 : P ≤ 6) {p : Nat} (hp : p < P) {tr k s : Nat} (htr : tr < tD τ) (hk : k < 1024) :
    ∀ (d tal i m : Nat) (cn : Nat → Nat) (g : Hp) (A : Nat → Int32), tal + d = 10 → d < i → m ≤ tal → LayX z g.2.2 b → g.R b 3 = some t → TownX b z g t τ → PplI τ P (g.I (b + 13)) (g.I (b + 14)) A → aS A p = s → RowN (g.I (b + 59)) cn tal → ∃ g', f_X11_mostAlike_25 n z i g b (nI p) (nI tr) (nI k) (nI m) (nI tal) = some (nI (mA τ s tr k d tal cn m), g') ∧ Sc b g g' := by
  intro d
  induction d with
  | zero =>
    intro tal i m cn g A hj hi hm HX hR3 hT HA hs hr
    obtain ⟨i, rfl⟩ : ∃ k, i = k + 1 := ⟨i - 1, by omega⟩
    obtain rfl : tal = 10 := by omega
    refine ⟨g, ?_, Sc.refl ..⟩
    rw [f_X11_mostAlike_25.eq_2, if_pos (by decide)]
    rfl
  | succ d ih =>
    intro tal i m cn g A hj hi hm HX hR3 hT HA hs hr
    obtain ⟨i, rfl⟩ : ∃ k, i = k + 1 := ⟨i - 1, by omega⟩
    have hD := hτ.2.1
    rw [f_X11_mostAlike_25.eq_2, if_neg (show ¬ (10 : Int32) ≤ nI tal from fun q => by have := (nI_leI (a := 10) (by omega) (by omega)).mp q; omega)]
    unfold mA f_X11_mostAlike_125
    by_cases hb : k / 2 ^ tal % 2 = 1
    · rw [if_neg (fun q => (bit10 k hk tal (by omega)).mp q hb), if_pos hb]
      have x2 : PeopleX ((g.setI (b + 14) (9 * p + 6) (nI tal)).I (b + 13)) ((g.setI (b + 14) (9 * p + 6) (nI tal)).I (b + 14)) (upd A (54 + p) (nI tal)) P := by
        rw [setI_I, if_neg (by omega), setI_I, if_pos rfl]
        exact PX_tal h6 hp HA.1
      have S1 : Sc b g (g.setI (b + 14) (9 * p + 6) (nI tal)) := Sc.row b g 14 _ rfl (by omega)
      have e59 : (g.setI (b + 14) (9 * p + 6) (nI tal)).I (b + 59) = g.I (b + 59) := rowI_ne _ _ (by omega)
      rw [gR_ok (kx_0 HX) (rx_0_5 HX), bS, show (6 : Int32) = nI 6 from rfl, put_ok (trial_PL HX) (by omega) (by omega), bS]
      generalize g.setI (b + 14) (9 * p + 6) (nI tal) = g1 at *
      have HX1 : LayX z g1.2.2 b := by rw [S1.1]; exact HX
      obtain ⟨as1, as2⟩ := aS_tal (A := A) (j := p) (v := nI tal) (by omega)
      have per := per_tal (tal := tal) (by omega) h6 hp HA.2
      obtain ⟨s0, s1, -⟩ := Per_st hτ (per p hp)
      have hX := PX_P x2 hp
      rw [gR_ok (kx_0 HX) (rx_0_10 HX1), bS, gR_ok (kx_0 HX) (rx_0_5 HX1), bS, about_ok HX1 (trial_PL HX1) (by omega) (by omega), bS]
      generalize hF : (upd (upd (upd (upd (upd (upd (g1.I (b + 41)) 0 (g1.I (b + 14) (9 * p + 6))) 1 (g1.I (b + 14) (9 * p))) 3 (g1.I (b + 14) (9 * p + 3))) 4 (g1.I (b + 14) (9 * p + 4))) 5 (g1.I (b + 14) (9 * p + 1))) 6 (g1.I (b + 14) (9 * p + 5))) = F
      have S2 : Sc b g1 (g1.rowI (b + 41) F) := Sc.row b g1 41 F rfl (by omega)
      have tal1 : nv (upd A (54 + p) (nI tal)) (54 + p) = tal := nv_of (by unfold upd; rw [if_pos rfl]) (by omega)
      obtain ⟨r1, r2, hw⟩ := cworth_ok (n := n) (z := z) (h := g1.rowI (b + 41) F) (b := b) HX1 hn hτ (hT.fr (S1.trans S2).fr) (tal := tal) (s := s) (tr := tr) (by omega) (by rw [← hs, ← as1]; exact s1.1) (by omega) (by
        rw [rowI_I, ← hF]
        have := abt_f (F := g1.I (b + 41)) (tr := tr) hτ (per p hp) hX
        rw [tal1, as1, hs] at this
        exact this)
      have S3 : Sc b g1 (((g1.rowI (b + 41) F).rowI (b + 41) r1).rowI (b + 42) r2) := (S2.trans (Sc.row b _ 41 r1 rfl (by omega))).trans (Sc.row b _ 42 r2 rfl (by omega))
      have f59 : (((g1.rowI (b + 41) F).rowI (b + 41) r1).rowI (b + 42) r2).I (b + 59) = g1.I (b + 59) := by rw [rowI_ne _ _ (by omega), rowI_ne _ _ (by omega), rowI_ne _ _ (by omega)]
      have f13 : (((g1.rowI (b + 41) F).rowI (b + 41) r1).rowI (b + 42) r2).I (b + 13) = g1.I (b + 13) := by rw [rowI_ne _ _ (by omega), rowI_ne _ _ (by omega), rowI_ne _ _ (by omega)]
      have f14 : (((g1.rowI (b + 41) F).rowI (b + 41) r1).rowI (b + 42) r2).I (b + 14) = g1.I (b + 14) := by rw [rowI_ne _ _ (by omega), rowI_ne _ _ (by omega), rowI_ne _ _ (by omega)]
      rw [gR_ok (kx_0 HX) (rx_0_10 (h := g1.rowI (b + 41) F) HX1), bS, gR_ok (kx_0 HX) (show (g1.rowI (b + 41) F).R b 3 = some t by show g1.R b 3 = some t; rw [S1.R]; exact hR3), bS, hw, bS]
      dsimp only
      generalize ((g1.rowI (b + 41) F).rowI (b + 41) r1).rowI (b + 42) r2 = g2 at *
      have HX2 : LayX z g2.2.2 b := by rw [S3.1]; exact HX1
      obtain ⟨q1, q2, q3⟩ := gri_ok τ tal s tr
      obtain ⟨c1, c2⟩ := hr (gr τ tal s tr) q1
      have l59 : ldI z g2 (b + 59) (nI (gr τ tal s tr)) = some (nI (cn (gr τ tal s tr))) := by
        rw [ldI_ok (kx_59 HX) (nx_59 HX) rfl q1 (by omega), f59, e59, c1]
      have st59 : stI z g2 (b + 59) (nI (gr τ tal s tr)) (nI (cn (gr τ tal s tr) + 1)) = some (g2.setI (b + 59) (gr τ tal s tr) (nI (cn (gr τ tal s tr) + 1))) := stI_ok (kx_59 HX) (nx_59 HX) rfl q1 (by omega)
      have S4 : Sc b g2 (g2.setI (b + 59) (gr τ tal s tr) (nI (cn (gr τ tal s tr) + 1))) := Sc.row b g2 59 _ rfl (by omega)
      rw [bS, q2, if_neg (nI_pos (by omega)), gR_ok (kx_0 HX) (rx_0_15 HX2), bS, aL_ok (kx_59 HX) rfl (nx_59 HX), bS, if_neg (fun q => by have := (nI_leI (by omega) (by omega)).mp q; omega), bS, l59, bS, show nI (cn (gr τ tal s tr)) + 1 = nI (cn (gr τ tal s tr) + 1) from nI_add _ 1, st59, bS]
      have i59 : (g2.setI (b + 59) (gr τ tal s tr) (nI (cn (gr τ tal s tr) + 1))).I (b + 59) = upd (g.I (b + 59)) (gr τ tal s tr) (nI (cn (gr τ tal s tr) + 1)) := by rw [setI_I, if_pos rfl, f59, e59]
      have i13 : (g2.setI (b + 59) (gr τ tal s tr) (nI (cn (gr τ tal s tr) + 1))).I (b + 13) = g1.I (b + 13) := (rowI_ne _ _ (by omega)).trans f13
      have i14 : (g2.setI (b + 59) (gr τ tal s tr) (nI (cn (gr τ tal s tr) + 1))).I (b + 14) = g1.I (b + 14) := (rowI_ne _ _ (by omega)).trans f14
      generalize g2.setI (b + 59) (gr τ tal s tr) (nI (cn (gr τ tal s tr) + 1)) = g3 at *
      have SS := (S1.trans S3).trans S4
      have HX3 : LayX z g3.2.2 b := by rw [S4.1]; exact HX2
      have l3 : ldI z g3 (b + 59) (nI (gr τ tal s tr)) = some (nI (cn (gr τ tal s tr) + 1)) := by
        rw [ldI_ok (kx_59 HX) (nx_59 HX) rfl q1 (by omega), i59, upd, if_pos rfl]
      rw [gR_ok (kx_0 HX) (rx_0_15 HX3), bS, l3, bS, max_ok (by omega) (by omega), bS, bS, show nI tal + 1 = nI (tal + 1) from nI_add tal 1]
      obtain ⟨g', e1, e2⟩ := ih (tal + 1) i (max m (cn (gr τ tal s tr) + 1)) (upN cn (gr τ tal s tr) (cn (gr τ tal s tr) + 1)) g3 (upd A (54 + p) (nI tal)) (by omega) (by omega) (by omega) HX3 (by rw [SS.R]; exact hR3) (hT.fr SS.fr) ⟨by rw [i13, i14]; exact x2, per⟩ (by rw [as1, hs]) (by rw [i59]; exact hr.up q1)
      exact ⟨g', e1, SS.trans e2⟩
    · rw [if_pos ((bit10 k hk tal (by omega)).mpr hb), if_neg hb, bS, show nI tal + 1 = nI (tal + 1) from nI_add tal 1]
      exact ih (tal + 1) i m cn g A (by omega) (by omega) (by omega) HX hR3 hT HA hs (fun k hk => ⟨(hr k hk).1, by have := (hr k hk).2; omega⟩)
theorem alk_ok (hn : 400000 ≤ n) (hτ : TownOK τ) (h6 : P ≤ 6) {p : Nat} (hp : p < P) {tr k : Nat} (htr : tr < tD τ) (hk : k < 1024) {g : Hp} {A : Nat → Int32} (HX : LayX z g.2.2 b) (hR3 : g.R b 3 = some t) (hT : TownX b z g t τ) (HA : PplI τ P (g.I (b + 11)) (g.I (b + 12)) A) : ∃ g', f_X11_mostAlike n z g b (nI p) (nI tr) (nI k) = some (nI (mA τ (aS A p) tr k 10 0 (fun _ => 0) 0), g') ∧ Sc b g g' := by
  have S1 : Sc b g (g.rowI (b + 59) (flI (g.I (b + 59)) 0 19)) := Sc.row b g 59 _ rfl (by omega)
  have e59 : (g.rowI (b + 59) (flI (g.I (b + 59)) 0 19)).I (b + 59) = flI (g.I (b + 59)) 0 19 := rowI_I _ _ _
  unfold f_X11_mostAlike
  rw [if_pos (kx_0 HX), gR_ok (kx_0 HX) (rx_0_15 HX), bS, fillI_ok (kx_59 HX) (nx_59 HX) (by omega) (by omega), bS]
  have i11 : (g.rowI (b + 59) (flI (g.I (b + 59)) 0 19)).I (b + 11) = g.I (b + 11) := rowI_ne _ _ (by omega)
  have i12 : (g.rowI (b + 59) (flI (g.I (b + 59)) 0 19)).I (b + 12) = g.I (b + 12) := rowI_ne _ _ (by omega)
  generalize g.rowI (b + 59) (flI (g.I (b + 59)) 0 19) = g1 at *
  have HX1 : LayX z g1.2.2 b := by rw [S1.1]; exact HX
  have cp := copy_ok (h := g1) (trial_PL HX1) (now_PL HX1) (by omega) (by omega)
  have S2 : Sc b g1 ((g1.rowI (b + 14) (va_cpy (g1.I (b + 12)) (g1.I (b + 14)) 0 0 54)).rowI (b + 13) (upd (upd (g1.I (b + 13)) 1 (g1.I (b + 11) 1)) 2 (g1.I (b + 11) 2))) := (Sc.row b g1 14 _ rfl (by omega)).trans (Sc.row b _ 13 _ rfl (by omega))
  have x1 : PeopleX (((g1.rowI (b + 14) (va_cpy (g1.I (b + 12)) (g1.I (b + 14)) 0 0 54)).rowI (b + 13) (upd (upd (g1.I (b + 13)) 1 (g1.I (b + 11) 1)) 2 (g1.I (b + 11) 2))).I (b + 13)) (((g1.rowI (b + 14) (va_cpy (g1.I (b + 12)) (g1.I (b + 14)) 0 0 54)).rowI (b + 13) (upd (upd (g1.I (b + 13)) 1 (g1.I (b + 11) 1)) 2 (g1.I (b + 11) 2))).I (b + 14)) A P := by
    rw [rowI_I, rowI_ne _ _ (by omega), rowI_I, i11, i12]
    exact HA.1.cp h6 (by rw [upd, if_neg (by omega), upd, if_pos rfl]) (by rw [upd, if_pos rfl]) (fun k hk => cp54 hk)
  have j59 : ((g1.rowI (b + 14) (va_cpy (g1.I (b + 12)) (g1.I (b + 14)) 0 0 54)).rowI (b + 13) (upd (upd (g1.I (b + 13)) 1 (g1.I (b + 11) 1)) 2 (g1.I (b + 11) 2))).I (b + 59) = g1.I (b + 59) := by rw [rowI_ne _ _ (by omega), rowI_ne _ _ (by omega)]
  rw [gR_ok (kx_0 HX) (rx_0_5 HX1), bS, gR_ok (kx_0 HX) (rx_0_4 HX1), bS, cp, bS]
  generalize (g1.rowI (b + 14) (va_cpy (g1.I (b + 12)) (g1.I (b + 14)) 0 0 54)).rowI (b + 13) (upd (upd (g1.I (b + 13)) 1 (g1.I (b + 11) 1)) 2 (g1.I (b + 11) 2)) = g2 at *
  have SS := S1.trans S2
  obtain ⟨g', e1, e2⟩ := alk_25 (n := n) (z := z) (b := b) (τ := τ) (P := P) (t := t) hn hτ h6 hp (tr := tr) (k := k) (s := aS A p) htr hk 10 0 n 0 (fun _ => 0) g2 A (by omega) (by omega) (by omega) (by rw [S2.1]; exact HX1) (by rw [SS.R]; exact hR3) (hT.fr SS.fr) ⟨x1, HA.2⟩ rfl (fun j hj => by
    rw [j59, e59, flI, if_pos hj]
    exact ⟨rfl, Nat.le_refl _⟩)
  exact ⟨g', e1, SS.trans e2⟩
/-- the reference's -/
theorem oft_30 (hn : 400000 ≤ n) {p : Nat} (hp : p < P) {A : Nat → Int32} {tr k : Nat} (htr : tr < tD τ) (hk : k < 1024) :
    ∀ (d tal i m : Nat) (cn : Nat → Nat) (g : Hp), tal + d = 10 → d < i → m ≤ tal → RefI b z g τ P A → RowN (g.I (b + 88)) cn tal → ∃ g', f_X12_mostOften_30 n z i g (b + 72) (nI p) (nI tr) (nI k) (nI m) (nI tal) = some (nI (mA τ (aS A p) tr k d tal cn m), g') ∧ Sc b g g' := by
  intro d
  induction d with
  | zero =>
    intro tal i m cn g hj hi hm H hr
    obtain ⟨i, rfl⟩ : ∃ k, i = k + 1 := ⟨i - 1, by omega⟩
    obtain rfl : tal = 10 := by omega
    refine ⟨g, ?_, Sc.refl ..⟩
    rw [f_X12_mostOften_30.eq_2, if_pos (by decide)]
    rfl
  | succ d ih =>
    intro tal i m cn g hj hi hm H hr
    obtain ⟨i, rfl⟩ : ∃ k, i = k + 1 := ⟨i - 1, by omega⟩
    have hτ := H.2.1
    have hD := hτ.2.1
    have HM := H.1
    have km := km_0 HM
    rw [f_X12_mostOften_30.eq_2, if_neg (show ¬ (10 : Int32) ≤ nI tal from fun q => by have := (nI_leI (a := 10) (by omega) (by omega)).mp q; omega), isIn10 k hk tal (by omega), bS]
    unfold mA
    by_cases hb : k / 2 ^ tal % 2 = 1
    · obtain ⟨s0, s1, -⟩ := Per_st hτ (H.2.2.2.2.2.2 p hp)
      obtain ⟨r1, r2, hw⟩ := mworth_ok (n := n) (z := z) (h := g) HM hn hτ (by rw [H.2.2.1]; exact H.2.2.2.1) (tal := tal) (s := aS A p) (t := tr) (by omega) s1.1 (by omega)
      have S1 : Sc b g ((g.rowI (b + 78) r1).rowI (b + 77) r2) := (Sc.row b g 78 r1 rfl (by omega)).trans (Sc.row b _ 77 r2 rfl (by omega))
      have e88 : ((g.rowI (b + 78) r1).rowI (b + 77) r2).I (b + 88) = g.I (b + 88) := by rw [rowI_ne _ _ (by omega), rowI_ne _ _ (by omega)]
      rw [if_pos hb, if_pos hb, if_neg (by decide), now_ok H hp, bS, hw, bS]
      dsimp only
      generalize (g.rowI (b + 78) r1).rowI (b + 77) r2 = g1 at *
      have HM1 : LayR z g1.2.2 (b + 72) := by rw [S1.1]; exact HM
      obtain ⟨q1, q2, q3⟩ := gri_ok τ tal (aS A p) tr
      obtain ⟨c1, c2⟩ := hr (gr τ tal (aS A p) tr) q1
      rw [bS, q3, gR_ok km (rm_31 HM1), bS, lm_16 HM1 q1, bS, e88, c1, show nI (cn (gr τ tal (aS A p) tr)) + 1 = nI (cn (gr τ tal (aS A p) tr) + 1) from nI_add _ 1, sm_16 HM1 q1, bS]
      have S2 : Sc b g1 (g1.setI (b + 88) (gr τ tal (aS A p) tr) (nI (cn (gr τ tal (aS A p) tr) + 1))) := Sc.row b g1 88 _ rfl (by omega)
      have i88 : (g1.setI (b + 88) (gr τ tal (aS A p) tr) (nI (cn (gr τ tal (aS A p) tr) + 1))).I (b + 88) = upd (g.I (b + 88)) (gr τ tal (aS A p) tr) (nI (cn (gr τ tal (aS A p) tr) + 1)) := by rw [setI_I, if_pos rfl, e88]
      generalize g1.setI (b + 88) (gr τ tal (aS A p) tr) (nI (cn (gr τ tal (aS A p) tr) + 1)) = g2 at *
      have SS := S1.trans S2
      have HM2 : LayR z g2.2.2 (b + 72) := by rw [S2.1]; exact HM1
      obtain ⟨g', e1, e2⟩ := ih (tal + 1) i (max m (cn (gr τ tal (aS A p) tr) + 1)) (upN cn (gr τ tal (aS A p) tr) (cn (gr τ tal (aS A p) tr) + 1)) g2 (by omega) (by omega) (by omega) (H.fr SS.1 (SS.I rfl)) (by rw [i88]; exact hr.up q1)
      refine ⟨g', ?_, SS.trans e2⟩
      rw [gR_ok km (rm_31 HM2), bS, lm_16 HM2 q1, bS, i88, upd, if_pos rfl, bS, lm_16 HM2 q1, bS, i88, upd, if_pos rfl]
      unfold f_X12_mostOften_102 f_X12_mostOften_104
      rw [bS, bS, show nI tal + 1 = nI (tal + 1) from nI_add tal 1]
      by_cases hc : cn (gr τ tal (aS A p) tr) + 1 ≤ m
      · rw [if_pos ((nI_leI (by omega) (by omega)).mpr hc)]
        rw [Nat.max_eq_left hc] at e1 ⊢
        exact e1
      · rw [if_neg (fun q => hc ((nI_leI (by omega) (by omega)).mp q))]
        rw [Nat.max_eq_right (by omega)] at e1 ⊢
        exact e1
    · rw [if_neg hb, if_neg hb, if_pos rfl]
      unfold f_X12_mostOften_104
      rw [bS, show nI tal + 1 = nI (tal + 1) from nI_add tal 1]
      exact ih (tal + 1) i m cn g (by omega) (by omega) (by omega) H (fun k hk => ⟨(hr k hk).1, by have := (hr k hk).2; omega⟩)
theorem oft_6 {g : Hp} (HM : LayR z g.2.2 (b + 72)) (f : Nat → Int32) (p tr k m : Int32) : ∀ (d j i : Nat), j + d = 19 → d < i → f_X12_mostOften_6 n z i (g.rowI (b + 88) (flI f 0 j)) (b + 72) p tr k m (nI j) = f_X12_mostOften_30 n z n (g.rowI (b + 88) (flI f 0 19)) (b + 72) p tr k m 0 := by
  intro d
  induction d with
  | zero =>
    intro j i hj hi
    obtain ⟨i, rfl⟩ : ∃ k, i = k + 1 := ⟨i - 1, by omega⟩
    obtain rfl : j = 19 := by omega
    rw [f_X12_mostOften_6.eq_2, if_pos (by decide)]
  | succ d ih =>
    intro j i hj hi
    obtain ⟨i, rfl⟩ : ∃ k, i = k + 1 := ⟨i - 1, by omega⟩
    have HM1 : LayR z (g.rowI (b + 88) (flI f 0 j)).2.2 (b + 72) := HM
    rw [f_X12_mostOften_6.eq_2, if_neg (show ¬ (19 : Int32) ≤ nI j from fun q => by have := (nI_leI (a := 19) (by omega) (by omega)).mp q; omega), gR_ok (km_0 HM) (rm_31 HM1), bS, sm_16 HM1 (by omega), bS, bS, rowI_setI, flI_s, show nI j + 1 = nI (j + 1) from nI_add j 1]
    exact ih (j + 1) i (by omega) (by omega)
theorem oft_ok (hn : 400000 ≤ n) {p : Nat} (hp : p < P) {A : Nat → Int32} {tr k : Nat} (htr : tr < tD τ) (hk : k < 1024) {g : Hp} (H : RefI b z g τ P A) : ∃ g', f_X12_mostOften n z g (b + 72) (nI p) (nI tr) (nI k) = some (nI (mA τ (aS A p) tr k 10 0 (fun _ => 0) 0), g') ∧ Sc b g g' := by
  have h1 := oft_6 (n := n) (z := z) (g := g) H.1 (g.I (b + 88)) (nI p) (nI tr) (nI k) 0 19 0 n (by omega) (by omega)
  rw [flI_0, rowI_self] at h1
  have S1 : Sc b g (g.rowI (b + 88) (flI (g.I (b + 88)) 0 19)) := Sc.row b g 88 _ rfl (by omega)
  obtain ⟨g', e1, e2⟩ := oft_30 (n := n) (z := z) (b := b) (τ := τ) hn hp (A := A) htr hk 10 0 n 0 (fun _ => 0) (g.rowI (b + 88) (flI (g.I (b + 88)) 0 19)) (by omega) (by omega) (by omega) (H.fr S1.1 (S1.I rfl)) (fun j hj => by
    rw [rowI_I, flI, if_pos hj]
    exact ⟨rfl, Nat.le_refl _⟩)
  refine ⟨g', ?_, S1.trans e2⟩
  unfold f_X12_mostOften
  rw [if_pos (km_0 H.1)]
  exact h1.trans e1
def aT (τ : TT) (s k : Nat) : Nat → Nat → Int32 → Nat → Int32
  | 0, _, be, _ => be
  | d + 1, t, be, le => if le ≤ mA τ s t k 10 0 (fun _ => 0) 0 then aT τ s k d (t + 1) be le else aT τ s k d (t + 1) (nI t) (mA τ s t k 10 0 (fun _ => 0) 0)
theorem mA_le {τ : TT} {s t k : Nat} : ∀ (d tal m : Nat) (cn : Nat → Nat), tal + d = 10 → m ≤ tal → (∀ j, j < 19 → cn j ≤ tal) → mA τ s t k d tal cn m ≤ 10 := by
  intro d
  induction d with
  | zero => intro tal m cn h1 h2 _; unfold mA; omega
  | succ d ih =>
    intro tal m cn h1 h2 h3
    unfold mA
    split
    · have q := (gri_ok τ tal s t).1
      have := h3 _ q
      refine ih (tal + 1) _ _ (by omega) (by omega) (fun j hj => ?_)
      unfold upN
      split
      · omega
      · have := h3 j hj
        omega
    · exact ih (tal + 1) m cn (by omega) (by omega) (fun j hj => by have := h3 j hj; omega)
theorem att_c (hn : 400000 ≤ n) (hτ : TownOK τ) (h6 : P ≤ 6) {p : Nat} (hp : p < P) {k : Nat} (hk : k < 1024) (hk0 : k ≠ 0) {A : Nat → Int32} : ∀ (d tr i le : Nat) (be : Int32) (g : Hp), tr + d = tD τ → d < i → le ≤ 11 → LayX z g.2.2 b → g.R b 3 = some t → TownX b z g t τ → PplI τ P (g.I (b + 11)) (g.I (b + 12)) A → ∃ g', f_X11_attempt_42 n z i g b (nI p) (nI k) be (nI le) (nI tr) = some (aT τ (aS A p) k d tr be le, g') ∧ Sc b g g' := by
  have hD := hτ.2.1
  have k0 : ¬ nI k = 0 := fun q => hk0 ((nI_inj (j := 0) (by omega) (by omega)).mp q)
  intro d
  induction d with
  | zero =>
    intro tr i le be g hj hi hle HX hR3 hT HA
    obtain ⟨i, rfl⟩ : ∃ k, i = k + 1 := ⟨i - 1, by omega⟩
    obtain rfl : tr = tD τ := by omega
    refine ⟨g, ?_, Sc.refl ..⟩
    rw [f_X11_attempt_42.eq_2, if_neg k0, gR_ok (kx_0 HX) hR3, bS, gI_ok hT.2.1, bS, hT.2.2.2.1, if_pos ((nI_leI (by omega) (by omega)).mpr (Nat.le_refl _))]
    rfl
  | succ d ih =>
    intro tr i le be g hj hi hle HX hR3 hT HA
    obtain ⟨i, rfl⟩ : ∃ k, i = k + 1 := ⟨i - 1, by omega⟩
    obtain ⟨g1, e1, S1⟩ := alk_ok (n := n) (z := z) (b := b) (τ := τ) (P := P) (t := t) hn hτ h6 hp (tr := tr) (k := k) (by omega) hk HX hR3 hT HA
    have hl := mA_le (τ := τ) (s := aS A p) (t := tr) (k := k) 10 0 0 (fun _ => 0) (by omega) (by omega) (fun _ _ => Nat.le_refl _)
    have HX1 : LayX z g1.2.2 b := by rw [S1.1]; exact HX
    have HA1 : PplI τ P (g1.I (b + 11)) (g1.I (b + 12)) A := by
      rw [show g1.I (b + 11) = g.I (b + 11) from S1.I rfl, show g1.I (b + 12) = g.I (b + 12) from S1.I rfl]
      exact HA
    rw [f_X11_attempt_42.eq_2, if_neg k0, gR_ok (kx_0 HX) hR3, bS, gI_ok hT.2.1, bS, hT.2.2.2.1, if_neg (fun q => by have := (nI_leI (by omega) (by omega)).mp q; omega), e1, bS]
    dsimp only
    unfold f_X11_attempt_85 aT
    rw [bS, bS, show nI tr + 1 = nI (tr + 1) from nI_add tr 1]
    by_cases hc : le ≤ mA τ (aS A p) tr k 10 0 (fun _ => 0) 0
    · rw [if_pos ((nI_leI (by omega) (by omega)).mpr hc), if_pos hc]
      obtain ⟨g', f1, f2⟩ := ih (tr + 1) i le be g1 (by omega) (by omega) hle HX1 (by rw [S1.R]; exact hR3) (hT.fr S1.fr) HA1
      exact ⟨g', f1, S1.trans f2⟩
    · rw [if_neg (fun q => hc ((nI_leI (by omega) (by omega)).mp q)), if_neg hc]
      obtain ⟨g', f1, f2⟩ := ih (tr + 1) i (mA τ (aS A p) tr k 10 0 (fun _ => 0) 0) (nI tr) g1 (by omega) (by omega) (by omega) HX1 (by rw [S1.R]; exact hR3) (hT.fr S1.fr) HA1
      exact ⟨g', f1, S1.trans f2⟩
theorem att_m (hn : 400000 ≤ n) {p : Nat} (hp : p < P) {k : Nat} (hk : k < 1024) (hk0 : k ≠ 0) {A : Nat → Int32} (hτ : TownOK τ) : ∀ (d tr i le : Nat) (be : Int32) (g : Hp), tr + d = tD τ → d < i → le ≤ 11 → RefI b z g τ P A → ∃ g', f_X12_attempt_40 n z i g (b + 72) (nI p) (nI k) be (nI le) (nI tr) = some (aT τ (aS A p) k d tr be le, g') ∧ Sc b g g' := by
  have hD := hτ.2.1
  have k0 : ¬ nI k = 0 := fun q => hk0 ((nI_inj (j := 0) (by omega) (by omega)).mp q)
  intro d
  induction d with
  | zero =>
    intro tr i le be g hj hi hle H
    obtain ⟨i, rfl⟩ : ∃ k, i = k + 1 := ⟨i - 1, by omega⟩
    obtain rfl : tr = tD τ := by omega
    have HM := H.1
    refine ⟨g, ?_, Sc.refl ..⟩
    rw [f_X12_attempt_40.eq_2, gR_ok (km_0 HM) (rm_1 HM), bS, show (2 : Int32) = nI 2 from rfl, lm_1 HM (by omega), bS, H.2.2.1, H.2.2.2.1.2.1, if_pos ((nI_leI (by omega) (by omega)).mpr (Nat.le_refl _))]
    rfl
  | succ d ih =>
    intro tr i le be g hj hi hle H
    obtain ⟨i, rfl⟩ : ∃ k, i = k + 1 := ⟨i - 1, by omega⟩
    have HM := H.1
    obtain ⟨g1, e1, S1⟩ := oft_ok (n := n) (z := z) (b := b) (τ := τ) (P := P) hn hp (A := A) (tr := tr) (k := k) (by omega) hk H
    have hl := mA_le (τ := τ) (s := aS A p) (t := tr) (k := k) 10 0 0 (fun _ => 0) (by omega) (by omega) (fun _ _ => Nat.le_refl _)
    rw [f_X12_attempt_40.eq_2, gR_ok (km_0 HM) (rm_1 HM), bS, show (2 : Int32) = nI 2 from rfl, lm_1 HM (by omega), bS, H.2.2.1, H.2.2.2.1.2.1, if_neg (fun q => by have := (nI_leI (by omega) (by omega)).mp q; omega), if_neg k0, e1, bS]
    dsimp only
    unfold f_X12_attempt_85 aT
    rw [bS, bS, show nI tr + 1 = nI (tr + 1) from nI_add tr 1]
    by_cases hc : le ≤ mA τ (aS A p) tr k 10 0 (fun _ => 0) 0
    · rw [if_neg (fun q => by have := (nI_lt2 (by omega) (by omega)).mp q; omega), if_pos hc]
      obtain ⟨g', f1, f2⟩ := ih (tr + 1) i le be g1 (by omega) (by omega) hle (H.fr S1.1 (S1.I rfl))
      exact ⟨g', f1, S1.trans f2⟩
    · rw [if_pos ((nI_lt2 (by omega) (by omega)).mpr (by omega)), if_neg hc]
      obtain ⟨g', f1, f2⟩ := ih (tr + 1) i (mA τ (aS A p) tr k 10 0 (fun _ => 0) 0) (nI tr) g1 (by omega) (by omega) (by omega) (H.fr S1.1 (S1.I rfl))
      exact ⟨g', f1, S1.trans f2⟩
end
section
variable {n : Nat} {z0 : Sh} {h0 : Hp} {b c : Nat} {z : Sh} {h : Hp}
theorem attempt_ok (I : Inv z0 h0 b c z h) (hn : 400000 ≤ n) (v u x : Int32) : ∃ r h1 h2, f_X11_attempt n z h b v u x = some (r, h1) ∧ f_X12_attempt n z h1 (b + 72) v u x = some (r, h2) ∧ Inv z0 h0 b c z h2 := by
  obtain ⟨t, τ, P, nx, sz, D⟩ := I.now
  obtain ⟨code, l1, l2, l3, l4⟩ := lf_ok (n := n) I hn D v u
  obtain ⟨HX, HRef, hR3, hT, -, HA, -, -⟩ := id D
  obtain ⟨HM, hτ, -, hA, h3, h6, hp6⟩ := id HRef
  have km := km_0 HM
  by_cases c0 : code = 0
  · obtain ⟨i, p, m, so, q1, rfl, q2, rfl, q3, q4, q5, q6, q7, -⟩ := l4 c0
    have ei : (nI i).toInt = i := nI_to (by omega)
    have hv := tvs q7
    obtain ⟨g1, e1, c1⟩ := fit_6 (n := n) (z := z) (b := b) (τ := τ) (P := P) (t := t) (o := b + 64 + 2 * i) (ro := b + 65 + 2 * i) (m := m) hn hτ h6 (by unfold Tq; omega) q2 hv (A := h.I (b + 73)) (sum := x) q6 10 0 n 0 h (by omega) (by omega) (by omega) HX hR3 hT HA q5
    have S1 := Cd.sc c1
    have hkl : tSet τ (aS (h.I (b + 73)) p) (fun j => (h.J (b + 91) (40 * i + j)).toInt.toNat) m x 10 0 0 < 1024 := tSet_lt 10 0 0 (by omega) (by omega)
    have cx1 : f_X11_attempt n z h b (nI i) (nI p) x = f_X11_attempt_42 n z n g1 b (nI p) (nI (tSet τ (aS (h.I (b + 73)) p) (fun j => (h.J (b + 91) (40 * i + j)).toInt.toNat) m x 10 0 0)) (-1) (nI 11) (nI 0) := by
      unfold f_X11_attempt f_X11_fittingTalents
      rw [if_pos (kx_0 HX), l1, bS, c0, if_pos (show nI 0 = (0 : Int32) from rfl), trayAt_ok HX, bS, ei, if_pos (by omega), Int.toNat_natCast]
      dsimp only
      rw [if_pos (kx_0 HX), show f_X11_fittingTalents_6 n z n h b (b + 64 + 2 * i) (nI p) x 0 0 = _ from e1, bS]
      rfl
    have mx1 : ∀ g, Sc b h g → ∃ g3, f_X12_attempt n z g (b + 72) (nI i) (nI p) x = f_X12_attempt_40 n z n g3 (b + 72) (nI p) (nI (tSet τ (aS (h.I (b + 73)) p) (fun j => (h.J (b + 91) (40 * i + j)).toInt.toNat) m x 10 0 0)) (-1) (nI 11) (nI 0) ∧ Sc b h g3 := fun g S => by
      have S0 : Sc b h (g.setI (b + 72) 0 0) := S.trans (Sc.set b g 0 0 (by omega) (by omega) (by omega))
      have H1 : RefI b z (g.setI (b + 72) 0 0) τ P (h.I (b + 73)) := HRef.fr S0.1 (S0.I rfl)
      have nl := l2 (g.setI (b + 72) 0 0) H1 (S0.I rfl) (S0.I rfl) (S0.J rfl)
      rw [if_pos c0] at nl
      obtain ⟨g2, f1, f2, f3, f4⟩ := tal_6 (n := n) (z := z) (b := b) (τ := τ) (P := P) (m := m) (vs := fun j => h.J (b + 91) (40 * i + j)) (tv := fun j => (h.J (b + 91) (40 * i + j)).toInt.toNat) hn (A := h.I (b + 73)) q1 (by omega) hv q2 (sum := x) q6 10 0 n 0 (g.setI (b + 72) 0 0) (by omega) (by omega) (by omega) H1 (by rw [show (g.setI (b + 72) 0 0).I (b + 90) = h.I (b + 90) from S0.I rfl]; exact q4) (fun j _ => by rw [show (g.setI (b + 72) 0 0).J (b + 91) = h.J (b + 91) from S0.J rfl])
      refine ⟨g2, ?_, S0.trans (Rd.sc f2 f3)⟩
      unfold f_X12_attempt f_X12_talentsOf
      rw [if_pos km, pI_ok km, bS, nl, bS, if_pos rfl, if_pos km, show f_X12_talentsOf_6 n z n (g.setI (b + 72) 0 0) (b + 72) (nI i) (nI p) x 0 0 = _ from f1, bS]
      rfl
    generalize tSet τ (aS (h.I (b + 73)) p) (fun j => (h.J (b + 91) (40 * i + j)).toInt.toNat) m x 10 0 0 = k at *
    obtain ⟨n', rfl⟩ : ∃ n', n = n' + 1 := ⟨n - 1, by omega⟩
    by_cases hk0 : k = 0
    · have cx : f_X11_attempt (n' + 1) z h b (nI i) (nI p) x = some (-1, g1) := by
        rw [cx1, f_X11_attempt_42.eq_2, hk0, if_pos (show nI 0 = (0 : Int32) from rfl)]
      refine two_go (y := fun g => f_X12_attempt (n' + 1) z g (b + 72) (nI i) (nI p) x) cx ?_
      obtain ⟨g3, e3, S3⟩ := mx1 g1 S1
      refine ⟨g3, ?_, I.sc S3⟩
      have HM3 : LayR z g3.2.2 (b + 72) := by rw [S3.1]; exact HM
      have l2' : ldI z g3 (b + 73) 2 = some (nI (tD τ)) := by
        rw [show (2 : Int32) = nI 2 from rfl, lm_1 HM3 (by omega), show g3.I (b + 73) = h.I (b + 73) from S3.I rfl, hA.2.1]
      have hD := hτ.2.1
      rw [e3, f_X12_attempt_40.eq_2, gR_ok km (rm_1 HM3), bS, l2', bS, if_neg (fun q => by have := (nI_leI (by omega) (by omega)).mp q; omega), hk0, if_pos (show nI 0 = (0 : Int32) from rfl)]
    · obtain ⟨g2, f1, f2⟩ := att_c (n := n' + 1) (z := z) (b := b) (τ := τ) (P := P) (t := t) hn hτ h6 q2 hkl hk0 (A := h.I (b + 73)) (tD τ) 0 (n' + 1) 11 (-1) g1 (by omega) (by have := hτ.2.1; omega) (by omega) (by rw [S1.1]; exact HX) (by rw [S1.R]; exact hR3) (hT.fr S1.fr) (by rw [show g1.I (b + 11) = h.I (b + 11) from S1.I rfl, show g1.I (b + 12) = h.I (b + 12) from S1.I rfl]; exact HA)
      refine two_go (y := fun g => f_X12_attempt (n' + 1) z g (b + 72) (nI i) (nI p) x) (cx1.trans f1) ?_
      obtain ⟨g3, e3, S3⟩ := mx1 g2 (S1.trans f2)
      obtain ⟨g4, f3, f4⟩ := att_m (n := n' + 1) (z := z) (b := b) (τ := τ) (P := P) hn q2 hkl hk0 (A := h.I (b + 73)) hτ (tD τ) 0 (n' + 1) 11 (-1) g3 (by omega) (by have := hτ.2.1; omega) (by omega) (HRef.fr S3.1 (S3.I rfl))
      exact ⟨g4, e3.trans f3, I.sc (S3.trans f4)⟩
  · have cx : f_X11_attempt n z h b v u x = some (-99000000 - nI code, h) := by
      unfold f_X11_attempt
      rw [if_pos (kx_0 HX), l1, bS, if_neg (nz l3 c0), f_X11_refused, bS]
    refine two_go (y := fun g => f_X12_attempt n z g (b + 72) v u x) cx ⟨h.setI (b + 72) 0 0, ?_, ref_sc I 0⟩
    try dsimp only
    unfold f_X12_attempt
    have l2 := l2 (h.setI (b + 72) 0 0) (set72 D (Cc.refl b h) (k := 0) 0) (rowI_ne _ _ (by omega)) (rowI_ne _ _ (by omega)) rfl
    rw [if_neg c0] at l2
    rw [if_pos km, pI_ok km, bS, l2, bS, if_neg]
    rw [show (-99000000 : Int32) = iI (-99000000) by decide, nI_iI, iI_sub, show (0 : Int32) = iI 0 by decide, iI_eq (by omega) (by omega) (by omega) (by omega)]
    omega
end
