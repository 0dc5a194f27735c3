/-! ===== calls of runs ===== -/
theorem Sc.s32 (b : Nat) (h : Hp) (v : Int32) : Sc b h (h.rowI (b + 72) (upd (h.I (b + 72)) 32 v)) := Sc.set b h 32 v (by omega) (by omega) (by omega)
section
variable {n : Nat} {z : Sh} {h : Hp} {b P : Nat} {A : Nat → Int32} {f : Nat → Nat}
theorem fe_of {τ : TT} (H : RefI b z h τ P A) : FeX A P (fun p => nv A (11 + p)) := by
  intro p hp
  obtain ⟨-, -, -, -, -, -, -, -, -, -, -, -, -, -, -, -, -, e1, e2, -⟩ := Per_st H.2.1 (H.2.2.2.2.2.2 p hp)
  exact ⟨e1, e2⟩
theorem every_ok (HX : LayX z h.2.2 b) (X : PeopleX (h.I (b + 11)) (h.I (b + 12)) A P) (h6 : P ≤ 6) : f_X5_everybody z h (b + 11) = some (nI (2 ^ P - 1)) := by
  unfold f_X5_everybody
  rw [if_pos (kx_11 HX), gI_ok (kx_11 HX), bS, X.1, ev_P P (by omega)]
theorem isSetc_ok (HX : LayX z h.2.2 b) (X : PeopleX (h.I (b + 11)) (h.I (b + 12)) A P) (h6 : P ≤ 6) (v : Int32) : f_X5_isSet z h (b + 11) v = some (if 0 ≤ v.toInt ∧ v.toInt < (2 ^ P : Nat) then 1 else 0) := by
  unfold f_X5_isSet
  rw [if_pos (kx_11 HX), every_ok HX X h6, bS]
  by_cases c : 0 ≤ v.toInt ∧ v.toInt < (2 ^ P : Nat)
  · rw [if_pos ((isSet_iff (by omega) v).mpr c), if_pos c]
  · rw [if_neg (fun q => c ((isSet_iff (by omega) v).mp q)), if_neg c]
theorem isSetm_ok (HM : LayR z h.2.2 (b + 72)) (h73 : h.I (b + 73) = A) (h3 : A 3 = nI P) (h6 : P ≤ 6) (v : Int32) : f_X12_isSet z h (b + 72) v = some (if 0 ≤ v.toInt ∧ v.toInt < (2 ^ P : Nat) then 1 else 0) := by
  unfold f_X12_isSet
  have hp : 2 ^ P ≤ 64 := Nat.pow_le_pow_right (n := 2) (by decide) (show P ≤ 6 by omega)
  rw [if_pos (km_0 HM), gR_ok (km_0 HM) (rm_1 HM), bS, show (3 : Int32) = nI 3 from rfl, lm_1 HM (by omega), bS, h73, h3, sh_P P (by omega)]
  have i0 : (v < 0) ↔ (v.toInt < 0) := by rw [lt_iff]; rfl
  have i1 : (nI (2 ^ P) ≤ v) ↔ ((2 ^ P : Nat) ≤ v.toInt) := by rw [le_iff, nI_to (by omega)]
  by_cases c0 : v < 0
  · have := i0.mp c0
    rw [if_pos c0, if_neg (by omega)]
  · have c0' : ¬ v.toInt < 0 := fun q => c0 (i0.mpr q)
    rw [if_neg c0]
    by_cases c1 : nI (2 ^ P) ≤ v
    · have := i1.mp c1
      rw [if_pos c1, if_neg (by omega)]
    · have c1' : ¬ ((2 ^ P : Nat) ≤ v.toInt) := fun q => c1 (i1.mpr q)
      rw [if_neg c1, if_pos (by omega)]
def fwR (P : Nat) (fo : Int32) (fw : Nat) : Prop := (fo = -1 ∧ fw = 7) ∨ ∃ k, k < 2 ^ P ∧ fo = nI k ∧ fw = pcn k
theorem pcn_le (s : Nat) : pcn s ≤ 6 := by unfold pcn; omega
theorem fwR_le {fo : Int32} {fw : Nat} (H : fwR P fo fw) : fw ≤ 7 := by
  rcases H with ⟨-, rfl⟩ | ⟨k, -, -, rfl⟩
  · omega
  · have := pcn_le k
    omega
/-! one round of each -/
theorem spc_0 (HX : LayX z h.2.2 b) (X : PeopleX (h.I (b + 11)) (h.I (b + 12)) A P) (h6 : P ≤ 6) {s i : Nat} (hs : s = 2 ^ P) (v fo fw : Int32) : f_X11_spark_24 n z h (i + 1) b v fo fw (nI s) = some fo := by
  have hp : 2 ^ P ≤ 64 := Nat.pow_le_pow_right (n := 2) (by decide) (show P ≤ 6 by omega)
  have hp0 : 0 < 2 ^ P := Nat.pow_pos (by decide)
  rw [f_X11_spark_24.eq_2, gR_ok (kx_0 HX) (rx_0_4 HX), bS, every_ok HX X h6, bS, if_pos ((nI_lt2 (by omega) (by omega)).mpr (by omega))]
theorem spc_s (HX : LayX z h.2.2 b) (X : PeopleX (h.I (b + 11)) (h.I (b + 12)) A P) (h6 : P ≤ 6) (hn : 400000 ≤ n) (hf : FeX A P f) {s i : Nat} (hs : s < 2 ^ P) (v fo fw : Int32) : f_X11_spark_24 n z h (i + 1) b v fo fw (nI s) = if fw ≤ nI (pcn s) then f_X11_spark_24 n z h i b v fo fw (nI (s + 1)) else if nI (pcn (rE f P 0 P s)) < v then f_X11_spark_24 n z h i b v fo fw (nI (s + 1)) else f_X11_spark_24 n z h i b v (nI s) (nI (pcn s)) (nI (s + 1)) := by
  have hp : 2 ^ P ≤ 64 := Nat.pow_le_pow_right (n := 2) (by decide) (show P ≤ 6 by omega)
  have hs6 : s < 64 := by omega
  have hr6 := lt64 h6 (rE_lt (f := f) (P := P) (c := 0) P s hs)
  have rc : f_X5_runOf n z h (b + 11) (nI s) 0 = some (nI (rE f P 0 P s)) := run_c (now_PL HX) X h6 hn hf (cc := 0) (by decide) hs
  rw [f_X11_spark_24.eq_2, gR_ok (kx_0 HX) (rx_0_4 HX), bS, every_ok HX X h6, bS, if_neg (fun q => by have := (nI_lt2 (by omega) (by omega)).mp q; omega), bc_c s hs6, bS, bS, rc, bS, bc_c _ hr6, bS]
  unfold f_X11_spark_72
  simp only [bS, show nI s + 1 = nI (s + 1) from nI_add s 1]
theorem spm_0 {g : Hp} (HM : LayR z g.2.2 (b + 72)) (h73 : g.I (b + 73) = A) (h3 : A 3 = nI P) (h6 : P ≤ 6) {s i : Nat} (hs : s = 2 ^ P) (v fo : Int32) : f_X12_spark_24 n z (i + 1) g (b + 72) v fo (nI s) = some (fo, g) := by
  have hp : 2 ^ P ≤ 64 := Nat.pow_le_pow_right (n := 2) (by decide) (show P ≤ 6 by omega)
  rw [f_X12_spark_24.eq_2, gR_ok (km_0 HM) (rm_1 HM), bS, show (3 : Int32) = nI 3 from rfl, lm_1 HM (by omega), bS, h73, h3, sh_P P (by omega), if_pos ((nI_leI (by omega) (by omega)).mpr (by omega))]
theorem spm_s {g : Hp} (HM : LayR z g.2.2 (b + 72)) (h73 : g.I (b + 73) = A) (h3 : A 3 = nI P) (h6 : P ≤ 6) (hn : 400000 ≤ n) (hf : FeX A P f) {s i : Nat} (hs : s < 2 ^ P) (v fo : Int32) : f_X12_spark_24 n z (i + 1) g (b + 72) v fo (nI s) = if fo = -1 then (if nI (pcn (rE f P 0 P s)) < v then f_X12_spark_24 n z i (g.rowI (b + 72) (upd (g.I (b + 72)) 32 (nI (rN f P 0 P s)))) (b + 72) v fo (nI (s + 1)) else f_X12_spark_24 n z i (g.rowI (b + 72) (upd (g.I (b + 72)) 32 (nI (rN f P 0 P s)))) (b + 72) v (nI s) (nI (s + 1))) else (f_X12_bitsOf n z g fo).bind fun x6 => if x6 ≤ nI (pcn s) then f_X12_spark_24 n z i g (b + 72) v fo (nI (s + 1)) else (if nI (pcn (rE f P 0 P s)) < v then f_X12_spark_24 n z i (g.rowI (b + 72) (upd (g.I (b + 72)) 32 (nI (rN f P 0 P s)))) (b + 72) v fo (nI (s + 1)) else f_X12_spark_24 n z i (g.rowI (b + 72) (upd (g.I (b + 72)) 32 (nI (rN f P 0 P s)))) (b + 72) v (nI s) (nI (s + 1))) := by
  have hp : 2 ^ P ≤ 64 := Nat.pow_le_pow_right (n := 2) (by decide) (show P ≤ 6 by omega)
  have hs6 : s < 64 := by omega
  have hr6 := lt64 h6 (rE_lt (f := f) (P := P) (c := 0) P s hs)
  have rm : f_X12_runOf n z g (b + 72) (nI s) 0 = some (nI (rE f P 0 P s), g.rowI (b + 72) (upd (g.I (b + 72)) 32 (nI (rN f P 0 P s)))) := run_m (n := n) (z := z) (h := g) HM h73 h3 h6 hn hf (s := s) (cc := 0) hs (by decide)
  rw [f_X12_spark_24.eq_2, gR_ok (km_0 HM) (rm_1 HM), bS, show (3 : Int32) = nI 3 from rfl, lm_1 HM (by omega), bS, h73, h3, sh_P P (by omega), if_neg (fun q => by have := (nI_leI (by omega) (by omega)).mp q; omega)]
  unfold f_X12_spark_52 f_X12_spark_67
  simp only [rm, bS, show nI s + 1 = nI (s + 1) from nI_add s 1, bc_m hn hs6, bc_m hn hr6]
theorem spark_sim (HX : LayX z h.2.2 b) (X : PeopleX (h.I (b + 11)) (h.I (b + 12)) A P) (h3 : A 3 = nI P) (h6 : P ≤ 6) (hn : 400000 ≤ n) (hf : FeX A P f) {m : Nat} (hm : m ≤ 6) : ∀ (d s i i' fw : Nat) (fo : Int32) (g : Hp), s + d = 2 ^ P → d < i → d < i' → fwR P fo fw → LayR z g.2.2 (b + 72) → g.I (b + 73) = A → ∃ r g', f_X11_spark_24 n z h i b (nI m) fo (nI fw) (nI s) = some r ∧ f_X12_spark_24 n z i' g (b + 72) (nI m) fo (nI s) = some (r, g') ∧ Sc b g g' := by
  intro d
  induction d with
  | zero =>
    intro s i i' fw fo g hs hi hi' HF HM h73
    obtain ⟨i, rfl⟩ : ∃ k, i = k + 1 := ⟨i - 1, by omega⟩
    obtain ⟨i', rfl⟩ : ∃ k, i' = k + 1 := ⟨i' - 1, by omega⟩
    exact ⟨_, _, spc_0 HX X h6 hs _ _ _, spm_0 HM h73 h3 h6 hs _ _, Sc.refl ..⟩
  | succ d ih =>
    intro s i i' fw fo g hs hi hi' HF HM h73
    obtain ⟨i, rfl⟩ : ∃ k, i = k + 1 := ⟨i - 1, by omega⟩
    obtain ⟨i', rfl⟩ : ∃ k, i' = k + 1 := ⟨i' - 1, by omega⟩
    have hs2 : s < 2 ^ P := by omega
    have p1 := pcn_le s
    have p2 := pcn_le (rE f P 0 P s)
    have hfw := fwR_le HF
    have HM2 : LayR z (g.rowI (b + 72) (upd (g.I (b + 72)) 32 (nI (rN f P 0 P s)))).2.2 (b + 72) := HM
    have h73' : (g.rowI (b + 72) (upd (g.I (b + 72)) 32 (nI (rN f P 0 P s)))).I (b + 73) = A := (rowI_ne _ _ (by omega)).trans h73
    have S := Sc.s32 b g (nI (rN f P 0 P s))
    rw [spc_s HX X h6 hn hf hs2, spm_s HM h73 h3 h6 hn hf hs2]
    generalize g.rowI (b + 72) (upd (g.I (b + 72)) 32 (nI (rN f P 0 P s))) = g2 at *
    have go : ¬ fw ≤ pcn s → ∃ r g', (if nI fw ≤ nI (pcn s) then f_X11_spark_24 n z h i b (nI m) fo (nI fw) (nI (s + 1)) else if nI (pcn (rE f P 0 P s)) < nI m then f_X11_spark_24 n z h i b (nI m) fo (nI fw) (nI (s + 1)) else f_X11_spark_24 n z h i b (nI m) (nI s) (nI (pcn s)) (nI (s + 1))) = some r ∧ (if nI (pcn (rE f P 0 P s)) < nI m then f_X12_spark_24 n z i' g2 (b + 72) (nI m) fo (nI (s + 1)) else f_X12_spark_24 n z i' g2 (b + 72) (nI m) (nI s) (nI (s + 1))) = some (r, g') ∧ Sc b g g' := fun hc => by
      rw [if_neg (fun q => hc ((nI_leI (by omega) (by omega)).mp q))]
      by_cases hl : pcn (rE f P 0 P s) < m
      · rw [if_pos ((nI_lt2 (by omega) (by omega)).mpr hl), if_pos ((nI_lt2 (by omega) (by omega)).mpr hl)]
        obtain ⟨r, g', e1, e2, e3⟩ := ih (s + 1) i i' fw fo g2 (by omega) (by omega) (by omega) HF HM2 h73'
        exact ⟨r, g', e1, e2, S.trans e3⟩
      · rw [if_neg (fun q => hl ((nI_lt2 (by omega) (by omega)).mp q)), if_neg (fun q => hl ((nI_lt2 (by omega) (by omega)).mp q))]
        obtain ⟨r, g', e1, e2, e3⟩ := ih (s + 1) i i' (pcn s) (nI s) g2 (by omega) (by omega) (by omega) (Or.inr ⟨s, hs2, rfl, rfl⟩) HM2 h73'
        exact ⟨r, g', e1, e2, S.trans e3⟩
    by_cases hfo : fo = -1
    · rw [if_pos hfo]
      refine go (fun q => ?_)
      rcases HF with ⟨-, rfl⟩ | ⟨k, hk, e, -⟩
      · omega
      · have hk6 := lt64 h6 hk
        rw [hfo, ← Int32.toInt_inj, nI_to (by omega), show (-1 : Int32).toInt = -1 from rfl] at e
        omega
    · rw [if_neg hfo]
      have hb : f_X12_bitsOf n z g fo = some (nI fw) := by
        rcases HF with ⟨e, -⟩ | ⟨k, hk, rfl, rfl⟩
        · exact absurd e hfo
        · exact bc_m hn (lt64 h6 hk)
      rw [hb, bS]
      by_cases hc : fw ≤ pcn s
      · rw [if_pos ((nI_leI (by omega) (by omega)).mpr hc), if_pos ((nI_leI (by omega) (by omega)).mpr hc)]
        exact ih (s + 1) i i' fw fo g (by omega) (by omega) (by omega) HF HM h73
      · have h1 := go hc
        have hc' : ¬ nI fw ≤ nI (pcn s) := fun q => hc ((nI_leI (by omega) (by omega)).mp q)
        rw [if_neg hc'] at h1
        rw [if_neg hc', if_neg hc']
        exact h1
theorem cac_0 (HX : LayX z h.2.2 b) (X : PeopleX (h.I (b + 11)) (h.I (b + 12)) A P) (h6 : P ≤ 6) {s i : Nat} (hs : s = 2 ^ P) (t v fo fw : Int32) : f_X11_calm_35 n z h (i + 1) b t v fo fw (nI s) = some fo := by
  have hp : 2 ^ P ≤ 64 := Nat.pow_le_pow_right (n := 2) (by decide) (show P ≤ 6 by omega)
  have hp0 : 0 < 2 ^ P := Nat.pow_pos (by decide)
  rw [f_X11_calm_35.eq_2, gR_ok (kx_0 HX) (rx_0_4 HX), bS, every_ok HX X h6, bS, if_pos ((nI_lt2 (by omega) (by omega)).mpr (by omega))]
theorem cac_s (HX : LayX z h.2.2 b) (X : PeopleX (h.I (b + 11)) (h.I (b + 12)) A P) (h6 : P ≤ 6) (hn : 400000 ≤ n) (hf : FeX A P f) {s i t : Nat} (hs : s < 2 ^ P) (ht : t < 2 ^ P) (v fo fw : Int32) : f_X11_calm_35 n z h (i + 1) b (nI t) v fo fw (nI s) = if nI s &&& nI t = 0 then (if fw ≤ nI (pcn s) then f_X11_calm_35 n z h i b (nI t) v fo fw (nI (s + 1)) else if v < nI (pcn (rE f P s P t)) then f_X11_calm_35 n z h i b (nI t) v fo fw (nI (s + 1)) else f_X11_calm_35 n z h i b (nI t) v (nI s) (nI (pcn s)) (nI (s + 1))) else f_X11_calm_35 n z h i b (nI t) v fo fw (nI (s + 1)) := by
  have hp : 2 ^ P ≤ 64 := Nat.pow_le_pow_right (n := 2) (by decide) (show P ≤ 6 by omega)
  have hs6 : s < 64 := by omega
  have hr6 := lt64 h6 (rE_lt (f := f) (P := P) (c := s) P t ht)
  rw [f_X11_calm_35.eq_2, gR_ok (kx_0 HX) (rx_0_4 HX), bS, every_ok HX X h6, bS, if_neg (fun q => by have := (nI_lt2 (by omega) (by omega)).mp q; omega), bc_c s hs6, bS, bS, run_c (now_PL HX) X h6 hn hf hs6 ht, bS, bc_c _ hr6, bS]
  unfold f_X11_calm_92
  simp only [bS, show nI s + 1 = nI (s + 1) from nI_add s 1]
theorem cam_0 {g : Hp} (HM : LayR z g.2.2 (b + 72)) (h73 : g.I (b + 73) = A) (h3 : A 3 = nI P) (h6 : P ≤ 6) {s i : Nat} (hs : s = 2 ^ P) (t v fo : Int32) : f_X12_calm_33 n z (i + 1) g (b + 72) t v fo (nI s) = some (fo, g) := by
  have hp : 2 ^ P ≤ 64 := Nat.pow_le_pow_right (n := 2) (by decide) (show P ≤ 6 by omega)
  rw [f_X12_calm_33.eq_2, gR_ok (km_0 HM) (rm_1 HM), bS, show (3 : Int32) = nI 3 from rfl, lm_1 HM (by omega), bS, h73, h3, sh_P P (by omega), if_pos ((nI_leI (by omega) (by omega)).mpr (by omega))]
theorem cam_s {g : Hp} (HM : LayR z g.2.2 (b + 72)) (h73 : g.I (b + 73) = A) (h3 : A 3 = nI P) (h6 : P ≤ 6) (hn : 400000 ≤ n) (hf : FeX A P f) {s i t : Nat} (hs : s < 2 ^ P) (ht : t < 2 ^ P) (v fo : Int32) : f_X12_calm_33 n z (i + 1) g (b + 72) (nI t) v fo (nI s) = if nI s &&& nI t = 0 then (if fo = -1 then (if v < nI (pcn (rE f P s P t)) then f_X12_calm_33 n z i (g.rowI (b + 72) (upd (g.I (b + 72)) 32 (nI (rN f P s P t)))) (b + 72) (nI t) v fo (nI (s + 1)) else f_X12_calm_33 n z i (g.rowI (b + 72) (upd (g.I (b + 72)) 32 (nI (rN f P s P t)))) (b + 72) (nI t) v (nI s) (nI (s + 1))) else (f_X12_bitsOf n z g fo).bind fun x6 => if nI (pcn s) < x6 then (if v < nI (pcn (rE f P s P t)) then f_X12_calm_33 n z i (g.rowI (b + 72) (upd (g.I (b + 72)) 32 (nI (rN f P s P t)))) (b + 72) (nI t) v fo (nI (s + 1)) else f_X12_calm_33 n z i (g.rowI (b + 72) (upd (g.I (b + 72)) 32 (nI (rN f P s P t)))) (b + 72) (nI t) v (nI s) (nI (s + 1))) else f_X12_calm_33 n z i g (b + 72) (nI t) v fo (nI (s + 1))) else f_X12_calm_33 n z i g (b + 72) (nI t) v fo (nI (s + 1)) := by
  have hp : 2 ^ P ≤ 64 := Nat.pow_le_pow_right (n := 2) (by decide) (show P ≤ 6 by omega)
  have hs6 : s < 64 := by omega
  have hr6 := lt64 h6 (rE_lt (f := f) (P := P) (c := s) P t ht)
  have rm := run_m (n := n) (z := z) (h := g) HM h73 h3 h6 hn hf (s := t) (cc := s) ht hs6
  rw [f_X12_calm_33.eq_2, gR_ok (km_0 HM) (rm_1 HM), bS, show (3 : Int32) = nI 3 from rfl, lm_1 HM (by omega), bS, h73, h3, sh_P P (by omega), if_neg (show ¬ nI (2 ^ P) ≤ nI s from fun q => by have := (nI_leI (by omega) (by omega)).mp q; omega)]
  unfold f_X12_calm_73 f_X12_calm_90
  simp only [rm, bS, show nI s + 1 = nI (s + 1) from nI_add s 1, bc_m hn hs6, bc_m hn hr6]
theorem calm_sim (HX : LayX z h.2.2 b) (X : PeopleX (h.I (b + 11)) (h.I (b + 12)) A P) (h3 : A 3 = nI P) (h6 : P ≤ 6) (hn : 400000 ≤ n) (hf : FeX A P f) {m t : Nat} (hm : m ≤ 6) (ht : t < 2 ^ P) : ∀ (d s i i' fw : Nat) (fo : Int32) (g : Hp), s + d = 2 ^ P → d < i → d < i' → fwR P fo fw → LayR z g.2.2 (b + 72) → g.I (b + 73) = A → ∃ r g', f_X11_calm_35 n z h i b (nI t) (nI m) fo (nI fw) (nI s) = some r ∧ f_X12_calm_33 n z i' g (b + 72) (nI t) (nI m) fo (nI s) = some (r, g') ∧ Sc b g g' := by
  intro d
  induction d with
  | zero =>
    intro s i i' fw fo g hs hi hi' HF HM h73
    obtain ⟨i, rfl⟩ : ∃ k, i = k + 1 := ⟨i - 1, by omega⟩
    obtain ⟨i', rfl⟩ : ∃ k, i' = k + 1 := ⟨i' - 1, by omega⟩
    exact ⟨_, _, cac_0 HX X h6 hs _ _ _ _, cam_0 HM h73 h3 h6 hs _ _ _, Sc.refl ..⟩
  | succ d ih =>
    intro s i i' fw fo g hs hi hi' HF HM h73
    obtain ⟨i, rfl⟩ : ∃ k, i = k + 1 := ⟨i - 1, by omega⟩
    obtain ⟨i', rfl⟩ : ∃ k, i' = k + 1 := ⟨i' - 1, by omega⟩
    have hs2 : s < 2 ^ P := by omega
    have p1 := pcn_le s
    have p2 := pcn_le (rE f P s P t)
    have hfw := fwR_le HF
    have HM2 : LayR z (g.rowI (b + 72) (upd (g.I (b + 72)) 32 (nI (rN f P s P t)))).2.2 (b + 72) := HM
    have h73' : (g.rowI (b + 72) (upd (g.I (b + 72)) 32 (nI (rN f P s P t)))).I (b + 73) = A := (rowI_ne _ _ (by omega)).trans h73
    have S := Sc.s32 b g (nI (rN f P s P t))
    rw [cac_s HX X h6 hn hf hs2 ht, cam_s HM h73 h3 h6 hn hf hs2 ht]
    generalize g.rowI (b + 72) (upd (g.I (b + 72)) 32 (nI (rN f P s P t))) = g2 at *
    by_cases ha : nI s &&& nI t = 0
    · rw [if_pos ha, if_pos ha]
      have go : ¬ fw ≤ pcn s → ∃ r g', (if nI fw ≤ nI (pcn s) then f_X11_calm_35 n z h i b (nI t) (nI m) fo (nI fw) (nI (s + 1)) else if nI m < nI (pcn (rE f P s P t)) then f_X11_calm_35 n z h i b (nI t) (nI m) fo (nI fw) (nI (s + 1)) else f_X11_calm_35 n z h i b (nI t) (nI m) (nI s) (nI (pcn s)) (nI (s + 1))) = some r ∧ (if nI m < nI (pcn (rE f P s P t)) then f_X12_calm_33 n z i' g2 (b + 72) (nI t) (nI m) fo (nI (s + 1)) else f_X12_calm_33 n z i' g2 (b + 72) (nI t) (nI m) (nI s) (nI (s + 1))) = some (r, g') ∧ Sc b g g' := fun hc => by
        rw [if_neg (fun q => hc ((nI_leI (by omega) (by omega)).mp q))]
        by_cases hl : m < pcn (rE f P s P t)
        · rw [if_pos ((nI_lt2 (by omega) (by omega)).mpr hl), if_pos ((nI_lt2 (by omega) (by omega)).mpr hl)]
          obtain ⟨r, g', e1, e2, e3⟩ := ih (s + 1) i i' fw fo g2 (by omega) (by omega) (by omega) HF HM2 h73'
          exact ⟨r, g', e1, e2, S.trans e3⟩
        · rw [if_neg (fun q => hl ((nI_lt2 (by omega) (by omega)).mp q)), if_neg (fun q => hl ((nI_lt2 (by omega) (by omega)).mp q))]
          obtain ⟨r, g', e1, e2, e3⟩ := ih (s + 1) i i' (pcn s) (nI s) g2 (by omega) (by omega) (by omega) (Or.inr ⟨s, hs2, rfl, rfl⟩) HM2 h73'
          exact ⟨r, g', e1, e2, S.trans e3⟩
      by_cases hfo : fo = -1
      · rw [if_pos hfo]
        refine go (fun q => ?_)
        rcases HF with ⟨-, rfl⟩ | ⟨k, hk, e, -⟩
        · omega
        · have hk6 := lt64 h6 hk
          rw [hfo, ← Int32.toInt_inj, nI_to (by omega), show (-1 : Int32).toInt = -1 from rfl] at e
          omega
      · rw [if_neg hfo]
        have hb : f_X12_bitsOf n z g fo = some (nI fw) := by
          rcases HF with ⟨e, -⟩ | ⟨k, hk, rfl, rfl⟩
          · exact absurd e hfo
          · exact bc_m hn (lt64 h6 hk)
        rw [hb, bS]
        by_cases hc : fw ≤ pcn s
        · rw [if_pos ((nI_leI (by omega) (by omega)).mpr hc), if_neg (fun q => by have := (nI_lt2 (by omega) (by omega)).mp q; omega)]
          exact ih (s + 1) i i' fw fo g (by omega) (by omega) (by omega) HF HM h73
        · have h1 := go hc
          have hc' : ¬ nI fw ≤ nI (pcn s) := fun q => hc ((nI_leI (by omega) (by omega)).mp q)
          rw [if_neg hc'] at h1
          rw [if_neg hc', if_pos (show nI (pcn s) < nI fw from (nI_lt2 (by omega) (by omega)).mpr (by omega))]
          exact h1
    · rw [if_neg ha, if_neg ha]
      exact ih (s + 1) i i' fw fo g (by omega) (by omega) (by omega) HF HM h73
theorem rests_sim (HX : LayX z h.2.2 b) (X : PeopleX (h.I (b + 11)) (h.I (b + 12)) A P) (h3 : A 3 = nI P) (h6 : P ≤ 6) (hn : 400000 ≤ n) (hf : FeX A P f) {g : Hp} (HM : LayR z g.2.2 (b + 72)) (h73 : g.I (b + 73) = A) : ∀ (d s i i' : Nat) (v : Int32), s + d = 2 ^ P → d < i → d < i' → ∃ r, f_X11_rests_4 n z h i b v (nI s) = some r ∧ f_X12_rests_9 n z i' g (b + 72) v (nI s) = some (r, g) := by
  have hp : 2 ^ P ≤ 64 := Nat.pow_le_pow_right (n := 2) (by decide) (show P ≤ 6 by omega)
  have hp0 : 0 < 2 ^ P := Nat.pow_pos (by decide)
  intro d
  induction d with
  | zero =>
    intro s i i' v hs hi hi'
    obtain ⟨i, rfl⟩ : ∃ k, i = k + 1 := ⟨i - 1, by omega⟩
    obtain ⟨i', rfl⟩ : ∃ k, i' = k + 1 := ⟨i' - 1, by omega⟩
    refine ⟨v, ?_, ?_⟩
    · rw [f_X11_rests_4.eq_2, gR_ok (kx_0 HX) (rx_0_4 HX), bS, every_ok HX X h6, bS, if_pos ((nI_lt2 (by omega) (by omega)).mpr (by omega))]
    · rw [f_X12_rests_9.eq_2, gR_ok (km_0 HM) (rm_1 HM), bS, show (3 : Int32) = nI 3 from rfl, lm_1 HM (by omega), bS, h73, h3, sh_P P (by omega), if_pos ((nI_leI (by omega) (by omega)).mpr (by omega))]
  | succ d ih =>
    intro s i i' v hs hi hi'
    obtain ⟨i, rfl⟩ : ∃ k, i = k + 1 := ⟨i - 1, by omega⟩
    obtain ⟨i', rfl⟩ : ∃ k, i' = k + 1 := ⟨i' - 1, by omega⟩
    have hs6 : s < 64 := by omega
    obtain ⟨r, e1, e2⟩ := ih (s + 1) i i' (if rsT f s P 0 = true then v + 1 else v) (by omega) (by omega) (by omega)
    refine ⟨r, ?_, ?_⟩
    · rw [f_X11_rests_4.eq_2, gR_ok (kx_0 HX) (rx_0_4 HX), bS, every_ok HX X h6, bS, if_neg (fun q => by have := (nI_lt2 (by omega) (by omega)).mp q; omega), bS, atRest_ok (now_PL HX) X h6 hn hf hs6, bS]
      unfold f_X11_rests_29
      simp only [bS, show nI s + 1 = nI (s + 1) from nI_add s 1]
      cases hr : rsT f s P 0 with
      | true =>
        rw [hr, if_pos rfl] at e1
        rw [if_neg (by decide)]
        exact e1
      | false =>
        rw [hr, if_neg (by decide)] at e1
        rw [if_pos (by decide)]
        exact e1
    · rw [f_X12_rests_9.eq_2, gR_ok (km_0 HM) (rm_1 HM), bS, show (3 : Int32) = nI 3 from rfl, lm_1 HM (by omega), bS, h73, h3, sh_P P (by omega), if_neg (fun q => by have := (nI_leI (by omega) (by omega)).mp q; omega), isRest_ok HM h73 h3 h6 hn hf hs6, bS]
      unfold f_X12_rests_35
      simp only [bS, show nI s + 1 = nI (s + 1) from nI_add s 1]
      cases hr : rsT f s P 0 with
      | true =>
        rw [hr, if_pos rfl] at e2
        rw [if_neg (by decide)]
        exact e2
      | false =>
        rw [hr, if_neg (by decide)] at e2
        rw [if_pos (by decide), show v + 0 = v from Int32.add_zero v]
        exact e2
theorem rest_sim (HX : LayX z h.2.2 b) (X : PeopleX (h.I (b + 11)) (h.I (b + 12)) A P) (h3 : A 3 = nI P) (h6 : P ≤ 6) (hn : 400000 ≤ n) (hf : FeX A P f) {g : Hp} (HM : LayR z g.2.2 (b + 72)) (h73 : g.I (b + 73) = A) (k : Int32) : ∀ (d s i i' : Nat) (v : Int32), s + d = 2 ^ P → d < i → d < i' → ∃ r, f_X11_rest_13 n z h i b k v (nI s) = some r ∧ f_X12_rest_16 n z i' g (b + 72) k v (nI s) = some (r, g) := by
  have hp : 2 ^ P ≤ 64 := Nat.pow_le_pow_right (n := 2) (by decide) (show P ≤ 6 by omega)
  have hp0 : 0 < 2 ^ P := Nat.pow_pos (by decide)
  intro d
  induction d with
  | zero =>
    intro s i i' v hs hi hi'
    obtain ⟨i, rfl⟩ : ∃ k, i = k + 1 := ⟨i - 1, by omega⟩
    obtain ⟨i', rfl⟩ : ∃ k, i' = k + 1 := ⟨i' - 1, by omega⟩
    refine ⟨-1, ?_, ?_⟩
    · rw [f_X11_rest_13.eq_2, gR_ok (kx_0 HX) (rx_0_4 HX), bS, every_ok HX X h6, bS, if_pos ((nI_lt2 (by omega) (by omega)).mpr (by omega))]
    · rw [f_X12_rest_16.eq_2, gR_ok (km_0 HM) (rm_1 HM), bS, show (3 : Int32) = nI 3 from rfl, lm_1 HM (by omega), bS, h73, h3, sh_P P (by omega), if_pos ((nI_leI (by omega) (by omega)).mpr (by omega))]
  | succ d ih =>
    intro s i i' v hs hi hi'
    obtain ⟨i, rfl⟩ : ∃ k, i = k + 1 := ⟨i - 1, by omega⟩
    obtain ⟨i', rfl⟩ : ∃ k, i' = k + 1 := ⟨i' - 1, by omega⟩
    have hs6 : s < 64 := by omega
    have c1 : f_X11_rest_13 n z h (i + 1) b k v (nI s) = if rsT f s P 0 = true then (if v = k then some (nI s) else f_X11_rest_13 n z h i b k (v + 1) (nI (s + 1))) else f_X11_rest_13 n z h i b k v (nI (s + 1)) := by
      rw [f_X11_rest_13.eq_2, gR_ok (kx_0 HX) (rx_0_4 HX), bS, every_ok HX X h6, bS, if_neg (fun q => by have := (nI_lt2 (by omega) (by omega)).mp q; omega), bS, atRest_ok (now_PL HX) X h6 hn hf hs6, bS]
      unfold f_X11_rest_45
      simp only [bS, show nI s + 1 = nI (s + 1) from nI_add s 1]
      cases rsT f s P 0 with
      | true => rw [if_neg (by decide), if_pos rfl]
      | false => rw [if_pos (by decide), if_neg (by decide)]
    have m1 : f_X12_rest_16 n z (i' + 1) g (b + 72) k v (nI s) = if rsT f s P 0 = true then (if v = k then some (nI s, g) else f_X12_rest_16 n z i' g (b + 72) k (v + 1) (nI (s + 1))) else f_X12_rest_16 n z i' g (b + 72) k v (nI (s + 1)) := by
      rw [f_X12_rest_16.eq_2, gR_ok (km_0 HM) (rm_1 HM), bS, show (3 : Int32) = nI 3 from rfl, lm_1 HM (by omega), bS, h73, h3, sh_P P (by omega), if_neg (fun q => by have := (nI_leI (by omega) (by omega)).mp q; omega), isRest_ok HM h73 h3 h6 hn hf hs6, bS]
      unfold f_X12_rest_49
      simp only [bS, show nI s + 1 = nI (s + 1) from nI_add s 1]
      cases rsT f s P 0 with
      | true => rw [if_neg (by decide), if_pos rfl]
      | false => rw [if_pos (by decide), if_neg (by decide)]
    rw [c1, m1]
    cases rsT f s P 0 with
    | true =>
      rw [if_pos rfl, if_pos rfl]
      by_cases hv : v = k
      · rw [if_pos hv, if_pos hv]
        exact ⟨_, rfl, rfl⟩
      · rw [if_neg hv, if_neg hv]
        exact ih (s + 1) i i' _ (by omega) (by omega) (by omega)
    | false =>
      rw [if_neg (by decide), if_neg (by decide)]
      exact ih (s + 1) i i' _ (by omega) (by omega) (by omega)
end
section
variable {n : Nat} {z0 : Sh} {h0 : Hp} {b c : Nat} {z : Sh} {h : Hp}
theorem run_ok (I : Inv z0 h0 b c z h) (hn : 400000 ≤ n) (v : Int32) : ∃ r h2, f_X11_run n z h b v = some r ∧ f_X12_run n z h (b + 72) v = some (r, h2) ∧ Inv z0 h0 b c z h2 := by
  obtain ⟨t, τ, P, nx, sz, D⟩ := I.now
  obtain ⟨HX, HRef, hR3, hT, -, HA, -, -⟩ := id D
  obtain ⟨HM, hτ, -, hA, h3, h6, hp6⟩ := id HRef
  have H0 := set72 D (Cc.refl b h) (k := 0) 0
  have km := km_0 HM
  have hf := fe_of HRef
  have hp : 2 ^ P ≤ 64 := Nat.pow_le_pow_right (n := 2) (by decide) (show P ≤ 6 by omega)
  by_cases cv : 0 ≤ v.toInt ∧ v.toInt < (2 ^ P : Nat)
  · obtain ⟨s, hs, rfl⟩ := nI_ex (P := 2 ^ P) cv
    have rm := run_m (n := n) H0.1 H0.2.2.1 h3 h6 hn hf hs (cc := 0) (by decide)
    have rc := run_c (n := n) (now_PL HX) HA.1 h6 hn hf (cc := 0) (by decide) hs
    refine ⟨nI (rE (fun p => nv (h.I (b + 73)) (11 + p)) P 0 P s), _, ?_, ?_, (ref_sc I 0).sc (Sc.s32 b (h.setI (b + 72) 0 0) (nI (rN (fun p => nv (h.I (b + 73)) (11 + p)) P 0 P s)))⟩
    · unfold f_X11_run
      rw [if_pos (kx_0 HX), gR_ok (kx_0 HX) (rx_0_4 HX), bS, isSetc_ok HX HA.1 h6, bS, if_pos cv, if_neg (by decide), bS, show f_X5_runOf n z h (b + 11) (nI s) 0 = _ from rc, bS]
    · unfold f_X12_run
      rw [if_pos km, pI_ok km, bS, isSetm_ok H0.1 H0.2.2.1 h3 h6, bS, if_pos cv, if_neg (by decide), show f_X12_runOf n z (h.setI (b + 72) 0 0) (b + 72) (nI s) 0 = _ from rm, bS]
  · refine ⟨-99000003, _, ?_, ?_, ref_sc I 0⟩
    · unfold f_X11_run
      rw [if_pos (kx_0 HX), gR_ok (kx_0 HX) (rx_0_4 HX), bS, isSetc_ok HX HA.1 h6, bS, if_neg cv, if_pos rfl, f_X11_refused, bS]
      rfl
    · unfold f_X12_run
      rw [if_pos km, pI_ok km, bS, isSetm_ok H0.1 H0.2.2.1 h3 h6, bS, if_neg cv, if_pos rfl]
theorem rounds_ok (I : Inv z0 h0 b c z h) (hn : 400000 ≤ n) (v : Int32) : ∃ r h2, f_X11_rounds n z h b v = some r ∧ f_X12_rounds n z h (b + 72) v = some (r, h2) ∧ Inv z0 h0 b c z h2 := by
  obtain ⟨t, τ, P, nx, sz, D⟩ := I.now
  obtain ⟨HX, HRef, hR3, hT, -, HA, -, -⟩ := id D
  obtain ⟨HM, hτ, -, hA, h3, h6, hp6⟩ := id HRef
  have H0 := set72 D (Cc.refl b h) (k := 0) 0
  have km := km_0 HM
  have hf := fe_of HRef
  have hp : 2 ^ P ≤ 64 := Nat.pow_le_pow_right (n := 2) (by decide) (show P ≤ 6 by omega)
  by_cases cv : 0 ≤ v.toInt ∧ v.toInt < (2 ^ P : Nat)
  · obtain ⟨s, hs, rfl⟩ := nI_ex (P := 2 ^ P) cv
    have rm := run_m (n := n) H0.1 H0.2.2.1 h3 h6 hn hf hs (cc := 0) (by decide)
    refine ⟨nI (rN (fun p => nv (h.I (b + 73)) (11 + p)) P 0 P s), _, ?_, ?_, (ref_sc I 0).sc (Sc.s32 b (h.setI (b + 72) 0 0) (nI (rN (fun p => nv (h.I (b + 73)) (11 + p)) P 0 P s)))⟩
    · unfold f_X11_rounds
      rw [if_pos (kx_0 HX), gR_ok (kx_0 HX) (rx_0_4 HX), bS, isSetc_ok HX HA.1 h6, bS, if_pos cv, if_neg (by decide), bS, rounds_c (now_PL HX) HA.1 h6 hn hf hs, bS]
    · unfold f_X12_rounds
      rw [if_pos km, pI_ok km, bS, isSetm_ok H0.1 H0.2.2.1 h3 h6, bS, if_pos cv, if_neg (by decide), show f_X12_runOf n z (h.setI (b + 72) 0 0) (b + 72) (nI s) 0 = _ from rm, bS]
      dsimp only
      rw [gI_ok km, bS, rowI_I, upd, if_pos rfl]
  · refine ⟨-99000003, _, ?_, ?_, ref_sc I 0⟩
    · unfold f_X11_rounds
      rw [if_pos (kx_0 HX), gR_ok (kx_0 HX) (rx_0_4 HX), bS, isSetc_ok HX HA.1 h6, bS, if_neg cv, if_pos rfl, f_X11_refused, bS]
      rfl
    · unfold f_X12_rounds
      rw [if_pos km, pI_ok km, bS, isSetm_ok H0.1 H0.2.2.1 h3 h6, bS, if_neg cv, if_pos rfl]
theorem spark_ok (I : Inv z0 h0 b c z h) (hn : 400000 ≤ n) (v : Int32) : ∃ r h2, f_X11_spark n z h b v = some r ∧ f_X12_spark n z h (b + 72) v = some (r, h2) ∧ Inv z0 h0 b c z h2 := by
  obtain ⟨t, τ, P, nx, sz, D⟩ := I.now
  obtain ⟨HX, HRef, hR3, hT, -, HA, -, -⟩ := id D
  obtain ⟨HM, hτ, -, hA, h3, h6, hp6⟩ := id HRef
  have H0 := set72 D (Cc.refl b h) (k := 0) 0
  have km := km_0 HM
  have hf := fe_of HRef
  have hp : 2 ^ P ≤ 64 := Nat.pow_le_pow_right (n := 2) (by decide) (show P ≤ 6 by omega)
  have i1 : (v < 1) ↔ (v.toInt < 1) := by rw [lt_iff]; rfl
  have i6 : (v ≤ 6) ↔ (v.toInt ≤ 6) := by rw [le_iff]; rfl
  have wv : f_X12_within z (h.setI (b + 72) 0 0) (Int32.toInt64 v) 1 6 = some (if 1 ≤ v.toInt ∧ v.toInt ≤ 6 then 1 else 0) := by
    rw [within_ok, to64]
    rfl
  by_cases cv : 1 ≤ v.toInt ∧ v.toInt ≤ 6
  · obtain ⟨m, hm, rfl⟩ := nI_ex (x := v) (P := 7) (by omega)
    obtain ⟨r, g', e1, e2, S⟩ := spark_sim (n := n) HX HA.1 h3 h6 hn hf (m := m) (by omega) (2 ^ P) 0 n n 7 (-1) (h.setI (b + 72) 0 0) (by omega) (by omega) (by omega) (Or.inl ⟨rfl, rfl⟩) H0.1 H0.2.2.1
    refine ⟨r, g', ?_, ?_, (ref_sc I 0).sc S⟩
    · unfold f_X11_spark
      rw [if_pos (kx_0 HX), if_neg (fun q => by have := i1.mp q; omega), if_pos (i6.mpr cv.2)]
      exact e1
    · unfold f_X12_spark
      rw [if_pos km, pI_ok km, bS, wv, bS, if_pos cv, if_neg (by decide)]
      exact e2
  · have key : ∀ {α : Type} (x y : α), (if v < 1 then x else if v ≤ 6 then y else x) = x := fun x y => by
      by_cases d : v < 1
      · rw [if_pos d]
      · rw [if_neg d, if_neg (fun q => cv ⟨by have d' : ¬ v.toInt < 1 := fun q => d (i1.mpr q); omega, i6.mp q⟩)]
    refine ⟨-99000003, _, ?_, ?_, ref_sc I 0⟩
    · unfold f_X11_spark f_X11_spark_11
      rw [if_pos (kx_0 HX), key, f_X11_refused, bS]
      rfl
    · unfold f_X12_spark
      rw [if_pos km, pI_ok km, bS, wv, bS, if_neg cv, if_pos rfl]
theorem calm_ok (I : Inv z0 h0 b c z h) (hn : 400000 ≤ n) (u v : Int32) : ∃ r h2, f_X11_calm n z h b u v = some r ∧ f_X12_calm n z h (b + 72) u v = some (r, h2) ∧ Inv z0 h0 b c z h2 := by
  obtain ⟨t, τ, P, nx, sz, D⟩ := I.now
  obtain ⟨HX, HRef, hR3, hT, -, HA, -, -⟩ := id D
  obtain ⟨HM, hτ, -, hA, h3, h6, hp6⟩ := id HRef
  have H0 := set72 D (Cc.refl b h) (k := 0) 0
  have km := km_0 HM
  have hf := fe_of HRef
  have hp : 2 ^ P ≤ 64 := Nat.pow_le_pow_right (n := 2) (by decide) (show P ≤ 6 by omega)
  have i1 : (v < 0) ↔ (v.toInt < 0) := by rw [lt_iff]; rfl
  have i6 : (v ≤ 6) ↔ (v.toInt ≤ 6) := by rw [le_iff]; rfl
  have wv : f_X12_within z (h.setI (b + 72) 0 0) (Int32.toInt64 v) 0 6 = some (if 0 ≤ v.toInt ∧ v.toInt ≤ 6 then 1 else 0) := by
    rw [within_ok, to64]
    rfl
  by_cases cu : 0 ≤ u.toInt ∧ u.toInt < (2 ^ P : Nat)
  · obtain ⟨s, hs, rfl⟩ := nI_ex (P := 2 ^ P) cu
    by_cases cv : 0 ≤ v.toInt ∧ v.toInt ≤ 6
    · obtain ⟨m, hm, rfl⟩ := nI_ex (x := v) (P := 7) (by omega)
      obtain ⟨r, g', e1, e2, S⟩ := calm_sim (n := n) HX HA.1 h3 h6 hn hf (m := m) (t := s) (by omega) hs (2 ^ P) 0 n n 7 (-1) (h.setI (b + 72) 0 0) (by omega) (by omega) (by omega) (Or.inl ⟨rfl, rfl⟩) H0.1 H0.2.2.1
      refine ⟨r, g', ?_, ?_, (ref_sc I 0).sc S⟩
      · unfold f_X11_calm
        rw [if_pos (kx_0 HX), gR_ok (kx_0 HX) (rx_0_4 HX), bS, isSetc_ok HX HA.1 h6, bS, if_pos cu, if_neg (by decide), if_neg (fun q => by have := i1.mp q; omega), if_pos (i6.mpr cv.2)]
        exact e1
      · unfold f_X12_calm
        rw [if_pos km, pI_ok km, bS, isSetm_ok H0.1 H0.2.2.1 h3 h6, bS, if_pos cu, if_neg (by decide), wv, bS, if_pos cv, if_neg (by decide)]
        exact e2
    · have key : ∀ {α : Type} (x y : α), (if v < 0 then x else if v ≤ 6 then y else x) = x := fun x y => by
        by_cases d : v < 0
        · rw [if_pos d]
        · rw [if_neg d, if_neg (fun q => cv ⟨by have d' : ¬ v.toInt < 0 := fun q => d (i1.mpr q); omega, i6.mp q⟩)]
      refine ⟨-99000003, _, ?_, ?_, ref_sc I 0⟩
      · unfold f_X11_calm f_X11_calm_21
        rw [if_pos (kx_0 HX), gR_ok (kx_0 HX) (rx_0_4 HX), bS, isSetc_ok HX HA.1 h6, bS, if_pos cu, if_neg (show ¬ (1 : Int32) = 0 by decide), key, f_X11_refused, bS]
        rfl
      · unfold f_X12_calm
        rw [if_pos km, pI_ok km, bS, isSetm_ok H0.1 H0.2.2.1 h3 h6, bS, if_pos cu, if_neg (by decide), wv, bS, if_neg cv, if_pos rfl]
  · refine ⟨-99000003, _, ?_, ?_, ref_sc I 0⟩
    · unfold f_X11_calm f_X11_calm_21
      rw [if_pos (kx_0 HX), gR_ok (kx_0 HX) (rx_0_4 HX), bS, isSetc_ok HX HA.1 h6, bS, if_neg cu, if_pos rfl, f_X11_refused, bS]
      rfl
    · unfold f_X12_calm
      rw [if_pos km, pI_ok km, bS, isSetm_ok H0.1 H0.2.2.1 h3 h6, bS, if_neg cu, if_pos rfl]
theorem rests_ok (I : Inv z0 h0 b c z h) (hn : 400000 ≤ n) : ∃ r h2, f_X11_rests n z h b = some r ∧ f_X12_rests n z h (b + 72) = some (r, h2) ∧ Inv z0 h0 b c z h2 := by
  obtain ⟨t, τ, P, nx, sz, D⟩ := I.now
  obtain ⟨HX, HRef, hR3, hT, -, HA, -, -⟩ := id D
  obtain ⟨HM, hτ, -, hA, h3, h6, hp6⟩ := id HRef
  have H0 := set72 D (Cc.refl b h) (k := 0) 0
  have km := km_0 HM
  have hp : 2 ^ P ≤ 64 := Nat.pow_le_pow_right (n := 2) (by decide) (show P ≤ 6 by omega)
  obtain ⟨r, e1, e2⟩ := rests_sim (n := n) HX HA.1 h3 h6 hn (fe_of HRef) H0.1 H0.2.2.1 (2 ^ P) 0 n n 0 (by omega) (by omega) (by omega)
  refine ⟨r, _, ?_, ?_, ref_sc I 0⟩
  · unfold f_X11_rests
    rw [if_pos (kx_0 HX)]
    exact e1
  · unfold f_X12_rests
    rw [if_pos km, pI_ok km, bS]
    exact e2
theorem rest_ok (I : Inv z0 h0 b c z h) (hn : 400000 ≤ n) (v : Int32) : ∃ r h2, f_X11_rest n z h b v = some r ∧ f_X12_rest n z h (b + 72) v = some (r, h2) ∧ Inv z0 h0 b c z h2 := by
  obtain ⟨t, τ, P, nx, sz, D⟩ := I.now
  obtain ⟨HX, HRef, hR3, hT, -, HA, -, -⟩ := id D
  obtain ⟨HM, hτ, -, hA, h3, h6, hp6⟩ := id HRef
  have H0 := set72 D (Cc.refl b h) (k := 0) 0
  have km := km_0 HM
  have hp : 2 ^ P ≤ 64 := Nat.pow_le_pow_right (n := 2) (by decide) (show P ≤ 6 by omega)
  obtain ⟨r, e1, e2⟩ := rest_sim (n := n) HX HA.1 h3 h6 hn (fe_of HRef) H0.1 H0.2.2.1 v (2 ^ P) 0 n n 0 (by omega) (by omega) (by omega)
  by_cases cv : 0 ≤ v
  · refine ⟨r, _, ?_, ?_, ref_sc I 0⟩
    · unfold f_X11_rest
      rw [if_pos (kx_0 HX), if_pos cv]
      exact e1
    · unfold f_X12_rest
      rw [if_pos km, pI_ok km, bS, if_pos cv]
      exact e2
  · refine ⟨-99000003, _, ?_, ?_, ref_sc I 0⟩
    · unfold f_X11_rest
      rw [if_pos (kx_0 HX), if_neg cv, f_X11_refused, bS]
      rfl
    · unfold f_X12_rest
      rw [if_pos km, pI_ok km, bS, if_neg cv]
end
