/-! ===== the law, call by call ===== -/
theorem cnt_le (R : Nat → Option Nat) : ∀ N, cnt R N ≤ N := by
  intro N
  induction N with
  | zero => exact Nat.le_refl _
  | succ N ih =>
    unfold cnt
    split <;> omega
theorem Inv.room {z0 : Sh} {h0 : Hp} {b c : Nat} {z : Sh} {h : Hp} (I : Inv z0 h0 b c z h) (hb : b = z0.sz) (hc : c ≤ 550) : z.sz ≤ z0.sz + 600000 ∧ z.sl ≤ z0.sl + 7302249 := by
  obtain ⟨r1, r2, r3, r4⟩ := I.2.2.2.2.2.2.2.2
  have h1 := cnt_le (h.R (b + 45)) 10
  have h2 : (if (h.R (b + 55) 4).isSome then 2 else 0) ≤ 2 := by split <;> omega
  have h3 : (if (h.R (b + 55) 4).isSome then 200000 else 0) ≤ 200000 := by split <;> omega
  omega
/-- town, as it is still to be shown -/
def TownC (n : Nat) (z0 : Sh) (h0 : Hp) (b : Nat) : Prop := ∀ c z h v, Inv z0 h0 b c z h → c < 600 → ∃ r h1 z1 h2, f_X11_town n z h b v = some (r, h1, z1) ∧ f_X12_town n z1 h1 (b + 72) v = some (r, h2) ∧ Inv z0 h0 b (c + 1) z1 h2
section
variable {n : Nat} {z0 : Sh} {h0 : Hp} {b c : Nat} {z : Sh} {h : Hp} {L : Nat} {xs : Nat → Int32} {v3 x1 x2 x3 x4 x5 : Int32}
theorem i_law_204 (I : Inv z0 h0 b c z h) (hn : 400000 ≤ n) (hc : c < 600) (hb : b = z0.sz) (hc2 : c < 550) (T0 : TN b z0 h0) (TC : TownC n z0 h0 b) (s1 : sc L xs (v3 + 1) = some x1) (s2 : sc L xs (v3 + 2) = some x2) (s3 : sc L xs (v3 + 3) = some x3) (s4 : sc L xs (v3 + 4) = some x4) (s5 : sc L xs (v3 + 5) = some x5) : ∃ h2 z2, f_law_204 n z0 L xs b (b + 72) z h v3 = some (h2, z2) ∧ Inv z0 h0 b (c + 1) z2 h2 := by
  obtain ⟨r, g1, g2, e1, e2, I2⟩ := feed_ok I hn x1 x2 x3 x4 x5
  refine ⟨g2, z, ?_, I2.up⟩
  unfold f_law_204
  simp only [s1, s2, s3, s4, s5, bS, e1, e2, eq_self, if_true]
theorem i_law_267 (I : Inv z0 h0 b c z h) (hn : 400000 ≤ n) (hc : c < 600) (hb : b = z0.sz) (hc2 : c < 550) (T0 : TN b z0 h0) (TC : TownC n z0 h0 b) (s1 : sc L xs (v3 + 1) = some x1) (s2 : sc L xs (v3 + 2) = some x2) (s3 : sc L xs (v3 + 3) = some x3) (s4 : sc L xs (v3 + 4) = some x4) (s5 : sc L xs (v3 + 5) = some x5) : ∃ h2 z2, f_law_267 n z0 L xs b (b + 72) z h v3 = some (h2, z2) ∧ Inv z0 h0 b (c + 1) z2 h2 := by
  obtain ⟨r, g1, z1, g2, e1, e2, I2⟩ := TC c z h x1 I hc
  refine ⟨g2, z1, ?_, I2⟩
  have hg := I2.room hb (by omega)
  unfold f_law_267
  simp only [s1, s2, s3, s4, s5, bS, e1, e2, gdL, if_pos hg, eq_self, if_true]
theorem i_law_290 (I : Inv z0 h0 b c z h) (hn : 400000 ≤ n) (hc : c < 600) (hb : b = z0.sz) (hc2 : c < 550) (T0 : TN b z0 h0) (TC : TownC n z0 h0 b) (s1 : sc L xs (v3 + 1) = some x1) (s2 : sc L xs (v3 + 2) = some x2) (s3 : sc L xs (v3 + 3) = some x3) (s4 : sc L xs (v3 + 4) = some x4) (s5 : sc L xs (v3 + 5) = some x5) : ∃ h2 z2, f_law_290 n z0 L xs b (b + 72) z h v3 = some (h2, z2) ∧ Inv z0 h0 b (c + 1) z2 h2 := by
  obtain ⟨r, g2, e1, e2, I2⟩ := fault_ok I x1
  refine ⟨g2, z, ?_, I2.up⟩
  unfold f_law_290
  simp only [s1, s2, s3, s4, s5, bS, e1, e2, eq_self, if_true]
theorem i_law_313 (I : Inv z0 h0 b c z h) (hn : 400000 ≤ n) (hc : c < 600) (hb : b = z0.sz) (hc2 : c < 550) (T0 : TN b z0 h0) (TC : TownC n z0 h0 b) (s1 : sc L xs (v3 + 1) = some x1) (s2 : sc L xs (v3 + 2) = some x2) (s3 : sc L xs (v3 + 3) = some x3) (s4 : sc L xs (v3 + 4) = some x4) (s5 : sc L xs (v3 + 5) = some x5) : ∃ h2 z2, f_law_313 n z0 L xs b (b + 72) z h v3 = some (h2, z2) ∧ Inv z0 h0 b (c + 1) z2 h2 := by
  obtain ⟨r, g2, e1, e2, I2⟩ := person_ok I x1 x2
  refine ⟨g2, z, ?_, I2.up⟩
  unfold f_law_313
  simp only [s1, s2, s3, s4, s5, bS, e1, e2, eq_self, if_true]
theorem i_law_346 (I : Inv z0 h0 b c z h) (hn : 400000 ≤ n) (hc : c < 600) (hb : b = z0.sz) (hc2 : c < 550) (T0 : TN b z0 h0) (TC : TownC n z0 h0 b) (s1 : sc L xs (v3 + 1) = some x1) (s2 : sc L xs (v3 + 2) = some x2) (s3 : sc L xs (v3 + 3) = some x3) (s4 : sc L xs (v3 + 4) = some x4) (s5 : sc L xs (v3 + 5) = some x5) : ∃ h2 z2, f_law_346 n z0 L xs b (b + 72) z h v3 = some (h2, z2) ∧ Inv z0 h0 b (c + 1) z2 h2 := by
  obtain ⟨r, g1, g2, e1, e2, I2⟩ := worth_ok I hn x1 x2
  refine ⟨g2, z, ?_, I2.up⟩
  unfold f_law_346
  simp only [s1, s2, s3, s4, s5, bS, e1, e2, eq_self, if_true]
theorem i_law_379 (I : Inv z0 h0 b c z h) (hn : 400000 ≤ n) (hc : c < 600) (hb : b = z0.sz) (hc2 : c < 550) (T0 : TN b z0 h0) (TC : TownC n z0 h0 b) (s1 : sc L xs (v3 + 1) = some x1) (s2 : sc L xs (v3 + 2) = some x2) (s3 : sc L xs (v3 + 3) = some x3) (s4 : sc L xs (v3 + 4) = some x4) (s5 : sc L xs (v3 + 5) = some x5) : ∃ h2 z2, f_law_379 n z0 L xs b (b + 72) z h v3 = some (h2, z2) ∧ Inv z0 h0 b (c + 1) z2 h2 := by
  obtain ⟨r, g1, g2, e1, e2, I2⟩ := grown_ok I hn x1
  refine ⟨g2, z, ?_, I2.up⟩
  unfold f_law_379
  simp only [s1, s2, s3, s4, s5, bS, e1, e2, eq_self, if_true]
theorem i_law_402 (I : Inv z0 h0 b c z h) (hn : 400000 ≤ n) (hc : c < 600) (hb : b = z0.sz) (hc2 : c < 550) (T0 : TN b z0 h0) (TC : TownC n z0 h0 b) (s1 : sc L xs (v3 + 1) = some x1) (s2 : sc L xs (v3 + 2) = some x2) (s3 : sc L xs (v3 + 3) = some x3) (s4 : sc L xs (v3 + 4) = some x4) (s5 : sc L xs (v3 + 5) = some x5) : ∃ h2 z2, f_law_402 n z0 L xs b (b + 72) z h v3 = some (h2, z2) ∧ Inv z0 h0 b (c + 1) z2 h2 := by
  obtain ⟨r, g1, g2, e1, e2, I2⟩ := live_ok I hn x1 x2
  refine ⟨g2, z, ?_, I2.up⟩
  unfold f_law_402
  simp only [s1, s2, s3, s4, s5, bS, e1, e2, eq_self, if_true]
theorem i_law_435 (I : Inv z0 h0 b c z h) (hn : 400000 ≤ n) (hc : c < 600) (hb : b = z0.sz) (hc2 : c < 550) (T0 : TN b z0 h0) (TC : TownC n z0 h0 b) (s1 : sc L xs (v3 + 1) = some x1) (s2 : sc L xs (v3 + 2) = some x2) (s3 : sc L xs (v3 + 3) = some x3) (s4 : sc L xs (v3 + 4) = some x4) (s5 : sc L xs (v3 + 5) = some x5) : ∃ h2 z2, f_law_435 n z0 L xs b (b + 72) z h v3 = some (h2, z2) ∧ Inv z0 h0 b (c + 1) z2 h2 := by
  obtain ⟨r, g1, g2, e1, e2, I2⟩ := draw_ok I hn x1
  refine ⟨g2, z, ?_, I2.up⟩
  unfold f_law_435
  simp only [s1, s2, s3, s4, s5, bS, e1, e2, eq_self, if_true]
theorem i_law_458 (I : Inv z0 h0 b c z h) (hn : 400000 ≤ n) (hc : c < 600) (hb : b = z0.sz) (hc2 : c < 550) (T0 : TN b z0 h0) (TC : TownC n z0 h0 b) (s1 : sc L xs (v3 + 1) = some x1) (s2 : sc L xs (v3 + 2) = some x2) (s3 : sc L xs (v3 + 3) = some x3) (s4 : sc L xs (v3 + 4) = some x4) (s5 : sc L xs (v3 + 5) = some x5) : ∃ h2 z2, f_law_458 n z0 L xs b (b + 72) z h v3 = some (h2, z2) ∧ Inv z0 h0 b (c + 1) z2 h2 := by
  obtain ⟨r, g1, g2, e1, e2, I2⟩ := pledge_ok I hn x1 x2
  refine ⟨g2, z, ?_, I2.up⟩
  unfold f_law_458
  simp only [s1, s2, s3, s4, s5, bS, e1, e2, eq_self, if_true]
theorem i_law_491 (I : Inv z0 h0 b c z h) (hn : 400000 ≤ n) (hc : c < 600) (hb : b = z0.sz) (hc2 : c < 550) (T0 : TN b z0 h0) (TC : TownC n z0 h0 b) (s1 : sc L xs (v3 + 1) = some x1) (s2 : sc L xs (v3 + 2) = some x2) (s3 : sc L xs (v3 + 3) = some x3) (s4 : sc L xs (v3 + 4) = some x4) (s5 : sc L xs (v3 + 5) = some x5) : ∃ h2 z2, f_law_491 n z0 L xs b (b + 72) z h v3 = some (h2, z2) ∧ Inv z0 h0 b (c + 1) z2 h2 := by
  obtain ⟨r, g1, g2, e1, e2, I2⟩ := redeem_ok I hn x1
  refine ⟨g2, z, ?_, I2.up⟩
  unfold f_law_491
  simp only [s1, s2, s3, s4, s5, bS, e1, e2, eq_self, if_true]
theorem i_law_514 (I : Inv z0 h0 b c z h) (hn : 400000 ≤ n) (hc : c < 600) (hb : b = z0.sz) (hc2 : c < 550) (T0 : TN b z0 h0) (TC : TownC n z0 h0 b) (s1 : sc L xs (v3 + 1) = some x1) (s2 : sc L xs (v3 + 2) = some x2) (s3 : sc L xs (v3 + 3) = some x3) (s4 : sc L xs (v3 + 4) = some x4) (s5 : sc L xs (v3 + 5) = some x5) : ∃ h2 z2, f_law_514 n z0 L xs b (b + 72) z h v3 = some (h2, z2) ∧ Inv z0 h0 b (c + 1) z2 h2 := by
  obtain ⟨r, g1, g2, e1, e2, I2⟩ := talent_ok I hn x1 x2
  refine ⟨g2, z, ?_, I2.up⟩
  unfold f_law_514
  simp only [s1, s2, s3, s4, s5, bS, e1, e2, eq_self, if_true]
theorem i_law_547 (I : Inv z0 h0 b c z h) (hn : 400000 ≤ n) (hc : c < 600) (hb : b = z0.sz) (hc2 : c < 550) (T0 : TN b z0 h0) (TC : TownC n z0 h0 b) (s1 : sc L xs (v3 + 1) = some x1) (s2 : sc L xs (v3 + 2) = some x2) (s3 : sc L xs (v3 + 3) = some x3) (s4 : sc L xs (v3 + 4) = some x4) (s5 : sc L xs (v3 + 5) = some x5) : ∃ h2 z2, f_law_547 n z0 L xs b (b + 72) z h v3 = some (h2, z2) ∧ Inv z0 h0 b (c + 1) z2 h2 := by
  obtain ⟨r, g1, g2, e1, e2, I2⟩ := undo_ok I hn x1
  refine ⟨g2, z, ?_, I2.up⟩
  unfold f_law_547
  simp only [s1, s2, s3, s4, s5, bS, e1, e2, eq_self, if_true]
theorem i_law_570 (I : Inv z0 h0 b c z h) (hn : 400000 ≤ n) (hc : c < 600) (hb : b = z0.sz) (hc2 : c < 550) (T0 : TN b z0 h0) (TC : TownC n z0 h0 b) (s1 : sc L xs (v3 + 1) = some x1) (s2 : sc L xs (v3 + 2) = some x2) (s3 : sc L xs (v3 + 3) = some x3) (s4 : sc L xs (v3 + 4) = some x4) (s5 : sc L xs (v3 + 5) = some x5) : ∃ h2 z2, f_law_570 n z0 L xs b (b + 72) z h v3 = some (h2, z2) ∧ Inv z0 h0 b (c + 1) z2 h2 := by
  obtain ⟨r, g1, g2, e1, e2, I2⟩ := judge_ok I hn x1 x2
  refine ⟨g2, z, ?_, I2.up⟩
  unfold f_law_570
  simp only [s1, s2, s3, s4, s5, bS, e1, e2, eq_self, if_true]
theorem i_law_603 (I : Inv z0 h0 b c z h) (hn : 400000 ≤ n) (hc : c < 600) (hb : b = z0.sz) (hc2 : c < 550) (T0 : TN b z0 h0) (TC : TownC n z0 h0 b) (s1 : sc L xs (v3 + 1) = some x1) (s2 : sc L xs (v3 + 2) = some x2) (s3 : sc L xs (v3 + 3) = some x3) (s4 : sc L xs (v3 + 4) = some x4) (s5 : sc L xs (v3 + 5) = some x5) : ∃ h2 z2, f_law_603 n z0 L xs b (b + 72) z h v3 = some (h2, z2) ∧ Inv z0 h0 b (c + 1) z2 h2 := by
  obtain ⟨r, g1, g2, e1, e2, I2⟩ := perform_ok I hn x1
  refine ⟨g2, z, ?_, I2.up⟩
  unfold f_law_603
  simp only [s1, s2, s3, s4, s5, bS, e1, e2, eq_self, if_true]
theorem i_law_626 (I : Inv z0 h0 b c z h) (hn : 400000 ≤ n) (hc : c < 600) (hb : b = z0.sz) (hc2 : c < 550) (T0 : TN b z0 h0) (TC : TownC n z0 h0 b) (s1 : sc L xs (v3 + 1) = some x1) (s2 : sc L xs (v3 + 2) = some x2) (s3 : sc L xs (v3 + 3) = some x3) (s4 : sc L xs (v3 + 4) = some x4) (s5 : sc L xs (v3 + 5) = some x5) : ∃ h2 z2, f_law_626 n z0 L xs b (b + 72) z h v3 = some (h2, z2) ∧ Inv z0 h0 b (c + 1) z2 h2 := by
  obtain ⟨r, g1, g2, e1, e2, I2⟩ := season_ok I hn x1 x2
  refine ⟨g2, z, ?_, I2.up⟩
  unfold f_law_626
  simp only [s1, s2, s3, s4, s5, bS, e1, e2, eq_self, if_true]
theorem i_law_659 (I : Inv z0 h0 b c z h) (hn : 400000 ≤ n) (hc : c < 600) (hb : b = z0.sz) (hc2 : c < 550) (T0 : TN b z0 h0) (TC : TownC n z0 h0 b) (s1 : sc L xs (v3 + 1) = some x1) (s2 : sc L xs (v3 + 2) = some x2) (s3 : sc L xs (v3 + 3) = some x3) (s4 : sc L xs (v3 + 4) = some x4) (s5 : sc L xs (v3 + 5) = some x5) : ∃ h2 z2, f_law_659 n z0 L xs b (b + 72) z h v3 = some (h2, z2) ∧ Inv z0 h0 b (c + 1) z2 h2 := by
  obtain ⟨r, g1, z1, g2, e1, e2, I2⟩ := best_ok I hn hc x1
  refine ⟨g2, z1, ?_, I2⟩
  have hg := I2.room hb (by omega)
  unfold f_law_659
  simp only [s1, s2, s3, s4, s5, bS, e1, e2, gdL, if_pos hg, eq_self, if_true]
theorem i_law_682 (I : Inv z0 h0 b c z h) (hn : 400000 ≤ n) (hc : c < 600) (hb : b = z0.sz) (hc2 : c < 550) (T0 : TN b z0 h0) (TC : TownC n z0 h0 b) (s1 : sc L xs (v3 + 1) = some x1) (s2 : sc L xs (v3 + 2) = some x2) (s3 : sc L xs (v3 + 3) = some x3) (s4 : sc L xs (v3 + 4) = some x4) (s5 : sc L xs (v3 + 5) = some x5) : ∃ h2 z2, f_law_682 n z0 L xs b (b + 72) z h v3 = some (h2, z2) ∧ Inv z0 h0 b (c + 1) z2 h2 := by
  obtain ⟨r, g1, z1, g2, e1, e2, I2⟩ := course_ok I hn hc x1 x2
  refine ⟨g2, z1, ?_, I2⟩
  have hg := I2.room hb (by omega)
  unfold f_law_682
  simp only [s1, s2, s3, s4, s5, bS, e1, e2, gdL, if_pos hg, eq_self, if_true]
theorem i_law_715 (I : Inv z0 h0 b c z h) (hn : 400000 ≤ n) (hc : c < 600) (hb : b = z0.sz) (hc2 : c < 550) (T0 : TN b z0 h0) (TC : TownC n z0 h0 b) (s1 : sc L xs (v3 + 1) = some x1) (s2 : sc L xs (v3 + 2) = some x2) (s3 : sc L xs (v3 + 3) = some x3) (s4 : sc L xs (v3 + 4) = some x4) (s5 : sc L xs (v3 + 5) = some x5) : ∃ h2 z2, f_law_715 n z0 L xs b (b + 72) z h v3 = some (h2, z2) ∧ Inv z0 h0 b (c + 1) z2 h2 := by
  obtain ⟨r, g1, z1, g2, e1, e2, I2⟩ := drawsAt_ok I hn hc x1
  refine ⟨g2, z1, ?_, I2⟩
  have hg := I2.room hb (by omega)
  unfold f_law_715
  simp only [s1, s2, s3, s4, s5, bS, e1, e2, gdL, if_pos hg, eq_self, if_true]
theorem i_law_738 (I : Inv z0 h0 b c z h) (hn : 400000 ≤ n) (hc : c < 600) (hb : b = z0.sz) (hc2 : c < 550) (T0 : TN b z0 h0) (TC : TownC n z0 h0 b) (s1 : sc L xs (v3 + 1) = some x1) (s2 : sc L xs (v3 + 2) = some x2) (s3 : sc L xs (v3 + 3) = some x3) (s4 : sc L xs (v3 + 4) = some x4) (s5 : sc L xs (v3 + 5) = some x5) : ∃ h2 z2, f_law_738 n z0 L xs b (b + 72) z h v3 = some (h2, z2) ∧ Inv z0 h0 b (c + 1) z2 h2 := by
  obtain ⟨r, g1, g2, e1, e2, I2⟩ := courses_ok I hn hc x1
  refine ⟨g2, z, ?_, I2⟩
  have hl : lg_cmp r r = 0 := (cmp_eq r r).mpr rfl
  unfold f_law_738
  simp only [s1, s2, s3, s4, s5, bS, e1, e2, hl, eq_self, if_true]
theorem i_law_762 (I : Inv z0 h0 b c z h) (hn : 400000 ≤ n) (hc : c < 600) (hb : b = z0.sz) (hc2 : c < 550) (T0 : TN b z0 h0) (TC : TownC n z0 h0 b) (s1 : sc L xs (v3 + 1) = some x1) (s2 : sc L xs (v3 + 2) = some x2) (s3 : sc L xs (v3 + 3) = some x3) (s4 : sc L xs (v3 + 4) = some x4) (s5 : sc L xs (v3 + 5) = some x5) : ∃ h2 z2, f_law_762 n z0 L xs b (b + 72) z h v3 = some (h2, z2) ∧ Inv z0 h0 b (c + 1) z2 h2 := by
  obtain ⟨r, g1, z1, g2, e1, e2, I2⟩ := soonest_ok I hn hc x1 x2
  refine ⟨g2, z1, ?_, I2⟩
  have hg := I2.room hb (by omega)
  unfold f_law_762
  simp only [s1, s2, s3, s4, s5, bS, e1, e2, gdL, if_pos hg, eq_self, if_true]
theorem i_law_795 (I : Inv z0 h0 b c z h) (hn : 400000 ≤ n) (hc : c < 600) (hb : b = z0.sz) (hc2 : c < 550) (T0 : TN b z0 h0) (TC : TownC n z0 h0 b) (s1 : sc L xs (v3 + 1) = some x1) (s2 : sc L xs (v3 + 2) = some x2) (s3 : sc L xs (v3 + 3) = some x3) (s4 : sc L xs (v3 + 4) = some x4) (s5 : sc L xs (v3 + 5) = some x5) : ∃ h2 z2, f_law_795 n z0 L xs b (b + 72) z h v3 = some (h2, z2) ∧ Inv z0 h0 b (c + 1) z2 h2 := by
  obtain ⟨r, g1, z1, g2, e1, e2, I2⟩ := mean_ok I hn hc T0 x1 x2
  refine ⟨g2, z1, ?_, I2⟩
  have hg := I2.room hb (by omega)
  have hl : lg_cmp r r = 0 := (cmp_eq r r).mpr rfl
  unfold f_law_795
  simp only [s1, s2, s3, s4, s5, bS, e1, e2, gdL, if_pos hg, hl, eq_self, if_true]
theorem i_law_829 (I : Inv z0 h0 b c z h) (hn : 400000 ≤ n) (hc : c < 600) (hb : b = z0.sz) (hc2 : c < 550) (T0 : TN b z0 h0) (TC : TownC n z0 h0 b) (s1 : sc L xs (v3 + 1) = some x1) (s2 : sc L xs (v3 + 2) = some x2) (s3 : sc L xs (v3 + 3) = some x3) (s4 : sc L xs (v3 + 4) = some x4) (s5 : sc L xs (v3 + 5) = some x5) : ∃ h2 z2, f_law_829 n z0 L xs b (b + 72) z h v3 = some (h2, z2) ∧ Inv z0 h0 b (c + 1) z2 h2 := by
  obtain ⟨r, g1, z1, g2, e1, e2, I2⟩ := choice_ok I hn hc T0 x1
  refine ⟨g2, z1, ?_, I2⟩
  have hg := I2.room hb (by omega)
  unfold f_law_829
  simp only [s1, s2, s3, s4, s5, bS, e1, e2, gdL, if_pos hg, eq_self, if_true]
theorem i_law_852 (I : Inv z0 h0 b c z h) (hn : 400000 ≤ n) (hc : c < 600) (hb : b = z0.sz) (hc2 : c < 550) (T0 : TN b z0 h0) (TC : TownC n z0 h0 b) (s1 : sc L xs (v3 + 1) = some x1) (s2 : sc L xs (v3 + 2) = some x2) (s3 : sc L xs (v3 + 3) = some x3) (s4 : sc L xs (v3 + 4) = some x4) (s5 : sc L xs (v3 + 5) = some x5) : ∃ h2 z2, f_law_852 n z0 L xs b (b + 72) z h v3 = some (h2, z2) ∧ Inv z0 h0 b (c + 1) z2 h2 := by
  obtain ⟨r, g1, z1, g2, e1, e2, I2⟩ := drawing_ok I hn hc T0 x1
  refine ⟨g2, z1, ?_, I2⟩
  have hg := I2.room hb (by omega)
  unfold f_law_852
  simp only [s1, s2, s3, s4, s5, bS, e1, e2, gdL, if_pos hg, eq_self, if_true]
theorem i_law_875 (I : Inv z0 h0 b c z h) (hn : 400000 ≤ n) (hc : c < 600) (hb : b = z0.sz) (hc2 : c < 550) (T0 : TN b z0 h0) (TC : TownC n z0 h0 b) (s1 : sc L xs (v3 + 1) = some x1) (s2 : sc L xs (v3 + 2) = some x2) (s3 : sc L xs (v3 + 3) = some x3) (s4 : sc L xs (v3 + 4) = some x4) (s5 : sc L xs (v3 + 5) = some x5) : ∃ h2 z2, f_law_875 n z0 L xs b (b + 72) z h v3 = some (h2, z2) ∧ Inv z0 h0 b (c + 1) z2 h2 := by
  obtain ⟨r, g1, z1, g2, e1, e2, I2⟩ := hope_ok I hn hc T0 x1 x2 x3
  refine ⟨g2, z1, ?_, I2⟩
  have hg := I2.room hb (by omega)
  have hl : lg_cmp r r = 0 := (cmp_eq r r).mpr rfl
  unfold f_law_875
  simp only [s1, s2, s3, s4, s5, bS, e1, e2, gdL, if_pos hg, hl, eq_self, if_true]
theorem i_law_919 (I : Inv z0 h0 b c z h) (hn : 400000 ≤ n) (hc : c < 600) (hb : b = z0.sz) (hc2 : c < 550) (T0 : TN b z0 h0) (TC : TownC n z0 h0 b) (s1 : sc L xs (v3 + 1) = some x1) (s2 : sc L xs (v3 + 2) = some x2) (s3 : sc L xs (v3 + 3) = some x3) (s4 : sc L xs (v3 + 4) = some x4) (s5 : sc L xs (v3 + 5) = some x5) : ∃ h2 z2, f_law_919 n z0 L xs b (b + 72) z h v3 = some (h2, z2) ∧ Inv z0 h0 b (c + 1) z2 h2 := by
  obtain ⟨r, g1, z1, g2, e1, e2, I2⟩ := hoping_ok I hn hc T0 x1 x2
  refine ⟨g2, z1, ?_, I2⟩
  have hg := I2.room hb (by omega)
  unfold f_law_919
  simp only [s1, s2, s3, s4, s5, bS, e1, e2, gdL, if_pos hg, eq_self, if_true]
theorem i_law_952 (I : Inv z0 h0 b c z h) (hn : 400000 ≤ n) (hc : c < 600) (hb : b = z0.sz) (hc2 : c < 550) (T0 : TN b z0 h0) (TC : TownC n z0 h0 b) (s1 : sc L xs (v3 + 1) = some x1) (s2 : sc L xs (v3 + 2) = some x2) (s3 : sc L xs (v3 + 3) = some x3) (s4 : sc L xs (v3 + 4) = some x4) (s5 : sc L xs (v3 + 5) = some x5) : ∃ h2 z2, f_law_952 n z0 L xs b (b + 72) z h v3 = some (h2, z2) ∧ Inv z0 h0 b (c + 1) z2 h2 := by
  obtain ⟨r, g1, g2, e1, e2, I2⟩ := talents_ok I hn x1 x2 x3
  refine ⟨g2, z, ?_, I2.up⟩
  unfold f_law_952
  simp only [s1, s2, s3, s4, s5, bS, e1, e2, eq_self, if_true]
theorem i_law_995 (I : Inv z0 h0 b c z h) (hn : 400000 ≤ n) (hc : c < 600) (hb : b = z0.sz) (hc2 : c < 550) (T0 : TN b z0 h0) (TC : TownC n z0 h0 b) (s1 : sc L xs (v3 + 1) = some x1) (s2 : sc L xs (v3 + 2) = some x2) (s3 : sc L xs (v3 + 3) = some x3) (s4 : sc L xs (v3 + 4) = some x4) (s5 : sc L xs (v3 + 5) = some x5) : ∃ h2 z2, f_law_995 n z0 L xs b (b + 72) z h v3 = some (h2, z2) ∧ Inv z0 h0 b (c + 1) z2 h2 := by
  obtain ⟨r, g1, g2, e1, e2, I2⟩ := attempt_ok I hn x1 x2 x3
  refine ⟨g2, z, ?_, I2.up⟩
  unfold f_law_995
  simp only [s1, s2, s3, s4, s5, bS, e1, e2, eq_self, if_true]
theorem i_law_1038 (I : Inv z0 h0 b c z h) (hn : 400000 ≤ n) (hc : c < 600) (hb : b = z0.sz) (hc2 : c < 550) (T0 : TN b z0 h0) (TC : TownC n z0 h0 b) (s1 : sc L xs (v3 + 1) = some x1) (s2 : sc L xs (v3 + 2) = some x2) (s3 : sc L xs (v3 + 3) = some x3) (s4 : sc L xs (v3 + 4) = some x4) (s5 : sc L xs (v3 + 5) = some x5) : ∃ h2 z2, f_law_1038 n z0 L xs b (b + 72) z h v3 = some (h2, z2) ∧ Inv z0 h0 b (c + 1) z2 h2 := by
  obtain ⟨r, g2, e1, e2, I2⟩ := run_ok I hn x1
  refine ⟨g2, z, ?_, I2.up⟩
  unfold f_law_1038
  simp only [s1, s2, s3, s4, s5, bS, e1, e2, eq_self, if_true]
theorem i_law_1061 (I : Inv z0 h0 b c z h) (hn : 400000 ≤ n) (hc : c < 600) (hb : b = z0.sz) (hc2 : c < 550) (T0 : TN b z0 h0) (TC : TownC n z0 h0 b) (s1 : sc L xs (v3 + 1) = some x1) (s2 : sc L xs (v3 + 2) = some x2) (s3 : sc L xs (v3 + 3) = some x3) (s4 : sc L xs (v3 + 4) = some x4) (s5 : sc L xs (v3 + 5) = some x5) : ∃ h2 z2, f_law_1061 n z0 L xs b (b + 72) z h v3 = some (h2, z2) ∧ Inv z0 h0 b (c + 1) z2 h2 := by
  obtain ⟨r, g2, e1, e2, I2⟩ := rounds_ok I hn x1
  refine ⟨g2, z, ?_, I2.up⟩
  unfold f_law_1061
  simp only [s1, s2, s3, s4, s5, bS, e1, e2, eq_self, if_true]
theorem i_law_1084 (I : Inv z0 h0 b c z h) (hn : 400000 ≤ n) (hc : c < 600) (hb : b = z0.sz) (hc2 : c < 550) (T0 : TN b z0 h0) (TC : TownC n z0 h0 b) (s1 : sc L xs (v3 + 1) = some x1) (s2 : sc L xs (v3 + 2) = some x2) (s3 : sc L xs (v3 + 3) = some x3) (s4 : sc L xs (v3 + 4) = some x4) (s5 : sc L xs (v3 + 5) = some x5) : ∃ h2 z2, f_law_1084 n z0 L xs b (b + 72) z h v3 = some (h2, z2) ∧ Inv z0 h0 b (c + 1) z2 h2 := by
  obtain ⟨r, g2, e1, e2, I2⟩ := spark_ok I hn x1
  refine ⟨g2, z, ?_, I2.up⟩
  unfold f_law_1084
  simp only [s1, s2, s3, s4, s5, bS, e1, e2, eq_self, if_true]
theorem i_law_1107 (I : Inv z0 h0 b c z h) (hn : 400000 ≤ n) (hc : c < 600) (hb : b = z0.sz) (hc2 : c < 550) (T0 : TN b z0 h0) (TC : TownC n z0 h0 b) (s1 : sc L xs (v3 + 1) = some x1) (s2 : sc L xs (v3 + 2) = some x2) (s3 : sc L xs (v3 + 3) = some x3) (s4 : sc L xs (v3 + 4) = some x4) (s5 : sc L xs (v3 + 5) = some x5) : ∃ h2 z2, f_law_1107 n z0 L xs b (b + 72) z h v3 = some (h2, z2) ∧ Inv z0 h0 b (c + 1) z2 h2 := by
  obtain ⟨r, g2, e1, e2, I2⟩ := calm_ok I hn x1 x2
  refine ⟨g2, z, ?_, I2.up⟩
  unfold f_law_1107
  simp only [s1, s2, s3, s4, s5, bS, e1, e2, eq_self, if_true]
theorem i_law_1140 (I : Inv z0 h0 b c z h) (hn : 400000 ≤ n) (hc : c < 600) (hb : b = z0.sz) (hc2 : c < 550) (T0 : TN b z0 h0) (TC : TownC n z0 h0 b) (s1 : sc L xs (v3 + 1) = some x1) (s2 : sc L xs (v3 + 2) = some x2) (s3 : sc L xs (v3 + 3) = some x3) (s4 : sc L xs (v3 + 4) = some x4) (s5 : sc L xs (v3 + 5) = some x5) : ∃ h2 z2, f_law_1140 n z0 L xs b (b + 72) z h v3 = some (h2, z2) ∧ Inv z0 h0 b (c + 1) z2 h2 := by
  obtain ⟨r, g2, e1, e2, I2⟩ := rests_ok I hn 
  refine ⟨g2, z, ?_, I2.up⟩
  unfold f_law_1140
  simp only [s1, s2, s3, s4, s5, bS, e1, e2, eq_self, if_true]
theorem i_law_1153 (I : Inv z0 h0 b c z h) (hn : 400000 ≤ n) (hc : c < 600) (hb : b = z0.sz) (hc2 : c < 550) (T0 : TN b z0 h0) (TC : TownC n z0 h0 b) (s1 : sc L xs (v3 + 1) = some x1) (s2 : sc L xs (v3 + 2) = some x2) (s3 : sc L xs (v3 + 3) = some x3) (s4 : sc L xs (v3 + 4) = some x4) (s5 : sc L xs (v3 + 5) = some x5) : ∃ h2 z2, f_law_1153 n z0 L xs b (b + 72) z h v3 = some (h2, z2) ∧ Inv z0 h0 b (c + 1) z2 h2 := by
  obtain ⟨r, g2, e1, e2, I2⟩ := rest_ok I hn x1
  refine ⟨g2, z, ?_, I2.up⟩
  unfold f_law_1153
  simp only [s1, s2, s3, s4, s5, bS, e1, e2, eq_self, if_true]
theorem i_law_1176 (I : Inv z0 h0 b c z h) (hn : 400000 ≤ n) (hc : c < 600) (hb : b = z0.sz) (hc2 : c < 550) (T0 : TN b z0 h0) (TC : TownC n z0 h0 b) (s1 : sc L xs (v3 + 1) = some x1) (s2 : sc L xs (v3 + 2) = some x2) (s3 : sc L xs (v3 + 3) = some x3) (s4 : sc L xs (v3 + 4) = some x4) (s5 : sc L xs (v3 + 5) = some x5) : ∃ h2 z2, f_law_1176 n z0 L xs b (b + 72) z h v3 = some (h2, z2) ∧ Inv z0 h0 b (c + 1) z2 h2 := by
  obtain ⟨r, g1, g2, e1, e2, I2⟩ := numbers_ok I hn x1 x2 x3
  refine ⟨g2, z, ?_, I2.up⟩
  unfold f_law_1176
  simp only [s1, s2, s3, s4, s5, bS, e1, e2, eq_self, if_true]
theorem i_law_1219 (I : Inv z0 h0 b c z h) (hn : 400000 ≤ n) (hc : c < 600) (hb : b = z0.sz) (hc2 : c < 550) (T0 : TN b z0 h0) (TC : TownC n z0 h0 b) (s1 : sc L xs (v3 + 1) = some x1) (s2 : sc L xs (v3 + 2) = some x2) (s3 : sc L xs (v3 + 3) = some x3) (s4 : sc L xs (v3 + 4) = some x4) (s5 : sc L xs (v3 + 5) = some x5) : ∃ h2 z2, f_law_1219 n z0 L xs b (b + 72) z h v3 = some (h2, z2) ∧ Inv z0 h0 b (c + 1) z2 h2 := by
  obtain ⟨r, g1, g2, e1, e2, I2⟩ := write_ok I x1 x2 (((Int32.toInt64 x3) <<< (Int32.toInt64 32 &&& 63)) ||| ((Int32.toInt64 x4) &&& 4294967295))
  refine ⟨g2, z, ?_, I2.up⟩
  have hl : lg_cmp r r = 0 := (cmp_eq r r).mpr rfl
  unfold f_law_1219
  simp only [s1, s2, s3, s4, s5, bS, e1, e2, hl, eq_self, if_true]
theorem i_law_1293 (I : Inv z0 h0 b c z h) (hn : 400000 ≤ n) (hc : c < 600) (hb : b = z0.sz) (hc2 : c < 550) (T0 : TN b z0 h0) (TC : TownC n z0 h0 b) (s1 : sc L xs (v3 + 1) = some x1) (s2 : sc L xs (v3 + 2) = some x2) (s3 : sc L xs (v3 + 3) = some x3) (s4 : sc L xs (v3 + 4) = some x4) (s5 : sc L xs (v3 + 5) = some x5) : ∃ h2 z2, f_law_1293 n z0 L xs b (b + 72) z h v3 = some (h2, z2) ∧ Inv z0 h0 b (c + 1) z2 h2 := by
  obtain ⟨r, g1, z1, g2, e1, e2, I2⟩ := lists_ok I hn hc x1 x2
  refine ⟨g2, z1, ?_, I2⟩
  have hg := I2.room hb (by omega)
  unfold f_law_1293
  simp only [s1, s2, s3, s4, s5, bS, e1, e2, gdL, if_pos hg, eq_self, if_true]
theorem i_law_1326 (I : Inv z0 h0 b c z h) (hn : 400000 ≤ n) (hc : c < 600) (hb : b = z0.sz) (hc2 : c < 550) (T0 : TN b z0 h0) (TC : TownC n z0 h0 b) (s1 : sc L xs (v3 + 1) = some x1) (s2 : sc L xs (v3 + 2) = some x2) (s3 : sc L xs (v3 + 3) = some x3) (s4 : sc L xs (v3 + 4) = some x4) (s5 : sc L xs (v3 + 5) = some x5) : ∃ h2 z2, f_law_1326 n z0 L xs b (b + 72) z h v3 = some (h2, z2) ∧ Inv z0 h0 b (c + 1) z2 h2 := by
  obtain ⟨r, g1, g2, e1, e2, I2⟩ := image_ok I hn x1
  refine ⟨g2, z, ?_, I2.up⟩
  unfold f_law_1326
  simp only [s1, s2, s3, s4, s5, bS, e1, e2, eq_self, if_true]
theorem i_law_1349 (I : Inv z0 h0 b c z h) (hn : 400000 ≤ n) (hc : c < 600) (hb : b = z0.sz) (hc2 : c < 550) (T0 : TN b z0 h0) (TC : TownC n z0 h0 b) (s1 : sc L xs (v3 + 1) = some x1) (s2 : sc L xs (v3 + 2) = some x2) (s3 : sc L xs (v3 + 3) = some x3) (s4 : sc L xs (v3 + 4) = some x4) (s5 : sc L xs (v3 + 5) = some x5) : ∃ h2 z2, f_law_1349 n z0 L xs b (b + 72) z h v3 = some (h2, z2) ∧ Inv z0 h0 b (c + 1) z2 h2 := by
  obtain ⟨r, g1, g2, e1, e2, I2⟩ := restore_ok I hn x1
  refine ⟨g2, z, ?_, I2.up⟩
  unfold f_law_1349
  simp only [s1, s2, s3, s4, s5, bS, e1, e2, eq_self, if_true]
theorem i_law_1372 (I : Inv z0 h0 b c z h) (hn : 400000 ≤ n) (hc : c < 600) (hb : b = z0.sz) (hc2 : c < 550) (T0 : TN b z0 h0) (TC : TownC n z0 h0 b) (s1 : sc L xs (v3 + 1) = some x1) (s2 : sc L xs (v3 + 2) = some x2) (s3 : sc L xs (v3 + 3) = some x3) (s4 : sc L xs (v3 + 4) = some x4) (s5 : sc L xs (v3 + 5) = some x5) : ∃ h2 z2, f_law_1372 n z0 L xs b (b + 72) z h v3 = some (h2, z2) ∧ Inv z0 h0 b (c + 1) z2 h2 := by
  obtain ⟨r, g2, e1, e2, I2⟩ := count_ok I hn x1
  refine ⟨g2, z, ?_, I2.up⟩
  unfold f_law_1372
  simp only [s1, s2, s3, s4, s5, bS, e1, e2, eq_self, if_true]
theorem it_ite {P : Hp → Sh → Prop} {a d : Option (Hp × Sh)} {C : Prop} [Decidable C] (h1 : ∃ h2 z2, a = some (h2, z2) ∧ P h2 z2) (h2 : ∃ h2 z2, d = some (h2, z2) ∧ P h2 z2) : ∃ h2 z2, (if C then a else d) = some (h2, z2) ∧ P h2 z2 := by
  by_cases q : C
  · rw [if_pos q]; exact h1
  · rw [if_neg q]; exact h2
theorem it_ok (I : Inv z0 h0 b c z h) (hn : 400000 ≤ n) (hc : c < 600) (hb : b = z0.sz) (hc2 : c < 550) (T0 : TN b z0 h0) (TC : TownC n z0 h0 b) {x0 : Int32} (s0 : sc L xs v3 = some x0) (s1 : sc L xs (v3 + 1) = some x1) (s2 : sc L xs (v3 + 2) = some x2) (s3 : sc L xs (v3 + 3) = some x3) (s4 : sc L xs (v3 + 4) = some x4) (s5 : sc L xs (v3 + 5) = some x5) : ∃ h2 z2, f_law_it n z0 L xs b (b + 72) z h v3 = some (h2, z2) ∧ Inv z0 h0 b (c + 1) z2 h2 := by
  unfold f_law_it
  rw [s0, bS, bS]
  refine it_ite (P := fun h2 z2 => Inv z0 h0 b (c + 1) z2 h2) (i_law_204 I hn hc hb hc2 T0 TC s1 s2 s3 s4 s5) ?_
  refine it_ite (P := fun h2 z2 => Inv z0 h0 b (c + 1) z2 h2) (i_law_267 I hn hc hb hc2 T0 TC s1 s2 s3 s4 s5) ?_
  refine it_ite (P := fun h2 z2 => Inv z0 h0 b (c + 1) z2 h2) (i_law_290 I hn hc hb hc2 T0 TC s1 s2 s3 s4 s5) ?_
  refine it_ite (P := fun h2 z2 => Inv z0 h0 b (c + 1) z2 h2) (i_law_313 I hn hc hb hc2 T0 TC s1 s2 s3 s4 s5) ?_
  refine it_ite (P := fun h2 z2 => Inv z0 h0 b (c + 1) z2 h2) (i_law_346 I hn hc hb hc2 T0 TC s1 s2 s3 s4 s5) ?_
  refine it_ite (P := fun h2 z2 => Inv z0 h0 b (c + 1) z2 h2) (i_law_379 I hn hc hb hc2 T0 TC s1 s2 s3 s4 s5) ?_
  refine it_ite (P := fun h2 z2 => Inv z0 h0 b (c + 1) z2 h2) (i_law_402 I hn hc hb hc2 T0 TC s1 s2 s3 s4 s5) ?_
  refine it_ite (P := fun h2 z2 => Inv z0 h0 b (c + 1) z2 h2) (i_law_435 I hn hc hb hc2 T0 TC s1 s2 s3 s4 s5) ?_
  refine it_ite (P := fun h2 z2 => Inv z0 h0 b (c + 1) z2 h2) (i_law_458 I hn hc hb hc2 T0 TC s1 s2 s3 s4 s5) ?_
  refine it_ite (P := fun h2 z2 => Inv z0 h0 b (c + 1) z2 h2) (i_law_491 I hn hc hb hc2 T0 TC s1 s2 s3 s4 s5) ?_
  refine it_ite (P := fun h2 z2 => Inv z0 h0 b (c + 1) z2 h2) (i_law_514 I hn hc hb hc2 T0 TC s1 s2 s3 s4 s5) ?_
  refine it_ite (P := fun h2 z2 => Inv z0 h0 b (c + 1) z2 h2) (i_law_547 I hn hc hb hc2 T0 TC s1 s2 s3 s4 s5) ?_
  refine it_ite (P := fun h2 z2 => Inv z0 h0 b (c + 1) z2 h2) (i_law_570 I hn hc hb hc2 T0 TC s1 s2 s3 s4 s5) ?_
  refine it_ite (P := fun h2 z2 => Inv z0 h0 b (c + 1) z2 h2) (i_law_603 I hn hc hb hc2 T0 TC s1 s2 s3 s4 s5) ?_
  refine it_ite (P := fun h2 z2 => Inv z0 h0 b (c + 1) z2 h2) (i_law_626 I hn hc hb hc2 T0 TC s1 s2 s3 s4 s5) ?_
  refine it_ite (P := fun h2 z2 => Inv z0 h0 b (c + 1) z2 h2) (i_law_659 I hn hc hb hc2 T0 TC s1 s2 s3 s4 s5) ?_
  refine it_ite (P := fun h2 z2 => Inv z0 h0 b (c + 1) z2 h2) (i_law_682 I hn hc hb hc2 T0 TC s1 s2 s3 s4 s5) ?_
  refine it_ite (P := fun h2 z2 => Inv z0 h0 b (c + 1) z2 h2) (i_law_715 I hn hc hb hc2 T0 TC s1 s2 s3 s4 s5) ?_
  refine it_ite (P := fun h2 z2 => Inv z0 h0 b (c + 1) z2 h2) (i_law_738 I hn hc hb hc2 T0 TC s1 s2 s3 s4 s5) ?_
  refine it_ite (P := fun h2 z2 => Inv z0 h0 b (c + 1) z2 h2) (i_law_762 I hn hc hb hc2 T0 TC s1 s2 s3 s4 s5) ?_
  refine it_ite (P := fun h2 z2 => Inv z0 h0 b (c + 1) z2 h2) (i_law_795 I hn hc hb hc2 T0 TC s1 s2 s3 s4 s5) ?_
  refine it_ite (P := fun h2 z2 => Inv z0 h0 b (c + 1) z2 h2) (i_law_829 I hn hc hb hc2 T0 TC s1 s2 s3 s4 s5) ?_
  refine it_ite (P := fun h2 z2 => Inv z0 h0 b (c + 1) z2 h2) (i_law_852 I hn hc hb hc2 T0 TC s1 s2 s3 s4 s5) ?_
  refine it_ite (P := fun h2 z2 => Inv z0 h0 b (c + 1) z2 h2) (i_law_875 I hn hc hb hc2 T0 TC s1 s2 s3 s4 s5) ?_
  refine it_ite (P := fun h2 z2 => Inv z0 h0 b (c + 1) z2 h2) (i_law_919 I hn hc hb hc2 T0 TC s1 s2 s3 s4 s5) ?_
  refine it_ite (P := fun h2 z2 => Inv z0 h0 b (c + 1) z2 h2) (i_law_952 I hn hc hb hc2 T0 TC s1 s2 s3 s4 s5) ?_
  refine it_ite (P := fun h2 z2 => Inv z0 h0 b (c + 1) z2 h2) (i_law_995 I hn hc hb hc2 T0 TC s1 s2 s3 s4 s5) ?_
  refine it_ite (P := fun h2 z2 => Inv z0 h0 b (c + 1) z2 h2) (i_law_1038 I hn hc hb hc2 T0 TC s1 s2 s3 s4 s5) ?_
  refine it_ite (P := fun h2 z2 => Inv z0 h0 b (c + 1) z2 h2) (i_law_1061 I hn hc hb hc2 T0 TC s1 s2 s3 s4 s5) ?_
  refine it_ite (P := fun h2 z2 => Inv z0 h0 b (c + 1) z2 h2) (i_law_1084 I hn hc hb hc2 T0 TC s1 s2 s3 s4 s5) ?_
  refine it_ite (P := fun h2 z2 => Inv z0 h0 b (c + 1) z2 h2) (i_law_1107 I hn hc hb hc2 T0 TC s1 s2 s3 s4 s5) ?_
  refine it_ite (P := fun h2 z2 => Inv z0 h0 b (c + 1) z2 h2) (i_law_1140 I hn hc hb hc2 T0 TC s1 s2 s3 s4 s5) ?_
  refine it_ite (P := fun h2 z2 => Inv z0 h0 b (c + 1) z2 h2) (i_law_1153 I hn hc hb hc2 T0 TC s1 s2 s3 s4 s5) ?_
  refine it_ite (P := fun h2 z2 => Inv z0 h0 b (c + 1) z2 h2) (i_law_1176 I hn hc hb hc2 T0 TC s1 s2 s3 s4 s5) ?_
  refine it_ite (P := fun h2 z2 => Inv z0 h0 b (c + 1) z2 h2) (i_law_1219 I hn hc hb hc2 T0 TC s1 s2 s3 s4 s5) ?_
  refine it_ite (P := fun h2 z2 => Inv z0 h0 b (c + 1) z2 h2) (i_law_1293 I hn hc hb hc2 T0 TC s1 s2 s3 s4 s5) ?_
  refine it_ite (P := fun h2 z2 => Inv z0 h0 b (c + 1) z2 h2) (i_law_1326 I hn hc hb hc2 T0 TC s1 s2 s3 s4 s5) ?_
  refine it_ite (P := fun h2 z2 => Inv z0 h0 b (c + 1) z2 h2) (i_law_1349 I hn hc hb hc2 T0 TC s1 s2 s3 s4 s5) ?_
  refine it_ite (P := fun h2 z2 => Inv z0 h0 b (c + 1) z2 h2) (i_law_1372 I hn hc hb hc2 T0 TC s1 s2 s3 s4 s5) ?_
  exact ⟨h, z, rfl, I.up⟩
theorem sc_ok {j : Nat} (hj : j < L) (hL : L ≤ 3072) : sc L xs (nI j) = some (xs j) := by
  have e : (nI j).toNatClampNeg = j := by
    show ((nI j).toInt).toNat = j
    rw [nI_to (by omega)]
    rfl
  unfold sc
  rw [e, if_pos (fun q => by
    rcases q with q | q
    · have := (nI_lt2 (j := 0) (by omega) (by omega)).mp q
      omega
    · omega)]
theorem lp_ok (hn : 400000 ≤ n) (hL : L ≤ 3072) (hb : b = z0.sz) (T0 : TN b z0 h0) (TC : TownC n z0 h0 b) : ∀ (d k f : Nat) (z : Sh) (h : Hp), k + d = 513 → d < f → k ≤ 513 → (6 * k ≤ 3072) → Inv z0 h0 b k z h → f_law_lp n z0 L xs b (b + 72) f z h (nI (6 * k)) = some () := by
  intro d
  induction d with
  | zero => intro k f z h hj hf hk h6 I; omega
  | succ d ih =>
    intro k f z h hj hf hk h6 I
    obtain ⟨f, rfl⟩ : ∃ q, f = q + 1 := ⟨f - 1, by omega⟩
    have cmp : (Int32.ofNat L - 6) < nI (6 * k) ↔ (L : Int) - 6 < 6 * k := by
      rw [show (Int32.ofNat L : Int32) = nI L from rfl, nI_iI L, nI_iI (6 * k), show (6 : Int32) = iI 6 by decide, iI_sub, iI_lt (by omega) (by omega) (by omega) (by omega)]
      omega
    rw [f_law_lp.eq_2]
    by_cases q : (L : Int) - 6 < 6 * k
    · rw [if_pos (cmp.mpr q)]
    · rw [if_neg (fun q2 => q (cmp.mp q2))]
      have sj : ∀ j, j < 6 → sc L xs (nI (6 * k) + nI j) = some (xs (6 * k + j)) := fun j hj => by rw [nI_add]; exact sc_ok (by omega) hL
      obtain ⟨h2, z2, e1, I2⟩ := it_ok (L := L) (xs := xs) (v3 := nI (6 * k)) I hn (by omega) hb (by omega) T0 TC (sc_ok (by omega) hL) (sj 1 (by omega)) (sj 2 (by omega)) (sj 3 (by omega)) (sj 4 (by omega)) (sj 5 (by omega))
      rw [e1, bS]
      dsimp only
      rw [show nI (6 * k) + 6 = nI (6 * (k + 1)) from nI_add (6 * k) 6]
      exact ih (k + 1) f z2 h2 (by omega) (by omega) (by omega) (by omega) I2
end
