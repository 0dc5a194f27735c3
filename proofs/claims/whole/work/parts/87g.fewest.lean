/-! ===== the fewest doings: the class ===== -/
section
variable {n : Nat} {z0 : Sh} {b c : Nat} {wt : Nat} {ω : TT} {tal : Nat} {md : Bool} {st ts : Nat} {s0 : Nat}
theorem PC_eq {Q Q' : Nat → Nat → Prop} (hω : TownOK ω) (h0 : SV ω s0) (hq : ∀ s1 k v1 j s' w, SV ω s1 → Pt ω tal md s0 k s1 v1 → StP ω tal md s1 j s' w → (Q s1 j ↔ Q' s1 j)) {k s : Nat} {v : Int} : PC ω tal md s0 Q k s v ↔ PC ω tal md s0 Q' k s v := by
  unfold PC
  constructor
  · rintro (h | ⟨k', rfl, h⟩)
    · exact Or.inl h
    · exact Or.inr ⟨k', rfl, (PS_eq (fun s1 v1 j s' w g1 g2 => hq s1 k' v1 j s' w (Pt_ok hω h0 g1).1 g1 g2)).mp h⟩
  · rintro (h | ⟨k', rfl, h⟩)
    · exact Or.inl h
    · exact Or.inr ⟨k', rfl, (PS_eq (fun s1 v1 j s' w g1 g2 => hq s1 k' v1 j s' w (Pt_ok hω h0 g1).1 g1 g2)).mpr h⟩
theorem RI.eq {Q Q' : Nat → Nat → Prop} (hω : TownOK ω) (h0 : SV ω s0) (hq : ∀ s1 k v1 j s' w, SV ω s1 → Pt ω tal md s0 k s1 v1 → StP ω tal md s1 j s' w → (Q s1 j ↔ Q' s1 j)) {h : Hp} {e : Nat} (H : RI ω tal md s0 Q b h e) : RI ω tal md s0 Q' b h e := by
  rcases H with ⟨r1, r2⟩ | ⟨s', k', v', r1, r2, r3, r4, r5, r6⟩
  · exact Or.inl ⟨r1, fun s hs he k v q => r2 s hs he k v ((PC_eq hω h0 hq).mpr q)⟩
  · exact Or.inr ⟨s', k', v', r1, r2, (PC_eq hω h0 hq).mp r3, fun k1 v1 q => r4 k1 v1 ((PC_eq hω h0 hq).mpr q), r5, r6⟩
theorem RI.fr {Q : Nat → Nat → Prop} {h h' : Hp} {e : Nat} (H : RI ω tal md s0 Q b h e) (e1 : h'.I (b + 53) = h.I (b + 53)) (e2 : h'.I (b + 54) = h.I (b + 54)) : RI ω tal md s0 Q b h' e := by
  unfold RI
  rw [e1, e2]
  exact H
theorem PC_full (hω : TownOK ω) (h0 : SV ω s0) {k s : Nat} {v : Int} (H : Pt ω tal md s0 k s v) : PC ω tal md s0 (Qe (enc s) 0) k s v := by
  cases k with
  | zero =>
    obtain ⟨rfl, rfl⟩ := H
    exact Or.inl ⟨rfl, rfl, rfl⟩
  | succ k =>
    obtain ⟨s1, v1, j, w, h1, h2, h3⟩ := H
    exact Or.inr ⟨k, rfl, s1, v1, j, w, h1, Or.inl (StP_ok hω (Pt_ok hω h0 h1).1 h2).2.2.1, h2, h3⟩
theorem Pt_enc (hω : TownOK ω) (h0 : SV ω s0) : ∀ {k s : Nat} {v : Int}, Pt ω tal md s0 k s v → enc s0 ≤ enc s := by
  intro k
  induction k with
  | zero =>
    intro s v H
    obtain ⟨rfl, rfl⟩ := H
    exact Nat.le_refl _
  | succ k ih =>
    intro s v H
    obtain ⟨s1, v1, j, w, h1, h2, h3⟩ := H
    have := ih h1
    have := (StP_ok hω (Pt_ok hω h0 h1).1 h2).2.2.1
    omega
/-- what comes of it -/
abbrev FD (n : Nat) (z0 : Sh) (b c wt : Nat) (ω : TT) (tal : Nat) (md : Bool) (st ts s0 : Nat) (W : Int) (z : Sh) (h : Hp) (x : Option (Int32 × Hp × Sh)) : Prop := ∃ (r : Int) (zz : Sh) (hh : Hp), x = some (iI r, hh, zz) ∧ Sn ω tal md s0 W r ∧ WayD z0 b c zz hh wt ω tal md st ts ∧ Ex b z h zz hh
theorem ff_116 (hn : 400000 ≤ n) (h0 : SV ω s0) {s k : Nat} {v W : Int} (hs : SV ω s) (hp : Pt ω tal md s0 k s v) (hm : ∀ k' v', Pt ω tal md s0 k' s v' → v' ≤ v) {K : Sh → Hp → Nat → Int64 → Int32 → Int32 → Option (Int32 × Hp × Sh)} {v1 : Int64} {v3 : Int32} (hK : ∀ z h, WayD z0 b c z h wt ω tal md st ts → (∀ e, e < 1400 → RI ω tal md s0 (Qe (enc s + 1) 0) b h e) → FD n z0 b c wt ω tal md st ts s0 W z h (K z h (b + 50) v1 v3 (nI (enc s + 1)))) : ∀ (d t i : Nat) (z : Sh) (h : Hp), t + d = opn ω s → d < i → WayD z0 b c z h wt ω tal md st ts → (∀ e, e < 1400 → RI ω tal md s0 (Qe (enc s) t) b h e) → FD n z0 b c wt ω tal md st ts s0 W z h (f_X1_fewestFor_116 n K i z h (b + 50) v1 v3 (nI (enc s)) (iI v) (nI k) (nI (opn ω s)) (nI t)) := by
  intro d
  induction d with
  | zero =>
    intro t i z h hj hi Wd R
    obtain ⟨i, rfl⟩ : ∃ k, i = k + 1 := ⟨i - 1, by omega⟩
    obtain rfl : t = opn ω s := by omega
    have hω := Wd.2.1.2.2.1
    have HX := Wd.1.1
    have o4 := opn4 hω s
    rw [f_X1_fewestFor_116.eq_2, if_pos ((nI_leI (by omega) (by omega)).mpr (Nat.le_refl _)), gR_ok (kx_50 HX) (rx_50_0 HX), bS, adr_ok HX hω hs Wd.2.2.1.2.2.1 Wd.2.2.2.1, bS, show nI k + 1 = nI (k + 1) from nI_add k 1]
    unfold f_X1_fewestFor_181
    by_cases hc : md = true ∧ sL s = 1
    · rw [if_pos hc]
      have R9 : ∀ e, e < 1400 → RI ω tal md s0 (Qe (enc s) 9) b h e := fun e he => (R e he).eq hω h0 (fun s1 k1 v1 j s' w q1 q2 q3 => by
        unfold Qe
        constructor
        · rintro (a | ⟨a1, a2⟩)
          · exact Or.inl a
          · exact Or.inr ⟨a1, by omega⟩
        · rintro (a | ⟨a1, a2⟩)
          · exact Or.inl a
          · obtain rfl := enc_inj hω q1 hs a1
            rcases q3 with ⟨q, -⟩ | ⟨q, -⟩
            · exact Or.inr ⟨a1, q⟩
            · omega)
      obtain ⟨h1, e1, W1, E1, -, R1, -⟩ := rea_ok Wd h0 hs (t := 9) (s2 := drN ω tal s) (w2 := 0) (Q := Qe (enc s + 1) 0) (Or.inr ⟨rfl, hc, rfl, rfl⟩) (fun s1 j q => by
        rcases q with a | ⟨a1, a2⟩
        · exact Or.inl (by omega)
        · exact Or.inl (by omega)) (fun s1 j s' w q1 q2 q3 => by
        rcases q3 with a | ⟨a1, a2⟩
        · rcases Nat.lt_or_ge (enc s1) (enc s) with q | q
          · exact Or.inl (Or.inl q)
          · have e1 : enc s1 = enc s := by omega
            have hj := (StP_ok hω q1 q2).2.2.2.2.1
            by_cases e9 : j = 9
            · exact Or.inr ⟨enc_inj hω q1 hs e1, e9⟩
            · exact Or.inl (Or.inr ⟨e1, by omega⟩)
        · omega) (Or.inl (by omega)) hp hm R9
      obtain ⟨r, zz, hh, f1, f2, f3, f4⟩ := hK z h1 W1 R1
      refine ⟨r, zz, hh, ?_, f2, f3, E1.trans f4⟩
      rw [Int.add_zero] at e1
      rw [e1, bS, bS, show nI (enc s) + 1 = nI (enc s + 1) from nI_add (enc s) 1]
      exact f1
    · rw [if_neg hc]
      have R1 : ∀ e, e < 1400 → RI ω tal md s0 (Qe (enc s + 1) 0) b h e := fun e he => (R e he).eq hω h0 (fun s1 k1 v1 j s' w q1 q2 q3 => by
        unfold Qe
        constructor
        · rintro (a | ⟨a1, a2⟩)
          · exact Or.inl (by omega)
          · exact Or.inl (by omega)
        · rintro (a | ⟨a1, a2⟩)
          · rcases Nat.lt_or_ge (enc s1) (enc s) with q | q
            · exact Or.inl q
            · have e1 : enc s1 = enc s := by omega
              obtain rfl := enc_inj hω q1 hs e1
              rcases q3 with ⟨q, -⟩ | ⟨q, q', -⟩
              · exact Or.inr ⟨e1, q⟩
              · exact absurd q' hc
          · omega)
      obtain ⟨r, zz, hh, f1, f2, f3, f4⟩ := hK z h Wd R1
      refine ⟨r, zz, hh, ?_, f2, f3, f4⟩
      have er : f_X1_reach z h (b + 50) (-1) (iI v) (nI (k + 1)) = some h := by
        unfold f_X1_reach
        rw [if_pos (kx_50 HX), if_pos (show (-1 : Int32) < 0 by decide)]
      rw [er, bS, bS, show nI (enc s) + 1 = nI (enc s + 1) from nI_add (enc s) 1]
      exact f1
  | succ d ih =>
    intro t i z h hj hi Wd R
    obtain ⟨i, rfl⟩ : ∃ k, i = k + 1 := ⟨i - 1, by omega⟩
    have hω := Wd.2.1.2.2.1
    have HX := Wd.1.1
    have o4 := opn4 hω s
    have hto : t < opn ω s := by omega
    obtain ⟨q1, q2⟩ := opn_lt hto
    obtain ⟨z1, h1, e1, W1, E1⟩ := cw_ok (n := n) hn Wd hs q2
    obtain ⟨h2, e2, W2, E2, -, R2, -⟩ := rea_ok W1 h0 hs (t := t) (s2 := lvN s t) (w2 := wV ω tal s t) (Q := Qe (enc s) (t + 1)) (Or.inl ⟨hto, rfl, rfl⟩) (fun s1 j q => by
      rcases q with a | ⟨a1, a2⟩
      · exact Or.inl a
      · exact Or.inr ⟨a1, by omega⟩) (fun s1 j s' w g1 g2 g3 => by
      rcases g3 with a | ⟨a1, a2⟩
      · exact Or.inl (Or.inl a)
      · by_cases ej : j = t
        · exact Or.inr ⟨enc_inj hω g1 hs a1, ej⟩
        · exact Or.inl (Or.inr ⟨a1, by omega⟩)) (Or.inr ⟨rfl, by omega⟩) hp hm (fun e he => (R e he).fr E1.2.2.2.1 E1.2.2.2.2.1)
    obtain ⟨r, zz, hh, f1, f2, f3, f4⟩ := ih (t + 1) i z1 h2 (by omega) (by omega) W2 R2
    refine ⟨r, zz, hh, ?_, f2, f3, (E1.1.trans E2).trans f4⟩
    rw [f_X1_fewestFor_116.eq_2, if_neg (fun q => by have := (nI_leI (by omega) (by omega)).mp q; omega), gR_ok (kx_50 HX) (rx_50_0 HX), bS, xlv_ok hω (kx_44 HX) hs q2 q1, bS, bS, e1, bS]
    dsimp only
    refine gd3_ok ?_ (E2.trans f4).1
    rw [iI_add, show nI k + 1 = nI (k + 1) from nI_add k 1, e2, bS, bS, show nI t + 1 = nI (t + 1) from nI_add t 1]
    exact f1
theorem ff_34 (hn : 400000 ≤ n) (h0 : SV ω s0) {W : Int} {v1 : Int64} (hv : v1.toInt = W) : ∀ (d e i fw : Nat) (z : Sh) (h : Hp), e + d = 1400 → d < i → fw ≤ 14 → (∀ k s v, Pt ω tal md s0 k s v → enc s < e → W ≤ v → fw ≤ k) → (fw = 14 ∨ ∃ s v, Pt ω tal md s0 fw s v ∧ W ≤ v) → WayD z0 b c z h wt ω tal md st ts → (∀ e', e' < 1400 → RI ω tal md s0 (Qe e 0) b h e') → FD n z0 b c wt ω tal md st ts s0 W z h (f_X1_fewestFor_34 n i z h (b + 50) v1 (nI fw) (nI e)) := by
  intro d
  induction d with
  | zero =>
    intro e i fw z h hj hi h14 hf1 hf2 Wd R
    obtain ⟨i, rfl⟩ : ∃ k, i = k + 1 := ⟨i - 1, by omega⟩
    obtain rfl : e = 1400 := by omega
    have hω := Wd.2.1.2.2.1
    have HX := Wd.1.1
    have h13 := rk_le hω s0
    rw [f_X1_fewestFor_34.eq_2, if_neg (show ¬ nI 1400 < 0 by decide), gR_ok (kx_50 HX) (rx_50_2 HX), bS, aL_ok (kx_53 HX) rfl (nx_53 HX), bS, if_pos (show nI 1400 ≤ nI 1400 by decide)]
    unfold f_X1_fewestFor_187
    by_cases c1 : fw ≤ 13
    · refine ⟨fw, z, h, ?_, Or.inr ⟨fw, rfl, ?_, fun k' s v hk' hp => ?_⟩, Wd, Ex.refl ..⟩
      · rw [if_pos (show nI fw ≤ 13 from (nI_leI (b := 13) (by omega) (by omega)).mpr c1), nI_iI]
      · rcases hf2 with q | q
        · omega
        · exact q
      · rcases Int.lt_or_le v W with q | q
        · exact q
        · have := hf1 k' s v hp (e_bd hω (Pt_ok hω h0 hp).1).2.2.2 q
          omega
    · refine ⟨-1, z, h, ?_, Or.inl ⟨rfl, fun k s v hp => ?_⟩, Wd, Ex.refl ..⟩
      · rw [if_neg (show ¬ nI fw ≤ 13 from fun q => by have := (nI_leI (b := 13) (by omega) (by omega)).mp q; omega)]
        rfl
      · rcases Int.lt_or_le v W with q | q
        · exact q
        · have := hf1 k s v hp (e_bd hω (Pt_ok hω h0 hp).1).2.2.2 q
          have := (Pt_ok hω h0 hp).2.1
          omega
  | succ d ih =>
    intro e i fw z h hj hi h14 hf1 hf2 Wd R
    obtain ⟨i, rfl⟩ : ∃ k, i = k + 1 := ⟨i - 1, by omega⟩
    have hω := Wd.2.1.2.2.1
    have HX := Wd.1.1
    have h13 := rk_le hω s0
    have he : e < 1400 := by omega
    rw [f_X1_fewestFor_34.eq_2, if_neg (show ¬ nI e < 0 from fun q => by have := (nI_lt2 (j := 0) (by omega) (by omega)).mp q; omega), gR_ok (kx_50 HX) (rx_50_2 HX), bS, aL_ok (kx_53 HX) rfl (nx_53 HX), bS, if_neg (fun q => by have := (nI_leI (by omega) (by omega)).mp q; omega), bS, lx_53 HX he, bS]
    rcases R e he with ⟨r1, r2⟩ | ⟨s, k, v, r1, r2, r3, r4, r5, r6⟩
    · have no : ∀ k s v, Pt ω tal md s0 k s v → enc s = e → False := fun k s v hp hes => by
        have := PC_full hω h0 hp
        rw [hes] at this
        exact r2 s (Pt_ok hω h0 hp).1 hes k v this
      rw [r1, if_pos (show iI (-1000000) = -1000000 by decide)]
      unfold f_X1_fewestFor_181
      rw [bS, show nI e + 1 = nI (e + 1) from nI_add e 1]
      refine ih (e + 1) i fw z h (by omega) (by omega) h14 (fun k s v hp hes hW => ?_) hf2 Wd (fun e' he' => (R e' he').eq hω h0 (fun s1 k1 v1 j s' w q1 q2 q3 => ?_))
      · rcases Nat.lt_or_ge (enc s) e with q | q
        · exact hf1 k s v hp q hW
        · exact absurd (no k s v hp (by omega)) id
      · unfold Qe
        constructor
        · rintro (a | ⟨a1, a2⟩)
          · exact Or.inl (by omega)
          · omega
        · rintro (a | ⟨a1, a2⟩)
          · rcases Nat.lt_or_ge (enc s1) e with q | q
            · exact Or.inl q
            · exact absurd (no _ _ _ q2 (by omega)) id
          · omega
    · subst r2
      have hp := PC_pt r3
      have hm : ∀ k' v', Pt ω tal md s0 k' s v' → v' ≤ v := fun k' v' q => r4 k' v' (PC_full hω h0 q)
      obtain ⟨-, pk, pv, -⟩ := Pt_ok hω h0 hp
      have vb : -200 ≤ v ∧ v ≤ 200 := by omega
      have cmp : lg_cmp (Int32.toInt64 (iI v)) v1 < 0 ↔ v < W := by rw [cmp_lt, to64, iI_to (by omega) (by omega), hv]
      have go : ∀ fw' : Nat, fw' = (if v < W then fw else min fw k) → FD n z0 b c wt ω tal md st ts s0 W z h (f_X1_fewestFor_102 n (f_X1_fewestFor_34 n i) z h (b + 50) v1 (nI fw') (nI (enc s)) (iI v) (nI k)) := fun fw' hfw => by
        unfold f_X1_fewestFor_102
        rw [gR_ok (kx_50 HX) (rx_50_0 HX), bS, opn_ok (kx_44 HX) hω Wd.2.1.1 Wd.2.1.2.1 r1, bS]
        have o4 := opn4 hω s
        refine ff_116 hn h0 r1 hp hm (fun z' h' W' R' => ih (enc s + 1) i fw' z' h' (by omega) (by omega) ?_ (fun k2 s2 v2 hp2 he2 hW2 => ?_) ?_ W' R') (opn ω s) 0 n z h (by omega) (by omega) Wd R
        · rw [hfw]; split <;> omega
        · rcases Nat.lt_or_ge (enc s2) (enc s) with q | q
          · have := hf1 k2 s2 v2 hp2 q hW2
            rw [hfw]; split <;> omega
          · obtain rfl := enc_inj hω (Pt_ok hω h0 hp2).1 r1 (by omega)
            have h1 := hm _ _ hp2
            have h2 := Pt_uniq hω h0 hp hp2
            rw [hfw, if_neg (by omega)]
            omega
        · rw [hfw]
          split
          · exact hf2
          · rename_i hw
            rcases Nat.lt_or_ge fw k with q | q
            · rw [Nat.min_eq_left (by omega)]
              exact hf2
            · rw [Nat.min_eq_right q]
              exact Or.inr ⟨s, v, hp, by omega⟩
      rw [r5, if_neg (show ¬ iI v = -1000000 from fun q => by rw [show (-1000000 : Int32) = iI (-1000000) by decide, iI_eq (by omega) (by omega) (by omega) (by omega)] at q; omega), gR_ok (kx_50 HX) (rx_50_3 HX), bS, aL_ok (kx_54 HX) rfl (nx_54 HX), bS, if_pos ((nI_lt2 (by omega) (by omega)).mpr he), bS, lx_54 HX he, bS, r6]
      by_cases c1 : v < W
      · rw [if_pos (cmp.mpr c1)]
        exact go fw (by rw [if_pos c1])
      · rw [if_neg (fun q => c1 (cmp.mp q)), min_ok (by omega) (by omega), bS]
        exact go (min fw k) (by rw [if_neg c1])
theorem ff_ok (hn : 400000 ≤ n) {z : Sh} {h : Hp} (Wd : WayD z0 b c z h wt ω tal md st ts) (h0 : SV ω s0) (es : h.I (b + 44) 8 = nI (enc s0)) {W : Int} {v1 : Int64} (hv : v1.toInt = W) : FD n z0 b c wt ω tal md st ts s0 W z h (f_X1_fewestFor n z h (b + 50) v1) := by
  have hω := Wd.2.1.2.2.1
  have HX := Wd.1.1
  obtain ⟨a1, a2, a3, a4⟩ := e_bd hω h0
  generalize hg : h.rowI (b + 53) (flI (h.I (b + 53)) (-1000000) 1400) = g
  have gR' : g.2.2 = h.2.2 := by rw [← hg]; rfl
  have HXg : LayX z g.2.2 b := by rw [gR']; exact HX
  have g53 : ∀ e, e < 1400 → g.I (b + 53) e = iI (-1000000) := fun e he => by
    rw [← hg, rowI_Ib, if_pos rfl]
    exact (if_pos he).trans (by decide)
  have gne : ∀ a, a ≠ b + 53 → g.I a = h.I a := fun a ha => by rw [← hg, rowI_Ib, if_neg ha]
  have hI : ∀ a, a ≠ b + 53 → a ≠ b + 54 → ((g.setI (b + 53) (enc s0) (iI 0)).setI (b + 54) (enc s0) (nI 0)).I a = h.I a := fun a k1 k2 => by rw [setI_I, if_neg k2, setI_I, if_neg k1]; exact gne a k1
  have i53 : ((g.setI (b + 53) (enc s0) (iI 0)).setI (b + 54) (enc s0) (nI 0)).I (b + 53) = upd (g.I (b + 53)) (enc s0) (iI 0) := by rw [setI_I, if_neg (by omega), setI_I, if_pos rfl]
  have i54 : ((g.setI (b + 53) (enc s0) (iI 0)).setI (b + 54) (enc s0) (nI 0)).I (b + 54) = upd (g.I (b + 54)) (enc s0) (nI 0) := by rw [setI_I, if_pos rfl, setI_I, if_neg (by omega)]
  obtain ⟨W1, E1⟩ := Wd.w53 (h' := (g.setI (b + 53) (enc s0) (iI 0)).setI (b + 54) (enc s0) (nI 0)) (by rw [← gR']; rfl) (fun a => by rw [← hg]; rfl) hI
  have none : ∀ k s v, PC ω tal md s0 (Qe (enc s0) 0) k s v → k = 0 ∧ s = s0 ∧ v = 0 := fun k s v H => by
    rcases H with q | ⟨k', rfl, s1, v1, j, w, g1, g2, g3, g4⟩
    · exact q
    · have := Pt_enc hω h0 g1
      rcases g2 with q | ⟨q1, q2⟩ <;> omega
  have R : ∀ e, e < 1400 → RI ω tal md s0 (Qe (enc s0) 0) b ((g.setI (b + 53) (enc s0) (iI 0)).setI (b + 54) (enc s0) (nI 0)) e := fun e he => by
    unfold RI
    rw [i53, i54]
    by_cases ee : e = enc s0
    · subst ee
      refine Or.inr ⟨s0, 0, 0, h0, rfl, Or.inl ⟨rfl, rfl, rfl⟩, fun k' v' q => ?_, if_pos rfl, if_pos rfl⟩
      have := (none _ _ _ q).2.2
      omega
    · refine Or.inl ⟨(if_neg ee).trans (g53 e he), fun s hs hes k v q => ?_⟩
      have := (none _ _ _ q).2.1
      rw [this] at hes
      exact ee hes.symm
  obtain ⟨r, zz, hh, f1, f2, f3, f4⟩ := ff_34 (n := n) (z0 := z0) (b := b) (c := c) (wt := wt) (st := st) (ts := ts) (md := md) (tal := tal) hn h0 hv (1400 - enc s0) (enc s0) n 14 z _ (by omega) (by omega) (Nat.le_refl _) (fun k s v hp hes _ => by have := Pt_enc hω h0 hp; omega) (Or.inl rfl) W1 R
  refine ⟨r, zz, hh, ?_, f2, f3, E1.trans f4⟩
  unfold f_X1_fewestFor
  rw [if_pos (kx_50 HX)]
  refine gd3_ok ?_ f4.1
  have er : f_X1_reach z g (b + 50) (nI (enc s0)) 0 0 = some ((g.setI (b + 53) (enc s0) (iI 0)).setI (b + 54) (enc s0) (nI 0)) := by
    unfold f_X1_reach
    have em : f_J9_max_7cf53 z g (iI (-1000000)) 0 = some (iI 0) := by
      unfold f_J9_max_7cf53
      rw [if_pos (by decide)]
      rfl
    rw [if_pos (kx_50 HX), if_neg (show ¬ nI (enc s0) < 0 from fun q => by have := (nI_lt2 (j := 0) (by omega) (by omega)).mp q; omega), gR_ok (kx_50 HX) (rx_50_2 HXg), bS, aL_ok (kx_53 HX) rfl (nx_53 HX), bS, if_neg (fun q => by have := (nI_leI (by omega) (by omega)).mp q; omega), gR_ok (kx_50 HX) (rx_50_3 HXg), bS, aL_ok (kx_54 HX) rfl (nx_54 HX), bS, if_neg (fun q => by have := (nI_leI (by omega) (by omega)).mp q; omega), bS, bS, lx_53 HX a4, bS, g53 _ a4, em, bS, sx_53 HX a4, bS, gR_ok (kx_50 HX) (rx_50_3 (h := g.setI (b + 53) (enc s0) (iI 0)) HXg), bS, sx_54 HX a4, bS]
    rfl
  rw [gR_ok (kx_50 HX) (rx_50_2 HX), bS, fillI_ok (kx_53 HX) (nx_53 HX) (by omega) (by omega), bS, hg, gR_ok (kx_50 HX) (rx_50_0 HXg), bS, gI_ok (kx_44 HX), bS, gne _ (by omega), es, er, bS, gR_ok (kx_50 HX) (rx_50_0 W1.1.1), bS, gI_ok (kx_44 HX), bS, hI _ (by omega) (by omega), es]
  exact f1
end
