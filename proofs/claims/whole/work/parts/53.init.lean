/-! ===== the cells that the two constructors make: kinds, lengths, references that never change ===== -/
def kX (o : Nat) : Nat := match o with | 0 => 11 | 1 => 13 | 2 => 6 | 3 => 13 | 4 => 8 | 8 => 8 | 11 => 5 | 13 => 5 | 15 => 4 | 16 => 18 | 17 => 5 | 19 => 5 | 21 => 5 | 23 => 5 | 25 => 5 | 27 => 5 | 29 => 5 | 31 => 5 | 33 => 5 | 35 => 5 | 37 => 19 | 38 => 18 | 39 => 20 | 40 => 7 | 43 => 2 | 44 => 10 | 45 => 17 | 47 => 8 | 50 => 1 | 51 => 3 | 52 => 15 | 55 => 0 | 56 => 3 | 57 => 15 | 60 => 5 | 62 => 5 | 64 => 9 | 65 => 15 | 66 => 9 | 67 => 15 | 68 => 9 | 69 => 15 | 70 => 9 | 71 => 15 | _ => 14
def nX (o : Nat) : Nat := match o with | 1 => 900 | 5 => 6 | 6 => 6 | 7 => 900 | 9 => 6 | 10 => 6 | 12 => 54 | 14 => 54 | 16 => 10 | 18 => 54 | 20 => 54 | 22 => 54 | 24 => 54 | 26 => 54 | 28 => 54 | 30 => 54 | 32 => 54 | 34 => 54 | 36 => 54 | 37 => 2 | 38 => 2 | 39 => 4 | 41 => 7 | 42 => 64 | 45 => 10 | 46 => 7 | 48 => 6 | 49 => 6 | 52 => 1400 | 53 => 1400 | 54 => 1400 | 57 => 1400 | 58 => 1400 | 59 => 19 | 61 => 54 | 63 => 54 | 65 => 40 | 67 => 40 | 69 => 40 | 71 => 40 | _ => 0
def rX : List (Nat × Nat × Nat) := [(0, 0, 1), (0, 2, 2), (0, 4, 11), (0, 5, 13), (0, 6, 15), (0, 7, 37), (0, 8, 38), (0, 9, 39), (0, 10, 40), (0, 11, 43), (0, 12, 44), (0, 13, 50), (0, 14, 55), (0, 15, 59), (2, 10, 7), (4, 6, 5), (4, 7, 6), (8, 6, 9), (8, 7, 10), (11, 0, 12), (13, 0, 14), (15, 0, 16), (16, 0, 17), (16, 1, 19), (16, 2, 21), (16, 3, 23), (16, 4, 25), (16, 5, 27), (16, 6, 29), (16, 7, 31), (16, 8, 33), (16, 9, 35), (17, 0, 18), (19, 0, 20), (21, 0, 22), (23, 0, 24), (25, 0, 26), (27, 0, 28), (29, 0, 30), (31, 0, 32), (33, 0, 34), (35, 0, 36), (38, 0, 60), (38, 1, 62), (39, 0, 64), (39, 1, 66), (39, 2, 68), (39, 3, 70), (40, 0, 41), (40, 1, 42), (43, 0, 40), (44, 0, 40), (44, 1, 45), (44, 2, 46), (47, 6, 48), (47, 7, 49), (50, 0, 44), (50, 1, 51), (50, 2, 53), (50, 3, 54), (51, 0, 52), (55, 0, 44), (55, 1, 50), (55, 2, 56), (55, 3, 58), (56, 0, 57), (60, 0, 61), (62, 0, 63), (64, 0, 65), (66, 0, 67), (68, 0, 69), (70, 0, 71)]
def rM : List (Nat × Nat × Nat) := [(0, 1, 1), (0, 2, 2), (0, 3, 3), (0, 4, 4), (0, 16, 5), (0, 17, 6), (0, 18, 7), (0, 21, 8), (0, 22, 9), (0, 23, 10), (0, 24, 11), (0, 27, 12), (0, 28, 13), (0, 29, 14), (0, 30, 15), (0, 31, 16), (0, 33, 17), (0, 34, 18), (0, 35, 19)]
def LayX (z : Sh) (R : Nat → Nat → Option Nat) (b : Nat) : Prop := (∀ o, o < 72 → z.K (b + o) = kX o ∧ z.N (b + o) = nX o) ∧ ∀ q ∈ rX, R (b + q.1) q.2.1 = some (b + q.2.2)
def LayR (z : Sh) (R : Nat → Nat → Option Nat) (m : Nat) : Prop := (∀ o, o < 20 → z.K (m + o) = kM o ∧ z.N (m + o) = nM o) ∧ ∀ q ∈ rM, R (m + q.1) q.2.1 = some (m + q.2.2)
set_option maxHeartbeats 8000000 in
set_option maxRecDepth 40000 in
theorem x_init {n : Nat} {z : Sh} {h : Hp} {b : Nat} (hn : 1458 < n) (hs : z.sz = b + 1) (hK : z.K b = 11) (hN : z.N b = 0) (hI : h.I b = fun _ => 0) (hJ : h.J b = fun _ => 0) (hR : h.R b = fun _ => none) : EB b 1 z.sl 0 (f_X11_init n z h b) (fun q => ∃ (kf nl : Nat → Nat) (rI : Nat → Nat → Int32) (rR : Nat → Nat → Option Nat), BI z h b 72 10005 kf nl rI rR q.2 q.1 ∧ (∀ o, o < 72 → kf o = kX o ∧ nl o = nX o) ∧ (∀ q ∈ rX, rR q.1 q.2.1 = some (b + q.2.2)) ∧ rR 0 3 = some (b + 8) ∧ rR 2 2 = some (b + 3) ∧ rR 2 8 = some (b + 4) ∧ rR 44 3 = some (b + 47) ∧ rR 55 4 = none ∧ rR 8 8 = some (z.st 0) ∧ rR 8 9 = some (z.st 1) ∧ rR 37 = (fun _ => none) ∧ rR 45 = (fun _ => none) ∧ rI 0 1 = 0 ∧ rI 2 0 = 0 ∧ rI 2 1 = -1 ∧ rI 2 3 = 0 ∧ rI 2 4 = 0 ∧ rI 2 5 = 0 ∧ rI 2 6 = 3 ∧ rI 2 7 = 0 ∧ rI 2 9 = 0 ∧ rI 2 11 = 0 ∧ rI 8 0 = 1 ∧ rI 8 1 = 1 ∧ rI 8 2 = 0 ∧ rI 8 3 = 0 ∧ rI 8 4 = 0 ∧ rI 8 5 = 0 ∧ rI 11 1 = 0 ∧ rI 11 2 = 0 ∧ rI 15 1 = 0 ∧ rI 15 2 = 0 ∧ rI 44 4 = 1 ∧ rI 44 5 = 0 ∧ rI 44 6 = 1 ∧ rI 44 7 = 0 ∧ rI 44 8 = 0 ∧ rI 64 1 = 0 ∧ rI 64 2 = 0 ∧ rI 64 3 = 0 ∧ rI 66 1 = 0 ∧ rI 66 2 = 0 ∧ rI 66 3 = 0 ∧ rI 68 1 = 0 ∧ rI 68 2 = 0 ∧ rI 68 3 = 0 ∧ rI 70 1 = 0 ∧ rI 70 2 = 0 ∧ rI 70 3 = 0 ∧ rI 47 0 = 1 ∧ rI 47 1 = 1 ∧ rI 47 4 = 0 ∧ rR 47 8 = some (z.st 0) ∧ rR 47 9 = some (z.st 1)) := by
  have H : BI z h b 1 0 (fun _ => 11) (fun _ => 0) (fun _ _ => 0) (fun _ _ => none) z h := ⟨hs, rfl, fun i hi => by
    have : i = 0 := by omega
    subst this
    exact ⟨hK, hN, hI, hJ, hR⟩, fun _ _ => ⟨rfl, rfl, rfl, rfl, rfl⟩, fun _ => rfl⟩
  obtain ⟨n, rfl⟩ : ∃ k, n = k + 1459 := ⟨n - 1459, by omega⟩
  refine eb_if ((H.K (i := 0) (by decide)).trans rfl) ?_
  refine eb_gd H ?_
  refine eb_nwA (kd := 13) (N := 900) H rfl (by decide) (by decide) (fun z h H => ?_)
  refine eb_gd H ?_
  refine eb_pR (i := 0) H (by decide) rfl (fun h H => ?_)
  refine eb_pI (i := 0) H (by decide) rfl (fun h H => ?_)
  refine eb_nwO (ci := 6) H (fun z h H => ?_)
  refine eb_gd H ?_
  refine eb_call (t2 := 8) (S2 := 1834) (by decide) (by decide) ?_
  refine eb_if ((H.K (i := 2) (by decide)).trans rfl) ?_
  refine eb_gd H ?_
  refine eb_pI (i := 2) H (by decide) rfl (fun h H => ?_)
  refine eb_pI (i := 2) H (by decide) rfl (fun h H => ?_)
  refine eb_nwA (kd := 13) (N := 0) H rfl (by decide) (by decide) (fun z h H => ?_)
  refine eb_gd H ?_
  refine eb_pR (i := 2) H (by decide) rfl (fun h H => ?_)
  refine eb_pI (i := 2) H (by decide) rfl (fun h H => ?_)
  refine eb_pI (i := 2) H (by decide) rfl (fun h H => ?_)
  refine eb_pI (i := 2) H (by decide) rfl (fun h H => ?_)
  refine eb_pI (i := 2) H (by decide) rfl (fun h H => ?_)
  refine eb_pI (i := 2) H (by decide) rfl (fun h H => ?_)
  refine eb_nwO (ci := 8) H (fun z h H => ?_)
  refine eb_gd H ?_
  refine eb_call (t2 := 7) (S2 := 934) (by decide) (by decide) ?_
  refine eb_if ((H.K (i := 4) (by decide)).trans rfl) ?_
  refine eb_gd H ?_
  refine eb_pI (i := 4) H (by decide) rfl (fun h H => ?_)
  refine eb_pI (i := 4) H (by decide) rfl (fun h H => ?_)
  refine eb_pI (i := 4) H (by decide) rfl (fun h H => ?_)
  refine eb_pI (i := 4) H (by decide) rfl (fun h H => ?_)
  refine eb_pI (i := 4) H (by decide) rfl (fun h H => ?_)
  refine eb_pI (i := 4) H (by decide) rfl (fun h H => ?_)
  refine eb_nwA (kd := 14) (N := 6) H rfl (by decide) (by decide) (fun z h H => ?_)
  refine eb_gd H ?_
  refine eb_pR (i := 4) H (by decide) rfl (fun h H => ?_)
  refine eb_nwA (kd := 14) (N := 6) H rfl (by decide) (by decide) (fun z h H => ?_)
  refine eb_gd H ?_
  refine eb_pR (i := 4) H (by decide) rfl (fun h H => ?_)
  refine eb_pRs (i := 4) H (by decide) rfl (fun h H => ?_)
  refine eb_pRs (i := 4) H (by decide) rfl (fun h H => ?_)
  refine eb_some H ?_
  refine eb_gd H ?_
  refine eb_pR (i := 2) H (by decide) rfl (fun h H => ?_)
  refine eb_pZ (i := 2) H (by decide) rfl (by decide) (fun h H => ?_)
  refine eb_nwA (kd := 14) (N := 900) H rfl (by decide) (by decide) (fun z h H => ?_)
  refine eb_gd H ?_
  refine eb_pR (i := 2) H (by decide) rfl (fun h H => ?_)
  refine eb_pI (i := 2) H (by decide) rfl (fun h H => ?_)
  refine eb_some H ?_
  refine eb_gd H ?_
  refine eb_pR (i := 0) H (by decide) rfl (fun h H => ?_)
  refine eb_nwO (ci := 8) H (fun z h H => ?_)
  refine eb_gd H ?_
  refine eb_call (t2 := 11) (S2 := 1856) (by decide) (by decide) ?_
  refine eb_if ((H.K (i := 8) (by decide)).trans rfl) ?_
  refine eb_gd H ?_
  refine eb_pI (i := 8) H (by decide) rfl (fun h H => ?_)
  refine eb_pI (i := 8) H (by decide) rfl (fun h H => ?_)
  refine eb_pI (i := 8) H (by decide) rfl (fun h H => ?_)
  refine eb_pI (i := 8) H (by decide) rfl (fun h H => ?_)
  refine eb_pI (i := 8) H (by decide) rfl (fun h H => ?_)
  refine eb_pI (i := 8) H (by decide) rfl (fun h H => ?_)
  refine eb_nwA (kd := 14) (N := 6) H rfl (by decide) (by decide) (fun z h H => ?_)
  refine eb_gd H ?_
  refine eb_pR (i := 8) H (by decide) rfl (fun h H => ?_)
  refine eb_nwA (kd := 14) (N := 6) H rfl (by decide) (by decide) (fun z h H => ?_)
  refine eb_gd H ?_
  refine eb_pR (i := 8) H (by decide) rfl (fun h H => ?_)
  refine eb_pRs (i := 8) H (by decide) rfl (fun h H => ?_)
  refine eb_pRs (i := 8) H (by decide) rfl (fun h H => ?_)
  refine eb_some H ?_
  refine eb_gd H ?_
  refine eb_pR (i := 0) H (by decide) rfl (fun h H => ?_)
  refine eb_nwO (ci := 5) H (fun z h H => ?_)
  refine eb_gd H ?_
  refine eb_call (t2 := 13) (S2 := 1913) (by decide) (by decide) ?_
  refine eb_if ((H.K (i := 11) (by decide)).trans rfl) ?_
  refine eb_gd H ?_
  refine eb_nwA (kd := 14) (N := 54) H rfl (by decide) (by decide) (fun z h H => ?_)
  refine eb_gd H ?_
  refine eb_pR (i := 11) H (by decide) rfl (fun h H => ?_)
  refine eb_pI (i := 11) H (by decide) rfl (fun h H => ?_)
  refine eb_pI (i := 11) H (by decide) rfl (fun h H => ?_)
  refine eb_some H ?_
  refine eb_gd H ?_
  refine eb_pR (i := 0) H (by decide) rfl (fun h H => ?_)
  refine eb_nwO (ci := 5) H (fun z h H => ?_)
  refine eb_gd H ?_
  refine eb_call (t2 := 15) (S2 := 1970) (by decide) (by decide) ?_
  refine eb_if ((H.K (i := 13) (by decide)).trans rfl) ?_
  refine eb_gd H ?_
  refine eb_nwA (kd := 14) (N := 54) H rfl (by decide) (by decide) (fun z h H => ?_)
  refine eb_gd H ?_
  refine eb_pR (i := 13) H (by decide) rfl (fun h H => ?_)
  refine eb_pI (i := 13) H (by decide) rfl (fun h H => ?_)
  refine eb_pI (i := 13) H (by decide) rfl (fun h H => ?_)
  refine eb_some H ?_
  refine eb_gd H ?_
  refine eb_pR (i := 0) H (by decide) rfl (fun h H => ?_)
  refine eb_nwO (ci := 4) H (fun z h H => ?_)
  refine eb_gd H ?_
  refine eb_call (t2 := 37) (S2 := 2553) (by decide) (by decide) ?_
  refine eb_if ((H.K (i := 15) (by decide)).trans rfl) ?_
  refine eb_gd H ?_
  refine eb_nwA (kd := 18) (N := 10) H rfl (by decide) (by decide) (fun z h H => ?_)
  refine eb_gd H ?_
  refine eb_pR (i := 15) H (by decide) rfl (fun h H => ?_)
  refine eb_pI (i := 15) H (by decide) rfl (fun h H => ?_)
  refine eb_pI (i := 15) H (by decide) rfl (fun h H => ?_)
  rw [f_X4_init_25.eq_2]
  refine eb_gR (i := 15) (j := 16) H (by decide) rfl rfl ?_
  refine eb_aL (i := 16) (N := 10) H (by decide) rfl rfl ?_
  refine eb_ne (by decide) ?_
  refine eb_gR (i := 15) (j := 16) H (by decide) rfl rfl ?_
  refine eb_nwO (ci := 5) H (fun z h H => ?_)
  refine eb_gd H ?_
  refine eb_call (t2 := 19) (S2 := 2040) (by decide) (by decide) ?_
  refine eb_if ((H.K (i := 17) (by decide)).trans rfl) ?_
  refine eb_gd H ?_
  refine eb_nwA (kd := 14) (N := 54) H rfl (by decide) (by decide) (fun z h H => ?_)
  refine eb_gd H ?_
  refine eb_pR (i := 17) H (by decide) rfl (fun h H => ?_)
  refine eb_pI (i := 17) H (by decide) rfl (fun h H => ?_)
  refine eb_pI (i := 17) H (by decide) rfl (fun h H => ?_)
  refine eb_some H ?_
  refine eb_gd H ?_
  refine eb_stR (i := 16) (i2 := 17) (j := 0) H (by decide) (by decide) rfl rfl rfl (by decide) (by decide) (fun h H => ?_)
  refine eb_val (v := 1) (by decide) ?_
  rw [f_X4_init_25.eq_2]
  refine eb_gR (i := 15) (j := 16) H (by decide) rfl rfl ?_
  refine eb_aL (i := 16) (N := 10) H (by decide) rfl rfl ?_
  refine eb_ne (by decide) ?_
  refine eb_gR (i := 15) (j := 16) H (by decide) rfl rfl ?_
  refine eb_nwO (ci := 5) H (fun z h H => ?_)
  refine eb_gd H ?_
  refine eb_call (t2 := 21) (S2 := 2097) (by decide) (by decide) ?_
  refine eb_if ((H.K (i := 19) (by decide)).trans rfl) ?_
  refine eb_gd H ?_
  refine eb_nwA (kd := 14) (N := 54) H rfl (by decide) (by decide) (fun z h H => ?_)
  refine eb_gd H ?_
  refine eb_pR (i := 19) H (by decide) rfl (fun h H => ?_)
  refine eb_pI (i := 19) H (by decide) rfl (fun h H => ?_)
  refine eb_pI (i := 19) H (by decide) rfl (fun h H => ?_)
  refine eb_some H ?_
  refine eb_gd H ?_
  refine eb_stR (i := 16) (i2 := 19) (j := 1) H (by decide) (by decide) rfl rfl rfl (by decide) (by decide) (fun h H => ?_)
  refine eb_val (v := 2) (by decide) ?_
  rw [f_X4_init_25.eq_2]
  refine eb_gR (i := 15) (j := 16) H (by decide) rfl rfl ?_
  refine eb_aL (i := 16) (N := 10) H (by decide) rfl rfl ?_
  refine eb_ne (by decide) ?_
  refine eb_gR (i := 15) (j := 16) H (by decide) rfl rfl ?_
  refine eb_nwO (ci := 5) H (fun z h H => ?_)
  refine eb_gd H ?_
  refine eb_call (t2 := 23) (S2 := 2154) (by decide) (by decide) ?_
  refine eb_if ((H.K (i := 21) (by decide)).trans rfl) ?_
  refine eb_gd H ?_
  refine eb_nwA (kd := 14) (N := 54) H rfl (by decide) (by decide) (fun z h H => ?_)
  refine eb_gd H ?_
  refine eb_pR (i := 21) H (by decide) rfl (fun h H => ?_)
  refine eb_pI (i := 21) H (by decide) rfl (fun h H => ?_)
  refine eb_pI (i := 21) H (by decide) rfl (fun h H => ?_)
  refine eb_some H ?_
  refine eb_gd H ?_
  refine eb_stR (i := 16) (i2 := 21) (j := 2) H (by decide) (by decide) rfl rfl rfl (by decide) (by decide) (fun h H => ?_)
  refine eb_val (v := 3) (by decide) ?_
  rw [f_X4_init_25.eq_2]
  refine eb_gR (i := 15) (j := 16) H (by decide) rfl rfl ?_
  refine eb_aL (i := 16) (N := 10) H (by decide) rfl rfl ?_
  refine eb_ne (by decide) ?_
  refine eb_gR (i := 15) (j := 16) H (by decide) rfl rfl ?_
  refine eb_nwO (ci := 5) H (fun z h H => ?_)
  refine eb_gd H ?_
  refine eb_call (t2 := 25) (S2 := 2211) (by decide) (by decide) ?_
  refine eb_if ((H.K (i := 23) (by decide)).trans rfl) ?_
  refine eb_gd H ?_
  refine eb_nwA (kd := 14) (N := 54) H rfl (by decide) (by decide) (fun z h H => ?_)
  refine eb_gd H ?_
  refine eb_pR (i := 23) H (by decide) rfl (fun h H => ?_)
  refine eb_pI (i := 23) H (by decide) rfl (fun h H => ?_)
  refine eb_pI (i := 23) H (by decide) rfl (fun h H => ?_)
  refine eb_some H ?_
  refine eb_gd H ?_
  refine eb_stR (i := 16) (i2 := 23) (j := 3) H (by decide) (by decide) rfl rfl rfl (by decide) (by decide) (fun h H => ?_)
  refine eb_val (v := 4) (by decide) ?_
  rw [f_X4_init_25.eq_2]
  refine eb_gR (i := 15) (j := 16) H (by decide) rfl rfl ?_
  refine eb_aL (i := 16) (N := 10) H (by decide) rfl rfl ?_
  refine eb_ne (by decide) ?_
  refine eb_gR (i := 15) (j := 16) H (by decide) rfl rfl ?_
  refine eb_nwO (ci := 5) H (fun z h H => ?_)
  refine eb_gd H ?_
  refine eb_call (t2 := 27) (S2 := 2268) (by decide) (by decide) ?_
  refine eb_if ((H.K (i := 25) (by decide)).trans rfl) ?_
  refine eb_gd H ?_
  refine eb_nwA (kd := 14) (N := 54) H rfl (by decide) (by decide) (fun z h H => ?_)
  refine eb_gd H ?_
  refine eb_pR (i := 25) H (by decide) rfl (fun h H => ?_)
  refine eb_pI (i := 25) H (by decide) rfl (fun h H => ?_)
  refine eb_pI (i := 25) H (by decide) rfl (fun h H => ?_)
  refine eb_some H ?_
  refine eb_gd H ?_
  refine eb_stR (i := 16) (i2 := 25) (j := 4) H (by decide) (by decide) rfl rfl rfl (by decide) (by decide) (fun h H => ?_)
  refine eb_val (v := 5) (by decide) ?_
  rw [f_X4_init_25.eq_2]
  refine eb_gR (i := 15) (j := 16) H (by decide) rfl rfl ?_
  refine eb_aL (i := 16) (N := 10) H (by decide) rfl rfl ?_
  refine eb_ne (by decide) ?_
  refine eb_gR (i := 15) (j := 16) H (by decide) rfl rfl ?_
  refine eb_nwO (ci := 5) H (fun z h H => ?_)
  refine eb_gd H ?_
  refine eb_call (t2 := 29) (S2 := 2325) (by decide) (by decide) ?_
  refine eb_if ((H.K (i := 27) (by decide)).trans rfl) ?_
  refine eb_gd H ?_
  refine eb_nwA (kd := 14) (N := 54) H rfl (by decide) (by decide) (fun z h H => ?_)
  refine eb_gd H ?_
  refine eb_pR (i := 27) H (by decide) rfl (fun h H => ?_)
  refine eb_pI (i := 27) H (by decide) rfl (fun h H => ?_)
  refine eb_pI (i := 27) H (by decide) rfl (fun h H => ?_)
  refine eb_some H ?_
  refine eb_gd H ?_
  refine eb_stR (i := 16) (i2 := 27) (j := 5) H (by decide) (by decide) rfl rfl rfl (by decide) (by decide) (fun h H => ?_)
  refine eb_val (v := 6) (by decide) ?_
  rw [f_X4_init_25.eq_2]
  refine eb_gR (i := 15) (j := 16) H (by decide) rfl rfl ?_
  refine eb_aL (i := 16) (N := 10) H (by decide) rfl rfl ?_
  refine eb_ne (by decide) ?_
  refine eb_gR (i := 15) (j := 16) H (by decide) rfl rfl ?_
  refine eb_nwO (ci := 5) H (fun z h H => ?_)
  refine eb_gd H ?_
  refine eb_call (t2 := 31) (S2 := 2382) (by decide) (by decide) ?_
  refine eb_if ((H.K (i := 29) (by decide)).trans rfl) ?_
  refine eb_gd H ?_
  refine eb_nwA (kd := 14) (N := 54) H rfl (by decide) (by decide) (fun z h H => ?_)
  refine eb_gd H ?_
  refine eb_pR (i := 29) H (by decide) rfl (fun h H => ?_)
  refine eb_pI (i := 29) H (by decide) rfl (fun h H => ?_)
  refine eb_pI (i := 29) H (by decide) rfl (fun h H => ?_)
  refine eb_some H ?_
  refine eb_gd H ?_
  refine eb_stR (i := 16) (i2 := 29) (j := 6) H (by decide) (by decide) rfl rfl rfl (by decide) (by decide) (fun h H => ?_)
  refine eb_val (v := 7) (by decide) ?_
  rw [f_X4_init_25.eq_2]
  refine eb_gR (i := 15) (j := 16) H (by decide) rfl rfl ?_
  refine eb_aL (i := 16) (N := 10) H (by decide) rfl rfl ?_
  refine eb_ne (by decide) ?_
  refine eb_gR (i := 15) (j := 16) H (by decide) rfl rfl ?_
  refine eb_nwO (ci := 5) H (fun z h H => ?_)
  refine eb_gd H ?_
  refine eb_call (t2 := 33) (S2 := 2439) (by decide) (by decide) ?_
  refine eb_if ((H.K (i := 31) (by decide)).trans rfl) ?_
  refine eb_gd H ?_
  refine eb_nwA (kd := 14) (N := 54) H rfl (by decide) (by decide) (fun z h H => ?_)
  refine eb_gd H ?_
  refine eb_pR (i := 31) H (by decide) rfl (fun h H => ?_)
  refine eb_pI (i := 31) H (by decide) rfl (fun h H => ?_)
  refine eb_pI (i := 31) H (by decide) rfl (fun h H => ?_)
  refine eb_some H ?_
  refine eb_gd H ?_
  refine eb_stR (i := 16) (i2 := 31) (j := 7) H (by decide) (by decide) rfl rfl rfl (by decide) (by decide) (fun h H => ?_)
  refine eb_val (v := 8) (by decide) ?_
  rw [f_X4_init_25.eq_2]
  refine eb_gR (i := 15) (j := 16) H (by decide) rfl rfl ?_
  refine eb_aL (i := 16) (N := 10) H (by decide) rfl rfl ?_
  refine eb_ne (by decide) ?_
  refine eb_gR (i := 15) (j := 16) H (by decide) rfl rfl ?_
  refine eb_nwO (ci := 5) H (fun z h H => ?_)
  refine eb_gd H ?_
  refine eb_call (t2 := 35) (S2 := 2496) (by decide) (by decide) ?_
  refine eb_if ((H.K (i := 33) (by decide)).trans rfl) ?_
  refine eb_gd H ?_
  refine eb_nwA (kd := 14) (N := 54) H rfl (by decide) (by decide) (fun z h H => ?_)
  refine eb_gd H ?_
  refine eb_pR (i := 33) H (by decide) rfl (fun h H => ?_)
  refine eb_pI (i := 33) H (by decide) rfl (fun h H => ?_)
  refine eb_pI (i := 33) H (by decide) rfl (fun h H => ?_)
  refine eb_some H ?_
  refine eb_gd H ?_
  refine eb_stR (i := 16) (i2 := 33) (j := 8) H (by decide) (by decide) rfl rfl rfl (by decide) (by decide) (fun h H => ?_)
  refine eb_val (v := 9) (by decide) ?_
  rw [f_X4_init_25.eq_2]
  refine eb_gR (i := 15) (j := 16) H (by decide) rfl rfl ?_
  refine eb_aL (i := 16) (N := 10) H (by decide) rfl rfl ?_
  refine eb_ne (by decide) ?_
  refine eb_gR (i := 15) (j := 16) H (by decide) rfl rfl ?_
  refine eb_nwO (ci := 5) H (fun z h H => ?_)
  refine eb_gd H ?_
  refine eb_call (t2 := 37) (S2 := 2553) (by decide) (by decide) ?_
  refine eb_if ((H.K (i := 35) (by decide)).trans rfl) ?_
  refine eb_gd H ?_
  refine eb_nwA (kd := 14) (N := 54) H rfl (by decide) (by decide) (fun z h H => ?_)
  refine eb_gd H ?_
  refine eb_pR (i := 35) H (by decide) rfl (fun h H => ?_)
  refine eb_pI (i := 35) H (by decide) rfl (fun h H => ?_)
  refine eb_pI (i := 35) H (by decide) rfl (fun h H => ?_)
  refine eb_some H ?_
  refine eb_gd H ?_
  refine eb_stR (i := 16) (i2 := 35) (j := 9) H (by decide) (by decide) rfl rfl rfl (by decide) (by decide) (fun h H => ?_)
  refine eb_val (v := 10) (by decide) ?_
  rw [f_X4_init_25.eq_2]
  refine eb_gR (i := 15) (j := 16) H (by decide) rfl rfl ?_
  refine eb_aL (i := 16) (N := 10) H (by decide) rfl rfl ?_
  refine eb_if (by decide) ?_
  refine eb_some H ?_
  refine eb_gd H ?_
  refine eb_pR (i := 0) H (by decide) rfl (fun h H => ?_)
  refine eb_nwA (kd := 19) (N := 2) H rfl (by decide) (by decide) (fun z h H => ?_)
  refine eb_gd H ?_
  refine eb_pR (i := 0) H (by decide) rfl (fun h H => ?_)
  refine eb_nwA (kd := 18) (N := 2) H rfl (by decide) (by decide) (fun z h H => ?_)
  refine eb_gd H ?_
  refine eb_pR (i := 0) H (by decide) rfl (fun h H => ?_)
  refine eb_nwA (kd := 20) (N := 4) H rfl (by decide) (by decide) (fun z h H => ?_)
  refine eb_gd H ?_
  refine eb_pR (i := 0) H (by decide) rfl (fun h H => ?_)
  refine eb_nwO (ci := 7) H (fun z h H => ?_)
  refine eb_gd H ?_
  refine eb_call (t2 := 43) (S2 := 2634) (by decide) (by decide) ?_
  refine eb_if ((H.K (i := 40) (by decide)).trans rfl) ?_
  refine eb_gd H ?_
  refine eb_nwA (kd := 14) (N := 7) H rfl (by decide) (by decide) (fun z h H => ?_)
  refine eb_gd H ?_
  refine eb_pR (i := 40) H (by decide) rfl (fun h H => ?_)
  refine eb_nwA (kd := 14) (N := 64) H rfl (by decide) (by decide) (fun z h H => ?_)
  refine eb_gd H ?_
  refine eb_pR (i := 40) H (by decide) rfl (fun h H => ?_)
  refine eb_some H ?_
  refine eb_gd H ?_
  refine eb_pR (i := 0) H (by decide) rfl (fun h H => ?_)
  refine eb_nwO (ci := 2) H (fun z h H => ?_)
  refine eb_gd H ?_
  refine eb_gR (i := 0) (j := 40) H (by decide) rfl rfl ?_
  refine eb_call (t2 := 44) (S2 := 2637) (by decide) (by decide) ?_
  refine eb_if ((H.K (i := 43) (by decide)).trans rfl) ?_
  refine eb_gd H ?_
  refine eb_pI (i := 43) H (by decide) rfl (fun h H => ?_)
  refine eb_pI (i := 43) H (by decide) rfl (fun h H => ?_)
  refine eb_pR (i := 43) H (by decide) rfl (fun h H => ?_)
  refine eb_some H ?_
  refine eb_gd H ?_
  refine eb_pR (i := 0) H (by decide) rfl (fun h H => ?_)
  refine eb_nwO (ci := 10) H (fun z h H => ?_)
  refine eb_gd H ?_
  refine eb_gR (i := 0) (j := 40) H (by decide) rfl rfl ?_
  refine eb_call (t2 := 50) (S2 := 2685) (by decide) (by decide) ?_
  refine eb_if ((H.K (i := 44) (by decide)).trans rfl) ?_
  refine eb_gd H ?_
  refine eb_nwA (kd := 17) (N := 10) H rfl (by decide) (by decide) (fun z h H => ?_)
  refine eb_gd H ?_
  refine eb_pR (i := 44) H (by decide) rfl (fun h H => ?_)
  refine eb_nwA (kd := 14) (N := 7) H rfl (by decide) (by decide) (fun z h H => ?_)
  refine eb_gd H ?_
  refine eb_pR (i := 44) H (by decide) rfl (fun h H => ?_)
  refine eb_nwO (ci := 8) H (fun z h H => ?_)
  refine eb_gd H ?_
  refine eb_call (t2 := 50) (S2 := 2685) (by decide) (by decide) ?_
  refine eb_if ((H.K (i := 47) (by decide)).trans rfl) ?_
  refine eb_gd H ?_
  refine eb_pI (i := 47) H (by decide) rfl (fun h H => ?_)
  refine eb_pI (i := 47) H (by decide) rfl (fun h H => ?_)
  refine eb_pI (i := 47) H (by decide) rfl (fun h H => ?_)
  refine eb_pI (i := 47) H (by decide) rfl (fun h H => ?_)
  refine eb_pI (i := 47) H (by decide) rfl (fun h H => ?_)
  refine eb_pI (i := 47) H (by decide) rfl (fun h H => ?_)
  refine eb_nwA (kd := 14) (N := 6) H rfl (by decide) (by decide) (fun z h H => ?_)
  refine eb_gd H ?_
  refine eb_pR (i := 47) H (by decide) rfl (fun h H => ?_)
  refine eb_nwA (kd := 14) (N := 6) H rfl (by decide) (by decide) (fun z h H => ?_)
  refine eb_gd H ?_
  refine eb_pR (i := 47) H (by decide) rfl (fun h H => ?_)
  refine eb_pRs (i := 47) H (by decide) rfl (fun h H => ?_)
  refine eb_pRs (i := 47) H (by decide) rfl (fun h H => ?_)
  refine eb_some H ?_
  refine eb_gd H ?_
  refine eb_pR (i := 44) H (by decide) rfl (fun h H => ?_)
  refine eb_pI (i := 44) H (by decide) rfl (fun h H => ?_)
  refine eb_pI (i := 44) H (by decide) rfl (fun h H => ?_)
  refine eb_pZ (i := 44) H (by decide) rfl (by decide) (fun h H => ?_)
  refine eb_pI (i := 44) H (by decide) rfl (fun h H => ?_)
  refine eb_pI (i := 44) H (by decide) rfl (fun h H => ?_)
  refine eb_pR (i := 44) H (by decide) rfl (fun h H => ?_)
  refine eb_some H ?_
  refine eb_gd H ?_
  refine eb_pR (i := 0) H (by decide) rfl (fun h H => ?_)
  refine eb_nwO (ci := 1) H (fun z h H => ?_)
  refine eb_gd H ?_
  refine eb_gR (i := 0) (j := 44) H (by decide) rfl rfl ?_
  refine eb_call (t2 := 55) (S2 := 6890) (by decide) (by decide) ?_
  refine eb_if ((H.K (i := 50) (by decide)).trans rfl) ?_
  refine eb_gd H ?_
  refine eb_nwO (ci := 3) H (fun z h H => ?_)
  refine eb_gd H ?_
  refine eb_call (t2 := 53) (S2 := 4090) (by decide) (by decide) ?_
  refine eb_if ((H.K (i := 51) (by decide)).trans rfl) ?_
  refine eb_gd H ?_
  refine eb_val (v := 1400) rfl ?_
  refine eb_nwA (kd := 15) (N := 1400) H rfl (by decide) (by decide) (fun z h H => ?_)
  refine eb_gd H ?_
  refine eb_pR (i := 51) H (by decide) rfl (fun h H => ?_)
  refine eb_some H ?_
  refine eb_gd H ?_
  refine eb_pR (i := 50) H (by decide) rfl (fun h H => ?_)
  refine eb_nwA (kd := 14) (N := 1400) H rfl (by decide) (by decide) (fun z h H => ?_)
  refine eb_gd H ?_
  refine eb_pR (i := 50) H (by decide) rfl (fun h H => ?_)
  refine eb_nwA (kd := 14) (N := 1400) H rfl (by decide) (by decide) (fun z h H => ?_)
  refine eb_gd H ?_
  refine eb_pR (i := 50) H (by decide) rfl (fun h H => ?_)
  refine eb_pR (i := 50) H (by decide) rfl (fun h H => ?_)
  refine eb_some H ?_
  refine eb_gd H ?_
  refine eb_pR (i := 0) H (by decide) rfl (fun h H => ?_)
  refine eb_nwO (ci := 0) H (fun z h H => ?_)
  refine eb_gd H ?_
  refine eb_gR (i := 0) (j := 44) H (by decide) rfl rfl ?_
  refine eb_gR (i := 0) (j := 50) H (by decide) rfl rfl ?_
  refine eb_call (t2 := 59) (S2 := 9696) (by decide) (by decide) ?_
  refine eb_if ((H.K (i := 55) (by decide)).trans rfl) ?_
  refine eb_gd H ?_
  refine eb_nwO (ci := 3) H (fun z h H => ?_)
  refine eb_gd H ?_
  refine eb_call (t2 := 58) (S2 := 8296) (by decide) (by decide) ?_
  refine eb_if ((H.K (i := 56) (by decide)).trans rfl) ?_
  refine eb_gd H ?_
  refine eb_val (v := 1400) rfl ?_
  refine eb_nwA (kd := 15) (N := 1400) H rfl (by decide) (by decide) (fun z h H => ?_)
  refine eb_gd H ?_
  refine eb_pR (i := 56) H (by decide) rfl (fun h H => ?_)
  refine eb_some H ?_
  refine eb_gd H ?_
  refine eb_pR (i := 55) H (by decide) rfl (fun h H => ?_)
  refine eb_nwA (kd := 14) (N := 1400) H rfl (by decide) (by decide) (fun z h H => ?_)
  refine eb_gd H ?_
  refine eb_pR (i := 55) H (by decide) rfl (fun h H => ?_)
  refine eb_pR (i := 55) H (by decide) rfl (fun h H => ?_)
  refine eb_pR (i := 55) H (by decide) rfl (fun h H => ?_)
  refine eb_pR (i := 55) H (by decide) rfl (fun h H => ?_)
  refine eb_some H ?_
  refine eb_gd H ?_
  refine eb_pR (i := 0) H (by decide) rfl (fun h H => ?_)
  refine eb_nwA (kd := 14) (N := 19) H rfl (by decide) (by decide) (fun z h H => ?_)
  refine eb_gd H ?_
  refine eb_pR (i := 0) H (by decide) rfl (fun h H => ?_)
  rw [f_X11_init_182.eq_2]
  refine eb_gR (i := 0) (j := 38) H (by decide) rfl rfl ?_
  refine eb_aL (i := 38) (N := 2) H (by decide) rfl rfl ?_
  refine eb_ne (by decide) ?_
  refine eb_gR (i := 0) (j := 38) H (by decide) rfl rfl ?_
  refine eb_nwO (ci := 5) H (fun z h H => ?_)
  refine eb_gd H ?_
  refine eb_call (t2 := 62) (S2 := 9772) (by decide) (by decide) ?_
  refine eb_if ((H.K (i := 60) (by decide)).trans rfl) ?_
  refine eb_gd H ?_
  refine eb_nwA (kd := 14) (N := 54) H rfl (by decide) (by decide) (fun z h H => ?_)
  refine eb_gd H ?_
  refine eb_pR (i := 60) H (by decide) rfl (fun h H => ?_)
  refine eb_pI (i := 60) H (by decide) rfl (fun h H => ?_)
  refine eb_pI (i := 60) H (by decide) rfl (fun h H => ?_)
  refine eb_some H ?_
  refine eb_gd H ?_
  refine eb_stR (i := 38) (i2 := 60) (j := 0) H (by decide) (by decide) rfl rfl rfl (by decide) (by decide) (fun h H => ?_)
  refine eb_val (v := 1) (by decide) ?_
  rw [f_X11_init_182.eq_2]
  refine eb_gR (i := 0) (j := 38) H (by decide) rfl rfl ?_
  refine eb_aL (i := 38) (N := 2) H (by decide) rfl rfl ?_
  refine eb_ne (by decide) ?_
  refine eb_gR (i := 0) (j := 38) H (by decide) rfl rfl ?_
  refine eb_nwO (ci := 5) H (fun z h H => ?_)
  refine eb_gd H ?_
  refine eb_call (t2 := 64) (S2 := 9829) (by decide) (by decide) ?_
  refine eb_if ((H.K (i := 62) (by decide)).trans rfl) ?_
  refine eb_gd H ?_
  refine eb_nwA (kd := 14) (N := 54) H rfl (by decide) (by decide) (fun z h H => ?_)
  refine eb_gd H ?_
  refine eb_pR (i := 62) H (by decide) rfl (fun h H => ?_)
  refine eb_pI (i := 62) H (by decide) rfl (fun h H => ?_)
  refine eb_pI (i := 62) H (by decide) rfl (fun h H => ?_)
  refine eb_some H ?_
  refine eb_gd H ?_
  refine eb_stR (i := 38) (i2 := 62) (j := 1) H (by decide) (by decide) rfl rfl rfl (by decide) (by decide) (fun h H => ?_)
  refine eb_val (v := 2) (by decide) ?_
  rw [f_X11_init_182.eq_2]
  refine eb_gR (i := 0) (j := 38) H (by decide) rfl rfl ?_
  refine eb_aL (i := 38) (N := 2) H (by decide) rfl rfl ?_
  refine eb_if (by decide) ?_
  rw [f_X11_init_212.eq_2]
  refine eb_gR (i := 0) (j := 39) H (by decide) rfl rfl ?_
  refine eb_aL (i := 39) (N := 4) H (by decide) rfl rfl ?_
  refine eb_ne (by decide) ?_
  refine eb_gR (i := 0) (j := 39) H (by decide) rfl rfl ?_
  refine eb_nwO (ci := 9) H (fun z h H => ?_)
  refine eb_gd H ?_
  refine eb_call (t2 := 66) (S2 := 9873) (by decide) (by decide) ?_
  refine eb_if ((H.K (i := 64) (by decide)).trans rfl) ?_
  refine eb_gd H ?_
  refine eb_nwA (kd := 15) (N := 40) H rfl (by decide) (by decide) (fun z h H => ?_)
  refine eb_gd H ?_
  refine eb_pR (i := 64) H (by decide) rfl (fun h H => ?_)
  refine eb_pZ (i := 64) H (by decide) rfl (by decide) (fun h H => ?_)
  refine eb_pI (i := 64) H (by decide) rfl (fun h H => ?_)
  refine eb_pI (i := 64) H (by decide) rfl (fun h H => ?_)
  refine eb_some H ?_
  refine eb_gd H ?_
  refine eb_stR (i := 39) (i2 := 64) (j := 0) H (by decide) (by decide) rfl rfl rfl (by decide) (by decide) (fun h H => ?_)
  refine eb_val (v := 1) (by decide) ?_
  rw [f_X11_init_212.eq_2]
  refine eb_gR (i := 0) (j := 39) H (by decide) rfl rfl ?_
  refine eb_aL (i := 39) (N := 4) H (by decide) rfl rfl ?_
  refine eb_ne (by decide) ?_
  refine eb_gR (i := 0) (j := 39) H (by decide) rfl rfl ?_
  refine eb_nwO (ci := 9) H (fun z h H => ?_)
  refine eb_gd H ?_
  refine eb_call (t2 := 68) (S2 := 9917) (by decide) (by decide) ?_
  refine eb_if ((H.K (i := 66) (by decide)).trans rfl) ?_
  refine eb_gd H ?_
  refine eb_nwA (kd := 15) (N := 40) H rfl (by decide) (by decide) (fun z h H => ?_)
  refine eb_gd H ?_
  refine eb_pR (i := 66) H (by decide) rfl (fun h H => ?_)
  refine eb_pZ (i := 66) H (by decide) rfl (by decide) (fun h H => ?_)
  refine eb_pI (i := 66) H (by decide) rfl (fun h H => ?_)
  refine eb_pI (i := 66) H (by decide) rfl (fun h H => ?_)
  refine eb_some H ?_
  refine eb_gd H ?_
  refine eb_stR (i := 39) (i2 := 66) (j := 1) H (by decide) (by decide) rfl rfl rfl (by decide) (by decide) (fun h H => ?_)
  refine eb_val (v := 2) (by decide) ?_
  rw [f_X11_init_212.eq_2]
  refine eb_gR (i := 0) (j := 39) H (by decide) rfl rfl ?_
  refine eb_aL (i := 39) (N := 4) H (by decide) rfl rfl ?_
  refine eb_ne (by decide) ?_
  refine eb_gR (i := 0) (j := 39) H (by decide) rfl rfl ?_
  refine eb_nwO (ci := 9) H (fun z h H => ?_)
  refine eb_gd H ?_
  refine eb_call (t2 := 70) (S2 := 9961) (by decide) (by decide) ?_
  refine eb_if ((H.K (i := 68) (by decide)).trans rfl) ?_
  refine eb_gd H ?_
  refine eb_nwA (kd := 15) (N := 40) H rfl (by decide) (by decide) (fun z h H => ?_)
  refine eb_gd H ?_
  refine eb_pR (i := 68) H (by decide) rfl (fun h H => ?_)
  refine eb_pZ (i := 68) H (by decide) rfl (by decide) (fun h H => ?_)
  refine eb_pI (i := 68) H (by decide) rfl (fun h H => ?_)
  refine eb_pI (i := 68) H (by decide) rfl (fun h H => ?_)
  refine eb_some H ?_
  refine eb_gd H ?_
  refine eb_stR (i := 39) (i2 := 68) (j := 2) H (by decide) (by decide) rfl rfl rfl (by decide) (by decide) (fun h H => ?_)
  refine eb_val (v := 3) (by decide) ?_
  rw [f_X11_init_212.eq_2]
  refine eb_gR (i := 0) (j := 39) H (by decide) rfl rfl ?_
  refine eb_aL (i := 39) (N := 4) H (by decide) rfl rfl ?_
  refine eb_ne (by decide) ?_
  refine eb_gR (i := 0) (j := 39) H (by decide) rfl rfl ?_
  refine eb_nwO (ci := 9) H (fun z h H => ?_)
  refine eb_gd H ?_
  refine eb_call (t2 := 72) (S2 := 10005) (by decide) (by decide) ?_
  refine eb_if ((H.K (i := 70) (by decide)).trans rfl) ?_
  refine eb_gd H ?_
  refine eb_nwA (kd := 15) (N := 40) H rfl (by decide) (by decide) (fun z h H => ?_)
  refine eb_gd H ?_
  refine eb_pR (i := 70) H (by decide) rfl (fun h H => ?_)
  refine eb_pZ (i := 70) H (by decide) rfl (by decide) (fun h H => ?_)
  refine eb_pI (i := 70) H (by decide) rfl (fun h H => ?_)
  refine eb_pI (i := 70) H (by decide) rfl (fun h H => ?_)
  refine eb_some H ?_
  refine eb_gd H ?_
  refine eb_stR (i := 39) (i2 := 70) (j := 3) H (by decide) (by decide) rfl rfl rfl (by decide) (by decide) (fun h H => ?_)
  refine eb_val (v := 4) (by decide) ?_
  rw [f_X11_init_212.eq_2]
  refine eb_gR (i := 0) (j := 39) H (by decide) rfl rfl ?_
  refine eb_aL (i := 39) (N := 4) H (by decide) rfl rfl ?_
  refine eb_if (by decide) ?_
  refine eb_some H ?_
  refine ⟨_, _, _, _, H, ?_, ?_, rfl, rfl, rfl, rfl, rfl, rfl, rfl, rfl, rfl, rfl, rfl, rfl, rfl, rfl, rfl, rfl, rfl, rfl, rfl, rfl, rfl, rfl, rfl, rfl, rfl, rfl, rfl, rfl, rfl, rfl, rfl, rfl, rfl, rfl, rfl, rfl, rfl, rfl, rfl, rfl, rfl, rfl, rfl, rfl, rfl, rfl, rfl, rfl, rfl, rfl, rfl⟩
  · intro o ho
    match o, ho with
    | 0, _ => exact ⟨rfl, rfl⟩
    | 1, _ => exact ⟨rfl, rfl⟩
    | 2, _ => exact ⟨rfl, rfl⟩
    | 3, _ => exact ⟨rfl, rfl⟩
    | 4, _ => exact ⟨rfl, rfl⟩
    | 5, _ => exact ⟨rfl, rfl⟩
    | 6, _ => exact ⟨rfl, rfl⟩
    | 7, _ => exact ⟨rfl, rfl⟩
    | 8, _ => exact ⟨rfl, rfl⟩
    | 9, _ => exact ⟨rfl, rfl⟩
    | 10, _ => exact ⟨rfl, rfl⟩
    | 11, _ => exact ⟨rfl, rfl⟩
    | 12, _ => exact ⟨rfl, rfl⟩
    | 13, _ => exact ⟨rfl, rfl⟩
    | 14, _ => exact ⟨rfl, rfl⟩
    | 15, _ => exact ⟨rfl, rfl⟩
    | 16, _ => exact ⟨rfl, rfl⟩
    | 17, _ => exact ⟨rfl, rfl⟩
    | 18, _ => exact ⟨rfl, rfl⟩
    | 19, _ => exact ⟨rfl, rfl⟩
    | 20, _ => exact ⟨rfl, rfl⟩
    | 21, _ => exact ⟨rfl, rfl⟩
    | 22, _ => exact ⟨rfl, rfl⟩
    | 23, _ => exact ⟨rfl, rfl⟩
    | 24, _ => exact ⟨rfl, rfl⟩
    | 25, _ => exact ⟨rfl, rfl⟩
    | 26, _ => exact ⟨rfl, rfl⟩
    | 27, _ => exact ⟨rfl, rfl⟩
    | 28, _ => exact ⟨rfl, rfl⟩
    | 29, _ => exact ⟨rfl, rfl⟩
    | 30, _ => exact ⟨rfl, rfl⟩
    | 31, _ => exact ⟨rfl, rfl⟩
    | 32, _ => exact ⟨rfl, rfl⟩
    | 33, _ => exact ⟨rfl, rfl⟩
    | 34, _ => exact ⟨rfl, rfl⟩
    | 35, _ => exact ⟨rfl, rfl⟩
    | 36, _ => exact ⟨rfl, rfl⟩
    | 37, _ => exact ⟨rfl, rfl⟩
    | 38, _ => exact ⟨rfl, rfl⟩
    | 39, _ => exact ⟨rfl, rfl⟩
    | 40, _ => exact ⟨rfl, rfl⟩
    | 41, _ => exact ⟨rfl, rfl⟩
    | 42, _ => exact ⟨rfl, rfl⟩
    | 43, _ => exact ⟨rfl, rfl⟩
    | 44, _ => exact ⟨rfl, rfl⟩
    | 45, _ => exact ⟨rfl, rfl⟩
    | 46, _ => exact ⟨rfl, rfl⟩
    | 47, _ => exact ⟨rfl, rfl⟩
    | 48, _ => exact ⟨rfl, rfl⟩
    | 49, _ => exact ⟨rfl, rfl⟩
    | 50, _ => exact ⟨rfl, rfl⟩
    | 51, _ => exact ⟨rfl, rfl⟩
    | 52, _ => exact ⟨rfl, rfl⟩
    | 53, _ => exact ⟨rfl, rfl⟩
    | 54, _ => exact ⟨rfl, rfl⟩
    | 55, _ => exact ⟨rfl, rfl⟩
    | 56, _ => exact ⟨rfl, rfl⟩
    | 57, _ => exact ⟨rfl, rfl⟩
    | 58, _ => exact ⟨rfl, rfl⟩
    | 59, _ => exact ⟨rfl, rfl⟩
    | 60, _ => exact ⟨rfl, rfl⟩
    | 61, _ => exact ⟨rfl, rfl⟩
    | 62, _ => exact ⟨rfl, rfl⟩
    | 63, _ => exact ⟨rfl, rfl⟩
    | 64, _ => exact ⟨rfl, rfl⟩
    | 65, _ => exact ⟨rfl, rfl⟩
    | 66, _ => exact ⟨rfl, rfl⟩
    | 67, _ => exact ⟨rfl, rfl⟩
    | 68, _ => exact ⟨rfl, rfl⟩
    | 69, _ => exact ⟨rfl, rfl⟩
    | 70, _ => exact ⟨rfl, rfl⟩
    | 71, _ => exact ⟨rfl, rfl⟩
    | o + 72, ho => omega
  · simp only [rX, List.forall_mem_cons]
    refine ⟨rfl, rfl, rfl, rfl, rfl, rfl, rfl, rfl, rfl, rfl, rfl, rfl, rfl, rfl, rfl, rfl, rfl, rfl, rfl, rfl, rfl, rfl, rfl, rfl, rfl, rfl, rfl, rfl, rfl, rfl, rfl, rfl, rfl, rfl, rfl, rfl, rfl, rfl, rfl, rfl, rfl, rfl, rfl, rfl, rfl, rfl, rfl, rfl, rfl, rfl, rfl, rfl, rfl, rfl, rfl, rfl, rfl, rfl, rfl, rfl, rfl, rfl, rfl, rfl, rfl, rfl, rfl, rfl, rfl, rfl, rfl, rfl, ?_⟩
    intro q hq
    cases hq
set_option maxHeartbeats 8000000 in
set_option maxRecDepth 40000 in
theorem m_init {n : Nat} {z : Sh} {h : Hp} {b : Nat} (hn : 1458 < n) (hs : z.sz = b + 1) (hK : z.K b = 12) (hN : z.N b = 0) (hI : h.I b = fun _ => 0) (hJ : h.J b = fun _ => 0) (hR : h.R b = fun _ => none) : EB b 1 z.sl 0 (f_X12_init n z h b) (fun q => ∃ (kf nl : Nat → Nat) (rI : Nat → Nat → Int32) (rR : Nat → Nat → Option Nat), BI z h b 20 405757 kf nl rI rR q.2 q.1 ∧ (∀ o, o < 20 → kf o = kM o ∧ nl o = nM o) ∧ (∀ q ∈ rM, rR q.1 q.2.1 = some (b + q.2.2)) ∧ rI 0 = upd (fun _ => 0) 14 (-1) ∧ rI 1 = plainRow (fun _ => 0) ∧ rI 17 = upd (upd (upd (upd (fun _ => 0) 0 (-1)) 1 (-1)) 2 (-1)) 3 (-1) ∧ rI 2 = (fun _ => 0) ∧ rI 3 = (fun _ => 0) ∧ rI 4 = (fun _ => 0) ∧ rI 5 = (fun _ => 0) ∧ rI 6 = (fun _ => 0) ∧ rI 7 = (fun _ => 0) ∧ rI 8 = (fun _ => 0) ∧ rI 9 = (fun _ => 0) ∧ rI 10 = (fun _ => 0) ∧ rI 11 = (fun _ => 0) ∧ rI 12 = (fun _ => 0) ∧ rI 13 = (fun _ => 0) ∧ rI 14 = (fun _ => 0) ∧ rI 15 = (fun _ => 0) ∧ rI 16 = (fun _ => 0) ∧ rI 18 = (fun _ => 0) ∧ rI 19 = (fun _ => 0)) := by
  have H : BI z h b 1 0 (fun _ => 12) (fun _ => 0) (fun _ _ => 0) (fun _ _ => none) z h := ⟨hs, rfl, fun i hi => by
    have : i = 0 := by omega
    subst this
    exact ⟨hK, hN, hI, hJ, hR⟩, fun _ _ => ⟨rfl, rfl, rfl, rfl, rfl⟩, fun _ => rfl⟩
  obtain ⟨n, rfl⟩ : ∃ k, n = k + 1459 := ⟨n - 1459, by omega⟩
  refine eb_if ((H.K (i := 0) (by decide)).trans rfl) ?_
  refine eb_gd H ?_
  refine eb_nwA (kd := 14) (N := 4374) H rfl (by decide) (by decide) (fun z h H => ?_)
  refine eb_gd H ?_
  refine eb_pR (i := 0) H (by decide) rfl (fun h H => ?_)
  refine eb_nwA (kd := 16) (N := 2) H rfl (by decide) (by decide) (fun z h H => ?_)
  refine eb_gd H ?_
  refine eb_pR (i := 0) H (by decide) rfl (fun h H => ?_)
  refine eb_nwA (kd := 14) (N := 900) H rfl (by decide) (by decide) (fun z h H => ?_)
  refine eb_gd H ?_
  refine eb_pR (i := 0) H (by decide) rfl (fun h H => ?_)
  refine eb_nwA (kd := 14) (N := 1458) H rfl (by decide) (by decide) (fun z h H => ?_)
  refine eb_gd H ?_
  refine eb_pR (i := 0) H (by decide) rfl (fun h H => ?_)
  refine eb_pI (i := 0) H (by decide) rfl (fun h H => ?_)
  refine eb_nwA (kd := 14) (N := 900) H rfl (by decide) (by decide) (fun z h H => ?_)
  refine eb_gd H ?_
  refine eb_pR (i := 0) H (by decide) rfl (fun h H => ?_)
  refine eb_nwA (kd := 14) (N := 7) H rfl (by decide) (by decide) (fun z h H => ?_)
  refine eb_gd H ?_
  refine eb_pR (i := 0) H (by decide) rfl (fun h H => ?_)
  refine eb_nwA (kd := 14) (N := 49) H rfl (by decide) (by decide) (fun z h H => ?_)
  refine eb_gd H ?_
  refine eb_pR (i := 0) H (by decide) rfl (fun h H => ?_)
  refine eb_nwA (kd := 14) (N := 3430) H rfl (by decide) (by decide) (fun z h H => ?_)
  refine eb_gd H ?_
  refine eb_pR (i := 0) H (by decide) rfl (fun h H => ?_)
  refine eb_nwA (kd := 14) (N := 3430) H rfl (by decide) (by decide) (fun z h H => ?_)
  refine eb_gd H ?_
  refine eb_pR (i := 0) H (by decide) rfl (fun h H => ?_)
  refine eb_nwA (kd := 15) (N := 3430) H rfl (by decide) (by decide) (fun z h H => ?_)
  refine eb_gd H ?_
  refine eb_pR (i := 0) H (by decide) rfl (fun h H => ?_)
  refine eb_nwA (kd := 16) (N := 3430) H rfl (by decide) (by decide) (fun z h H => ?_)
  refine eb_gd H ?_
  refine eb_pR (i := 0) H (by decide) rfl (fun h H => ?_)
  refine eb_nwA (kd := 14) (N := 3430) H rfl (by decide) (by decide) (fun z h H => ?_)
  refine eb_gd H ?_
  refine eb_pR (i := 0) H (by decide) rfl (fun h H => ?_)
  refine eb_nwA (kd := 14) (N := 3430) H rfl (by decide) (by decide) (fun z h H => ?_)
  refine eb_gd H ?_
  refine eb_pR (i := 0) H (by decide) rfl (fun h H => ?_)
  refine eb_nwA (kd := 15) (N := 3430) H rfl (by decide) (by decide) (fun z h H => ?_)
  refine eb_gd H ?_
  refine eb_pR (i := 0) H (by decide) rfl (fun h H => ?_)
  refine eb_nwA (kd := 15) (N := 373870) H rfl (by decide) (by decide) (fun z h H => ?_)
  refine eb_gd H ?_
  refine eb_pR (i := 0) H (by decide) rfl (fun h H => ?_)
  refine eb_nwA (kd := 14) (N := 19) H rfl (by decide) (by decide) (fun z h H => ?_)
  refine eb_gd H ?_
  refine eb_pR (i := 0) H (by decide) rfl (fun h H => ?_)
  refine eb_nwA (kd := 14) (N := 4) H rfl (by decide) (by decide) (fun z h H => ?_)
  refine eb_gd H ?_
  refine eb_stI (i := 17) (j := 0) H (by decide) rfl rfl (by decide) (by decide) (fun h H => ?_)
  refine eb_stI (i := 17) (j := 1) H (by decide) rfl rfl (by decide) (by decide) (fun h H => ?_)
  refine eb_stI (i := 17) (j := 2) H (by decide) rfl rfl (by decide) (by decide) (fun h H => ?_)
  refine eb_stI (i := 17) (j := 3) H (by decide) rfl rfl (by decide) (by decide) (fun h H => ?_)
  refine eb_pR (i := 0) H (by decide) rfl (fun h H => ?_)
  refine eb_nwA (kd := 14) (N := 4) H rfl (by decide) (by decide) (fun z h H => ?_)
  refine eb_gd H ?_
  refine eb_pR (i := 0) H (by decide) rfl (fun h H => ?_)
  refine eb_nwA (kd := 15) (N := 160) H rfl (by decide) (by decide) (fun z h H => ?_)
  refine eb_gd H ?_
  refine eb_pR (i := 0) H (by decide) rfl (fun h H => ?_)
  refine eb_gR (i := 0) (j := 1) H (by decide) rfl rfl ?_
  refine eb_plain (by omega) H (by decide) rfl rfl rfl (fun h H => ?_)
  refine eb_some H ?_
  refine ⟨_, _, _, _, H, ?_, ?_, rfl, rfl, rfl, rfl, rfl, rfl, rfl, rfl, rfl, rfl, rfl, rfl, rfl, rfl, rfl, rfl, rfl, rfl, rfl, rfl⟩
  · intro o ho
    match o, ho with
    | 0, _ => exact ⟨rfl, rfl⟩
    | 1, _ => exact ⟨rfl, rfl⟩
    | 2, _ => exact ⟨rfl, rfl⟩
    | 3, _ => exact ⟨rfl, rfl⟩
    | 4, _ => exact ⟨rfl, rfl⟩
    | 5, _ => exact ⟨rfl, rfl⟩
    | 6, _ => exact ⟨rfl, rfl⟩
    | 7, _ => exact ⟨rfl, rfl⟩
    | 8, _ => exact ⟨rfl, rfl⟩
    | 9, _ => exact ⟨rfl, rfl⟩
    | 10, _ => exact ⟨rfl, rfl⟩
    | 11, _ => exact ⟨rfl, rfl⟩
    | 12, _ => exact ⟨rfl, rfl⟩
    | 13, _ => exact ⟨rfl, rfl⟩
    | 14, _ => exact ⟨rfl, rfl⟩
    | 15, _ => exact ⟨rfl, rfl⟩
    | 16, _ => exact ⟨rfl, rfl⟩
    | 17, _ => exact ⟨rfl, rfl⟩
    | 18, _ => exact ⟨rfl, rfl⟩
    | 19, _ => exact ⟨rfl, rfl⟩
    | o + 20, ho => omega
  · simp only [rM, List.forall_mem_cons]
    refine ⟨rfl, rfl, rfl, rfl, rfl, rfl, rfl, rfl, rfl, rfl, rfl, rfl, rfl, rfl, rfl, rfl, rfl, rfl, rfl, ?_⟩
    intro q hq
    cases hq
