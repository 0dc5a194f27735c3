/-! SecondLife$Chances.meanFrom(I)J -/
def f_X0_meanFrom_51 (n : Nat) (g_X0_meanFrom : Sh → Hp → Nat → Int32 → Option (Int64 × Hp × Sh)) (g_X0_meanByYear : Sh → Hp → Nat → Int32 → Int32 → Option (Int64 × Hp × Sh)) (g_X0_meanByDrawing : Sh → Hp → Nat → Int32 → Int32 → Option (Int64 × Hp × Sh))  : Nat → Sh → Hp → Nat → Int32 → Int64 → Int32 → Int32 → Option (Int64 × Hp × Sh)
  | 0, _, _, _, _, _, _, _ => none
  | i + 1, z, h, v0, v1, v4, v6, v7 =>
    if v6 ≤ v7 then
      (gR z h 0 v0 2).bind fun a2 =>
      (gR z h 0 v0 0).bind fun a3 =>
      (gI z h 10 a3 7).bind fun x4 =>
      (f_X3_keep z h a2 v1 x4 v4).bind fun h5 =>
      some (v4, h5, z)
    else
      (ckK z v0 0).bind fun _ =>
      (g_X0_meanByYear z h v0 v1 v7).bind fun (x6, h7, z8) =>
      gd3 z8 <|
      (f_J9_max_f86c9 z8 h7 v4 x6).bind fun x9 =>
      (some (v7 + 1)).bind fun x10 =>
      (f_X0_meanFrom_51 n g_X0_meanFrom g_X0_meanByYear g_X0_meanByDrawing i) z8 h7 v0 v1 x9 v6 x10
def F_X0_meanFrom (n : Nat) (g_X0_meanFrom : Sh → Hp → Nat → Int32 → Option (Int64 × Hp × Sh)) (g_X0_meanByYear : Sh → Hp → Nat → Int32 → Int32 → Option (Int64 × Hp × Sh)) (g_X0_meanByDrawing : Sh → Hp → Nat → Int32 → Int32 → Option (Int64 × Hp × Sh)) (z : Sh) (h : Hp) (v0 : Nat) (v1 : Int32) : Option (Int64 × Hp × Sh) :=
  if z.K v0 = 0 then
    gd3 z <|
    (gR z h 0 v0 2).bind fun a1 =>
    (gR z h 0 v0 0).bind fun a2 =>
    (gI z h 10 a2 7).bind fun x3 =>
    (f_X3_find z h a1 v1 x3).bind fun x4 =>
    if (lg_cmp x4 (-1)) = 0 then
      (f_X0_tenthsAt z h v0 v1).bind fun x6 =>
      (ckK z v0 0).bind fun _ =>
      (g_X0_meanByDrawing z h v0 v1 x6).bind fun (x7, h8, z9) =>
      gd3 z9 <|
      (gR z9 h8 0 v0 0).bind fun a10 =>
      (f_X10_openTrades z9 h8 a10 v1).bind fun x11 =>
      f_X0_meanFrom_51 n g_X0_meanFrom g_X0_meanByYear g_X0_meanByDrawing n z9 h8 v0 v1 x7 x11 0
    else
      some (x4, h, z)
  else none
theorem moF_X0_meanFrom {n : Nat} {g_X0_meanFrom : Sh → Hp → Nat → Int32 → Option (Int64 × Hp × Sh)} {g_X0_meanByYear : Sh → Hp → Nat → Int32 → Int32 → Option (Int64 × Hp × Sh)} {g_X0_meanByDrawing : Sh → Hp → Nat → Int32 → Int32 → Option (Int64 × Hp × Sh)} {z : Sh} {h : Hp} {v0 : Nat} {v1 : Int32} {r : Int64} {h' : Hp} {zE : Sh} (hf : F_X0_meanFrom n g_X0_meanFrom g_X0_meanByYear g_X0_meanByDrawing z h v0 v1 = some (r, h', zE)) : z.sz ≤ zE.sz ∧ z.sl ≤ zE.sl := by
  unfold F_X0_meanFrom at hf
  exact (gd3_some (if_some hf).2).1
def F_X0_meanByYear (n : Nat) (g_X0_meanFrom : Sh → Hp → Nat → Int32 → Option (Int64 × Hp × Sh)) (g_X0_meanByYear : Sh → Hp → Nat → Int32 → Int32 → Option (Int64 × Hp × Sh)) (g_X0_meanByDrawing : Sh → Hp → Nat → Int32 → Int32 → Option (Int64 × Hp × Sh)) (z : Sh) (h : Hp) (v0 : Nat) (v1 : Int32) (v2 : Int32) : Option (Int64 × Hp × Sh) :=
  if z.K v0 = 0 then
    gd3 z <|
    (f_X0_tenthsAt z h v0 v1).bind fun x1 =>
    (some (x1 - 1)).bind fun x2 =>
    (gR z h 0 v0 0).bind fun a3 =>
    (gR z h 10 a3 3).bind fun a4 =>
    (gI z h 8 a4 4).bind fun x5 =>
    (gR z h 0 v0 0).bind fun a6 =>
    (f_X10_worthOf n z h a6 v1 v2).bind fun (x7, h8, z9) =>
    gd3 z9 <|
    (f_X0_tens z9 h8 x2).bind fun x10 =>
    (gR z9 h8 0 v0 0).bind fun a11 =>
    (f_X10_afterYear z9 h8 a11 v1 v2).bind fun x12 =>
    (ckK z9 v0 0).bind fun _ =>
    (g_X0_meanFrom z9 h8 v0 x12).bind fun (x13, h14, z15) =>
    gd3 z15 <|
    (some (((Int32.toInt64 x7) * x10) + x13)).bind fun x16 =>
    (ckK z15 v0 0).bind fun _ =>
    (g_X0_meanByDrawing z15 h14 v0 v1 x2).bind fun (x17, h18, z19) =>
    gd3 z19 <|
    some ((((Int32.toInt64 (10 - x5)) * x16) + ((Int32.toInt64 x5) * x17)), h18, z19)
  else none
theorem moF_X0_meanByYear {n : Nat} {g_X0_meanFrom : Sh → Hp → Nat → Int32 → Option (Int64 × Hp × Sh)} {g_X0_meanByYear : Sh → Hp → Nat → Int32 → Int32 → Option (Int64 × Hp × Sh)} {g_X0_meanByDrawing : Sh → Hp → Nat → Int32 → Int32 → Option (Int64 × Hp × Sh)} {z : Sh} {h : Hp} {v0 : Nat} {v1 : Int32} {v2 : Int32} {r : Int64} {h' : Hp} {zE : Sh} (hf : F_X0_meanByYear n g_X0_meanFrom g_X0_meanByYear g_X0_meanByDrawing z h v0 v1 v2 = some (r, h', zE)) : z.sz ≤ zE.sz ∧ z.sl ≤ zE.sl := by
  unfold F_X0_meanByYear at hf
  exact (gd3_some (if_some hf).2).1
def F_X0_meanByDrawing (n : Nat) (g_X0_meanFrom : Sh → Hp → Nat → Int32 → Option (Int64 × Hp × Sh)) (g_X0_meanByYear : Sh → Hp → Nat → Int32 → Int32 → Option (Int64 × Hp × Sh)) (g_X0_meanByDrawing : Sh → Hp → Nat → Int32 → Int32 → Option (Int64 × Hp × Sh)) (z : Sh) (h : Hp) (v0 : Nat) (v1 : Int32) (v2 : Int32) : Option (Int64 × Hp × Sh) :=
  if z.K v0 = 0 then
    gd3 z <|
    (gR z h 0 v0 0).bind fun a1 =>
    (f_X10_afterDrawing z h a1 v1).bind fun x2 =>
    if x2 = (-1) then
      some ((0 : Int64), h, z)
    else
      (ckK z v0 0).bind fun _ =>
      (g_X0_meanFrom z h v0 x2).bind fun (x4, h5, z6) =>
      gd3 z6 <|
      (f_X0_tenthsAt z6 h5 v0 x2).bind fun x7 =>
      (f_X0_tens z6 h5 (v2 - x7)).bind fun x8 =>
      some ((x4 * x8), h5, z6)
  else none
theorem moF_X0_meanByDrawing {n : Nat} {g_X0_meanFrom : Sh → Hp → Nat → Int32 → Option (Int64 × Hp × Sh)} {g_X0_meanByYear : Sh → Hp → Nat → Int32 → Int32 → Option (Int64 × Hp × Sh)} {g_X0_meanByDrawing : Sh → Hp → Nat → Int32 → Int32 → Option (Int64 × Hp × Sh)} {z : Sh} {h : Hp} {v0 : Nat} {v1 : Int32} {v2 : Int32} {r : Int64} {h' : Hp} {zE : Sh} (hf : F_X0_meanByDrawing n g_X0_meanFrom g_X0_meanByYear g_X0_meanByDrawing z h v0 v1 v2 = some (r, h', zE)) : z.sz ≤ zE.sz ∧ z.sl ≤ zE.sl := by
  unfold F_X0_meanByDrawing at hf
  exact (gd3_some (if_some hf).2).1
def rc_X0_meanFrom (n : Nat) : Nat → (Sh → Hp → Nat → Int32 → Option (Int64 × Hp × Sh)) × (Sh → Hp → Nat → Int32 → Int32 → Option (Int64 × Hp × Sh)) × (Sh → Hp → Nat → Int32 → Int32 → Option (Int64 × Hp × Sh))
  | 0 => (fun _ _ _ _ => none, fun _ _ _ _ _ => none, fun _ _ _ _ _ => none)
  | i + 1 => (F_X0_meanFrom n (rc_X0_meanFrom n i).1 (rc_X0_meanFrom n i).2.1 (rc_X0_meanFrom n i).2.2, F_X0_meanByYear n (rc_X0_meanFrom n i).1 (rc_X0_meanFrom n i).2.1 (rc_X0_meanFrom n i).2.2, F_X0_meanByDrawing n (rc_X0_meanFrom n i).1 (rc_X0_meanFrom n i).2.1 (rc_X0_meanFrom n i).2.2)
def f_X0_meanFrom (n : Nat) (z : Sh) (h : Hp) (v0 : Nat) (v1 : Int32) : Option (Int64 × Hp × Sh) := (rc_X0_meanFrom n 60).1 z h v0 v1
theorem k_X0_meanFrom {n : Nat} {z : Sh} {h : Hp} {v0 : Nat} {v1 : Int32} {w : Int64 × Hp × Sh} (hf : f_X0_meanFrom n z h v0 v1 = some w) : z.K v0 = 0 := by
  have hf : F_X0_meanFrom n (rc_X0_meanFrom n 59).1 (rc_X0_meanFrom n 59).2.1 (rc_X0_meanFrom n 59).2.2 z h v0 v1 = some w := hf
  unfold F_X0_meanFrom at hf
  exact (if_some hf).1
theorem mo_X0_meanFrom {n : Nat} {z : Sh} {h : Hp} {v0 : Nat} {v1 : Int32} {r : Int64} {h' : Hp} {zE : Sh} (hf : f_X0_meanFrom n z h v0 v1 = some (r, h', zE)) : z.sz ≤ zE.sz ∧ z.sl ≤ zE.sl   := moF_X0_meanFrom (n := n) (g_X0_meanFrom := (rc_X0_meanFrom n 59).1) (g_X0_meanByYear := (rc_X0_meanFrom n 59).2.1) (g_X0_meanByDrawing := (rc_X0_meanFrom n 59).2.2) hf
def f_X0_meanByYear (n : Nat) (z : Sh) (h : Hp) (v0 : Nat) (v1 : Int32) (v2 : Int32) : Option (Int64 × Hp × Sh) := (rc_X0_meanFrom n 60).2.1 z h v0 v1 v2
theorem k_X0_meanByYear {n : Nat} {z : Sh} {h : Hp} {v0 : Nat} {v1 : Int32} {v2 : Int32} {w : Int64 × Hp × Sh} (hf : f_X0_meanByYear n z h v0 v1 v2 = some w) : z.K v0 = 0 := by
  have hf : F_X0_meanByYear n (rc_X0_meanFrom n 59).1 (rc_X0_meanFrom n 59).2.1 (rc_X0_meanFrom n 59).2.2 z h v0 v1 v2 = some w := hf
  unfold F_X0_meanByYear at hf
  exact (if_some hf).1
theorem mo_X0_meanByYear {n : Nat} {z : Sh} {h : Hp} {v0 : Nat} {v1 : Int32} {v2 : Int32} {r : Int64} {h' : Hp} {zE : Sh} (hf : f_X0_meanByYear n z h v0 v1 v2 = some (r, h', zE)) : z.sz ≤ zE.sz ∧ z.sl ≤ zE.sl   := moF_X0_meanByYear (n := n) (g_X0_meanFrom := (rc_X0_meanFrom n 59).1) (g_X0_meanByYear := (rc_X0_meanFrom n 59).2.1) (g_X0_meanByDrawing := (rc_X0_meanFrom n 59).2.2) hf
def f_X0_meanByDrawing (n : Nat) (z : Sh) (h : Hp) (v0 : Nat) (v1 : Int32) (v2 : Int32) : Option (Int64 × Hp × Sh) := (rc_X0_meanFrom n 60).2.2 z h v0 v1 v2
theorem k_X0_meanByDrawing {n : Nat} {z : Sh} {h : Hp} {v0 : Nat} {v1 : Int32} {v2 : Int32} {w : Int64 × Hp × Sh} (hf : f_X0_meanByDrawing n z h v0 v1 v2 = some w) : z.K v0 = 0 := by
  have hf : F_X0_meanByDrawing n (rc_X0_meanFrom n 59).1 (rc_X0_meanFrom n 59).2.1 (rc_X0_meanFrom n 59).2.2 z h v0 v1 v2 = some w := hf
  unfold F_X0_meanByDrawing at hf
  exact (if_some hf).1
theorem mo_X0_meanByDrawing {n : Nat} {z : Sh} {h : Hp} {v0 : Nat} {v1 : Int32} {v2 : Int32} {r : Int64} {h' : Hp} {zE : Sh} (hf : f_X0_meanByDrawing n z h v0 v1 v2 = some (r, h', zE)) : z.sz ≤ zE.sz ∧ z.sl ≤ zE.sl   := moF_X0_meanByDrawing (n := n) (g_X0_meanFrom := (rc_X0_meanFrom n 59).1) (g_X0_meanByYear := (rc_X0_meanFrom n 59).2.1) (g_X0_meanByDrawing := (rc_X0_meanFrom n 59).2.2) hf
set_option maxHeartbeats 4000000 in
theorem w_X0_meanFrom_51 {p : Program} {l : Launch} {e : Env} {s : State} {m : MethodId} {args : Array Value} {below : List Frame} {meth : Method} {c : Code} {s0 : State} {E : Ev} {z0 : Sh} {d : Nat} {g_X0_meanFrom : Sh → Hp → Nat → Int32 → Option (Int64 × Hp × Sh)} {g_X0_meanByYear : Sh → Hp → Nat → Int32 → Int32 → Option (Int64 × Hp × Sh)} {g_X0_meanByDrawing : Sh → Hp → Nat → Int32 → Int32 → Option (Int64 × Hp × Sh)} {n : Nat} {r : Int64} {h' : Hp} {zE : Sh} (G : Gl s0 E) (B : Bd p s0 s E m c cX0_meanFrom 8 RX0) (hr : meth.sig.returnType = (some .long)) (hlk : meth.locks = false) (H_X0_meanFrom : ∀ {z : Sh} {h : Hp} {v0 : Nat} {v1 : Int32} {r : Int64} {h' : Hp} {zE : Sh}, g_X0_meanFrom z h v0 v1 = some (r, h', zE) → Ca l s0 E yX0_meanFrom cX0_meanFrom 8 (some .long) (5 + d) (97 + 60 * d) [.ref v0, .int v1] z zE h h' (some (.long r))) (H_X0_meanByYear : ∀ {z : Sh} {h : Hp} {v0 : Nat} {v1 : Int32} {v2 : Int32} {r : Int64} {h' : Hp} {zE : Sh}, g_X0_meanByYear z h v0 v1 v2 = some (r, h', zE) → Ca l s0 E yX0_meanByYear cX0_meanByYear 7 (some .long) (5 + d) (97 + 60 * d) [.ref v0, .int v1, .int v2] z zE h h' (some (.long r))) (H_X0_meanByDrawing : ∀ {z : Sh} {h : Hp} {v0 : Nat} {v1 : Int32} {v2 : Int32} {r : Int64} {h' : Hp} {zE : Sh}, g_X0_meanByDrawing z h v0 v1 v2 = some (r, h', zE) → Ca l s0 E yX0_meanByDrawing cX0_meanByDrawing 4 (some .long) (5 + d) (97 + 60 * d) [.ref v0, .int v1, .int v2] z zE h h' (some (.long r))) (Hm_X0_meanFrom : ∀ {z : Sh} {h : Hp} {v0 : Nat} {v1 : Int32} {r : Int64} {h' : Hp} {zE : Sh}, g_X0_meanFrom z h v0 v1 = some (r, h', zE) → z.sz ≤ zE.sz ∧ z.sl ≤ zE.sl) (Hm_X0_meanByYear : ∀ {z : Sh} {h : Hp} {v0 : Nat} {v1 : Int32} {v2 : Int32} {r : Int64} {h' : Hp} {zE : Sh}, g_X0_meanByYear z h v0 v1 v2 = some (r, h', zE) → z.sz ≤ zE.sz ∧ z.sl ≤ zE.sl) (Hm_X0_meanByDrawing : ∀ {z : Sh} {h : Hp} {v0 : Nat} {v1 : Int32} {v2 : Int32} {r : Int64} {h' : Hp} {zE : Sh}, g_X0_meanByDrawing z h v0 v1 v2 = some (r, h', zE) → z.sz ≤ zE.sz ∧ z.sl ≤ zE.sl) : ∀ (i : Nat), ∀ (z : Sh) (h : Hp) (v0 : Nat) (v1 : Int32) (v4 : Int64) (v6 : Int32) (v7 : Int32) (H : Heap) (locs : List Loc) (ls : Array Slot), Pw s0 s E z h H locs → Mo s0 s z0 z zE → lv_has ls 8 [(0, .ref v0), (1, .int v1), (4, .long v4), (6, .int v6), (7, .int v7)] → f_X0_meanFrom_51 n g_X0_meanFrom g_X0_meanByYear g_X0_meanByDrawing i z h v0 v1 v4 v6 v7 = some (r, h', zE) → W p l e (rmA (5 + (d + 1)) (97 + 60 * (d + 1)) z0 zE) s m args below meth c H locs (z.sz - z0.sz) (z.sl - z0.sl) (Zt below s0 E zE h' (some (.long r)) args s (zE.sz - z0.sz) (zE.sl - z0.sl)) (F0 m 51 ls []) := by
  have hx := B.1
  have hb := B.2.1
  intro i
  induction i with
  | zero =>
    intro z h v0 v1 v4 v6 v7 H locs ls hw hM hl hf
    have hf := (f_X0_meanFrom_51.eq_1 ..).symm.trans hf
    cases hf
  | succ i ih =>
    intro z h v0 v1 v4 v6 v7 H locs ls hw hM hl hf
    have hf := (f_X0_meanFrom_51.eq_2 ..).symm.trans hf
    refine lv_iload hx hb dX0_meanFrom_51 (lv_at hl 4 rfl) ?_
    refine lv_iload hx hb dX0_meanFrom_53 (lv_at hl 3 rfl) ?_
    refine lv_icmp_ge (tgt := 78) hx hb dX0_meanFrom_55 (by decide) (fun c1 => ?_) (fun c1 => ?_)
    · have hf := (if_pos c1).symm.trans hf
      refine lv_aload_n hx hb dX0_meanFrom_78 rfl (lv_at hl 0 rfl) ?_
      obtain ⟨a2, e, hf⟩ := ob hf
      refine q_getR e B hw fd_0_2.1 fd_0_2.2.1 fd_0_2.2.2.1 fd_0_2.2.2.2.1 fd_0_2.2.2.2.2 rfl tw_2_66 dX0_meanFrom_79 ?_
      refine lv_iload_n hx hb dX0_meanFrom_82 rfl (lv_at hl 1 rfl) ?_
      refine lv_aload_n hx hb dX0_meanFrom_83 rfl (lv_at hl 0 rfl) ?_
      obtain ⟨a3, e, hf⟩ := ob hf
      refine q_getR e B hw fd_0_0.1 fd_0_0.2.1 fd_0_0.2.2.1 fd_0_0.2.2.2.1 fd_0_0.2.2.2.2 rfl tw_2_64 dX0_meanFrom_84 ?_
      obtain ⟨x4, e, hf⟩ := ob hf
      refine q_getIN e B hw fd_10_7.1 fd_10_7.2.1 fd_10_7.2.2.1 fd_10_7.2.2.2.1 fd_10_7.2.2.2.2 rfl tw_1_239 dX0_meanFrom_87 ?_
      refine lv_lload hx hb dX0_meanFrom_90 (lv_at hl 2 rfl) ?_
      obtain ⟨h5, e, hf⟩ := ob hf
      refine q_callVN (As := [.int v1, .int x4, .long v4]) (rest := []) (st1 := []) (c_X3_keep G e) B hw hM.hz hM.hc0 (k_X3_keep e) (by decide) (ci := 3) rfl rfl my_X3_keep mv_X3_keep tw_5_79 ⟨by simp only [rmO, rmA]; omega, by simp only [rmO, rmA]; omega⟩ hM.hcs rfl hl.1 rfl rfl (Nat.le_of_ble_eq_true rfl) dX0_meanFrom_92 (fun H locs hw => ?_)
      refine lv_lload hx hb dX0_meanFrom_95 (lv_at hl 2 rfl) ?_
      obtain ⟨rfl, rfl, rfl⟩ := so3 hf
      exact q_lret B hw hM.hz hM.hc0 hr hlk dX0_meanFrom_97
    · have hf := (if_neg c1).symm.trans hf
      refine lv_lload hx hb dX0_meanFrom_58 (lv_at hl 2 rfl) ?_
      refine lv_aload_n hx hb dX0_meanFrom_60 rfl (lv_at hl 0 rfl) ?_
      refine lv_iload_n hx hb dX0_meanFrom_61 rfl (lv_at hl 1 rfl) ?_
      refine lv_iload hx hb dX0_meanFrom_62 (lv_at hl 4 rfl) ?_
      obtain ⟨_, eK, hf⟩ := ob hf
      obtain ⟨⟨x6, h7, z8⟩, e, hf⟩ := ob hf
      obtain ⟨hg, hf⟩ := gd3_some hf
      refine q_callVA (As := [.int v1, .int v7]) (rest := [.long v4]) (st1 := [.long x6, .long v4]) (H_X0_meanByYear e) (Hm_X0_meanByYear e) hg B hw hM ((if_some eK).1) (by decide) (ci := 0) rfl rfl my_X0_meanByYear mv_X0_meanByYear tw_5_70 ⟨by omega, by omega⟩ rfl hl.1 rfl rfl (Nat.le_of_ble_eq_true rfl) dX0_meanFrom_64 (fun H locs hw hM => ?_)
      obtain ⟨x9, e, hf⟩ := ob hf
      refine q_callS (As := [.long v4, .long x6]) (rest := []) (st1 := [.long x9]) (c_J9_max_f86c9 G e) B hw hM.hz hM.hc0 my_J9_max_f86c9 mv_J9_max_f86c9 tw_5_76 ⟨by simp only [rmO, rmA]; omega, by simp only [rmO, rmA]; omega⟩ hM.hcs rfl hl.1 rfl rfl (Nat.le_of_ble_eq_true rfl) dX0_meanFrom_67 (fun H locs hw => ?_)
      refine lv_lstore (lv' := [(4, .long x9), (0, .ref v0), (1, .int v1), (6, .int v6), (7, .int v7)]) hx hb dX0_meanFrom_70 hl (by decide) rfl (fun ls hl => ?_)
      obtain ⟨x10, e, hf⟩ := ob hf
      refine lv_iinc (v := x10) (lv' := [(7, .int x10), (4, .long x9), (0, .ref v0), (1, .int v1), (6, .int v6)]) hx hb dX0_meanFrom_72 hl (k := 4) rfl (Option.some.inj e) (by decide) rfl (fun ls hl => ?_)
      refine lv_goto (tgt := 51) hx hb dX0_meanFrom_75 (by decide) ?_
      exact ih z8 h7 v0 v1 x9 v6 x10 _ _ _ hw hM (lv_sub hl [2, 3, 1, 4, 0] rfl) hf
set_option maxHeartbeats 4000000 in
theorem co_X0_meanFrom {l : Launch} {s0 : State} {E : Ev} (G : Gl s0 E) {n : Nat} {d : Nat} {g_X0_meanFrom : Sh → Hp → Nat → Int32 → Option (Int64 × Hp × Sh)} {g_X0_meanByYear : Sh → Hp → Nat → Int32 → Int32 → Option (Int64 × Hp × Sh)} {g_X0_meanByDrawing : Sh → Hp → Nat → Int32 → Int32 → Option (Int64 × Hp × Sh)} (H_X0_meanFrom : ∀ {z : Sh} {h : Hp} {v0 : Nat} {v1 : Int32} {r : Int64} {h' : Hp} {zE : Sh}, g_X0_meanFrom z h v0 v1 = some (r, h', zE) → Ca l s0 E yX0_meanFrom cX0_meanFrom 8 (some .long) (5 + d) (97 + 60 * d) [.ref v0, .int v1] z zE h h' (some (.long r))) (H_X0_meanByYear : ∀ {z : Sh} {h : Hp} {v0 : Nat} {v1 : Int32} {v2 : Int32} {r : Int64} {h' : Hp} {zE : Sh}, g_X0_meanByYear z h v0 v1 v2 = some (r, h', zE) → Ca l s0 E yX0_meanByYear cX0_meanByYear 7 (some .long) (5 + d) (97 + 60 * d) [.ref v0, .int v1, .int v2] z zE h h' (some (.long r))) (H_X0_meanByDrawing : ∀ {z : Sh} {h : Hp} {v0 : Nat} {v1 : Int32} {v2 : Int32} {r : Int64} {h' : Hp} {zE : Sh}, g_X0_meanByDrawing z h v0 v1 v2 = some (r, h', zE) → Ca l s0 E yX0_meanByDrawing cX0_meanByDrawing 4 (some .long) (5 + d) (97 + 60 * d) [.ref v0, .int v1, .int v2] z zE h h' (some (.long r))) (Hm_X0_meanFrom : ∀ {z : Sh} {h : Hp} {v0 : Nat} {v1 : Int32} {r : Int64} {h' : Hp} {zE : Sh}, g_X0_meanFrom z h v0 v1 = some (r, h', zE) → z.sz ≤ zE.sz ∧ z.sl ≤ zE.sl) (Hm_X0_meanByYear : ∀ {z : Sh} {h : Hp} {v0 : Nat} {v1 : Int32} {v2 : Int32} {r : Int64} {h' : Hp} {zE : Sh}, g_X0_meanByYear z h v0 v1 v2 = some (r, h', zE) → z.sz ≤ zE.sz ∧ z.sl ≤ zE.sl) (Hm_X0_meanByDrawing : ∀ {z : Sh} {h : Hp} {v0 : Nat} {v1 : Int32} {v2 : Int32} {r : Int64} {h' : Hp} {zE : Sh}, g_X0_meanByDrawing z h v0 v1 v2 = some (r, h', zE) → z.sz ≤ zE.sz ∧ z.sl ≤ zE.sl) {z : Sh} {h : Hp} {v0 : Nat} {v1 : Int32} {r : Int64} {h' : Hp} {zE : Sh} (hf : F_X0_meanFrom n g_X0_meanFrom g_X0_meanByYear g_X0_meanByDrawing z h v0 v1 = some (r, h', zE)) : Ca l s0 E yX0_meanFrom cX0_meanFrom 8 (some .long) (5 + (d + 1)) (97 + 60 * (d + 1)) [.ref v0, .int v1] z zE h h' (some (.long r)) := by
  refine Ca.of G (by decide +kernel) (Nat.le_of_ble_eq_true rfl) (moF_X0_meanFrom hf) ?_
  intro p e s m below meth c ls B hw hM hr hlk hnm0 hl
  have B : Bd p s0 s E m c cX0_meanFrom 8 RX0 := B
  have hx := B.1
  have hb := B.2.1
  have hl : lv_has ls 8 [(0, .ref v0), (1, .int v1)] := hl
  unfold F_X0_meanFrom at hf
  obtain ⟨_, hf⟩ := if_some hf
  obtain ⟨_, hf⟩ := gd3_some hf
  refine lv_aload_n hx hb dX0_meanFrom_0 rfl (lv_at hl 0 rfl) ?_
  obtain ⟨a1, e, hf⟩ := ob hf
  refine q_getR e B hw fd_0_2.1 fd_0_2.2.1 fd_0_2.2.2.1 fd_0_2.2.2.2.1 fd_0_2.2.2.2.2 rfl tw_2_66 dX0_meanFrom_1 ?_
  refine lv_iload_n hx hb dX0_meanFrom_4 rfl (lv_at hl 1 rfl) ?_
  refine lv_aload_n hx hb dX0_meanFrom_5 rfl (lv_at hl 0 rfl) ?_
  obtain ⟨a2, e, hf⟩ := ob hf
  refine q_getR e B hw fd_0_0.1 fd_0_0.2.1 fd_0_0.2.2.1 fd_0_0.2.2.2.1 fd_0_0.2.2.2.2 rfl tw_2_64 dX0_meanFrom_6 ?_
  obtain ⟨x3, e, hf⟩ := ob hf
  refine q_getIN e B hw fd_10_7.1 fd_10_7.2.1 fd_10_7.2.2.1 fd_10_7.2.2.2.1 fd_10_7.2.2.2.2 rfl tw_1_239 dX0_meanFrom_9 ?_
  obtain ⟨x4, e, hf⟩ := ob hf
  refine q_callVN (As := [.int v1, .int x3]) (rest := []) (st1 := [.long x4]) (c_X3_find G e) B hw hM.hz hM.hc0 (k_X3_find e) (by decide) (ci := 3) rfl rfl my_X3_find mv_X3_find tw_5_50 ⟨by simp only [rmO, rmA]; omega, by simp only [rmO, rmA]; omega⟩ hM.hcs rfl hl.1 rfl rfl (Nat.le_of_ble_eq_true rfl) dX0_meanFrom_12 (fun H locs hw => ?_)
  refine lv_lstore_n (lv' := [(2, .long x4), (0, .ref v0), (1, .int v1)]) hx hb dX0_meanFrom_15 rfl hl (by decide) rfl (fun ls hl => ?_)
  refine lv_lload_n hx hb dX0_meanFrom_16 rfl (lv_at hl 0 rfl) ?_
  refine lv_ldc2 hx hb B.2.2.2.1 (B.w tw_5_51 rfl) dX0_meanFrom_17 ?_
  refine W.lcmp hx hb dX0_meanFrom_20 ?_
  refine lv_if_eq (tgt := 26) hx hb dX0_meanFrom_21 (by decide) (fun c5 => ?_) (fun c5 => ?_)
  · have hf := (if_pos c5).symm.trans hf
    refine lv_aload_n hx hb dX0_meanFrom_26 rfl (lv_at hl 1 rfl) ?_
    refine lv_iload_n hx hb dX0_meanFrom_27 rfl (lv_at hl 2 rfl) ?_
    refine lv_aload_n hx hb dX0_meanFrom_28 rfl (lv_at hl 1 rfl) ?_
    refine lv_iload_n hx hb dX0_meanFrom_29 rfl (lv_at hl 2 rfl) ?_
    obtain ⟨x6, e, hf⟩ := ob hf
    refine q_callV (As := [.int v1]) (rest := [.int v1, .ref v0]) (st1 := [.int x6, .int v1, .ref v0]) (c_X0_tenthsAt G e) B hw hM.hz hM.hc0 (k_X0_tenthsAt e) (by decide) (ci := 0) rfl rfl my_X0_tenthsAt mv_X0_tenthsAt tw_5_52 ⟨by simp only [rmO, rmA]; omega, by simp only [rmO, rmA]; omega⟩ hM.hcs rfl hl.1 rfl rfl (Nat.le_of_ble_eq_true rfl) dX0_meanFrom_30 (fun H locs hw => ?_)
    obtain ⟨_, eK, hf⟩ := ob hf
    obtain ⟨⟨x7, h8, z9⟩, e, hf⟩ := ob hf
    obtain ⟨hg, hf⟩ := gd3_some hf
    refine q_callVA (As := [.int v1, .int x6]) (rest := []) (st1 := [.long x7]) (H_X0_meanByDrawing e) (Hm_X0_meanByDrawing e) hg B hw hM ((if_some eK).1) (by decide) (ci := 0) rfl rfl my_X0_meanByDrawing mv_X0_meanByDrawing tw_5_58 ⟨by omega, by omega⟩ rfl hl.1 rfl rfl (Nat.le_of_ble_eq_true rfl) dX0_meanFrom_33 (fun H locs hw hM => ?_)
    refine lv_lstore (lv' := [(4, .long x7), (2, .long x4), (0, .ref v0), (1, .int v1)]) hx hb dX0_meanFrom_36 hl (by decide) rfl (fun ls hl => ?_)
    refine lv_aload_n hx hb dX0_meanFrom_38 rfl (lv_at hl 2 rfl) ?_
    obtain ⟨a10, e, hf⟩ := ob hf
    refine q_getR e B hw fd_0_0.1 fd_0_0.2.1 fd_0_0.2.2.1 fd_0_0.2.2.2.1 fd_0_0.2.2.2.2 rfl tw_2_64 dX0_meanFrom_39 ?_
    refine lv_iload_n hx hb dX0_meanFrom_42 rfl (lv_at hl 3 rfl) ?_
    obtain ⟨x11, e, hf⟩ := ob hf
    refine q_callVN (As := [.int v1]) (rest := []) (st1 := [.int x11]) (c_X10_openTrades G e) B hw hM.hz hM.hc0 (k_X10_openTrades e) (by decide) (ci := 10) rfl rfl my_X10_openTrades mv_X10_openTrades tw_5_69 ⟨by simp only [rmO, rmA]; omega, by simp only [rmO, rmA]; omega⟩ hM.hcs rfl hl.1 rfl rfl (Nat.le_of_ble_eq_true rfl) dX0_meanFrom_43 (fun H locs hw => ?_)
    refine lv_istore (lv' := [(6, .int x11), (4, .long x7), (2, .long x4), (0, .ref v0), (1, .int v1)]) hx hb dX0_meanFrom_46 hl (by decide) rfl (fun ls hl => ?_)
    refine lv_iconst (v := 0) hx hb dX0_meanFrom_48 (by decide) ?_
    refine lv_istore (lv' := [(7, .int 0), (6, .int x11), (4, .long x7), (2, .long x4), (0, .ref v0), (1, .int v1)]) hx hb dX0_meanFrom_49 hl (by decide) rfl (fun ls hl => ?_)
    exact w_X0_meanFrom_51 G B hr hlk H_X0_meanFrom H_X0_meanByYear H_X0_meanByDrawing Hm_X0_meanFrom Hm_X0_meanByYear Hm_X0_meanByDrawing  n z9 h8 v0 v1 x7 x11 0 _ _ _ hw hM (lv_sub hl [4, 5, 2, 1, 0] rfl) hf
  · have hf := (if_neg c5).symm.trans hf
    refine lv_lload_n hx hb dX0_meanFrom_24 rfl (lv_at hl 0 rfl) ?_
    obtain ⟨rfl, rfl, rfl⟩ := so3 hf
    exact q_lret B hw hM.hz hM.hc0 hr hlk dX0_meanFrom_25
set_option maxHeartbeats 4000000 in
theorem co_X0_meanByYear {l : Launch} {s0 : State} {E : Ev} (G : Gl s0 E) {n : Nat} {d : Nat} {g_X0_meanFrom : Sh → Hp → Nat → Int32 → Option (Int64 × Hp × Sh)} {g_X0_meanByYear : Sh → Hp → Nat → Int32 → Int32 → Option (Int64 × Hp × Sh)} {g_X0_meanByDrawing : Sh → Hp → Nat → Int32 → Int32 → Option (Int64 × Hp × Sh)} (H_X0_meanFrom : ∀ {z : Sh} {h : Hp} {v0 : Nat} {v1 : Int32} {r : Int64} {h' : Hp} {zE : Sh}, g_X0_meanFrom z h v0 v1 = some (r, h', zE) → Ca l s0 E yX0_meanFrom cX0_meanFrom 8 (some .long) (5 + d) (97 + 60 * d) [.ref v0, .int v1] z zE h h' (some (.long r))) (H_X0_meanByYear : ∀ {z : Sh} {h : Hp} {v0 : Nat} {v1 : Int32} {v2 : Int32} {r : Int64} {h' : Hp} {zE : Sh}, g_X0_meanByYear z h v0 v1 v2 = some (r, h', zE) → Ca l s0 E yX0_meanByYear cX0_meanByYear 7 (some .long) (5 + d) (97 + 60 * d) [.ref v0, .int v1, .int v2] z zE h h' (some (.long r))) (H_X0_meanByDrawing : ∀ {z : Sh} {h : Hp} {v0 : Nat} {v1 : Int32} {v2 : Int32} {r : Int64} {h' : Hp} {zE : Sh}, g_X0_meanByDrawing z h v0 v1 v2 = some (r, h', zE) → Ca l s0 E yX0_meanByDrawing cX0_meanByDrawing 4 (some .long) (5 + d) (97 + 60 * d) [.ref v0, .int v1, .int v2] z zE h h' (some (.long r))) (Hm_X0_meanFrom : ∀ {z : Sh} {h : Hp} {v0 : Nat} {v1 : Int32} {r : Int64} {h' : Hp} {zE : Sh}, g_X0_meanFrom z h v0 v1 = some (r, h', zE) → z.sz ≤ zE.sz ∧ z.sl ≤ zE.sl) (Hm_X0_meanByYear : ∀ {z : Sh} {h : Hp} {v0 : Nat} {v1 : Int32} {v2 : Int32} {r : Int64} {h' : Hp} {zE : Sh}, g_X0_meanByYear z h v0 v1 v2 = some (r, h', zE) → z.sz ≤ zE.sz ∧ z.sl ≤ zE.sl) (Hm_X0_meanByDrawing : ∀ {z : Sh} {h : Hp} {v0 : Nat} {v1 : Int32} {v2 : Int32} {r : Int64} {h' : Hp} {zE : Sh}, g_X0_meanByDrawing z h v0 v1 v2 = some (r, h', zE) → z.sz ≤ zE.sz ∧ z.sl ≤ zE.sl) {z : Sh} {h : Hp} {v0 : Nat} {v1 : Int32} {v2 : Int32} {r : Int64} {h' : Hp} {zE : Sh} (hf : F_X0_meanByYear n g_X0_meanFrom g_X0_meanByYear g_X0_meanByDrawing z h v0 v1 v2 = some (r, h', zE)) : Ca l s0 E yX0_meanByYear cX0_meanByYear 7 (some .long) (5 + (d + 1)) (97 + 60 * (d + 1)) [.ref v0, .int v1, .int v2] z zE h h' (some (.long r)) := by
  refine Ca.of G (by decide +kernel) (Nat.le_of_ble_eq_true rfl) (moF_X0_meanByYear hf) ?_
  intro p e s m below meth c ls B hw hM hr hlk hnm0 hl
  have B : Bd p s0 s E m c cX0_meanByYear 7 RX0 := B
  have hx := B.1
  have hb := B.2.1
  have hl : lv_has ls 7 [(0, .ref v0), (1, .int v1), (2, .int v2)] := hl
  unfold F_X0_meanByYear at hf
  obtain ⟨_, hf⟩ := if_some hf
  obtain ⟨_, hf⟩ := gd3_some hf
  refine lv_aload_n hx hb dX0_meanByYear_0 rfl (lv_at hl 0 rfl) ?_
  refine lv_iload_n hx hb dX0_meanByYear_1 rfl (lv_at hl 1 rfl) ?_
  obtain ⟨x1, e, hf⟩ := ob hf
  refine q_callV (As := [.int v1]) (rest := []) (st1 := [.int x1]) (c_X0_tenthsAt G e) B hw hM.hz hM.hc0 (k_X0_tenthsAt e) (by decide) (ci := 0) rfl rfl my_X0_tenthsAt mv_X0_tenthsAt tw_5_52 ⟨by simp only [rmO, rmA]; omega, by simp only [rmO, rmA]; omega⟩ hM.hcs rfl hl.1 rfl rfl (Nat.le_of_ble_eq_true rfl) dX0_meanByYear_2 (fun H locs hw => ?_)
  refine lv_iconst (v := 1) hx hb dX0_meanByYear_5 (by decide) ?_
  refine lv_isub hx hb dX0_meanByYear_6 ?_
  obtain ⟨x2, e, hf⟩ := ob hf
  refine q_nmI e ?_
  refine lv_istore_n (lv' := [(3, .int x2), (0, .ref v0), (1, .int v1), (2, .int v2)]) hx hb dX0_meanByYear_7 rfl hl (by decide) rfl (fun ls hl => ?_)
  refine lv_aload_n hx hb dX0_meanByYear_8 rfl (lv_at hl 1 rfl) ?_
  obtain ⟨a3, e, hf⟩ := ob hf
  refine q_getR e B hw fd_0_0.1 fd_0_0.2.1 fd_0_0.2.2.1 fd_0_0.2.2.2.1 fd_0_0.2.2.2.2 rfl tw_2_64 dX0_meanByYear_9 ?_
  obtain ⟨a4, e, hf⟩ := ob hf
  refine q_getRN e B hw fd_10_3.1 fd_10_3.2.1 fd_10_3.2.2.1 fd_10_3.2.2.2.1 fd_10_3.2.2.2.2 rfl tw_1_231 dX0_meanByYear_12 ?_
  obtain ⟨x5, e, hf⟩ := ob hf
  refine q_getIN e B hw fd_8_4.1 fd_8_4.2.1 fd_8_4.2.2.1 fd_8_4.2.2.2.1 fd_8_4.2.2.2.2 rfl tw_1_68 dX0_meanByYear_15 ?_
  refine lv_istore (lv' := [(4, .int x5), (3, .int x2), (0, .ref v0), (1, .int v1), (2, .int v2)]) hx hb dX0_meanByYear_18 hl (by decide) rfl (fun ls hl => ?_)
  refine lv_aload_n hx hb dX0_meanByYear_20 rfl (lv_at hl 2 rfl) ?_
  obtain ⟨a6, e, hf⟩ := ob hf
  refine q_getR e B hw fd_0_0.1 fd_0_0.2.1 fd_0_0.2.2.1 fd_0_0.2.2.2.1 fd_0_0.2.2.2.2 rfl tw_2_64 dX0_meanByYear_21 ?_
  refine lv_iload_n hx hb dX0_meanByYear_24 rfl (lv_at hl 3 rfl) ?_
  refine lv_iload_n hx hb dX0_meanByYear_25 rfl (lv_at hl 4 rfl) ?_
  obtain ⟨⟨x7, h8, z9⟩, e, hf⟩ := ob hf
  obtain ⟨hg, hf⟩ := gd3_some hf
  refine q_callVNA (As := [.int v1, .int v2]) (rest := []) (st1 := [.int x7]) (c_X10_worthOf G e) (mo_X10_worthOf e) hg B hw hM (k_X10_worthOf e) (by decide) (ci := 10) rfl rfl my_X10_worthOf mv_X10_worthOf tw_5_74 ⟨by omega, by omega⟩ rfl hl.1 rfl rfl (Nat.le_of_ble_eq_true rfl) dX0_meanByYear_26 (fun H locs hw hM => ?_)
  refine lv_i2l (v := (Int32.toInt64 x7)) hx hb dX0_meanByYear_29 rfl ?_
  refine lv_iload_n hx hb dX0_meanByYear_30 rfl (lv_at hl 1 rfl) ?_
  obtain ⟨x10, e, hf⟩ := ob hf
  refine q_callS (As := [.int x2]) (rest := [.long (Int32.toInt64 x7)]) (st1 := [.long x10, .long (Int32.toInt64 x7)]) (c_X0_tens G e) B hw hM.hz hM.hc0 my_X0_tens mv_X0_tens tw_5_64 ⟨by simp only [rmO, rmA]; omega, by simp only [rmO, rmA]; omega⟩ hM.hcs rfl hl.1 rfl rfl (Nat.le_of_ble_eq_true rfl) dX0_meanByYear_31 (fun H locs hw => ?_)
  refine lv_lmul hx hb dX0_meanByYear_34 ?_
  refine lv_aload_n hx hb dX0_meanByYear_35 rfl (lv_at hl 2 rfl) ?_
  refine lv_aload_n hx hb dX0_meanByYear_36 rfl (lv_at hl 2 rfl) ?_
  obtain ⟨a11, e, hf⟩ := ob hf
  refine q_getR e B hw fd_0_0.1 fd_0_0.2.1 fd_0_0.2.2.1 fd_0_0.2.2.2.1 fd_0_0.2.2.2.2 rfl tw_2_64 dX0_meanByYear_37 ?_
  refine lv_iload_n hx hb dX0_meanByYear_40 rfl (lv_at hl 3 rfl) ?_
  refine lv_iload_n hx hb dX0_meanByYear_41 rfl (lv_at hl 4 rfl) ?_
  obtain ⟨x12, e, hf⟩ := ob hf
  refine q_callVN (As := [.int v1, .int v2]) (rest := [.ref v0, .long ((Int32.toInt64 x7) * x10)]) (st1 := [.int x12, .ref v0, .long ((Int32.toInt64 x7) * x10)]) (c_X10_afterYear G e) B hw hM.hz hM.hc0 (k_X10_afterYear e) (by decide) (ci := 10) rfl rfl my_X10_afterYear mv_X10_afterYear tw_5_75 ⟨by simp only [rmO, rmA]; omega, by simp only [rmO, rmA]; omega⟩ hM.hcs rfl hl.1 rfl rfl (Nat.le_of_ble_eq_true rfl) dX0_meanByYear_42 (fun H locs hw => ?_)
  obtain ⟨_, eK, hf⟩ := ob hf
  obtain ⟨⟨x13, h14, z15⟩, e, hf⟩ := ob hf
  obtain ⟨hg, hf⟩ := gd3_some hf
  refine q_callVA (As := [.int x12]) (rest := [.long ((Int32.toInt64 x7) * x10)]) (st1 := [.long x13, .long ((Int32.toInt64 x7) * x10)]) (H_X0_meanFrom e) (Hm_X0_meanFrom e) hg B hw hM ((if_some eK).1) (by decide) (ci := 0) rfl rfl my_X0_meanFrom mv_X0_meanFrom tw_5_63 ⟨by omega, by omega⟩ rfl hl.1 rfl rfl (Nat.le_of_ble_eq_true rfl) dX0_meanByYear_45 (fun H locs hw hM => ?_)
  refine lv_ladd hx hb dX0_meanByYear_48 ?_
  obtain ⟨x16, e, hf⟩ := ob hf
  refine q_nmJ e ?_
  refine lv_lstore (lv' := [(5, .long x16), (4, .int x5), (3, .int x2), (0, .ref v0), (1, .int v1), (2, .int v2)]) hx hb dX0_meanByYear_49 hl (by decide) rfl (fun ls hl => ?_)
  refine lv_bipush (v := 10) hx hb dX0_meanByYear_51 (by decide) ?_
  refine lv_iload hx hb dX0_meanByYear_53 (lv_at hl 1 rfl) ?_
  refine lv_isub hx hb dX0_meanByYear_55 ?_
  refine lv_i2l (v := (Int32.toInt64 (10 - x5))) hx hb dX0_meanByYear_56 rfl ?_
  refine lv_lload hx hb dX0_meanByYear_57 (lv_at hl 0 rfl) ?_
  refine lv_lmul hx hb dX0_meanByYear_59 ?_
  refine lv_iload hx hb dX0_meanByYear_60 (lv_at hl 1 rfl) ?_
  refine lv_i2l (v := (Int32.toInt64 x5)) hx hb dX0_meanByYear_62 rfl ?_
  refine lv_aload_n hx hb dX0_meanByYear_63 rfl (lv_at hl 3 rfl) ?_
  refine lv_iload_n hx hb dX0_meanByYear_64 rfl (lv_at hl 4 rfl) ?_
  refine lv_iload_n hx hb dX0_meanByYear_65 rfl (lv_at hl 2 rfl) ?_
  obtain ⟨_, eK, hf⟩ := ob hf
  obtain ⟨⟨x17, h18, z19⟩, e, hf⟩ := ob hf
  obtain ⟨hg, hf⟩ := gd3_some hf
  refine q_callVA (As := [.int v1, .int x2]) (rest := [.long (Int32.toInt64 x5), .long ((Int32.toInt64 (10 - x5)) * x16)]) (st1 := [.long x17, .long (Int32.toInt64 x5), .long ((Int32.toInt64 (10 - x5)) * x16)]) (H_X0_meanByDrawing e) (Hm_X0_meanByDrawing e) hg B hw hM ((if_some eK).1) (by decide) (ci := 0) rfl rfl my_X0_meanByDrawing mv_X0_meanByDrawing tw_5_58 ⟨by omega, by omega⟩ rfl hl.1 rfl rfl (Nat.le_of_ble_eq_true rfl) dX0_meanByYear_66 (fun H locs hw hM => ?_)
  refine lv_lmul hx hb dX0_meanByYear_69 ?_
  refine lv_ladd hx hb dX0_meanByYear_70 ?_
  obtain ⟨rfl, rfl, rfl⟩ := so3 hf
  exact q_lret B hw hM.hz hM.hc0 hr hlk dX0_meanByYear_71
set_option maxHeartbeats 4000000 in
theorem co_X0_meanByDrawing {l : Launch} {s0 : State} {E : Ev} (G : Gl s0 E) {n : Nat} {d : Nat} {g_X0_meanFrom : Sh → Hp → Nat → Int32 → Option (Int64 × Hp × Sh)} {g_X0_meanByYear : Sh → Hp → Nat → Int32 → Int32 → Option (Int64 × Hp × Sh)} {g_X0_meanByDrawing : Sh → Hp → Nat → Int32 → Int32 → Option (Int64 × Hp × Sh)} (H_X0_meanFrom : ∀ {z : Sh} {h : Hp} {v0 : Nat} {v1 : Int32} {r : Int64} {h' : Hp} {zE : Sh}, g_X0_meanFrom z h v0 v1 = some (r, h', zE) → Ca l s0 E yX0_meanFrom cX0_meanFrom 8 (some .long) (5 + d) (97 + 60 * d) [.ref v0, .int v1] z zE h h' (some (.long r))) (H_X0_meanByYear : ∀ {z : Sh} {h : Hp} {v0 : Nat} {v1 : Int32} {v2 : Int32} {r : Int64} {h' : Hp} {zE : Sh}, g_X0_meanByYear z h v0 v1 v2 = some (r, h', zE) → Ca l s0 E yX0_meanByYear cX0_meanByYear 7 (some .long) (5 + d) (97 + 60 * d) [.ref v0, .int v1, .int v2] z zE h h' (some (.long r))) (H_X0_meanByDrawing : ∀ {z : Sh} {h : Hp} {v0 : Nat} {v1 : Int32} {v2 : Int32} {r : Int64} {h' : Hp} {zE : Sh}, g_X0_meanByDrawing z h v0 v1 v2 = some (r, h', zE) → Ca l s0 E yX0_meanByDrawing cX0_meanByDrawing 4 (some .long) (5 + d) (97 + 60 * d) [.ref v0, .int v1, .int v2] z zE h h' (some (.long r))) (Hm_X0_meanFrom : ∀ {z : Sh} {h : Hp} {v0 : Nat} {v1 : Int32} {r : Int64} {h' : Hp} {zE : Sh}, g_X0_meanFrom z h v0 v1 = some (r, h', zE) → z.sz ≤ zE.sz ∧ z.sl ≤ zE.sl) (Hm_X0_meanByYear : ∀ {z : Sh} {h : Hp} {v0 : Nat} {v1 : Int32} {v2 : Int32} {r : Int64} {h' : Hp} {zE : Sh}, g_X0_meanByYear z h v0 v1 v2 = some (r, h', zE) → z.sz ≤ zE.sz ∧ z.sl ≤ zE.sl) (Hm_X0_meanByDrawing : ∀ {z : Sh} {h : Hp} {v0 : Nat} {v1 : Int32} {v2 : Int32} {r : Int64} {h' : Hp} {zE : Sh}, g_X0_meanByDrawing z h v0 v1 v2 = some (r, h', zE) → z.sz ≤ zE.sz ∧ z.sl ≤ zE.sl) {z : Sh} {h : Hp} {v0 : Nat} {v1 : Int32} {v2 : Int32} {r : Int64} {h' : Hp} {zE : Sh} (hf : F_X0_meanByDrawing n g_X0_meanFrom g_X0_meanByYear g_X0_meanByDrawing z h v0 v1 v2 = some (r, h', zE)) : Ca l s0 E yX0_meanByDrawing cX0_meanByDrawing 4 (some .long) (5 + (d + 1)) (97 + 60 * (d + 1)) [.ref v0, .int v1, .int v2] z zE h h' (some (.long r)) := by
  refine Ca.of G (by decide +kernel) (Nat.le_of_ble_eq_true rfl) (moF_X0_meanByDrawing hf) ?_
  intro p e s m below meth c ls B hw hM hr hlk hnm0 hl
  have B : Bd p s0 s E m c cX0_meanByDrawing 4 RX0 := B
  have hx := B.1
  have hb := B.2.1
  have hl : lv_has ls 4 [(0, .ref v0), (1, .int v1), (2, .int v2)] := hl
  unfold F_X0_meanByDrawing at hf
  obtain ⟨_, hf⟩ := if_some hf
  obtain ⟨_, hf⟩ := gd3_some hf
  refine lv_aload_n hx hb dX0_meanByDrawing_0 rfl (lv_at hl 0 rfl) ?_
  obtain ⟨a1, e, hf⟩ := ob hf
  refine q_getR e B hw fd_0_0.1 fd_0_0.2.1 fd_0_0.2.2.1 fd_0_0.2.2.2.1 fd_0_0.2.2.2.2 rfl tw_2_64 dX0_meanByDrawing_1 ?_
  refine lv_iload_n hx hb dX0_meanByDrawing_4 rfl (lv_at hl 1 rfl) ?_
  obtain ⟨x2, e, hf⟩ := ob hf
  refine q_callVN (As := [.int v1]) (rest := []) (st1 := [.int x2]) (c_X10_afterDrawing G e) B hw hM.hz hM.hc0 (k_X10_afterDrawing e) (by decide) (ci := 10) rfl rfl my_X10_afterDrawing mv_X10_afterDrawing tw_5_62 ⟨by simp only [rmO, rmA]; omega, by simp only [rmO, rmA]; omega⟩ hM.hcs rfl hl.1 rfl rfl (Nat.le_of_ble_eq_true rfl) dX0_meanByDrawing_5 (fun H locs hw => ?_)
  refine lv_istore_n (lv' := [(3, .int x2), (0, .ref v0), (1, .int v1), (2, .int v2)]) hx hb dX0_meanByDrawing_8 rfl hl (by decide) rfl (fun ls hl => ?_)
  refine lv_iload_n hx hb dX0_meanByDrawing_9 rfl (lv_at hl 0 rfl) ?_
  refine lv_iconst (v := (-1)) hx hb dX0_meanByDrawing_10 (by decide) ?_
  refine lv_icmp_ne (tgt := 18) hx hb dX0_meanByDrawing_11 (by decide) (fun c3 => ?_) (fun c3 => ?_)
  · have hf := (if_neg c3).symm.trans hf
    refine lv_aload_n hx hb dX0_meanByDrawing_18 rfl (lv_at hl 1 rfl) ?_
    refine lv_iload_n hx hb dX0_meanByDrawing_19 rfl (lv_at hl 0 rfl) ?_
    obtain ⟨_, eK, hf⟩ := ob hf
    obtain ⟨⟨x4, h5, z6⟩, e, hf⟩ := ob hf
    obtain ⟨hg, hf⟩ := gd3_some hf
    refine q_callVA (As := [.int x2]) (rest := []) (st1 := [.long x4]) (H_X0_meanFrom e) (Hm_X0_meanFrom e) hg B hw hM ((if_some eK).1) (by decide) (ci := 0) rfl rfl my_X0_meanFrom mv_X0_meanFrom tw_5_63 ⟨by omega, by omega⟩ rfl hl.1 rfl rfl (Nat.le_of_ble_eq_true rfl) dX0_meanByDrawing_20 (fun H locs hw hM => ?_)
    refine lv_iload_n hx hb dX0_meanByDrawing_23 rfl (lv_at hl 3 rfl) ?_
    refine lv_aload_n hx hb dX0_meanByDrawing_24 rfl (lv_at hl 1 rfl) ?_
    refine lv_iload_n hx hb dX0_meanByDrawing_25 rfl (lv_at hl 0 rfl) ?_
    obtain ⟨x7, e, hf⟩ := ob hf
    refine q_callV (As := [.int x2]) (rest := [.int v2, .long x4]) (st1 := [.int x7, .int v2, .long x4]) (c_X0_tenthsAt G e) B hw hM.hz hM.hc0 (k_X0_tenthsAt e) (by decide) (ci := 0) rfl rfl my_X0_tenthsAt mv_X0_tenthsAt tw_5_52 ⟨by simp only [rmO, rmA]; omega, by simp only [rmO, rmA]; omega⟩ hM.hcs rfl hl.1 rfl rfl (Nat.le_of_ble_eq_true rfl) dX0_meanByDrawing_26 (fun H locs hw => ?_)
    refine lv_isub hx hb dX0_meanByDrawing_29 ?_
    obtain ⟨x8, e, hf⟩ := ob hf
    refine q_callS (As := [.int (v2 - x7)]) (rest := [.long x4]) (st1 := [.long x8, .long x4]) (c_X0_tens G e) B hw hM.hz hM.hc0 my_X0_tens mv_X0_tens tw_5_64 ⟨by simp only [rmO, rmA]; omega, by simp only [rmO, rmA]; omega⟩ hM.hcs rfl hl.1 rfl rfl (Nat.le_of_ble_eq_true rfl) dX0_meanByDrawing_30 (fun H locs hw => ?_)
    refine lv_lmul hx hb dX0_meanByDrawing_33 ?_
    obtain ⟨rfl, rfl, rfl⟩ := so3 hf
    exact q_lret B hw hM.hz hM.hc0 hr hlk dX0_meanByDrawing_34
  · have hf := (if_pos c3).symm.trans hf
    refine lv_lconst (v := 0) hx hb dX0_meanByDrawing_14 (by decide) ?_
    refine lv_goto (tgt := 34) hx hb dX0_meanByDrawing_15 (by decide) ?_
    obtain ⟨rfl, rfl, rfl⟩ := so3 hf
    exact q_lret B hw hM.hz hM.hc0 hr hlk dX0_meanByDrawing_34
set_option maxHeartbeats 4000000 in
theorem cg_X0_meanFrom {l : Launch} {s0 : State} {E : Ev} (G : Gl s0 E) {n : Nat} : ∀ d : Nat, (∀ {z : Sh} {h : Hp} {v0 : Nat} {v1 : Int32} {r : Int64} {h' : Hp} {zE : Sh}, (rc_X0_meanFrom n d).1 z h v0 v1 = some (r, h', zE) → Ca l s0 E yX0_meanFrom cX0_meanFrom 8 (some .long) (5 + d) (97 + 60 * d) [.ref v0, .int v1] z zE h h' (some (.long r))) ∧ (∀ {z : Sh} {h : Hp} {v0 : Nat} {v1 : Int32} {v2 : Int32} {r : Int64} {h' : Hp} {zE : Sh}, (rc_X0_meanFrom n d).2.1 z h v0 v1 v2 = some (r, h', zE) → Ca l s0 E yX0_meanByYear cX0_meanByYear 7 (some .long) (5 + d) (97 + 60 * d) [.ref v0, .int v1, .int v2] z zE h h' (some (.long r))) ∧ (∀ {z : Sh} {h : Hp} {v0 : Nat} {v1 : Int32} {v2 : Int32} {r : Int64} {h' : Hp} {zE : Sh}, (rc_X0_meanFrom n d).2.2 z h v0 v1 v2 = some (r, h', zE) → Ca l s0 E yX0_meanByDrawing cX0_meanByDrawing 4 (some .long) (5 + d) (97 + 60 * d) [.ref v0, .int v1, .int v2] z zE h h' (some (.long r))) ∧ (∀ {z : Sh} {h : Hp} {v0 : Nat} {v1 : Int32} {r : Int64} {h' : Hp} {zE : Sh}, (rc_X0_meanFrom n d).1 z h v0 v1 = some (r, h', zE) → z.sz ≤ zE.sz ∧ z.sl ≤ zE.sl) ∧ (∀ {z : Sh} {h : Hp} {v0 : Nat} {v1 : Int32} {v2 : Int32} {r : Int64} {h' : Hp} {zE : Sh}, (rc_X0_meanFrom n d).2.1 z h v0 v1 v2 = some (r, h', zE) → z.sz ≤ zE.sz ∧ z.sl ≤ zE.sl) ∧ (∀ {z : Sh} {h : Hp} {v0 : Nat} {v1 : Int32} {v2 : Int32} {r : Int64} {h' : Hp} {zE : Sh}, (rc_X0_meanFrom n d).2.2 z h v0 v1 v2 = some (r, h', zE) → z.sz ≤ zE.sz ∧ z.sl ≤ zE.sl) := by
  intro d
  induction d with
  | zero => exact ⟨fun hf => (by cases hf), fun hf => (by cases hf), fun hf => (by cases hf), fun hf => (by cases hf), fun hf => (by cases hf), fun hf => (by cases hf)⟩
  | succ d ih => exact ⟨fun hf => co_X0_meanFrom (n := n) G (fun hf => ih.1 hf) (fun hf => ih.2.1 hf) (fun hf => ih.2.2.1 hf) (fun hf => ih.2.2.2.1 hf) (fun hf => ih.2.2.2.2.1 hf) (fun hf => ih.2.2.2.2.2 hf) hf, fun hf => co_X0_meanByYear (n := n) G (fun hf => ih.1 hf) (fun hf => ih.2.1 hf) (fun hf => ih.2.2.1 hf) (fun hf => ih.2.2.2.1 hf) (fun hf => ih.2.2.2.2.1 hf) (fun hf => ih.2.2.2.2.2 hf) hf, fun hf => co_X0_meanByDrawing (n := n) G (fun hf => ih.1 hf) (fun hf => ih.2.1 hf) (fun hf => ih.2.2.1 hf) (fun hf => ih.2.2.2.1 hf) (fun hf => ih.2.2.2.2.1 hf) (fun hf => ih.2.2.2.2.2 hf) hf, fun hf => moF_X0_meanFrom (n := n) (g_X0_meanFrom := (rc_X0_meanFrom n d).1) (g_X0_meanByYear := (rc_X0_meanFrom n d).2.1) (g_X0_meanByDrawing := (rc_X0_meanFrom n d).2.2) hf, fun hf => moF_X0_meanByYear (n := n) (g_X0_meanFrom := (rc_X0_meanFrom n d).1) (g_X0_meanByYear := (rc_X0_meanFrom n d).2.1) (g_X0_meanByDrawing := (rc_X0_meanFrom n d).2.2) hf, fun hf => moF_X0_meanByDrawing (n := n) (g_X0_meanFrom := (rc_X0_meanFrom n d).1) (g_X0_meanByYear := (rc_X0_meanFrom n d).2.1) (g_X0_meanByDrawing := (rc_X0_meanFrom n d).2.2) hf⟩
theorem c_X0_meanFrom {l : Launch} {s0 : State} {E : Ev} (G : Gl s0 E) {n : Nat} {z : Sh} {h : Hp} {v0 : Nat} {v1 : Int32} {r : Int64} {h' : Hp} {zE : Sh} (hf : f_X0_meanFrom n z h v0 v1 = some (r, h', zE)) : Ca l s0 E yX0_meanFrom cX0_meanFrom 8 (some .long) 65 3697 [.ref v0, .int v1] z zE h h' (some (.long r)) := (cg_X0_meanFrom G 60).1 hf
theorem c_X0_meanByYear {l : Launch} {s0 : State} {E : Ev} (G : Gl s0 E) {n : Nat} {z : Sh} {h : Hp} {v0 : Nat} {v1 : Int32} {v2 : Int32} {r : Int64} {h' : Hp} {zE : Sh} (hf : f_X0_meanByYear n z h v0 v1 v2 = some (r, h', zE)) : Ca l s0 E yX0_meanByYear cX0_meanByYear 7 (some .long) 65 3697 [.ref v0, .int v1, .int v2] z zE h h' (some (.long r)) := (cg_X0_meanFrom G 60).2.1 hf
theorem c_X0_meanByDrawing {l : Launch} {s0 : State} {E : Ev} (G : Gl s0 E) {n : Nat} {z : Sh} {h : Hp} {v0 : Nat} {v1 : Int32} {v2 : Int32} {r : Int64} {h' : Hp} {zE : Sh} (hf : f_X0_meanByDrawing n z h v0 v1 v2 = some (r, h', zE)) : Ca l s0 E yX0_meanByDrawing cX0_meanByDrawing 4 (some .long) 65 3697 [.ref v0, .int v1, .int v2] z zE h h' (some (.long r)) := (cg_X0_meanFrom G 60).2.2.1 hf
/-! SecondLife$Chances.meanDoing()I -/
def f_X0_meanDoing_35 (n : Nat)  : Nat → Sh → Hp → Nat → Int32 → Int64 → Int32 → Int32 → Option (Int32 × Hp × Sh)
  | 0, _, _, _, _, _, _, _ => none
  | i + 1, z, h, v0, v1, v2, v4, v5 =>
    if v4 ≤ v5 then
      some ((9 : Int32), h, z)
    else
      (f_X0_meanByYear n z h v0 v1 v5).bind fun (x2, h3, z4) =>
      gd3 z4 <|
      if (lg_cmp x2 v2) = 0 then
        some (v5, h3, z4)
      else
        (some (v5 + 1)).bind fun x6 =>
        (f_X0_meanDoing_35 n i) z4 h3 v0 v1 v2 v4 x6
def f_X0_meanDoing (n : Nat) (z : Sh) (h : Hp) (v0 : Nat) : Option (Int32 × Hp × Sh) :=
  if z.K v0 = 0 then
    gd3 z <|
    (gR z h 0 v0 0).bind fun a1 =>
    (gI z h 10 a1 8).bind fun x2 =>
    (f_X0_meanFrom n z h v0 x2).bind fun (x3, h4, z5) =>
    gd3 z5 <|
    if (lg_cmp x3 0) = 0 then
      some (((-1) : Int32), h4, z5)
    else
      (gR z5 h4 0 v0 0).bind fun a7 =>
      (f_X10_openTrades z5 h4 a7 x2).bind fun x8 =>
      f_X0_meanDoing_35 n n z5 h4 v0 x2 x3 x8 0
  else none
theorem k_X0_meanDoing {n : Nat} {z : Sh} {h : Hp} {v0 : Nat} {w : Int32 × Hp × Sh} (hf : f_X0_meanDoing n z h v0 = some w) : z.K v0 = 0 := by
  unfold f_X0_meanDoing at hf
  exact (if_some hf).1
theorem mo_X0_meanDoing {n : Nat} {z : Sh} {h : Hp} {v0 : Nat} {r : Int32} {h' : Hp} {zE : Sh} (hf : f_X0_meanDoing n z h v0 = some (r, h', zE)) : z.sz ≤ zE.sz ∧ z.sl ≤ zE.sl := by
  unfold f_X0_meanDoing at hf
  exact (gd3_some (if_some hf).2).1
set_option maxHeartbeats 4000000 in
theorem w_X0_meanDoing_35 {p : Program} {l : Launch} {e : Env} {s : State} {m : MethodId} {args : Array Value} {below : List Frame} {meth : Method} {c : Code} {s0 : State} {E : Ev} {z0 : Sh} {n : Nat} {r : Int32} {h' : Hp} {zE : Sh} (G : Gl s0 E) (B : Bd p s0 s E m c cX0_meanDoing 6 RX0) (hr : meth.sig.returnType = (some .int)) (hlk : meth.locks = false) : ∀ (i : Nat), ∀ (z : Sh) (h : Hp) (v0 : Nat) (v1 : Int32) (v2 : Int64) (v4 : Int32) (v5 : Int32) (H : Heap) (locs : List Loc) (ls : Array Slot), Pw s0 s E z h H locs → Mo s0 s z0 z zE → lv_has ls 6 [(0, .ref v0), (1, .int v1), (2, .long v2), (4, .int v4), (5, .int v5)] → f_X0_meanDoing_35 n i z h v0 v1 v2 v4 v5 = some (r, h', zE) → W p l e (rmA 66 3724 z0 zE) s m args below meth c H locs (z.sz - z0.sz) (z.sl - z0.sl) (Zt below s0 E zE h' (some (.int r)) args s (zE.sz - z0.sz) (zE.sl - z0.sl)) (F0 m 35 ls []) := by
  have hx := B.1
  have hb := B.2.1
  intro i
  induction i with
  | zero =>
    intro z h v0 v1 v2 v4 v5 H locs ls hw hM hl hf
    have hf := (f_X0_meanDoing_35.eq_1 ..).symm.trans hf
    cases hf
  | succ i ih =>
    intro z h v0 v1 v2 v4 v5 H locs ls hw hM hl hf
    have hf := (f_X0_meanDoing_35.eq_2 ..).symm.trans hf
    refine lv_iload hx hb dX0_meanDoing_35 (lv_at hl 4 rfl) ?_
    refine lv_iload hx hb dX0_meanDoing_37 (lv_at hl 3 rfl) ?_
    refine lv_icmp_ge (tgt := 63) hx hb dX0_meanDoing_39 (by decide) (fun c1 => ?_) (fun c1 => ?_)
    · have hf := (if_pos c1).symm.trans hf
      refine lv_bipush (v := 9) hx hb dX0_meanDoing_63 (by decide) ?_
      obtain ⟨rfl, rfl, rfl⟩ := so3 hf
      exact q_iret B hw hM.hz hM.hc0 hr hlk dX0_meanDoing_65
    · have hf := (if_neg c1).symm.trans hf
      refine lv_aload_n hx hb dX0_meanDoing_42 rfl (lv_at hl 0 rfl) ?_
      refine lv_iload_n hx hb dX0_meanDoing_43 rfl (lv_at hl 1 rfl) ?_
      refine lv_iload hx hb dX0_meanDoing_44 (lv_at hl 4 rfl) ?_
      obtain ⟨⟨x2, h3, z4⟩, e, hf⟩ := ob hf
      obtain ⟨hg, hf⟩ := gd3_some hf
      refine q_callVA (As := [.int v1, .int v5]) (rest := []) (st1 := [.long x2]) (c_X0_meanByYear G e) (mo_X0_meanByYear e) hg B hw hM (k_X0_meanByYear e) (by decide) (ci := 0) rfl rfl my_X0_meanByYear mv_X0_meanByYear tw_5_70 ⟨Nat.le_of_ble_eq_true rfl, Nat.le_of_ble_eq_true rfl⟩ rfl hl.1 rfl rfl (Nat.le_of_ble_eq_true rfl) dX0_meanDoing_46 (fun H locs hw hM => ?_)
      refine lv_lload_n hx hb dX0_meanDoing_49 rfl (lv_at hl 2 rfl) ?_
      refine W.lcmp hx hb dX0_meanDoing_50 ?_
      refine lv_if_ne (tgt := 57) hx hb dX0_meanDoing_51 (by decide) (fun c5 => ?_) (fun c5 => ?_)
      · have hf := (if_neg c5).symm.trans hf
        obtain ⟨x6, e, hf⟩ := ob hf
        refine lv_iinc (v := x6) (lv' := [(5, .int x6), (0, .ref v0), (1, .int v1), (2, .long v2), (4, .int v4)]) hx hb dX0_meanDoing_57 hl (k := 4) rfl (Option.some.inj e) (by decide) rfl (fun ls hl => ?_)
        refine lv_goto (tgt := 35) hx hb dX0_meanDoing_60 (by decide) ?_
        exact ih z4 h3 v0 v1 v2 v4 x6 _ _ _ hw hM (lv_sub hl [1, 2, 3, 4, 0] rfl) hf
      · have hf := (if_pos c5).symm.trans hf
        refine lv_iload hx hb dX0_meanDoing_54 (lv_at hl 4 rfl) ?_
        obtain ⟨rfl, rfl, rfl⟩ := so3 hf
        exact q_iret B hw hM.hz hM.hc0 hr hlk dX0_meanDoing_56
set_option maxHeartbeats 4000000 in
theorem c_X0_meanDoing {l : Launch} {s0 : State} {E : Ev} (G : Gl s0 E) {n : Nat} {z : Sh} {h : Hp} {v0 : Nat} {r : Int32} {h' : Hp} {zE : Sh} (hf : f_X0_meanDoing n z h v0 = some (r, h', zE)) : Ca l s0 E yX0_meanDoing cX0_meanDoing 6 (some .int) 66 3724 [.ref v0] z zE h h' (some (.int r)) := by
  refine Ca.of G (by decide +kernel) (Nat.le_of_ble_eq_true rfl) (mo_X0_meanDoing hf) ?_
  intro p e s m below meth c ls B hw hM hr hlk hnm0 hl
  have B : Bd p s0 s E m c cX0_meanDoing 6 RX0 := B
  have hx := B.1
  have hb := B.2.1
  have hl : lv_has ls 6 [(0, .ref v0)] := hl
  unfold f_X0_meanDoing at hf
  obtain ⟨_, hf⟩ := if_some hf
  obtain ⟨_, hf⟩ := gd3_some hf
  refine lv_aload_n hx hb dX0_meanDoing_0 rfl (lv_at hl 0 rfl) ?_
  obtain ⟨a1, e, hf⟩ := ob hf
  refine q_getR e B hw fd_0_0.1 fd_0_0.2.1 fd_0_0.2.2.1 fd_0_0.2.2.2.1 fd_0_0.2.2.2.2 rfl tw_2_64 dX0_meanDoing_1 ?_
  obtain ⟨x2, e, hf⟩ := ob hf
  refine q_getIN e B hw fd_10_8.1 fd_10_8.2.1 fd_10_8.2.2.1 fd_10_8.2.2.2.1 fd_10_8.2.2.2.2 rfl tw_2_1 dX0_meanDoing_4 ?_
  refine lv_istore_n (lv' := [(1, .int x2), (0, .ref v0)]) hx hb dX0_meanDoing_7 rfl hl (by decide) rfl (fun ls hl => ?_)
  refine lv_aload_n hx hb dX0_meanDoing_8 rfl (lv_at hl 1 rfl) ?_
  refine lv_iload_n hx hb dX0_meanDoing_9 rfl (lv_at hl 0 rfl) ?_
  obtain ⟨⟨x3, h4, z5⟩, e, hf⟩ := ob hf
  obtain ⟨hg, hf⟩ := gd3_some hf
  refine q_callVA (As := [.int x2]) (rest := []) (st1 := [.long x3]) (c_X0_meanFrom G e) (mo_X0_meanFrom e) hg B hw hM (k_X0_meanFrom e) (by decide) (ci := 0) rfl rfl my_X0_meanFrom mv_X0_meanFrom tw_5_63 ⟨Nat.le_of_ble_eq_true rfl, Nat.le_of_ble_eq_true rfl⟩ rfl hl.1 rfl rfl (Nat.le_of_ble_eq_true rfl) dX0_meanDoing_10 (fun H locs hw hM => ?_)
  refine lv_lstore_n (lv' := [(2, .long x3), (1, .int x2), (0, .ref v0)]) hx hb dX0_meanDoing_13 rfl hl (by decide) rfl (fun ls hl => ?_)
  refine lv_lload_n hx hb dX0_meanDoing_14 rfl (lv_at hl 0 rfl) ?_
  refine lv_lconst (v := 0) hx hb dX0_meanDoing_15 (by decide) ?_
  refine W.lcmp hx hb dX0_meanDoing_16 ?_
  refine lv_if_ne (tgt := 22) hx hb dX0_meanDoing_17 (by decide) (fun c6 => ?_) (fun c6 => ?_)
  · have hf := (if_neg c6).symm.trans hf
    refine lv_aload_n hx hb dX0_meanDoing_22 rfl (lv_at hl 2 rfl) ?_
    obtain ⟨a7, e, hf⟩ := ob hf
    refine q_getR e B hw fd_0_0.1 fd_0_0.2.1 fd_0_0.2.2.1 fd_0_0.2.2.2.1 fd_0_0.2.2.2.2 rfl tw_2_64 dX0_meanDoing_23 ?_
    refine lv_iload_n hx hb dX0_meanDoing_26 rfl (lv_at hl 1 rfl) ?_
    obtain ⟨x8, e, hf⟩ := ob hf
    refine q_callVN (As := [.int x2]) (rest := []) (st1 := [.int x8]) (c_X10_openTrades G e) B hw hM.hz hM.hc0 (k_X10_openTrades e) (by decide) (ci := 10) rfl rfl my_X10_openTrades mv_X10_openTrades tw_5_69 ⟨Nat.le_of_ble_eq_true rfl, Nat.le_of_ble_eq_true rfl⟩ hM.hcs rfl hl.1 rfl rfl (Nat.le_of_ble_eq_true rfl) dX0_meanDoing_27 (fun H locs hw => ?_)
    refine lv_istore (lv' := [(4, .int x8), (2, .long x3), (1, .int x2), (0, .ref v0)]) hx hb dX0_meanDoing_30 hl (by decide) rfl (fun ls hl => ?_)
    refine lv_iconst (v := 0) hx hb dX0_meanDoing_32 (by decide) ?_
    refine lv_istore (lv' := [(5, .int 0), (4, .int x8), (2, .long x3), (1, .int x2), (0, .ref v0)]) hx hb dX0_meanDoing_33 hl (by decide) rfl (fun ls hl => ?_)
    exact w_X0_meanDoing_35 G B hr hlk  n z5 h4 v0 x2 x3 x8 0 _ _ _ hw hM (lv_sub hl [4, 3, 2, 1, 0] rfl) hf
  · have hf := (if_pos c6).symm.trans hf
    refine lv_iconst (v := (-1)) hx hb dX0_meanDoing_20 (by decide) ?_
    obtain ⟨rfl, rfl, rfl⟩ := so3 hf
    exact q_iret B hw hM.hz hM.hc0 hr hlk dX0_meanDoing_21
/-! SecondLife$Chances.drawingIsBest()Z -/
def f_X0_drawingIsBest (n : Nat) (z : Sh) (h : Hp) (v0 : Nat) : Option (Int32 × Hp × Sh) :=
  if z.K v0 = 0 then
    gd3 z <|
    (gR z h 0 v0 0).bind fun a1 =>
    (gI z h 10 a1 8).bind fun x2 =>
    (gR z h 0 v0 0).bind fun a3 =>
    (f_X10_afterDrawing z h a3 x2).bind fun x4 =>
    if x4 = (-1) then
      some (0, h, z)
    else
      (f_X0_tenthsAt z h v0 x2).bind fun x6 =>
      (f_X0_meanByDrawing n z h v0 x2 x6).bind fun (x7, h8, z9) =>
      gd3 z9 <|
      (f_X0_meanFrom n z9 h8 v0 x2).bind fun (x10, h11, z12) =>
      gd3 z12 <|
      if (lg_cmp x7 x10) = 0 then
        some (1, h11, z12)
      else
        some (0, h11, z12)
  else none
theorem k_X0_drawingIsBest {n : Nat} {z : Sh} {h : Hp} {v0 : Nat} {w : Int32 × Hp × Sh} (hf : f_X0_drawingIsBest n z h v0 = some w) : z.K v0 = 0 := by
  unfold f_X0_drawingIsBest at hf
  exact (if_some hf).1
theorem mo_X0_drawingIsBest {n : Nat} {z : Sh} {h : Hp} {v0 : Nat} {r : Int32} {h' : Hp} {zE : Sh} (hf : f_X0_drawingIsBest n z h v0 = some (r, h', zE)) : z.sz ≤ zE.sz ∧ z.sl ≤ zE.sl := by
  unfold f_X0_drawingIsBest at hf
  exact (gd3_some (if_some hf).2).1
set_option maxHeartbeats 4000000 in
theorem c_X0_drawingIsBest {l : Launch} {s0 : State} {E : Ev} (G : Gl s0 E) {n : Nat} {z : Sh} {h : Hp} {v0 : Nat} {r : Int32} {h' : Hp} {zE : Sh} (hf : f_X0_drawingIsBest n z h v0 = some (r, h', zE)) : Ca l s0 E yX0_drawingIsBest cX0_drawingIsBest 2 (some .boolean) 66 3724 [.ref v0] z zE h h' (some (.int r)) := by
  refine Ca.of G (by decide +kernel) (Nat.le_of_ble_eq_true rfl) (mo_X0_drawingIsBest hf) ?_
  intro p e s m below meth c ls B hw hM hr hlk hnm0 hl
  have B : Bd p s0 s E m c cX0_drawingIsBest 2 RX0 := B
  have hx := B.1
  have hb := B.2.1
  have hl : lv_has ls 2 [(0, .ref v0)] := hl
  unfold f_X0_drawingIsBest at hf
  obtain ⟨_, hf⟩ := if_some hf
  obtain ⟨_, hf⟩ := gd3_some hf
  refine lv_aload_n hx hb dX0_drawingIsBest_0 rfl (lv_at hl 0 rfl) ?_
  obtain ⟨a1, e, hf⟩ := ob hf
  refine q_getR e B hw fd_0_0.1 fd_0_0.2.1 fd_0_0.2.2.1 fd_0_0.2.2.2.1 fd_0_0.2.2.2.2 rfl tw_2_64 dX0_drawingIsBest_1 ?_
  obtain ⟨x2, e, hf⟩ := ob hf
  refine q_getIN e B hw fd_10_8.1 fd_10_8.2.1 fd_10_8.2.2.1 fd_10_8.2.2.2.1 fd_10_8.2.2.2.2 rfl tw_2_1 dX0_drawingIsBest_4 ?_
  refine lv_istore_n (lv' := [(1, .int x2), (0, .ref v0)]) hx hb dX0_drawingIsBest_7 rfl hl (by decide) rfl (fun ls hl => ?_)
  refine lv_aload_n hx hb dX0_drawingIsBest_8 rfl (lv_at hl 1 rfl) ?_
  obtain ⟨a3, e, hf⟩ := ob hf
  refine q_getR e B hw fd_0_0.1 fd_0_0.2.1 fd_0_0.2.2.1 fd_0_0.2.2.2.1 fd_0_0.2.2.2.2 rfl tw_2_64 dX0_drawingIsBest_9 ?_
  refine lv_iload_n hx hb dX0_drawingIsBest_12 rfl (lv_at hl 0 rfl) ?_
  obtain ⟨x4, e, hf⟩ := ob hf
  refine q_callVN (As := [.int x2]) (rest := []) (st1 := [.int x4]) (c_X10_afterDrawing G e) B hw hM.hz hM.hc0 (k_X10_afterDrawing e) (by decide) (ci := 10) rfl rfl my_X10_afterDrawing mv_X10_afterDrawing tw_5_62 ⟨Nat.le_of_ble_eq_true rfl, Nat.le_of_ble_eq_true rfl⟩ hM.hcs rfl hl.1 rfl rfl (Nat.le_of_ble_eq_true rfl) dX0_drawingIsBest_13 (fun H locs hw => ?_)
  refine lv_iconst (v := (-1)) hx hb dX0_drawingIsBest_16 (by decide) ?_
  refine lv_icmp_eq (tgt := 43) hx hb dX0_drawingIsBest_17 (by decide) (fun c5 => ?_) (fun c5 => ?_)
  · have hf := (if_pos c5).symm.trans hf
    refine lv_iconst (v := 0) hx hb dX0_drawingIsBest_43 (by decide) ?_
    obtain ⟨rfl, rfl, rfl⟩ := so3 hf
    exact q_zret (Or.inl rfl) B hw hM.hz hM.hc0 hr hlk dX0_drawingIsBest_44
  · have hf := (if_neg c5).symm.trans hf
    refine lv_aload_n hx hb dX0_drawingIsBest_20 rfl (lv_at hl 1 rfl) ?_
    refine lv_iload_n hx hb dX0_drawingIsBest_21 rfl (lv_at hl 0 rfl) ?_
    refine lv_aload_n hx hb dX0_drawingIsBest_22 rfl (lv_at hl 1 rfl) ?_
    refine lv_iload_n hx hb dX0_drawingIsBest_23 rfl (lv_at hl 0 rfl) ?_
    obtain ⟨x6, e, hf⟩ := ob hf
    refine q_callV (As := [.int x2]) (rest := [.int x2, .ref v0]) (st1 := [.int x6, .int x2, .ref v0]) (c_X0_tenthsAt G e) B hw hM.hz hM.hc0 (k_X0_tenthsAt e) (by decide) (ci := 0) rfl rfl my_X0_tenthsAt mv_X0_tenthsAt tw_5_52 ⟨Nat.le_of_ble_eq_true rfl, Nat.le_of_ble_eq_true rfl⟩ hM.hcs rfl hl.1 rfl rfl (Nat.le_of_ble_eq_true rfl) dX0_drawingIsBest_24 (fun H locs hw => ?_)
    obtain ⟨⟨x7, h8, z9⟩, e, hf⟩ := ob hf
    obtain ⟨hg, hf⟩ := gd3_some hf
    refine q_callVA (As := [.int x2, .int x6]) (rest := []) (st1 := [.long x7]) (c_X0_meanByDrawing G e) (mo_X0_meanByDrawing e) hg B hw hM (k_X0_meanByDrawing e) (by decide) (ci := 0) rfl rfl my_X0_meanByDrawing mv_X0_meanByDrawing tw_5_58 ⟨Nat.le_of_ble_eq_true rfl, Nat.le_of_ble_eq_true rfl⟩ rfl hl.1 rfl rfl (Nat.le_of_ble_eq_true rfl) dX0_drawingIsBest_27 (fun H locs hw hM => ?_)
    refine lv_aload_n hx hb dX0_drawingIsBest_30 rfl (lv_at hl 1 rfl) ?_
    refine lv_iload_n hx hb dX0_drawingIsBest_31 rfl (lv_at hl 0 rfl) ?_
    obtain ⟨⟨x10, h11, z12⟩, e, hf⟩ := ob hf
    obtain ⟨hg, hf⟩ := gd3_some hf
    refine q_callVA (As := [.int x2]) (rest := [.long x7]) (st1 := [.long x10, .long x7]) (c_X0_meanFrom G e) (mo_X0_meanFrom e) hg B hw hM (k_X0_meanFrom e) (by decide) (ci := 0) rfl rfl my_X0_meanFrom mv_X0_meanFrom tw_5_63 ⟨Nat.le_of_ble_eq_true rfl, Nat.le_of_ble_eq_true rfl⟩ rfl hl.1 rfl rfl (Nat.le_of_ble_eq_true rfl) dX0_drawingIsBest_32 (fun H locs hw hM => ?_)
    refine W.lcmp hx hb dX0_drawingIsBest_35 ?_
    refine lv_if_ne (tgt := 43) hx hb dX0_drawingIsBest_36 (by decide) (fun c13 => ?_) (fun c13 => ?_)
    · have hf := (if_neg c13).symm.trans hf
      refine lv_iconst (v := 0) hx hb dX0_drawingIsBest_43 (by decide) ?_
      obtain ⟨rfl, rfl, rfl⟩ := so3 hf
      exact q_zret (Or.inl rfl) B hw hM.hz hM.hc0 hr hlk dX0_drawingIsBest_44
    · have hf := (if_pos c13).symm.trans hf
      refine lv_iconst (v := 1) hx hb dX0_drawingIsBest_39 (by decide) ?_
      refine lv_goto (tgt := 44) hx hb dX0_drawingIsBest_40 (by decide) ?_
      obtain ⟨rfl, rfl, rfl⟩ := so3 hf
      exact q_zret (Or.inr rfl) B hw hM.hz hM.hc0 hr hlk dX0_drawingIsBest_44
