/-! SecondLife$Chances.meanDoing()I -/
def f_X0_meanDoing_35 (n : Nat)  : Nat → Sh → Hp → Nat → Int32 → Int64 → Int32 → Int32 → Option (Int32 × Hp × Sh)
  | 0, _, _, _, _, _, _, _ => none
  | i + 1, z, h, v0, v1, v2, v4, v5 =>
    if v4 ≤ v5 then
      some ((9 : Int32), h, z)
    else
      (f_X0_meanByYear n z h v0 v1 v5).bind fun (x2, h3, z4) =>
      gd3 z4 <|
      if (lg_cmp x2 v2) = 0 then
        some (v5, h3, z4)
      else
        (some (v5 + 1)).bind fun x6 =>
        (f_X0_meanDoing_35 n i) z4 h3 v0 v1 v2 v4 x6
def f_X0_meanDoing (n : Nat) (z : Sh) (h : Hp) (v0 : Nat) : Option (Int32 × Hp × Sh) :=
  if z.K v0 = 0 then
    gd3 z <|
    (gR z h 0 v0 0).bind fun a1 =>
    (gI z h 10 a1 8).bind fun x2 =>
    (f_X0_meanFrom n z h v0 x2).bind fun (x3, h4, z5) =>
    gd3 z5 <|
    if (lg_cmp x3 0) = 0 then
      some (((-1) : Int32), h4, z5)
    else
      (gR z5 h4 0 v0 0).bind fun a7 =>
      (f_X10_openTrades z5 h4 a7 x2).bind fun x8 =>
      f_X0_meanDoing_35 n n z5 h4 v0 x2 x3 x8 0
  else none
theorem k_X0_meanDoing {n : Nat} {z : Sh} {h : Hp} {v0 : Nat} {w : Int32 × Hp × Sh} (hf : f_X0_meanDoing n z h v0 = some w) : z.K v0 = 0 := by
  unfold f_X0_meanDoing at hf
  exact (if_some hf).1
theorem mo_X0_meanDoing {n : Nat} {z : Sh} {h : Hp} {v0 : Nat} {r : Int32} {h' : Hp} {zE : Sh} (hf : f_X0_meanDoing n z h v0 = some (r, h', zE)) : z.sz ≤ zE.sz ∧ z.sl ≤ zE.sl := by
  unfold f_X0_meanDoing at hf
  exact (gd3_some (if_some hf).2).1
set_option maxHeartbeats 4000000 in
theorem w_X0_meanDoing_35 {p : Program} {l : Launch} {e : Env} {s : State} {m : MethodId} {args : Array Value} {below : List Frame} {meth : Method} {c : Code} {s0 : State} {E : Ev} {z0 : Sh} {n : Nat} {r : Int32} {h' : Hp} {zE : Sh} (G : Gl s0 E) (B : Bd p s0 s E m c cX0_meanDoing 6 RX0) (hr : meth.sig.returnType = (some .int)) (hlk : meth.locks = false) : ∀ (i : Nat), ∀ (z : Sh) (h : Hp) (v0 : Nat) (v1 : Int32) (v2 : Int64) (v4 : Int32) (v5 : Int32) (H : Heap) (locs : List Loc) (ls : Array Slot), Pw s0 s E z h H locs → Mo s0 s z0 z zE → lv_has ls 6 [(0, .ref v0), (1, .int v1), (2, .long v2), (4, .int v4), (5, .int v5)] → f_X0_meanDoing_35 n i z h v0 v1 v2 v4 v5 = some (r, h', zE) → W p l e (rmA 67 3746 z0 zE) s m args below meth c H locs (z.sz - z0.sz) (z.sl - z0.sl) (Zt below s0 E zE h' (some (.int r)) args s (zE.sz - z0.sz) (zE.sl - z0.sl)) (F0 m 35 ls []) := by
  have hx := B.1
  have hb := B.2.1
  intro i
  induction i with
  | zero =>
    intro z h v0 v1 v2 v4 v5 H locs ls hw hM hl hf
    have hf := (f_X0_meanDoing_35.eq_1 ..).symm.trans hf
    cases hf
  | succ i ih =>
    intro z h v0 v1 v2 v4 v5 H locs ls hw hM hl hf
    have hf := (f_X0_meanDoing_35.eq_2 ..).symm.trans hf
    refine lv_iload hx hb dX0_meanDoing_35 (lv_at hl 4 rfl) ?_
    refine lv_iload hx hb dX0_meanDoing_37 (lv_at hl 3 rfl) ?_
    refine lv_icmp_ge (tgt := 63) hx hb dX0_meanDoing_39 (by decide) (fun c1 => ?_) (fun c1 => ?_)
    · have hf := (if_pos c1).symm.trans hf
      refine lv_bipush (v := 9) hx hb dX0_meanDoing_63 (by decide) ?_
      obtain ⟨rfl, rfl, rfl⟩ := so3 hf
      exact q_iret B hw hM.hz hM.hc0 hr hlk dX0_meanDoing_65
    · have hf := (if_neg c1).symm.trans hf
      refine lv_aload_n hx hb dX0_meanDoing_42 rfl (lv_at hl 0 rfl) ?_
      refine lv_iload_n hx hb dX0_meanDoing_43 rfl (lv_at hl 1 rfl) ?_
      refine lv_iload hx hb dX0_meanDoing_44 (lv_at hl 4 rfl) ?_
      obtain ⟨⟨x2, h3, z4⟩, e, hf⟩ := ob hf
      obtain ⟨hg, hf⟩ := gd3_some hf
      refine q_callVA (As := [.int v1, .int v5]) (rest := []) (st1 := [.long x2]) (c_X0_meanByYear G e) (mo_X0_meanByYear e) hg B hw hM (k_X0_meanByYear e) (by decide) (ci := 0) rfl rfl my_X0_meanByYear mv_X0_meanByYear tw_5_74 ⟨Nat.le_of_ble_eq_true rfl, Nat.le_of_ble_eq_true rfl⟩ rfl hl.1 rfl rfl (Nat.le_of_ble_eq_true rfl) dX0_meanDoing_46 (fun H locs hw hM => ?_)
      refine lv_lload_n hx hb dX0_meanDoing_49 rfl (lv_at hl 2 rfl) ?_
      refine W.lcmp hx hb dX0_meanDoing_50 ?_
      refine lv_if_ne (tgt := 57) hx hb dX0_meanDoing_51 (by decide) (fun c5 => ?_) (fun c5 => ?_)
      · have hf := (if_neg c5).symm.trans hf
        obtain ⟨x6, e, hf⟩ := ob hf
        refine lv_iinc (v := x6) (lv' := [(5, .int x6), (0, .ref v0), (1, .int v1), (2, .long v2), (4, .int v4)]) hx hb dX0_meanDoing_57 hl (k := 4) rfl (Option.some.inj e) (by decide) rfl (fun ls hl => ?_)
        refine lv_goto (tgt := 35) hx hb dX0_meanDoing_60 (by decide) ?_
        exact ih z4 h3 v0 v1 v2 v4 x6 _ _ _ hw hM (lv_sub hl [1, 2, 3, 4, 0] rfl) hf
      · have hf := (if_pos c5).symm.trans hf
        refine lv_iload hx hb dX0_meanDoing_54 (lv_at hl 4 rfl) ?_
        obtain ⟨rfl, rfl, rfl⟩ := so3 hf
        exact q_iret B hw hM.hz hM.hc0 hr hlk dX0_meanDoing_56
set_option maxHeartbeats 4000000 in
theorem c_X0_meanDoing {l : Launch} {s0 : State} {E : Ev} (G : Gl s0 E) {n : Nat} {z : Sh} {h : Hp} {v0 : Nat} {r : Int32} {h' : Hp} {zE : Sh} (hf : f_X0_meanDoing n z h v0 = some (r, h', zE)) : Ca l s0 E yX0_meanDoing cX0_meanDoing 6 (some .int) 67 3746 [.ref v0] z zE h h' (some (.int r)) := by
  refine Ca.of G (by decide +kernel) (Nat.le_of_ble_eq_true rfl) (mo_X0_meanDoing hf) ?_
  intro p e s m below meth c ls B hw hM hr hlk hnm0 hl
  have B : Bd p s0 s E m c cX0_meanDoing 6 RX0 := B
  have hx := B.1
  have hb := B.2.1
  have hl : lv_has ls 6 [(0, .ref v0)] := hl
  unfold f_X0_meanDoing at hf
  obtain ⟨_, hf⟩ := if_some hf
  obtain ⟨_, hf⟩ := gd3_some hf
  refine lv_aload_n hx hb dX0_meanDoing_0 rfl (lv_at hl 0 rfl) ?_
  obtain ⟨a1, e, hf⟩ := ob hf
  refine q_getR e B hw fd_0_0.1 fd_0_0.2.1 fd_0_0.2.2.1 fd_0_0.2.2.2.1 fd_0_0.2.2.2.2 rfl tw_2_64 dX0_meanDoing_1 ?_
  obtain ⟨x2, e, hf⟩ := ob hf
  refine q_getIN e B hw fd_10_8.1 fd_10_8.2.1 fd_10_8.2.2.1 fd_10_8.2.2.2.1 fd_10_8.2.2.2.2 rfl tw_2_1 dX0_meanDoing_4 ?_
  refine lv_istore_n (lv' := [(1, .int x2), (0, .ref v0)]) hx hb dX0_meanDoing_7 rfl hl (by decide) rfl (fun ls hl => ?_)
  refine lv_aload_n hx hb dX0_meanDoing_8 rfl (lv_at hl 1 rfl) ?_
  refine lv_iload_n hx hb dX0_meanDoing_9 rfl (lv_at hl 0 rfl) ?_
  obtain ⟨⟨x3, h4, z5⟩, e, hf⟩ := ob hf
  obtain ⟨hg, hf⟩ := gd3_some hf
  refine q_callVA (As := [.int x2]) (rest := []) (st1 := [.long x3]) (c_X0_meanFrom G e) (mo_X0_meanFrom e) hg B hw hM (k_X0_meanFrom e) (by decide) (ci := 0) rfl rfl my_X0_meanFrom mv_X0_meanFrom tw_5_67 ⟨Nat.le_of_ble_eq_true rfl, Nat.le_of_ble_eq_true rfl⟩ rfl hl.1 rfl rfl (Nat.le_of_ble_eq_true rfl) dX0_meanDoing_10 (fun H locs hw hM => ?_)
  refine lv_lstore_n (lv' := [(2, .long x3), (1, .int x2), (0, .ref v0)]) hx hb dX0_meanDoing_13 rfl hl (by decide) rfl (fun ls hl => ?_)
  refine lv_lload_n hx hb dX0_meanDoing_14 rfl (lv_at hl 0 rfl) ?_
  refine lv_lconst (v := 0) hx hb dX0_meanDoing_15 (by decide) ?_
  refine W.lcmp hx hb dX0_meanDoing_16 ?_
  refine lv_if_ne (tgt := 22) hx hb dX0_meanDoing_17 (by decide) (fun c6 => ?_) (fun c6 => ?_)
  · have hf := (if_neg c6).symm.trans hf
    refine lv_aload_n hx hb dX0_meanDoing_22 rfl (lv_at hl 2 rfl) ?_
    obtain ⟨a7, e, hf⟩ := ob hf
    refine q_getR e B hw fd_0_0.1 fd_0_0.2.1 fd_0_0.2.2.1 fd_0_0.2.2.2.1 fd_0_0.2.2.2.2 rfl tw_2_64 dX0_meanDoing_23 ?_
    refine lv_iload_n hx hb dX0_meanDoing_26 rfl (lv_at hl 1 rfl) ?_
    obtain ⟨x8, e, hf⟩ := ob hf
    refine q_callVN (As := [.int x2]) (rest := []) (st1 := [.int x8]) (c_X10_openTrades G e) B hw hM.hz hM.hc0 (k_X10_openTrades e) (by decide) (ci := 10) rfl rfl my_X10_openTrades mv_X10_openTrades tw_5_73 ⟨Nat.le_of_ble_eq_true rfl, Nat.le_of_ble_eq_true rfl⟩ hM.hcs rfl hl.1 rfl rfl (Nat.le_of_ble_eq_true rfl) dX0_meanDoing_27 (fun H locs hw => ?_)
    refine lv_istore (lv' := [(4, .int x8), (2, .long x3), (1, .int x2), (0, .ref v0)]) hx hb dX0_meanDoing_30 hl (by decide) rfl (fun ls hl => ?_)
    refine lv_iconst (v := 0) hx hb dX0_meanDoing_32 (by decide) ?_
    refine lv_istore (lv' := [(5, .int 0), (4, .int x8), (2, .long x3), (1, .int x2), (0, .ref v0)]) hx hb dX0_meanDoing_33 hl (by decide) rfl (fun ls hl => ?_)
    exact w_X0_meanDoing_35 G B hr hlk  n z5 h4 v0 x2 x3 x8 0 _ _ _ hw hM (lv_sub hl [4, 3, 2, 1, 0] rfl) hf
  · have hf := (if_pos c6).symm.trans hf
    refine lv_iconst (v := (-1)) hx hb dX0_meanDoing_20 (by decide) ?_
    obtain ⟨rfl, rfl, rfl⟩ := so3 hf
    exact q_iret B hw hM.hz hM.hc0 hr hlk dX0_meanDoing_21
/-! SecondLife$Chances.drawingIsBest()Z -/
def f_X0_drawingIsBest (n : Nat) (z : Sh) (h : Hp) (v0 : Nat) : Option (Int32 × Hp × Sh) :=
  if z.K v0 = 0 then
    gd3 z <|
    (gR z h 0 v0 0).bind fun a1 =>
    (gI z h 10 a1 8).bind fun x2 =>
    (gR z h 0 v0 0).bind fun a3 =>
    (f_X10_afterDrawing z h a3 x2).bind fun x4 =>
    if x4 = (-1) then
      some (0, h, z)
    else
      (f_X0_tenthsAt z h v0 x2).bind fun x6 =>
      (f_X0_meanByDrawing n z h v0 x2 x6).bind fun (x7, h8, z9) =>
      gd3 z9 <|
      (f_X0_meanFrom n z9 h8 v0 x2).bind fun (x10, h11, z12) =>
      gd3 z12 <|
      if (lg_cmp x7 x10) = 0 then
        some (1, h11, z12)
      else
        some (0, h11, z12)
  else none
theorem k_X0_drawingIsBest {n : Nat} {z : Sh} {h : Hp} {v0 : Nat} {w : Int32 × Hp × Sh} (hf : f_X0_drawingIsBest n z h v0 = some w) : z.K v0 = 0 := by
  unfold f_X0_drawingIsBest at hf
  exact (if_some hf).1
theorem mo_X0_drawingIsBest {n : Nat} {z : Sh} {h : Hp} {v0 : Nat} {r : Int32} {h' : Hp} {zE : Sh} (hf : f_X0_drawingIsBest n z h v0 = some (r, h', zE)) : z.sz ≤ zE.sz ∧ z.sl ≤ zE.sl := by
  unfold f_X0_drawingIsBest at hf
  exact (gd3_some (if_some hf).2).1
set_option maxHeartbeats 4000000 in
theorem c_X0_drawingIsBest {l : Launch} {s0 : State} {E : Ev} (G : Gl s0 E) {n : Nat} {z : Sh} {h : Hp} {v0 : Nat} {r : Int32} {h' : Hp} {zE : Sh} (hf : f_X0_drawingIsBest n z h v0 = some (r, h', zE)) : Ca l s0 E yX0_drawingIsBest cX0_drawingIsBest 2 (some .boolean) 67 3746 [.ref v0] z zE h h' (some (.int r)) := by
  refine Ca.of G (by decide +kernel) (Nat.le_of_ble_eq_true rfl) (mo_X0_drawingIsBest hf) ?_
  intro p e s m below meth c ls B hw hM hr hlk hnm0 hl
  have B : Bd p s0 s E m c cX0_drawingIsBest 2 RX0 := B
  have hx := B.1
  have hb := B.2.1
  have hl : lv_has ls 2 [(0, .ref v0)] := hl
  unfold f_X0_drawingIsBest at hf
  obtain ⟨_, hf⟩ := if_some hf
  obtain ⟨_, hf⟩ := gd3_some hf
  refine lv_aload_n hx hb dX0_drawingIsBest_0 rfl (lv_at hl 0 rfl) ?_
  obtain ⟨a1, e, hf⟩ := ob hf
  refine q_getR e B hw fd_0_0.1 fd_0_0.2.1 fd_0_0.2.2.1 fd_0_0.2.2.2.1 fd_0_0.2.2.2.2 rfl tw_2_64 dX0_drawingIsBest_1 ?_
  obtain ⟨x2, e, hf⟩ := ob hf
  refine q_getIN e B hw fd_10_8.1 fd_10_8.2.1 fd_10_8.2.2.1 fd_10_8.2.2.2.1 fd_10_8.2.2.2.2 rfl tw_2_1 dX0_drawingIsBest_4 ?_
  refine lv_istore_n (lv' := [(1, .int x2), (0, .ref v0)]) hx hb dX0_drawingIsBest_7 rfl hl (by decide) rfl (fun ls hl => ?_)
  refine lv_aload_n hx hb dX0_drawingIsBest_8 rfl (lv_at hl 1 rfl) ?_
  obtain ⟨a3, e, hf⟩ := ob hf
  refine q_getR e B hw fd_0_0.1 fd_0_0.2.1 fd_0_0.2.2.1 fd_0_0.2.2.2.1 fd_0_0.2.2.2.2 rfl tw_2_64 dX0_drawingIsBest_9 ?_
  refine lv_iload_n hx hb dX0_drawingIsBest_12 rfl (lv_at hl 0 rfl) ?_
  obtain ⟨x4, e, hf⟩ := ob hf
  refine q_callVN (As := [.int x2]) (rest := []) (st1 := [.int x4]) (c_X10_afterDrawing G e) B hw hM.hz hM.hc0 (k_X10_afterDrawing e) (by decide) (ci := 10) rfl rfl my_X10_afterDrawing mv_X10_afterDrawing tw_5_66 ⟨Nat.le_of_ble_eq_true rfl, Nat.le_of_ble_eq_true rfl⟩ hM.hcs rfl hl.1 rfl rfl (Nat.le_of_ble_eq_true rfl) dX0_drawingIsBest_13 (fun H locs hw => ?_)
  refine lv_iconst (v := (-1)) hx hb dX0_drawingIsBest_16 (by decide) ?_
  refine lv_icmp_eq (tgt := 43) hx hb dX0_drawingIsBest_17 (by decide) (fun c5 => ?_) (fun c5 => ?_)
  · have hf := (if_pos c5).symm.trans hf
    refine lv_iconst (v := 0) hx hb dX0_drawingIsBest_43 (by decide) ?_
    obtain ⟨rfl, rfl, rfl⟩ := so3 hf
    exact q_zret (Or.inl rfl) B hw hM.hz hM.hc0 hr hlk dX0_drawingIsBest_44
  · have hf := (if_neg c5).symm.trans hf
    refine lv_aload_n hx hb dX0_drawingIsBest_20 rfl (lv_at hl 1 rfl) ?_
    refine lv_iload_n hx hb dX0_drawingIsBest_21 rfl (lv_at hl 0 rfl) ?_
    refine lv_aload_n hx hb dX0_drawingIsBest_22 rfl (lv_at hl 1 rfl) ?_
    refine lv_iload_n hx hb dX0_drawingIsBest_23 rfl (lv_at hl 0 rfl) ?_
    obtain ⟨x6, e, hf⟩ := ob hf
    refine q_callV (As := [.int x2]) (rest := [.int x2, .ref v0]) (st1 := [.int x6, .int x2, .ref v0]) (c_X0_tenthsAt G e) B hw hM.hz hM.hc0 (k_X0_tenthsAt e) (by decide) (ci := 0) rfl rfl my_X0_tenthsAt mv_X0_tenthsAt tw_5_56 ⟨Nat.le_of_ble_eq_true rfl, Nat.le_of_ble_eq_true rfl⟩ hM.hcs rfl hl.1 rfl rfl (Nat.le_of_ble_eq_true rfl) dX0_drawingIsBest_24 (fun H locs hw => ?_)
    obtain ⟨⟨x7, h8, z9⟩, e, hf⟩ := ob hf
    obtain ⟨hg, hf⟩ := gd3_some hf
    refine q_callVA (As := [.int x2, .int x6]) (rest := []) (st1 := [.long x7]) (c_X0_meanByDrawing G e) (mo_X0_meanByDrawing e) hg B hw hM (k_X0_meanByDrawing e) (by decide) (ci := 0) rfl rfl my_X0_meanByDrawing mv_X0_meanByDrawing tw_5_62 ⟨Nat.le_of_ble_eq_true rfl, Nat.le_of_ble_eq_true rfl⟩ rfl hl.1 rfl rfl (Nat.le_of_ble_eq_true rfl) dX0_drawingIsBest_27 (fun H locs hw hM => ?_)
    refine lv_aload_n hx hb dX0_drawingIsBest_30 rfl (lv_at hl 1 rfl) ?_
    refine lv_iload_n hx hb dX0_drawingIsBest_31 rfl (lv_at hl 0 rfl) ?_
    obtain ⟨⟨x10, h11, z12⟩, e, hf⟩ := ob hf
    obtain ⟨hg, hf⟩ := gd3_some hf
    refine q_callVA (As := [.int x2]) (rest := [.long x7]) (st1 := [.long x10, .long x7]) (c_X0_meanFrom G e) (mo_X0_meanFrom e) hg B hw hM (k_X0_meanFrom e) (by decide) (ci := 0) rfl rfl my_X0_meanFrom mv_X0_meanFrom tw_5_67 ⟨Nat.le_of_ble_eq_true rfl, Nat.le_of_ble_eq_true rfl⟩ rfl hl.1 rfl rfl (Nat.le_of_ble_eq_true rfl) dX0_drawingIsBest_32 (fun H locs hw hM => ?_)
    refine W.lcmp hx hb dX0_drawingIsBest_35 ?_
    refine lv_if_ne (tgt := 43) hx hb dX0_drawingIsBest_36 (by decide) (fun c13 => ?_) (fun c13 => ?_)
    · have hf := (if_neg c13).symm.trans hf
      refine lv_iconst (v := 0) hx hb dX0_drawingIsBest_43 (by decide) ?_
      obtain ⟨rfl, rfl, rfl⟩ := so3 hf
      exact q_zret (Or.inl rfl) B hw hM.hz hM.hc0 hr hlk dX0_drawingIsBest_44
    · have hf := (if_pos c13).symm.trans hf
      refine lv_iconst (v := 1) hx hb dX0_drawingIsBest_39 (by decide) ?_
      refine lv_goto (tgt := 44) hx hb dX0_drawingIsBest_40 (by decide) ?_
      obtain ⟨rfl, rfl, rfl⟩ := so3 hf
      exact q_zret (Or.inr rfl) B hw hM.hz hM.hc0 hr hlk dX0_drawingIsBest_44
