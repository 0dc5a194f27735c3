/-! SecondLife$Deeds.doTold(LSecondLife$Town;LSecondLife$People;J)I -/
def f_X2_doTold_89 (n : Nat) (z : Sh) (h : Hp) (v0 : Nat) (v2 : Nat) (v3 : Int64) : Option (Int32 × Hp) :=
  if (lg_cmp v3 1000) < 0 then
    some ((1 : Int32), h)
  else
    if 0 < (lg_cmp v3 1999) then
      some ((1 : Int32), h)
    else
      (dvJ (v3 - 1000) 100).bind fun x3 =>
      (rmJ v3 100).bind fun x4 =>
      (f_X2_pledges z h v0 v2 (Int64.toInt32 x3) (Int64.toInt32 x4)).bind fun (x5, h6) =>
      some (x5, h6)
def f_X2_doTold_61 (n : Nat) (z : Sh) (h : Hp) (v0 : Nat) (v2 : Nat) (v3 : Int64) : Option (Int32 × Hp) :=
  if (lg_cmp v3 110) < 0 then
    f_X2_doTold_89 n z h v0 v2 v3
  else
    if 0 < (lg_cmp v3 119) then
      f_X2_doTold_89 n z h v0 v2 v3
    else
      (f_X2_redeems z h v0 v2 (Int64.toInt32 (v3 - 110))).bind fun (x3, h4) =>
      some (x3, h4)
def f_X2_doTold_32 (n : Nat) (z : Sh) (h : Hp) (v0 : Nat) (v1 : Nat) (v2 : Nat) (v3 : Int64) : Option (Int32 × Hp) :=
  if (lg_cmp v3 100) < 0 then
    f_X2_doTold_61 n z h v0 v2 v3
  else
    if 0 < (lg_cmp v3 109) then
      f_X2_doTold_61 n z h v0 v2 v3
    else
      (f_X2_draws n z h v0 v1 v2 (Int64.toInt32 (v3 - 100))).bind fun (x3, h4) =>
      some (x3, h4)
def f_X2_doTold (n : Nat) (z : Sh) (h : Hp) (v0 : Nat) (v1 : Nat) (v2 : Nat) (v3 : Int64) : Option (Int32 × Hp) :=
  if z.K v0 = 2 then
    if (lg_cmp v3 0) < 0 then
      f_X2_doTold_32 n z h v0 v1 v2 v3
    else
      if 0 < (lg_cmp v3 99) then
        f_X2_doTold_32 n z h v0 v1 v2 v3
      else
        (dvJ v3 10).bind fun x3 =>
        (rmJ v3 10).bind fun x4 =>
        (f_X2_lives n z h v0 v1 v2 (Int64.toInt32 x3) x4).bind fun (x5, h6) =>
        some (x5, h6)
  else none
theorem k_X2_doTold {n : Nat} {z : Sh} {h : Hp} {v0 : Nat} {v1 : Nat} {v2 : Nat} {v3 : Int64} {w : Int32 × Hp} (hf : f_X2_doTold n z h v0 v1 v2 v3 = some w) : z.K v0 = 2 := by
  unfold f_X2_doTold at hf
  exact (if_some hf).1
set_option maxHeartbeats 4000000 in
theorem w_X2_doTold_89 {p : Program} {l : Launch} {e : Env} {s : State} {m : MethodId} {args : Array Value} {below : List Frame} {meth : Method} {c : Code} {s0 : State} {E : Ev} {z : Sh} {n : Nat} {r : Int32} {h' : Hp} (G : Gl s0 E) (B : Bd p s0 s E m c cX2_doTold 5 RX2) (hz : s0.heap.size ≤ z.sz) (hc0 : s.heap.size + 0 = z.sz) (hr : meth.sig.returnType = (some .int)) (hlk : meth.locks = false) : ∀ (h : Hp) (v0 : Nat) (v2 : Nat) (v3 : Int64) (H : Heap) (locs : List Loc) (ls : Array Slot), Pw s0 s E z h H locs → lv_has ls 5 [(0, .ref v0), (2, .ref v2), (3, .long v3)] → f_X2_doTold_89 n z h v0 v2 v3 = some (r, h') → W p l e (rmO 5 121) s m args below meth c H locs 0 0 (Zt below s0 E z h' (some (.int r)) args s 0 0) (F0 m 89 ls []) := by
  have hx := B.1
  have hb := B.2.1
  intro h v0 v2 v3 H locs ls hw hl hf
  unfold f_X2_doTold_89 at hf
  refine lv_lload_n hx hb dX2_doTold_89 rfl (lv_at hl 2 rfl) ?_
  refine lv_ldc2 hx hb B.2.2.2.1 (B.w tw_4_120 rfl) dX2_doTold_90 ?_
  refine W.lcmp hx hb dX2_doTold_93 ?_
  refine lv_if_lt (tgt := 127) hx hb dX2_doTold_94 (by decide) (fun c1 => ?_) (fun c1 => ?_)
  · have hf := (if_pos c1).symm.trans hf
    refine lv_iconst (v := 1) hx hb dX2_doTold_127 (by decide) ?_
    obtain ⟨rfl, rfl⟩ := so2 hf
    exact q_iret B hw hz hc0 hr hlk dX2_doTold_128
  · have hf := (if_neg c1).symm.trans hf
    refine lv_lload_n hx hb dX2_doTold_97 rfl (lv_at hl 2 rfl) ?_
    refine lv_ldc2 hx hb B.2.2.2.1 (B.w tw_4_121 rfl) dX2_doTold_98 ?_
    refine W.lcmp hx hb dX2_doTold_101 ?_
    refine lv_if_gt (tgt := 127) hx hb dX2_doTold_102 (by decide) (fun c2 => ?_) (fun c2 => ?_)
    · have hf := (if_pos c2).symm.trans hf
      refine lv_iconst (v := 1) hx hb dX2_doTold_127 (by decide) ?_
      obtain ⟨rfl, rfl⟩ := so2 hf
      exact q_iret B hw hz hc0 hr hlk dX2_doTold_128
    · have hf := (if_neg c2).symm.trans hf
      refine lv_aload_n hx hb dX2_doTold_105 rfl (lv_at hl 0 rfl) ?_
      refine lv_aload_n hx hb dX2_doTold_106 rfl (lv_at hl 1 rfl) ?_
      refine lv_lload_n hx hb dX2_doTold_107 rfl (lv_at hl 2 rfl) ?_
      refine lv_ldc2 hx hb B.2.2.2.1 (B.w tw_4_120 rfl) dX2_doTold_108 ?_
      refine lv_lsub hx hb dX2_doTold_111 ?_
      refine lv_ldc2 hx hb B.2.2.2.1 (B.w tw_4_114 rfl) dX2_doTold_112 ?_
      obtain ⟨x3, e, hf⟩ := ob hf
      refine q_ldiv e hx hb dX2_doTold_115 ?_
      refine lv_l2i (v := (Int64.toInt32 x3)) hx hb dX2_doTold_116 rfl ?_
      refine lv_lload_n hx hb dX2_doTold_117 rfl (lv_at hl 2 rfl) ?_
      refine lv_ldc2 hx hb B.2.2.2.1 (B.w tw_4_114 rfl) dX2_doTold_118 ?_
      obtain ⟨x4, e, hf⟩ := ob hf
      refine q_lrem e hx hb dX2_doTold_121 ?_
      refine lv_l2i (v := (Int64.toInt32 x4)) hx hb dX2_doTold_122 rfl ?_
      obtain ⟨⟨x5, h6⟩, e, hf⟩ := ob hf
      refine q_callV (As := [.ref v2, .int (Int64.toInt32 x3), .int (Int64.toInt32 x4)]) (rest := []) (st1 := [.int x5]) (c_X2_pledges G e) B hw hz hc0 (k_X2_pledges e) (by decide) (ci := 2) rfl rfl my_X2_pledges mv_X2_pledges tw_4_122 ⟨Nat.le_of_ble_eq_true rfl, Nat.le_of_ble_eq_true rfl⟩ ⟨Nat.zero_le _, Nat.zero_le _⟩ rfl hl.1 rfl rfl (Nat.le_of_ble_eq_true rfl) dX2_doTold_123 (fun H locs hw => ?_)
      obtain ⟨rfl, rfl⟩ := so2 hf
      exact q_iret B hw hz hc0 hr hlk dX2_doTold_126
set_option maxHeartbeats 4000000 in
theorem w_X2_doTold_61 {p : Program} {l : Launch} {e : Env} {s : State} {m : MethodId} {args : Array Value} {below : List Frame} {meth : Method} {c : Code} {s0 : State} {E : Ev} {z : Sh} {n : Nat} {r : Int32} {h' : Hp} (G : Gl s0 E) (B : Bd p s0 s E m c cX2_doTold 5 RX2) (hz : s0.heap.size ≤ z.sz) (hc0 : s.heap.size + 0 = z.sz) (hr : meth.sig.returnType = (some .int)) (hlk : meth.locks = false) : ∀ (h : Hp) (v0 : Nat) (v2 : Nat) (v3 : Int64) (H : Heap) (locs : List Loc) (ls : Array Slot), Pw s0 s E z h H locs → lv_has ls 5 [(0, .ref v0), (2, .ref v2), (3, .long v3)] → f_X2_doTold_61 n z h v0 v2 v3 = some (r, h') → W p l e (rmO 5 121) s m args below meth c H locs 0 0 (Zt below s0 E z h' (some (.int r)) args s 0 0) (F0 m 61 ls []) := by
  have hx := B.1
  have hb := B.2.1
  intro h v0 v2 v3 H locs ls hw hl hf
  unfold f_X2_doTold_61 at hf
  refine lv_lload_n hx hb dX2_doTold_61 rfl (lv_at hl 2 rfl) ?_
  refine lv_ldc2 hx hb B.2.2.2.1 (B.w tw_4_117 rfl) dX2_doTold_62 ?_
  refine W.lcmp hx hb dX2_doTold_65 ?_
  refine lv_if_lt (tgt := 89) hx hb dX2_doTold_66 (by decide) (fun c1 => ?_) (fun c1 => ?_)
  · have hf := (if_pos c1).symm.trans hf
    exact w_X2_doTold_89 G B hz hc0 hr hlk  h v0 v2 v3 _ _ _ hw (lv_sub hl [0, 1, 2] rfl) hf
  · have hf := (if_neg c1).symm.trans hf
    refine lv_lload_n hx hb dX2_doTold_69 rfl (lv_at hl 2 rfl) ?_
    refine lv_ldc2 hx hb B.2.2.2.1 (B.w tw_4_118 rfl) dX2_doTold_70 ?_
    refine W.lcmp hx hb dX2_doTold_73 ?_
    refine lv_if_gt (tgt := 89) hx hb dX2_doTold_74 (by decide) (fun c2 => ?_) (fun c2 => ?_)
    · have hf := (if_pos c2).symm.trans hf
      exact w_X2_doTold_89 G B hz hc0 hr hlk  h v0 v2 v3 _ _ _ hw (lv_sub hl [0, 1, 2] rfl) hf
    · have hf := (if_neg c2).symm.trans hf
      refine lv_aload_n hx hb dX2_doTold_77 rfl (lv_at hl 0 rfl) ?_
      refine lv_aload_n hx hb dX2_doTold_78 rfl (lv_at hl 1 rfl) ?_
      refine lv_lload_n hx hb dX2_doTold_79 rfl (lv_at hl 2 rfl) ?_
      refine lv_ldc2 hx hb B.2.2.2.1 (B.w tw_4_117 rfl) dX2_doTold_80 ?_
      refine lv_lsub hx hb dX2_doTold_83 ?_
      refine lv_l2i (v := (Int64.toInt32 (v3 - 110))) hx hb dX2_doTold_84 rfl ?_
      obtain ⟨⟨x3, h4⟩, e, hf⟩ := ob hf
      refine q_callV (As := [.ref v2, .int (Int64.toInt32 (v3 - 110))]) (rest := []) (st1 := [.int x3]) (c_X2_redeems G e) B hw hz hc0 (k_X2_redeems e) (by decide) (ci := 2) rfl rfl my_X2_redeems mv_X2_redeems tw_4_119 ⟨Nat.le_of_ble_eq_true rfl, Nat.le_of_ble_eq_true rfl⟩ ⟨Nat.zero_le _, Nat.zero_le _⟩ rfl hl.1 rfl rfl (Nat.le_of_ble_eq_true rfl) dX2_doTold_85 (fun H locs hw => ?_)
      obtain ⟨rfl, rfl⟩ := so2 hf
      exact q_iret B hw hz hc0 hr hlk dX2_doTold_88
set_option maxHeartbeats 4000000 in
theorem w_X2_doTold_32 {p : Program} {l : Launch} {e : Env} {s : State} {m : MethodId} {args : Array Value} {below : List Frame} {meth : Method} {c : Code} {s0 : State} {E : Ev} {z : Sh} {n : Nat} {r : Int32} {h' : Hp} (G : Gl s0 E) (B : Bd p s0 s E m c cX2_doTold 5 RX2) (hz : s0.heap.size ≤ z.sz) (hc0 : s.heap.size + 0 = z.sz) (hr : meth.sig.returnType = (some .int)) (hlk : meth.locks = false) : ∀ (h : Hp) (v0 : Nat) (v1 : Nat) (v2 : Nat) (v3 : Int64) (H : Heap) (locs : List Loc) (ls : Array Slot), Pw s0 s E z h H locs → lv_has ls 5 [(0, .ref v0), (1, .ref v1), (2, .ref v2), (3, .long v3)] → f_X2_doTold_32 n z h v0 v1 v2 v3 = some (r, h') → W p l e (rmO 5 121) s m args below meth c H locs 0 0 (Zt below s0 E z h' (some (.int r)) args s 0 0) (F0 m 32 ls []) := by
  have hx := B.1
  have hb := B.2.1
  intro h v0 v1 v2 v3 H locs ls hw hl hf
  unfold f_X2_doTold_32 at hf
  refine lv_lload_n hx hb dX2_doTold_32 rfl (lv_at hl 3 rfl) ?_
  refine lv_ldc2 hx hb B.2.2.2.1 (B.w tw_4_114 rfl) dX2_doTold_33 ?_
  refine W.lcmp hx hb dX2_doTold_36 ?_
  refine lv_if_lt (tgt := 61) hx hb dX2_doTold_37 (by decide) (fun c1 => ?_) (fun c1 => ?_)
  · have hf := (if_pos c1).symm.trans hf
    exact w_X2_doTold_61 G B hz hc0 hr hlk  h v0 v2 v3 _ _ _ hw (lv_sub hl [0, 2, 3] rfl) hf
  · have hf := (if_neg c1).symm.trans hf
    refine lv_lload_n hx hb dX2_doTold_40 rfl (lv_at hl 3 rfl) ?_
    refine lv_ldc2 hx hb B.2.2.2.1 (B.w tw_4_115 rfl) dX2_doTold_41 ?_
    refine W.lcmp hx hb dX2_doTold_44 ?_
    refine lv_if_gt (tgt := 61) hx hb dX2_doTold_45 (by decide) (fun c2 => ?_) (fun c2 => ?_)
    · have hf := (if_pos c2).symm.trans hf
      exact w_X2_doTold_61 G B hz hc0 hr hlk  h v0 v2 v3 _ _ _ hw (lv_sub hl [0, 2, 3] rfl) hf
    · have hf := (if_neg c2).symm.trans hf
      refine lv_aload_n hx hb dX2_doTold_48 rfl (lv_at hl 0 rfl) ?_
      refine lv_aload_n hx hb dX2_doTold_49 rfl (lv_at hl 1 rfl) ?_
      refine lv_aload_n hx hb dX2_doTold_50 rfl (lv_at hl 2 rfl) ?_
      refine lv_lload_n hx hb dX2_doTold_51 rfl (lv_at hl 3 rfl) ?_
      refine lv_ldc2 hx hb B.2.2.2.1 (B.w tw_4_114 rfl) dX2_doTold_52 ?_
      refine lv_lsub hx hb dX2_doTold_55 ?_
      refine lv_l2i (v := (Int64.toInt32 (v3 - 100))) hx hb dX2_doTold_56 rfl ?_
      obtain ⟨⟨x3, h4⟩, e, hf⟩ := ob hf
      refine q_callV (As := [.ref v1, .ref v2, .int (Int64.toInt32 (v3 - 100))]) (rest := []) (st1 := [.int x3]) (c_X2_draws G e) B hw hz hc0 (k_X2_draws e) (by decide) (ci := 2) rfl rfl my_X2_draws mv_X2_draws tw_4_116 ⟨Nat.le_of_ble_eq_true rfl, Nat.le_of_ble_eq_true rfl⟩ ⟨Nat.zero_le _, Nat.zero_le _⟩ rfl hl.1 rfl rfl (Nat.le_of_ble_eq_true rfl) dX2_doTold_57 (fun H locs hw => ?_)
      obtain ⟨rfl, rfl⟩ := so2 hf
      exact q_iret B hw hz hc0 hr hlk dX2_doTold_60
set_option maxHeartbeats 4000000 in
theorem c_X2_doTold {l : Launch} {s0 : State} {E : Ev} (G : Gl s0 E) {n : Nat} {z : Sh} {h : Hp} {v0 : Nat} {v1 : Nat} {v2 : Nat} {v3 : Int64} {r : Int32} {h' : Hp} (hf : f_X2_doTold n z h v0 v1 v2 v3 = some (r, h')) : Ct l s0 E yX2_doTold cX2_doTold 5 (some .int) 5 121 [.ref v0, .ref v1, .ref v2, .long v3] z h h' (some (.int r)) := by
  refine Ct.of G (by decide) (Nat.le_of_ble_eq_true rfl) ?_
  intro p e s m below meth c ls B hw hz hc0 hr hlk hl
  have B : Bd p s0 s E m c cX2_doTold 5 RX2 := B
  have hx := B.1
  have hb := B.2.1
  have hl : lv_has ls 5 [(0, .ref v0), (1, .ref v1), (2, .ref v2), (3, .long v3)] := hl
  unfold f_X2_doTold at hf
  obtain ⟨_, hf⟩ := if_some hf
  refine lv_lload_n hx hb dX2_doTold_0 rfl (lv_at hl 3 rfl) ?_
  refine lv_lconst (v := 0) hx hb dX2_doTold_1 (by decide) ?_
  refine W.lcmp hx hb dX2_doTold_2 ?_
  refine lv_if_lt (tgt := 32) hx hb dX2_doTold_3 (by decide) (fun c1 => ?_) (fun c1 => ?_)
  · have hf := (if_pos c1).symm.trans hf
    exact w_X2_doTold_32 G B hz hc0 hr hlk  h v0 v1 v2 v3 _ _ _ hw (lv_sub hl [0, 1, 2, 3] rfl) hf
  · have hf := (if_neg c1).symm.trans hf
    refine lv_lload_n hx hb dX2_doTold_6 rfl (lv_at hl 3 rfl) ?_
    refine lv_ldc2 hx hb B.2.2.2.1 (B.w tw_4_111 rfl) dX2_doTold_7 ?_
    refine W.lcmp hx hb dX2_doTold_10 ?_
    refine lv_if_gt (tgt := 32) hx hb dX2_doTold_11 (by decide) (fun c2 => ?_) (fun c2 => ?_)
    · have hf := (if_pos c2).symm.trans hf
      exact w_X2_doTold_32 G B hz hc0 hr hlk  h v0 v1 v2 v3 _ _ _ hw (lv_sub hl [0, 1, 2, 3] rfl) hf
    · have hf := (if_neg c2).symm.trans hf
      refine lv_aload_n hx hb dX2_doTold_14 rfl (lv_at hl 0 rfl) ?_
      refine lv_aload_n hx hb dX2_doTold_15 rfl (lv_at hl 1 rfl) ?_
      refine lv_aload_n hx hb dX2_doTold_16 rfl (lv_at hl 2 rfl) ?_
      refine lv_lload_n hx hb dX2_doTold_17 rfl (lv_at hl 3 rfl) ?_
      refine lv_ldc2 hx hb B.2.2.2.1 (B.w tw_4_112 rfl) dX2_doTold_18 ?_
      obtain ⟨x3, e, hf⟩ := ob hf
      refine q_ldiv e hx hb dX2_doTold_21 ?_
      refine lv_l2i (v := (Int64.toInt32 x3)) hx hb dX2_doTold_22 rfl ?_
      refine lv_lload_n hx hb dX2_doTold_23 rfl (lv_at hl 3 rfl) ?_
      refine lv_ldc2 hx hb B.2.2.2.1 (B.w tw_4_112 rfl) dX2_doTold_24 ?_
      obtain ⟨x4, e, hf⟩ := ob hf
      refine q_lrem e hx hb dX2_doTold_27 ?_
      obtain ⟨⟨x5, h6⟩, e, hf⟩ := ob hf
      refine q_callV (As := [.ref v1, .ref v2, .int (Int64.toInt32 x3), .long x4]) (rest := []) (st1 := [.int x5]) (c_X2_lives G e) B hw hz hc0 (k_X2_lives e) (by decide) (ci := 2) rfl rfl my_X2_lives mv_X2_lives tw_4_113 ⟨Nat.le_of_ble_eq_true rfl, Nat.le_of_ble_eq_true rfl⟩ ⟨Nat.zero_le _, Nat.zero_le _⟩ rfl hl.1 rfl rfl (Nat.le_of_ble_eq_true rfl) dX2_doTold_28 (fun H locs hw => ?_)
      obtain ⟨rfl, rfl⟩ := so2 hf
      exact q_iret B hw hz hc0 hr hlk dX2_doTold_31
/-! SecondLife$Deeds.doAll(LSecondLife$Town;LSecondLife$People;LSecondLife$Tray;)I -/
def f_X2_doAll_8 (n : Nat) (z : Sh) : Nat → Hp → Nat → Nat → Nat → Nat → Int32 → Option (Int32 × Hp)
  | 0, _, _, _, _, _, _ => none
  | i + 1, h, v0, v1, v2, v3, v4 =>
    (gI z h 9 v3 3).bind fun x1 =>
    if x1 ≤ v4 then
      (gI z h 9 v3 3).bind fun x3 =>
      some (x3, h)
    else
      (f_X9_number z h v3 v4).bind fun x4 =>
      (f_X2_doTold n z h v0 v1 v2 x4).bind fun (x5, h6) =>
      (pI z h6 2 v0 1 x5).bind fun h7 =>
      (gI z h7 2 v0 1).bind fun x8 =>
      if x8 = 0 then
        (some (v4 + 1)).bind fun x10 =>
        (f_X2_doAll_8 n z i) h7 v0 v1 v2 v3 x10
      else
        some (v4, h7)
def f_X2_doAll (n : Nat) (z : Sh) (h : Hp) (v0 : Nat) (v1 : Nat) (v2 : Nat) (v3 : Nat) : Option (Int32 × Hp) :=
  if z.K v0 = 2 then
    (pI z h 2 v0 1 0).bind fun h1 =>
    f_X2_doAll_8 n z n h1 v0 v1 v2 v3 0
  else none
theorem k_X2_doAll {n : Nat} {z : Sh} {h : Hp} {v0 : Nat} {v1 : Nat} {v2 : Nat} {v3 : Nat} {w : Int32 × Hp} (hf : f_X2_doAll n z h v0 v1 v2 v3 = some w) : z.K v0 = 2 := by
  unfold f_X2_doAll at hf
  exact (if_some hf).1
set_option maxHeartbeats 4000000 in
theorem w_X2_doAll_8 {p : Program} {l : Launch} {e : Env} {s : State} {m : MethodId} {args : Array Value} {below : List Frame} {meth : Method} {c : Code} {s0 : State} {E : Ev} {z : Sh} {n : Nat} {r : Int32} {h' : Hp} (G : Gl s0 E) (B : Bd p s0 s E m c cX2_doAll 5 RX2) (hz : s0.heap.size ≤ z.sz) (hc0 : s.heap.size + 0 = z.sz) (hr : meth.sig.returnType = (some .int)) (hlk : meth.locks = false) : ∀ (i : Nat), ∀ (h : Hp) (v0 : Nat) (v1 : Nat) (v2 : Nat) (v3 : Nat) (v4 : Int32) (H : Heap) (locs : List Loc) (ls : Array Slot), Pw s0 s E z h H locs → lv_has ls 5 [(0, .ref v0), (1, .ref v1), (2, .ref v2), (3, .ref v3), (4, .int v4)] → f_X2_doAll_8 n z i h v0 v1 v2 v3 v4 = some (r, h') → W p l e (rmO 6 145) s m args below meth c H locs 0 0 (Zt below s0 E z h' (some (.int r)) args s 0 0) (F0 m 8 ls []) := by
  have hx := B.1
  have hb := B.2.1
  intro i
  induction i with
  | zero =>
    intro h v0 v1 v2 v3 v4 H locs ls hw hl hf
    have hf := (f_X2_doAll_8.eq_1 ..).symm.trans hf
    cases hf
  | succ i ih =>
    intro h v0 v1 v2 v3 v4 H locs ls hw hl hf
    have hf := (f_X2_doAll_8.eq_2 ..).symm.trans hf
    refine lv_iload hx hb dX2_doAll_8 (lv_at hl 4 rfl) ?_
    refine lv_aload_n hx hb dX2_doAll_10 rfl (lv_at hl 3 rfl) ?_
    obtain ⟨x1, e, hf⟩ := ob hf
    refine q_getIN e B hw fd_9_3.1 fd_9_3.2.1 fd_9_3.2.2.1 fd_9_3.2.2.2.1 fd_9_3.2.2.2.2 rfl tw_2_90 dX2_doAll_11 ?_
    refine lv_icmp_ge (tgt := 49) hx hb dX2_doAll_14 (by decide) (fun c2 => ?_) (fun c2 => ?_)
    · have hf := (if_pos c2).symm.trans hf
      refine lv_aload_n hx hb dX2_doAll_49 rfl (lv_at hl 3 rfl) ?_
      obtain ⟨x3, e, hf⟩ := ob hf
      refine q_getIN e B hw fd_9_3.1 fd_9_3.2.1 fd_9_3.2.2.1 fd_9_3.2.2.2.1 fd_9_3.2.2.2.2 rfl tw_2_90 dX2_doAll_50 ?_
      obtain ⟨rfl, rfl⟩ := so2 hf
      exact q_iret B hw hz hc0 hr hlk dX2_doAll_53
    · have hf := (if_neg c2).symm.trans hf
      refine lv_aload_n hx hb dX2_doAll_17 rfl (lv_at hl 0 rfl) ?_
      refine lv_aload_n hx hb dX2_doAll_18 rfl (lv_at hl 0 rfl) ?_
      refine lv_aload_n hx hb dX2_doAll_19 rfl (lv_at hl 1 rfl) ?_
      refine lv_aload_n hx hb dX2_doAll_20 rfl (lv_at hl 2 rfl) ?_
      refine lv_aload_n hx hb dX2_doAll_21 rfl (lv_at hl 3 rfl) ?_
      refine lv_iload hx hb dX2_doAll_22 (lv_at hl 4 rfl) ?_
      obtain ⟨x4, e, hf⟩ := ob hf
      refine q_callVN (As := [.int v4]) (rest := [.ref v2, .ref v1, .ref v0, .ref v0]) (st1 := [.long x4, .ref v2, .ref v1, .ref v0, .ref v0]) (c_X9_number G e) B hw hz hc0 (k_X9_number e) (by decide) (ci := 9) rfl rfl my_X9_number mv_X9_number tw_4_103 ⟨Nat.le_of_ble_eq_true rfl, Nat.le_of_ble_eq_true rfl⟩ ⟨Nat.zero_le _, Nat.zero_le _⟩ rfl hl.1 rfl rfl (Nat.le_of_ble_eq_true rfl) dX2_doAll_24 (fun H locs hw => ?_)
      obtain ⟨⟨x5, h6⟩, e, hf⟩ := ob hf
      refine q_callV (As := [.ref v1, .ref v2, .long x4]) (rest := [.ref v0]) (st1 := [.int x5, .ref v0]) (c_X2_doTold G e) B hw hz hc0 (k_X2_doTold e) (by decide) (ci := 2) rfl rfl my_X2_doTold mv_X2_doTold tw_4_107 ⟨Nat.le_of_ble_eq_true rfl, Nat.le_of_ble_eq_true rfl⟩ ⟨Nat.zero_le _, Nat.zero_le _⟩ rfl hl.1 rfl rfl (Nat.le_of_ble_eq_true rfl) dX2_doAll_27 (fun H locs hw => ?_)
      obtain ⟨h7, e, hf⟩ := ob hf
      refine q_putI e B hw fd_2_1.1 fd_2_1.2.1 fd_2_1.2.2.1 fd_2_1.2.2.2.1 fd_2_1.2.2.2.2 rfl rfl (tyX2_ok 1 (by decide)) tyX2 tyX2_ok nmX2 tw_1_207 dX2_doAll_30 (fun H locs hw => ?_)
      refine lv_aload_n hx hb dX2_doAll_33 rfl (lv_at hl 0 rfl) ?_
      obtain ⟨x8, e, hf⟩ := ob hf
      refine q_getI e B hw fd_2_1.1 fd_2_1.2.1 fd_2_1.2.2.1 fd_2_1.2.2.2.1 fd_2_1.2.2.2.2 rfl tw_1_207 dX2_doAll_34 ?_
      refine lv_if_eq (tgt := 43) hx hb dX2_doAll_37 (by decide) (fun c9 => ?_) (fun c9 => ?_)
      · have hf := (if_pos c9).symm.trans hf
        obtain ⟨x10, e, hf⟩ := ob hf
        refine lv_iinc (v := x10) (lv' := [(4, .int x10), (0, .ref v0), (1, .ref v1), (2, .ref v2), (3, .ref v3)]) hx hb dX2_doAll_43 hl (k := 4) rfl (Option.some.inj e) (by decide) rfl (fun ls hl => ?_)
        refine lv_goto (tgt := 8) hx hb dX2_doAll_46 (by decide) ?_
        exact ih h7 v0 v1 v2 v3 x10 _ _ _ hw (lv_sub hl [1, 2, 3, 4, 0] rfl) hf
      · have hf := (if_neg c9).symm.trans hf
        refine lv_iload hx hb dX2_doAll_40 (lv_at hl 4 rfl) ?_
        obtain ⟨rfl, rfl⟩ := so2 hf
        exact q_iret B hw hz hc0 hr hlk dX2_doAll_42
set_option maxHeartbeats 4000000 in
theorem c_X2_doAll {l : Launch} {s0 : State} {E : Ev} (G : Gl s0 E) {n : Nat} {z : Sh} {h : Hp} {v0 : Nat} {v1 : Nat} {v2 : Nat} {v3 : Nat} {r : Int32} {h' : Hp} (hf : f_X2_doAll n z h v0 v1 v2 v3 = some (r, h')) : Ct l s0 E yX2_doAll cX2_doAll 5 (some .int) 6 145 [.ref v0, .ref v1, .ref v2, .ref v3] z h h' (some (.int r)) := by
  refine Ct.of G (by decide) (Nat.le_of_ble_eq_true rfl) ?_
  intro p e s m below meth c ls B hw hz hc0 hr hlk hl
  have B : Bd p s0 s E m c cX2_doAll 5 RX2 := B
  have hx := B.1
  have hb := B.2.1
  have hl : lv_has ls 5 [(0, .ref v0), (1, .ref v1), (2, .ref v2), (3, .ref v3)] := hl
  unfold f_X2_doAll at hf
  obtain ⟨_, hf⟩ := if_some hf
  refine lv_aload_n hx hb dX2_doAll_0 rfl (lv_at hl 0 rfl) ?_
  refine lv_iconst (v := 0) hx hb dX2_doAll_1 (by decide) ?_
  obtain ⟨h1, e, hf⟩ := ob hf
  refine q_putI e B hw fd_2_1.1 fd_2_1.2.1 fd_2_1.2.2.1 fd_2_1.2.2.2.1 fd_2_1.2.2.2.2 rfl rfl (tyX2_ok 1 (by decide)) tyX2 tyX2_ok nmX2 tw_1_207 dX2_doAll_2 (fun H locs hw => ?_)
  refine lv_iconst (v := 0) hx hb dX2_doAll_5 (by decide) ?_
  refine lv_istore (lv' := [(4, .int 0), (0, .ref v0), (1, .ref v1), (2, .ref v2), (3, .ref v3)]) hx hb dX2_doAll_6 hl (by decide) rfl (fun ls hl => ?_)
  exact w_X2_doAll_8 G B hz hc0 hr hlk  n h1 v0 v1 v2 v3 0 _ _ _ hw (lv_sub hl [1, 2, 3, 4, 0] rfl) hf
/-! SecondLife$Deeds.doDrawn(LSecondLife$Town;LSecondLife$People;)I -/
def f_X2_doDrawn (n : Nat) (z : Sh) (h : Hp) (v0 : Nat) (v1 : Nat) (v2 : Nat) : Option (Int32 × Hp) :=
  if z.K v0 = 2 then
    (f_X2_nextDrawn z h v0).bind fun (x1, h2) =>
    (rmI x1 6).bind fun x3 =>
    (f_X2_nextDrawn z h2 v0).bind fun (x4, h5) =>
    (rmI x4 6).bind fun x6 =>
    if 3 < x3 then
      if x3 = 4 then
        (f_X2_draws n z h5 v0 v1 v2 x6).bind fun (x14, h15) =>
        some (x14, h15)
      else
        (f_X2_nextDrawn z h5 v0).bind fun (x9, h10) =>
        (rmI x9 9).bind fun x11 =>
        (f_X2_pledges z h10 v0 v2 x6 (1 + x11)).bind fun (x12, h13) =>
        some (x12, h13)
    else
      (f_X2_nextDrawn z h5 v0).bind fun (x16, h17) =>
      (rmI x16 4).bind fun x18 =>
      (f_X2_lives n z h17 v0 v1 v2 x6 (Int32.toInt64 x18)).bind fun (x19, h20) =>
      some (x19, h20)
  else none
theorem k_X2_doDrawn {n : Nat} {z : Sh} {h : Hp} {v0 : Nat} {v1 : Nat} {v2 : Nat} {w : Int32 × Hp} (hf : f_X2_doDrawn n z h v0 v1 v2 = some w) : z.K v0 = 2 := by
  unfold f_X2_doDrawn at hf
  exact (if_some hf).1
set_option maxHeartbeats 4000000 in
theorem c_X2_doDrawn {l : Launch} {s0 : State} {E : Ev} (G : Gl s0 E) {n : Nat} {z : Sh} {h : Hp} {v0 : Nat} {v1 : Nat} {v2 : Nat} {r : Int32} {h' : Hp} (hf : f_X2_doDrawn n z h v0 v1 v2 = some (r, h')) : Ct l s0 E yX2_doDrawn cX2_doDrawn 5 (some .int) 5 121 [.ref v0, .ref v1, .ref v2] z h h' (some (.int r)) := by
  refine Ct.of G (by decide) (Nat.le_of_ble_eq_true rfl) ?_
  intro p e s m below meth c ls B hw hz hc0 hr hlk hl
  have B : Bd p s0 s E m c cX2_doDrawn 5 RX2 := B
  have hx := B.1
  have hb := B.2.1
  have hl : lv_has ls 5 [(0, .ref v0), (1, .ref v1), (2, .ref v2)] := hl
  unfold f_X2_doDrawn at hf
  obtain ⟨_, hf⟩ := if_some hf
  refine lv_aload_n hx hb dX2_doDrawn_0 rfl (lv_at hl 0 rfl) ?_
  obtain ⟨⟨x1, h2⟩, e, hf⟩ := ob hf
  refine q_callV (As := []) (rest := []) (st1 := [.int x1]) (c_X2_nextDrawn G e) B hw hz hc0 (k_X2_nextDrawn e) (by decide) (ci := 2) rfl rfl my_X2_nextDrawn mv_X2_nextDrawn tw_4_148 ⟨Nat.le_of_ble_eq_true rfl, Nat.le_of_ble_eq_true rfl⟩ ⟨Nat.zero_le _, Nat.zero_le _⟩ rfl hl.1 rfl rfl (Nat.le_of_ble_eq_true rfl) dX2_doDrawn_1 (fun H locs hw => ?_)
  refine lv_bipush (v := 6) hx hb dX2_doDrawn_4 (by decide) ?_
  obtain ⟨x3, e, hf⟩ := ob hf
  refine q_irem e hx hb dX2_doDrawn_6 ?_
  refine lv_istore_n (lv' := [(3, .int x3), (0, .ref v0), (1, .ref v1), (2, .ref v2)]) hx hb dX2_doDrawn_7 rfl hl (by decide) rfl (fun ls hl => ?_)
  refine lv_aload_n hx hb dX2_doDrawn_8 rfl (lv_at hl 1 rfl) ?_
  obtain ⟨⟨x4, h5⟩, e, hf⟩ := ob hf
  refine q_callV (As := []) (rest := []) (st1 := [.int x4]) (c_X2_nextDrawn G e) B hw hz hc0 (k_X2_nextDrawn e) (by decide) (ci := 2) rfl rfl my_X2_nextDrawn mv_X2_nextDrawn tw_4_148 ⟨Nat.le_of_ble_eq_true rfl, Nat.le_of_ble_eq_true rfl⟩ ⟨Nat.zero_le _, Nat.zero_le _⟩ rfl hl.1 rfl rfl (Nat.le_of_ble_eq_true rfl) dX2_doDrawn_9 (fun H locs hw => ?_)
  refine lv_bipush (v := 6) hx hb dX2_doDrawn_12 (by decide) ?_
  obtain ⟨x6, e, hf⟩ := ob hf
  refine q_irem e hx hb dX2_doDrawn_14 ?_
  refine lv_istore (lv' := [(4, .int x6), (3, .int x3), (0, .ref v0), (1, .ref v1), (2, .ref v2)]) hx hb dX2_doDrawn_15 hl (by decide) rfl (fun ls hl => ?_)
  refine lv_iload_n hx hb dX2_doDrawn_17 rfl (lv_at hl 1 rfl) ?_
  refine lv_iconst (v := 3) hx hb dX2_doDrawn_18 (by decide) ?_
  refine lv_icmp_gt (tgt := 38) hx hb dX2_doDrawn_19 (by decide) (fun c7 => ?_) (fun c7 => ?_)
  · have hf := (if_pos c7).symm.trans hf
    refine lv_iload_n hx hb dX2_doDrawn_38 rfl (lv_at hl 1 rfl) ?_
    refine lv_iconst (v := 4) hx hb dX2_doDrawn_39 (by decide) ?_
    refine lv_icmp_ne (tgt := 52) hx hb dX2_doDrawn_40 (by decide) (fun c8 => ?_) (fun c8 => ?_)
    · have hf := (if_neg c8).symm.trans hf
      refine lv_aload_n hx hb dX2_doDrawn_52 rfl (lv_at hl 2 rfl) ?_
      refine lv_aload_n hx hb dX2_doDrawn_53 rfl (lv_at hl 4 rfl) ?_
      refine lv_iload hx hb dX2_doDrawn_54 (lv_at hl 0 rfl) ?_
      refine lv_iconst (v := 1) hx hb dX2_doDrawn_56 (by decide) ?_
      refine lv_aload_n hx hb dX2_doDrawn_57 rfl (lv_at hl 2 rfl) ?_
      obtain ⟨⟨x9, h10⟩, e, hf⟩ := ob hf
      refine q_callV (As := []) (rest := [.int 1, .int x6, .ref v2, .ref v0]) (st1 := [.int x9, .int 1, .int x6, .ref v2, .ref v0]) (c_X2_nextDrawn G e) B hw hz hc0 (k_X2_nextDrawn e) (by decide) (ci := 2) rfl rfl my_X2_nextDrawn mv_X2_nextDrawn tw_4_148 ⟨Nat.le_of_ble_eq_true rfl, Nat.le_of_ble_eq_true rfl⟩ ⟨Nat.zero_le _, Nat.zero_le _⟩ rfl hl.1 rfl rfl (Nat.le_of_ble_eq_true rfl) dX2_doDrawn_58 (fun H locs hw => ?_)
      refine lv_bipush (v := 9) hx hb dX2_doDrawn_61 (by decide) ?_
      obtain ⟨x11, e, hf⟩ := ob hf
      refine q_irem e hx hb dX2_doDrawn_63 ?_
      refine lv_iadd hx hb dX2_doDrawn_64 ?_
      obtain ⟨⟨x12, h13⟩, e, hf⟩ := ob hf
      refine q_callV (As := [.ref v2, .int x6, .int (1 + x11)]) (rest := []) (st1 := [.int x12]) (c_X2_pledges G e) B hw hz hc0 (k_X2_pledges e) (by decide) (ci := 2) rfl rfl my_X2_pledges mv_X2_pledges tw_4_122 ⟨Nat.le_of_ble_eq_true rfl, Nat.le_of_ble_eq_true rfl⟩ ⟨Nat.zero_le _, Nat.zero_le _⟩ rfl hl.1 rfl rfl (Nat.le_of_ble_eq_true rfl) dX2_doDrawn_65 (fun H locs hw => ?_)
      obtain ⟨rfl, rfl⟩ := so2 hf
      exact q_iret B hw hz hc0 hr hlk dX2_doDrawn_68
    · have hf := (if_pos c8).symm.trans hf
      refine lv_aload_n hx hb dX2_doDrawn_43 rfl (lv_at hl 2 rfl) ?_
      refine lv_aload_n hx hb dX2_doDrawn_44 rfl (lv_at hl 3 rfl) ?_
      refine lv_aload_n hx hb dX2_doDrawn_45 rfl (lv_at hl 4 rfl) ?_
      refine lv_iload hx hb dX2_doDrawn_46 (lv_at hl 0 rfl) ?_
      obtain ⟨⟨x14, h15⟩, e, hf⟩ := ob hf
      refine q_callV (As := [.ref v1, .ref v2, .int x6]) (rest := []) (st1 := [.int x14]) (c_X2_draws G e) B hw hz hc0 (k_X2_draws e) (by decide) (ci := 2) rfl rfl my_X2_draws mv_X2_draws tw_4_116 ⟨Nat.le_of_ble_eq_true rfl, Nat.le_of_ble_eq_true rfl⟩ ⟨Nat.zero_le _, Nat.zero_le _⟩ rfl hl.1 rfl rfl (Nat.le_of_ble_eq_true rfl) dX2_doDrawn_48 (fun H locs hw => ?_)
      obtain ⟨rfl, rfl⟩ := so2 hf
      exact q_iret B hw hz hc0 hr hlk dX2_doDrawn_51
  · have hf := (if_neg c7).symm.trans hf
    refine lv_aload_n hx hb dX2_doDrawn_22 rfl (lv_at hl 2 rfl) ?_
    refine lv_aload_n hx hb dX2_doDrawn_23 rfl (lv_at hl 3 rfl) ?_
    refine lv_aload_n hx hb dX2_doDrawn_24 rfl (lv_at hl 4 rfl) ?_
    refine lv_iload hx hb dX2_doDrawn_25 (lv_at hl 0 rfl) ?_
    refine lv_aload_n hx hb dX2_doDrawn_27 rfl (lv_at hl 2 rfl) ?_
    obtain ⟨⟨x16, h17⟩, e, hf⟩ := ob hf
    refine q_callV (As := []) (rest := [.int x6, .ref v2, .ref v1, .ref v0]) (st1 := [.int x16, .int x6, .ref v2, .ref v1, .ref v0]) (c_X2_nextDrawn G e) B hw hz hc0 (k_X2_nextDrawn e) (by decide) (ci := 2) rfl rfl my_X2_nextDrawn mv_X2_nextDrawn tw_4_148 ⟨Nat.le_of_ble_eq_true rfl, Nat.le_of_ble_eq_true rfl⟩ ⟨Nat.zero_le _, Nat.zero_le _⟩ rfl hl.1 rfl rfl (Nat.le_of_ble_eq_true rfl) dX2_doDrawn_28 (fun H locs hw => ?_)
    refine lv_iconst (v := 4) hx hb dX2_doDrawn_31 (by decide) ?_
    obtain ⟨x18, e, hf⟩ := ob hf
    refine q_irem e hx hb dX2_doDrawn_32 ?_
    refine lv_i2l (v := (Int32.toInt64 x18)) hx hb dX2_doDrawn_33 rfl ?_
    obtain ⟨⟨x19, h20⟩, e, hf⟩ := ob hf
    refine q_callV (As := [.ref v1, .ref v2, .int x6, .long (Int32.toInt64 x18)]) (rest := []) (st1 := [.int x19]) (c_X2_lives G e) B hw hz hc0 (k_X2_lives e) (by decide) (ci := 2) rfl rfl my_X2_lives mv_X2_lives tw_4_113 ⟨Nat.le_of_ble_eq_true rfl, Nat.le_of_ble_eq_true rfl⟩ ⟨Nat.zero_le _, Nat.zero_le _⟩ rfl hl.1 rfl rfl (Nat.le_of_ble_eq_true rfl) dX2_doDrawn_34 (fun H locs hw => ?_)
    obtain ⟨rfl, rfl⟩ := so2 hf
    exact q_iret B hw hz hc0 hr hlk dX2_doDrawn_37
/-! SecondLife$Reader.factTold()I -/
def f_X6_factTold (n : Nat) (z : Sh) (h : Hp) (v0 : Nat) : Option (Int32) :=
  if z.K v0 = 6 then
    (f_X6_is n z h v0 (z.st 16)).bind fun x1 =>
    if x1 = 0 then
      (f_X6_is n z h v0 (z.st 37)).bind fun x3 =>
      if x3 = 0 then
        (gI z h 6 v0 9).bind fun x5 =>
        if x5 = 0 then
          some ((-1) : Int32)
        else
          (f_X6_is n z h v0 (z.st 38)).bind fun x7 =>
          if x7 = 0 then
            (f_X6_is n z h v0 (z.st 39)).bind fun x9 =>
            if x9 = 0 then
              (f_X6_is n z h v0 (z.st 40)).bind fun x11 =>
              if x11 = 0 then
                (f_X6_is n z h v0 (z.st 41)).bind fun x13 =>
                if x13 = 0 then
                  (f_X6_is n z h v0 (z.st 42)).bind fun x15 =>
                  if x15 = 0 then
                    some ((-1) : Int32)
                  else
                    some (6 : Int32)
                else
                  some (5 : Int32)
              else
                some (4 : Int32)
            else
              some (3 : Int32)
          else
            some (2 : Int32)
      else
        some (1 : Int32)
    else
      some (0 : Int32)
  else none
theorem k_X6_factTold {n : Nat} {z : Sh} {h : Hp} {v0 : Nat} {w : Int32} (hf : f_X6_factTold n z h v0 = some w) : z.K v0 = 6 := by
  unfold f_X6_factTold at hf
  exact (if_some hf).1
set_option maxHeartbeats 4000000 in
theorem c_X6_factTold {l : Launch} {s0 : State} {E : Ev} (G : Gl s0 E) {n : Nat} {z : Sh} {h : Hp} {v0 : Nat} {r : Int32} (hf : f_X6_factTold n z h v0 = some r) : Ct l s0 E yX6_factTold cX6_factTold 1 (some .int) 3 63 [.ref v0] z h h (some (.int r)) := by
  refine Ct.of G (by decide) (Nat.le_of_ble_eq_true rfl) ?_
  intro p e s m below meth c ls B hw hz hc0 hr hlk hl
  have B : Bd p s0 s E m c cX6_factTold 1 RX6 := B
  have hx := B.1
  have hb := B.2.1
  have hl : lv_has ls 1 [(0, .ref v0)] := hl
  unfold f_X6_factTold at hf
  obtain ⟨_, hf⟩ := if_some hf
  refine lv_aload_n hx hb dX6_factTold_0 rfl (lv_at hl 0 rfl) ?_
  refine q_ldcS (tx := "talent") G (i := 16) (List.mem_of_getElem? (i := 6) (by decide +kernel)) B hw dX6_factTold_1 ?_
  obtain ⟨x1, e, hf⟩ := ob hf
  refine q_callV (As := [.ref (z.st 16)]) (rest := []) (st1 := [.int x1]) (c_X6_is G e) B hw hz hc0 (k_X6_is e) (by decide) (ci := 6) rfl rfl my_X6_is mv_X6_is tw_3_46 ⟨Nat.le_of_ble_eq_true rfl, Nat.le_of_ble_eq_true rfl⟩ ⟨Nat.zero_le _, Nat.zero_le _⟩ rfl hl.1 rfl rfl (Nat.le_of_ble_eq_true rfl) dX6_factTold_3 (fun H locs hw => ?_)
  refine lv_if_eq (tgt := 11) hx hb dX6_factTold_6 (by decide) (fun c2 => ?_) (fun c2 => ?_)
  · have hf := (if_pos c2).symm.trans hf
    refine lv_aload_n hx hb dX6_factTold_11 rfl (lv_at hl 0 rfl) ?_
    refine q_ldcS (tx := "year") G (i := 37) (List.mem_of_getElem? (i := 27) (by decide +kernel)) B hw dX6_factTold_12 ?_
    obtain ⟨x3, e, hf⟩ := ob hf
    refine q_callV (As := [.ref (z.st 37)]) (rest := []) (st1 := [.int x3]) (c_X6_is G e) B hw hz hc0 (k_X6_is e) (by decide) (ci := 6) rfl rfl my_X6_is mv_X6_is tw_3_46 ⟨Nat.le_of_ble_eq_true rfl, Nat.le_of_ble_eq_true rfl⟩ ⟨Nat.zero_le _, Nat.zero_le _⟩ rfl hl.1 rfl rfl (Nat.le_of_ble_eq_true rfl) dX6_factTold_14 (fun H locs hw => ?_)
    refine lv_if_eq (tgt := 22) hx hb dX6_factTold_17 (by decide) (fun c4 => ?_) (fun c4 => ?_)
    · have hf := (if_pos c4).symm.trans hf
      refine lv_aload_n hx hb dX6_factTold_22 rfl (lv_at hl 0 rfl) ?_
      obtain ⟨x5, e, hf⟩ := ob hf
      refine q_getI e B hw fd_6_9.1 fd_6_9.2.1 fd_6_9.2.2.1 fd_6_9.2.2.2.1 fd_6_9.2.2.2.2 rfl tw_1_114 dX6_factTold_23 ?_
      refine lv_if_ne (tgt := 31) hx hb dX6_factTold_26 (by decide) (fun c6 => ?_) (fun c6 => ?_)
      · have hf := (if_neg c6).symm.trans hf
        refine lv_aload_n hx hb dX6_factTold_31 rfl (lv_at hl 0 rfl) ?_
        refine q_ldcS (tx := "trade") G (i := 38) (List.mem_of_getElem? (i := 28) (by decide +kernel)) B hw dX6_factTold_32 ?_
        obtain ⟨x7, e, hf⟩ := ob hf
        refine q_callV (As := [.ref (z.st 38)]) (rest := []) (st1 := [.int x7]) (c_X6_is G e) B hw hz hc0 (k_X6_is e) (by decide) (ci := 6) rfl rfl my_X6_is mv_X6_is tw_3_46 ⟨Nat.le_of_ble_eq_true rfl, Nat.le_of_ble_eq_true rfl⟩ ⟨Nat.zero_le _, Nat.zero_le _⟩ rfl hl.1 rfl rfl (Nat.le_of_ble_eq_true rfl) dX6_factTold_34 (fun H locs hw => ?_)
        refine lv_if_eq (tgt := 42) hx hb dX6_factTold_37 (by decide) (fun c8 => ?_) (fun c8 => ?_)
        · have hf := (if_pos c8).symm.trans hf
          refine lv_aload_n hx hb dX6_factTold_42 rfl (lv_at hl 0 rfl) ?_
          refine q_ldcS (tx := "last") G (i := 39) (List.mem_of_getElem? (i := 29) (by decide +kernel)) B hw dX6_factTold_43 ?_
          obtain ⟨x9, e, hf⟩ := ob hf
          refine q_callV (As := [.ref (z.st 39)]) (rest := []) (st1 := [.int x9]) (c_X6_is G e) B hw hz hc0 (k_X6_is e) (by decide) (ci := 6) rfl rfl my_X6_is mv_X6_is tw_3_46 ⟨Nat.le_of_ble_eq_true rfl, Nat.le_of_ble_eq_true rfl⟩ ⟨Nat.zero_le _, Nat.zero_le _⟩ rfl hl.1 rfl rfl (Nat.le_of_ble_eq_true rfl) dX6_factTold_45 (fun H locs hw => ?_)
          refine lv_if_eq (tgt := 53) hx hb dX6_factTold_48 (by decide) (fun c10 => ?_) (fun c10 => ?_)
          · have hf := (if_pos c10).symm.trans hf
            refine lv_aload_n hx hb dX6_factTold_53 rfl (lv_at hl 0 rfl) ?_
            refine q_ldcS (tx := "streak") G (i := 40) (List.mem_of_getElem? (i := 30) (by decide +kernel)) B hw dX6_factTold_54 ?_
            obtain ⟨x11, e, hf⟩ := ob hf
            refine q_callV (As := [.ref (z.st 40)]) (rest := []) (st1 := [.int x11]) (c_X6_is G e) B hw hz hc0 (k_X6_is e) (by decide) (ci := 6) rfl rfl my_X6_is mv_X6_is tw_3_46 ⟨Nat.le_of_ble_eq_true rfl, Nat.le_of_ble_eq_true rfl⟩ ⟨Nat.zero_le _, Nat.zero_le _⟩ rfl hl.1 rfl rfl (Nat.le_of_ble_eq_true rfl) dX6_factTold_56 (fun H locs hw => ?_)
            refine lv_if_eq (tgt := 64) hx hb dX6_factTold_59 (by decide) (fun c12 => ?_) (fun c12 => ?_)
            · have hf := (if_pos c12).symm.trans hf
              refine lv_aload_n hx hb dX6_factTold_64 rfl (lv_at hl 0 rfl) ?_
              refine q_ldcS (tx := "life") G (i := 41) (List.mem_of_getElem? (i := 31) (by decide +kernel)) B hw dX6_factTold_65 ?_
              obtain ⟨x13, e, hf⟩ := ob hf
              refine q_callV (As := [.ref (z.st 41)]) (rest := []) (st1 := [.int x13]) (c_X6_is G e) B hw hz hc0 (k_X6_is e) (by decide) (ci := 6) rfl rfl my_X6_is mv_X6_is tw_3_46 ⟨Nat.le_of_ble_eq_true rfl, Nat.le_of_ble_eq_true rfl⟩ ⟨Nat.zero_le _, Nat.zero_le _⟩ rfl hl.1 rfl rfl (Nat.le_of_ble_eq_true rfl) dX6_factTold_67 (fun H locs hw => ?_)
              refine lv_if_eq (tgt := 75) hx hb dX6_factTold_70 (by decide) (fun c14 => ?_) (fun c14 => ?_)
              · have hf := (if_pos c14).symm.trans hf
                refine lv_aload_n hx hb dX6_factTold_75 rfl (lv_at hl 0 rfl) ?_
                refine q_ldcS (tx := "old") G (i := 42) (List.mem_of_getElem? (i := 32) (by decide +kernel)) B hw dX6_factTold_76 ?_
                obtain ⟨x15, e, hf⟩ := ob hf
                refine q_callV (As := [.ref (z.st 42)]) (rest := []) (st1 := [.int x15]) (c_X6_is G e) B hw hz hc0 (k_X6_is e) (by decide) (ci := 6) rfl rfl my_X6_is mv_X6_is tw_3_46 ⟨Nat.le_of_ble_eq_true rfl, Nat.le_of_ble_eq_true rfl⟩ ⟨Nat.zero_le _, Nat.zero_le _⟩ rfl hl.1 rfl rfl (Nat.le_of_ble_eq_true rfl) dX6_factTold_78 (fun H locs hw => ?_)
                refine lv_if_eq (tgt := 89) hx hb dX6_factTold_81 (by decide) (fun c16 => ?_) (fun c16 => ?_)
                · have hf := (if_pos c16).symm.trans hf
                  refine lv_iconst (v := (-1)) hx hb dX6_factTold_89 (by decide) ?_
                  obtain rfl := so hf
                  exact q_iret B hw hz hc0 hr hlk dX6_factTold_90
                · have hf := (if_neg c16).symm.trans hf
                  refine lv_bipush (v := 6) hx hb dX6_factTold_84 (by decide) ?_
                  refine lv_goto (tgt := 90) hx hb dX6_factTold_86 (by decide) ?_
                  obtain rfl := so hf
                  exact q_iret B hw hz hc0 hr hlk dX6_factTold_90
              · have hf := (if_neg c14).symm.trans hf
                refine lv_iconst (v := 5) hx hb dX6_factTold_73 (by decide) ?_
                obtain rfl := so hf
                exact q_iret B hw hz hc0 hr hlk dX6_factTold_74
            · have hf := (if_neg c12).symm.trans hf
              refine lv_iconst (v := 4) hx hb dX6_factTold_62 (by decide) ?_
              obtain rfl := so hf
              exact q_iret B hw hz hc0 hr hlk dX6_factTold_63
          · have hf := (if_neg c10).symm.trans hf
            refine lv_iconst (v := 3) hx hb dX6_factTold_51 (by decide) ?_
            obtain rfl := so hf
            exact q_iret B hw hz hc0 hr hlk dX6_factTold_52
        · have hf := (if_neg c8).symm.trans hf
          refine lv_iconst (v := 2) hx hb dX6_factTold_40 (by decide) ?_
          obtain rfl := so hf
          exact q_iret B hw hz hc0 hr hlk dX6_factTold_41
      · have hf := (if_pos c6).symm.trans hf
        refine lv_iconst (v := (-1)) hx hb dX6_factTold_29 (by decide) ?_
        obtain rfl := so hf
        exact q_iret B hw hz hc0 hr hlk dX6_factTold_30
    · have hf := (if_neg c4).symm.trans hf
      refine lv_iconst (v := 1) hx hb dX6_factTold_20 (by decide) ?_
      obtain rfl := so hf
      exact q_iret B hw hz hc0 hr hlk dX6_factTold_21
  · have hf := (if_neg c2).symm.trans hf
    refine lv_iconst (v := 0) hx hb dX6_factTold_9 (by decide) ?_
    obtain rfl := so hf
    exact q_iret B hw hz hc0 hr hlk dX6_factTold_10
/-! SecondLife$Reader.next()V -/
def f_X6_next_102 (n : Nat) (z : Sh) : Nat → Hp → Nat → Option (Hp)
  | 0, _, _ => none
  | i + 1, h, v0 =>
    (gI z h 6 v0 5).bind fun x1 =>
    (gI z h 6 v0 3).bind fun x2 =>
    if x2 ≤ x1 then
      some h
    else
      (gI z h 6 v0 5).bind fun x4 =>
      (f_X6_byteAt z h v0 x4).bind fun x5 =>
      (f_X6_isLetter z h x5).bind fun x6 =>
      if x6 = 0 then
        some h
      else
        (gI z h 6 v0 5).bind fun x8 =>
        (pI z h 6 v0 5 (x8 + 1)).bind fun h9 =>
        (f_X6_next_102 n z i) h9 v0
def f_X6_next_46 (n : Nat) (z : Sh) (h : Hp) (v0 : Nat) : Option (Hp) :=
  (gI z h 6 v0 4).bind fun x1 =>
  (gI z h 6 v0 3).bind fun x2 =>
  if x1 < x2 then
    (gI z h 6 v0 4).bind fun x4 =>
    (pI z h 6 v0 5 (x4 + 1)).bind fun h5 =>
    (gI z h5 6 v0 4).bind fun x6 =>
    (f_X6_byteAt z h5 v0 x6).bind fun x7 =>
    (f_X6_isLetter z h5 x7).bind fun x8 =>
    if x8 = 0 then
      (f_X6_isDigit z h5 x7).bind fun x10 =>
      if x10 = 0 then
        (f_J0_indexOf_0f7a4 z h5 (z.st 10) ((Int32.toUInt32 x7 % 65536).toInt32)).bind fun x12 =>
        if x12 < 0 then
          (pI z h5 6 v0 6 4).bind fun h14 =>
          some h14
        else
          (pI z h5 6 v0 6 2).bind fun h15 =>
          some h15
      else
        (f_X6_readDigits n z h5 v0).bind fun h16 =>
        some h16
    else
      (pI z h5 6 v0 6 0).bind fun h17 =>
      f_X6_next_102 n z n h17 v0
  else
    (gI z h 6 v0 4).bind fun x18 =>
    (pI z h 6 v0 5 x18).bind fun h19 =>
    (pI z h19 6 v0 6 3).bind fun h20 =>
    some h20
def f_X6_next_8 (n : Nat) (z : Sh) : Nat → Hp → Nat → Option (Hp)
  | 0, _, _ => none
  | i + 1, h, v0 =>
    (gI z h 6 v0 4).bind fun x1 =>
    (gI z h 6 v0 3).bind fun x2 =>
    if x2 ≤ x1 then
      f_X6_next_46 n z h v0
    else
      (gI z h 6 v0 4).bind fun x4 =>
      (f_X6_byteAt z h v0 x4).bind fun x5 =>
      (f_X6_isBlank z h x5).bind fun x6 =>
      if x6 = 0 then
        f_X6_next_46 n z h v0
      else
        (gI z h 6 v0 4).bind fun x8 =>
        (pI z h 6 v0 4 (x8 + 1)).bind fun h9 =>
        (f_X6_next_8 n z i) h9 v0
def f_X6_next (n : Nat) (z : Sh) (h : Hp) (v0 : Nat) : Option (Hp) :=
  if z.K v0 = 6 then
    (gI z h 6 v0 5).bind fun x1 =>
    (pI z h 6 v0 4 x1).bind fun h2 =>
    f_X6_next_8 n z n h2 v0
  else none
theorem k_X6_next {n : Nat} {z : Sh} {h : Hp} {v0 : Nat} {w : Hp} (hf : f_X6_next n z h v0 = some w) : z.K v0 = 6 := by
  unfold f_X6_next at hf
  exact (if_some hf).1
set_option maxHeartbeats 4000000 in
theorem w_X6_next_102 {p : Program} {l : Launch} {e : Env} {s : State} {m : MethodId} {args : Array Value} {below : List Frame} {meth : Method} {c : Code} {s0 : State} {E : Ev} {z : Sh} {n : Nat} {h' : Hp} (G : Gl s0 E) (B : Bd p s0 s E m c cX6_next 2 RX6) (hz : s0.heap.size ≤ z.sz) (hc0 : s.heap.size + 0 = z.sz) (hr : meth.sig.returnType = none) (hlk : meth.locks = false) : ∀ (i : Nat), ∀ (h : Hp) (v0 : Nat) (H : Heap) (locs : List Loc) (ls : Array Slot), Pw s0 s E z h H locs → lv_has ls 2 [(0, .ref v0)] → f_X6_next_102 n z i h v0 = some h' → W p l e (rmO 4 87) s m args below meth c H locs 0 0 (Zt below s0 E z h' (none) args s 0 0) (F0 m 102 ls []) := by
  have hx := B.1
  have hb := B.2.1
  intro i
  induction i with
  | zero =>
    intro h v0 H locs ls hw hl hf
    have hf := (f_X6_next_102.eq_1 ..).symm.trans hf
    cases hf
  | succ i ih =>
    intro h v0 H locs ls hw hl hf
    have hf := (f_X6_next_102.eq_2 ..).symm.trans hf
    refine lv_aload_n hx hb dX6_next_102 rfl (lv_at hl 0 rfl) ?_
    obtain ⟨x1, e, hf⟩ := ob hf
    refine q_getI e B hw fd_6_5.1 fd_6_5.2.1 fd_6_5.2.2.1 fd_6_5.2.2.2.1 fd_6_5.2.2.2.2 rfl tw_1_110 dX6_next_103 ?_
    refine lv_aload_n hx hb dX6_next_106 rfl (lv_at hl 0 rfl) ?_
    obtain ⟨x2, e, hf⟩ := ob hf
    refine q_getI e B hw fd_6_3.1 fd_6_3.2.1 fd_6_3.2.2.1 fd_6_3.2.2.2.1 fd_6_3.2.2.2.2 rfl tw_1_108 dX6_next_107 ?_
    refine lv_icmp_ge (tgt := 173) hx hb dX6_next_110 (by decide) (fun c3 => ?_) (fun c3 => ?_)
    · have hf := (if_pos c3).symm.trans hf
      obtain rfl := so hf
      exact q_vret B hw hz hc0 hr hlk dX6_next_173
    · have hf := (if_neg c3).symm.trans hf
      refine lv_aload_n hx hb dX6_next_113 rfl (lv_at hl 0 rfl) ?_
      refine lv_aload_n hx hb dX6_next_114 rfl (lv_at hl 0 rfl) ?_
      obtain ⟨x4, e, hf⟩ := ob hf
      refine q_getI e B hw fd_6_5.1 fd_6_5.2.1 fd_6_5.2.2.1 fd_6_5.2.2.2.1 fd_6_5.2.2.2.2 rfl tw_1_110 dX6_next_115 ?_
      obtain ⟨x5, e, hf⟩ := ob hf
      refine q_callV (As := [.int x4]) (rest := []) (st1 := [.int x5]) (c_X6_byteAt G e) B hw hz hc0 (k_X6_byteAt e) (by decide) (ci := 6) rfl rfl my_X6_byteAt mv_X6_byteAt tw_2_175 ⟨Nat.le_of_ble_eq_true rfl, Nat.le_of_ble_eq_true rfl⟩ ⟨Nat.zero_le _, Nat.zero_le _⟩ rfl hl.1 rfl rfl (Nat.le_of_ble_eq_true rfl) dX6_next_118 (fun H locs hw => ?_)
      obtain ⟨x6, e, hf⟩ := ob hf
      refine q_callS (As := [.int x5]) (rest := []) (st1 := [.int x6]) (c_X6_isLetter G e) B hw hz hc0 my_X6_isLetter mv_X6_isLetter tw_2_182 ⟨Nat.le_of_ble_eq_true rfl, Nat.le_of_ble_eq_true rfl⟩ ⟨Nat.zero_le _, Nat.zero_le _⟩ rfl hl.1 rfl rfl (Nat.le_of_ble_eq_true rfl) dX6_next_121 (fun H locs hw => ?_)
      refine lv_if_eq (tgt := 173) hx hb dX6_next_124 (by decide) (fun c7 => ?_) (fun c7 => ?_)
      · have hf := (if_pos c7).symm.trans hf
        obtain rfl := so hf
        exact q_vret B hw hz hc0 hr hlk dX6_next_173
      · have hf := (if_neg c7).symm.trans hf
        refine lv_aload_n hx hb dX6_next_127 rfl (lv_at hl 0 rfl) ?_
        refine lv_dup hx hb dX6_next_128 rfl ?_
        obtain ⟨x8, e, hf⟩ := ob hf
        refine q_getI e B hw fd_6_5.1 fd_6_5.2.1 fd_6_5.2.2.1 fd_6_5.2.2.2.1 fd_6_5.2.2.2.2 rfl tw_1_110 dX6_next_129 ?_
        refine lv_iconst (v := 1) hx hb dX6_next_132 (by decide) ?_
        refine lv_iadd hx hb dX6_next_133 ?_
        obtain ⟨h9, e, hf⟩ := ob hf
        refine q_putI e B hw fd_6_5.1 fd_6_5.2.1 fd_6_5.2.2.1 fd_6_5.2.2.2.1 fd_6_5.2.2.2.2 rfl rfl (tyX6_ok 5 (by decide)) tyX6 tyX6_ok nmX6 tw_1_110 dX6_next_134 (fun H locs hw => ?_)
        refine lv_goto (tgt := 102) hx hb dX6_next_137 (by decide) ?_
        exact ih h9 v0 _ _ _ hw (lv_sub hl [0] rfl) hf
set_option maxHeartbeats 4000000 in
theorem w_X6_next_46 {p : Program} {l : Launch} {e : Env} {s : State} {m : MethodId} {args : Array Value} {below : List Frame} {meth : Method} {c : Code} {s0 : State} {E : Ev} {z : Sh} {n : Nat} {h' : Hp} (G : Gl s0 E) (B : Bd p s0 s E m c cX6_next 2 RX6) (hz : s0.heap.size ≤ z.sz) (hc0 : s.heap.size + 0 = z.sz) (hr : meth.sig.returnType = none) (hlk : meth.locks = false) : ∀ (h : Hp) (v0 : Nat) (H : Heap) (locs : List Loc) (ls : Array Slot), Pw s0 s E z h H locs → lv_has ls 2 [(0, .ref v0)] → f_X6_next_46 n z h v0 = some h' → W p l e (rmO 4 87) s m args below meth c H locs 0 0 (Zt below s0 E z h' (none) args s 0 0) (F0 m 46 ls []) := by
  have hx := B.1
  have hb := B.2.1
  intro h v0 H locs ls hw hl hf
  unfold f_X6_next_46 at hf
  refine lv_aload_n hx hb dX6_next_46 rfl (lv_at hl 0 rfl) ?_
  obtain ⟨x1, e, hf⟩ := ob hf
  refine q_getI e B hw fd_6_4.1 fd_6_4.2.1 fd_6_4.2.2.1 fd_6_4.2.2.2.1 fd_6_4.2.2.2.2 rfl tw_1_109 dX6_next_47 ?_
  refine lv_aload_n hx hb dX6_next_50 rfl (lv_at hl 0 rfl) ?_
  obtain ⟨x2, e, hf⟩ := ob hf
  refine q_getI e B hw fd_6_3.1 fd_6_3.2.1 fd_6_3.2.2.1 fd_6_3.2.2.2.1 fd_6_3.2.2.2.2 rfl tw_1_108 dX6_next_51 ?_
  refine lv_icmp_lt (tgt := 71) hx hb dX6_next_54 (by decide) (fun c3 => ?_) (fun c3 => ?_)
  · have hf := (if_pos c3).symm.trans hf
    refine lv_aload_n hx hb dX6_next_71 rfl (lv_at hl 0 rfl) ?_
    refine lv_aload_n hx hb dX6_next_72 rfl (lv_at hl 0 rfl) ?_
    obtain ⟨x4, e, hf⟩ := ob hf
    refine q_getI e B hw fd_6_4.1 fd_6_4.2.1 fd_6_4.2.2.1 fd_6_4.2.2.2.1 fd_6_4.2.2.2.2 rfl tw_1_109 dX6_next_73 ?_
    refine lv_iconst (v := 1) hx hb dX6_next_76 (by decide) ?_
    refine lv_iadd hx hb dX6_next_77 ?_
    obtain ⟨h5, e, hf⟩ := ob hf
    refine q_putI e B hw fd_6_5.1 fd_6_5.2.1 fd_6_5.2.2.1 fd_6_5.2.2.2.1 fd_6_5.2.2.2.2 rfl rfl (tyX6_ok 5 (by decide)) tyX6 tyX6_ok nmX6 tw_1_110 dX6_next_78 (fun H locs hw => ?_)
    refine lv_aload_n hx hb dX6_next_81 rfl (lv_at hl 0 rfl) ?_
    refine lv_aload_n hx hb dX6_next_82 rfl (lv_at hl 0 rfl) ?_
    obtain ⟨x6, e, hf⟩ := ob hf
    refine q_getI e B hw fd_6_4.1 fd_6_4.2.1 fd_6_4.2.2.1 fd_6_4.2.2.2.1 fd_6_4.2.2.2.2 rfl tw_1_109 dX6_next_83 ?_
    obtain ⟨x7, e, hf⟩ := ob hf
    refine q_callV (As := [.int x6]) (rest := []) (st1 := [.int x7]) (c_X6_byteAt G e) B hw hz hc0 (k_X6_byteAt e) (by decide) (ci := 6) rfl rfl my_X6_byteAt mv_X6_byteAt tw_2_175 ⟨Nat.le_of_ble_eq_true rfl, Nat.le_of_ble_eq_true rfl⟩ ⟨Nat.zero_le _, Nat.zero_le _⟩ rfl hl.1 rfl rfl (Nat.le_of_ble_eq_true rfl) dX6_next_86 (fun H locs hw => ?_)
    refine lv_istore_n (lv' := [(1, .int x7), (0, .ref v0)]) hx hb dX6_next_89 rfl hl (by decide) rfl (fun ls hl => ?_)
    refine lv_iload_n hx hb dX6_next_90 rfl (lv_at hl 0 rfl) ?_
    obtain ⟨x8, e, hf⟩ := ob hf
    refine q_callS (As := [.int x7]) (rest := []) (st1 := [.int x8]) (c_X6_isLetter G e) B hw hz hc0 my_X6_isLetter mv_X6_isLetter tw_2_182 ⟨Nat.le_of_ble_eq_true rfl, Nat.le_of_ble_eq_true rfl⟩ ⟨Nat.zero_le _, Nat.zero_le _⟩ rfl hl.1 rfl rfl (Nat.le_of_ble_eq_true rfl) dX6_next_91 (fun H locs hw => ?_)
    refine lv_if_eq (tgt := 140) hx hb dX6_next_94 (by decide) (fun c9 => ?_) (fun c9 => ?_)
    · have hf := (if_pos c9).symm.trans hf
      refine lv_iload_n hx hb dX6_next_140 rfl (lv_at hl 0 rfl) ?_
      obtain ⟨x10, e, hf⟩ := ob hf
      refine q_callS (As := [.int x7]) (rest := []) (st1 := [.int x10]) (c_X6_isDigit G e) B hw hz hc0 my_X6_isDigit mv_X6_isDigit tw_2_185 ⟨Nat.le_of_ble_eq_true rfl, Nat.le_of_ble_eq_true rfl⟩ ⟨Nat.zero_le _, Nat.zero_le _⟩ rfl hl.1 rfl rfl (Nat.le_of_ble_eq_true rfl) dX6_next_141 (fun H locs hw => ?_)
      refine lv_if_eq (tgt := 154) hx hb dX6_next_144 (by decide) (fun c11 => ?_) (fun c11 => ?_)
      · have hf := (if_pos c11).symm.trans hf
        refine lv_aload_n hx hb dX6_next_154 rfl (lv_at hl 1 rfl) ?_
        refine q_ldcS (tx := ";:+-*()[]=<>") G (i := 10) (List.mem_of_getElem? (i := 0) (by decide +kernel)) B hw dX6_next_155 ?_
        refine lv_iload_n hx hb dX6_next_157 rfl (lv_at hl 0 rfl) ?_
        refine lv_i2c (v := ((Int32.toUInt32 x7 % 65536).toInt32)) hx hb dX6_next_158 rfl ?_
        obtain ⟨x12, e, hf⟩ := ob hf
        refine q_callVS (As := [.int ((Int32.toUInt32 x7 % 65536).toInt32)]) (rest := [.ref v0]) (st1 := [.int x12, .ref v0]) (c_J0_indexOf_0f7a4 G e) B hw hz hc0 (k_J0_indexOf_0f7a4 e) rfl my_J0_indexOf_0f7a4 mv_J0_indexOf_0f7a4 tw_2_193 ⟨Nat.le_of_ble_eq_true rfl, Nat.le_of_ble_eq_true rfl⟩ ⟨Nat.zero_le _, Nat.zero_le _⟩ rfl hl.1 rfl rfl (Nat.le_of_ble_eq_true rfl) dX6_next_159 (fun H locs hw => ?_)
        refine lv_if_lt (tgt := 169) hx hb dX6_next_162 (by decide) (fun c13 => ?_) (fun c13 => ?_)
        · have hf := (if_pos c13).symm.trans hf
          refine lv_iconst (v := 4) hx hb dX6_next_169 (by decide) ?_
          obtain ⟨h14, e, hf⟩ := ob hf
          refine q_putI e B hw fd_6_6.1 fd_6_6.2.1 fd_6_6.2.2.1 fd_6_6.2.2.2.1 fd_6_6.2.2.2.2 rfl rfl (tyX6_ok 6 (by decide)) tyX6 tyX6_ok nmX6 tw_1_111 dX6_next_170 (fun H locs hw => ?_)
          obtain rfl := so hf
          exact q_vret B hw hz hc0 hr hlk dX6_next_173
        · have hf := (if_neg c13).symm.trans hf
          refine lv_iconst (v := 2) hx hb dX6_next_165 (by decide) ?_
          refine lv_goto (tgt := 170) hx hb dX6_next_166 (by decide) ?_
          obtain ⟨h15, e, hf⟩ := ob hf
          refine q_putI e B hw fd_6_6.1 fd_6_6.2.1 fd_6_6.2.2.1 fd_6_6.2.2.2.1 fd_6_6.2.2.2.2 rfl rfl (tyX6_ok 6 (by decide)) tyX6 tyX6_ok nmX6 tw_1_111 dX6_next_170 (fun H locs hw => ?_)
          obtain rfl := so hf
          exact q_vret B hw hz hc0 hr hlk dX6_next_173
      · have hf := (if_neg c11).symm.trans hf
        refine lv_aload_n hx hb dX6_next_147 rfl (lv_at hl 1 rfl) ?_
        obtain ⟨h16, e, hf⟩ := ob hf
        refine q_callV (As := []) (rest := []) (st1 := []) (c_X6_readDigits G e) B hw hz hc0 (k_X6_readDigits e) (by decide) (ci := 6) rfl rfl my_X6_readDigits mv_X6_readDigits tw_2_188 ⟨Nat.le_of_ble_eq_true rfl, Nat.le_of_ble_eq_true rfl⟩ ⟨Nat.zero_le _, Nat.zero_le _⟩ rfl hl.1 rfl rfl (Nat.le_of_ble_eq_true rfl) dX6_next_148 (fun H locs hw => ?_)
        refine lv_goto (tgt := 173) hx hb dX6_next_151 (by decide) ?_
        obtain rfl := so hf
        exact q_vret B hw hz hc0 hr hlk dX6_next_173
    · have hf := (if_neg c9).symm.trans hf
      refine lv_aload_n hx hb dX6_next_97 rfl (lv_at hl 1 rfl) ?_
      refine lv_iconst (v := 0) hx hb dX6_next_98 (by decide) ?_
      obtain ⟨h17, e, hf⟩ := ob hf
      refine q_putI e B hw fd_6_6.1 fd_6_6.2.1 fd_6_6.2.2.1 fd_6_6.2.2.2.1 fd_6_6.2.2.2.2 rfl rfl (tyX6_ok 6 (by decide)) tyX6 tyX6_ok nmX6 tw_1_111 dX6_next_99 (fun H locs hw => ?_)
      exact w_X6_next_102 G B hz hc0 hr hlk  n h17 v0 _ _ _ hw (lv_sub hl [1] rfl) hf
  · have hf := (if_neg c3).symm.trans hf
    refine lv_aload_n hx hb dX6_next_57 rfl (lv_at hl 0 rfl) ?_
    refine lv_aload_n hx hb dX6_next_58 rfl (lv_at hl 0 rfl) ?_
    obtain ⟨x18, e, hf⟩ := ob hf
    refine q_getI e B hw fd_6_4.1 fd_6_4.2.1 fd_6_4.2.2.1 fd_6_4.2.2.2.1 fd_6_4.2.2.2.2 rfl tw_1_109 dX6_next_59 ?_
    obtain ⟨h19, e, hf⟩ := ob hf
    refine q_putI e B hw fd_6_5.1 fd_6_5.2.1 fd_6_5.2.2.1 fd_6_5.2.2.2.1 fd_6_5.2.2.2.2 rfl rfl (tyX6_ok 5 (by decide)) tyX6 tyX6_ok nmX6 tw_1_110 dX6_next_62 (fun H locs hw => ?_)
    refine lv_aload_n hx hb dX6_next_65 rfl (lv_at hl 0 rfl) ?_
    refine lv_iconst (v := 3) hx hb dX6_next_66 (by decide) ?_
    obtain ⟨h20, e, hf⟩ := ob hf
    refine q_putI e B hw fd_6_6.1 fd_6_6.2.1 fd_6_6.2.2.1 fd_6_6.2.2.2.1 fd_6_6.2.2.2.2 rfl rfl (tyX6_ok 6 (by decide)) tyX6 tyX6_ok nmX6 tw_1_111 dX6_next_67 (fun H locs hw => ?_)
    obtain rfl := so hf
    exact q_vret B hw hz hc0 hr hlk dX6_next_70
set_option maxHeartbeats 4000000 in
theorem w_X6_next_8 {p : Program} {l : Launch} {e : Env} {s : State} {m : MethodId} {args : Array Value} {below : List Frame} {meth : Method} {c : Code} {s0 : State} {E : Ev} {z : Sh} {n : Nat} {h' : Hp} (G : Gl s0 E) (B : Bd p s0 s E m c cX6_next 2 RX6) (hz : s0.heap.size ≤ z.sz) (hc0 : s.heap.size + 0 = z.sz) (hr : meth.sig.returnType = none) (hlk : meth.locks = false) : ∀ (i : Nat), ∀ (h : Hp) (v0 : Nat) (H : Heap) (locs : List Loc) (ls : Array Slot), Pw s0 s E z h H locs → lv_has ls 2 [(0, .ref v0)] → f_X6_next_8 n z i h v0 = some h' → W p l e (rmO 4 87) s m args below meth c H locs 0 0 (Zt below s0 E z h' (none) args s 0 0) (F0 m 8 ls []) := by
  have hx := B.1
  have hb := B.2.1
  intro i
  induction i with
  | zero =>
    intro h v0 H locs ls hw hl hf
    have hf := (f_X6_next_8.eq_1 ..).symm.trans hf
    cases hf
  | succ i ih =>
    intro h v0 H locs ls hw hl hf
    have hf := (f_X6_next_8.eq_2 ..).symm.trans hf
    refine lv_aload_n hx hb dX6_next_8 rfl (lv_at hl 0 rfl) ?_
    obtain ⟨x1, e, hf⟩ := ob hf
    refine q_getI e B hw fd_6_4.1 fd_6_4.2.1 fd_6_4.2.2.1 fd_6_4.2.2.2.1 fd_6_4.2.2.2.2 rfl tw_1_109 dX6_next_9 ?_
    refine lv_aload_n hx hb dX6_next_12 rfl (lv_at hl 0 rfl) ?_
    obtain ⟨x2, e, hf⟩ := ob hf
    refine q_getI e B hw fd_6_3.1 fd_6_3.2.1 fd_6_3.2.2.1 fd_6_3.2.2.2.1 fd_6_3.2.2.2.2 rfl tw_1_108 dX6_next_13 ?_
    refine lv_icmp_ge (tgt := 46) hx hb dX6_next_16 (by decide) (fun c3 => ?_) (fun c3 => ?_)
    · have hf := (if_pos c3).symm.trans hf
      exact w_X6_next_46 G B hz hc0 hr hlk  h v0 _ _ _ hw (lv_sub hl [0] rfl) hf
    · have hf := (if_neg c3).symm.trans hf
      refine lv_aload_n hx hb dX6_next_19 rfl (lv_at hl 0 rfl) ?_
      refine lv_aload_n hx hb dX6_next_20 rfl (lv_at hl 0 rfl) ?_
      obtain ⟨x4, e, hf⟩ := ob hf
      refine q_getI e B hw fd_6_4.1 fd_6_4.2.1 fd_6_4.2.2.1 fd_6_4.2.2.2.1 fd_6_4.2.2.2.2 rfl tw_1_109 dX6_next_21 ?_
      obtain ⟨x5, e, hf⟩ := ob hf
      refine q_callV (As := [.int x4]) (rest := []) (st1 := [.int x5]) (c_X6_byteAt G e) B hw hz hc0 (k_X6_byteAt e) (by decide) (ci := 6) rfl rfl my_X6_byteAt mv_X6_byteAt tw_2_175 ⟨Nat.le_of_ble_eq_true rfl, Nat.le_of_ble_eq_true rfl⟩ ⟨Nat.zero_le _, Nat.zero_le _⟩ rfl hl.1 rfl rfl (Nat.le_of_ble_eq_true rfl) dX6_next_24 (fun H locs hw => ?_)
      obtain ⟨x6, e, hf⟩ := ob hf
      refine q_callS (As := [.int x5]) (rest := []) (st1 := [.int x6]) (c_X6_isBlank G e) B hw hz hc0 my_X6_isBlank mv_X6_isBlank tw_2_179 ⟨Nat.le_of_ble_eq_true rfl, Nat.le_of_ble_eq_true rfl⟩ ⟨Nat.zero_le _, Nat.zero_le _⟩ rfl hl.1 rfl rfl (Nat.le_of_ble_eq_true rfl) dX6_next_27 (fun H locs hw => ?_)
      refine lv_if_eq (tgt := 46) hx hb dX6_next_30 (by decide) (fun c7 => ?_) (fun c7 => ?_)
      · have hf := (if_pos c7).symm.trans hf
        exact w_X6_next_46 G B hz hc0 hr hlk  h v0 _ _ _ hw (lv_sub hl [0] rfl) hf
      · have hf := (if_neg c7).symm.trans hf
        refine lv_aload_n hx hb dX6_next_33 rfl (lv_at hl 0 rfl) ?_
        refine lv_dup hx hb dX6_next_34 rfl ?_
        obtain ⟨x8, e, hf⟩ := ob hf
        refine q_getI e B hw fd_6_4.1 fd_6_4.2.1 fd_6_4.2.2.1 fd_6_4.2.2.2.1 fd_6_4.2.2.2.2 rfl tw_1_109 dX6_next_35 ?_
        refine lv_iconst (v := 1) hx hb dX6_next_38 (by decide) ?_
        refine lv_iadd hx hb dX6_next_39 ?_
        obtain ⟨h9, e, hf⟩ := ob hf
        refine q_putI e B hw fd_6_4.1 fd_6_4.2.1 fd_6_4.2.2.1 fd_6_4.2.2.2.1 fd_6_4.2.2.2.2 rfl rfl (tyX6_ok 4 (by decide)) tyX6 tyX6_ok nmX6 tw_1_109 dX6_next_40 (fun H locs hw => ?_)
        refine lv_goto (tgt := 8) hx hb dX6_next_43 (by decide) ?_
        exact ih h9 v0 _ _ _ hw (lv_sub hl [0] rfl) hf
set_option maxHeartbeats 4000000 in
theorem c_X6_next {l : Launch} {s0 : State} {E : Ev} (G : Gl s0 E) {n : Nat} {z : Sh} {h : Hp} {v0 : Nat} {h' : Hp} (hf : f_X6_next n z h v0 = some h') : Ct l s0 E yX6_next cX6_next 2 none 4 87 [.ref v0] z h h' (none) := by
  refine Ct.of G (by decide) (Nat.le_of_ble_eq_true rfl) ?_
  intro p e s m below meth c ls B hw hz hc0 hr hlk hl
  have B : Bd p s0 s E m c cX6_next 2 RX6 := B
  have hx := B.1
  have hb := B.2.1
  have hl : lv_has ls 2 [(0, .ref v0)] := hl
  unfold f_X6_next at hf
  obtain ⟨_, hf⟩ := if_some hf
  refine lv_aload_n hx hb dX6_next_0 rfl (lv_at hl 0 rfl) ?_
  refine lv_aload_n hx hb dX6_next_1 rfl (lv_at hl 0 rfl) ?_
  obtain ⟨x1, e, hf⟩ := ob hf
  refine q_getI e B hw fd_6_5.1 fd_6_5.2.1 fd_6_5.2.2.1 fd_6_5.2.2.2.1 fd_6_5.2.2.2.2 rfl tw_1_110 dX6_next_2 ?_
  obtain ⟨h2, e, hf⟩ := ob hf
  refine q_putI e B hw fd_6_4.1 fd_6_4.2.1 fd_6_4.2.2.1 fd_6_4.2.2.2.1 fd_6_4.2.2.2.2 rfl rfl (tyX6_ok 4 (by decide)) tyX6 tyX6_ok nmX6 tw_1_109 dX6_next_5 (fun H locs hw => ?_)
  exact w_X6_next_8 G B hz hc0 hr hlk  n h2 v0 _ _ _ hw (lv_sub hl [0] rfl) hf
