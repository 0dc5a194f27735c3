/-! SecondLife$Deeds.doTold(LSecondLife$Town;LSecondLife$People;J)I -/
def f_X2_doTold_89 (n : Nat) (z : Sh) (h : Hp) (v0 : Nat) (v2 : Nat) (v3 : Int64) : Option (Int32 × Hp) :=
  if (lg_cmp v3 1000) < 0 then
    some ((1 : Int32), h)
  else
    if 0 < (lg_cmp v3 1999) then
      some ((1 : Int32), h)
    else
      (dvJ (v3 - 1000) 100).bind fun x3 =>
      (rmJ v3 100).bind fun x4 =>
      (f_X2_pledges z h v0 v2 (Int64.toInt32 x3) (Int64.toInt32 x4)).bind fun (x5, h6) =>
      some (x5, h6)
def f_X2_doTold_61 (n : Nat) (z : Sh) (h : Hp) (v0 : Nat) (v2 : Nat) (v3 : Int64) : Option (Int32 × Hp) :=
  if (lg_cmp v3 110) < 0 then
    f_X2_doTold_89 n z h v0 v2 v3
  else
    if 0 < (lg_cmp v3 119) then
      f_X2_doTold_89 n z h v0 v2 v3
    else
      (f_X2_redeems z h v0 v2 (Int64.toInt32 (v3 - 110))).bind fun (x3, h4) =>
      some (x3, h4)
def f_X2_doTold_32 (n : Nat) (z : Sh) (h : Hp) (v0 : Nat) (v1 : Nat) (v2 : Nat) (v3 : Int64) : Option (Int32 × Hp) :=
  if (lg_cmp v3 100) < 0 then
    f_X2_doTold_61 n z h v0 v2 v3
  else
    if 0 < (lg_cmp v3 109) then
      f_X2_doTold_61 n z h v0 v2 v3
    else
      (f_X2_draws n z h v0 v1 v2 (Int64.toInt32 (v3 - 100))).bind fun (x3, h4) =>
      some (x3, h4)
def f_X2_doTold (n : Nat) (z : Sh) (h : Hp) (v0 : Nat) (v1 : Nat) (v2 : Nat) (v3 : Int64) : Option (Int32 × Hp) :=
  if z.K v0 = 2 then
    if (lg_cmp v3 0) < 0 then
      f_X2_doTold_32 n z h v0 v1 v2 v3
    else
      if 0 < (lg_cmp v3 99) then
        f_X2_doTold_32 n z h v0 v1 v2 v3
      else
        (dvJ v3 10).bind fun x3 =>
        (rmJ v3 10).bind fun x4 =>
        (f_X2_lives n z h v0 v1 v2 (Int64.toInt32 x3) x4).bind fun (x5, h6) =>
        some (x5, h6)
  else none
theorem k_X2_doTold {n : Nat} {z : Sh} {h : Hp} {v0 : Nat} {v1 : Nat} {v2 : Nat} {v3 : Int64} {w : Int32 × Hp} (hf : f_X2_doTold n z h v0 v1 v2 v3 = some w) : z.K v0 = 2 := by
  unfold f_X2_doTold at hf
  exact (if_some hf).1
set_option maxHeartbeats 4000000 in
theorem w_X2_doTold_89 {p : Program} {l : Launch} {e : Env} {s : State} {m : MethodId} {args : Array Value} {below : List Frame} {meth : Method} {c : Code} {s0 : State} {E : Ev} {z : Sh} {n : Nat} {r : Int32} {h' : Hp} (G : Gl s0 E) (B : Bd p s0 s E m c cX2_doTold 5 RX2) (hz : s0.heap.size ≤ z.sz) (hc0 : s.heap.size + 0 = z.sz) (hr : meth.sig.returnType = (some .int)) (hlk : meth.locks = false) : ∀ (h : Hp) (v0 : Nat) (v2 : Nat) (v3 : Int64) (H : Heap) (locs : List Loc) (ls : Array Slot), Pw s0 s E z h H locs → lv_has ls 5 [(0, .ref v0), (2, .ref v2), (3, .long v3)] → f_X2_doTold_89 n z h v0 v2 v3 = some (r, h') → W p l e (rmO 4 99) s m args below meth c H locs 0 0 (Zt below s0 E z h' (some (.int r)) args s 0 0) (F0 m 89 ls []) := by
  have hx := B.1
  have hb := B.2.1
  intro h v0 v2 v3 H locs ls hw hl hf
  unfold f_X2_doTold_89 at hf
  refine lv_lload_n hx hb dX2_doTold_89 rfl (lv_at hl 2 rfl) ?_
  refine lv_ldc2 hx hb B.2.2.2.1 (B.w tw_4_116 rfl) dX2_doTold_90 ?_
  refine W.lcmp hx hb dX2_doTold_93 ?_
  refine lv_if_lt (tgt := 127) hx hb dX2_doTold_94 (by decide) (fun c1 => ?_) (fun c1 => ?_)
  · have hf := (if_pos c1).symm.trans hf
    refine lv_iconst (v := 1) hx hb dX2_doTold_127 (by decide) ?_
    obtain ⟨rfl, rfl⟩ := so2 hf
    exact q_iret B hw hz hc0 hr hlk dX2_doTold_128
  · have hf := (if_neg c1).symm.trans hf
    refine lv_lload_n hx hb dX2_doTold_97 rfl (lv_at hl 2 rfl) ?_
    refine lv_ldc2 hx hb B.2.2.2.1 (B.w tw_4_117 rfl) dX2_doTold_98 ?_
    refine W.lcmp hx hb dX2_doTold_101 ?_
    refine lv_if_gt (tgt := 127) hx hb dX2_doTold_102 (by decide) (fun c2 => ?_) (fun c2 => ?_)
    · have hf := (if_pos c2).symm.trans hf
      refine lv_iconst (v := 1) hx hb dX2_doTold_127 (by decide) ?_
      obtain ⟨rfl, rfl⟩ := so2 hf
      exact q_iret B hw hz hc0 hr hlk dX2_doTold_128
    · have hf := (if_neg c2).symm.trans hf
      refine lv_aload_n hx hb dX2_doTold_105 rfl (lv_at hl 0 rfl) ?_
      refine lv_aload_n hx hb dX2_doTold_106 rfl (lv_at hl 1 rfl) ?_
      refine lv_lload_n hx hb dX2_doTold_107 rfl (lv_at hl 2 rfl) ?_
      refine lv_ldc2 hx hb B.2.2.2.1 (B.w tw_4_116 rfl) dX2_doTold_108 ?_
      refine lv_lsub hx hb dX2_doTold_111 ?_
      refine lv_ldc2 hx hb B.2.2.2.1 (B.w tw_4_110 rfl) dX2_doTold_112 ?_
      obtain ⟨x3, e, hf⟩ := ob hf
      refine q_ldiv e hx hb dX2_doTold_115 ?_
      refine lv_l2i (v := (Int64.toInt32 x3)) hx hb dX2_doTold_116 rfl ?_
      refine lv_lload_n hx hb dX2_doTold_117 rfl (lv_at hl 2 rfl) ?_
      refine lv_ldc2 hx hb B.2.2.2.1 (B.w tw_4_110 rfl) dX2_doTold_118 ?_
      obtain ⟨x4, e, hf⟩ := ob hf
      refine q_lrem e hx hb dX2_doTold_121 ?_
      refine lv_l2i (v := (Int64.toInt32 x4)) hx hb dX2_doTold_122 rfl ?_
      obtain ⟨⟨x5, h6⟩, e, hf⟩ := ob hf
      refine q_callV (As := [.ref v2, .int (Int64.toInt32 x3), .int (Int64.toInt32 x4)]) (rest := []) (st1 := [.int x5]) (c_X2_pledges G e) B hw hz hc0 (k_X2_pledges e) (by decide) (ci := 2) rfl rfl my_X2_pledges mv_X2_pledges tw_4_118 ⟨Nat.le_of_ble_eq_true rfl, Nat.le_of_ble_eq_true rfl⟩ ⟨Nat.zero_le _, Nat.zero_le _⟩ rfl hl.1 rfl rfl (Nat.le_of_ble_eq_true rfl) dX2_doTold_123 (fun H locs hw => ?_)
      obtain ⟨rfl, rfl⟩ := so2 hf
      exact q_iret B hw hz hc0 hr hlk dX2_doTold_126
set_option maxHeartbeats 4000000 in
theorem w_X2_doTold_61 {p : Program} {l : Launch} {e : Env} {s : State} {m : MethodId} {args : Array Value} {below : List Frame} {meth : Method} {c : Code} {s0 : State} {E : Ev} {z : Sh} {n : Nat} {r : Int32} {h' : Hp} (G : Gl s0 E) (B : Bd p s0 s E m c cX2_doTold 5 RX2) (hz : s0.heap.size ≤ z.sz) (hc0 : s.heap.size + 0 = z.sz) (hr : meth.sig.returnType = (some .int)) (hlk : meth.locks = false) : ∀ (h : Hp) (v0 : Nat) (v2 : Nat) (v3 : Int64) (H : Heap) (locs : List Loc) (ls : Array Slot), Pw s0 s E z h H locs → lv_has ls 5 [(0, .ref v0), (2, .ref v2), (3, .long v3)] → f_X2_doTold_61 n z h v0 v2 v3 = some (r, h') → W p l e (rmO 4 99) s m args below meth c H locs 0 0 (Zt below s0 E z h' (some (.int r)) args s 0 0) (F0 m 61 ls []) := by
  have hx := B.1
  have hb := B.2.1
  intro h v0 v2 v3 H locs ls hw hl hf
  unfold f_X2_doTold_61 at hf
  refine lv_lload_n hx hb dX2_doTold_61 rfl (lv_at hl 2 rfl) ?_
  refine lv_ldc2 hx hb B.2.2.2.1 (B.w tw_4_113 rfl) dX2_doTold_62 ?_
  refine W.lcmp hx hb dX2_doTold_65 ?_
  refine lv_if_lt (tgt := 89) hx hb dX2_doTold_66 (by decide) (fun c1 => ?_) (fun c1 => ?_)
  · have hf := (if_pos c1).symm.trans hf
    exact w_X2_doTold_89 G B hz hc0 hr hlk  h v0 v2 v3 _ _ _ hw (lv_sub hl [0, 1, 2] rfl) hf
  · have hf := (if_neg c1).symm.trans hf
    refine lv_lload_n hx hb dX2_doTold_69 rfl (lv_at hl 2 rfl) ?_
    refine lv_ldc2 hx hb B.2.2.2.1 (B.w tw_4_114 rfl) dX2_doTold_70 ?_
    refine W.lcmp hx hb dX2_doTold_73 ?_
    refine lv_if_gt (tgt := 89) hx hb dX2_doTold_74 (by decide) (fun c2 => ?_) (fun c2 => ?_)
    · have hf := (if_pos c2).symm.trans hf
      exact w_X2_doTold_89 G B hz hc0 hr hlk  h v0 v2 v3 _ _ _ hw (lv_sub hl [0, 1, 2] rfl) hf
    · have hf := (if_neg c2).symm.trans hf
      refine lv_aload_n hx hb dX2_doTold_77 rfl (lv_at hl 0 rfl) ?_
      refine lv_aload_n hx hb dX2_doTold_78 rfl (lv_at hl 1 rfl) ?_
      refine lv_lload_n hx hb dX2_doTold_79 rfl (lv_at hl 2 rfl) ?_
      refine lv_ldc2 hx hb B.2.2.2.1 (B.w tw_4_113 rfl) dX2_doTold_80 ?_
      refine lv_lsub hx hb dX2_doTold_83 ?_
      refine lv_l2i (v := (Int64.toInt32 (v3 - 110))) hx hb dX2_doTold_84 rfl ?_
      obtain ⟨⟨x3, h4⟩, e, hf⟩ := ob hf
      refine q_callV (As := [.ref v2, .int (Int64.toInt32 (v3 - 110))]) (rest := []) (st1 := [.int x3]) (c_X2_redeems G e) B hw hz hc0 (k_X2_redeems e) (by decide) (ci := 2) rfl rfl my_X2_redeems mv_X2_redeems tw_4_115 ⟨Nat.le_of_ble_eq_true rfl, Nat.le_of_ble_eq_true rfl⟩ ⟨Nat.zero_le _, Nat.zero_le _⟩ rfl hl.1 rfl rfl (Nat.le_of_ble_eq_true rfl) dX2_doTold_85 (fun H locs hw => ?_)
      obtain ⟨rfl, rfl⟩ := so2 hf
      exact q_iret B hw hz hc0 hr hlk dX2_doTold_88
set_option maxHeartbeats 4000000 in
theorem w_X2_doTold_32 {p : Program} {l : Launch} {e : Env} {s : State} {m : MethodId} {args : Array Value} {below : List Frame} {meth : Method} {c : Code} {s0 : State} {E : Ev} {z : Sh} {n : Nat} {r : Int32} {h' : Hp} (G : Gl s0 E) (B : Bd p s0 s E m c cX2_doTold 5 RX2) (hz : s0.heap.size ≤ z.sz) (hc0 : s.heap.size + 0 = z.sz) (hr : meth.sig.returnType = (some .int)) (hlk : meth.locks = false) : ∀ (h : Hp) (v0 : Nat) (v1 : Nat) (v2 : Nat) (v3 : Int64) (H : Heap) (locs : List Loc) (ls : Array Slot), Pw s0 s E z h H locs → lv_has ls 5 [(0, .ref v0), (1, .ref v1), (2, .ref v2), (3, .long v3)] → f_X2_doTold_32 n z h v0 v1 v2 v3 = some (r, h') → W p l e (rmO 4 99) s m args below meth c H locs 0 0 (Zt below s0 E z h' (some (.int r)) args s 0 0) (F0 m 32 ls []) := by
  have hx := B.1
  have hb := B.2.1
  intro h v0 v1 v2 v3 H locs ls hw hl hf
  unfold f_X2_doTold_32 at hf
  refine lv_lload_n hx hb dX2_doTold_32 rfl (lv_at hl 3 rfl) ?_
  refine lv_ldc2 hx hb B.2.2.2.1 (B.w tw_4_110 rfl) dX2_doTold_33 ?_
  refine W.lcmp hx hb dX2_doTold_36 ?_
  refine lv_if_lt (tgt := 61) hx hb dX2_doTold_37 (by decide) (fun c1 => ?_) (fun c1 => ?_)
  · have hf := (if_pos c1).symm.trans hf
    exact w_X2_doTold_61 G B hz hc0 hr hlk  h v0 v2 v3 _ _ _ hw (lv_sub hl [0, 2, 3] rfl) hf
  · have hf := (if_neg c1).symm.trans hf
    refine lv_lload_n hx hb dX2_doTold_40 rfl (lv_at hl 3 rfl) ?_
    refine lv_ldc2 hx hb B.2.2.2.1 (B.w tw_4_111 rfl) dX2_doTold_41 ?_
    refine W.lcmp hx hb dX2_doTold_44 ?_
    refine lv_if_gt (tgt := 61) hx hb dX2_doTold_45 (by decide) (fun c2 => ?_) (fun c2 => ?_)
    · have hf := (if_pos c2).symm.trans hf
      exact w_X2_doTold_61 G B hz hc0 hr hlk  h v0 v2 v3 _ _ _ hw (lv_sub hl [0, 2, 3] rfl) hf
    · have hf := (if_neg c2).symm.trans hf
      refine lv_aload_n hx hb dX2_doTold_48 rfl (lv_at hl 0 rfl) ?_
      refine lv_aload_n hx hb dX2_doTold_49 rfl (lv_at hl 1 rfl) ?_
      refine lv_aload_n hx hb dX2_doTold_50 rfl (lv_at hl 2 rfl) ?_
      refine lv_lload_n hx hb dX2_doTold_51 rfl (lv_at hl 3 rfl) ?_
      refine lv_ldc2 hx hb B.2.2.2.1 (B.w tw_4_110 rfl) dX2_doTold_52 ?_
      refine lv_lsub hx hb dX2_doTold_55 ?_
      refine lv_l2i (v := (Int64.toInt32 (v3 - 100))) hx hb dX2_doTold_56 rfl ?_
      obtain ⟨⟨x3, h4⟩, e, hf⟩ := ob hf
      refine q_callV (As := [.ref v1, .ref v2, .int (Int64.toInt32 (v3 - 100))]) (rest := []) (st1 := [.int x3]) (c_X2_draws G e) B hw hz hc0 (k_X2_draws e) (by decide) (ci := 2) rfl rfl my_X2_draws mv_X2_draws tw_4_112 ⟨Nat.le_of_ble_eq_true rfl, Nat.le_of_ble_eq_true rfl⟩ ⟨Nat.zero_le _, Nat.zero_le _⟩ rfl hl.1 rfl rfl (Nat.le_of_ble_eq_true rfl) dX2_doTold_57 (fun H locs hw => ?_)
      obtain ⟨rfl, rfl⟩ := so2 hf
      exact q_iret B hw hz hc0 hr hlk dX2_doTold_60
set_option maxHeartbeats 4000000 in
theorem c_X2_doTold {l : Launch} {s0 : State} {E : Ev} (G : Gl s0 E) {n : Nat} {z : Sh} {h : Hp} {v0 : Nat} {v1 : Nat} {v2 : Nat} {v3 : Int64} {r : Int32} {h' : Hp} (hf : f_X2_doTold n z h v0 v1 v2 v3 = some (r, h')) : Ct l s0 E yX2_doTold cX2_doTold 5 (some .int) 4 99 [.ref v0, .ref v1, .ref v2, .long v3] z h h' (some (.int r)) := by
  refine Ct.of G (by decide) (Nat.le_of_ble_eq_true rfl) ?_
  intro p e s m below meth c ls B hw hz hc0 hr hlk hl
  have B : Bd p s0 s E m c cX2_doTold 5 RX2 := B
  have hx := B.1
  have hb := B.2.1
  have hl : lv_has ls 5 [(0, .ref v0), (1, .ref v1), (2, .ref v2), (3, .long v3)] := hl
  unfold f_X2_doTold at hf
  obtain ⟨_, hf⟩ := if_some hf
  refine lv_lload_n hx hb dX2_doTold_0 rfl (lv_at hl 3 rfl) ?_
  refine lv_lconst (v := 0) hx hb dX2_doTold_1 (by decide) ?_
  refine W.lcmp hx hb dX2_doTold_2 ?_
  refine lv_if_lt (tgt := 32) hx hb dX2_doTold_3 (by decide) (fun c1 => ?_) (fun c1 => ?_)
  · have hf := (if_pos c1).symm.trans hf
    exact w_X2_doTold_32 G B hz hc0 hr hlk  h v0 v1 v2 v3 _ _ _ hw (lv_sub hl [0, 1, 2, 3] rfl) hf
  · have hf := (if_neg c1).symm.trans hf
    refine lv_lload_n hx hb dX2_doTold_6 rfl (lv_at hl 3 rfl) ?_
    refine lv_ldc2 hx hb B.2.2.2.1 (B.w tw_4_107 rfl) dX2_doTold_7 ?_
    refine W.lcmp hx hb dX2_doTold_10 ?_
    refine lv_if_gt (tgt := 32) hx hb dX2_doTold_11 (by decide) (fun c2 => ?_) (fun c2 => ?_)
    · have hf := (if_pos c2).symm.trans hf
      exact w_X2_doTold_32 G B hz hc0 hr hlk  h v0 v1 v2 v3 _ _ _ hw (lv_sub hl [0, 1, 2, 3] rfl) hf
    · have hf := (if_neg c2).symm.trans hf
      refine lv_aload_n hx hb dX2_doTold_14 rfl (lv_at hl 0 rfl) ?_
      refine lv_aload_n hx hb dX2_doTold_15 rfl (lv_at hl 1 rfl) ?_
      refine lv_aload_n hx hb dX2_doTold_16 rfl (lv_at hl 2 rfl) ?_
      refine lv_lload_n hx hb dX2_doTold_17 rfl (lv_at hl 3 rfl) ?_
      refine lv_ldc2 hx hb B.2.2.2.1 (B.w tw_4_108 rfl) dX2_doTold_18 ?_
      obtain ⟨x3, e, hf⟩ := ob hf
      refine q_ldiv e hx hb dX2_doTold_21 ?_
      refine lv_l2i (v := (Int64.toInt32 x3)) hx hb dX2_doTold_22 rfl ?_
      refine lv_lload_n hx hb dX2_doTold_23 rfl (lv_at hl 3 rfl) ?_
      refine lv_ldc2 hx hb B.2.2.2.1 (B.w tw_4_108 rfl) dX2_doTold_24 ?_
      obtain ⟨x4, e, hf⟩ := ob hf
      refine q_lrem e hx hb dX2_doTold_27 ?_
      obtain ⟨⟨x5, h6⟩, e, hf⟩ := ob hf
      refine q_callV (As := [.ref v1, .ref v2, .int (Int64.toInt32 x3), .long x4]) (rest := []) (st1 := [.int x5]) (c_X2_lives G e) B hw hz hc0 (k_X2_lives e) (by decide) (ci := 2) rfl rfl my_X2_lives mv_X2_lives tw_4_109 ⟨Nat.le_of_ble_eq_true rfl, Nat.le_of_ble_eq_true rfl⟩ ⟨Nat.zero_le _, Nat.zero_le _⟩ rfl hl.1 rfl rfl (Nat.le_of_ble_eq_true rfl) dX2_doTold_28 (fun H locs hw => ?_)
      obtain ⟨rfl, rfl⟩ := so2 hf
      exact q_iret B hw hz hc0 hr hlk dX2_doTold_31
/-! SecondLife$Deeds.doAll(LSecondLife$Town;LSecondLife$People;LSecondLife$Tray;)I -/
def f_X2_doAll_8 (n : Nat) (z : Sh) : Nat → Hp → Nat → Nat → Nat → Nat → Int32 → Option (Int32 × Hp)
  | 0, _, _, _, _, _, _ => none
  | i + 1, h, v0, v1, v2, v3, v4 =>
    (gI z h 9 v3 3).bind fun x1 =>
    if x1 ≤ v4 then
      (gI z h 9 v3 3).bind fun x3 =>
      some (x3, h)
    else
      (f_X9_number z h v3 v4).bind fun x4 =>
      (f_X2_doTold n z h v0 v1 v2 x4).bind fun (x5, h6) =>
      (pI z h6 2 v0 1 x5).bind fun h7 =>
      (gI z h7 2 v0 1).bind fun x8 =>
      if x8 = 0 then
        (some (v4 + 1)).bind fun x10 =>
        (f_X2_doAll_8 n z i) h7 v0 v1 v2 v3 x10
      else
        some (v4, h7)
def f_X2_doAll (n : Nat) (z : Sh) (h : Hp) (v0 : Nat) (v1 : Nat) (v2 : Nat) (v3 : Nat) : Option (Int32 × Hp) :=
  if z.K v0 = 2 then
    (pI z h 2 v0 1 0).bind fun h1 =>
    f_X2_doAll_8 n z n h1 v0 v1 v2 v3 0
  else none
theorem k_X2_doAll {n : Nat} {z : Sh} {h : Hp} {v0 : Nat} {v1 : Nat} {v2 : Nat} {v3 : Nat} {w : Int32 × Hp} (hf : f_X2_doAll n z h v0 v1 v2 v3 = some w) : z.K v0 = 2 := by
  unfold f_X2_doAll at hf
  exact (if_some hf).1
set_option maxHeartbeats 4000000 in
theorem w_X2_doAll_8 {p : Program} {l : Launch} {e : Env} {s : State} {m : MethodId} {args : Array Value} {below : List Frame} {meth : Method} {c : Code} {s0 : State} {E : Ev} {z : Sh} {n : Nat} {r : Int32} {h' : Hp} (G : Gl s0 E) (B : Bd p s0 s E m c cX2_doAll 5 RX2) (hz : s0.heap.size ≤ z.sz) (hc0 : s.heap.size + 0 = z.sz) (hr : meth.sig.returnType = (some .int)) (hlk : meth.locks = false) : ∀ (i : Nat), ∀ (h : Hp) (v0 : Nat) (v1 : Nat) (v2 : Nat) (v3 : Nat) (v4 : Int32) (H : Heap) (locs : List Loc) (ls : Array Slot), Pw s0 s E z h H locs → lv_has ls 5 [(0, .ref v0), (1, .ref v1), (2, .ref v2), (3, .ref v3), (4, .int v4)] → f_X2_doAll_8 n z i h v0 v1 v2 v3 v4 = some (r, h') → W p l e (rmO 5 123) s m args below meth c H locs 0 0 (Zt below s0 E z h' (some (.int r)) args s 0 0) (F0 m 8 ls []) := by
  have hx := B.1
  have hb := B.2.1
  intro i
  induction i with
  | zero =>
    intro h v0 v1 v2 v3 v4 H locs ls hw hl hf
    have hf := (f_X2_doAll_8.eq_1 ..).symm.trans hf
    cases hf
  | succ i ih =>
    intro h v0 v1 v2 v3 v4 H locs ls hw hl hf
    have hf := (f_X2_doAll_8.eq_2 ..).symm.trans hf
    refine lv_iload hx hb dX2_doAll_8 (lv_at hl 4 rfl) ?_
    refine lv_aload_n hx hb dX2_doAll_10 rfl (lv_at hl 3 rfl) ?_
    obtain ⟨x1, e, hf⟩ := ob hf
    refine q_getIN e B hw fd_9_3.1 fd_9_3.2.1 fd_9_3.2.2.1 fd_9_3.2.2.2.1 fd_9_3.2.2.2.2 rfl tw_2_90 dX2_doAll_11 ?_
    refine lv_icmp_ge (tgt := 49) hx hb dX2_doAll_14 (by decide) (fun c2 => ?_) (fun c2 => ?_)
    · have hf := (if_pos c2).symm.trans hf
      refine lv_aload_n hx hb dX2_doAll_49 rfl (lv_at hl 3 rfl) ?_
      obtain ⟨x3, e, hf⟩ := ob hf
      refine q_getIN e B hw fd_9_3.1 fd_9_3.2.1 fd_9_3.2.2.1 fd_9_3.2.2.2.1 fd_9_3.2.2.2.2 rfl tw_2_90 dX2_doAll_50 ?_
      obtain ⟨rfl, rfl⟩ := so2 hf
      exact q_iret B hw hz hc0 hr hlk dX2_doAll_53
    · have hf := (if_neg c2).symm.trans hf
      refine lv_aload_n hx hb dX2_doAll_17 rfl (lv_at hl 0 rfl) ?_
      refine lv_aload_n hx hb dX2_doAll_18 rfl (lv_at hl 0 rfl) ?_
      refine lv_aload_n hx hb dX2_doAll_19 rfl (lv_at hl 1 rfl) ?_
      refine lv_aload_n hx hb dX2_doAll_20 rfl (lv_at hl 2 rfl) ?_
      refine lv_aload_n hx hb dX2_doAll_21 rfl (lv_at hl 3 rfl) ?_
      refine lv_iload hx hb dX2_doAll_22 (lv_at hl 4 rfl) ?_
      obtain ⟨x4, e, hf⟩ := ob hf
      refine q_callVN (As := [.int v4]) (rest := [.ref v2, .ref v1, .ref v0, .ref v0]) (st1 := [.long x4, .ref v2, .ref v1, .ref v0, .ref v0]) (c_X9_number G e) B hw hz hc0 (k_X9_number e) (by decide) (ci := 9) rfl rfl my_X9_number mv_X9_number tw_4_99 ⟨Nat.le_of_ble_eq_true rfl, Nat.le_of_ble_eq_true rfl⟩ ⟨Nat.zero_le _, Nat.zero_le _⟩ rfl hl.1 rfl rfl (Nat.le_of_ble_eq_true rfl) dX2_doAll_24 (fun H locs hw => ?_)
      obtain ⟨⟨x5, h6⟩, e, hf⟩ := ob hf
      refine q_callV (As := [.ref v1, .ref v2, .long x4]) (rest := [.ref v0]) (st1 := [.int x5, .ref v0]) (c_X2_doTold G e) B hw hz hc0 (k_X2_doTold e) (by decide) (ci := 2) rfl rfl my_X2_doTold mv_X2_doTold tw_4_103 ⟨Nat.le_of_ble_eq_true rfl, Nat.le_of_ble_eq_true rfl⟩ ⟨Nat.zero_le _, Nat.zero_le _⟩ rfl hl.1 rfl rfl (Nat.le_of_ble_eq_true rfl) dX2_doAll_27 (fun H locs hw => ?_)
      obtain ⟨h7, e, hf⟩ := ob hf
      refine q_putI e B hw fd_2_1.1 fd_2_1.2.1 fd_2_1.2.2.1 fd_2_1.2.2.2.1 fd_2_1.2.2.2.2 rfl rfl (tyX2_ok 1 (by decide)) tyX2 tyX2_ok nmX2 tw_1_207 dX2_doAll_30 (fun H locs hw => ?_)
      refine lv_aload_n hx hb dX2_doAll_33 rfl (lv_at hl 0 rfl) ?_
      obtain ⟨x8, e, hf⟩ := ob hf
      refine q_getI e B hw fd_2_1.1 fd_2_1.2.1 fd_2_1.2.2.1 fd_2_1.2.2.2.1 fd_2_1.2.2.2.2 rfl tw_1_207 dX2_doAll_34 ?_
      refine lv_if_eq (tgt := 43) hx hb dX2_doAll_37 (by decide) (fun c9 => ?_) (fun c9 => ?_)
      · have hf := (if_pos c9).symm.trans hf
        obtain ⟨x10, e, hf⟩ := ob hf
        refine lv_iinc (v := x10) (lv' := [(4, .int x10), (0, .ref v0), (1, .ref v1), (2, .ref v2), (3, .ref v3)]) hx hb dX2_doAll_43 hl (k := 4) rfl (Option.some.inj e) (by decide) rfl (fun ls hl => ?_)
        refine lv_goto (tgt := 8) hx hb dX2_doAll_46 (by decide) ?_
        exact ih h7 v0 v1 v2 v3 x10 _ _ _ hw (lv_sub hl [1, 2, 3, 4, 0] rfl) hf
      · have hf := (if_neg c9).symm.trans hf
        refine lv_iload hx hb dX2_doAll_40 (lv_at hl 4 rfl) ?_
        obtain ⟨rfl, rfl⟩ := so2 hf
        exact q_iret B hw hz hc0 hr hlk dX2_doAll_42
set_option maxHeartbeats 4000000 in
theorem c_X2_doAll {l : Launch} {s0 : State} {E : Ev} (G : Gl s0 E) {n : Nat} {z : Sh} {h : Hp} {v0 : Nat} {v1 : Nat} {v2 : Nat} {v3 : Nat} {r : Int32} {h' : Hp} (hf : f_X2_doAll n z h v0 v1 v2 v3 = some (r, h')) : Ct l s0 E yX2_doAll cX2_doAll 5 (some .int) 5 123 [.ref v0, .ref v1, .ref v2, .ref v3] z h h' (some (.int r)) := by
  refine Ct.of G (by decide) (Nat.le_of_ble_eq_true rfl) ?_
  intro p e s m below meth c ls B hw hz hc0 hr hlk hl
  have B : Bd p s0 s E m c cX2_doAll 5 RX2 := B
  have hx := B.1
  have hb := B.2.1
  have hl : lv_has ls 5 [(0, .ref v0), (1, .ref v1), (2, .ref v2), (3, .ref v3)] := hl
  unfold f_X2_doAll at hf
  obtain ⟨_, hf⟩ := if_some hf
  refine lv_aload_n hx hb dX2_doAll_0 rfl (lv_at hl 0 rfl) ?_
  refine lv_iconst (v := 0) hx hb dX2_doAll_1 (by decide) ?_
  obtain ⟨h1, e, hf⟩ := ob hf
  refine q_putI e B hw fd_2_1.1 fd_2_1.2.1 fd_2_1.2.2.1 fd_2_1.2.2.2.1 fd_2_1.2.2.2.2 rfl rfl (tyX2_ok 1 (by decide)) tyX2 tyX2_ok nmX2 tw_1_207 dX2_doAll_2 (fun H locs hw => ?_)
  refine lv_iconst (v := 0) hx hb dX2_doAll_5 (by decide) ?_
  refine lv_istore (lv' := [(4, .int 0), (0, .ref v0), (1, .ref v1), (2, .ref v2), (3, .ref v3)]) hx hb dX2_doAll_6 hl (by decide) rfl (fun ls hl => ?_)
  exact w_X2_doAll_8 G B hz hc0 hr hlk  n h1 v0 v1 v2 v3 0 _ _ _ hw (lv_sub hl [1, 2, 3, 4, 0] rfl) hf
/-! SecondLife$Deeds.doDrawn(LSecondLife$Town;LSecondLife$People;)I -/
def f_X2_doDrawn (n : Nat) (z : Sh) (h : Hp) (v0 : Nat) (v1 : Nat) (v2 : Nat) : Option (Int32 × Hp) :=
  if z.K v0 = 2 then
    (f_X2_nextDrawn z h v0).bind fun (x1, h2) =>
    (rmI x1 6).bind fun x3 =>
    (f_X2_nextDrawn z h2 v0).bind fun (x4, h5) =>
    (rmI x4 6).bind fun x6 =>
    if 3 < x3 then
      if x3 = 4 then
        (f_X2_draws n z h5 v0 v1 v2 x6).bind fun (x14, h15) =>
        some (x14, h15)
      else
        (f_X2_nextDrawn z h5 v0).bind fun (x9, h10) =>
        (rmI x9 9).bind fun x11 =>
        (f_X2_pledges z h10 v0 v2 x6 (1 + x11)).bind fun (x12, h13) =>
        some (x12, h13)
    else
      (f_X2_nextDrawn z h5 v0).bind fun (x16, h17) =>
      (rmI x16 4).bind fun x18 =>
      (f_X2_lives n z h17 v0 v1 v2 x6 (Int32.toInt64 x18)).bind fun (x19, h20) =>
      some (x19, h20)
  else none
theorem k_X2_doDrawn {n : Nat} {z : Sh} {h : Hp} {v0 : Nat} {v1 : Nat} {v2 : Nat} {w : Int32 × Hp} (hf : f_X2_doDrawn n z h v0 v1 v2 = some w) : z.K v0 = 2 := by
  unfold f_X2_doDrawn at hf
  exact (if_some hf).1
set_option maxHeartbeats 4000000 in
theorem c_X2_doDrawn {l : Launch} {s0 : State} {E : Ev} (G : Gl s0 E) {n : Nat} {z : Sh} {h : Hp} {v0 : Nat} {v1 : Nat} {v2 : Nat} {r : Int32} {h' : Hp} (hf : f_X2_doDrawn n z h v0 v1 v2 = some (r, h')) : Ct l s0 E yX2_doDrawn cX2_doDrawn 5 (some .int) 4 99 [.ref v0, .ref v1, .ref v2] z h h' (some (.int r)) := by
  refine Ct.of G (by decide) (Nat.le_of_ble_eq_true rfl) ?_
  intro p e s m below meth c ls B hw hz hc0 hr hlk hl
  have B : Bd p s0 s E m c cX2_doDrawn 5 RX2 := B
  have hx := B.1
  have hb := B.2.1
  have hl : lv_has ls 5 [(0, .ref v0), (1, .ref v1), (2, .ref v2)] := hl
  unfold f_X2_doDrawn at hf
  obtain ⟨_, hf⟩ := if_some hf
  refine lv_aload_n hx hb dX2_doDrawn_0 rfl (lv_at hl 0 rfl) ?_
  obtain ⟨⟨x1, h2⟩, e, hf⟩ := ob hf
  refine q_callV (As := []) (rest := []) (st1 := [.int x1]) (c_X2_nextDrawn G e) B hw hz hc0 (k_X2_nextDrawn e) (by decide) (ci := 2) rfl rfl my_X2_nextDrawn mv_X2_nextDrawn tw_4_144 ⟨Nat.le_of_ble_eq_true rfl, Nat.le_of_ble_eq_true rfl⟩ ⟨Nat.zero_le _, Nat.zero_le _⟩ rfl hl.1 rfl rfl (Nat.le_of_ble_eq_true rfl) dX2_doDrawn_1 (fun H locs hw => ?_)
  refine lv_bipush (v := 6) hx hb dX2_doDrawn_4 (by decide) ?_
  obtain ⟨x3, e, hf⟩ := ob hf
  refine q_irem e hx hb dX2_doDrawn_6 ?_
  refine lv_istore_n (lv' := [(3, .int x3), (0, .ref v0), (1, .ref v1), (2, .ref v2)]) hx hb dX2_doDrawn_7 rfl hl (by decide) rfl (fun ls hl => ?_)
  refine lv_aload_n hx hb dX2_doDrawn_8 rfl (lv_at hl 1 rfl) ?_
  obtain ⟨⟨x4, h5⟩, e, hf⟩ := ob hf
  refine q_callV (As := []) (rest := []) (st1 := [.int x4]) (c_X2_nextDrawn G e) B hw hz hc0 (k_X2_nextDrawn e) (by decide) (ci := 2) rfl rfl my_X2_nextDrawn mv_X2_nextDrawn tw_4_144 ⟨Nat.le_of_ble_eq_true rfl, Nat.le_of_ble_eq_true rfl⟩ ⟨Nat.zero_le _, Nat.zero_le _⟩ rfl hl.1 rfl rfl (Nat.le_of_ble_eq_true rfl) dX2_doDrawn_9 (fun H locs hw => ?_)
  refine lv_bipush (v := 6) hx hb dX2_doDrawn_12 (by decide) ?_
  obtain ⟨x6, e, hf⟩ := ob hf
  refine q_irem e hx hb dX2_doDrawn_14 ?_
  refine lv_istore (lv' := [(4, .int x6), (3, .int x3), (0, .ref v0), (1, .ref v1), (2, .ref v2)]) hx hb dX2_doDrawn_15 hl (by decide) rfl (fun ls hl => ?_)
  refine lv_iload_n hx hb dX2_doDrawn_17 rfl (lv_at hl 1 rfl) ?_
  refine lv_iconst (v := 3) hx hb dX2_doDrawn_18 (by decide) ?_
  refine lv_icmp_gt (tgt := 38) hx hb dX2_doDrawn_19 (by decide) (fun c7 => ?_) (fun c7 => ?_)
  · have hf := (if_pos c7).symm.trans hf
    refine lv_iload_n hx hb dX2_doDrawn_38 rfl (lv_at hl 1 rfl) ?_
    refine lv_iconst (v := 4) hx hb dX2_doDrawn_39 (by decide) ?_
    refine lv_icmp_ne (tgt := 52) hx hb dX2_doDrawn_40 (by decide) (fun c8 => ?_) (fun c8 => ?_)
    · have hf := (if_neg c8).symm.trans hf
      refine lv_aload_n hx hb dX2_doDrawn_52 rfl (lv_at hl 2 rfl) ?_
      refine lv_aload_n hx hb dX2_doDrawn_53 rfl (lv_at hl 4 rfl) ?_
      refine lv_iload hx hb dX2_doDrawn_54 (lv_at hl 0 rfl) ?_
      refine lv_iconst (v := 1) hx hb dX2_doDrawn_56 (by decide) ?_
      refine lv_aload_n hx hb dX2_doDrawn_57 rfl (lv_at hl 2 rfl) ?_
      obtain ⟨⟨x9, h10⟩, e, hf⟩ := ob hf
      refine q_callV (As := []) (rest := [.int 1, .int x6, .ref v2, .ref v0]) (st1 := [.int x9, .int 1, .int x6, .ref v2, .ref v0]) (c_X2_nextDrawn G e) B hw hz hc0 (k_X2_nextDrawn e) (by decide) (ci := 2) rfl rfl my_X2_nextDrawn mv_X2_nextDrawn tw_4_144 ⟨Nat.le_of_ble_eq_true rfl, Nat.le_of_ble_eq_true rfl⟩ ⟨Nat.zero_le _, Nat.zero_le _⟩ rfl hl.1 rfl rfl (Nat.le_of_ble_eq_true rfl) dX2_doDrawn_58 (fun H locs hw => ?_)
      refine lv_bipush (v := 9) hx hb dX2_doDrawn_61 (by decide) ?_
      obtain ⟨x11, e, hf⟩ := ob hf
      refine q_irem e hx hb dX2_doDrawn_63 ?_
      refine lv_iadd hx hb dX2_doDrawn_64 ?_
      obtain ⟨⟨x12, h13⟩, e, hf⟩ := ob hf
      refine q_callV (As := [.ref v2, .int x6, .int (1 + x11)]) (rest := []) (st1 := [.int x12]) (c_X2_pledges G e) B hw hz hc0 (k_X2_pledges e) (by decide) (ci := 2) rfl rfl my_X2_pledges mv_X2_pledges tw_4_118 ⟨Nat.le_of_ble_eq_true rfl, Nat.le_of_ble_eq_true rfl⟩ ⟨Nat.zero_le _, Nat.zero_le _⟩ rfl hl.1 rfl rfl (Nat.le_of_ble_eq_true rfl) dX2_doDrawn_65 (fun H locs hw => ?_)
      obtain ⟨rfl, rfl⟩ := so2 hf
      exact q_iret B hw hz hc0 hr hlk dX2_doDrawn_68
    · have hf := (if_pos c8).symm.trans hf
      refine lv_aload_n hx hb dX2_doDrawn_43 rfl (lv_at hl 2 rfl) ?_
      refine lv_aload_n hx hb dX2_doDrawn_44 rfl (lv_at hl 3 rfl) ?_
      refine lv_aload_n hx hb dX2_doDrawn_45 rfl (lv_at hl 4 rfl) ?_
      refine lv_iload hx hb dX2_doDrawn_46 (lv_at hl 0 rfl) ?_
      obtain ⟨⟨x14, h15⟩, e, hf⟩ := ob hf
      refine q_callV (As := [.ref v1, .ref v2, .int x6]) (rest := []) (st1 := [.int x14]) (c_X2_draws G e) B hw hz hc0 (k_X2_draws e) (by decide) (ci := 2) rfl rfl my_X2_draws mv_X2_draws tw_4_112 ⟨Nat.le_of_ble_eq_true rfl, Nat.le_of_ble_eq_true rfl⟩ ⟨Nat.zero_le _, Nat.zero_le _⟩ rfl hl.1 rfl rfl (Nat.le_of_ble_eq_true rfl) dX2_doDrawn_48 (fun H locs hw => ?_)
      obtain ⟨rfl, rfl⟩ := so2 hf
      exact q_iret B hw hz hc0 hr hlk dX2_doDrawn_51
  · have hf := (if_neg c7).symm.trans hf
    refine lv_aload_n hx hb dX2_doDrawn_22 rfl (lv_at hl 2 rfl) ?_
    refine lv_aload_n hx hb dX2_doDrawn_23 rfl (lv_at hl 3 rfl) ?_
    refine lv_aload_n hx hb dX2_doDrawn_24 rfl (lv_at hl 4 rfl) ?_
    refine lv_iload hx hb dX2_doDrawn_25 (lv_at hl 0 rfl) ?_
    refine lv_aload_n hx hb dX2_doDrawn_27 rfl (lv_at hl 2 rfl) ?_
    obtain ⟨⟨x16, h17⟩, e, hf⟩ := ob hf
    refine q_callV (As := []) (rest := [.int x6, .ref v2, .ref v1, .ref v0]) (st1 := [.int x16, .int x6, .ref v2, .ref v1, .ref v0]) (c_X2_nextDrawn G e) B hw hz hc0 (k_X2_nextDrawn e) (by decide) (ci := 2) rfl rfl my_X2_nextDrawn mv_X2_nextDrawn tw_4_144 ⟨Nat.le_of_ble_eq_true rfl, Nat.le_of_ble_eq_true rfl⟩ ⟨Nat.zero_le _, Nat.zero_le _⟩ rfl hl.1 rfl rfl (Nat.le_of_ble_eq_true rfl) dX2_doDrawn_28 (fun H locs hw => ?_)
    refine lv_iconst (v := 4) hx hb dX2_doDrawn_31 (by decide) ?_
    obtain ⟨x18, e, hf⟩ := ob hf
    refine q_irem e hx hb dX2_doDrawn_32 ?_
    refine lv_i2l (v := (Int32.toInt64 x18)) hx hb dX2_doDrawn_33 rfl ?_
    obtain ⟨⟨x19, h20⟩, e, hf⟩ := ob hf
    refine q_callV (As := [.ref v1, .ref v2, .int x6, .long (Int32.toInt64 x18)]) (rest := []) (st1 := [.int x19]) (c_X2_lives G e) B hw hz hc0 (k_X2_lives e) (by decide) (ci := 2) rfl rfl my_X2_lives mv_X2_lives tw_4_109 ⟨Nat.le_of_ble_eq_true rfl, Nat.le_of_ble_eq_true rfl⟩ ⟨Nat.zero_le _, Nat.zero_le _⟩ rfl hl.1 rfl rfl (Nat.le_of_ble_eq_true rfl) dX2_doDrawn_34 (fun H locs hw => ?_)
    obtain ⟨rfl, rfl⟩ := so2 hf
    exact q_iret B hw hz hc0 hr hlk dX2_doDrawn_37
/-! SecondLife$Reader.is(Ljava/lang/String;)Z -/
def f_X6_is_35 (n : Nat) (z : Sh) (h : Hp) : Nat → Nat → Nat → Int32 → Option (Int32)
  | 0, _, _, _ => none
  | i + 1, v0, v1, v2 =>
    (f_J0_length_8abf5 z h v1).bind fun x1 =>
    if x1 ≤ v2 then
      some 1
    else
      (gI z h 6 v0 4).bind fun x3 =>
      (f_X6_byteAt z h v0 (x3 + v2)).bind fun x4 =>
      (f_J0_charAt_5068e z h v1 v2).bind fun x5 =>
      if x4 = x5 then
        (some (v2 + 1)).bind fun x7 =>
        (f_X6_is_35 n z h i) v0 v1 x7
      else
        some 0
def f_X6_is_15 (n : Nat) (z : Sh) (h : Hp) (v0 : Nat) (v1 : Nat) : Option (Int32) :=
  (gI z h 6 v0 5).bind fun x1 =>
  (gI z h 6 v0 4).bind fun x2 =>
  (f_J0_length_8abf5 z h v1).bind fun x3 =>
  if (x1 - x2) = x3 then
    f_X6_is_35 n z h n v0 v1 0
  else
    some 0
def f_X6_is (n : Nat) (z : Sh) (h : Hp) (v0 : Nat) (v1 : Nat) : Option (Int32) :=
  if z.K v0 = 6 then
    (gI z h 6 v0 6).bind fun x1 =>
    if x1 = 0 then
      f_X6_is_15 n z h v0 v1
    else
      (gI z h 6 v0 6).bind fun x3 =>
      if x3 = 2 then
        f_X6_is_15 n z h v0 v1
      else
        some 0
  else none
theorem k_X6_is {n : Nat} {z : Sh} {h : Hp} {v0 : Nat} {v1 : Nat} {w : Int32} (hf : f_X6_is n z h v0 v1 = some w) : z.K v0 = 6 := by
  unfold f_X6_is at hf
  exact (if_some hf).1
set_option maxHeartbeats 4000000 in
theorem w_X6_is_35 {p : Program} {l : Launch} {e : Env} {s : State} {m : MethodId} {args : Array Value} {below : List Frame} {meth : Method} {c : Code} {s0 : State} {E : Ev} {z : Sh} {h : Hp} {n : Nat} {r : Int32} (G : Gl s0 E) (B : Bd p s0 s E m c cX6_is 3 RX6) (hz : s0.heap.size ≤ z.sz) (hc0 : s.heap.size + 0 = z.sz) (hr : meth.sig.returnType = (some .boolean)) (hlk : meth.locks = false) : ∀ (i : Nat), ∀ (v0 : Nat) (v1 : Nat) (v2 : Int32) (H : Heap) (locs : List Loc) (ls : Array Slot), Pw s0 s E z h H locs → lv_has ls 3 [(0, .ref v0), (1, .ref v1), (2, .int v2)] → f_X6_is_35 n z h i v0 v1 v2 = some r → W p l e (rmO 4 85) s m args below meth c H locs 0 0 (Zt below s0 E z h (some (.int r)) args s 0 0) (F0 m 35 ls []) := by
  have hx := B.1
  have hb := B.2.1
  intro i
  induction i with
  | zero =>
    intro v0 v1 v2 H locs ls hw hl hf
    have hf := (f_X6_is_35.eq_1 ..).symm.trans hf
    cases hf
  | succ i ih =>
    intro v0 v1 v2 H locs ls hw hl hf
    have hf := (f_X6_is_35.eq_2 ..).symm.trans hf
    refine lv_iload_n hx hb dX6_is_35 rfl (lv_at hl 2 rfl) ?_
    refine lv_aload_n hx hb dX6_is_36 rfl (lv_at hl 1 rfl) ?_
    obtain ⟨x1, e, hf⟩ := ob hf
    refine q_callVS (As := []) (rest := [.int v2]) (st1 := [.int x1, .int v2]) (c_J0_length_8abf5 G e) B hw hz hc0 (k_J0_length_8abf5 e) rfl my_J0_length_8abf5 mv_J0_length_8abf5 tw_3_46 ⟨Nat.le_of_ble_eq_true rfl, Nat.le_of_ble_eq_true rfl⟩ ⟨Nat.zero_le _, Nat.zero_le _⟩ rfl hl.1 rfl rfl (Nat.le_of_ble_eq_true rfl) dX6_is_37 (fun H locs hw => ?_)
    refine lv_icmp_ge (tgt := 69) hx hb dX6_is_40 (by decide) (fun c2 => ?_) (fun c2 => ?_)
    · have hf := (if_pos c2).symm.trans hf
      refine lv_iconst (v := 1) hx hb dX6_is_69 (by decide) ?_
      obtain rfl := so hf
      exact q_zret (Or.inr rfl) B hw hz hc0 hr hlk dX6_is_70
    · have hf := (if_neg c2).symm.trans hf
      refine lv_aload_n hx hb dX6_is_43 rfl (lv_at hl 0 rfl) ?_
      refine lv_aload_n hx hb dX6_is_44 rfl (lv_at hl 0 rfl) ?_
      obtain ⟨x3, e, hf⟩ := ob hf
      refine q_getI e B hw fd_6_4.1 fd_6_4.2.1 fd_6_4.2.2.1 fd_6_4.2.2.2.1 fd_6_4.2.2.2.2 rfl tw_1_109 dX6_is_45 ?_
      refine lv_iload_n hx hb dX6_is_48 rfl (lv_at hl 2 rfl) ?_
      refine lv_iadd hx hb dX6_is_49 ?_
      obtain ⟨x4, e, hf⟩ := ob hf
      refine q_callV (As := [.int (x3 + v2)]) (rest := []) (st1 := [.int x4]) (c_X6_byteAt G e) B hw hz hc0 (k_X6_byteAt e) (by decide) (ci := 6) rfl rfl my_X6_byteAt mv_X6_byteAt tw_2_175 ⟨Nat.le_of_ble_eq_true rfl, Nat.le_of_ble_eq_true rfl⟩ ⟨Nat.zero_le _, Nat.zero_le _⟩ rfl hl.1 rfl rfl (Nat.le_of_ble_eq_true rfl) dX6_is_50 (fun H locs hw => ?_)
      refine lv_aload_n hx hb dX6_is_53 rfl (lv_at hl 1 rfl) ?_
      refine lv_iload_n hx hb dX6_is_54 rfl (lv_at hl 2 rfl) ?_
      obtain ⟨x5, e, hf⟩ := ob hf
      refine q_callVS (As := [.int v2]) (rest := [.int x4]) (st1 := [.int x5, .int x4]) (c_J0_charAt_5068e G e) B hw hz hc0 (k_J0_charAt_5068e e) rfl my_J0_charAt_5068e mv_J0_charAt_5068e tw_3_47 ⟨Nat.le_of_ble_eq_true rfl, Nat.le_of_ble_eq_true rfl⟩ ⟨Nat.zero_le _, Nat.zero_le _⟩ rfl hl.1 rfl rfl (Nat.le_of_ble_eq_true rfl) dX6_is_55 (fun H locs hw => ?_)
      refine lv_icmp_eq (tgt := 63) hx hb dX6_is_58 (by decide) (fun c6 => ?_) (fun c6 => ?_)
      · have hf := (if_pos c6).symm.trans hf
        obtain ⟨x7, e, hf⟩ := ob hf
        refine lv_iinc (v := x7) (lv' := [(2, .int x7), (0, .ref v0), (1, .ref v1)]) hx hb dX6_is_63 hl (k := 2) rfl (Option.some.inj e) (by decide) rfl (fun ls hl => ?_)
        refine lv_goto (tgt := 35) hx hb dX6_is_66 (by decide) ?_
        exact ih v0 v1 x7 _ _ _ hw (lv_sub hl [1, 2, 0] rfl) hf
      · have hf := (if_neg c6).symm.trans hf
        refine lv_iconst (v := 0) hx hb dX6_is_61 (by decide) ?_
        obtain rfl := so hf
        exact q_zret (Or.inl rfl) B hw hz hc0 hr hlk dX6_is_62
set_option maxHeartbeats 4000000 in
theorem w_X6_is_15 {p : Program} {l : Launch} {e : Env} {s : State} {m : MethodId} {args : Array Value} {below : List Frame} {meth : Method} {c : Code} {s0 : State} {E : Ev} {z : Sh} {h : Hp} {n : Nat} {r : Int32} (G : Gl s0 E) (B : Bd p s0 s E m c cX6_is 3 RX6) (hz : s0.heap.size ≤ z.sz) (hc0 : s.heap.size + 0 = z.sz) (hr : meth.sig.returnType = (some .boolean)) (hlk : meth.locks = false) : ∀ (v0 : Nat) (v1 : Nat) (H : Heap) (locs : List Loc) (ls : Array Slot), Pw s0 s E z h H locs → lv_has ls 3 [(0, .ref v0), (1, .ref v1)] → f_X6_is_15 n z h v0 v1 = some r → W p l e (rmO 4 85) s m args below meth c H locs 0 0 (Zt below s0 E z h (some (.int r)) args s 0 0) (F0 m 15 ls []) := by
  have hx := B.1
  have hb := B.2.1
  intro v0 v1 H locs ls hw hl hf
  unfold f_X6_is_15 at hf
  refine lv_aload_n hx hb dX6_is_15 rfl (lv_at hl 0 rfl) ?_
  obtain ⟨x1, e, hf⟩ := ob hf
  refine q_getI e B hw fd_6_5.1 fd_6_5.2.1 fd_6_5.2.2.1 fd_6_5.2.2.2.1 fd_6_5.2.2.2.2 rfl tw_1_110 dX6_is_16 ?_
  refine lv_aload_n hx hb dX6_is_19 rfl (lv_at hl 0 rfl) ?_
  obtain ⟨x2, e, hf⟩ := ob hf
  refine q_getI e B hw fd_6_4.1 fd_6_4.2.1 fd_6_4.2.2.1 fd_6_4.2.2.2.1 fd_6_4.2.2.2.2 rfl tw_1_109 dX6_is_20 ?_
  refine lv_isub hx hb dX6_is_23 ?_
  refine lv_aload_n hx hb dX6_is_24 rfl (lv_at hl 1 rfl) ?_
  obtain ⟨x3, e, hf⟩ := ob hf
  refine q_callVS (As := []) (rest := [.int (x1 - x2)]) (st1 := [.int x3, .int (x1 - x2)]) (c_J0_length_8abf5 G e) B hw hz hc0 (k_J0_length_8abf5 e) rfl my_J0_length_8abf5 mv_J0_length_8abf5 tw_3_46 ⟨Nat.le_of_ble_eq_true rfl, Nat.le_of_ble_eq_true rfl⟩ ⟨Nat.zero_le _, Nat.zero_le _⟩ rfl hl.1 rfl rfl (Nat.le_of_ble_eq_true rfl) dX6_is_25 (fun H locs hw => ?_)
  refine lv_icmp_eq (tgt := 33) hx hb dX6_is_28 (by decide) (fun c4 => ?_) (fun c4 => ?_)
  · have hf := (if_pos c4).symm.trans hf
    refine lv_iconst (v := 0) hx hb dX6_is_33 (by decide) ?_
    refine lv_istore_n (lv' := [(2, .int 0), (0, .ref v0), (1, .ref v1)]) hx hb dX6_is_34 rfl hl (by decide) rfl (fun ls hl => ?_)
    exact w_X6_is_35 G B hz hc0 hr hlk  n v0 v1 0 _ _ _ hw (lv_sub hl [1, 2, 0] rfl) hf
  · have hf := (if_neg c4).symm.trans hf
    refine lv_iconst (v := 0) hx hb dX6_is_31 (by decide) ?_
    obtain rfl := so hf
    exact q_zret (Or.inl rfl) B hw hz hc0 hr hlk dX6_is_32
set_option maxHeartbeats 4000000 in
theorem c_X6_is {l : Launch} {s0 : State} {E : Ev} (G : Gl s0 E) {n : Nat} {z : Sh} {h : Hp} {v0 : Nat} {v1 : Nat} {r : Int32} (hf : f_X6_is n z h v0 v1 = some r) : Ct l s0 E yX6_is cX6_is 3 (some .boolean) 4 85 [.ref v0, .ref v1] z h h (some (.int r)) := by
  refine Ct.of G (by decide) (Nat.le_of_ble_eq_true rfl) ?_
  intro p e s m below meth c ls B hw hz hc0 hr hlk hl
  have B : Bd p s0 s E m c cX6_is 3 RX6 := B
  have hx := B.1
  have hb := B.2.1
  have hl : lv_has ls 3 [(0, .ref v0), (1, .ref v1)] := hl
  unfold f_X6_is at hf
  obtain ⟨_, hf⟩ := if_some hf
  refine lv_aload_n hx hb dX6_is_0 rfl (lv_at hl 0 rfl) ?_
  obtain ⟨x1, e, hf⟩ := ob hf
  refine q_getI e B hw fd_6_6.1 fd_6_6.2.1 fd_6_6.2.2.1 fd_6_6.2.2.2.1 fd_6_6.2.2.2.2 rfl tw_1_111 dX6_is_1 ?_
  refine lv_if_eq (tgt := 15) hx hb dX6_is_4 (by decide) (fun c2 => ?_) (fun c2 => ?_)
  · have hf := (if_pos c2).symm.trans hf
    exact w_X6_is_15 G B hz hc0 hr hlk  v0 v1 _ _ _ hw (lv_sub hl [0, 1] rfl) hf
  · have hf := (if_neg c2).symm.trans hf
    refine lv_aload_n hx hb dX6_is_7 rfl (lv_at hl 0 rfl) ?_
    obtain ⟨x3, e, hf⟩ := ob hf
    refine q_getI e B hw fd_6_6.1 fd_6_6.2.1 fd_6_6.2.2.1 fd_6_6.2.2.2.1 fd_6_6.2.2.2.2 rfl tw_1_111 dX6_is_8 ?_
    refine lv_iconst (v := 2) hx hb dX6_is_11 (by decide) ?_
    refine lv_icmp_ne (tgt := 31) hx hb dX6_is_12 (by decide) (fun c4 => ?_) (fun c4 => ?_)
    · have hf := (if_neg c4).symm.trans hf
      refine lv_iconst (v := 0) hx hb dX6_is_31 (by decide) ?_
      obtain rfl := so hf
      exact q_zret (Or.inl rfl) B hw hz hc0 hr hlk dX6_is_32
    · have hf := (if_pos c4).symm.trans hf
      exact w_X6_is_15 G B hz hc0 hr hlk  v0 v1 _ _ _ hw (lv_sub hl [0, 1] rfl) hf
/-! java/lang/String.indexOf(I)I -/
def f_J0_indexOf_0f7a4 (n : Nat) (z : Sh) (h : Hp) (v0 : Nat) (v1 : Int32) : Option (Int32) :=
  if z.isS v0 = true then
    (f_J0_indexOf_7cf53 n z h v0 v1 0).bind fun x1 =>
    some x1
  else none
theorem k_J0_indexOf_0f7a4 {n : Nat} {z : Sh} {h : Hp} {v0 : Nat} {v1 : Int32} {w : Int32} (hf : f_J0_indexOf_0f7a4 n z h v0 v1 = some w) : z.isS v0 = true := by
  unfold f_J0_indexOf_0f7a4 at hf
  exact (if_some hf).1
set_option maxHeartbeats 4000000 in
theorem c_J0_indexOf_0f7a4 {l : Launch} {s0 : State} {E : Ev} (G : Gl s0 E) {n : Nat} {z : Sh} {h : Hp} {v0 : Nat} {v1 : Int32} {r : Int32} (hf : f_J0_indexOf_0f7a4 n z h v0 v1 = some r) : Ct l s0 E yJ0_indexOf_0f7a4 cJ0_indexOf_0f7a4 2 (some .int) 3 70 [.ref v0, .int v1] z h h (some (.int r)) := by
  refine Ct.ofF G (by decide +kernel) (Nat.le_of_ble_eq_true rfl) ?_
  intro p e s m below meth c ls B hw hz hc0 hr hlk hl
  have B : Bd p s0 s E m c cJ0_indexOf_0f7a4 2 RJ0 := B
  have hx := B.1
  have hb := B.2.1
  have hl : lv_has ls 2 [(0, .ref v0), (1, .int v1)] := hl
  unfold f_J0_indexOf_0f7a4 at hf
  obtain ⟨_, hf⟩ := if_some hf
  refine lv_aload_n hx hb dJ0_indexOf_0f7a4_0 rfl (lv_at hl 0 rfl) ?_
  refine lv_iload_n hx hb dJ0_indexOf_0f7a4_1 rfl (lv_at hl 1 rfl) ?_
  refine lv_iconst (v := 0) hx hb dJ0_indexOf_0f7a4_2 (by decide) ?_
  obtain ⟨x1, e, hf⟩ := ob hf
  refine q_callVS (As := [.int v1, .int 0]) (rest := []) (st1 := [.int x1]) (c_J0_indexOf_7cf53 G e) B hw hz hc0 (k_J0_indexOf_7cf53 e) rfl my_J0_indexOf_7cf53 mv_J0_indexOf_7cf53 tw_2_193 ⟨Nat.le_of_ble_eq_true rfl, Nat.le_of_ble_eq_true rfl⟩ ⟨Nat.zero_le _, Nat.zero_le _⟩ rfl hl.1 rfl rfl (Nat.le_of_ble_eq_true rfl) dJ0_indexOf_0f7a4_3 (fun H locs hw => ?_)
  obtain rfl := so hf
  exact q_iret B hw hz hc0 hr hlk dJ0_indexOf_0f7a4_6
/-! SecondLife.live(II)I -/
def f_X11_live (n : Nat) (z : Sh) (h : Hp) (v0 : Nat) (v1 : Int32) (v2 : Int32) : Option (Int32 × Hp) :=
  if z.K v0 = 11 then
    (gR z h 11 v0 5).bind fun a1 =>
    (gR z h 11 v0 4).bind fun a2 =>
    (f_X5_copy z h a1 a2).bind fun h3 =>
    (gR z h3 11 v0 11).bind fun a4 =>
    (gR z h3 11 v0 3).bind fun a5 =>
    (gR z h3 11 v0 4).bind fun a6 =>
    (f_X2_lives n z h3 a4 a5 a6 v1 (Int32.toInt64 v2)).bind fun (x7, h8) =>
    if x7 = 0 then
      (gR z h8 11 v0 6).bind fun a10 =>
      (gR z h8 11 v0 5).bind fun a11 =>
      (f_X4_keep z h8 a10 a11).bind fun h12 =>
      (gR z h12 11 v0 4).bind fun a13 =>
      (f_X5_part z h12 a13 v1 2).bind fun x14 =>
      (gR z h12 11 v0 5).bind fun a15 =>
      (f_X5_part z h12 a15 v1 2).bind fun x16 =>
      some ((x14 - x16), h12)
    else
      (f_X11_refused z h8 (10 + x7)).bind fun x17 =>
      some (x17, h8)
  else none
theorem k_X11_live {n : Nat} {z : Sh} {h : Hp} {v0 : Nat} {v1 : Int32} {v2 : Int32} {w : Int32 × Hp} (hf : f_X11_live n z h v0 v1 v2 = some w) : z.K v0 = 11 := by
  unfold f_X11_live at hf
  exact (if_some hf).1
set_option maxHeartbeats 4000000 in
theorem c_X11_live {l : Launch} {s0 : State} {E : Ev} (G : Gl s0 E) {n : Nat} {z : Sh} {h : Hp} {v0 : Nat} {v1 : Int32} {v2 : Int32} {r : Int32} {h' : Hp} (hf : f_X11_live n z h v0 v1 v2 = some (r, h')) : Ct l s0 E yX11_live cX11_live 4 (some .int) 4 103 [.ref v0, .int v1, .int v2] z h h' (some (.int r)) := by
  refine Ct.of G (by decide) (Nat.le_of_ble_eq_true rfl) ?_
  intro p e s m below meth c ls B hw hz hc0 hr hlk hl
  have B : Bd p s0 s E m c cX11_live 4 RX11 := B
  have hx := B.1
  have hb := B.2.1
  have hl : lv_has ls 4 [(0, .ref v0), (1, .int v1), (2, .int v2)] := hl
  unfold f_X11_live at hf
  obtain ⟨_, hf⟩ := if_some hf
  refine lv_aload_n hx hb dX11_live_0 rfl (lv_at hl 0 rfl) ?_
  obtain ⟨a1, e, hf⟩ := ob hf
  refine q_getR e B hw fd_11_5.1 fd_11_5.2.1 fd_11_5.2.2.1 fd_11_5.2.2.2.1 fd_11_5.2.2.2.2 rfl tw_2_107 dX11_live_1 ?_
  refine lv_aload_n hx hb dX11_live_4 rfl (lv_at hl 0 rfl) ?_
  obtain ⟨a2, e, hf⟩ := ob hf
  refine q_getR e B hw fd_11_4.1 fd_11_4.2.1 fd_11_4.2.2.1 fd_11_4.2.2.2.1 fd_11_4.2.2.2.2 rfl tw_2_106 dX11_live_5 ?_
  obtain ⟨h3, e, hf⟩ := ob hf
  refine q_callVN (As := [.ref a2]) (rest := []) (st1 := []) (c_X5_copy G e) B hw hz hc0 (k_X5_copy e) (by decide) (ci := 5) rfl rfl my_X5_copy mv_X5_copy tw_4_25 ⟨Nat.le_of_ble_eq_true rfl, Nat.le_of_ble_eq_true rfl⟩ ⟨Nat.zero_le _, Nat.zero_le _⟩ rfl hl.1 rfl rfl (Nat.le_of_ble_eq_true rfl) dX11_live_8 (fun H locs hw => ?_)
  refine lv_aload_n hx hb dX11_live_11 rfl (lv_at hl 0 rfl) ?_
  obtain ⟨a4, e, hf⟩ := ob hf
  refine q_getR e B hw fd_11_11.1 fd_11_11.2.1 fd_11_11.2.2.1 fd_11_11.2.2.2.1 fd_11_11.2.2.2.2 rfl tw_2_113 dX11_live_12 ?_
  refine lv_aload_n hx hb dX11_live_15 rfl (lv_at hl 0 rfl) ?_
  obtain ⟨a5, e, hf⟩ := ob hf
  refine q_getR e B hw fd_11_3.1 fd_11_3.2.1 fd_11_3.2.2.1 fd_11_3.2.2.2.1 fd_11_3.2.2.2.2 rfl tw_2_105 dX11_live_16 ?_
  refine lv_aload_n hx hb dX11_live_19 rfl (lv_at hl 0 rfl) ?_
  obtain ⟨a6, e, hf⟩ := ob hf
  refine q_getR e B hw fd_11_4.1 fd_11_4.2.1 fd_11_4.2.2.1 fd_11_4.2.2.2.1 fd_11_4.2.2.2.2 rfl tw_2_106 dX11_live_20 ?_
  refine lv_iload_n hx hb dX11_live_23 rfl (lv_at hl 1 rfl) ?_
  refine lv_iload_n hx hb dX11_live_24 rfl (lv_at hl 2 rfl) ?_
  refine lv_i2l (v := (Int32.toInt64 v2)) hx hb dX11_live_25 rfl ?_
  obtain ⟨⟨x7, h8⟩, e, hf⟩ := ob hf
  refine q_callVN (As := [.ref a5, .ref a6, .int v1, .long (Int32.toInt64 v2)]) (rest := []) (st1 := [.int x7]) (c_X2_lives G e) B hw hz hc0 (k_X2_lives e) (by decide) (ci := 2) rfl rfl my_X2_lives mv_X2_lives tw_4_30 ⟨Nat.le_of_ble_eq_true rfl, Nat.le_of_ble_eq_true rfl⟩ ⟨Nat.zero_le _, Nat.zero_le _⟩ rfl hl.1 rfl rfl (Nat.le_of_ble_eq_true rfl) dX11_live_26 (fun H locs hw => ?_)
  refine lv_istore_n (lv' := [(3, .int x7), (0, .ref v0), (1, .int v1), (2, .int v2)]) hx hb dX11_live_29 rfl hl (by decide) rfl (fun ls hl => ?_)
  refine lv_iload_n hx hb dX11_live_30 rfl (lv_at hl 0 rfl) ?_
  refine lv_if_eq (tgt := 42) hx hb dX11_live_31 (by decide) (fun c9 => ?_) (fun c9 => ?_)
  · have hf := (if_pos c9).symm.trans hf
    refine lv_aload_n hx hb dX11_live_42 rfl (lv_at hl 1 rfl) ?_
    obtain ⟨a10, e, hf⟩ := ob hf
    refine q_getR e B hw fd_11_6.1 fd_11_6.2.1 fd_11_6.2.2.1 fd_11_6.2.2.2.1 fd_11_6.2.2.2.2 rfl tw_2_108 dX11_live_43 ?_
    refine lv_aload_n hx hb dX11_live_46 rfl (lv_at hl 1 rfl) ?_
    obtain ⟨a11, e, hf⟩ := ob hf
    refine q_getR e B hw fd_11_5.1 fd_11_5.2.1 fd_11_5.2.2.1 fd_11_5.2.2.2.1 fd_11_5.2.2.2.2 rfl tw_2_107 dX11_live_47 ?_
    obtain ⟨h12, e, hf⟩ := ob hf
    refine q_callVN (As := [.ref a11]) (rest := []) (st1 := []) (c_X4_keep G e) B hw hz hc0 (k_X4_keep e) (by decide) (ci := 4) rfl rfl my_X4_keep mv_X4_keep tw_4_40 ⟨Nat.le_of_ble_eq_true rfl, Nat.le_of_ble_eq_true rfl⟩ ⟨Nat.zero_le _, Nat.zero_le _⟩ rfl hl.1 rfl rfl (Nat.le_of_ble_eq_true rfl) dX11_live_50 (fun H locs hw => ?_)
    refine lv_aload_n hx hb dX11_live_53 rfl (lv_at hl 1 rfl) ?_
    obtain ⟨a13, e, hf⟩ := ob hf
    refine q_getR e B hw fd_11_4.1 fd_11_4.2.1 fd_11_4.2.2.1 fd_11_4.2.2.2.1 fd_11_4.2.2.2.2 rfl tw_2_106 dX11_live_54 ?_
    refine lv_iload_n hx hb dX11_live_57 rfl (lv_at hl 2 rfl) ?_
    refine lv_iconst (v := 2) hx hb dX11_live_58 (by decide) ?_
    obtain ⟨x14, e, hf⟩ := ob hf
    refine q_callVN (As := [.int v1, .int 2]) (rest := []) (st1 := [.int x14]) (c_X5_part G e) B hw hz hc0 (k_X5_part e) (by decide) (ci := 5) rfl rfl my_X5_part mv_X5_part tw_3_214 ⟨Nat.le_of_ble_eq_true rfl, Nat.le_of_ble_eq_true rfl⟩ ⟨Nat.zero_le _, Nat.zero_le _⟩ rfl hl.1 rfl rfl (Nat.le_of_ble_eq_true rfl) dX11_live_59 (fun H locs hw => ?_)
    refine lv_aload_n hx hb dX11_live_62 rfl (lv_at hl 1 rfl) ?_
    obtain ⟨a15, e, hf⟩ := ob hf
    refine q_getR e B hw fd_11_5.1 fd_11_5.2.1 fd_11_5.2.2.1 fd_11_5.2.2.2.1 fd_11_5.2.2.2.2 rfl tw_2_107 dX11_live_63 ?_
    refine lv_iload_n hx hb dX11_live_66 rfl (lv_at hl 2 rfl) ?_
    refine lv_iconst (v := 2) hx hb dX11_live_67 (by decide) ?_
    obtain ⟨x16, e, hf⟩ := ob hf
    refine q_callVN (As := [.int v1, .int 2]) (rest := [.int x14]) (st1 := [.int x16, .int x14]) (c_X5_part G e) B hw hz hc0 (k_X5_part e) (by decide) (ci := 5) rfl rfl my_X5_part mv_X5_part tw_3_214 ⟨Nat.le_of_ble_eq_true rfl, Nat.le_of_ble_eq_true rfl⟩ ⟨Nat.zero_le _, Nat.zero_le _⟩ rfl hl.1 rfl rfl (Nat.le_of_ble_eq_true rfl) dX11_live_68 (fun H locs hw => ?_)
    refine lv_isub hx hb dX11_live_71 ?_
    obtain ⟨rfl, rfl⟩ := so2 hf
    exact q_iret B hw hz hc0 hr hlk dX11_live_72
  · have hf := (if_neg c9).symm.trans hf
    refine lv_bipush (v := 10) hx hb dX11_live_34 (by decide) ?_
    refine lv_iload_n hx hb dX11_live_36 rfl (lv_at hl 0 rfl) ?_
    refine lv_iadd hx hb dX11_live_37 ?_
    obtain ⟨x17, e, hf⟩ := ob hf
    refine q_callS (As := [.int (10 + x7)]) (rest := []) (st1 := [.int x17]) (c_X11_refused G e) B hw hz hc0 my_X11_refused mv_X11_refused tw_2_155 ⟨Nat.le_of_ble_eq_true rfl, Nat.le_of_ble_eq_true rfl⟩ ⟨Nat.zero_le _, Nat.zero_le _⟩ rfl hl.1 rfl rfl (Nat.le_of_ble_eq_true rfl) dX11_live_38 (fun H locs hw => ?_)
    obtain ⟨rfl, rfl⟩ := so2 hf
    exact q_iret B hw hz hc0 hr hlk dX11_live_41
/-! SecondLife.draw(I)I -/
def f_X11_draw (n : Nat) (z : Sh) (h : Hp) (v0 : Nat) (v1 : Int32) : Option (Int32 × Hp) :=
  if z.K v0 = 11 then
    (gR z h 11 v0 5).bind fun a1 =>
    (gR z h 11 v0 4).bind fun a2 =>
    (f_X5_copy z h a1 a2).bind fun h3 =>
    (gR z h3 11 v0 11).bind fun a4 =>
    (gR z h3 11 v0 3).bind fun a5 =>
    (gR z h3 11 v0 4).bind fun a6 =>
    (f_X2_draws n z h3 a4 a5 a6 v1).bind fun (x7, h8) =>
    if x7 = 0 then
      (gR z h8 11 v0 6).bind fun a10 =>
      (gR z h8 11 v0 5).bind fun a11 =>
      (f_X4_keep z h8 a10 a11).bind fun h12 =>
      (gR z h12 11 v0 4).bind fun a13 =>
      (f_X5_part z h12 a13 v1 0).bind fun x14 =>
      some (x14, h12)
    else
      (f_X11_refused z h8 (10 + x7)).bind fun x15 =>
      some (x15, h8)
  else none
theorem k_X11_draw {n : Nat} {z : Sh} {h : Hp} {v0 : Nat} {v1 : Int32} {w : Int32 × Hp} (hf : f_X11_draw n z h v0 v1 = some w) : z.K v0 = 11 := by
  unfold f_X11_draw at hf
  exact (if_some hf).1
set_option maxHeartbeats 4000000 in
theorem c_X11_draw {l : Launch} {s0 : State} {E : Ev} (G : Gl s0 E) {n : Nat} {z : Sh} {h : Hp} {v0 : Nat} {v1 : Int32} {r : Int32} {h' : Hp} (hf : f_X11_draw n z h v0 v1 = some (r, h')) : Ct l s0 E yX11_draw cX11_draw 3 (some .int) 4 103 [.ref v0, .int v1] z h h' (some (.int r)) := by
  refine Ct.of G (by decide) (Nat.le_of_ble_eq_true rfl) ?_
  intro p e s m below meth c ls B hw hz hc0 hr hlk hl
  have B : Bd p s0 s E m c cX11_draw 3 RX11 := B
  have hx := B.1
  have hb := B.2.1
  have hl : lv_has ls 3 [(0, .ref v0), (1, .int v1)] := hl
  unfold f_X11_draw at hf
  obtain ⟨_, hf⟩ := if_some hf
  refine lv_aload_n hx hb dX11_draw_0 rfl (lv_at hl 0 rfl) ?_
  obtain ⟨a1, e, hf⟩ := ob hf
  refine q_getR e B hw fd_11_5.1 fd_11_5.2.1 fd_11_5.2.2.1 fd_11_5.2.2.2.1 fd_11_5.2.2.2.2 rfl tw_2_107 dX11_draw_1 ?_
  refine lv_aload_n hx hb dX11_draw_4 rfl (lv_at hl 0 rfl) ?_
  obtain ⟨a2, e, hf⟩ := ob hf
  refine q_getR e B hw fd_11_4.1 fd_11_4.2.1 fd_11_4.2.2.1 fd_11_4.2.2.2.1 fd_11_4.2.2.2.2 rfl tw_2_106 dX11_draw_5 ?_
  obtain ⟨h3, e, hf⟩ := ob hf
  refine q_callVN (As := [.ref a2]) (rest := []) (st1 := []) (c_X5_copy G e) B hw hz hc0 (k_X5_copy e) (by decide) (ci := 5) rfl rfl my_X5_copy mv_X5_copy tw_4_25 ⟨Nat.le_of_ble_eq_true rfl, Nat.le_of_ble_eq_true rfl⟩ ⟨Nat.zero_le _, Nat.zero_le _⟩ rfl hl.1 rfl rfl (Nat.le_of_ble_eq_true rfl) dX11_draw_8 (fun H locs hw => ?_)
  refine lv_aload_n hx hb dX11_draw_11 rfl (lv_at hl 0 rfl) ?_
  obtain ⟨a4, e, hf⟩ := ob hf
  refine q_getR e B hw fd_11_11.1 fd_11_11.2.1 fd_11_11.2.2.1 fd_11_11.2.2.2.1 fd_11_11.2.2.2.2 rfl tw_2_113 dX11_draw_12 ?_
  refine lv_aload_n hx hb dX11_draw_15 rfl (lv_at hl 0 rfl) ?_
  obtain ⟨a5, e, hf⟩ := ob hf
  refine q_getR e B hw fd_11_3.1 fd_11_3.2.1 fd_11_3.2.2.1 fd_11_3.2.2.2.1 fd_11_3.2.2.2.2 rfl tw_2_105 dX11_draw_16 ?_
  refine lv_aload_n hx hb dX11_draw_19 rfl (lv_at hl 0 rfl) ?_
  obtain ⟨a6, e, hf⟩ := ob hf
  refine q_getR e B hw fd_11_4.1 fd_11_4.2.1 fd_11_4.2.2.1 fd_11_4.2.2.2.1 fd_11_4.2.2.2.2 rfl tw_2_106 dX11_draw_20 ?_
  refine lv_iload_n hx hb dX11_draw_23 rfl (lv_at hl 1 rfl) ?_
  obtain ⟨⟨x7, h8⟩, e, hf⟩ := ob hf
  refine q_callVN (As := [.ref a5, .ref a6, .int v1]) (rest := []) (st1 := [.int x7]) (c_X2_draws G e) B hw hz hc0 (k_X2_draws e) (by decide) (ci := 2) rfl rfl my_X2_draws mv_X2_draws tw_4_50 ⟨Nat.le_of_ble_eq_true rfl, Nat.le_of_ble_eq_true rfl⟩ ⟨Nat.zero_le _, Nat.zero_le _⟩ rfl hl.1 rfl rfl (Nat.le_of_ble_eq_true rfl) dX11_draw_24 (fun H locs hw => ?_)
  refine lv_istore_n (lv' := [(2, .int x7), (0, .ref v0), (1, .int v1)]) hx hb dX11_draw_27 rfl hl (by decide) rfl (fun ls hl => ?_)
  refine lv_iload_n hx hb dX11_draw_28 rfl (lv_at hl 0 rfl) ?_
  refine lv_if_eq (tgt := 40) hx hb dX11_draw_29 (by decide) (fun c9 => ?_) (fun c9 => ?_)
  · have hf := (if_pos c9).symm.trans hf
    refine lv_aload_n hx hb dX11_draw_40 rfl (lv_at hl 1 rfl) ?_
    obtain ⟨a10, e, hf⟩ := ob hf
    refine q_getR e B hw fd_11_6.1 fd_11_6.2.1 fd_11_6.2.2.1 fd_11_6.2.2.2.1 fd_11_6.2.2.2.2 rfl tw_2_108 dX11_draw_41 ?_
    refine lv_aload_n hx hb dX11_draw_44 rfl (lv_at hl 1 rfl) ?_
    obtain ⟨a11, e, hf⟩ := ob hf
    refine q_getR e B hw fd_11_5.1 fd_11_5.2.1 fd_11_5.2.2.1 fd_11_5.2.2.2.1 fd_11_5.2.2.2.2 rfl tw_2_107 dX11_draw_45 ?_
    obtain ⟨h12, e, hf⟩ := ob hf
    refine q_callVN (As := [.ref a11]) (rest := []) (st1 := []) (c_X4_keep G e) B hw hz hc0 (k_X4_keep e) (by decide) (ci := 4) rfl rfl my_X4_keep mv_X4_keep tw_4_40 ⟨Nat.le_of_ble_eq_true rfl, Nat.le_of_ble_eq_true rfl⟩ ⟨Nat.zero_le _, Nat.zero_le _⟩ rfl hl.1 rfl rfl (Nat.le_of_ble_eq_true rfl) dX11_draw_48 (fun H locs hw => ?_)
    refine lv_aload_n hx hb dX11_draw_51 rfl (lv_at hl 1 rfl) ?_
    obtain ⟨a13, e, hf⟩ := ob hf
    refine q_getR e B hw fd_11_4.1 fd_11_4.2.1 fd_11_4.2.2.1 fd_11_4.2.2.2.1 fd_11_4.2.2.2.2 rfl tw_2_106 dX11_draw_52 ?_
    refine lv_iload_n hx hb dX11_draw_55 rfl (lv_at hl 2 rfl) ?_
    refine lv_iconst (v := 0) hx hb dX11_draw_56 (by decide) ?_
    obtain ⟨x14, e, hf⟩ := ob hf
    refine q_callVN (As := [.int v1, .int 0]) (rest := []) (st1 := [.int x14]) (c_X5_part G e) B hw hz hc0 (k_X5_part e) (by decide) (ci := 5) rfl rfl my_X5_part mv_X5_part tw_3_214 ⟨Nat.le_of_ble_eq_true rfl, Nat.le_of_ble_eq_true rfl⟩ ⟨Nat.zero_le _, Nat.zero_le _⟩ rfl hl.1 rfl rfl (Nat.le_of_ble_eq_true rfl) dX11_draw_57 (fun H locs hw => ?_)
    obtain ⟨rfl, rfl⟩ := so2 hf
    exact q_iret B hw hz hc0 hr hlk dX11_draw_60
  · have hf := (if_neg c9).symm.trans hf
    refine lv_bipush (v := 10) hx hb dX11_draw_32 (by decide) ?_
    refine lv_iload_n hx hb dX11_draw_34 rfl (lv_at hl 0 rfl) ?_
    refine lv_iadd hx hb dX11_draw_35 ?_
    obtain ⟨x15, e, hf⟩ := ob hf
    refine q_callS (As := [.int (10 + x7)]) (rest := []) (st1 := [.int x15]) (c_X11_refused G e) B hw hz hc0 my_X11_refused mv_X11_refused tw_2_155 ⟨Nat.le_of_ble_eq_true rfl, Nat.le_of_ble_eq_true rfl⟩ ⟨Nat.zero_le _, Nat.zero_le _⟩ rfl hl.1 rfl rfl (Nat.le_of_ble_eq_true rfl) dX11_draw_36 (fun H locs hw => ?_)
    obtain ⟨rfl, rfl⟩ := so2 hf
    exact q_iret B hw hz hc0 hr hlk dX11_draw_39
