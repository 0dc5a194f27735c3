/-! SecondLife$Ways.turnTo(I)V -/
def f_X10_turnTo_52 (z : Sh) (h : Hp) (v2 : Int32) (v3 : Nat) (u0 : Int32) (u1 : Int32) (u2 : Nat) : Option (Hp) :=
  (stI z h u2 u1 u0).bind fun h1 =>
  if v2 = 0 then
    (stI z h1 v3 6 0).bind fun h4 =>
    some h4
  else
    (stI z h1 v3 6 (v2 - 1)).bind fun h3 =>
    some h3
def f_X10_turnTo (z : Sh) (h : Hp) (v0 : Nat) (v1 : Int32) : Option (Hp) :=
  if z.K v0 = 10 then
    (f_X10_lifeOf z h v1).bind fun x1 =>
    (gR z h 10 v0 0).bind fun a2 =>
    (gR z h 7 a2 0).bind fun a3 =>
    (gI z h 10 v0 5).bind fun x4 =>
    (stI z h a3 0 x4).bind fun h5 =>
    (f_X10_yearOf z h5 v1).bind fun x6 =>
    (stI z h5 a3 1 x6).bind fun h7 =>
    (f_X10_lastOf z h7 v1).bind fun x8 =>
    (stI z h7 a3 3 x8).bind fun h9 =>
    (f_X10_streakOf z h9 v1).bind fun x10 =>
    (stI z h9 a3 4 x10).bind fun h11 =>
    if x1 = 0 then
      f_X10_turnTo_52 z h11 x1 a3 1 5 a3
    else
      f_X10_turnTo_52 z h11 x1 a3 2 5 a3
  else none
theorem k_X10_turnTo {z : Sh} {h : Hp} {v0 : Nat} {v1 : Int32} {w : Hp} (hf : f_X10_turnTo z h v0 v1 = some w) : z.K v0 = 10 := by
  unfold f_X10_turnTo at hf
  exact (if_some hf).1
set_option maxHeartbeats 4000000 in
theorem w_X10_turnTo_52 {p : Program} {l : Launch} {e : Env} {s : State} {m : MethodId} {args : Array Value} {below : List Frame} {meth : Method} {c : Code} {s0 : State} {E : Ev} {z : Sh} {h' : Hp} (G : Gl s0 E) (B : Bd p s0 s E m c cX10_turnTo 4 RX10) (hz : s0.heap.size ≤ z.sz) (hc0 : s.heap.size + 0 = z.sz) (hr : meth.sig.returnType = none) (hlk : meth.locks = false) : ∀ (h : Hp) (v2 : Int32) (v3 : Nat) (u0 : Int32) (u1 : Int32) (u2 : Nat) (H : Heap) (locs : List Loc) (ls : Array Slot), Pw s0 s E z h H locs → lv_has ls 4 [(2, .int v2), (3, .ref v3)] → f_X10_turnTo_52 z h v2 v3 u0 u1 u2 = some h' → W p l e (rmO 1 21) s m args below meth c H locs 0 0 (Zt below s0 E z h' (none) args s 0 0) (F0 m 52 ls [.int u0, .int u1, .ref u2]) := by
  have hx := B.1
  have hb := B.2.1
  intro h v2 v3 u0 u1 u2 H locs ls hw hl hf
  unfold f_X10_turnTo_52 at hf
  obtain ⟨h1, e, hf⟩ := ob hf
  refine q_stI e B hw dX10_turnTo_52 (fun H locs hw => ?_)
  refine lv_aload_n hx hb dX10_turnTo_53 rfl (lv_at hl 1 rfl) ?_
  refine lv_bipush (v := 6) hx hb dX10_turnTo_54 (by decide) ?_
  refine lv_iload_n hx hb dX10_turnTo_56 rfl (lv_at hl 0 rfl) ?_
  refine lv_if_ne (tgt := 64) hx hb dX10_turnTo_57 (by decide) (fun c2 => ?_) (fun c2 => ?_)
  · have hf := (if_neg c2).symm.trans hf
    refine lv_iload_n hx hb dX10_turnTo_64 rfl (lv_at hl 0 rfl) ?_
    refine lv_iconst (v := 1) hx hb dX10_turnTo_65 (by decide) ?_
    refine lv_isub hx hb dX10_turnTo_66 ?_
    obtain ⟨h3, e, hf⟩ := ob hf
    refine q_stI e B hw dX10_turnTo_67 (fun H locs hw => ?_)
    obtain rfl := so hf
    exact q_vret B hw hz hc0 hr hlk dX10_turnTo_68
  · have hf := (if_pos c2).symm.trans hf
    refine lv_iconst (v := 0) hx hb dX10_turnTo_60 (by decide) ?_
    refine lv_goto (tgt := 67) hx hb dX10_turnTo_61 (by decide) ?_
    obtain ⟨h4, e, hf⟩ := ob hf
    refine q_stI e B hw dX10_turnTo_67 (fun H locs hw => ?_)
    obtain rfl := so hf
    exact q_vret B hw hz hc0 hr hlk dX10_turnTo_68
set_option maxHeartbeats 4000000 in
theorem c_X10_turnTo {l : Launch} {s0 : State} {E : Ev} (G : Gl s0 E) {z : Sh} {h : Hp} {v0 : Nat} {v1 : Int32} {h' : Hp} (hf : f_X10_turnTo z h v0 v1 = some h') : Ct l s0 E yX10_turnTo cX10_turnTo 4 none 1 21 [.ref v0, .int v1] z h h' (none) := by
  refine Ct.of G (by decide) (Nat.le_of_ble_eq_true rfl) ?_
  intro p e s m below meth c ls B hw hz hc0 hr hlk hl
  have B : Bd p s0 s E m c cX10_turnTo 4 RX10 := B
  have hx := B.1
  have hb := B.2.1
  have hl : lv_has ls 4 [(0, .ref v0), (1, .int v1)] := hl
  unfold f_X10_turnTo at hf
  obtain ⟨_, hf⟩ := if_some hf
  refine lv_iload_n hx hb dX10_turnTo_0 rfl (lv_at hl 1 rfl) ?_
  obtain ⟨x1, e, hf⟩ := ob hf
  refine q_callS (As := [.int v1]) (rest := []) (st1 := [.int x1]) (c_X10_lifeOf G e) B hw hz hc0 my_X10_lifeOf mv_X10_lifeOf tw_4_211 ⟨Nat.le_of_ble_eq_true rfl, Nat.le_of_ble_eq_true rfl⟩ ⟨Nat.zero_le _, Nat.zero_le _⟩ rfl hl.1 rfl rfl (Nat.le_of_ble_eq_true rfl) dX10_turnTo_1 (fun H locs hw => ?_)
  refine lv_istore_n (lv' := [(2, .int x1), (0, .ref v0), (1, .int v1)]) hx hb dX10_turnTo_4 rfl hl (by decide) rfl (fun ls hl => ?_)
  refine lv_aload_n hx hb dX10_turnTo_5 rfl (lv_at hl 1 rfl) ?_
  obtain ⟨a2, e, hf⟩ := ob hf
  refine q_getR e B hw fd_10_0.1 fd_10_0.2.1 fd_10_0.2.2.1 fd_10_0.2.2.2.1 fd_10_0.2.2.2.2 rfl tw_1_227 dX10_turnTo_6 ?_
  obtain ⟨a3, e, hf⟩ := ob hf
  refine q_getRN e B hw fd_7_0.1 fd_7_0.2.1 fd_7_0.2.2.1 fd_7_0.2.2.2.1 fd_7_0.2.2.2.2 rfl tw_1_193 dX10_turnTo_9 ?_
  refine lv_astore_n (lv' := [(3, .ref a3), (2, .int x1), (0, .ref v0), (1, .int v1)]) hx hb dX10_turnTo_12 rfl hl (by decide) rfl (fun ls hl => ?_)
  refine lv_aload_n hx hb dX10_turnTo_13 rfl (lv_at hl 0 rfl) ?_
  refine lv_iconst (v := 0) hx hb dX10_turnTo_14 (by decide) ?_
  refine lv_aload_n hx hb dX10_turnTo_15 rfl (lv_at hl 2 rfl) ?_
  obtain ⟨x4, e, hf⟩ := ob hf
  refine q_getI e B hw fd_10_5.1 fd_10_5.2.1 fd_10_5.2.2.1 fd_10_5.2.2.2.1 fd_10_5.2.2.2.2 rfl tw_1_234 dX10_turnTo_16 ?_
  obtain ⟨h5, e, hf⟩ := ob hf
  refine q_stI e B hw dX10_turnTo_19 (fun H locs hw => ?_)
  refine lv_aload_n hx hb dX10_turnTo_20 rfl (lv_at hl 0 rfl) ?_
  refine lv_iconst (v := 1) hx hb dX10_turnTo_21 (by decide) ?_
  refine lv_iload_n hx hb dX10_turnTo_22 rfl (lv_at hl 3 rfl) ?_
  obtain ⟨x6, e, hf⟩ := ob hf
  refine q_callS (As := [.int v1]) (rest := [.int 1, .ref a3]) (st1 := [.int x6, .int 1, .ref a3]) (c_X10_yearOf G e) B hw hz hc0 my_X10_yearOf mv_X10_yearOf tw_4_182 ⟨Nat.le_of_ble_eq_true rfl, Nat.le_of_ble_eq_true rfl⟩ ⟨Nat.zero_le _, Nat.zero_le _⟩ rfl hl.1 rfl rfl (Nat.le_of_ble_eq_true rfl) dX10_turnTo_23 (fun H locs hw => ?_)
  obtain ⟨h7, e, hf⟩ := ob hf
  refine q_stI e B hw dX10_turnTo_26 (fun H locs hw => ?_)
  refine lv_aload_n hx hb dX10_turnTo_27 rfl (lv_at hl 0 rfl) ?_
  refine lv_iconst (v := 3) hx hb dX10_turnTo_28 (by decide) ?_
  refine lv_iload_n hx hb dX10_turnTo_29 rfl (lv_at hl 3 rfl) ?_
  obtain ⟨x8, e, hf⟩ := ob hf
  refine q_callS (As := [.int v1]) (rest := [.int 3, .ref a3]) (st1 := [.int x8, .int 3, .ref a3]) (c_X10_lastOf G e) B hw hz hc0 my_X10_lastOf mv_X10_lastOf tw_4_189 ⟨Nat.le_of_ble_eq_true rfl, Nat.le_of_ble_eq_true rfl⟩ ⟨Nat.zero_le _, Nat.zero_le _⟩ rfl hl.1 rfl rfl (Nat.le_of_ble_eq_true rfl) dX10_turnTo_30 (fun H locs hw => ?_)
  obtain ⟨h9, e, hf⟩ := ob hf
  refine q_stI e B hw dX10_turnTo_33 (fun H locs hw => ?_)
  refine lv_aload_n hx hb dX10_turnTo_34 rfl (lv_at hl 0 rfl) ?_
  refine lv_iconst (v := 4) hx hb dX10_turnTo_35 (by decide) ?_
  refine lv_iload_n hx hb dX10_turnTo_36 rfl (lv_at hl 3 rfl) ?_
  obtain ⟨x10, e, hf⟩ := ob hf
  refine q_callS (As := [.int v1]) (rest := [.int 4, .ref a3]) (st1 := [.int x10, .int 4, .ref a3]) (c_X10_streakOf G e) B hw hz hc0 my_X10_streakOf mv_X10_streakOf tw_4_192 ⟨Nat.le_of_ble_eq_true rfl, Nat.le_of_ble_eq_true rfl⟩ ⟨Nat.zero_le _, Nat.zero_le _⟩ rfl hl.1 rfl rfl (Nat.le_of_ble_eq_true rfl) dX10_turnTo_37 (fun H locs hw => ?_)
  obtain ⟨h11, e, hf⟩ := ob hf
  refine q_stI e B hw dX10_turnTo_40 (fun H locs hw => ?_)
  refine lv_aload_n hx hb dX10_turnTo_41 rfl (lv_at hl 0 rfl) ?_
  refine lv_iconst (v := 5) hx hb dX10_turnTo_42 (by decide) ?_
  refine lv_iload_n hx hb dX10_turnTo_43 rfl (lv_at hl 1 rfl) ?_
  refine lv_if_ne (tgt := 51) hx hb dX10_turnTo_44 (by decide) (fun c12 => ?_) (fun c12 => ?_)
  · have hf := (if_neg c12).symm.trans hf
    refine lv_iconst (v := 2) hx hb dX10_turnTo_51 (by decide) ?_
    exact w_X10_turnTo_52 G B hz hc0 hr hlk  h11 x1 a3 2 5 a3 _ _ _ hw (lv_sub hl [1, 0] rfl) hf
  · have hf := (if_pos c12).symm.trans hf
    refine lv_iconst (v := 1) hx hb dX10_turnTo_47 (by decide) ?_
    refine lv_goto (tgt := 52) hx hb dX10_turnTo_48 (by decide) ?_
    exact w_X10_turnTo_52 G B hz hc0 hr hlk  h11 x1 a3 1 5 a3 _ _ _ hw (lv_sub hl [1, 0] rfl) hf
/-! java/lang/Integer.bitCount(I)I -/
def f_J6_bitCount_0f7a4 (z : Sh) (h : Hp) (v0 : Int32) : Option (Int32) :=
  (some (v0 - (((Int32.toUInt32 v0 >>> (Int32.toUInt32 1 &&& Int32.toUInt32 31)).toInt32) &&& 1431655765))).bind fun x1 =>
  (some ((x1 &&& 858993459) + (((Int32.toUInt32 x1 >>> (Int32.toUInt32 2 &&& Int32.toUInt32 31)).toInt32) &&& 858993459))).bind fun x2 =>
  (some ((x2 + ((Int32.toUInt32 x2 >>> (Int32.toUInt32 4 &&& Int32.toUInt32 31)).toInt32)) &&& 252645135)).bind fun x3 =>
  (some (x3 + ((Int32.toUInt32 x3 >>> (Int32.toUInt32 8 &&& Int32.toUInt32 31)).toInt32))).bind fun x4 =>
  (some (x4 + ((Int32.toUInt32 x4 >>> (Int32.toUInt32 16 &&& Int32.toUInt32 31)).toInt32))).bind fun x5 =>
  some (x5 &&& 63)
set_option maxHeartbeats 4000000 in
theorem c_J6_bitCount_0f7a4 {l : Launch} {s0 : State} {E : Ev} (G : Gl s0 E) {z : Sh} {h : Hp} {v0 : Int32} {r : Int32} (hf : f_J6_bitCount_0f7a4 z h v0 = some r) : Ct l s0 E yJ6_bitCount_0f7a4 cJ6_bitCount_0f7a4 1 (some .int) 0 0 [.int v0] z h h (some (.int r)) := by
  refine Ct.ofF G (by decide +kernel) (Nat.le_of_ble_eq_true rfl) ?_
  intro p e s m below meth c ls B hw hz hc0 hr hlk hl
  have B : Bd p s0 s E m c cJ6_bitCount_0f7a4 1 RJ6 := B
  have hx := B.1
  have hb := B.2.1
  have hl : lv_has ls 1 [(0, .int v0)] := hl
  unfold f_J6_bitCount_0f7a4 at hf
  refine lv_iload_n hx hb dJ6_bitCount_0f7a4_0 rfl (lv_at hl 0 rfl) ?_
  refine lv_iload_n hx hb dJ6_bitCount_0f7a4_1 rfl (lv_at hl 0 rfl) ?_
  refine lv_iconst (v := 1) hx hb dJ6_bitCount_0f7a4_2 (by decide) ?_
  refine lv_iushr (v := (Int32.toUInt32 v0 >>> (Int32.toUInt32 1 &&& Int32.toUInt32 31)).toInt32) hx hb dJ6_bitCount_0f7a4_3 rfl ?_
  refine lv_ldcw hx hb B.2.2.2.1 (B.w tw_5_192 rfl) dJ6_bitCount_0f7a4_4 ?_
  refine lv_iand hx hb dJ6_bitCount_0f7a4_7 ?_
  refine lv_isub hx hb dJ6_bitCount_0f7a4_8 ?_
  obtain ⟨x1, e, hf⟩ := ob hf
  refine q_nmI e ?_
  refine lv_istore_n (lv' := [(0, .int x1)]) hx hb dJ6_bitCount_0f7a4_9 rfl hl (by decide) rfl (fun ls hl => ?_)
  refine lv_iload_n hx hb dJ6_bitCount_0f7a4_10 rfl (lv_at hl 0 rfl) ?_
  refine lv_ldcw hx hb B.2.2.2.1 (B.w tw_5_193 rfl) dJ6_bitCount_0f7a4_11 ?_
  refine lv_iand hx hb dJ6_bitCount_0f7a4_14 ?_
  refine lv_iload_n hx hb dJ6_bitCount_0f7a4_15 rfl (lv_at hl 0 rfl) ?_
  refine lv_iconst (v := 2) hx hb dJ6_bitCount_0f7a4_16 (by decide) ?_
  refine lv_iushr (v := (Int32.toUInt32 x1 >>> (Int32.toUInt32 2 &&& Int32.toUInt32 31)).toInt32) hx hb dJ6_bitCount_0f7a4_17 rfl ?_
  refine lv_ldcw hx hb B.2.2.2.1 (B.w tw_5_193 rfl) dJ6_bitCount_0f7a4_18 ?_
  refine lv_iand hx hb dJ6_bitCount_0f7a4_21 ?_
  refine lv_iadd hx hb dJ6_bitCount_0f7a4_22 ?_
  obtain ⟨x2, e, hf⟩ := ob hf
  refine q_nmI e ?_
  refine lv_istore_n (lv' := [(0, .int x2)]) hx hb dJ6_bitCount_0f7a4_23 rfl hl (by decide) rfl (fun ls hl => ?_)
  refine lv_iload_n hx hb dJ6_bitCount_0f7a4_24 rfl (lv_at hl 0 rfl) ?_
  refine lv_iload_n hx hb dJ6_bitCount_0f7a4_25 rfl (lv_at hl 0 rfl) ?_
  refine lv_iconst (v := 4) hx hb dJ6_bitCount_0f7a4_26 (by decide) ?_
  refine lv_iushr (v := (Int32.toUInt32 x2 >>> (Int32.toUInt32 4 &&& Int32.toUInt32 31)).toInt32) hx hb dJ6_bitCount_0f7a4_27 rfl ?_
  refine lv_iadd hx hb dJ6_bitCount_0f7a4_28 ?_
  refine lv_ldcw hx hb B.2.2.2.1 (B.w tw_5_194 rfl) dJ6_bitCount_0f7a4_29 ?_
  refine lv_iand hx hb dJ6_bitCount_0f7a4_32 ?_
  obtain ⟨x3, e, hf⟩ := ob hf
  refine q_nmI e ?_
  refine lv_istore_n (lv' := [(0, .int x3)]) hx hb dJ6_bitCount_0f7a4_33 rfl hl (by decide) rfl (fun ls hl => ?_)
  refine lv_iload_n hx hb dJ6_bitCount_0f7a4_34 rfl (lv_at hl 0 rfl) ?_
  refine lv_iload_n hx hb dJ6_bitCount_0f7a4_35 rfl (lv_at hl 0 rfl) ?_
  refine lv_bipush (v := 8) hx hb dJ6_bitCount_0f7a4_36 (by decide) ?_
  refine lv_iushr (v := (Int32.toUInt32 x3 >>> (Int32.toUInt32 8 &&& Int32.toUInt32 31)).toInt32) hx hb dJ6_bitCount_0f7a4_38 rfl ?_
  refine lv_iadd hx hb dJ6_bitCount_0f7a4_39 ?_
  obtain ⟨x4, e, hf⟩ := ob hf
  refine q_nmI e ?_
  refine lv_istore_n (lv' := [(0, .int x4)]) hx hb dJ6_bitCount_0f7a4_40 rfl hl (by decide) rfl (fun ls hl => ?_)
  refine lv_iload_n hx hb dJ6_bitCount_0f7a4_41 rfl (lv_at hl 0 rfl) ?_
  refine lv_iload_n hx hb dJ6_bitCount_0f7a4_42 rfl (lv_at hl 0 rfl) ?_
  refine lv_bipush (v := 16) hx hb dJ6_bitCount_0f7a4_43 (by decide) ?_
  refine lv_iushr (v := (Int32.toUInt32 x4 >>> (Int32.toUInt32 16 &&& Int32.toUInt32 31)).toInt32) hx hb dJ6_bitCount_0f7a4_45 rfl ?_
  refine lv_iadd hx hb dJ6_bitCount_0f7a4_46 ?_
  obtain ⟨x5, e, hf⟩ := ob hf
  refine q_nmI e ?_
  refine lv_istore_n (lv' := [(0, .int x5)]) hx hb dJ6_bitCount_0f7a4_47 rfl hl (by decide) rfl (fun ls hl => ?_)
  refine lv_iload_n hx hb dJ6_bitCount_0f7a4_48 rfl (lv_at hl 0 rfl) ?_
  refine lv_bipush (v := 63) hx hb dJ6_bitCount_0f7a4_49 (by decide) ?_
  refine lv_iand hx hb dJ6_bitCount_0f7a4_51 ?_
  obtain rfl := so hf
  exact q_iret B hw hz hc0 hr hlk dJ6_bitCount_0f7a4_52
/-! java/lang/Math.floorMod(II)I -/
def f_J9_floorMod_7cf53 (z : Sh) (h : Hp) (v0 : Int32) (v1 : Int32) : Option (Int32) :=
  (rmI v0 v1).bind fun x1 =>
  if 0 ≤ (v0 ^^^ v1) then
    some x1
  else
    if x1 = 0 then
      some x1
    else
      some (x1 + v1)
set_option maxHeartbeats 4000000 in
theorem c_J9_floorMod_7cf53 {l : Launch} {s0 : State} {E : Ev} (G : Gl s0 E) {z : Sh} {h : Hp} {v0 : Int32} {v1 : Int32} {r : Int32} (hf : f_J9_floorMod_7cf53 z h v0 v1 = some r) : Ct l s0 E yJ9_floorMod_7cf53 cJ9_floorMod_7cf53 3 (some .int) 0 0 [.int v0, .int v1] z h h (some (.int r)) := by
  refine Ct.ofF G (by decide +kernel) (Nat.le_of_ble_eq_true rfl) ?_
  intro p e s m below meth c ls B hw hz hc0 hr hlk hl
  have B : Bd p s0 s E m c cJ9_floorMod_7cf53 3 RJ9 := B
  have hx := B.1
  have hb := B.2.1
  have hl : lv_has ls 3 [(0, .int v0), (1, .int v1)] := hl
  unfold f_J9_floorMod_7cf53 at hf
  refine lv_iload_n hx hb dJ9_floorMod_7cf53_0 rfl (lv_at hl 0 rfl) ?_
  refine lv_iload_n hx hb dJ9_floorMod_7cf53_1 rfl (lv_at hl 1 rfl) ?_
  obtain ⟨x1, e, hf⟩ := ob hf
  refine q_irem e hx hb dJ9_floorMod_7cf53_2 ?_
  refine lv_istore_n (lv' := [(2, .int x1), (0, .int v0), (1, .int v1)]) hx hb dJ9_floorMod_7cf53_3 rfl hl (by decide) rfl (fun ls hl => ?_)
  refine lv_iload_n hx hb dJ9_floorMod_7cf53_4 rfl (lv_at hl 1 rfl) ?_
  refine lv_iload_n hx hb dJ9_floorMod_7cf53_5 rfl (lv_at hl 2 rfl) ?_
  refine lv_ixor hx hb dJ9_floorMod_7cf53_6 ?_
  refine lv_if_ge (tgt := 18) hx hb dJ9_floorMod_7cf53_7 (by decide) (fun c2 => ?_) (fun c2 => ?_)
  · have hf := (if_pos c2).symm.trans hf
    refine lv_iload_n hx hb dJ9_floorMod_7cf53_18 rfl (lv_at hl 0 rfl) ?_
    obtain rfl := so hf
    exact q_iret B hw hz hc0 hr hlk dJ9_floorMod_7cf53_19
  · have hf := (if_neg c2).symm.trans hf
    refine lv_iload_n hx hb dJ9_floorMod_7cf53_10 rfl (lv_at hl 0 rfl) ?_
    refine lv_if_eq (tgt := 18) hx hb dJ9_floorMod_7cf53_11 (by decide) (fun c3 => ?_) (fun c3 => ?_)
    · have hf := (if_pos c3).symm.trans hf
      refine lv_iload_n hx hb dJ9_floorMod_7cf53_18 rfl (lv_at hl 0 rfl) ?_
      obtain rfl := so hf
      exact q_iret B hw hz hc0 hr hlk dJ9_floorMod_7cf53_19
    · have hf := (if_neg c3).symm.trans hf
      refine lv_iload_n hx hb dJ9_floorMod_7cf53_14 rfl (lv_at hl 0 rfl) ?_
      refine lv_iload_n hx hb dJ9_floorMod_7cf53_15 rfl (lv_at hl 2 rfl) ?_
      refine lv_iadd hx hb dJ9_floorMod_7cf53_16 ?_
      obtain rfl := so hf
      exact q_iret B hw hz hc0 hr hlk dJ9_floorMod_7cf53_17
/-! java/lang/Math.max(II)I -/
def f_J9_max_7cf53 (z : Sh) (h : Hp) (v0 : Int32) (v1 : Int32) : Option (Int32) :=
  if v0 < v1 then
    some v1
  else
    some v0
set_option maxHeartbeats 4000000 in
theorem c_J9_max_7cf53 {l : Launch} {s0 : State} {E : Ev} (G : Gl s0 E) {z : Sh} {h : Hp} {v0 : Int32} {v1 : Int32} {r : Int32} (hf : f_J9_max_7cf53 z h v0 v1 = some r) : Ct l s0 E yJ9_max_7cf53 cJ9_max_7cf53 2 (some .int) 0 0 [.int v0, .int v1] z h h (some (.int r)) := by
  refine Ct.ofF G (by decide +kernel) (Nat.le_of_ble_eq_true rfl) ?_
  intro p e s m below meth c ls B hw hz hc0 hr hlk hl
  have B : Bd p s0 s E m c cJ9_max_7cf53 2 RJ9 := B
  have hx := B.1
  have hb := B.2.1
  have hl : lv_has ls 2 [(0, .int v0), (1, .int v1)] := hl
  unfold f_J9_max_7cf53 at hf
  refine lv_iload_n hx hb dJ9_max_7cf53_0 rfl (lv_at hl 0 rfl) ?_
  refine lv_iload_n hx hb dJ9_max_7cf53_1 rfl (lv_at hl 1 rfl) ?_
  refine lv_icmp_lt (tgt := 9) hx hb dJ9_max_7cf53_2 (by decide) (fun c1 => ?_) (fun c1 => ?_)
  · have hf := (if_pos c1).symm.trans hf
    refine lv_iload_n hx hb dJ9_max_7cf53_9 rfl (lv_at hl 1 rfl) ?_
    obtain rfl := so hf
    exact q_iret B hw hz hc0 hr hlk dJ9_max_7cf53_10
  · have hf := (if_neg c1).symm.trans hf
    refine lv_iload_n hx hb dJ9_max_7cf53_5 rfl (lv_at hl 0 rfl) ?_
    refine lv_goto (tgt := 10) hx hb dJ9_max_7cf53_6 (by decide) ?_
    obtain rfl := so hf
    exact q_iret B hw hz hc0 hr hlk dJ9_max_7cf53_10
/-! java/lang/Math.max(JJ)J -/
def f_J9_max_f86c9 (z : Sh) (h : Hp) (v0 : Int64) (v2 : Int64) : Option (Int64) :=
  if (lg_cmp v0 v2) < 0 then
    some v2
  else
    some v0
set_option maxHeartbeats 4000000 in
theorem c_J9_max_f86c9 {l : Launch} {s0 : State} {E : Ev} (G : Gl s0 E) {z : Sh} {h : Hp} {v0 : Int64} {v2 : Int64} {r : Int64} (hf : f_J9_max_f86c9 z h v0 v2 = some r) : Ct l s0 E yJ9_max_f86c9 cJ9_max_f86c9 4 (some .long) 0 0 [.long v0, .long v2] z h h (some (.long r)) := by
  refine Ct.ofF G (by decide +kernel) (Nat.le_of_ble_eq_true rfl) ?_
  intro p e s m below meth c ls B hw hz hc0 hr hlk hl
  have B : Bd p s0 s E m c cJ9_max_f86c9 4 RJ9 := B
  have hx := B.1
  have hb := B.2.1
  have hl : lv_has ls 4 [(0, .long v0), (2, .long v2)] := hl
  unfold f_J9_max_f86c9 at hf
  refine lv_lload_n hx hb dJ9_max_f86c9_0 rfl (lv_at hl 0 rfl) ?_
  refine lv_lload_n hx hb dJ9_max_f86c9_1 rfl (lv_at hl 1 rfl) ?_
  refine W.lcmp hx hb dJ9_max_f86c9_2 ?_
  refine lv_if_lt (tgt := 10) hx hb dJ9_max_f86c9_3 (by decide) (fun c1 => ?_) (fun c1 => ?_)
  · have hf := (if_pos c1).symm.trans hf
    refine lv_lload_n hx hb dJ9_max_f86c9_10 rfl (lv_at hl 1 rfl) ?_
    obtain rfl := so hf
    exact q_lret B hw hz hc0 hr hlk dJ9_max_f86c9_11
  · have hf := (if_neg c1).symm.trans hf
    refine lv_lload_n hx hb dJ9_max_f86c9_6 rfl (lv_at hl 0 rfl) ?_
    refine lv_goto (tgt := 11) hx hb dJ9_max_f86c9_7 (by decide) ?_
    obtain rfl := so hf
    exact q_lret B hw hz hc0 hr hlk dJ9_max_f86c9_11
/-! java/lang/Math.min(II)I -/
def f_J9_min_7cf53 (z : Sh) (h : Hp) (v0 : Int32) (v1 : Int32) : Option (Int32) :=
  if v1 < v0 then
    some v1
  else
    some v0
set_option maxHeartbeats 4000000 in
theorem c_J9_min_7cf53 {l : Launch} {s0 : State} {E : Ev} (G : Gl s0 E) {z : Sh} {h : Hp} {v0 : Int32} {v1 : Int32} {r : Int32} (hf : f_J9_min_7cf53 z h v0 v1 = some r) : Ct l s0 E yJ9_min_7cf53 cJ9_min_7cf53 2 (some .int) 0 0 [.int v0, .int v1] z h h (some (.int r)) := by
  refine Ct.ofF G (by decide +kernel) (Nat.le_of_ble_eq_true rfl) ?_
  intro p e s m below meth c ls B hw hz hc0 hr hlk hl
  have B : Bd p s0 s E m c cJ9_min_7cf53 2 RJ9 := B
  have hx := B.1
  have hb := B.2.1
  have hl : lv_has ls 2 [(0, .int v0), (1, .int v1)] := hl
  unfold f_J9_min_7cf53 at hf
  refine lv_iload_n hx hb dJ9_min_7cf53_0 rfl (lv_at hl 0 rfl) ?_
  refine lv_iload_n hx hb dJ9_min_7cf53_1 rfl (lv_at hl 1 rfl) ?_
  refine lv_icmp_gt (tgt := 9) hx hb dJ9_min_7cf53_2 (by decide) (fun c1 => ?_) (fun c1 => ?_)
  · have hf := (if_pos c1).symm.trans hf
    refine lv_iload_n hx hb dJ9_min_7cf53_9 rfl (lv_at hl 1 rfl) ?_
    obtain rfl := so hf
    exact q_iret B hw hz hc0 hr hlk dJ9_min_7cf53_10
  · have hf := (if_neg c1).symm.trans hf
    refine lv_iload_n hx hb dJ9_min_7cf53_5 rfl (lv_at hl 0 rfl) ?_
    refine lv_goto (tgt := 10) hx hb dJ9_min_7cf53_6 (by decide) ?_
    obtain rfl := so hf
    exact q_iret B hw hz hc0 hr hlk dJ9_min_7cf53_10
/-! java/lang/String.coder()B -/
def f_J0_coder_7d493 (z : Sh) (h : Hp) (v0 : Nat) : Option (Int32) :=
  if z.isS v0 = true then
    if (1 : Int32) = 0 then
      bz 1
    else
      (gSC z v0).bind fun x2 =>
      bz x2
  else none
theorem k_J0_coder_7d493 {z : Sh} {h : Hp} {v0 : Nat} {w : Int32} (hf : f_J0_coder_7d493 z h v0 = some w) : z.isS v0 = true := by
  unfold f_J0_coder_7d493 at hf
  exact (if_some hf).1
set_option maxHeartbeats 4000000 in
theorem c_J0_coder_7d493 {l : Launch} {s0 : State} {E : Ev} (G : Gl s0 E) {z : Sh} {h : Hp} {v0 : Nat} {r : Int32} (hf : f_J0_coder_7d493 z h v0 = some r) : Ct l s0 E yJ0_coder_7d493 cJ0_coder_7d493 1 (some .byte) 0 0 [.ref v0] z h h (some (.int r)) := by
  refine Ct.ofF G (by decide +kernel) (Nat.le_of_ble_eq_true rfl) ?_
  intro p e s m below meth c ls B hw hz hc0 hr hlk hl
  have B : Bd p s0 s E m c cJ0_coder_7d493 1 RJ0 := B
  have hx := B.1
  have hb := B.2.1
  have hl : lv_has ls 1 [(0, .ref v0)] := hl
  unfold f_J0_coder_7d493 at hf
  obtain ⟨_, hf⟩ := if_some hf
  refine q_gsI G.2.2.2.2.2.1.1 B hw rfl tw_2_201 dJ0_coder_7d493_0 ?_
  refine lv_if_eq (tgt := 13) hx hb dJ0_coder_7d493_3 (by decide) (fun c1 => ?_) (fun c1 => ?_)
  · have hf := (if_pos c1).symm.trans hf
    refine lv_iconst (v := 1) hx hb dJ0_coder_7d493_13 (by decide) ?_
    obtain ⟨e1, e⟩ := if_some hf
    cases e
    exact q_bret e1 B hw hz hc0 hr hlk dJ0_coder_7d493_14
  · have hf := (if_neg c1).symm.trans hf
    refine lv_aload_n hx hb dJ0_coder_7d493_6 rfl (lv_at hl 0 rfl) ?_
    obtain ⟨x2, e, hf⟩ := ob hf
    refine q_gSC e B hw rfl tw_8_211 dJ0_coder_7d493_7 ?_
    refine lv_goto (tgt := 14) hx hb dJ0_coder_7d493_10 (by decide) ?_
    obtain ⟨e1, e⟩ := if_some hf
    cases e
    exact q_bret e1 B hw hz hc0 hr hlk dJ0_coder_7d493_14
/-! java/lang/String.isLatin1()Z -/
def f_J0_isLatin1_aae02 (z : Sh) (h : Hp) (v0 : Nat) : Option (Int32) :=
  if z.isS v0 = true then
    if (1 : Int32) = 0 then
      some 0
    else
      (gSC z v0).bind fun x2 =>
      if x2 = 0 then
        some 1
      else
        some 0
  else none
theorem k_J0_isLatin1_aae02 {z : Sh} {h : Hp} {v0 : Nat} {w : Int32} (hf : f_J0_isLatin1_aae02 z h v0 = some w) : z.isS v0 = true := by
  unfold f_J0_isLatin1_aae02 at hf
  exact (if_some hf).1
set_option maxHeartbeats 4000000 in
theorem c_J0_isLatin1_aae02 {l : Launch} {s0 : State} {E : Ev} (G : Gl s0 E) {z : Sh} {h : Hp} {v0 : Nat} {r : Int32} (hf : f_J0_isLatin1_aae02 z h v0 = some r) : Ct l s0 E yJ0_isLatin1_aae02 cJ0_isLatin1_aae02 1 (some .boolean) 0 0 [.ref v0] z h h (some (.int r)) := by
  refine Ct.ofF G (by decide +kernel) (Nat.le_of_ble_eq_true rfl) ?_
  intro p e s m below meth c ls B hw hz hc0 hr hlk hl
  have B : Bd p s0 s E m c cJ0_isLatin1_aae02 1 RJ0 := B
  have hx := B.1
  have hb := B.2.1
  have hl : lv_has ls 1 [(0, .ref v0)] := hl
  unfold f_J0_isLatin1_aae02 at hf
  obtain ⟨_, hf⟩ := if_some hf
  refine q_gsI G.2.2.2.2.2.1.1 B hw rfl tw_2_201 dJ0_isLatin1_aae02_0 ?_
  refine lv_if_eq (tgt := 17) hx hb dJ0_isLatin1_aae02_3 (by decide) (fun c1 => ?_) (fun c1 => ?_)
  · have hf := (if_pos c1).symm.trans hf
    refine lv_iconst (v := 0) hx hb dJ0_isLatin1_aae02_17 (by decide) ?_
    obtain rfl := so hf
    exact q_zret (Or.inl rfl) B hw hz hc0 hr hlk dJ0_isLatin1_aae02_18
  · have hf := (if_neg c1).symm.trans hf
    refine lv_aload_n hx hb dJ0_isLatin1_aae02_6 rfl (lv_at hl 0 rfl) ?_
    obtain ⟨x2, e, hf⟩ := ob hf
    refine q_gSC e B hw rfl tw_8_211 dJ0_isLatin1_aae02_7 ?_
    refine lv_if_ne (tgt := 17) hx hb dJ0_isLatin1_aae02_10 (by decide) (fun c3 => ?_) (fun c3 => ?_)
    · have hf := (if_neg c3).symm.trans hf
      refine lv_iconst (v := 0) hx hb dJ0_isLatin1_aae02_17 (by decide) ?_
      obtain rfl := so hf
      exact q_zret (Or.inl rfl) B hw hz hc0 hr hlk dJ0_isLatin1_aae02_18
    · have hf := (if_pos c3).symm.trans hf
      refine lv_iconst (v := 1) hx hb dJ0_isLatin1_aae02_13 (by decide) ?_
      refine lv_goto (tgt := 18) hx hb dJ0_isLatin1_aae02_14 (by decide) ?_
      obtain rfl := so hf
      exact q_zret (Or.inr rfl) B hw hz hc0 hr hlk dJ0_isLatin1_aae02_18
/-! java/lang/StringLatin1.canEncode(I)Z -/
def f_J1_canEncode_9a6ad (z : Sh) (h : Hp) (v0 : Int32) : Option (Int32) :=
  if v0 < 0 then
    some 0
  else
    if 255 < v0 then
      some 0
    else
      some 1
set_option maxHeartbeats 4000000 in
theorem c_J1_canEncode_9a6ad {l : Launch} {s0 : State} {E : Ev} (G : Gl s0 E) {z : Sh} {h : Hp} {v0 : Int32} {r : Int32} (hf : f_J1_canEncode_9a6ad z h v0 = some r) : Ct l s0 E yJ1_canEncode_9a6ad cJ1_canEncode_9a6ad 1 (some .boolean) 0 0 [.int v0] z h h (some (.int r)) := by
  refine Ct.ofF G (by decide +kernel) (Nat.le_of_ble_eq_true rfl) ?_
  intro p e s m below meth c ls B hw hz hc0 hr hlk hl
  have B : Bd p s0 s E m c cJ1_canEncode_9a6ad 1 RJ1 := B
  have hx := B.1
  have hb := B.2.1
  have hl : lv_has ls 1 [(0, .int v0)] := hl
  unfold f_J1_canEncode_9a6ad at hf
  refine lv_iload_n hx hb dJ1_canEncode_9a6ad_0 rfl (lv_at hl 0 rfl) ?_
  refine lv_if_lt (tgt := 15) hx hb dJ1_canEncode_9a6ad_1 (by decide) (fun c1 => ?_) (fun c1 => ?_)
  · have hf := (if_pos c1).symm.trans hf
    refine lv_iconst (v := 0) hx hb dJ1_canEncode_9a6ad_15 (by decide) ?_
    obtain rfl := so hf
    exact q_zret (Or.inl rfl) B hw hz hc0 hr hlk dJ1_canEncode_9a6ad_16
  · have hf := (if_neg c1).symm.trans hf
    refine lv_iload_n hx hb dJ1_canEncode_9a6ad_4 rfl (lv_at hl 0 rfl) ?_
    refine lv_sipush (v := 255) hx hb dJ1_canEncode_9a6ad_5 (by decide) ?_
    refine lv_icmp_gt (tgt := 15) hx hb dJ1_canEncode_9a6ad_8 (by decide) (fun c2 => ?_) (fun c2 => ?_)
    · have hf := (if_pos c2).symm.trans hf
      refine lv_iconst (v := 0) hx hb dJ1_canEncode_9a6ad_15 (by decide) ?_
      obtain rfl := so hf
      exact q_zret (Or.inl rfl) B hw hz hc0 hr hlk dJ1_canEncode_9a6ad_16
    · have hf := (if_neg c2).symm.trans hf
      refine lv_iconst (v := 1) hx hb dJ1_canEncode_9a6ad_11 (by decide) ?_
      refine lv_goto (tgt := 16) hx hb dJ1_canEncode_9a6ad_12 (by decide) ?_
      obtain rfl := so hf
      exact q_zret (Or.inr rfl) B hw hz hc0 hr hlk dJ1_canEncode_9a6ad_16
/-! java/lang/StringLatin1.indexOfChar([BIII)I -/
def f_J1_indexOfChar_4cfef_7 (n : Nat) (z : Sh) (h : Hp) : Nat → Nat → Int32 → Int32 → Int32 → Option (Int32)
  | 0, _, _, _, _ => none
  | i + 1, v0, v3, v4, v5 =>
    if v3 ≤ v5 then
      some ((-1) : Int32)
    else
      (ldB z h v0 v5).bind fun x2 =>
      if x2 = v4 then
        some v5
      else
        (some (v5 + 1)).bind fun x4 =>
        (f_J1_indexOfChar_4cfef_7 n z h i) v0 v3 v4 x4
def f_J1_indexOfChar_4cfef (n : Nat) (z : Sh) (h : Hp) (v0 : Nat) (v1 : Int32) (v2 : Int32) (v3 : Int32) : Option (Int32) :=
  (some ((Int32.toInt8 v1).toInt32)).bind fun x1 =>
  f_J1_indexOfChar_4cfef_7 n z h n v0 v3 x1 v2
set_option maxHeartbeats 4000000 in
theorem w_J1_indexOfChar_4cfef_7 {p : Program} {l : Launch} {e : Env} {s : State} {m : MethodId} {args : Array Value} {below : List Frame} {meth : Method} {c : Code} {s0 : State} {E : Ev} {z : Sh} {h : Hp} {n : Nat} {r : Int32} (G : Gl s0 E) (B : Bd p s0 s E m c cJ1_indexOfChar_4cfef 6 RJ1) (hz : s0.heap.size ≤ z.sz) (hc0 : s.heap.size + 0 = z.sz) (hr : meth.sig.returnType = (some .int)) (hlk : meth.locks = false) : ∀ (i : Nat), ∀ (v0 : Nat) (v3 : Int32) (v4 : Int32) (v5 : Int32) (H : Heap) (locs : List Loc) (ls : Array Slot), Pw s0 s E z h H locs → lv_has ls 6 [(0, .ref v0), (3, .int v3), (4, .int v4), (5, .int v5)] → f_J1_indexOfChar_4cfef_7 n z h i v0 v3 v4 v5 = some r → W p l e (rmO 0 0) s m args below meth c H locs 0 0 (Zt below s0 E z h (some (.int r)) args s 0 0) (F0 m 7 ls []) := by
  have hx := B.1
  have hb := B.2.1
  intro i
  induction i with
  | zero =>
    intro v0 v3 v4 v5 H locs ls hw hl hf
    have hf := (f_J1_indexOfChar_4cfef_7.eq_1 ..).symm.trans hf
    cases hf
  | succ i ih =>
    intro v0 v3 v4 v5 H locs ls hw hl hf
    have hf := (f_J1_indexOfChar_4cfef_7.eq_2 ..).symm.trans hf
    refine lv_iload hx hb dJ1_indexOfChar_4cfef_7 (lv_at hl 3 rfl) ?_
    refine lv_iload_n hx hb dJ1_indexOfChar_4cfef_9 rfl (lv_at hl 1 rfl) ?_
    refine lv_icmp_ge (tgt := 31) hx hb dJ1_indexOfChar_4cfef_10 (by decide) (fun c1 => ?_) (fun c1 => ?_)
    · have hf := (if_pos c1).symm.trans hf
      refine lv_iconst (v := (-1)) hx hb dJ1_indexOfChar_4cfef_31 (by decide) ?_
      obtain rfl := so hf
      exact q_iret B hw hz hc0 hr hlk dJ1_indexOfChar_4cfef_32
    · have hf := (if_neg c1).symm.trans hf
      refine lv_aload_n hx hb dJ1_indexOfChar_4cfef_13 rfl (lv_at hl 0 rfl) ?_
      refine lv_iload hx hb dJ1_indexOfChar_4cfef_14 (lv_at hl 3 rfl) ?_
      obtain ⟨x2, e, hf⟩ := ob hf
      refine q_ldB e B hw dJ1_indexOfChar_4cfef_16 ?_
      refine lv_iload hx hb dJ1_indexOfChar_4cfef_17 (lv_at hl 2 rfl) ?_
      refine lv_icmp_ne (tgt := 25) hx hb dJ1_indexOfChar_4cfef_19 (by decide) (fun c3 => ?_) (fun c3 => ?_)
      · have hf := (if_neg c3).symm.trans hf
        obtain ⟨x4, e, hf⟩ := ob hf
        refine lv_iinc (v := x4) (lv' := [(5, .int x4), (0, .ref v0), (3, .int v3), (4, .int v4)]) hx hb dJ1_indexOfChar_4cfef_25 hl (k := 3) rfl (Option.some.inj e) (by decide) rfl (fun ls hl => ?_)
        refine lv_goto (tgt := 7) hx hb dJ1_indexOfChar_4cfef_28 (by decide) ?_
        exact ih v0 v3 v4 x4 _ _ _ hw (lv_sub hl [1, 2, 3, 0] rfl) hf
      · have hf := (if_pos c3).symm.trans hf
        refine lv_iload hx hb dJ1_indexOfChar_4cfef_22 (lv_at hl 3 rfl) ?_
        obtain rfl := so hf
        exact q_iret B hw hz hc0 hr hlk dJ1_indexOfChar_4cfef_24
set_option maxHeartbeats 4000000 in
theorem c_J1_indexOfChar_4cfef {l : Launch} {s0 : State} {E : Ev} (G : Gl s0 E) {n : Nat} {z : Sh} {h : Hp} {v0 : Nat} {v1 : Int32} {v2 : Int32} {v3 : Int32} {r : Int32} (hf : f_J1_indexOfChar_4cfef n z h v0 v1 v2 v3 = some r) : Ct l s0 E yJ1_indexOfChar_4cfef cJ1_indexOfChar_4cfef 6 (some .int) 0 0 [.ref v0, .int v1, .int v2, .int v3] z h h (some (.int r)) := by
  refine Ct.ofF G (by decide +kernel) (Nat.le_of_ble_eq_true rfl) ?_
  intro p e s m below meth c ls B hw hz hc0 hr hlk hl
  have B : Bd p s0 s E m c cJ1_indexOfChar_4cfef 6 RJ1 := B
  have hx := B.1
  have hb := B.2.1
  have hl : lv_has ls 6 [(0, .ref v0), (1, .int v1), (2, .int v2), (3, .int v3)] := hl
  unfold f_J1_indexOfChar_4cfef at hf
  refine lv_iload_n hx hb dJ1_indexOfChar_4cfef_0 rfl (lv_at hl 1 rfl) ?_
  refine lv_i2b (v := ((Int32.toInt8 v1).toInt32)) hx hb dJ1_indexOfChar_4cfef_1 rfl ?_
  obtain ⟨x1, e, hf⟩ := ob hf
  refine q_nmI e ?_
  refine lv_istore (lv' := [(4, .int x1), (0, .ref v0), (1, .int v1), (2, .int v2), (3, .int v3)]) hx hb dJ1_indexOfChar_4cfef_2 hl (by decide) rfl (fun ls hl => ?_)
  refine lv_iload_n hx hb dJ1_indexOfChar_4cfef_4 rfl (lv_at hl 3 rfl) ?_
  refine lv_istore (lv' := [(5, .int v2), (4, .int x1), (0, .ref v0), (1, .int v1), (2, .int v2), (3, .int v3)]) hx hb dJ1_indexOfChar_4cfef_5 hl (by decide) rfl (fun ls hl => ?_)
  exact w_J1_indexOfChar_4cfef_7 G B hz hc0 hr hlk  n v0 v3 x1 v2 _ _ _ hw (lv_sub hl [2, 5, 1, 0] rfl) hf
/-! java/util/Arrays.fill([JJ)V -/
def f_J7_fill_d0a16_6 (n : Nat) (z : Sh) : Nat → Hp → Nat → Int64 → Int32 → Int32 → Option (Hp)
  | 0, _, _, _, _, _ => none
  | i + 1, h, v0, v1, v3, v4 =>
    if v4 ≤ v3 then
      some h
    else
      (stJ z h v0 v3 v1).bind fun h2 =>
      (some (v3 + 1)).bind fun x3 =>
      (f_J7_fill_d0a16_6 n z i) h2 v0 v1 x3 v4
def f_J7_fill_d0a16 (n : Nat) (z : Sh) (h : Hp) (v0 : Nat) (v1 : Int64) : Option (Hp) :=
  (aL z v0).bind fun x1 =>
  f_J7_fill_d0a16_6 n z n h v0 v1 0 x1
set_option maxHeartbeats 4000000 in
theorem w_J7_fill_d0a16_6 {p : Program} {l : Launch} {e : Env} {s : State} {m : MethodId} {args : Array Value} {below : List Frame} {meth : Method} {c : Code} {s0 : State} {E : Ev} {z : Sh} {n : Nat} {h' : Hp} (G : Gl s0 E) (B : Bd p s0 s E m c cJ7_fill_d0a16 5 RJ7) (hz : s0.heap.size ≤ z.sz) (hc0 : s.heap.size + 0 = z.sz) (hr : meth.sig.returnType = none) (hlk : meth.locks = false) : ∀ (i : Nat), ∀ (h : Hp) (v0 : Nat) (v1 : Int64) (v3 : Int32) (v4 : Int32) (H : Heap) (locs : List Loc) (ls : Array Slot), Pw s0 s E z h H locs → lv_has ls 5 [(0, .ref v0), (1, .long v1), (3, .int v3), (4, .int v4)] → f_J7_fill_d0a16_6 n z i h v0 v1 v3 v4 = some h' → W p l e (rmO 0 0) s m args below meth c H locs 0 0 (Zt below s0 E z h' (none) args s 0 0) (F0 m 6 ls []) := by
  have hx := B.1
  have hb := B.2.1
  intro i
  induction i with
  | zero =>
    intro h v0 v1 v3 v4 H locs ls hw hl hf
    have hf := (f_J7_fill_d0a16_6.eq_1 ..).symm.trans hf
    cases hf
  | succ i ih =>
    intro h v0 v1 v3 v4 H locs ls hw hl hf
    have hf := (f_J7_fill_d0a16_6.eq_2 ..).symm.trans hf
    refine lv_iload_n hx hb dJ7_fill_d0a16_6 rfl (lv_at hl 2 rfl) ?_
    refine lv_iload hx hb dJ7_fill_d0a16_7 (lv_at hl 3 rfl) ?_
    refine lv_icmp_ge (tgt := 22) hx hb dJ7_fill_d0a16_9 (by decide) (fun c1 => ?_) (fun c1 => ?_)
    · have hf := (if_pos c1).symm.trans hf
      obtain rfl := so hf
      exact q_vret B hw hz hc0 hr hlk dJ7_fill_d0a16_22
    · have hf := (if_neg c1).symm.trans hf
      refine lv_aload_n hx hb dJ7_fill_d0a16_12 rfl (lv_at hl 0 rfl) ?_
      refine lv_iload_n hx hb dJ7_fill_d0a16_13 rfl (lv_at hl 2 rfl) ?_
      refine lv_lload_n hx hb dJ7_fill_d0a16_14 rfl (lv_at hl 1 rfl) ?_
      obtain ⟨h2, e, hf⟩ := ob hf
      refine q_stJ e B hw dJ7_fill_d0a16_15 (fun H locs hw => ?_)
      obtain ⟨x3, e, hf⟩ := ob hf
      refine lv_iinc (v := x3) (lv' := [(3, .int x3), (0, .ref v0), (1, .long v1), (4, .int v4)]) hx hb dJ7_fill_d0a16_16 hl (k := 2) rfl (Option.some.inj e) (by decide) rfl (fun ls hl => ?_)
      refine lv_goto (tgt := 6) hx hb dJ7_fill_d0a16_19 (by decide) ?_
      exact ih h2 v0 v1 x3 v4 _ _ _ hw (lv_sub hl [1, 2, 0, 3] rfl) hf
set_option maxHeartbeats 4000000 in
theorem c_J7_fill_d0a16 {l : Launch} {s0 : State} {E : Ev} (G : Gl s0 E) {n : Nat} {z : Sh} {h : Hp} {v0 : Nat} {v1 : Int64} {h' : Hp} (hf : f_J7_fill_d0a16 n z h v0 v1 = some h') : Ct l s0 E yJ7_fill_d0a16 cJ7_fill_d0a16 5 none 0 0 [.ref v0, .long v1] z h h' (none) := by
  refine Ct.ofF G (by decide +kernel) (Nat.le_of_ble_eq_true rfl) ?_
  intro p e s m below meth c ls B hw hz hc0 hr hlk hl
  have B : Bd p s0 s E m c cJ7_fill_d0a16 5 RJ7 := B
  have hx := B.1
  have hb := B.2.1
  have hl : lv_has ls 5 [(0, .ref v0), (1, .long v1)] := hl
  unfold f_J7_fill_d0a16 at hf
  refine lv_iconst (v := 0) hx hb dJ7_fill_d0a16_0 (by decide) ?_
  refine lv_istore_n (lv' := [(3, .int 0), (0, .ref v0), (1, .long v1)]) hx hb dJ7_fill_d0a16_1 rfl hl (by decide) rfl (fun ls hl => ?_)
  refine lv_aload_n hx hb dJ7_fill_d0a16_2 rfl (lv_at hl 1 rfl) ?_
  obtain ⟨x1, e, hf⟩ := ob hf
  refine q_len e B hw dJ7_fill_d0a16_3 ?_
  refine lv_istore (lv' := [(4, .int x1), (3, .int 0), (0, .ref v0), (1, .long v1)]) hx hb dJ7_fill_d0a16_4 hl (by decide) rfl (fun ls hl => ?_)
  exact w_J7_fill_d0a16_6 G B hz hc0 hr hlk  n h v0 v1 0 x1 _ _ _ hw (lv_sub hl [2, 3, 1, 0] rfl) hf
/-! java/util/Arrays.fill([II)V -/
def f_J7_fill_53178_5 (n : Nat) (z : Sh) : Nat → Hp → Nat → Int32 → Int32 → Int32 → Option (Hp)
  | 0, _, _, _, _, _ => none
  | i + 1, h, v0, v1, v2, v3 =>
    if v3 ≤ v2 then
      some h
    else
      (stI z h v0 v2 v1).bind fun h2 =>
      (some (v2 + 1)).bind fun x3 =>
      (f_J7_fill_53178_5 n z i) h2 v0 v1 x3 v3
def f_J7_fill_53178 (n : Nat) (z : Sh) (h : Hp) (v0 : Nat) (v1 : Int32) : Option (Hp) :=
  (aL z v0).bind fun x1 =>
  f_J7_fill_53178_5 n z n h v0 v1 0 x1
set_option maxHeartbeats 4000000 in
theorem w_J7_fill_53178_5 {p : Program} {l : Launch} {e : Env} {s : State} {m : MethodId} {args : Array Value} {below : List Frame} {meth : Method} {c : Code} {s0 : State} {E : Ev} {z : Sh} {n : Nat} {h' : Hp} (G : Gl s0 E) (B : Bd p s0 s E m c cJ7_fill_53178 4 RJ7) (hz : s0.heap.size ≤ z.sz) (hc0 : s.heap.size + 0 = z.sz) (hr : meth.sig.returnType = none) (hlk : meth.locks = false) : ∀ (i : Nat), ∀ (h : Hp) (v0 : Nat) (v1 : Int32) (v2 : Int32) (v3 : Int32) (H : Heap) (locs : List Loc) (ls : Array Slot), Pw s0 s E z h H locs → lv_has ls 4 [(0, .ref v0), (1, .int v1), (2, .int v2), (3, .int v3)] → f_J7_fill_53178_5 n z i h v0 v1 v2 v3 = some h' → W p l e (rmO 0 0) s m args below meth c H locs 0 0 (Zt below s0 E z h' (none) args s 0 0) (F0 m 5 ls []) := by
  have hx := B.1
  have hb := B.2.1
  intro i
  induction i with
  | zero =>
    intro h v0 v1 v2 v3 H locs ls hw hl hf
    have hf := (f_J7_fill_53178_5.eq_1 ..).symm.trans hf
    cases hf
  | succ i ih =>
    intro h v0 v1 v2 v3 H locs ls hw hl hf
    have hf := (f_J7_fill_53178_5.eq_2 ..).symm.trans hf
    refine lv_iload_n hx hb dJ7_fill_53178_5 rfl (lv_at hl 2 rfl) ?_
    refine lv_iload_n hx hb dJ7_fill_53178_6 rfl (lv_at hl 3 rfl) ?_
    refine lv_icmp_ge (tgt := 20) hx hb dJ7_fill_53178_7 (by decide) (fun c1 => ?_) (fun c1 => ?_)
    · have hf := (if_pos c1).symm.trans hf
      obtain rfl := so hf
      exact q_vret B hw hz hc0 hr hlk dJ7_fill_53178_20
    · have hf := (if_neg c1).symm.trans hf
      refine lv_aload_n hx hb dJ7_fill_53178_10 rfl (lv_at hl 0 rfl) ?_
      refine lv_iload_n hx hb dJ7_fill_53178_11 rfl (lv_at hl 2 rfl) ?_
      refine lv_iload_n hx hb dJ7_fill_53178_12 rfl (lv_at hl 1 rfl) ?_
      obtain ⟨h2, e, hf⟩ := ob hf
      refine q_stI e B hw dJ7_fill_53178_13 (fun H locs hw => ?_)
      obtain ⟨x3, e, hf⟩ := ob hf
      refine lv_iinc (v := x3) (lv' := [(2, .int x3), (0, .ref v0), (1, .int v1), (3, .int v3)]) hx hb dJ7_fill_53178_14 hl (k := 2) rfl (Option.some.inj e) (by decide) rfl (fun ls hl => ?_)
      refine lv_goto (tgt := 5) hx hb dJ7_fill_53178_17 (by decide) ?_
      exact ih h2 v0 v1 x3 v3 _ _ _ hw (lv_sub hl [1, 2, 0, 3] rfl) hf
set_option maxHeartbeats 4000000 in
theorem c_J7_fill_53178 {l : Launch} {s0 : State} {E : Ev} (G : Gl s0 E) {n : Nat} {z : Sh} {h : Hp} {v0 : Nat} {v1 : Int32} {h' : Hp} (hf : f_J7_fill_53178 n z h v0 v1 = some h') : Ct l s0 E yJ7_fill_53178 cJ7_fill_53178 4 none 0 0 [.ref v0, .int v1] z h h' (none) := by
  refine Ct.ofF G (by decide +kernel) (Nat.le_of_ble_eq_true rfl) ?_
  intro p e s m below meth c ls B hw hz hc0 hr hlk hl
  have B : Bd p s0 s E m c cJ7_fill_53178 4 RJ7 := B
  have hx := B.1
  have hb := B.2.1
  have hl : lv_has ls 4 [(0, .ref v0), (1, .int v1)] := hl
  unfold f_J7_fill_53178 at hf
  refine lv_iconst (v := 0) hx hb dJ7_fill_53178_0 (by decide) ?_
  refine lv_istore_n (lv' := [(2, .int 0), (0, .ref v0), (1, .int v1)]) hx hb dJ7_fill_53178_1 rfl hl (by decide) rfl (fun ls hl => ?_)
  refine lv_aload_n hx hb dJ7_fill_53178_2 rfl (lv_at hl 1 rfl) ?_
  obtain ⟨x1, e, hf⟩ := ob hf
  refine q_len e B hw dJ7_fill_53178_3 ?_
  refine lv_istore_n (lv' := [(3, .int x1), (2, .int 0), (0, .ref v0), (1, .int v1)]) hx hb dJ7_fill_53178_4 rfl hl (by decide) rfl (fun ls hl => ?_)
  exact w_J7_fill_53178_5 G B hz hc0 hr hlk  n h v0 v1 0 x1 _ _ _ hw (lv_sub hl [2, 3, 1, 0] rfl) hf
/-! java/util/Arrays.copyOf([II)[I -/
def f_J7_copyOf_59c91 (z : Sh) (h : Hp) (v0 : Nat) (v1 : Int32) : Option (Option Nat × Hp × Sh) :=
  gd3 z <|
  (aL z v0).bind fun x1 =>
  if v1 = x1 then
    none
  else
    (nwA z h 14 v1).bind fun (a3, h4, z5) =>
    gd3 z5 <|
    (aL z5 v0).bind fun x6 =>
    (f_J9_min_7cf53 z5 h4 x6 v1).bind fun x7 =>
    (cpI z5 h4 v0 0 a3 0 x7).bind fun h8 =>
    some ((some a3), h8, z5)
theorem mo_J7_copyOf_59c91 {z : Sh} {h : Hp} {v0 : Nat} {v1 : Int32} {r : Option Nat} {h' : Hp} {zE : Sh} (hf : f_J7_copyOf_59c91 z h v0 v1 = some (r, h', zE)) : z.sz ≤ zE.sz ∧ z.sl ≤ zE.sl := by
  unfold f_J7_copyOf_59c91 at hf
  exact (gd3_some hf).1
set_option maxHeartbeats 4000000 in
theorem c_J7_copyOf_59c91 {l : Launch} {s0 : State} {E : Ev} (G : Gl s0 E) {z : Sh} {h : Hp} {v0 : Nat} {v1 : Int32} {r : Option Nat} {h' : Hp} {zE : Sh} (hf : f_J7_copyOf_59c91 z h v0 v1 = some (r, h', zE)) : Ca l s0 E yJ7_copyOf_59c91 cJ7_copyOf_59c91 3 (some (.array .int)) 1 60 [.ref v0, .int v1] z zE h h' (some (va_rf r)) := by
  refine Ca.of G (by decide +kernel) (Nat.le_of_ble_eq_true rfl) (mo_J7_copyOf_59c91 hf) ?_
  intro p e s m below meth c ls B hw hM hr hlk hnm0 hl
  have B : Bd p s0 s E m c cJ7_copyOf_59c91 3 RJ7 := B
  have hx := B.1
  have hb := B.2.1
  have hl : lv_has ls 3 [(0, .ref v0), (1, .int v1)] := hl
  unfold f_J7_copyOf_59c91 at hf
  obtain ⟨_, hf⟩ := gd3_some hf
  refine lv_iload_n hx hb dJ7_copyOf_59c91_0 rfl (lv_at hl 1 rfl) ?_
  refine lv_aload_n hx hb dJ7_copyOf_59c91_1 rfl (lv_at hl 0 rfl) ?_
  obtain ⟨x1, e, hf⟩ := ob hf
  refine q_len e B hw dJ7_copyOf_59c91_2 ?_
  refine lv_icmp_ne (tgt := 14) hx hb dJ7_copyOf_59c91_3 (by decide) (fun c2 => ?_) (fun c2 => ?_)
  · have hf := (if_neg c2).symm.trans hf
    refine lv_iload_n hx hb dJ7_copyOf_59c91_14 rfl (lv_at hl 1 rfl) ?_
    obtain ⟨⟨a3, h4, z5⟩, e, hf⟩ := ob hf
    obtain ⟨hg, hf⟩ := gd3_some hf
    refine q_newA (atype := .int) (ty := .int) (t0 := 1) e hg B hw hM (by decide) rfl rfl rfl (cfn_14 E _ _) arn_14 tw_1_102 dJ7_copyOf_59c91_15 (fun H locs hw hM => ?_)
    refine lv_astore_n (lv' := [(2, .ref a3), (0, .ref v0), (1, .int v1)]) hx hb dJ7_copyOf_59c91_17 rfl hl (by decide) rfl (fun ls hl => ?_)
    refine lv_aload_n hx hb dJ7_copyOf_59c91_18 rfl (lv_at hl 1 rfl) ?_
    refine lv_iconst (v := 0) hx hb dJ7_copyOf_59c91_19 (by decide) ?_
    refine lv_aload_n hx hb dJ7_copyOf_59c91_20 rfl (lv_at hl 0 rfl) ?_
    refine lv_iconst (v := 0) hx hb dJ7_copyOf_59c91_21 (by decide) ?_
    refine lv_aload_n hx hb dJ7_copyOf_59c91_22 rfl (lv_at hl 1 rfl) ?_
    obtain ⟨x6, e, hf⟩ := ob hf
    refine q_len e B hw dJ7_copyOf_59c91_23 ?_
    refine lv_iload_n hx hb dJ7_copyOf_59c91_24 rfl (lv_at hl 2 rfl) ?_
    obtain ⟨x7, e, hf⟩ := ob hf
    refine q_callS (As := [.int x6, .int v1]) (rest := [.int 0, .ref a3, .int 0, .ref v0]) (st1 := [.int x7, .int 0, .ref a3, .int 0, .ref v0]) (c_J9_min_7cf53 G e) B hw hM.hz hM.hc0 my_J9_min_7cf53 mv_J9_min_7cf53 tw_3_175 ⟨Nat.le_of_ble_eq_true rfl, Nat.le_of_ble_eq_true rfl⟩ hM.hcs rfl hl.1 rfl rfl (Nat.le_of_ble_eq_true rfl) dJ7_copyOf_59c91_25 (fun H locs hw => ?_)
    obtain ⟨h8, e, hf⟩ := ob hf
    refine q_cpI e B hw hl.1 tw_3_176 tw_3_178 tw_3_177 tw_1_21 (Nat.le_of_ble_eq_true rfl) (Nat.le_of_ble_eq_true rfl) dJ7_copyOf_59c91_28 (fun H locs hw => ?_)
    refine lv_aload_n hx hb dJ7_copyOf_59c91_31 rfl (lv_at hl 0 rfl) ?_
    obtain ⟨rfl, rfl, rfl⟩ := so3 hf
    exact q_aret (Or.inr ⟨_, rfl⟩) (Or.inr ⟨_, rfl⟩) B hw hM.hz hM.hc0 hr hlk dJ7_copyOf_59c91_32
  · have hf := (if_pos c2).symm.trans hf
    cases hf
/-! jdk/internal/util/Preconditions.checkIndex(IILjava/util/function/BiFunction;)I -/
def f_J3_checkIndex_8e157_9 (z : Sh) (h : Hp) (v0 : Int32) (v1 : Int32) (v2 : Option Nat) : Option (Int32) :=
  none
def f_J3_checkIndex_8e157 (z : Sh) (h : Hp) (v0 : Int32) (v1 : Int32) (v2 : Option Nat) : Option (Int32) :=
  if v0 < 0 then
    f_J3_checkIndex_8e157_9 z h v0 v1 v2
  else
    if v0 < v1 then
      some v0
    else
      f_J3_checkIndex_8e157_9 z h v0 v1 v2
set_option maxHeartbeats 4000000 in
theorem w_J3_checkIndex_8e157_9 {p : Program} {l : Launch} {e : Env} {s : State} {m : MethodId} {args : Array Value} {below : List Frame} {meth : Method} {c : Code} {s0 : State} {E : Ev} {z : Sh} {h : Hp} {r : Int32} (G : Gl s0 E) (B : Bd p s0 s E m c cJ3_checkIndex_8e157 3 RJ3) (hz : s0.heap.size ≤ z.sz) (hc0 : s.heap.size + 0 = z.sz) (hr : meth.sig.returnType = (some .int)) (hlk : meth.locks = false) : ∀ (v0 : Int32) (v1 : Int32) (v2 : Option Nat) (H : Heap) (locs : List Loc) (ls : Array Slot), Pw s0 s E z h H locs → lv_has ls 3 [(0, .int v0), (1, .int v1), (2, va_rf v2)] → f_J3_checkIndex_8e157_9 z h v0 v1 v2 = some r → W p l e (rmO 0 0) s m args below meth c H locs 0 0 (Zt below s0 E z h (some (.int r)) args s 0 0) (F0 m 9 ls []) := by
  have hx := B.1
  have hb := B.2.1
  intro v0 v1 v2 H locs ls hw hl hf
  unfold f_J3_checkIndex_8e157_9 at hf
  cases hf
set_option maxHeartbeats 4000000 in
theorem c_J3_checkIndex_8e157 {l : Launch} {s0 : State} {E : Ev} (G : Gl s0 E) {z : Sh} {h : Hp} {v0 : Int32} {v1 : Int32} {v2 : Option Nat} {r : Int32} (hf : f_J3_checkIndex_8e157 z h v0 v1 v2 = some r) : Ct l s0 E yJ3_checkIndex_8e157 cJ3_checkIndex_8e157 3 (some .int) 0 0 [.int v0, .int v1, va_rf v2] z h h (some (.int r)) := by
  refine Ct.ofF G (by decide +kernel) (by cases v2 <;> exact Nat.le_of_ble_eq_true rfl) ?_
  intro p e s m below meth c ls B hw hz hc0 hr hlk hl
  have B : Bd p s0 s E m c cJ3_checkIndex_8e157 3 RJ3 := B
  have hx := B.1
  have hb := B.2.1
  have hl : lv_has ls 3 [(0, .int v0), (1, .int v1), (2, va_rf v2)] := hl
  unfold f_J3_checkIndex_8e157 at hf
  refine lv_iload_n hx hb dJ3_checkIndex_8e157_0 rfl (lv_at hl 0 rfl) ?_
  refine lv_if_lt (tgt := 9) hx hb dJ3_checkIndex_8e157_1 (by decide) (fun c1 => ?_) (fun c1 => ?_)
  · have hf := (if_pos c1).symm.trans hf
    exact w_J3_checkIndex_8e157_9 G B hz hc0 hr hlk  v0 v1 v2 _ _ _ hw (lv_sub hl [0, 1, 2] rfl) hf
  · have hf := (if_neg c1).symm.trans hf
    refine lv_iload_n hx hb dJ3_checkIndex_8e157_4 rfl (lv_at hl 0 rfl) ?_
    refine lv_iload_n hx hb dJ3_checkIndex_8e157_5 rfl (lv_at hl 1 rfl) ?_
    refine lv_icmp_lt (tgt := 16) hx hb dJ3_checkIndex_8e157_6 (by decide) (fun c2 => ?_) (fun c2 => ?_)
    · have hf := (if_pos c2).symm.trans hf
      refine lv_iload_n hx hb dJ3_checkIndex_8e157_16 rfl (lv_at hl 0 rfl) ?_
      obtain rfl := so hf
      exact q_iret B hw hz hc0 hr hlk dJ3_checkIndex_8e157_17
    · have hf := (if_neg c2).symm.trans hf
      exact w_J3_checkIndex_8e157_9 G B hz hc0 hr hlk  v0 v1 v2 _ _ _ hw (lv_sub hl [0, 1, 2] rfl) hf
/-! SecondLife.feed(IIIII)I -/
def f_X11_feed (n : Nat) (z : Sh) (h : Hp) (v0 : Nat) (v1 : Int32) (v2 : Int32) (v3 : Int32) (v4 : Int32) (v5 : Int32) : Option (Int32 × Hp) :=
  if z.K v0 = 11 then
    (gI z h 11 v0 1).bind fun x1 =>
    if (x1 + 20) ≤ 900 then
      (f_X11_tapeWord n z h v0 v1).bind fun h3 =>
      (f_X11_tapeWord n z h3 v0 v2).bind fun h4 =>
      (f_X11_tapeWord n z h4 v0 v3).bind fun h5 =>
      (f_X11_tapeWord n z h5 v0 v4).bind fun h6 =>
      (f_X11_tapeWord n z h6 v0 v5).bind fun h7 =>
      (gI z h7 11 v0 1).bind fun x8 =>
      some (x8, h7)
    else
      (f_X11_refused z h 5).bind fun x9 =>
      some (x9, h)
  else none
theorem k_X11_feed {n : Nat} {z : Sh} {h : Hp} {v0 : Nat} {v1 : Int32} {v2 : Int32} {v3 : Int32} {v4 : Int32} {v5 : Int32} {w : Int32 × Hp} (hf : f_X11_feed n z h v0 v1 v2 v3 v4 v5 = some w) : z.K v0 = 11 := by
  unfold f_X11_feed at hf
  exact (if_some hf).1
set_option maxHeartbeats 4000000 in
theorem c_X11_feed {l : Launch} {s0 : State} {E : Ev} (G : Gl s0 E) {n : Nat} {z : Sh} {h : Hp} {v0 : Nat} {v1 : Int32} {v2 : Int32} {v3 : Int32} {v4 : Int32} {v5 : Int32} {r : Int32} {h' : Hp} (hf : f_X11_feed n z h v0 v1 v2 v3 v4 v5 = some (r, h')) : Ct l s0 E yX11_feed cX11_feed 6 (some .int) 1 22 [.ref v0, .int v1, .int v2, .int v3, .int v4, .int v5] z h h' (some (.int r)) := by
  refine Ct.of G (by decide) (Nat.le_of_ble_eq_true rfl) ?_
  intro p e s m below meth c ls B hw hz hc0 hr hlk hl
  have B : Bd p s0 s E m c cX11_feed 6 RX11 := B
  have hx := B.1
  have hb := B.2.1
  have hl : lv_has ls 6 [(0, .ref v0), (1, .int v1), (2, .int v2), (3, .int v3), (4, .int v4), (5, .int v5)] := hl
  unfold f_X11_feed at hf
  obtain ⟨_, hf⟩ := if_some hf
  refine lv_aload_n hx hb dX11_feed_0 rfl (lv_at hl 0 rfl) ?_
  obtain ⟨x1, e, hf⟩ := ob hf
  refine q_getI e B hw fd_11_1.1 fd_11_1.2.1 fd_11_1.2.2.1 fd_11_1.2.2.2.1 fd_11_1.2.2.2.2 rfl tw_2_103 dX11_feed_1 ?_
  refine lv_bipush (v := 20) hx hb dX11_feed_4 (by decide) ?_
  refine lv_iadd hx hb dX11_feed_6 ?_
  refine lv_sipush (v := 900) hx hb dX11_feed_7 (by decide) ?_
  refine lv_icmp_le (tgt := 18) hx hb dX11_feed_10 (by decide) (fun c2 => ?_) (fun c2 => ?_)
  · have hf := (if_pos c2).symm.trans hf
    refine lv_aload_n hx hb dX11_feed_18 rfl (lv_at hl 0 rfl) ?_
    refine lv_iload_n hx hb dX11_feed_19 rfl (lv_at hl 1 rfl) ?_
    obtain ⟨h3, e, hf⟩ := ob hf
    refine q_callV (As := [.int v1]) (rest := []) (st1 := []) (c_X11_tapeWord G e) B hw hz hc0 (k_X11_tapeWord e) (by decide) (ci := 11) rfl rfl my_X11_tapeWord mv_X11_tapeWord tw_2_159 ⟨Nat.le_of_ble_eq_true rfl, Nat.le_of_ble_eq_true rfl⟩ ⟨Nat.zero_le _, Nat.zero_le _⟩ rfl hl.1 rfl rfl (Nat.le_of_ble_eq_true rfl) dX11_feed_20 (fun H locs hw => ?_)
    refine lv_aload_n hx hb dX11_feed_23 rfl (lv_at hl 0 rfl) ?_
    refine lv_iload_n hx hb dX11_feed_24 rfl (lv_at hl 2 rfl) ?_
    obtain ⟨h4, e, hf⟩ := ob hf
    refine q_callV (As := [.int v2]) (rest := []) (st1 := []) (c_X11_tapeWord G e) B hw hz hc0 (k_X11_tapeWord e) (by decide) (ci := 11) rfl rfl my_X11_tapeWord mv_X11_tapeWord tw_2_159 ⟨Nat.le_of_ble_eq_true rfl, Nat.le_of_ble_eq_true rfl⟩ ⟨Nat.zero_le _, Nat.zero_le _⟩ rfl hl.1 rfl rfl (Nat.le_of_ble_eq_true rfl) dX11_feed_25 (fun H locs hw => ?_)
    refine lv_aload_n hx hb dX11_feed_28 rfl (lv_at hl 0 rfl) ?_
    refine lv_iload_n hx hb dX11_feed_29 rfl (lv_at hl 3 rfl) ?_
    obtain ⟨h5, e, hf⟩ := ob hf
    refine q_callV (As := [.int v3]) (rest := []) (st1 := []) (c_X11_tapeWord G e) B hw hz hc0 (k_X11_tapeWord e) (by decide) (ci := 11) rfl rfl my_X11_tapeWord mv_X11_tapeWord tw_2_159 ⟨Nat.le_of_ble_eq_true rfl, Nat.le_of_ble_eq_true rfl⟩ ⟨Nat.zero_le _, Nat.zero_le _⟩ rfl hl.1 rfl rfl (Nat.le_of_ble_eq_true rfl) dX11_feed_30 (fun H locs hw => ?_)
    refine lv_aload_n hx hb dX11_feed_33 rfl (lv_at hl 0 rfl) ?_
    refine lv_iload hx hb dX11_feed_34 (lv_at hl 4 rfl) ?_
    obtain ⟨h6, e, hf⟩ := ob hf
    refine q_callV (As := [.int v4]) (rest := []) (st1 := []) (c_X11_tapeWord G e) B hw hz hc0 (k_X11_tapeWord e) (by decide) (ci := 11) rfl rfl my_X11_tapeWord mv_X11_tapeWord tw_2_159 ⟨Nat.le_of_ble_eq_true rfl, Nat.le_of_ble_eq_true rfl⟩ ⟨Nat.zero_le _, Nat.zero_le _⟩ rfl hl.1 rfl rfl (Nat.le_of_ble_eq_true rfl) dX11_feed_36 (fun H locs hw => ?_)
    refine lv_aload_n hx hb dX11_feed_39 rfl (lv_at hl 0 rfl) ?_
    refine lv_iload hx hb dX11_feed_40 (lv_at hl 5 rfl) ?_
    obtain ⟨h7, e, hf⟩ := ob hf
    refine q_callV (As := [.int v5]) (rest := []) (st1 := []) (c_X11_tapeWord G e) B hw hz hc0 (k_X11_tapeWord e) (by decide) (ci := 11) rfl rfl my_X11_tapeWord mv_X11_tapeWord tw_2_159 ⟨Nat.le_of_ble_eq_true rfl, Nat.le_of_ble_eq_true rfl⟩ ⟨Nat.zero_le _, Nat.zero_le _⟩ rfl hl.1 rfl rfl (Nat.le_of_ble_eq_true rfl) dX11_feed_42 (fun H locs hw => ?_)
    refine lv_aload_n hx hb dX11_feed_45 rfl (lv_at hl 0 rfl) ?_
    obtain ⟨x8, e, hf⟩ := ob hf
    refine q_getI e B hw fd_11_1.1 fd_11_1.2.1 fd_11_1.2.2.1 fd_11_1.2.2.2.1 fd_11_1.2.2.2.2 rfl tw_2_103 dX11_feed_46 ?_
    obtain ⟨rfl, rfl⟩ := so2 hf
    exact q_iret B hw hz hc0 hr hlk dX11_feed_49
  · have hf := (if_neg c2).symm.trans hf
    refine lv_iconst (v := 5) hx hb dX11_feed_13 (by decide) ?_
    obtain ⟨x9, e, hf⟩ := ob hf
    refine q_callS (As := [.int 5]) (rest := []) (st1 := [.int x9]) (c_X11_refused G e) B hw hz hc0 my_X11_refused mv_X11_refused tw_2_155 ⟨Nat.le_of_ble_eq_true rfl, Nat.le_of_ble_eq_true rfl⟩ ⟨Nat.zero_le _, Nat.zero_le _⟩ rfl hl.1 rfl rfl (Nat.le_of_ble_eq_true rfl) dX11_feed_14 (fun H locs hw => ?_)
    obtain ⟨rfl, rfl⟩ := so2 hf
    exact q_iret B hw hz hc0 hr hlk dX11_feed_17
/-! SecondLife.person(II)I -/
def f_X11_person_21 (z : Sh) (h : Hp) : Option (Int32) :=
  (f_X11_refused z h 2).bind fun x1 =>
  some x1
def f_X11_person (z : Sh) (h : Hp) (v0 : Nat) (v1 : Int32) (v2 : Int32) : Option (Int32) :=
  if z.K v0 = 11 then
    (gR z h 11 v0 4).bind fun a1 =>
    (f_X5_has z h a1 v1).bind fun x2 =>
    if x2 = 0 then
      f_X11_person_21 z h
    else
      if v2 < 0 then
        f_X11_person_21 z h
      else
        if v2 < 9 then
          (gR z h 11 v0 4).bind fun a6 =>
          (f_X5_part z h a6 v1 v2).bind fun x7 =>
          some x7
        else
          f_X11_person_21 z h
  else none
theorem k_X11_person {z : Sh} {h : Hp} {v0 : Nat} {v1 : Int32} {v2 : Int32} {w : Int32} (hf : f_X11_person z h v0 v1 v2 = some w) : z.K v0 = 11 := by
  unfold f_X11_person at hf
  exact (if_some hf).1
set_option maxHeartbeats 4000000 in
theorem w_X11_person_21 {p : Program} {l : Launch} {e : Env} {s : State} {m : MethodId} {args : Array Value} {below : List Frame} {meth : Method} {c : Code} {s0 : State} {E : Ev} {z : Sh} {h : Hp} {r : Int32} (G : Gl s0 E) (B : Bd p s0 s E m c cX11_person 3 RX11) (hz : s0.heap.size ≤ z.sz) (hc0 : s.heap.size + 0 = z.sz) (hr : meth.sig.returnType = (some .int)) (hlk : meth.locks = false) : ∀ (H : Heap) (locs : List Loc) (ls : Array Slot), Pw s0 s E z h H locs → lv_has ls 3 [] → f_X11_person_21 z h = some r → W p l e (rmO 1 23) s m args below meth c H locs 0 0 (Zt below s0 E z h (some (.int r)) args s 0 0) (F0 m 21 ls []) := by
  have hx := B.1
  have hb := B.2.1
  intro  H locs ls hw hl hf
  unfold f_X11_person_21 at hf
  refine lv_iconst (v := 2) hx hb dX11_person_21 (by decide) ?_
  obtain ⟨x1, e, hf⟩ := ob hf
  refine q_callS (As := [.int 2]) (rest := []) (st1 := [.int x1]) (c_X11_refused G e) B hw hz hc0 my_X11_refused mv_X11_refused tw_2_155 ⟨Nat.le_of_ble_eq_true rfl, Nat.le_of_ble_eq_true rfl⟩ ⟨Nat.zero_le _, Nat.zero_le _⟩ rfl hl.1 rfl rfl (Nat.le_of_ble_eq_true rfl) dX11_person_22 (fun H locs hw => ?_)
  obtain rfl := so hf
  exact q_iret B hw hz hc0 hr hlk dX11_person_25
set_option maxHeartbeats 4000000 in
theorem c_X11_person {l : Launch} {s0 : State} {E : Ev} (G : Gl s0 E) {z : Sh} {h : Hp} {v0 : Nat} {v1 : Int32} {v2 : Int32} {r : Int32} (hf : f_X11_person z h v0 v1 v2 = some r) : Ct l s0 E yX11_person cX11_person 3 (some .int) 1 23 [.ref v0, .int v1, .int v2] z h h (some (.int r)) := by
  refine Ct.of G (by decide) (Nat.le_of_ble_eq_true rfl) ?_
  intro p e s m below meth c ls B hw hz hc0 hr hlk hl
  have B : Bd p s0 s E m c cX11_person 3 RX11 := B
  have hx := B.1
  have hb := B.2.1
  have hl : lv_has ls 3 [(0, .ref v0), (1, .int v1), (2, .int v2)] := hl
  unfold f_X11_person at hf
  obtain ⟨_, hf⟩ := if_some hf
  refine lv_aload_n hx hb dX11_person_0 rfl (lv_at hl 0 rfl) ?_
  obtain ⟨a1, e, hf⟩ := ob hf
  refine q_getR e B hw fd_11_4.1 fd_11_4.2.1 fd_11_4.2.2.1 fd_11_4.2.2.2.1 fd_11_4.2.2.2.2 rfl tw_2_106 dX11_person_1 ?_
  refine lv_iload_n hx hb dX11_person_4 rfl (lv_at hl 1 rfl) ?_
  obtain ⟨x2, e, hf⟩ := ob hf
  refine q_callVN (As := [.int v1]) (rest := []) (st1 := [.int x2]) (c_X5_has G e) B hw hz hc0 (k_X5_has e) (by decide) (ci := 5) rfl rfl my_X5_has mv_X5_has tw_3_210 ⟨Nat.le_of_ble_eq_true rfl, Nat.le_of_ble_eq_true rfl⟩ ⟨Nat.zero_le _, Nat.zero_le _⟩ rfl hl.1 rfl rfl (Nat.le_of_ble_eq_true rfl) dX11_person_5 (fun H locs hw => ?_)
  refine lv_if_eq (tgt := 21) hx hb dX11_person_8 (by decide) (fun c3 => ?_) (fun c3 => ?_)
  · have hf := (if_pos c3).symm.trans hf
    exact w_X11_person_21 G B hz hc0 hr hlk   _ _ _ hw (lv_sub hl [] rfl) hf
  · have hf := (if_neg c3).symm.trans hf
    refine lv_iload_n hx hb dX11_person_11 rfl (lv_at hl 2 rfl) ?_
    refine lv_if_lt (tgt := 21) hx hb dX11_person_12 (by decide) (fun c4 => ?_) (fun c4 => ?_)
    · have hf := (if_pos c4).symm.trans hf
      exact w_X11_person_21 G B hz hc0 hr hlk   _ _ _ hw (lv_sub hl [] rfl) hf
    · have hf := (if_neg c4).symm.trans hf
      refine lv_iload_n hx hb dX11_person_15 rfl (lv_at hl 2 rfl) ?_
      refine lv_bipush (v := 9) hx hb dX11_person_16 (by decide) ?_
      refine lv_icmp_lt (tgt := 26) hx hb dX11_person_18 (by decide) (fun c5 => ?_) (fun c5 => ?_)
      · have hf := (if_pos c5).symm.trans hf
        refine lv_aload_n hx hb dX11_person_26 rfl (lv_at hl 0 rfl) ?_
        obtain ⟨a6, e, hf⟩ := ob hf
        refine q_getR e B hw fd_11_4.1 fd_11_4.2.1 fd_11_4.2.2.1 fd_11_4.2.2.2.1 fd_11_4.2.2.2.2 rfl tw_2_106 dX11_person_27 ?_
        refine lv_iload_n hx hb dX11_person_30 rfl (lv_at hl 1 rfl) ?_
        refine lv_iload_n hx hb dX11_person_31 rfl (lv_at hl 2 rfl) ?_
        obtain ⟨x7, e, hf⟩ := ob hf
        refine q_callVN (As := [.int v1, .int v2]) (rest := []) (st1 := [.int x7]) (c_X5_part G e) B hw hz hc0 (k_X5_part e) (by decide) (ci := 5) rfl rfl my_X5_part mv_X5_part tw_3_214 ⟨Nat.le_of_ble_eq_true rfl, Nat.le_of_ble_eq_true rfl⟩ ⟨Nat.zero_le _, Nat.zero_le _⟩ rfl hl.1 rfl rfl (Nat.le_of_ble_eq_true rfl) dX11_person_32 (fun H locs hw => ?_)
        obtain rfl := so hf
        exact q_iret B hw hz hc0 hr hlk dX11_person_35
      · have hf := (if_neg c5).symm.trans hf
        exact w_X11_person_21 G B hz hc0 hr hlk   _ _ _ hw (lv_sub hl [] rfl) hf
